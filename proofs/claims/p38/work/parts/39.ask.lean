section
variable {A : Nat → Nat} {M M' : Mm} {B : Nat} {rs rs2 : Nat → List Nat} {ow ow2 : Nat → Nat → Nat} {th : Nat → Bool} {ps : Nat → Nat → Int32} {fe fl pe pl : Nat} {Cc Zz : Nat}
theorem SD.svy {I : Nat → Prop} (h : SD A M B rs ow th ps fe fl pe pl) (c : Ch (In A I) M M') (hI : ∀ i, I i → i = 14 ∨ i = 15 ∨ i = 16 ∨ i = 17) : SD A M' B rs ow th ps fe fl pe pl :=
  h.go c (fun i z => by have := hI i z; omega) (h.2.2.2.2.go h.sh c (fun i z => by have := hI i z; omega))
theorem a_shells {Q : Int32 → Mm → Prop} (h : SD A M B rs ow th ps fe fl pe pl) (q : ∀ M', SD A M' B rs ow th ps fe fl pe pl → Q (nI (shC rs ow fe).1) M') : T_X8_shells M (A 0) Q := by
  unfold T_X8_shells
  exact ⟨h.sh.k 0, A 14, h.sh.r 0 2 14, h.sh.k 14, t_shells h (fun M2 c2 => q M2 (h.svy c2 (fun i z => by omega)))⟩
theorem shC_fl (h : SD A M B rs ow th ps fe fl pe pl) (g : Gd rs ow th ps fe fl pe pl) : (shC rs ow fe).1 ≤ fl := by
  have h1 := shC_le rs ow fe
  have h2 : sumN (fun f => if rs f = [] then 0 else 1) fe ≤ sumN (fun f => if rs f = [] then 0 else 1) 160 := sumN_mono h.2.1.2.2.1
  have h3 : fl = sumN (fun f => if rs f = [] then 0 else 1) 160 := g.2.2.2.1
  omega
theorem a_steps {a b : Nat} {Q : Int32 → Mm → Prop} {X : String → Mm → Prop} (h : SD A M B rs ow th ps fe fl pe pl) (g : Gd rs ow th ps fe fl pe pl) (he : ow a b ≠ 0 ∨ ow b a ≠ 0) (hc : 2 ≤ Cc) (hz : 12 ≤ Zz) (q : ∀ M', SD A M' B rs ow th ps fe fl pe pl → Q 1 M') : T_X8_steps Cc Zz M (A 0) (nI a) (nI b) Q X := by
  unfold T_X8_steps
  have ta : th a = true ∧ th b = true ∧ a ≠ b := by
    rcases he with z | z
    · exact g.half z
    · exact ⟨(g.half z).2.1, (g.half z).1, fun y => (g.half z).2.2 y.symm⟩
  have ha := g.lt h ta.1
  have hb := g.lt h ta.2.1
  refine ⟨2, 12, ⟨by omega, by omega⟩, h.sh.k 0, n_pts h (by omega) (by omega) (fun a2 b2 ha2 hb2 ea eb _ _ => ?_) (fun n => absurd ⟨a, b, ha, hb, rfl, rfl, ta.1, ta.2.1⟩ n)⟩
  exact ⟨h.sh.k 0, A 14, h.sh.r 0 2 14, ⟨by omega, by omega⟩, h.sh.k 14, t_way h ha hb ta.2.2 he (fun M2 c2 => ⟨by omega, by omega, q M2 (h.svy c2 (fun i z => by omega))⟩)⟩
end
