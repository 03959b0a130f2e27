section
variable {A : Nat → Nat} {M M' : Mm} {B : Nat} {rs rs2 : Nat → List Nat} {ow ow2 : Nat → Nat → Nat} {th : Nat → Bool} {ps : Nat → Nat → Int32} {fe fl pe pl : Nat} {Cc Zz : Nat}
theorem SD.svy {I : Nat → Prop} (h : SD A M B rs ow th ps fe fl pe pl) (c : Ch (In A I) M M') (hI : ∀ i, I i → i = 14 ∨ i = 15 ∨ i = 16 ∨ i = 17) : SD A M' B rs ow th ps fe fl pe pl :=
  h.go c (fun i z => by have := hI i z; omega) (h.2.2.2.2.go h.sh c (fun i z => by have := hI i z; omega))
theorem a_shells {Q : Int32 → Mm → Prop} (h : SD A M B rs ow th ps fe fl pe pl) (q : ∀ M', SD A M' B rs ow th ps fe fl pe pl → Q (nI (shC rs ow fe).1) M') : T_X8_shells M (A 0) Q := by
  unfold T_X8_shells
  exact ⟨h.sh.k 0, A 14, h.sh.r 0 2 14, h.sh.k 14, t_shells h (fun M2 c2 => q M2 (h.svy c2 (fun i z => by omega)))⟩
theorem shC_fl (h : SD A M B rs ow th ps fe fl pe pl) (g : Gd rs ow th ps fe fl pe pl) : (shC rs ow fe).1 ≤ fl := by
  have h1 := shC_le rs ow fe
  have h2 : sumN (fun f => if rs f = [] then 0 else 1) fe ≤ sumN (fun f => if rs f = [] then 0 else 1) 160 := sumN_mono h.2.1.2.2.1
  have h3 : fl = sumN (fun f => if rs f = [] then 0 else 1) 160 := g.2.2.2.1
  omega
theorem a_steps {a b : Nat} {Q : Int32 → Mm → Prop} {X : String → Mm → Prop} (h : SD A M B rs ow th ps fe fl pe pl) (g : Gd rs ow th ps fe fl pe pl) (he : ow a b ≠ 0 ∨ ow b a ≠ 0) (hc : 2 ≤ Cc) (hz : 12 ≤ Zz) (q : ∀ M', SD A M' B rs ow th ps fe fl pe pl → Q 1 M') : T_X8_steps Cc Zz M (A 0) (nI a) (nI b) Q X := by
  unfold T_X8_steps
  have ta : th a = true ∧ th b = true ∧ a ≠ b := by
    rcases he with z | z
    · exact g.half z
    · exact ⟨(g.half z).2.1, (g.half z).1, fun y => (g.half z).2.2 y.symm⟩
  have ha := g.lt h ta.1
  have hb := g.lt h ta.2.1
  refine ⟨2, 12, ⟨by omega, by omega⟩, h.sh.k 0, n_pts h (by omega) (by omega) (fun a2 b2 ha2 hb2 ea eb _ _ => ?_) (fun n => absurd ⟨a, b, ha, hb, rfl, rfl, ta.1, ta.2.1⟩ n)⟩
  exact ⟨h.sh.k 0, A 14, h.sh.r 0 2 14, ⟨by omega, by omega⟩, h.sh.k 14, t_way h ha hb ta.2.2 he (fun M2 c2 => ⟨by omega, by omega, q M2 (h.svy c2 (fun i z => by omega))⟩)⟩
end
section
variable {A : Nat → Nat} {M M' : Mm} {B : Nat} {rs rs2 : Nat → List Nat} {ow ow2 : Nat → Nat → Nat} {th : Nat → Bool} {ps : Nat → Nat → Int32} {fe fl pe pl : Nat} {Cc Zz : Nat}
def faN (ow : Nat → Nat → Nat) (p k : Nat) : Nat := sumN (fun q => if ow p q = 0 then 0 else 1) k
def opN (ow : Nat → Nat → Nat) (p k : Nat) : Nat := sumN (fun q => if opn ow p q then 1 else 0) k
theorem t_facesAt {p : Nat} {Q : Int32 → Prop} (h : SD A M B rs ow th ps fe fl pe pl) (hp : p < 100) (q : Q (nI (faN ow p 100))) : T_X7_facesAt M (A 14) (nI p) Q := by
  unfold T_X7_facesAt
  intro K hK
  have key : ∀ d k, k + d = 100 → K (A 14) (nI p) (nI (faN ow p k)) (nI k) := by
    intro d
    induction d with
    | zero =>
      intro k hk
      have : k = 100 := by omega
      subst this
      exact hK _ _ _ _ ⟨fun _ => q, fun z => absurd (by decide) z⟩
    | succ d ih =>
      intro k hk
      have hO := (h.1.2.2.2.1 p k hp (by omega)).2
      have st : faN ow p (k + 1) = faN ow p k + (if ow p k = 0 then 0 else 1) := rfl
      have nx := ih (k + 1) (by omega)
      refine hK _ _ _ _ ⟨fun z => absurd z (show ¬ nI 100 ≤ nI k from nI_ge (by omega) (by omega)), fun _ => ⟨h.sh.k 14, A 7, h.sh.r 14 0 7, h.sh.k 7, t_owner h.1 hp (by omega) ⟨fun z => ?_, fun z => ?_⟩⟩⟩
      · rw [st, if_pos ((oi_none (by omega)).mp z)] at nx
        rw [nI_1, Int32.add_zero]
        exact nx
      · rw [st, if_neg (fun y => z ((oi_none (by omega)).mpr y))] at nx
        rw [nI_1, nI_1]
        exact nx
  have := key 100 0 (by omega)
  rw [nI_0, show nI (faN ow p 0) = 0 from nI_0] at this
  exact this
theorem t_openFrom {p : Nat} {Q : Int32 → Prop} (h : SD A M B rs ow th ps fe fl pe pl) (hp : p < 100) (q : Q (nI (opN ow p 100))) : T_X7_openFrom M (A 14) (nI p) Q := by
  unfold T_X7_openFrom
  intro K hK
  have key : ∀ d k, k + d = 100 → K (A 14) (nI p) (nI (opN ow p k)) (nI k) := by
    intro d
    induction d with
    | zero =>
      intro k hk
      have : k = 100 := by omega
      subst this
      exact hK _ _ _ _ ⟨fun _ => q, fun z => absurd (by decide) z⟩
    | succ d ih =>
      intro k hk
      have st : opN ow p (k + 1) = opN ow p k + (if opn ow p k then 1 else 0) := rfl
      have nx := ih (k + 1) (by omega)
      refine hK _ _ _ _ ⟨fun z => absurd z (show ¬ nI 100 ≤ nI k from nI_ge (by omega) (by omega)), fun _ => ⟨h.sh.k 14, A 7, h.sh.r 14 0 7, h.sh.k 7, t_isOpen h.1 hp (by omega) (fun o1 o2 => ⟨fun z => absurd z (by decide), fun _ => ?_⟩) (fun no => ⟨fun _ => ?_, fun z => absurd rfl z⟩)⟩⟩
      · rw [st, if_pos ⟨o1, o2⟩] at nx
        rw [nI_1, nI_1]
        exact nx
      · rw [st, if_neg no] at nx
        rw [nI_1, Int32.add_zero]
        exact nx
  have := key 100 0 (by omega)
  rw [nI_0, show nI (opN ow p 0) = 0 from nI_0] at this
  exact this
end
