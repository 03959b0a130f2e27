section
variable {A : Nat → Nat} {M M' : Mm} {B : Nat} {rs rs2 : Nat → List Nat} {ow ow2 : Nat → Nat → Nat} {th : Nat → Bool} {ps : Nat → Nat → Int32} {fe fl pe pl : Nat} {Cc Zz : Nat}
abbrev CeI (l : Nat) : Prop := l = 1 ∨ l = 3 ∨ l = 4 ∨ l = 5 ∨ l = 6 ∨ l = 23
/-- the centres of the faces below k: numbers from p on, c of them -/
def CenI (A : Nat → Nat) (M : Mm) (rs : Nat → List Nat) (p c k : Nat) (cen : Nat → Nat) : Prop :=
  (∀ f, f < k → rs f ≠ [] → p ≤ cen f ∧ cen f < p + c ∧ iM M (A 23) f = nI (cen f)) ∧ ∀ f f2, f < k → f2 < k → rs f ≠ [] → rs f2 ≠ [] → cen f = cen f2 → f = f2
theorem a_centres {Q : Mm → Prop} (h : SD A M B rs ow th ps fe fl pe pl) (g : Gd rs ow th ps fe fl pe pl) (hroom : pe + fl ≤ 100) (q : ∀ M' th' ps' cen, Ch (In A CeI) M M' → SD A M' B rs ow th' ps' fe fl (pe + fl) (pl + fl) → Gd rs ow th' ps' fe fl (pe + fl) (pl + fl) → (∀ p, th p = true → th' p = true) → (∀ j, j < fl → th' (pe + j) = true) → CenI A M' rs pe fl 160 cen → Q M') : T_X4_addCentres M (A 21) Q := by
  unfold T_X4_addCentres
  intro K hK
  have e160 : (160 : Int32) = nI 160 := rfl
  have hfl := g.2.2.2.1
  have cnt : ∀ k, sumN (fun f => if rs f = [] then 0 else 1) (k + 1) = sumN (fun f => if rs f = [] then 0 else 1) k + (if rs k = [] then 0 else 1) := fun _ => rfl
  have key : ∀ d k M2 c th2 ps2 cen, k + d = 160 → c = sumN (fun f => if rs f = [] then 0 else 1) k → Ch (In A CeI) M M2 → SD A M2 B rs ow th2 ps2 fe fl (pe + c) (pl + c) → Gd rs ow th2 ps2 fe fl (pe + c) (pl + c) → (∀ p, th p = true → th2 p = true) → (∀ j, j < c → th2 (pe + j) = true) → CenI A M2 rs pe c k cen → K (A 21) (nI k) M2 := by
    intro d
    induction d with
    | zero =>
      intro k M2 c th2 ps2 cen hk hc c2 s2 g2 m2 t2 i2
      have : k = 160 := by omega
      subst this
      have : c = fl := by rw [hc, hfl]; rfl
      subst this
      exact hK _ _ _ ⟨fun _ => q M2 th2 ps2 cen c2 s2 g2 m2 t2 i2, fun z => absurd (by decide) z⟩
    | succ d ih =>
      intro k M2 c th2 ps2 cen hk hc c2 s2 g2 m2 t2 i2
      have hk160 : k < 160 := by omega
      refine hK _ _ _ ⟨fun z => absurd z (by rw [e160]; exact nI_ge hk160 (by omega)), fun _ => ⟨s2.sh.k 21, A 7, s2.sh.r 21 1 7, s2.sh.k 7, t_has s2.1 (fun f2 hf2 e2 ne => ⟨fun z => absurd z (by decide), fun _ => ?_⟩) (fun n => ⟨fun _ => ?_, fun z => absurd rfl z⟩)⟩⟩
      · have : k = f2 := (nI_eq (by omega) (by omega)).mp e2
        subst this
        have hcl : c + 1 ≤ fl := by
          have a1 : sumN (fun f => if rs f = [] then 0 else 1) (k + 1) ≤ sumN (fun f => if rs f = [] then 0 else 1) 160 := sumN_mono (by omega)
          rw [cnt, if_neg ne] at a1
          have : fl = sumN (fun f => if rs f = [] then 0 else 1) 160 := hfl
          omega
        refine ⟨s2.sh.k 21, A 23, s2.sh.r 21 3 23, s2.sh.k 21, A 1, s2.sh.r 21 0 1, s2.sh.k 21, A 7, s2.sh.r 21 1 7, s2.sh.k 7, t_ring s2.1 hk160 ⟨s2.sh.k 1, a_addCentre s2 g2 hk160 ne (by omega) (fun M3 x y z c3 s3 g3 => ?_)⟩⟩
        refine ⟨160, s3.sh.k 23, vp_in_nI hk160 (by omega), ?_⟩
        rw [nI_1, nI_clamp (by omega)]
        have c4 : Ch (In A (fun l => l = 23)) M3 (wI M3 (A 23) k (nI (pe + c))) := Ch.one (by omega)
        have s4 := s3.go c4 (fun i z => by omega) (s3.2.2.2.2.go s3.sh c4 (fun i z => by omega))
        have i3 : ∀ j, iM M3 (A 23) j = iM M2 (A 23) j := fun j => c3.at s2.sh (by omega) (by omega) j
        refine ih (k + 1) _ (c + 1) _ _ (fun f => if f = k then pe + c else cen f) (by omega) (by rw [cnt, if_neg ne]; omega) (c2.t ((c3.wide (fun i z => by omega)).t (c4.wide (fun i z => by omega)))) s4 g3 (fun p hp => up_th (m2 p hp)) (fun j hj => ?_) ⟨fun f hf hne => ?_, fun f f3 hf hf3 hne hne3 e => ?_⟩
        · by_cases w : j < c
          · exact up_th (t2 j w)
          · rw [show j = c by omega]
            exact up_me
        · by_cases w : f = k
          · subst w
            dsimp only
            rw [if_pos rfl, iM_wI, if_pos ⟨rfl, rfl⟩]
            exact ⟨by omega, by omega, rfl⟩
          · dsimp only
            rw [if_neg w, iM_wI, if_neg (fun y => w y.2), i3]
            obtain ⟨j1, j2, j3⟩ := i2.1 f (by omega) hne
            exact ⟨j1, by omega, j3⟩
        · have e : (if f = k then pe + c else cen f) = if f3 = k then pe + c else cen f3 := e
          by_cases w : f = k
          · by_cases w3 : f3 = k
            · omega
            · rw [if_pos w, if_neg w3] at e
              have := (i2.1 f3 (by omega) hne3).2.1
              omega
          · by_cases w3 : f3 = k
            · rw [if_neg w, if_pos w3] at e
              have := (i2.1 f (by omega) hne).2.1
              omega
            · rw [if_neg w, if_neg w3] at e
              exact i2.2 f f3 (by omega) (by omega) hne hne3 e
      · have e0 : rs k = [] := n k hk160 rfl
        rw [nI_1]
        refine ih (k + 1) M2 c th2 ps2 cen (by omega) (by rw [cnt, if_pos e0]; omega) c2 s2 g2 m2 t2 ⟨fun f hf hne => i2.1 f ?_ hne, fun f f3 hf hf3 hne hne3 => i2.2 f f3 ?_ ?_ hne hne3⟩
        · exact Classical.byContradiction (fun w => hne (by rw [show f = k by omega]; exact e0))
        · exact Classical.byContradiction (fun w => hne (by rw [show f = k by omega]; exact e0))
        · exact Classical.byContradiction (fun w => hne3 (by rw [show f3 = k by omega]; exact e0))
  have := key 160 0 M 0 th ps (fun _ => 0) (by omega) rfl Ch.rf h g (fun p e => e) (fun j hj => absurd hj (Nat.not_lt_zero _)) ⟨fun f hf => absurd hf (Nat.not_lt_zero _), fun f f3 hf => absurd hf (Nat.not_lt_zero _)⟩
  rw [nI_0] at this
  exact this
/-- middles as a function of both ends, in either order -/
def EM (ow : Nat → Nat → Nat) (p E : Nat) (mid : Nat → Nat → Nat) : Prop :=
  (∀ a b, edg ow a b → a ≠ b → p ≤ mid a b ∧ mid a b < p + E ∧ mid b a = mid a b) ∧ ∀ a b c d, edg ow a b → edg ow c d → a ≠ b → c ≠ d → mid a b = mid c d → (a = c ∧ b = d) ∨ (a = d ∧ b = c)
theorem edg_sym {a b : Nat} (h : edg ow a b) : edg ow b a := Or.symm h
theorem mid_em {p E : Nat} {mid : Nat → Nat → Nat} (h : MidI A M p E (fun x y => x < y ∧ edg ow x y) mid) : EM ow p E mid ∧ ∀ a b, edg ow a b → a ≠ b → iM M (A 22) (a * 100 + b) = nI (mid a b) := by
  have half : ∀ a b, edg ow a b → a ≠ b → p ≤ mid a b ∧ mid a b < p + E ∧ mid b a = mid a b ∧ iM M (A 22) (a * 100 + b) = nI (mid a b) := fun a b e n => by
    rcases Nat.lt_or_ge a b with z | z
    · obtain ⟨j1, j2, j3, j4, _⟩ := h.1 a b ⟨z, e⟩
      exact ⟨j1, j2, j3, j4⟩
    · obtain ⟨j1, j2, j3, _, j5⟩ := h.1 b a ⟨by omega, edg_sym e⟩
      rw [← j3] at j1 j2 j5
      exact ⟨j1, j2, j3.symm, j5⟩
  refine ⟨⟨fun a b e n => ⟨(half a b e n).1, (half a b e n).2.1, (half a b e n).2.2.1⟩, fun a b c d e1 e2 n1 n2 e => ?_⟩, fun a b e n => (half a b e n).2.2.2⟩
  have s1 := (half a b e1 n1).2.2.1
  have s2 := (half c d e2 n2).2.2.1
  rcases Nat.lt_or_ge a b with z | z
  · rcases Nat.lt_or_ge c d with y | y
    · exact Or.inl (h.2 a b c d ⟨z, e1⟩ ⟨y, e2⟩ e)
    · have := h.2 a b d c ⟨z, e1⟩ ⟨by omega, edg_sym e2⟩ (by omega)
      exact Or.inr this
  · rcases Nat.lt_or_ge c d with y | y
    · have := h.2 b a c d ⟨by omega, edg_sym e1⟩ ⟨y, e2⟩ (by omega)
      exact Or.inr ⟨this.2, this.1⟩
    · have := h.2 b a d c ⟨by omega, edg_sym e1⟩ ⟨by omega, edg_sym e2⟩ (by omega)
      exact Or.inl ⟨this.2, this.1⟩
/-- the halves of one quarter -/
def qH (rs : Nat → List Nat) (mid : Nat → Nat → Nat) (cen : Nat → Nat) (f i u v : Nat) : Prop :=
  (u = gn (rs f) i ∧ v = mid (gn (rs f) i) (gn (rs f) (i + 1))) ∨ (u = mid (gn (rs f) i) (gn (rs f) (i + 1)) ∧ v = cen f) ∨ (u = cen f ∧ v = mid (gn (rs f) (i + (rs f).length - 1)) (gn (rs f) i)) ∨ (u = mid (gn (rs f) (i + (rs f).length - 1)) (gn (rs f) i) ∧ v = gn (rs f) i)
end
section
variable {A : Nat → Nat} {M M' : Mm} {B : Nat} {rs rs2 : Nat → List Nat} {ow ow2 : Nat → Nat → Nat} {th : Nat → Bool} {ps : Nat → Nat → Int32} {fe fl pe pl : Nat} {Cc Zz : Nat}
theorem ring_edge (g : Gd rs ow th ps fe fl pe pl) {f : Nat} (hf : f < 160) (hn : 0 < (rs f).length) (p : Nat) : ow (gn (rs f) p) (gn (rs f) (p + 1)) = f + 1 ∧ gn (rs f) p ≠ gn (rs f) (p + 1) := by
  have e := (g.1.1 _ _ f).mpr ⟨hf, hv_any hn p⟩
  exact ⟨e, (g.half (by rw [e]; omega)).2.2⟩
/-- two quarters have no half in common -/
theorem quart_one (g : Gd rs ow th ps fe fl pe pl) {E F : Nat} {mid : Nat → Nat → Nat} {cen : Nat → Nat} (hm : EM ow pe E mid) (hc : ∀ f, f < 160 → rs f ≠ [] → pe + E ≤ cen f ∧ cen f < pe + E + F) (hci : ∀ f f2, f < 160 → f2 < 160 → rs f ≠ [] → rs f2 ≠ [] → cen f = cen f2 → f = f2) {f f2 i j u v : Nat} (hf : f < 160) (hf2 : f2 < 160) (hi : i < (rs f).length) (hj : j < (rs f2).length) (h1 : qH rs mid cen f i u v) (h2 : qH rs mid cen f2 j u v) : f = f2 ∧ i = j := by
  have ne : ∀ {k l : Nat}, l < (rs k).length → rs k ≠ [] := fun hl z => by rw [z] at hl; exact absurd hl (Nat.not_lt_zero _)
  have old : ∀ k p, 0 < (rs k).length → gn (rs k) p < pe := fun k p hl => by
    have := g.2.2.2.2.2.2.1 k _ (gn_mem (p := p) hl)
    refine Classical.byContradiction (fun y => ?_)
    rw [g.2.2.2.2.2.1 _ (by omega)] at this
    cases this
  have e1 := ring_edge g hf (by omega) i
  have e2 := ring_edge g hf2 (by omega) j
  have d1 := ring_edge g hf (by omega) (i + (rs f).length - 1)
  have d2 := ring_edge g hf2 (by omega) (j + (rs f2).length - 1)
  rw [show i + (rs f).length - 1 + 1 = i + (rs f).length by omega, gn_add] at d1
  rw [show j + (rs f2).length - 1 + 1 = j + (rs f2).length by omega, gn_add] at d2
  have o1 := old f i (by omega)
  have o2 := old f2 j (by omega)
  have c1 := hc f hf (ne hi)
  have c2 := hc f2 hf2 (ne hj)
  have m1 := hm.1 _ _ (Or.inl (by rw [e1.1]; omega)) e1.2
  have m2 := hm.1 _ _ (Or.inl (by rw [e2.1]; omega)) e2.2
  have m3 := hm.1 _ _ (Or.inl (by rw [d1.1]; omega)) d1.2
  have m4 := hm.1 _ _ (Or.inl (by rw [d2.1]; omega)) d2.2
  have same : f = f2 → gn (rs f) i = gn (rs f2) j → f = f2 ∧ i = j := fun x y => by
    subst x
    exact ⟨rfl, g.1.2 f i j hf hi hj y⟩
  rcases h1 with ⟨a1, a2⟩ | ⟨a1, a2⟩ | ⟨a1, a2⟩ | ⟨a1, a2⟩
  · rcases h2 with ⟨b1, b2⟩ | ⟨b1, b2⟩ | ⟨b1, b2⟩ | ⟨b1, b2⟩
    · have em := hm.2 _ _ _ _ (Or.inl (by rw [e1.1]; omega)) (Or.inl (by rw [e2.1]; omega)) e1.2 e2.2 (a2.symm.trans b2)
      have pq : gn (rs f) i = gn (rs f2) j := a1.symm.trans b1
      have pq2 : gn (rs f) (i + 1) = gn (rs f2) (j + 1) := by
        rcases em with z | z
        · exact z.2
        · exact absurd (z.1.symm.trans pq).symm e2.2
      have := e1.1
      rw [pq, pq2, e2.1] at this
      exact same (by omega) pq
    · omega
    · omega
    · omega
  · rcases h2 with ⟨b1, b2⟩ | ⟨b1, b2⟩ | ⟨b1, b2⟩ | ⟨b1, b2⟩
    · omega
    · have ff := hci f f2 hf hf2 (ne hi) (ne hj) (a2.symm.trans b2)
      have em := hm.2 _ _ _ _ (Or.inl (by rw [e1.1]; omega)) (Or.inl (by rw [e2.1]; omega)) e1.2 e2.2 (a1.symm.trans b1)
      rcases em with z | z
      · exact same ff z.1
      · subst ff
        refine (two_faces g e1.1 ?_).elim
        rw [z.1, z.2]
        exact e2.1
    · omega
    · omega
  · rcases h2 with ⟨b1, b2⟩ | ⟨b1, b2⟩ | ⟨b1, b2⟩ | ⟨b1, b2⟩
    · omega
    · omega
    · have ff := hci f f2 hf hf2 (ne hi) (ne hj) (a1.symm.trans b1)
      have em := hm.2 _ _ _ _ (Or.inl (by rw [d1.1]; omega)) (Or.inl (by rw [d2.1]; omega)) d1.2 d2.2 (a2.symm.trans b2)
      rcases em with z | z
      · exact same ff z.2
      · subst ff
        refine (two_faces g d1.1 ?_).elim
        rw [z.1, z.2]
        exact d2.1
    · omega
  · rcases h2 with ⟨b1, b2⟩ | ⟨b1, b2⟩ | ⟨b1, b2⟩ | ⟨b1, b2⟩
    · omega
    · omega
    · omega
    · have em := hm.2 _ _ _ _ (Or.inl (by rw [d1.1]; omega)) (Or.inl (by rw [d2.1]; omega)) d1.2 d2.2 (a1.symm.trans b1)
      have pq : gn (rs f) i = gn (rs f2) j := a2.symm.trans b2
      have pq2 : gn (rs f) (i + (rs f).length - 1) = gn (rs f2) (j + (rs f2).length - 1) := by
        rcases em with z | z
        · exact z.1
        · exact absurd (z.2.symm.trans pq).symm (fun y => d2.2 y.symm)
      have := d1.1
      rw [pq, pq2, d2.1] at this
      exact same (by omega) pq
theorem t_middle {a b : Nat} {mid : Nat → Nat → Nat} {Q : Int32 → Prop} (hS : Sh A M) (ha : a < 100) (hb : b < 100) (hv : iM M (A 22) (a * 100 + b) = nI (mid a b)) (q : Q (nI (mid a b))) : T_X4_middle M (A 21) (nI a) (nI b) Q := by
  unfold T_X4_middle
  refine t_isPN (fun _ _ _ => ⟨fun z => absurd z (by decide), fun _ => t_isPN (fun _ _ _ => ⟨fun z => absurd z (by decide), fun _ => ?_⟩) (fun n => absurd rfl (n b hb))⟩) (fun n => absurd rfl (n a ha))
  rw [show nI a * 100 + nI b = nI (a * 100 + b) by rw [show (100 : Int32) = nI 100 from rfl, nI_mulx, nI_add], nI_clamp (by omega)]
  refine ⟨hS.k 21, A 22, hS.r 21 2 22, 10000, hS.k 22, vp_in_nI (by omega) (by omega), ?_⟩
  rw [hv]
  exact q
end
