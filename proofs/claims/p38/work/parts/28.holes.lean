section
variable {rs : Nat → List Nat} {ow : Nat → Nat → Nat}
/-- two states of marks that say the same -/
def Eqm (n1 n2 : Nat) (g1 g2 : Nat → Nat → Nat) : Prop := ∀ a b, a < 100 → b < 100 → (g1 a b = n1 ↔ g2 a b = n2)
theorem Eqm.up {n1 n2 : Nat} {g1 g2 : Nat → Nat → Nat} (h : Eqm n1 n2 g1 g2) (u v : Nat) : Eqm n1 n2 (upO g1 u v n1) (upO g2 u v n2) := by
  intro a b ha hb
  unfold upO
  by_cases e : a = u ∧ b = v
  · rw [if_pos e, if_pos e]; exact ⟨fun _ => rfl, fun _ => rfl⟩
  · rw [if_neg e, if_neg e]; exact h a b ha hb
theorem Eqm.fresh {n1 n2 : Nat} {g1 g2 : Nat → Nat → Nat} (h1 : ∀ a b, a < 100 → b < 100 → g1 a b < n1) (h2 : ∀ a b, a < 100 → b < 100 → g2 a b < n2) : Eqm n1 n2 g1 g2 :=
  fun a b ha hb => ⟨fun e => absurd (h1 a b ha hb) (by omega), fun e => absurd (h2 a b ha hb) (by omega)⟩
/-- the walks are the same where turning is -/
theorem mh_same {rs2 : Nat → List Nat} (n : NX rs ow) (hx : ∀ u v, u < 100 → v < 100 → opn ow u v → nx rs ow u v = nx rs2 ow u v) {n1 n2 : Nat} : ∀ k u v (g1 g2 : Nat → Nat → Nat), u < 100 → v < 100 → opn ow u v → Eqm n1 n2 g1 g2 → (mh rs ow n1 k u v g1).1 = (mh rs2 ow n2 k u v g2).1 ∧ Eqm n1 n2 (mh rs ow n1 k u v g1).2 (mh rs2 ow n2 k u v g2).2 := by
  intro k
  induction k with
  | zero => intro u v g1 g2 _ _ _ h; exact ⟨rfl, h⟩
  | succ k ih =>
    intro u v g1 g2 hu hv ho h
    unfold mh
    by_cases e : g1 u v = n1
    · rw [if_pos e, if_pos ((h u v hu hv).mp e)]
      exact ⟨rfl, h⟩
    · rw [if_neg e, if_neg (fun q => e ((h u v hu hv).mpr q))]
      obtain ⟨h1, h2, h3⟩ := n u v hu hv ho
      rw [← hx u v hu hv ho]
      have := ih v (nx rs ow u v) _ _ hv h2 h3 (h.up u v)
      exact ⟨by show _ + 1 = _ + 1; rw [this.1], this.2⟩
theorem mhO_same {rs2 : Nat → List Nat} (n : NX rs ow) (hx : ∀ u v, u < 100 → v < 100 → opn ow u v → nx rs ow u v = nx rs2 ow u v) {n1 n2 u v : Nat} {g1 g2 : Nat → Nat → Nat} (hu : u < 100) (hv : v < 100) (h : Eqm n1 n2 g1 g2) : (mhO rs ow n1 u v g1).1 = (mhO rs2 ow n2 u v g2).1 ∧ Eqm n1 n2 (mhO rs ow n1 u v g1).2 (mhO rs2 ow n2 u v g2).2 := by
  unfold mhO
  by_cases e : opn ow u v
  · rw [if_pos e, if_pos e]; exact mh_same n hx _ _ _ _ _ hu hv e h
  · rw [if_neg e, if_neg e]; exact ⟨rfl, h⟩
theorem hIn_same {rs2 : Nat → List Nat} (n : NX rs ow) (hx : ∀ u v, u < 100 → v < 100 → opn ow u v → nx rs ow u v = nx rs2 ow u v) {n1 n2 f : Nat} (hp : ∀ p, p ∈ rs f → p < 100) (he : rs2 f = rs f) {s1 s2 : Nat × (Nat → Nat → Nat)} (h1 : s1.1 = s2.1) (h2 : Eqm n1 n2 s1.2 s2.2) : ∀ i, i ≤ (rs f).length → (hIn rs ow n1 f i s1).1 = (hIn rs2 ow n2 f i s2).1 ∧ Eqm n1 n2 (hIn rs ow n1 f i s1).2 (hIn rs2 ow n2 f i s2).2 := by
  intro i
  induction i with
  | zero => intro _; exact ⟨h1, h2⟩
  | succ i ih =>
    intro hi
    have h3 := ih (by omega)
    have h4 := mhO_same n hx (n1 := n1) (n2 := n2) (hp _ (gn_mem (xs := rs f) (p := i + 1) (by omega))) (hp _ (gn_mem (xs := rs f) (p := i) (by omega))) h3.2
    unfold hIn
    rw [he]
    exact ⟨by show _ + _ = _ + _; rw [h3.1, h4.1], h4.2⟩
/-- a face whose halves have no owner tells no holes -/
theorem hIn_none {n1 f : Nat} {s : Nat × (Nat → Nat → Nat)} : ∀ i, (∀ j, j < i → ow (gn (rs f) j) (gn (rs f) (j + 1)) = 0) → hIn rs ow n1 f i s = s := by
  intro i
  induction i with
  | zero => intro _; rfl
  | succ i ih =>
    intro h
    have h2 := ih (fun j hj => h j (by omega))
    unfold hIn
    have e : ∀ g, mhO rs ow n1 (gn (rs f) (i + 1)) (gn (rs f) i) g = (0, g) := by
      intro g
      unfold mhO
      rw [if_neg (fun q => q.2 (h i (by omega)))]
    rw [e, h2]
    rfl
theorem hAll_same {rs2 : Nat → List Nat} (n : NX rs ow) (hx : ∀ u v, u < 100 → v < 100 → opn ow u v → nx rs ow u v = nx rs2 ow u v) {n1 n2 : Nat} (hp : ∀ f p, f < 160 → p ∈ rs f → p < 100) {s1 s2 : Nat × (Nat → Nat → Nat)} (h1 : s1.1 = s2.1) (h2 : Eqm n1 n2 s1.2 s2.2) : ∀ fe, fe ≤ 160 → (∀ f, f < fe → rs2 f = rs f ∨ (rs2 f = [] ∧ ∀ i, i < (rs f).length → ow (gn (rs f) i) (gn (rs f) (i + 1)) = 0)) → (hAll rs ow n1 fe s1).1 = (hAll rs2 ow n2 fe s2).1 ∧ Eqm n1 n2 (hAll rs ow n1 fe s1).2 (hAll rs2 ow n2 fe s2).2 := by
  intro fe
  induction fe with
  | zero => intro _ _; exact ⟨h1, h2⟩
  | succ f ih =>
    intro hf he
    have h3 := ih (by omega) (fun g hg => he g (by omega))
    unfold hAll
    rcases he f (by omega) with e | ⟨e, e2⟩
    · rw [e]
      exact hIn_same n hx (hp f · (by omega)) e h3.1 h3.2 _ (Nat.le_refl _)
    · rw [e, hIn_none _ e2]
      exact h3
/-- how many holes there are, and how many halves the hole of (u, v) has -/
def hC (rs : Nat → List Nat) (ow : Nat → Nat → Nat) (fe : Nat) : Nat := (hAll rs ow 1 fe (0, fun _ _ => 0)).1
def hL (rs : Nat → List Nat) (ow : Nat → Nat → Nat) (u v : Nat) : Nat := (mhO rs ow 1 u v (fun _ _ => 0)).1
end
section
variable {A : Nat → Nat} {M : Mm} {rs : Nat → List Nat} {ow : Nat → Nat → Nat}
theorem t_holes {now fe fl : Nat} {mk : Nat → Nat → Nat} {Q : Int32 → Mm → Prop} (h : FT A M rs ow) (hN : FN A M fe fl) (w : Wk rs ow) (n : NX rs ow) (hm : MT A M now mk) (hn : now + 1 < 2 ^ 30) (q : ∀ M' mk', Ch (In A (fun l => l = 12 ∨ l = 13)) M M' → MT A M' (now + 1) mk' → Q (nI (hC rs ow fe)) M') : T_X7_holeCount M (A 14) Q := by
  refine t_holeCount h hN w n hm hn (fun M' c hm' hle => ?_)
  have e := hAll_same n (rs2 := rs) (fun _ _ _ _ _ => rfl) (n1 := now + 1) (n2 := 1) (s1 := (0, mk)) (s2 := (0, fun _ _ => 0)) h.2.2.2.2 rfl (Eqm.fresh (fun a b ha hb => Nat.lt_succ_of_le (hle a b ha hb)) (fun _ _ _ _ => Nat.one_pos)) fe hN.2.2.1 (fun _ _ => Or.inl rfl)
  rw [e.1]
  exact q M' _ c hm'
theorem t_holeLen {now u v : Nat} {mk : Nat → Nat → Nat} {Q : Int32 → Mm → Prop} (h : FT A M rs ow) (w : Wk rs ow) (n : NX rs ow) (hm : MT A M now mk) (hn : now + 1 < 2 ^ 30) (hu : u < 100) (hv : v < 100) (q : ∀ M' mk', Ch (In A (fun l => l = 12 ∨ l = 13)) M M' → MT A M' (now + 1) mk' → Q (nI (hL rs ow u v)) M') : T_X7_holeLength M (A 14) (nI u) (nI v) Q := by
  refine t_holeLength h w n hm hn hu hv (fun M' c hm' hle => ?_)
  have e := mhO_same n (rs2 := rs) (fun _ _ _ _ _ => rfl) (n1 := now + 1) (n2 := 1) hu hv (Eqm.fresh (g1 := mk) (g2 := fun _ _ => 0) (fun a b ha hb => Nat.lt_succ_of_le (hle a b ha hb)) (fun _ _ _ _ => Nat.one_pos))
  rw [e.1]
  exact q M' _ c hm'
end
