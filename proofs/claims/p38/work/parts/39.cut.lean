section
variable {A : Nat → Nat} {M M' : Mm} {B : Nat} {rs rs2 : Nat → List Nat} {ow ow2 : Nat → Nat → Nat} {th th2 : Nat → Bool} {ps ps2 : Nat → Nat → Int32} {fe fl pe pl fe2 fl2 pe2 pl2 : Nat}
/-- a ring's halves, from any place on -/
theorem hv_from {xs : List Nat} (hn : 0 < xs.length) (s a b : Nat) : hvk xs xs.length a b ↔ ∃ i, i < xs.length ∧ gn xs (s + i) = a ∧ gn xs (s + i + 1) = b := by
  constructor
  · intro ⟨k, hk, e1, e2⟩
    have hs : s % xs.length < xs.length := Nat.mod_lt _ hn
    by_cases z : s % xs.length ≤ k
    · refine ⟨k - s % xs.length, by omega, ?_, ?_⟩
      · rw [← gn_mod, Nat.add_mod, Nat.mod_eq_of_lt (show k - s % xs.length < xs.length by omega), show s % xs.length + (k - s % xs.length) = k by omega, gn_mod]
        exact e1
      · rw [← gn_mod1, Nat.add_mod, Nat.mod_eq_of_lt (show k - s % xs.length < xs.length by omega), show s % xs.length + (k - s % xs.length) = k by omega, gn_mod1]
        exact e2
    · refine ⟨k + xs.length - s % xs.length, by omega, ?_, ?_⟩
      · rw [← gn_mod, Nat.add_mod, Nat.mod_eq_of_lt (show k + xs.length - s % xs.length < xs.length by omega), show s % xs.length + (k + xs.length - s % xs.length) = k + xs.length by omega, gn_mod, gn_add]
        exact e1
      · rw [← gn_mod1, Nat.add_mod, Nat.mod_eq_of_lt (show k + xs.length - s % xs.length < xs.length by omega), show s % xs.length + (k + xs.length - s % xs.length) = k + xs.length by omega, gn_mod1, show k + xs.length + 1 = k + 1 + xs.length by omega, gn_add]
        exact e2
  · intro ⟨i, -, e1, e2⟩
    have := hv_any hn (s + i)
    rw [e1, e2] at this
    exact this
theorem cut_hv (w : Wf rs ow) {f s c : Nat} (hf : f < 160) (h1 : 1 < c) (h2 : c + 1 < (rs f).length) (u v : Nat) :
    (hvk (rs f) (rs f).length u v ↔ (∃ i, i < c ∧ gn (rs f) (s + i) = u ∧ gn (rs f) (s + i + 1) = v) ∨ ∃ i, i < (rs f).length - c ∧ gn (rs f) (s + c + i) = u ∧ gn (rs f) (s + c + i + 1) = v) ∧ ¬ ((∃ i, i < c ∧ gn (rs f) (s + i) = u ∧ gn (rs f) (s + i + 1) = v) ∧ ∃ i, i < (rs f).length - c ∧ gn (rs f) (s + c + i) = u ∧ gn (rs f) (s + c + i + 1) = v) := by
  refine ⟨?_, ?_⟩
  · rw [hv_from (by omega) s]
    constructor
    · intro ⟨i, hi, e1, e2⟩
      by_cases z : i < c
      · exact Or.inl ⟨i, z, e1, e2⟩
      · refine Or.inr ⟨i - c, by omega, ?_, ?_⟩
        · rw [show s + c + (i - c) = s + i by omega]; exact e1
        · rw [show s + c + (i - c) + 1 = s + i + 1 by omega]; exact e2
    · intro z
      rcases z with ⟨i, hi, e1, e2⟩ | ⟨i, hi, e1, e2⟩
      · exact ⟨i, by omega, e1, e2⟩
      · exact ⟨c + i, by omega, by rw [show s + (c + i) = s + c + i by omega]; exact e1, by rw [show s + (c + i) + 1 = s + c + i + 1 by omega]; exact e2⟩
  · intro ⟨⟨i, hi, e1, _⟩, j, hj, e3, _⟩
    have := gn_off w hf (s := s) (i := i) (j := c + j) (by omega) (by omega) (by rw [e1, show s + (c + j) = s + c + j by omega, e3])
    omega
/-- a face cut in two: what it is then -/
theorem cut_data (g : Gd rs ow th ps fe fl pe pl) {f s c : Nat} (hf : f < 160) (hfe : fe < 160) (h1 : 1 < c) (h2 : c + 1 < (rs f).length) (hab : ow (gn (rs f) s) (gn (rs f) (s + c)) = 0) (hba : ow (gn (rs f) (s + c)) (gn (rs f) s) = 0) :
    Gd (upr rs f (stN (rs f) s (c + 1))) (rshT f (rs f) (stN (rs f) s (c + 1)) ow) th ps fe fl pe pl ∧
    (∀ u v, hvk (stN (rs f) (s + c) ((rs f).length - c + 1)) ((rs f).length - c + 1) u v → rshT f (rs f) (stN (rs f) s (c + 1)) ow u v = 0) ∧
    ∀ u v, Hv (upr (upr rs f (stN (rs f) s (c + 1))) fe (stN (rs f) (s + c) ((rs f).length - c + 1))) u v ↔ Hv rs u v ∨ (u = gn (rs f) s ∧ v = gn (rs f) (s + c)) ∨ (u = gn (rs f) (s + c) ∧ v = gn (rs f) s) := by
  have hne : rs f ≠ [] := fun z => by rw [z] at h2; exact absurd h2 (Nat.not_lt_zero _)
  have hlt : f < fe := Classical.byContradiction (fun z => hne (g.2.2.1 f (by omega)))
  have w := g.1
  have sp := fun u v => cut_hv w (s := s) hf h1 h2 u v
  have l1 := stN_len (rs f) s (c + 1)
  have l2 := stN_len (rs f) (s + c) ((rs f).length - c + 1)
  have v1 : ∀ u v, hvk (stN (rs f) s (c + 1)) (stN (rs f) s (c + 1)).length u v ↔ (∃ i, i < c ∧ gn (rs f) (s + i) = u ∧ gn (rs f) (s + i + 1) = v) ∨ (gn (rs f) (s + c) = u ∧ gn (rs f) s = v) := fun u v => by
    rw [l1]; exact stN_hv (by omega) u v
  have v2 : ∀ u v, hvk (stN (rs f) (s + c) ((rs f).length - c + 1)) ((rs f).length - c + 1) u v ↔ (∃ i, i < (rs f).length - c ∧ gn (rs f) (s + c + i) = u ∧ gn (rs f) (s + c + i + 1) = v) ∨ (gn (rs f) s = u ∧ gn (rs f) (s + c) = v) := fun u v => by
    rw [stN_hv (by omega) u v, show s + c + ((rs f).length - c) = s + (rs f).length by omega, gn_add]
  have nab : ∀ k, k < 160 → ¬ hvk (rs k) (rs k).length (gn (rs f) s) (gn (rs f) (s + c)) := fun k hk z => (g.zero _ _).mp hab ⟨k, hk, z⟩
  have nba : ∀ k, k < 160 → ¬ hvk (rs k) (rs k).length (gn (rs f) (s + c)) (gn (rs f) s) := fun k hk z => (g.zero _ _).mp hba ⟨k, hk, z⟩
  have dab : gn (rs f) s ≠ gn (rs f) (s + c) := fun z => by
    have := gn_off w hf (s := s) (i := 0) (j := c) (by omega) (by omega) z
    omega
  have g1 : Gd (upr rs f (stN (rs f) s (c + 1))) (rshT f (rs f) (stN (rs f) s (c + 1)) ow) th ps fe fl pe pl := by
    refine g.re hf hne (by omega) (stN_dist w hf (by omega)) (fun u v z => ?_) (fun p hp => g.2.2.2.2.2.2.1 f p (stN_mem (by omega) hp))
    rcases (v1 u v).mp z with y | ⟨e1, e2⟩
    · exact Or.inr ((w.1 u v f).mpr ⟨hf, (sp u v).1.mpr (Or.inl y)⟩)
    · rw [← e1, ← e2]
      exact Or.inl hba
  have h3 : ∀ u v, Hv (upr rs f (stN (rs f) s (c + 1))) u v ↔ ((∃ i, i < c ∧ gn (rs f) (s + i) = u ∧ gn (rs f) (s + i + 1) = v) ∨ (gn (rs f) (s + c) = u ∧ gn (rs f) s = v)) ∨ (Hv rs u v ∧ ¬ hvk (rs f) (rs f).length u v) := fun u v => by
    rw [Hv_up hf, v1, Hv_oth w hf]
  refine ⟨g1, fun u v z => ?_, fun u v => ?_⟩
  · rw [wf_zero g1.1, h3]
    rcases (v2 u v).mp z with y | ⟨e1, e2⟩
    · intro q
      rcases q with (q | ⟨q1, q2⟩) | q
      · exact (sp u v).2 ⟨q, y⟩
      · refine nba f hf ((sp _ _).1.mpr (Or.inr ?_))
        rw [q1, q2]
        exact y
      · exact q.2 ((sp u v).1.mpr (Or.inr y))
    · intro q
      rcases q with (q | ⟨q1, q2⟩) | q
      · refine nab f hf ((sp _ _).1.mpr (Or.inl ?_))
        rw [e1, e2]
        exact q
      · exact dab (e1.trans q1.symm)
      · exact (g.zero _ _).mp hab (by rw [e1, e2]; exact q.1)
  · have hfe2 : ∀ a b, (∃ k, k < 160 ∧ k ≠ fe ∧ hvk (upr rs f (stN (rs f) s (c + 1)) k) (upr rs f (stN (rs f) s (c + 1)) k).length a b) ↔ Hv (upr rs f (stN (rs f) s (c + 1))) a b := fun a b => by
      refine ⟨fun ⟨k, hk, _, z⟩ => ⟨k, hk, z⟩, fun ⟨k, hk, z⟩ => ⟨k, hk, fun e => ?_, z⟩⟩
      subst e
      rw [g1.2.2.1 k (Nat.le_refl _)] at z
      obtain ⟨i, hi, -⟩ := z
      exact absurd hi (Nat.not_lt_zero _)
    rw [Hv_up hfe, hfe2, h3, l2, v2]
    have own : hvk (rs f) (rs f).length u v → Hv rs u v := fun z => ⟨f, hf, z⟩
    have s1 := (sp u v).1
    constructor
    · intro z
      rcases z with (z | ⟨e1, e2⟩) | (z | ⟨e1, e2⟩) | z
      · exact Or.inl (own (s1.mpr (Or.inr z)))
      · exact Or.inr (Or.inl ⟨e1.symm, e2.symm⟩)
      · exact Or.inl (own (s1.mpr (Or.inl z)))
      · exact Or.inr (Or.inr ⟨e1.symm, e2.symm⟩)
      · exact Or.inl z.1
    · intro z
      rcases z with z | ⟨e1, e2⟩ | ⟨e1, e2⟩
      · by_cases o : hvk (rs f) (rs f).length u v
        · rcases s1.mp o with y | y
          · exact Or.inr (Or.inl (Or.inl y))
          · exact Or.inl (Or.inl y)
        · exact Or.inr (Or.inr ⟨z, o⟩)
      · exact Or.inl (Or.inr ⟨e1.symm, e2.symm⟩)
      · exact Or.inr (Or.inl (Or.inr ⟨e1.symm, e2.symm⟩))
end
