section
/-- the sum over the pairs of points with something -/
def sumP (P : Nat → Nat → Prop) [∀ a b, Decidable (P a b)] (φ : Nat → Nat → Nat) : Nat := sumN (fun a => sumN (fun b => if P a b then φ a b else 0) 100) 100
theorem sumP_same {P P2 : Nat → Nat → Prop} [∀ a b, Decidable (P a b)] [∀ a b, Decidable (P2 a b)] {φ ψ : Nat → Nat → Nat} (h : ∀ a b, a < 100 → b < 100 → (P a b ↔ P2 a b)) (h2 : ∀ a b, a < 100 → b < 100 → P a b → φ a b = ψ a b) : sumP P φ = sumP P2 ψ := by
  refine sumN_same (fun a ha => sumN_same (fun b hb => ?_))
  by_cases e : P a b
  · rw [if_pos e, if_pos ((h a b ha hb).mp e)]; exact h2 a b ha hb e
  · rw [if_neg e, if_neg (fun q => e ((h a b ha hb).mpr q))]
theorem sumP_up {P P2 : Nat → Nat → Prop} [∀ a b, Decidable (P a b)] [∀ a b, Decidable (P2 a b)] {φ : Nat → Nat → Nat} {u v : Nat} (hu : u < 100) (hv : v < 100) (h : ∀ a b, a < 100 → b < 100 → ¬ (a = u ∧ b = v) → (P2 a b ↔ P a b)) (h1 : ¬ P u v) (h2 : P2 u v) : sumP P2 φ = sumP P φ + φ u v := by
  unfold sumP
  refine sumN_up (i := u) 100 hu (fun a ha hne => sumN_same (fun b hb => ?_)) (sumN_up (i := v) 100 hv (fun b hb hne => ?_) ?_)
  · by_cases e : P a b
    · rw [if_pos e, if_pos ((h a b ha hb (fun q => hne q.1)).mpr e)]
    · rw [if_neg e, if_neg (fun q => e ((h a b ha hb (fun q => hne q.1)).mp q))]
  · by_cases e : P u b
    · rw [if_pos e, if_pos ((h u b hu hb (fun q => hne q.2)).mpr e)]
    · rw [if_neg e, if_neg (fun q => e ((h u b hu hb (fun q => hne q.2)).mp q))]
  · rw [if_pos h2, if_neg h1, Nat.zero_add]
theorem sumN_0 {g : Nat → Nat} {n : Nat} (h : ∀ k, k < n → g k = 0) : sumN g n = 0 := by
  induction n with
  | zero => rfl
  | succ n ih =>
    show sumN g n + g n = 0
    rw [ih (fun k hk => h k (by omega)), h n (by omega)]
theorem sumN_add (g g2 : Nat → Nat) (n : Nat) : sumN (fun k => g k + g2 k) n = sumN g n + sumN g2 n := by
  induction n with
  | zero => rfl
  | succ n ih =>
    show sumN (fun k => g k + g2 k) n + (g n + g2 n) = sumN g n + g n + (sumN g2 n + g2 n)
    rw [ih]
    omega
theorem sumP_or {P P2 : Nat → Nat → Prop} [∀ a b, Decidable (P a b)] [∀ a b, Decidable (P2 a b)] [∀ a b, Decidable (P a b ∨ P2 a b)] {φ : Nat → Nat → Nat} (h : ∀ a b, P a b → ¬ P2 a b) : sumP (fun a b => P a b ∨ P2 a b) φ = sumP P φ + sumP P2 φ := by
  unfold sumP
  rw [← sumN_add]
  refine sumN_same (fun a ha => ?_)
  rw [← sumN_add]
  refine sumN_same (fun b hb => ?_)
  by_cases e : P a b
  · rw [if_pos (Or.inl e), if_pos e, if_neg (h a b e)]; rfl
  · by_cases e2 : P2 a b
    · rw [if_pos (Or.inr e2), if_neg e, if_pos e2, Nat.zero_add]
    · rw [if_neg (fun q => q.elim e e2), if_neg e, if_neg e2]
variable {rs : Nat → List Nat} {ow : Nat → Nat → Nat}
/-- the sum over a ring's halves is that over the pairs that the ring has -/
theorem sum_ring (o : Ok rs ow) {f : Nat} (hf : f < 160) (φ : Nat → Nat → Nat) : ∀ k, k ≤ (rs f).length → ∀ (P : Nat → Nat → Prop) [∀ a b, Decidable (P a b)], (∀ a b, P a b ↔ hvk (rs f) k a b) → sumN (fun i => φ (gn (rs f) i) (gn (rs f) (i + 1))) k = sumP P φ := by
  intro k
  induction k with
  | zero =>
    intro _ P _ hP
    refine (sumN_0 (fun a _ => sumN_0 (fun b _ => ?_))).symm
    rw [if_neg]
    intro z
    obtain ⟨i, hi, _⟩ := (hP a b).mp z
    exact absurd hi (Nat.not_lt_zero _)
  | succ k ih =>
    intro hk P inst hP
    haveI : ∀ a b, Decidable (hvk (rs f) k a b) := fun _ _ => Classical.propDecidable _
    have h1 := ih (by omega) (hvk (rs f) k) (fun _ _ => Iff.rfl)
    show sumN (fun i => φ (gn (rs f) i) (gn (rs f) (i + 1))) k + φ (gn (rs f) k) (gn (rs f) (k + 1)) = _
    rw [h1]
    refine (sumP_up (o.2.1 f _ hf (gn_mem (by omega))) (o.2.1 f _ hf (gn_mem (by omega))) (fun a b _ _ hne => ?_) ?_ ?_).symm
    · rw [hP]
      constructor
      · rintro ⟨i, hi, e1, e2⟩
        by_cases e : i = k
        · subst e; exact absurd ⟨e1.symm, e2.symm⟩ hne
        · exact ⟨i, by omega, e1, e2⟩
      · rintro ⟨i, hi, e1, e2⟩
        exact ⟨i, by omega, e1, e2⟩
    · rintro ⟨i, hi, e1, e2⟩
      have := o.1.2 f i k hf (by omega) (by omega) e1
      omega
    · exact (hP _ _).mpr ⟨k, by omega, rfl, rfl⟩
/-- the sum over all faces' halves is that over the pairs with an owner -/
theorem sum_all (o : Ok rs ow) (φ : Nat → Nat → Nat) {fe : Nat} (hf : fe ≤ 160) (he : ∀ f, fe ≤ f → f < 160 → rs f = []) : sumN (fun f => sumN (fun i => φ (gn (rs f) i) (gn (rs f) (i + 1))) (rs f).length) fe = sumP (fun a b => ow a b ≠ 0) φ := by
  have key : ∀ n, n ≤ fe → sumN (fun f => sumN (fun i => φ (gn (rs f) i) (gn (rs f) (i + 1))) (rs f).length) n = sumP (fun a b => ow a b ≠ 0 ∧ ow a b ≤ n) φ := by
    intro n
    induction n with
    | zero =>
      intro _
      refine (sumN_0 (fun a _ => sumN_0 (fun b _ => ?_))).symm
      rw [if_neg (fun z => z.1 (by omega))]
    | succ n ih =>
      intro hn
      show sumN _ n + sumN (fun i => φ (gn (rs n) i) (gn (rs n) (i + 1))) (rs n).length = _
      rw [ih (by omega), sum_ring o (f := n) (by omega) φ _ (Nat.le_refl _) (fun a b => ow a b = n + 1) (fun a b => by rw [o.1.1]; exact ⟨fun z => z.2, fun z => ⟨by omega, z⟩⟩)]
      rw [← sumP_or (fun a b z1 z2 => by omega)]
      exact sumP_same (fun a b _ _ => by omega) (fun _ _ _ _ _ => rfl)
  rw [key fe (Nat.le_refl _)]
  refine sumP_same (fun a b _ _ => ⟨fun z => z.1, fun z => ⟨z, ?_⟩⟩) (fun _ _ _ _ _ => rfl)
  have e : ow a b = (ow a b - 1) + 1 := by omega
  obtain ⟨hf2, i, hi, _⟩ := (o.1.1 _ _ _).mp e
  apply Classical.byContradiction
  intro q
  rw [he _ (by omega) hf2] at hi
  exact absurd hi (Nat.not_lt_zero _)
end
