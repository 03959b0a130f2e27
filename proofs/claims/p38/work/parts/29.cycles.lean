section
variable {rs : Nat → List Nat} {ow : Nat → Nat → Nat}
/-- the open halves from (u, v) on, one behind the other -/
def cy (rs : Nat → List Nat) (ow : Nat → Nat → Nat) (u v : Nat) : Nat → Nat × Nat
  | 0 => (u, v)
  | k + 1 => ((cy rs ow u v k).2, nx rs ow (cy rs ow u v k).1 (cy rs ow u v k).2)
theorem cy_s (u v : Nat) : ∀ k, cy rs ow v (nx rs ow u v) k = cy rs ow u v (k + 1) := by
  intro k
  induction k with
  | zero => rfl
  | succ k ih =>
    show ((cy rs ow v (nx rs ow u v) k).2, nx rs ow (cy rs ow v (nx rs ow u v) k).1 (cy rs ow v (nx rs ow u v) k).2) = ((cy rs ow u v (k + 1)).2, nx rs ow (cy rs ow u v (k + 1)).1 (cy rs ow u v (k + 1)).2)
    rw [ih]
abbrev hO (ow : Nat → Nat → Nat) (h : Nat × Nat) : Prop := h.1 < 100 ∧ h.2 < 100 ∧ opn ow h.1 h.2
theorem cy_o (n : NX rs ow) {u v : Nat} (h : hO ow (u, v)) : ∀ k, hO ow (cy rs ow u v k) := by
  intro k
  induction k with
  | zero => exact h
  | succ k ih =>
    obtain ⟨h1, h2, h3⟩ := n _ _ ih.1 ih.2.1 ih.2.2
    exact ⟨ih.2.1, h2, h3⟩
/-- what a walk of marks does -/
theorem mh_at (now : Nat) : ∀ k u v (g : Nat → Nat → Nat), (∀ a b, (mh rs ow now k u v g).2 a b = now ↔ g a b = now ∨ ∃ j, j < (mh rs ow now k u v g).1 ∧ cy rs ow u v j = (a, b)) ∧ (∀ j, j < (mh rs ow now k u v g).1 → g (cy rs ow u v j).1 (cy rs ow u v j).2 ≠ now) ∧ (∀ i j, i < j → j < (mh rs ow now k u v g).1 → cy rs ow u v i ≠ cy rs ow u v j) ∧ ((mh rs ow now k u v g).1 < k → (mh rs ow now k u v g).2 (cy rs ow u v (mh rs ow now k u v g).1).1 (cy rs ow u v (mh rs ow now k u v g).1).2 = now) := by
  intro k
  induction k with
  | zero =>
    intro u v g
    refine ⟨fun a b => ⟨fun h => Or.inl h, fun h => h.elim id (fun ⟨j, hj, _⟩ => absurd hj (Nat.not_lt_zero _))⟩, fun j hj => absurd hj (Nat.not_lt_zero _), fun i j _ hj => absurd hj (Nat.not_lt_zero _), fun h => absurd h (Nat.not_lt_zero _)⟩
  | succ k ih =>
    intro u v g
    by_cases e : g u v = now
    · have e0 : mh rs ow now (k + 1) u v g = (0, g) := by unfold mh; rw [if_pos e]
      rw [e0]
      exact ⟨fun a b => ⟨fun h => Or.inl h, fun h => h.elim id (fun ⟨j, hj, _⟩ => absurd hj (Nat.not_lt_zero _))⟩, fun j hj => absurd hj (Nat.not_lt_zero _), fun i j _ hj => absurd hj (Nat.not_lt_zero _), fun _ => e⟩
    · have e0 : mh rs ow now (k + 1) u v g = ((mh rs ow now k v (nx rs ow u v) (upO g u v now)).1 + 1, (mh rs ow now k v (nx rs ow u v) (upO g u v now)).2) := by
        show (if g u v = now then _ else _) = _
        rw [if_neg e]
      rw [e0]
      obtain ⟨i1, i2, i3, i4⟩ := ih v (nx rs ow u v) (upO g u v now)
      have up : ∀ a b, upO g u v now a b = now ↔ g a b = now ∨ (u, v) = (a, b) := by
        intro a b
        unfold upO
        by_cases q : a = u ∧ b = v
        · rw [if_pos q, q.1, q.2]; exact ⟨fun _ => Or.inr rfl, fun _ => rfl⟩
        · rw [if_neg q]
          exact ⟨fun h => Or.inl h, fun h => h.elim id (fun z => absurd ⟨by cases z; rfl, by cases z; rfl⟩ q)⟩
      refine ⟨fun a b => ?_, fun j hj => ?_, fun i j hij hj => ?_, fun h => ?_⟩
      · show (mh rs ow now k v (nx rs ow u v) (upO g u v now)).2 a b = now ↔ _
        rw [i1, up]
        constructor
        · rintro ((h | h) | ⟨j, hj, ej⟩)
          · exact Or.inl h
          · exact Or.inr ⟨0, Nat.succ_pos _, h⟩
          · exact Or.inr ⟨j + 1, Nat.succ_lt_succ hj, by rw [← cy_s]; exact ej⟩
        · rintro (h | ⟨j, hj, ej⟩)
          · exact Or.inl (Or.inl h)
          · cases j with
            | zero => exact Or.inl (Or.inr ej)
            | succ j => exact Or.inr ⟨j, Nat.lt_of_succ_lt_succ hj, by rw [cy_s]; exact ej⟩
      · cases j with
        | zero => exact e
        | succ j =>
          have := i2 j (Nat.lt_of_succ_lt_succ hj)
          rw [cy_s] at this
          intro z
          exact this ((up _ _).mpr (Or.inl z))
      · cases j with
        | zero => omega
        | succ j =>
          have hj2 := Nat.lt_of_succ_lt_succ hj
          cases i with
          | zero =>
            intro z
            have := i2 j hj2
            rw [cy_s] at this
            exact this ((up _ _).mpr (Or.inr (by rw [← z]; rfl)))
          | succ i =>
            have := i3 i j (by omega) hj2
            rw [cy_s, cy_s] at this
            exact this
      · have := i4 (Nat.lt_of_succ_lt_succ h)
        rw [cy_s] at this
        exact this
theorem sumN_up {g g2 : Nat → Nat} {i d : Nat} : ∀ n, i < n → (∀ k, k < n → k ≠ i → g2 k = g k) → g2 i = g i + d → sumN g2 n = sumN g n + d := by
  intro n
  induction n with
  | zero => intro h; omega
  | succ n ih =>
    intro hi hk e
    show sumN g2 n + g2 n = sumN g n + g n + d
    by_cases q : i = n
    · subst q
      rw [sumN_same (g2 := g) (fun k hlt => hk k (by omega) (by omega)), e]
      omega
    · rw [ih (by omega) (fun k hlt hne => hk k (by omega) hne) e, hk n (by omega) (fun z => q z.symm)]
      omega
/-- how many pairs of points there are with something -/
def cntP (P : Nat → Nat → Prop) [∀ a b, Decidable (P a b)] : Nat := sumN (fun a => sumN (fun b => if P a b then 1 else 0) 100) 100
theorem cntP_mono {P P2 : Nat → Nat → Prop} [∀ a b, Decidable (P a b)] [∀ a b, Decidable (P2 a b)] (h : ∀ a b, a < 100 → b < 100 → P a b → P2 a b) : cntP P ≤ cntP P2 := by
  have key : ∀ (g g2 : Nat → Nat) n, (∀ k, k < n → g k ≤ g2 k) → sumN g n ≤ sumN g2 n := by
    intro g g2 n
    induction n with
    | zero => intro _; exact Nat.le_refl _
    | succ n ih =>
      intro h
      have h1 := ih (fun k hk => h k (by omega))
      have h2 := h n (by omega)
      show sumN g n + g n ≤ sumN g2 n + g2 n
      omega
  refine key _ _ _ (fun a ha => key _ _ _ (fun b hb => ?_))
  by_cases e : P a b
  · rw [if_pos e, if_pos (h a b ha hb e)]; exact Nat.le_refl _
  · rw [if_neg e]; exact Nat.zero_le _
theorem cntP_up {P P2 : Nat → Nat → Prop} [∀ a b, Decidable (P a b)] [∀ a b, Decidable (P2 a b)] {u v : Nat} (hu : u < 100) (hv : v < 100) (h : ∀ a b, ¬ (a = u ∧ b = v) → (P2 a b ↔ P a b)) (h1 : ¬ P u v) (h2 : P2 u v) : cntP P2 = cntP P + 1 := by
  unfold cntP
  refine sumN_up (i := u) 100 hu (fun a ha hne => sumN_same (fun b hb => ?_)) (sumN_up (i := v) 100 hv (fun b hb hne => ?_) ?_)
  · by_cases e : P a b
    · rw [if_pos e, if_pos ((h a b (fun q => hne q.1)).mpr e)]
    · rw [if_neg e, if_neg (fun q => e ((h a b (fun q => hne q.1)).mp q))]
  · by_cases e : P u b
    · rw [if_pos e, if_pos ((h u b (fun q => hne q.2)).mpr e)]
    · rw [if_neg e, if_neg (fun q => e ((h u b (fun q => hne q.2)).mp q))]
  · rw [if_pos h2, if_neg h1]
theorem mh_cnt (n : NX rs ow) (now : Nat) : ∀ k u v (g : Nat → Nat → Nat), hO ow (u, v) → cntP (fun a b => (mh rs ow now k u v g).2 a b = now) = cntP (fun a b => g a b = now) + (mh rs ow now k u v g).1 := by
  intro k
  induction k with
  | zero => intro u v g _; exact (Nat.add_zero (cntP (fun a b => g a b = now))).symm
  | succ k ih =>
    intro u v g ho
    by_cases e : g u v = now
    · have e0 : mh rs ow now (k + 1) u v g = (0, g) := by unfold mh; rw [if_pos e]
      rw [e0]
      exact (Nat.add_zero (cntP (fun a b => g a b = now))).symm
    · have e0 : mh rs ow now (k + 1) u v g = ((mh rs ow now k v (nx rs ow u v) (upO g u v now)).1 + 1, (mh rs ow now k v (nx rs ow u v) (upO g u v now)).2) := by
        show (if g u v = now then _ else _) = _
        rw [if_neg e]
      rw [e0]
      have h1 := ih v (nx rs ow u v) (upO g u v now) (cy_o n ho 1)
      have h2 : cntP (fun a b => upO g u v now a b = now) = cntP (fun a b => g a b = now) + 1 := by
        refine cntP_up ho.1 ho.2.1 (fun a b q => ?_) e ?_
        · unfold upO; rw [if_neg q]
        · unfold upO; rw [if_pos ⟨rfl, rfl⟩]
      show cntP (fun a b => (mh rs ow now k v (nx rs ow u v) (upO g u v now)).2 a b = now) = _ + ((mh rs ow now k v (nx rs ow u v) (upO g u v now)).1 + 1)
      rw [h1, h2]
      omega
end
