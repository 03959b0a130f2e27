theorem gn_mod (xs : List Nat) (p : Nat) : gn xs (p % xs.length) = gn xs p := by
  unfold gn
  rw [Nat.mod_mod]
theorem gn_mod1 (xs : List Nat) (p : Nat) : gn xs (p % xs.length + 1) = gn xs (p + 1) := by
  unfold gn
  rw [Nat.mod_add_mod]
theorem gn_add (xs : List Nat) (p : Nat) : gn xs (p + xs.length) = gn xs p := by
  unfold gn
  rw [Nat.add_mod_right]
theorem hv_any {xs : List Nat} (h : 0 < xs.length) (p : Nat) : hvk xs xs.length (gn xs p) (gn xs (p + 1)) := ⟨p % xs.length, Nat.mod_lt _ h, gn_mod xs p, gn_mod1 xs p⟩
theorem pl_gn {x : Nat} : ∀ {xs : List Nat}, x ∈ xs → pl xs x < xs.length ∧ xs[pl xs x]? = some x := by
  intro xs
  induction xs with
  | nil => intro h; exact absurd h List.not_mem_nil
  | cons y ys ih =>
    intro h
    unfold pl
    by_cases e : y = x
    · rw [if_pos e]
      subst e
      exact ⟨by simp, by simp⟩
    · rw [if_neg e]
      have hm : x ∈ ys := by
        rcases List.mem_cons.mp h with q | q
        · exact absurd q.symm e
        · exact q
      have := ih hm
      exact ⟨by simpa using this.1, by simpa using this.2⟩
theorem pig : ∀ (n : Nat) (g : Nat → Nat), (∀ i j, i < j → j ≤ n → g i ≠ g j) → (∀ i, i ≤ n → g i < n) → False := by
  intro n
  induction n with
  | zero => intro g _ h; exact absurd (h 0 (Nat.le_refl _)) (by omega)
  | succ n ih =>
    intro g hd hl
    refine ih (fun i => if g i = n then g (n + 1) else g i) (fun i j hij hj => ?_) (fun i hi => ?_)
    · have d1 := hd i j hij (by omega)
      have d2 := hd i (n + 1) (by omega) (by omega)
      have d3 := hd j (n + 1) (by omega) (by omega)
      show (if g i = n then g (n + 1) else g i) ≠ (if g j = n then g (n + 1) else g j)
      split <;> split <;> omega
    · have l1 := hl i (by omega)
      have l2 := hl (n + 1) (by omega)
      have d2 := hd i (n + 1) (by omega) (by omega)
      show (if g i = n then g (n + 1) else g i) < n
      split <;> omega
section
variable {rs : Nat → List Nat} {ow : Nat → Nat → Nat}
theorem Wf.place (w : Wf rs ow) {f i : Nat} (hf : f < 160) (hi : i < (rs f).length) : pl (rs f) (gn (rs f) i) = i := by
  have h1 := pl_gn (gn_mem (xs := rs f) (p := i) (by omega))
  exact w.2 f _ i hf h1.1 hi (gn_eq h1.2)
/-- one turn at b: the face with (b, c) has (c', b) too, and c is behind b there -/
theorem Wf.turn (w : Wf rs ow) {b c f : Nat} (h : ow b c = f + 1) : f < 160 ∧ ow (bef rs f b) b = f + 1 ∧ aft rs f b = c ∧ bef rs f b ∈ rs f := by
  obtain ⟨hf, i, hi, e1, e2⟩ := (w.1 b c f).mp h
  have hp := w.place hf hi
  rw [e1] at hp
  unfold bef aft
  rw [hp]
  have e3 : gn (rs f) (i + (rs f).length - 1 + 1) = b := by rw [show i + (rs f).length - 1 + 1 = i + (rs f).length by omega, gn_add]; exact e1
  have := hv_any (xs := rs f) (by omega) (i + (rs f).length - 1)
  rw [e3] at this
  exact ⟨hf, (w.1 _ _ f).mpr ⟨hf, this⟩, e2, gn_mem (by omega)⟩
/-- where one is behind j turns at b from a on -/
def sq (rs : Nat → List Nat) (ow : Nat → Nat → Nat) (b a : Nat) : Nat → Nat
  | 0 => a
  | j + 1 => bef rs (ow b (sq rs ow b a j) - 1) b
theorem nO_seq (rs : Nat → List Nat) (ow : Nat → Nat → Nat) (b a : Nat) : ∀ n k, (∃ j, j < n ∧ ow b (sq rs ow b a (k + j)) = 0 ∧ (∀ i, i < j → ow b (sq rs ow b a (k + i)) ≠ 0) ∧ nO rs ow b n (sq rs ow b a k) = some (sq rs ow b a (k + j))) ∨ (∀ j, j < n → ow b (sq rs ow b a (k + j)) ≠ 0) := by
  intro n
  induction n with
  | zero => intro k; exact Or.inr (fun j hj => absurd hj (by omega))
  | succ n ih =>
    intro k
    by_cases e : ow b (sq rs ow b a k) = 0
    · refine Or.inl ⟨0, by omega, e, fun i hi => absurd hi (by omega), ?_⟩
      show (if ow b (sq rs ow b a k) = 0 then _ else _) = _
      rw [if_pos e]
      rfl
    · have e2 : nO rs ow b (n + 1) (sq rs ow b a k) = nO rs ow b n (sq rs ow b a (k + 1)) := by
        show (if ow b (sq rs ow b a k) = 0 then _ else _) = _
        rw [if_neg e]
        rfl
      rcases ih (k + 1) with ⟨j, hj, h1, h2, h3⟩ | h
      · refine Or.inl ⟨j + 1, by omega, ?_, fun i hi => ?_, ?_⟩
        · rw [show k + (j + 1) = k + 1 + j by omega]; exact h1
        · cases i with
          | zero => exact e
          | succ i => rw [show k + (i + 1) = k + 1 + i by omega]; exact h2 i (by omega)
        · rw [e2, h3, show k + (j + 1) = k + 1 + j by omega]
      · refine Or.inr (fun j hj => ?_)
        cases j with
        | zero => exact e
        | succ j => rw [show k + (j + 1) = k + 1 + j by omega]; exact h j (by omega)
theorem Wf.sq_in (w : Wf rs ow) {b a : Nat} {j : Nat} (h : ow b (sq rs ow b a j) ≠ 0) : ow (sq rs ow b a (j + 1)) b = ow b (sq rs ow b a j) ∧ aft rs (ow b (sq rs ow b a j) - 1) b = sq rs ow b a j := by
  have e : ow b (sq rs ow b a j) = (ow b (sq rs ow b a j) - 1) + 1 := by omega
  obtain ⟨h1, h2, h3, h4⟩ := w.turn e
  exact ⟨by rw [e]; exact h2, h3⟩
/-- turns can be taken back -/
theorem Wf.sq_inj (w : Wf rs ow) {b a a2 : Nat} {i j : Nat} (hi : ow b (sq rs ow b a i) ≠ 0) (hj : ow b (sq rs ow b a2 j) ≠ 0) (e : sq rs ow b a (i + 1) = sq rs ow b a2 (j + 1)) : sq rs ow b a i = sq rs ow b a2 j := by
  have h1 := w.sq_in hi
  have h2 := w.sq_in hj
  rw [e, h2.1] at h1
  rw [← h1.2, ← h2.2, h1.1]
theorem Wf.sq_back (w : Wf rs ow) {b a a2 : Nat} : ∀ {i j : Nat}, (∀ k, k < i → ow b (sq rs ow b a k) ≠ 0) → (∀ k, k < i + j → ow b (sq rs ow b a2 k) ≠ 0) → sq rs ow b a i = sq rs ow b a2 (i + j) → a = sq rs ow b a2 j := by
  intro i
  induction i with
  | zero => intro j _ _ e; rw [Nat.zero_add] at e; exact e
  | succ i ih =>
    intro j h1 h2 e
    refine ih (fun k hk => h1 k (by omega)) (fun k hk => h2 k (by omega)) ?_
    rw [show i + 1 + j = i + j + 1 by omega] at e
    exact w.sq_inj (h1 i (by omega)) (h2 (i + j) (by omega)) e
theorem Wf.dist (w : Wf rs ow) {b a n : Nat} (h0 : ow a b = 0) (h : ∀ k, k < n → ow b (sq rs ow b a k) ≠ 0) : ∀ i j, i < j → j ≤ n → sq rs ow b a i ≠ sq rs ow b a j := by
  intro i j hij hj e
  obtain ⟨d, rfl⟩ : ∃ d, j = i + (d + 1) := ⟨j - i - 1, by omega⟩
  have e2 := w.sq_back (fun k hk => h k (by omega)) (fun k hk => h k (by omega)) e
  have h3 := w.sq_in (h d (by omega))
  rw [← e2, h0] at h3
  exact h d (by omega) h3.1.symm
theorem wf_NX (w : Wf rs ow) (hp : ∀ f p, f < 160 → p ∈ rs f → p < 100) : NX rs ow := by
  intro u v hu hv ho
  have hin : ∀ j, (∀ k, k < j → ow v (sq rs ow v u k) ≠ 0) → sq rs ow v u j < 100 ∧ ow (sq rs ow v u j) v = (if j = 0 then 0 else ow (sq rs ow v u j) v) ∧ (0 < j → ow (sq rs ow v u j) v ≠ 0) := by
    intro j h
    cases j with
    | zero => exact ⟨hu, by rw [if_pos rfl]; exact ho.1, fun z => absurd z (by omega)⟩
    | succ j =>
      have hne := h j (by omega)
      have e : ow v (sq rs ow v u j) = (ow v (sq rs ow v u j) - 1) + 1 := by omega
      obtain ⟨h1, h2, h3, h4⟩ := w.turn e
      exact ⟨hp _ _ h1 h4, by rw [if_neg (by omega)], fun _ => by rw [(w.sq_in hne).1]; exact hne⟩
  rcases nO_seq rs ow v u 100 0 with ⟨j, hj, h1, h2, h3⟩ | h
  · rw [Nat.zero_add] at h1 h3
    have h2' : ∀ k, k < j → ow v (sq rs ow v u k) ≠ 0 := fun k hk => by have := h2 k hk; rwa [Nat.zero_add] at this
    have hj0 : 0 < j := by
      cases j with
      | zero => exact absurd h1 ho.2
      | succ j => omega
    have hh := hin j h2'
    have hx : nO rs ow v 100 u = some (sq rs ow v u j) := h3
    unfold nx
    rw [hx]
    exact ⟨rfl, hh.1, h1, hh.2.2 hj0⟩
  · have h' : ∀ k, k < 100 → ow v (sq rs ow v u k) ≠ 0 := fun k hk => by have := h k hk; rwa [Nat.zero_add] at this
    exact (pig 100 (sq rs ow v u) (w.dist ho.1 h') (fun i hi => (hin i (fun k hk => h' k (by omega))).1)).elim
/-- the next one has just one ahead of it -/
theorem wf_nxinj (w : Wf rs ow) (hp : ∀ f p, f < 160 → p ∈ rs f → p < 100) {u u2 v : Nat} (hu : u < 100) (hu2 : u2 < 100) (hv : v < 100) (h1 : opn ow u v) (h2 : opn ow u2 v) (e : nx rs ow u v = nx rs ow u2 v) : u = u2 := by
  have key : ∀ u u2, u < 100 → u2 < 100 → opn ow u v → opn ow u2 v → nx rs ow u v = nx rs ow u2 v → ∀ i j, (∀ k, k < i → ow v (sq rs ow v u k) ≠ 0) → (∀ k, k < j → ow v (sq rs ow v u2 k) ≠ 0) → sq rs ow v u i = sq rs ow v u2 j → i ≤ j → u = u2 := by
    intro u u2 hu hu2 h1 h2 e i j hi hj e2 hij
    obtain ⟨d, rfl⟩ : ∃ d, j = i + d := ⟨j - i, by omega⟩
    have e3 := w.sq_back hi hj e2
    cases d with
    | zero => exact e3
    | succ d =>
      have h3 := w.sq_in (hj d (by omega))
      rw [← e3, h1.1] at h3
      exact absurd h3.1.symm (hj d (by omega))
  have get : ∀ u, u < 100 → opn ow u v → ∃ j, (∀ k, k < j → ow v (sq rs ow v u k) ≠ 0) ∧ nx rs ow u v = sq rs ow v u j := by
    intro u hu ho
    have hn := (wf_NX w hp u v hu hv ho).1
    rcases nO_seq rs ow v u 100 0 with ⟨j, hj, g1, g2, g3⟩ | g
    · rw [Nat.zero_add] at g3
      refine ⟨j, fun k hk => by have := g2 k hk; rwa [Nat.zero_add] at this, ?_⟩
      have hx : nO rs ow v 100 u = some (sq rs ow v u j) := g3
      rw [hx] at hn
      exact (Option.some.inj hn).symm
    · exfalso
      have h' : ∀ k, k < 100 → ow v (sq rs ow v u k) ≠ 0 := fun k hk => by have := g k hk; rwa [Nat.zero_add] at this
      refine pig 100 (sq rs ow v u) (w.dist ho.1 h') (fun i hi => ?_)
      cases i with
      | zero => exact hu
      | succ i =>
        have hne := h' i (by omega)
        have e : ow v (sq rs ow v u i) = (ow v (sq rs ow v u i) - 1) + 1 := by omega
        obtain ⟨g1, g2, g3, g4⟩ := w.turn e
        exact hp _ _ g1 g4
  obtain ⟨i, hi, ei⟩ := get u hu h1
  obtain ⟨j, hj, ej⟩ := get u2 hu2 h2
  have e2 : sq rs ow v u i = sq rs ow v u2 j := by rw [← ei, ← ej]; exact e
  by_cases c : i ≤ j
  · exact key u u2 hu hu2 h1 h2 e i j hi hj e2 c
  · exact (key u2 u hu2 hu h2 h1 e.symm j i hj hi e2.symm (by omega)).symm
end
