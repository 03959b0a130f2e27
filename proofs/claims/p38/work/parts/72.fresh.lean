theorem lbound (xs : List Nat) : ∃ t, ∀ b ∈ xs, b < t := by
  induction xs with
  | nil => exact ⟨0, by simp⟩
  | cons x xs ih =>
    obtain ⟨t, ht⟩ := ih
    refine ⟨t + x + 1, fun b hb => ?_⟩
    rcases List.mem_cons.mp hb with rfl | h
    · omega
    · have := ht b h; omega
/-- the mesh's own things, by index -/
def CI (i : Nat) : Prop := i < 35 ∨ 64 ≤ i
/-- a mesh on which nothing was done -/
def FRSH (A : Nat → Nat) (M : Mm) : Prop := FT A M (fun _ => []) (fun _ _ => 0) ∧ FN A M 0 0 ∧ PT A M (fun _ => false) (fun _ _ => 0) ∧ PN A M 0 0 ∧ MT A M 0 (fun _ _ => 0) ∧ RG M (A 31) (A 32) [] ∧ RG M (A 33) (A 34) [] ∧ RG M (A 19) (A 20) [] ∧ RG M (A 24) (A 25) []
theorem fresh_of {bs rs : List Nat} {M : Mm} {L : List (Nat × Nat × Nat)} (hl : bs.length = 35) (h : CS bs rs 160 M L) (hr : ∀ r ∈ rfL, r ∈ L) : ∃ A : Nat → Nat, bs[0]? = some (A 0) ∧ FRSH A M ∧ ∀ i, i < 384 → CI i → A i ∈ bs ∨ A i ∈ rs := by
  obtain ⟨t1, ht1⟩ := lbound bs
  obtain ⟨t2, ht2⟩ := lbound rs
  have hrl : rs.length = 320 := h.2.2.2.2.1
  obtain ⟨n1, n2, n3⟩ := h.2.2.1
  generalize hA : (fun i => if i < 35 then bs.getD i 0 else if i < 64 then t1 + t2 + i else rs.getD (i - 64) 0) = A
  have lo : ∀ i, i < 35 → bs[i]? = some (A i) := fun i hi => by
    rw [← hA]
    simp [hi, hl, List.getElem?_eq_getElem]
  have mi : ∀ i, 35 ≤ i → i < 64 → A i = t1 + t2 + i := fun i h1 h2 => by
    rw [← hA]
    simp [show ¬ i < 35 by omega, h2]
  have hi' : ∀ i, 64 ≤ i → i < 384 → rs[i - 64]? = some (A i) := fun i h1 h2 => by
    rw [← hA]
    have : i - 64 < rs.length := by omega
    simp [show ¬ i < 35 by omega, show ¬ i < 64 by omega, List.getElem?_eq_getElem, this]
  have blo : ∀ i, i < 35 → A i < t1 := fun i hi => ht1 _ (List.mem_of_getElem? (lo i hi))
  have bhi : ∀ i, 64 ≤ i → i < 384 → A i < t2 := fun i h1 h2 => ht2 _ (List.mem_of_getElem? (hi' i h1 h2))
  have inj : ∀ i j, i < 384 → j < 384 → A i = A j → i = j := by
    intro i j hi hj e
    by_cases a1 : i < 35
    · by_cases b1 : j < 35
      · exact (List.getElem?_inj (by omega) n1).mp (by rw [lo i a1, lo j b1, e])
      · by_cases b2 : j < 64
        · have := blo i a1; have := mi j (by omega) b2; omega
        · exact absurd e (n3 _ (List.mem_of_getElem? (lo i a1)) _ (List.mem_of_getElem? (hi' j (by omega) hj)))
    · by_cases a2 : i < 64
      · have ei := mi i (by omega) a2
        by_cases b1 : j < 35
        · have := blo j b1; omega
        · by_cases b2 : j < 64
          · have := mi j (by omega) b2; omega
          · have := bhi j (by omega) hj; omega
      · by_cases b1 : j < 35
        · exact absurd e.symm (n3 _ (List.mem_of_getElem? (lo j b1)) _ (List.mem_of_getElem? (hi' i (by omega) hi)))
        · by_cases b2 : j < 64
          · have := bhi i (by omega) hi; have := mi j (by omega) b2; omega
          · have := (List.getElem?_inj (show i - 64 < rs.length by omega) n2 (j := j - 64)).mp (by rw [hi' i (by omega) hi, hi' j (by omega) hj, e])
            omega
  have z : ∀ i, i < 384 → CI i → ∀ j, iM M (A i) j = 0 := by
    intro i hi hc j
    rcases hc with q | q
    · exact (h.1 i _ (lo i q)).2 j
    · exact (h.2.1 _ _ (hi' i q hi)).2 j
  have hrf : ∀ q ∈ rfL, q.1 < 35 ∧ q.2.2 < 35 := by decide
  have sh : Sh A M := by
    refine ⟨inj, fun i k hk => ?_, fun q hq => ?_, fun f hf => ?_⟩
    · have hi : i < 35 := (List.getElem?_eq_some_iff.mp hk).1
      exact h.k i (lo i hi) hk
    · exact h.r q (hr q hq) (lo _ (hrf q hq).1) (lo _ (hrf q hq).2)
    · obtain ⟨q, o, w, g1, g2, g3, g4, g5⟩ := h.2.2.2.2.2 f hf
      have e8 := lo 8 (by omega)
      rw [g1] at e8
      have eo := hi' (64 + 2 * f) (by omega) (by omega)
      rw [show 64 + 2 * f - 64 = 2 * f by omega, g2] at eo
      have ew := hi' (65 + 2 * f) (by omega) (by omega)
      rw [show 65 + 2 * f - 64 = 2 * f + 1 by omega, g3] at ew
      have e8 := Option.some.inj e8
      have eo := Option.some.inj eo
      have ew := Option.some.inj ew
      subst e8
      rw [← eo, ← ew]
      refine ⟨?_, ?_, g4, g5⟩
      · rw [(h.2.1 _ _ g2).1, if_pos (by omega)]
      · rw [(h.2.1 _ _ g3).1, if_neg (by omega)]
  have rg : ∀ i w, i < 384 → w < 384 → CI i → kM M (A i) = (5, 2) → kM M (A w) = (100, 12) → rM M (A i) 0 = some (A w) → RG M (A i) (A w) [] := by
    intro i w hi hw hc k1 k2 r1
    refine ⟨k1, r1, k2, by rw [z i hi hc]; rfl, Nat.zero_le _, fun k x hk => by simp at hk⟩
  refine ⟨A, lo 0 (by omega), ⟨⟨sh, fun f hf => ?_, ?_, fun a b ha hb => ⟨by rw [z 11 (by omega) (Or.inl (by omega))]; rfl, Nat.zero_le _⟩, fun f p hf hp => by simp at hp⟩, ⟨by rw [z 7 (by omega) (Or.inl (by omega))]; rfl, by rw [z 7 (by omega) (Or.inl (by omega))]; rfl, by omega, by omega⟩, ⟨sh, fun p hp => by rw [z 6 (by omega) (Or.inl (by omega))]; rfl, fun ax p hax hp => by rw [z (3 + ax) (by omega) (Or.inl (by omega))]⟩, ⟨by rw [z 1 (by omega) (Or.inl (by omega))]; rfl, by rw [z 1 (by omega) (Or.inl (by omega))]; rfl, by omega, by omega⟩, ⟨sh, by rw [z 12 (by omega) (Or.inl (by omega))]; rfl, by omega, fun a b ha hb => ⟨by rw [z 13 (by omega) (Or.inl (by omega))]; rfl, Nat.zero_le _⟩⟩, ?_, ?_, ?_, ?_⟩, fun i hi hc => ?_⟩
  · exact rg (64 + 2 * f) (65 + 2 * f) (by omega) (by omega) (Or.inr (by omega)) (sh.2.2.2 f hf).1 (sh.2.2.2 f hf).2.1 (sh.2.2.2 f hf).2.2.2
  · exact rg 9 10 (by omega) (by omega) (Or.inl (by omega)) (sh.k 9) (sh.k 10) (sh.r 9 0 10)
  · exact rg 31 32 (by omega) (by omega) (Or.inl (by omega)) (sh.k 31) (sh.k 32) (sh.r 31 0 32)
  · exact rg 33 34 (by omega) (by omega) (Or.inl (by omega)) (sh.k 33) (sh.k 34) (sh.r 33 0 34)
  · exact rg 19 20 (by omega) (by omega) (Or.inl (by omega)) (sh.k 19) (sh.k 20) (sh.r 19 0 20)
  · exact rg 24 25 (by omega) (by omega) (Or.inl (by omega)) (sh.k 24) (sh.k 25) (sh.r 24 0 25)
  · rcases hc with q | q
    · exact Or.inl (List.mem_of_getElem? (lo i q))
    · exact Or.inr (List.mem_of_getElem? (hi' i q hi))
