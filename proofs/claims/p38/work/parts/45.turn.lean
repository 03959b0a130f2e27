section
/-- a ring the other way round -/
def bwN (xs : List Nat) : List Nat := (List.range xs.length).map (fun k => gn xs (xs.length - k))
theorem bwN_len (xs : List Nat) : (bwN xs).length = xs.length := by
  unfold bwN
  rw [List.length_map, List.length_range]
theorem bwN_at {xs : List Nat} {k : Nat} (h : k < xs.length) : gn (bwN xs) k = gn xs (xs.length - k) := by
  refine gn_eq ?_
  unfold bwN
  rw [List.getElem?_map, List.getElem?_range h]
  rfl
theorem bwN_map (xs : List Nat) : (bwN xs).map nI = bwd (xs.map nI) (xs.map nI).length := by
  refine List.ext_getElem? (fun k => ?_)
  rw [List.length_map]
  by_cases hk : k < xs.length
  · rw [bwd_get hk, List.length_map, gt_map (by omega), List.getElem?_map]
    unfold bwN
    rw [List.getElem?_map, List.getElem?_range hk]
    rfl
  · rw [List.getElem?_eq_none (by rw [List.length_map, bwN_len]; omega), List.getElem?_eq_none (by rw [bwd_len]; omega)]
theorem bwN_hv (xs : List Nat) (u v : Nat) : hvk (bwN xs) (bwN xs).length u v ↔ hvk xs xs.length v u := by
  rw [bwN_len]
  have nx : ∀ k, k < xs.length → gn (bwN xs) (k + 1) = gn xs (xs.length - k - 1) := fun k hk => by
    by_cases z : k + 1 < xs.length
    · rw [bwN_at z, show xs.length - (k + 1) = xs.length - k - 1 by omega]
    · have e := gn_add (bwN xs) 0
      rw [bwN_len, Nat.zero_add] at e
      rw [show k + 1 = xs.length by omega, e, bwN_at (by omega), show xs.length - 0 = 0 + xs.length by omega, gn_add, show xs.length - k - 1 = 0 by omega]
  constructor
  · intro ⟨k, hk, e1, e2⟩
    rw [bwN_at hk] at e1
    rw [nx k hk] at e2
    exact ⟨xs.length - k - 1, by omega, e2, by rw [show xs.length - k - 1 + 1 = xs.length - k by omega]; exact e1⟩
  · intro ⟨i, hi, e1, e2⟩
    refine ⟨xs.length - 1 - i, by omega, ?_, ?_⟩
    · rw [bwN_at (by omega), show xs.length - (xs.length - 1 - i) = i + 1 by omega]
      exact e2
    · rw [nx _ (by omega), show xs.length - (xs.length - 1 - i) - 1 = i by omega]
      exact e1
theorem bwN_nil {xs : List Nat} (h : xs = []) : bwN xs = xs := by
  subst h
  rfl
theorem bwN_mem {xs : List Nat} {p : Nat} (h : p ∈ bwN xs) : p ∈ xs := by
  unfold bwN at h
  obtain ⟨k, hk, e⟩ := List.mem_map.mp h
  have := List.mem_range.mp hk
  exact e ▸ gn_mem (by omega)
theorem bwN_dist {xs : List Nat} (w : ∀ i j, i < xs.length → j < xs.length → gn xs i = gn xs j → i = j) : ∀ i j, i < (bwN xs).length → j < (bwN xs).length → gn (bwN xs) i = gn (bwN xs) j → i = j := by
  intro i j hi hj e
  rw [bwN_len] at hi hj
  rw [bwN_at hi, bwN_at hj] at e
  have red : ∀ k, k < xs.length → gn xs (xs.length - k) = gn xs (if k = 0 then 0 else xs.length - k) := fun k hk => by
    by_cases z : k = 0
    · rw [if_pos z, z, show xs.length - 0 = 0 + xs.length by omega, gn_add]
    · rw [if_neg z]
  rw [red i hi, red j hj] at e
  have := w _ _ (by split <;> omega) (by split <;> omega) e
  split at this <;> split at this <;> omega
variable {A : Nat → Nat} {M M' : Mm} {B : Nat} {rs rs2 : Nat → List Nat} {ow ow2 : Nat → Nat → Nat} {th : Nat → Bool} {ps : Nat → Nat → Int32} {fe fl pe pl : Nat} {Cc Zz : Nat}
theorem turn_dj (w : Wf rs ow) : Dj (fun f => bwN (rs f)) := by
  intro g g2 a b hg hg2 h1 h2
  have q1 := (w.1 b a g).mpr ⟨hg, (bwN_hv _ _ _).mp h1⟩
  have q2 := (w.1 b a g2).mpr ⟨hg2, (bwN_hv _ _ _).mp h2⟩
  omega
theorem o_turn {Q : Int32 → Mm → Prop} (h : SD A M B rs ow th ps fe fl pe pl) (g : Gd rs ow th ps fe fl pe pl) (q : ∀ M' rs' ow', SD A M' B rs' ow' th ps fe fl pe pl → Gd rs' ow' th ps fe fl pe pl → Q (nI fl) M') : T_X8_turn M (A 0) Q := by
  unfold T_X8_turn
  intro K hK
  have hfe := h.2.1.2.2.1
  have dj := turn_dj g.1
  have key : ∀ d f M2 rs2 ow2, f + d = fe → SD A M2 B rs2 ow2 th ps fe fl pe pl → Bt rs2 ow2 (fun k => k < f) (fun k => bwN (rs k)) → (∀ k, f ≤ k → rs2 k = rs k) → (∀ k, k < f → rs2 k = bwN (rs k)) → K (A 0) (nI f) M2 := by
    intro d
    induction d with
    | zero =>
      intro f M2 rs2 ow2 hd s2 b2 k1 k2
      have all : ∀ k, rs2 k = bwN (rs k) := fun k => by
        by_cases z : k < f
        · exact k2 k z
        · rw [k1 k (by omega), bwN_nil (g.2.2.1 k (by omega))]
      have W : Wf rs2 ow2 := b2.fin dj (fun k _ _ => all k) (fun k i j hk hi hj e => bwN_dist (fun i j hi hj e => g.1.2 k i j hk hi hj e) i j hi hj e)
      have g2 : Gd rs2 ow2 th ps fe fl pe pl := by
        refine ⟨W, fun k => ?_, fun k hk => ?_, ?_, g.2.2.2.2.1, g.2.2.2.2.2.1, fun k p hp => ?_, g.2.2.2.2.2.2.2⟩
        · rw [all k, bwN_len]
          rcases g.2.1 k with z | z
          · rw [z]; exact Or.inl rfl
          · exact Or.inr z
        · rw [all k, bwN_nil (g.2.2.1 k hk)]
          exact g.2.2.1 k hk
        · rw [g.2.2.2.1]
          refine sumN_same (fun k _ => ?_)
          show (if rs k = [] then 0 else 1) = if rs2 k = [] then 0 else 1
          rw [all k]
          by_cases z : rs k = []
          · rw [if_pos z, bwN_nil z, if_pos z]
          · rw [if_neg z, if_neg (fun y => z (List.eq_nil_of_length_eq_zero (by rw [← bwN_len, y]; rfl)))]
        · rw [all k] at hp
          exact g.2.2.2.2.2.2.1 k p (bwN_mem hp)
      refine hK _ _ _ ⟨s2.sh.k 0, A 7, s2.sh.r 0 1 7, s2.sh.k 7, t_fever s2 ⟨fun _ => ⟨s2.sh.k 0, A 7, s2.sh.r 0 1 7, s2.sh.k 7, t_fleft s2 (q M2 rs2 ow2 s2 g2)⟩, fun z => absurd (nI_le (by omega) (by omega)) z⟩⟩
    | succ d ih =>
      intro f M2 rs2 ow2 hd s2 b2 k1 k2
      have hf : f < 160 := by omega
      have ef : rs2 f = rs f := k1 f (Nat.le_refl _)
      refine hK _ _ _ ⟨s2.sh.k 0, A 7, s2.sh.r 0 1 7, s2.sh.k 7, t_fever s2 ⟨fun z => absurd z (nI_ge (by omega) (by omega)), fun _ => ⟨s2.sh.k 0, A 7, s2.sh.r 0 1 7, s2.sh.k 7, ?_⟩⟩⟩
      refine t_has s2.1 (fun f2 hf2 e2 ne => ⟨fun z => absurd z (by decide), fun _ => ?_⟩) (fun n => ⟨fun _ => ?_, fun z => absurd rfl z⟩)
      · have hl := s2.1.len hf
        obtain ⟨xs, hx⟩ := s2.2.2.2.2.2 31 (Or.inl rfl)
        refine ⟨s2.sh.k 0, A 31, s2.sh.r 0 6 31, s2.sh.k 0, A 7, s2.sh.r 0 1 7, s2.sh.k 7, t_ring s2.1 hf ⟨s2.sh.k 31, t_copyBackwards hx (s2.1.2.1 f hf) (s2.sh.ne (by omega) (by omega) (by omega)) (s2.sh.ne (by omega) (by omega) (by omega)) (fun M3 c3 r3 => ?_)⟩⟩
        rw [← bwN_map, ef] at r3
        have c3' := c3.two (A := A) (by omega) (by omega)
        have s3 : SD A M3 B rs2 ow2 th ps fe fl pe pl := s2.go c3' (fun i z => by omega) (s2.2.2.2.2.rg s2.sh c3' (Or.inl rfl) (fun i z => z) r3)
        refine ⟨s3.sh.k 0, A 7, s3.sh.r 0 1 7, s3.sh.k 0, A 31, s3.sh.r 0 6 31, s3.sh.k 7, t_reshape s3.1 hf (by omega) (by omega) r3 (fun p hp => h.1.2.2.2.2 f p hf (bwN_mem hp)) (fun M4 c4 f4 => ?_)⟩
        have s4 := s3.face c4 (fun i z => by omega) f4 (s3.2.1.go s3.sh c4 (by omega))
        rw [nI_1]
        refine ih (f + 1) M4 _ _ (by omega) s4 ((b2.step dj hf rfl).mono (fun k _ => ⟨fun z => by omega, fun z => by omega⟩)) (fun k hk => ?_) (fun k hk => ?_)
        · unfold upr
          rw [if_neg (by omega)]
          exact k1 k (by omega)
        · unfold upr
          by_cases z : k = f
          · rw [if_pos z, z]
          · rw [if_neg z]
            exact k2 k (by omega)
      · have e0 : rs2 f = [] := n f hf rfl
        rw [nI_1]
        refine ih (f + 1) M2 rs2 ow2 (by omega) s2 ⟨b2.1, fun k hk hd => ?_, fun k a b hk hv => ?_⟩ (fun k hk => k1 k (by omega)) (fun k hk => ?_)
        · by_cases z : k = f
          · show rs2 k = bwN (rs k)
            rw [z, e0, ← ef, e0]
            rfl
          · exact b2.2.1 k hk (by omega)
        · rcases b2.2.2 k a b hk hv with z | ⟨z1, g2, z2, z3, z4⟩
          · exact Or.inl z
          · refine Or.inr ⟨fun y => ?_, g2, z2, by omega, z4⟩
            have : k = f := by omega
            subst this
            rw [e0] at hv
            obtain ⟨i, hi, _⟩ := hv
            exact absurd hi (Nat.not_lt_zero _)
        · by_cases z : k = f
          · rw [z, e0, ← ef, e0]
            rfl
          · exact k2 k (by omega)
  have := key fe 0 M rs ow (by omega) h ((Bt.start g.1).mono (fun k _ => ⟨fun z => z.elim, fun z => absurd z (Nat.not_lt_zero _)⟩)) (fun k _ => rfl) (fun k hk => absurd hk (Nat.not_lt_zero _))
  rw [nI_0] at this
  exact this
end
