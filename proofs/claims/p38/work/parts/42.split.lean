section
/-- a ring with m behind place k -/
def insF (xs : List Nat) (k m i : Nat) : Nat := if i ≤ k then gn xs i else if i = k + 1 then m else gn xs (i - 1)
def insL (xs : List Nat) (k m c : Nat) : List Nat := (List.range c).map (insF xs k m)
theorem insL_len (xs : List Nat) (k m c : Nat) : (insL xs k m c).length = c := by
  unfold insL
  rw [List.length_map, List.length_range]
theorem insL_suc (xs : List Nat) (k m c : Nat) : insL xs k m (c + 1) = insL xs k m c ++ [insF xs k m c] := by
  unfold insL
  rw [List.range_succ, List.map_append]
  rfl
theorem insL_at {xs : List Nat} {k m c i : Nat} (h : i < c) : gn (insL xs k m c) i = insF xs k m i := by
  unfold gn
  rw [insL_len, Nat.mod_eq_of_lt h]
  unfold insL
  rw [List.getElem?_map, List.getElem?_range h]
  rfl
theorem insL_mem {xs : List Nat} {k m c p : Nat} (hn : 0 < xs.length) (h : p ∈ insL xs k m c) : p = m ∨ p ∈ xs := by
  unfold insL at h
  obtain ⟨i, -, e⟩ := List.mem_map.mp h
  subst e
  unfold insF
  split
  · exact Or.inr (gn_mem hn)
  · split
    · exact Or.inl rfl
    · exact Or.inr (gn_mem hn)
variable {A : Nat → Nat} {M M' : Mm} {B : Nat} {rs rs2 : Nat → List Nat} {ow ow2 : Nat → Nat → Nat} {th : Nat → Bool} {ps : Nat → Nat → Int32} {fe fl pe pl : Nat} {Cc Zz : Nat}
theorem ins_hv (w : Wf rs ow) {f k m : Nat} (hf : f < 160) (hk : k < (rs f).length) (hm : m ∉ rs f) (u v : Nat) :
    hvk (insL (rs f) k m ((rs f).length + 1)) ((rs f).length + 1) u v ↔ (hvk (rs f) (rs f).length u v ∧ ¬ (u = gn (rs f) k ∧ v = gn (rs f) (k + 1))) ∨ (u = gn (rs f) k ∧ v = m) ∨ (u = m ∧ v = gn (rs f) (k + 1)) := by
  have hn : 0 < (rs f).length := by omega
  have hl := insL_len (rs f) k m ((rs f).length + 1)
  have last : gn (insL (rs f) k m ((rs f).length + 1)) ((rs f).length + 1) = gn (rs f) 0 := by
    have := gn_add (insL (rs f) k m ((rs f).length + 1)) 0
    rw [hl, Nat.zero_add] at this
    rw [this, insL_at (by omega)]
    unfold insF
    rw [if_pos (Nat.zero_le _)]
  have inj : ∀ i j, i < (rs f).length → j < (rs f).length → gn (rs f) i = gn (rs f) j → i = j := fun i j hi hj e => w.2 f i j hf hi hj e
  constructor
  · intro ⟨i, hi, e1, e2⟩
    rw [insL_at hi] at e1
    unfold insF at e1
    by_cases a : i < k
    · rw [if_pos (by omega)] at e1
      rw [insL_at (by omega)] at e2
      unfold insF at e2
      rw [if_pos (by omega)] at e2
      refine Or.inl ⟨⟨i, by omega, e1, e2⟩, fun z => ?_⟩
      have := inj i k (by omega) hk (e1.trans z.1)
      omega
    · by_cases b : i = k
      · subst b
        rw [if_pos (Nat.le_refl _)] at e1
        rw [insL_at (by omega)] at e2
        unfold insF at e2
        rw [if_neg (by omega), if_pos rfl] at e2
        exact Or.inr (Or.inl ⟨e1.symm, e2.symm⟩)
      · rw [if_neg (by omega)] at e1
        by_cases c : i = k + 1
        · rw [if_pos c] at e1
          refine Or.inr (Or.inr ⟨e1.symm, ?_⟩)
          by_cases d : i + 1 < (rs f).length + 1
          · rw [insL_at d] at e2
            unfold insF at e2
            rw [if_neg (by omega), if_neg (by omega), show i + 1 - 1 = k + 1 by omega] at e2
            exact e2.symm
          · have : i + 1 = (rs f).length + 1 := by omega
            rw [this, last] at e2
            rw [show k + 1 = 0 + (rs f).length by omega, gn_add]
            exact e2.symm
        · rw [if_neg c] at e1
          refine Or.inl ⟨⟨i - 1, by omega, e1, ?_⟩, fun z => ?_⟩
          · by_cases d : i + 1 < (rs f).length + 1
            · rw [insL_at d] at e2
              unfold insF at e2
              rw [if_neg (by omega), if_neg (by omega), show i + 1 - 1 = i - 1 + 1 by omega] at e2
              exact e2
            · have : i + 1 = (rs f).length + 1 := by omega
              rw [this, last] at e2
              rw [show i - 1 + 1 = 0 + (rs f).length by omega, gn_add]
              exact e2
          · have := inj (i - 1) k (by omega) hk (e1.trans z.1)
            omega
  · intro z
    rcases z with ⟨⟨i, hi, e1, e2⟩, n⟩ | ⟨e1, e2⟩ | ⟨e1, e2⟩
    · by_cases a : i < k
      · refine ⟨i, by omega, ?_, ?_⟩
        · rw [insL_at (by omega)]; unfold insF; rw [if_pos (by omega)]; exact e1
        · rw [insL_at (by omega)]; unfold insF; rw [if_pos (by omega)]; exact e2
      · have b : i ≠ k := fun y => n ⟨by rw [← e1, y], by rw [← e2, y]⟩
        refine ⟨i + 1, by omega, ?_, ?_⟩
        · rw [insL_at (by omega)]; unfold insF; rw [if_neg (by omega), if_neg (by omega)]; exact e1
        · by_cases d : i + 1 + 1 < (rs f).length + 1
          · rw [insL_at d]; unfold insF; rw [if_neg (by omega), if_neg (by omega), show i + 1 + 1 - 1 = i + 1 by omega]; exact e2
          · rw [show i + 1 + 1 = (rs f).length + 1 by omega, last, ← e2, show i + 1 = 0 + (rs f).length by omega, gn_add]
    · refine ⟨k, by omega, ?_, ?_⟩
      · rw [insL_at (by omega)]; unfold insF; rw [if_pos (Nat.le_refl _)]; exact e1.symm
      · rw [insL_at (by omega)]; unfold insF; rw [if_neg (by omega), if_pos rfl]; exact e2.symm
    · refine ⟨k + 1, by omega, ?_, ?_⟩
      · rw [insL_at (by omega)]; unfold insF; rw [if_neg (by omega), if_pos rfl]; exact e1.symm
      · by_cases d : k + 1 + 1 < (rs f).length + 1
        · rw [insL_at d]; unfold insF; rw [if_neg (by omega), if_neg (by omega), show k + 1 + 1 - 1 = k + 1 by omega]; exact e2.symm
        · rw [show k + 1 + 1 = (rs f).length + 1 by omega, last, e2, show k + 1 = 0 + (rs f).length by omega, gn_add]
/-- one face of a split edge -/
theorem ins_data (g : Gd rs ow th ps fe fl pe pl) {f k m : Nat} (hf : f < 160) (hk : k < (rs f).length) (hm : m ∉ rs f) (hf1 : ow (gn (rs f) k) m = 0) (hf2 : ow m (gn (rs f) (k + 1)) = 0) (ht : th m = true) :
    Gd (upr rs f (insL (rs f) k m ((rs f).length + 1))) (rshT f (rs f) (insL (rs f) k m ((rs f).length + 1)) ow) th ps fe fl pe pl ∧
    ∀ u v, Hv (upr rs f (insL (rs f) k m ((rs f).length + 1))) u v ↔ (Hv rs u v ∧ ¬ (u = gn (rs f) k ∧ v = gn (rs f) (k + 1))) ∨ (u = gn (rs f) k ∧ v = m) ∨ (u = m ∧ v = gn (rs f) (k + 1)) := by
  have hn : 0 < (rs f).length := by omega
  have hne : rs f ≠ [] := fun z => by rw [z] at hk; exact absurd hk (Nat.not_lt_zero _)
  have hl := insL_len (rs f) k m ((rs f).length + 1)
  have hv := fun u v => ins_hv g.1 hf hk hm u v
  have h3 := (g.2.1 f).resolve_left hne
  have inj : ∀ i j, i < (rs f).length → j < (rs f).length → gn (rs f) i = gn (rs f) j → i = j := fun i j hi hj e => g.1.2 f i j hf hi hj e
  have nin : ∀ i, gn (rs f) i ≠ m := fun i e => hm (e ▸ gn_mem hn)
  refine ⟨g.re hf hne (by omega) (fun i j hi hj e => ?_) (fun u v z => ?_) (fun p hp => ?_), fun u v => ?_⟩
  · rw [hl] at hi hj
    rw [insL_at hi, insL_at hj] at e
    unfold insF at e
    by_cases a : i ≤ k
    · rw [if_pos a] at e
      by_cases b : j ≤ k
      · rw [if_pos b] at e
        exact inj i j (by omega) (by omega) e
      · rw [if_neg b] at e
        by_cases c : j = k + 1
        · rw [if_pos c] at e
          exact absurd e (nin i)
        · rw [if_neg c] at e
          have := inj i (j - 1) (by omega) (by omega) e
          omega
    · rw [if_neg a] at e
      by_cases a2 : i = k + 1
      · rw [if_pos a2] at e
        by_cases b : j ≤ k
        · rw [if_pos b] at e
          exact absurd e.symm (nin j)
        · rw [if_neg b] at e
          by_cases c : j = k + 1
          · omega
          · rw [if_neg c] at e
            exact absurd e.symm (nin (j - 1))
      · rw [if_neg a2] at e
        by_cases b : j ≤ k
        · rw [if_pos b] at e
          have := inj (i - 1) j (by omega) (by omega) e
          omega
        · rw [if_neg b] at e
          by_cases c : j = k + 1
          · rw [if_pos c] at e
            exact absurd e (nin (i - 1))
          · rw [if_neg c] at e
            have := inj (i - 1) (j - 1) (by omega) (by omega) e
            omega
  · rw [hl] at z
    rcases (hv u v).mp z with y | ⟨e1, e2⟩ | ⟨e1, e2⟩
    · exact Or.inr ((g.1.1 u v f).mpr ⟨hf, y.1⟩)
    · rw [e1, e2]
      exact Or.inl hf1
    · rw [e1, e2]
      exact Or.inl hf2
  · rcases insL_mem hn hp with e | e
    · rw [e]; exact ht
    · exact g.2.2.2.2.2.2.1 f p e
  · rw [Hv_up hf, hl, hv, Hv_oth g.1 hf]
    have hown : hvk (rs f) (rs f).length (gn (rs f) k) (gn (rs f) (k + 1)) := ⟨k, hk, rfl, rfl⟩
    constructor
    · intro z
      rcases z with (⟨y, n⟩ | y) | ⟨y, n⟩
      · exact Or.inl ⟨⟨f, hf, y⟩, n⟩
      · exact Or.inr y
      · exact Or.inl ⟨y, fun e => n (by rw [e.1, e.2]; exact hown)⟩
    · intro z
      rcases z with ⟨y, n⟩ | y
      · by_cases o : hvk (rs f) (rs f).length u v
        · exact Or.inl (Or.inl ⟨o, n⟩)
        · exact Or.inr ⟨y, o⟩
      · exact Or.inl (Or.inr y)
/-- the machine's own: putAfter -/
theorem t_putAfter {f k a m : Nat} {Q : Mm → Prop} (h : SD A M B rs ow th ps fe fl pe pl) (w : Wf rs ow) (hf : f < 160) (hk : k < (rs f).length) (ea : gn (rs f) k = a) (hm : m < 100) (hl : (rs f).length < 12) (q : ∀ M', SD A M' B (upr rs f (insL (rs f) k m ((rs f).length + 1))) (rshT f (rs f) (insL (rs f) k m ((rs f).length + 1)) ow) th ps fe fl pe pl → Q M') : T_X8_putAfter M (A 0) (nI f) (nI a) (nI m) Q := by
  unfold T_X8_putAfter
  intro K hK
  have hne : rs f ≠ [] := fun z => by rw [z] at hk; exact absurd hk (Nat.not_lt_zero _)
  have hbd : ∀ i, gn (rs f) i < 100 := fun i => h.1.2.2.2.2 f _ hf (gn_mem (by omega))
  have key : ∀ d i M2, i + d = (rs f).length → SD A M2 B rs ow th ps fe fl pe pl → RG M2 (A 31) (A 32) ((insL (rs f) k m (if i ≤ k then i else i + 1)).map nI) → K (A 0) (nI f) (nI a) (nI m) (A (64 + 2 * f)) (nI i) M2 := by
    intro d
    induction d with
    | zero =>
      intro i M2 hi s2 r2
      rw [if_neg (by omega), show i = (rs f).length by omega] at r2
      refine hK _ _ _ _ _ _ _ ⟨(s2.1.2.1 f hf).1, t_length (s2.1.2.1 f hf) ?_⟩
      rw [List.length_map]
      refine ⟨fun _ => ⟨s2.sh.k 0, A 7, s2.sh.r 0 1 7, s2.sh.k 0, A 31, s2.sh.r 0 6 31, s2.sh.k 7, t_reshape s2.1 hf (by omega) (by omega) r2 (fun p hp => ?_) (fun M3 c3 f3 => q M3 (s2.face c3 (fun i z => by omega) f3 (s2.2.1.go s2.sh c3 (by omega))))⟩, fun z => absurd (nI_le (by omega) (by omega)) z⟩
      rcases insL_mem (by omega) hp with e | e
      · rw [e]; exact hm
      · exact h.1.2.2.2.2 f p hf e
    | succ d ih =>
      intro i M2 hi s2 r2
      refine hK _ _ _ _ _ _ _ ⟨(s2.1.2.1 f hf).1, t_length (s2.1.2.1 f hf) ?_⟩
      rw [List.length_map]
      refine ⟨fun z => absurd z (nI_ge (by omega) (by omega)), fun _ => ⟨s2.sh.k 0, A 31, s2.sh.r 0 6 31, (s2.1.2.1 f hf).1, t_gt (s2.1.2.1 f hf) (by omega) ?_⟩⟩
      rw [gt_map (by omega)]
      have hc12 : (if i ≤ k then i else i + 1) < 12 := by split <;> omega
      refine ⟨s2.sh.k 31, t_add r2 (by rw [List.length_map, insL_len]; exact hc12) (fun M3 c3 r3 => ?_)⟩
      have c3' := c3.two (A := A) (by omega) (by omega)
      have s3 : SD A M3 B rs ow th ps fe fl pe pl := s2.go c3' (fun i z => by omega) (s2.2.2.2.2.rg s2.sh c3' (Or.inl rfl) (fun i z => z) r3)
      have e3 : (insL (rs f) k m (if i ≤ k then i else i + 1)).map nI ++ [nI (gn (rs f) i)] = (insL (rs f) k m ((if i ≤ k then i else i + 1) + 1)).map nI := by
        rw [insL_suc, List.map_append]
        congr 1
        show [nI (gn (rs f) i)] = [nI (insF (rs f) k m (if i ≤ k then i else i + 1))]
        unfold insF
        by_cases z : i ≤ k
        · rw [if_pos z, if_pos z]
        · rw [if_neg z, if_neg (by omega), if_neg (by omega), show i + 1 - 1 = i by omega]
      rw [e3] at r3
      refine ⟨(s3.1.2.1 f hf).1, t_gt (s3.1.2.1 f hf) (by omega) ?_⟩
      rw [gt_map (by omega), nI_1]
      refine ⟨fun z => ih (i + 1) M3 (by omega) s3 ?_, fun z => ?_⟩
      · have hik : i ≠ k := fun y => z (by rw [y, ea])
        have e4 : (if i + 1 ≤ k then i + 1 else i + 1 + 1) = (if i ≤ k then i else i + 1) + 1 := by
          by_cases y : i ≤ k
          · rw [if_pos y, if_pos (by omega)]
          · rw [if_neg y, if_neg (by omega)]
        rw [e4]
        exact r3
      · have hik : i = k := by
          have e5 : gn (rs f) i = a := (nI_eq (by have := hbd i; omega) (by have := hbd k; omega)).mp z
          exact w.2 f i k hf (by omega) hk (e5.trans ea.symm)
        subst hik
        rw [if_pos (Nat.le_refl _)] at r3
        refine ⟨s3.sh.k 0, A 31, s3.sh.r 0 6 31, s3.sh.k 31, t_add r3 (by rw [List.length_map, insL_len]; omega) (fun M4 c4 r4 => ?_)⟩
        have c4' := c4.two (A := A) (by omega) (by omega)
        have s4 : SD A M4 B rs ow th ps fe fl pe pl := s3.go c4' (fun i z => by omega) (s3.2.2.2.2.rg s3.sh c4' (Or.inl rfl) (fun i z => z) r4)
        refine ih (i + 1) M4 (by omega) s4 ?_
        rw [if_neg (by omega), insL_suc, List.map_append]
        have e6 : insF (rs f) i m (i + 1) = m := by
          unfold insF
          rw [if_neg (by omega), if_pos rfl]
        rw [e6]
        exact r4
  obtain ⟨xs, hx⟩ := h.2.2.2.2.2 31 (Or.inl rfl)
  refine ⟨h.sh.k 0, A 7, h.sh.r 0 1 7, h.sh.k 7, t_has h.1 (fun f2 hf2 e2 ne2 => ⟨fun _ => ?_, fun z => absurd z (by decide)⟩) (fun n => absurd (n f hf rfl) hne)⟩
  refine ⟨h.sh.k 0, A 7, h.sh.r 0 1 7, h.sh.k 7, t_ring h.1 hf ⟨h.sh.k 0, A 31, h.sh.r 0 6 31, h.sh.k 31, t_clear hx (fun M2 c2 r2 => ?_)⟩⟩
  have c2' := c2.two (A := A) (by omega) (by omega)
  have s2 : SD A M2 B rs ow th ps fe fl pe pl := h.go c2' (fun i z => by omega) (h.2.2.2.2.rg h.sh c2' (Or.inl rfl) (fun i z => z) r2)
  have := key (rs f).length 0 M2 (by omega) s2 (by rw [if_pos (Nat.zero_le _)]; exact r2)
  rw [nI_0] at this
  exact this
theorem t_putAfter0 {a m : Int32} {Q : Mm → Prop} (h : SD A M B rs ow th ps fe fl pe pl) (q : Q M) : T_X8_putAfter M (A 0) (-1) a m Q := by
  unfold T_X8_putAfter
  intro K hK
  refine ⟨h.sh.k 0, A 7, h.sh.r 0 1 7, h.sh.k 7, t_has h.1 (fun f hf e ne => absurd e.symm (nI_ne1 (by omega))) (fun _ => ⟨fun z => absurd rfl z, fun _ => q⟩)⟩
end
section
variable {A : Nat → Nat} {M M' : Mm} {B : Nat} {rs rs2 : Nat → List Nat} {ow ow2 : Nat → Nat → Nat} {th : Nat → Bool} {ps : Nat → Nat → Int32} {fe fl pe pl : Nat} {Cc Zz : Nat}
theorem n_rir {F : Nat} {Q : Int32 → Prop} (h : SD A M B rs ow th ps fe fl pe pl) (hF : F ≤ 160) (q1 : (∀ f, F = f + 1 → (rs f).length < 12) → Q 1) (q0 : Q 0) : T_X8_hasRoomInRing M (A 0) (oi F) Q := by
  unfold T_X8_hasRoomInRing
  refine ⟨h.sh.k 0, A 7, h.sh.r 0 1 7, h.sh.k 7, ?_⟩
  cases F with
  | zero =>
    rw [oi_0]
    refine t_ring_out h.1 (Or.inl (by decide)) ⟨h.1.2.2.1.1, t_length h.1.2.2.1 ⟨fun z => absurd z (by decide), fun _ => q1 (fun f e => by omega)⟩⟩
  | succ f =>
    rw [oi_s]
    have hl := h.1.len (show f < 160 by omega)
    refine t_ring h.1 (by omega) ⟨(h.1.2.1 f (by omega)).1, t_length (h.1.2.1 f (by omega)) ?_⟩
    rw [List.length_map]
    refine ⟨fun _ => q0, fun z => q1 (fun f2 e => ?_)⟩
    have : f2 = f := by omega
    subst this
    refine Classical.byContradiction (fun w => z ?_)
    show nI 12 ≤ _
    exact nI_le (by omega) (by omega)
/-- where a half stands in its face's ring -/
theorem half_at_ring (w : Wf rs ow) {a b f : Nat} (e : ow a b = f + 1) : f < 160 ∧ ∃ k, k < (rs f).length ∧ gn (rs f) k = a ∧ gn (rs f) (k + 1) = b := by
  obtain ⟨h1, i, h2, h3, h4⟩ := (w.1 a b f).mp e
  exact ⟨h1, i, h2, h3, h4⟩
/-- what a split edge is: the halves -/
def spH (rs rs2 : Nat → List Nat) (a b m : Nat) : Prop := ∀ u v, Hv rs2 u v ↔ (Hv rs u v ∧ ¬ (u = a ∧ v = b) ∧ ¬ (u = b ∧ v = a)) ∨ (Hv rs a b ∧ ((u = a ∧ v = m) ∨ (u = m ∧ v = b))) ∨ (Hv rs b a ∧ ((u = b ∧ v = m) ∨ (u = m ∧ v = a)))
theorem spH.swap {a b m : Nat} (h : spH rs rs2 a b m) : spH rs rs2 b a m := fun u v => by
  rw [h u v]
  constructor
  · intro z
    rcases z with ⟨z1, z2, z3⟩ | z | z
    · exact Or.inl ⟨z1, z3, z2⟩
    · exact Or.inr (Or.inr z)
    · exact Or.inr (Or.inl z)
  · intro z
    rcases z with ⟨z1, z2, z3⟩ | z | z
    · exact Or.inl ⟨z1, z3, z2⟩
    · exact Or.inr (Or.inr z)
    · exact Or.inr (Or.inl z)
theorem split_two {a b m : Nat} (w : Wf rs ow) (w2 : Wf rs2 ow2) (hab : a ≠ b) (ha : a ≠ m) (hb : b ≠ m) (hm : ∀ u, ¬ Hv rs u m ∧ ¬ Hv rs m u) (e1 : Hv rs a b) (e2 : Hv rs b a) (hv : spH rs rs2 a b m) : cntP (fun u v => opn ow2 u v) = cntP (fun u v => opn ow u v) := by
  have n1 : ¬ Hv rs2 a b := fun z => by
    rcases (hv a b).mp z with y | y | y
    · exact y.2.1 ⟨rfl, rfl⟩
    · omega
    · omega
  have n2 : ¬ Hv rs2 b a := fun z => by
    rcases (hv b a).mp z with y | y | y
    · exact y.2.2 ⟨rfl, rfl⟩
    · omega
    · omega
  have p1 : Hv rs2 a m := (hv a m).mpr (Or.inr (Or.inl ⟨e1, Or.inl ⟨rfl, rfl⟩⟩))
  have p2 : Hv rs2 m b := (hv m b).mpr (Or.inr (Or.inl ⟨e1, Or.inr ⟨rfl, rfl⟩⟩))
  have p3 : Hv rs2 b m := (hv b m).mpr (Or.inr (Or.inr ⟨e2, Or.inl ⟨rfl, rfl⟩⟩))
  have p4 : Hv rs2 m a := (hv m a).mpr (Or.inr (Or.inr ⟨e2, Or.inr ⟨rfl, rfl⟩⟩))
  refine opn_same w w2 (fun u v => (u = a ∧ v = b) ∨ (u = b ∧ v = a) ∨ (u = a ∧ v = m) ∨ (u = m ∧ v = a) ∨ (u = b ∧ v = m) ∨ (u = m ∧ v = b)) (fun u v z => by omega) (fun u v z => ?_) (fun u v z => ?_)
  · rw [hv u v]
    constructor
    · intro y
      rcases y with y | y | y
      · exact y.1
      · exact absurd y.2 (by omega)
      · exact absurd y.2 (by omega)
    · intro y
      exact Or.inl ⟨y, by omega, by omega⟩
  · rcases z with ⟨rfl, rfl⟩ | ⟨rfl, rfl⟩ | ⟨rfl, rfl⟩ | ⟨rfl, rfl⟩ | ⟨rfl, rfl⟩ | ⟨rfl, rfl⟩
    · exact ⟨⟨fun _ => e2, fun _ => e1⟩, ⟨fun y => absurd y n1, fun y => absurd y n2⟩⟩
    · exact ⟨⟨fun _ => e1, fun _ => e2⟩, ⟨fun y => absurd y n2, fun y => absurd y n1⟩⟩
    · exact ⟨⟨fun y => absurd y (hm _).1, fun y => absurd y (hm _).2⟩, ⟨fun _ => p4, fun _ => p1⟩⟩
    · exact ⟨⟨fun y => absurd y (hm _).2, fun y => absurd y (hm _).1⟩, ⟨fun _ => p1, fun _ => p4⟩⟩
    · exact ⟨⟨fun y => absurd y (hm _).1, fun y => absurd y (hm _).2⟩, ⟨fun _ => p2, fun _ => p3⟩⟩
    · exact ⟨⟨fun y => absurd y (hm _).2, fun y => absurd y (hm _).1⟩, ⟨fun _ => p3, fun _ => p2⟩⟩
theorem split_one {a b m : Nat} (w : Wf rs ow) (w2 : Wf rs2 ow2) (hab : a ≠ b) (ha : a ≠ m) (hb : b ≠ m) (hl : a < 100 ∧ b < 100 ∧ m < 100) (hm : ∀ u, ¬ Hv rs u m ∧ ¬ Hv rs m u) (e1 : Hv rs a b) (e2 : ¬ Hv rs b a) (hv : spH rs rs2 a b m) : cntP (fun u v => opn ow2 u v) = cntP (fun u v => opn ow u v) + 1 := by
  have o : ∀ u v, opn ow u v ↔ ¬ Hv rs u v ∧ Hv rs v u := opn_hv w
  have o2 : ∀ u v, opn ow2 u v ↔ ¬ Hv rs2 u v ∧ Hv rs2 v u := opn_hv w2
  have hv2 : ∀ u v, Hv rs2 u v ↔ (Hv rs u v ∧ ¬ (u = a ∧ v = b)) ∨ (u = a ∧ v = m) ∨ (u = m ∧ v = b) := fun u v => by
    rw [hv u v]
    constructor
    · intro z
      rcases z with z | z | z
      · exact Or.inl ⟨z.1, z.2.1⟩
      · exact Or.inr z.2
      · exact absurd z.1 e2
    · intro z
      rcases z with z | z
      · refine Or.inl ⟨z.1, z.2, fun y => e2 ?_⟩
        rw [← y.1, ← y.2]
        exact z.1
      · exact Or.inr (Or.inl ⟨e1, z⟩)
  have k1 : cntP (fun u v => opn ow u v) = cntP (fun u v => opn ow u v ∧ ¬ (u = b ∧ v = a)) + 1 := cntP_up (u := b) (v := a) hl.2.1 hl.1 (fun u v n => ⟨fun z => ⟨z, n⟩, fun z => z.1⟩) (fun z => z.2 ⟨rfl, rfl⟩) ((o b a).mpr ⟨e2, e1⟩)
  have k2 : cntP (fun u v => (opn ow u v ∧ ¬ (u = b ∧ v = a)) ∨ (u = m ∧ v = a)) = cntP (fun u v => opn ow u v ∧ ¬ (u = b ∧ v = a)) + 1 := cntP_up (u := m) (v := a) hl.2.2 hl.1 (fun u v n => ⟨fun z => z.resolve_right n, Or.inl⟩) (fun z => (hm a).1 ((o m a).mp z.1).2) (Or.inr ⟨rfl, rfl⟩)
  have k3 : cntP (fun u v => opn ow2 u v) = cntP (fun u v => (opn ow u v ∧ ¬ (u = b ∧ v = a)) ∨ (u = m ∧ v = a)) + 1 := by
    refine cntP_up (u := b) (v := m) hl.2.1 hl.2.2 (fun u v n => ?_) (fun z => ?_) ?_
    · rw [o2, hv2, hv2, o]
      constructor
      · intro ⟨z1, z2⟩
        rcases z2 with z2 | z2 | z2
        · refine Or.inl ⟨⟨fun y => z1 (Or.inl ⟨y, fun x => e2 ?_⟩), z2.1⟩, fun x => z2.2 ⟨x.2, x.1⟩⟩
          rw [x.1, x.2] at z2
          exact z2.1
        · exact Or.inr ⟨z2.2, z2.1⟩
        · exact absurd ⟨z2.2, z2.1⟩ n
      · intro z
        rcases z with ⟨⟨z1, z2⟩, z3⟩ | ⟨z1, z2⟩
        · refine ⟨fun y => ?_, Or.inl ⟨z2, fun x => z3 ⟨x.2, x.1⟩⟩⟩
          rcases y with y | y | y
          · exact z1 y.1
          · rw [y.2] at z2
            exact (hm _).2 z2
          · rw [y.1] at z2
            exact (hm _).1 z2
        · refine ⟨fun y => ?_, Or.inr (Or.inl ⟨z2, z1⟩)⟩
          rw [z1, z2] at y
          rcases y with y | y | y
          · exact (hm _).2 y.1
          · omega
          · omega
    · rcases z with z | z
      · exact (hm b).2 ((o b m).mp z.1).2
      · omega
    · rw [o2, hv2, hv2]
      refine ⟨fun y => ?_, Or.inr (Or.inr ⟨rfl, rfl⟩)⟩
      rcases y with y | y | y
      · exact (hm b).1 y.1
      · omega
      · omega
  omega
end
section
variable {A : Nat → Nat} {M M' : Mm} {B : Nat} {rs rs2 : Nat → List Nat} {ow ow2 : Nat → Nat → Nat} {th : Nat → Bool} {ps : Nat → Nat → Int32} {fe fl pe pl : Nat} {Cc Zz : Nat}
/-- one side of a split edge, by the number of its face as it was told -/
theorem t_put1 {F a b m : Nat} {Q : Mm → Prop} (h : SD A M B rs ow th ps fe fl pe pl) (g : Gd rs ow th ps fe fl pe pl) (hm : m < 100) (ht : th m = true) (hF : (F = 0 ∧ ¬ Hv rs a b) ∨ ∃ f k, F = f + 1 ∧ f < 160 ∧ k < (rs f).length ∧ gn (rs f) k = a ∧ gn (rs f) (k + 1) = b ∧ m ∉ rs f ∧ (rs f).length < 12) (h1 : ow a m = 0) (h2 : ow m b = 0)
    (q : ∀ M' rs' ow', SD A M' B rs' ow' th ps fe fl pe pl → Gd rs' ow' th ps fe fl pe pl → (∀ u v, Hv rs' u v ↔ (Hv rs u v ∧ ¬ (u = a ∧ v = b)) ∨ (Hv rs a b ∧ ((u = a ∧ v = m) ∨ (u = m ∧ v = b)))) → lenF rs' 160 = lenF rs 160 + (if F = 0 then 0 else 1) → (∀ f, F ≠ f + 1 → rs' f = rs f) → Q M') : T_X8_putAfter M (A 0) (oi F) (nI a) (nI m) Q := by
  rcases hF with ⟨rfl, n⟩ | ⟨f, k, rfl, hf, hk, ea, eb, hmf, hl⟩
  · rw [oi_0]
    refine t_putAfter0 h (q M rs ow h g (fun u v => ⟨fun z => Or.inl ⟨z, fun y => n ?_⟩, fun z => ?_⟩) (by rw [if_pos rfl, Nat.add_zero]) (fun _ _ => rfl))
    · rw [← y.1, ← y.2]; exact z
    · rcases z with z | z
      · exact z.1
      · exact absurd z.1 n
  · rw [oi_s]
    have hd := ins_data g (m := m) hf hk hmf (by rw [ea]; exact h1) (by rw [eb]; exact h2) ht
    rw [ea, eb] at hd
    have hab : Hv rs a b := ⟨f, hf, k, hk, ea, eb⟩
    refine t_putAfter h g.1 hf hk ea hm hl (fun M2 s2 => q M2 _ _ s2 hd.1 (fun u v => ?_) ?_ (fun f2 n => ?_))
    · rw [hd.2 u v]
      exact ⟨fun z => z.elim Or.inl (fun y => Or.inr ⟨hab, y⟩), fun z => z.elim Or.inl (fun y => Or.inr y.2)⟩
    · have := lenF_up (rs := rs) hf (ys := insL (rs f) k m ((rs f).length + 1))
      rw [insL_len] at this
      rw [if_neg (by omega)]
      omega
    · unfold upr
      rw [if_neg (fun z => n (by rw [z]))]
theorem o_split {i1 i2 : Int32} {Q : Int32 → Mm → Prop} {X : String → Mm → Prop} (h : SD A M B rs ow th ps fe fl pe pl) (g : Gd rs ow th ps fe fl pe pl) (hc : 5 ≤ Cc) (hz : 30 ≤ Zz) (hX : ∀ E M', xE E → SD A M' B rs ow th ps fe fl pe pl → X E M')
    (q : ∀ M' rs' ow' a b, a < 100 → b < 100 → i1 = nI a → i2 = nI b → th a = true → th b = true → SD A M' B rs' ow' (upB th pe true) (upP ps pe ((ps 0 a + ps 0 b) / 2) ((ps 1 a + ps 1 b) / 2) ((ps 2 a + ps 2 b) / 2)) fe fl (pe + 1) (pl + 1) → Gd rs' ow' (upB th pe true) (upP ps pe ((ps 0 a + ps 0 b) / 2) ((ps 1 a + ps 1 b) / 2) ((ps 2 a + ps 2 b) / 2)) fe fl (pe + 1) (pl + 1) → eC rs' ow' fe = eC rs ow fe + 1 → Q (nI pe) M') : T_X8_split Cc Zz M (A 0) i1 i2 Q X := by
  unfold T_X8_split
  intro K72 h72
  refine ⟨2, 12, ⟨by omega, by omega⟩, h.sh.k 0, n_pts h (by omega) (by omega) (fun a b ha hb ea eb ta tb => ?_) (fun _ => hX _ _ (Or.inl rfl) h)⟩
  subst ea
  subst eb
  have bad : ∀ i3 i4 cc zz, cc + 1 ≤ Cc → zz + 6 ≤ Zz → K72 (A 0) (nI a) (nI b) i3 i4 0 M cc zz := fun i3 i4 cc zz c1 c2 => h72 _ _ _ _ _ _ _ _ _ ⟨1, 6, ⟨by omega, by omega⟩, n_stt (by omega) (by omega) (fun z => absurd rfl z) (fun _ => hX _ _ (Or.inr (Or.inr rfl)) h)⟩
  refine ⟨h.sh.k 0, A 7, h.sh.r 0 1 7, ⟨by omega, by omega⟩, h.sh.k 7, t_isEdge h.1 ha hb (fun he => ⟨1, 6, ⟨by omega, by omega⟩, n_arg (by omega) (by omega) (fun _ => ?_) (fun z => absurd z (by decide))⟩) (fun _ _ => ⟨1, 6, ⟨by omega, by omega⟩, n_arg (by omega) (by omega) (fun z => absurd rfl z) (fun _ => hX _ _ (Or.inr (Or.inl rfl)) h)⟩)⟩
  have hab : a ≠ b := fun e => by
    subst e
    rcases he with z | z <;> exact z (g.noloop a)
  have hF := (h.1.2.2.2.1 a b ha hb).2
  have hG := (h.1.2.2.2.1 b a hb ha).2
  refine ⟨h.sh.k 0, A 7, h.sh.r 0 1 7, ⟨by omega, by omega⟩, h.sh.k 7, t_owner h.1 ha hb ⟨h.sh.k 0, A 7, h.sh.r 0 1 7, ⟨by omega, by omega⟩, h.sh.k 7, t_owner h.1 hb ha ?_⟩⟩
  refine ⟨h.sh.k 0, A 1, h.sh.r 0 0 1, ⟨by omega, by omega⟩, h.sh.k 1, t_phasRoom (k := 1) h.2.2.1 h.2.2.2.1 (by omega) (fun hr => ⟨fun z => absurd z (by decide), fun _ => ?_⟩) (fun _ => ⟨fun _ => bad _ _ _ _ (by omega) (by omega), fun z => absurd rfl z⟩)⟩
  refine ⟨⟨by omega, by omega⟩, h.sh.k 0, n_rir h hF (fun lF => ⟨fun z => absurd z (by decide), fun _ => ?_⟩) ⟨fun _ => bad _ _ _ _ (by omega) (by omega), fun z => absurd rfl z⟩⟩
  refine ⟨⟨by omega, by omega⟩, h.sh.k 0, n_rir h hG (fun lG => ⟨fun z => absurd z (by decide), fun _ => ?_⟩) ⟨fun _ => bad _ _ _ _ (by omega) (by omega), fun z => absurd rfl z⟩⟩
  refine h72 _ _ _ _ _ _ _ _ _ ⟨1, 6, ⟨by omega, by omega⟩, n_stt (by omega) (by omega) (fun _ => ?_) (fun z => absurd z (by decide))⟩
  have hpl := g.pl_le
  refine ⟨h.sh.k 0, A 1, h.sh.r 0 0 1, ⟨by omega, by omega⟩, h.sh.k 1, t_addMiddle h.2.2.1 h.2.2.2.1 (by omega) (by omega) ha hb (fun M2 c2 p2 n2 => ?_)⟩
  have hna := g.2.2.2.2.2.2.2
  have g2 := g.pt (x := (ps 0 a + ps 0 b) / 2) (y := (ps 1 a + ps 1 b) / 2) (z := (ps 2 a + ps 2 b) / 2) (by omega) ⟨nr_mid (hna 0 a (by omega) ta) (hna 0 b (by omega) tb), nr_mid (hna 1 a (by omega) ta) (hna 1 b (by omega) tb), nr_mid (hna 2 a (by omega) ta) (hna 2 b (by omega) tb)⟩
  have s2 := h.point c2 (fun i z => z) p2 n2
  have tm : upB th pe true pe = true := by unfold upB; rw [if_pos rfl]
  have nm : ∀ f, pe ∉ rs f := fun f z => by
    have := g.2.2.2.2.2.2.1 f pe z
    rw [g.2.2.2.2.2.1 pe (Nat.le_refl _)] at this
    cases this
  have nH : ∀ u, ¬ Hv rs u pe ∧ ¬ Hv rs pe u := fun u => ⟨fun ⟨f, _, v⟩ => nm f (hvk_in v).2, fun ⟨f, _, v⟩ => nm f (hvk_in v).1⟩
  have am : a ≠ pe := fun z => by
    rw [z, g.2.2.2.2.2.1 pe (Nat.le_refl _)] at ta
    cases ta
  have bm : b ≠ pe := fun z => by
    rw [z, g.2.2.2.2.2.1 pe (Nat.le_refl _)] at tb
    cases tb
  have side : ∀ x y : Nat, (ow x y = 0 ∧ ¬ Hv rs x y) ∨ ∃ f k, ow x y = f + 1 ∧ f < 160 ∧ k < (rs f).length ∧ gn (rs f) k = x ∧ gn (rs f) (k + 1) = y := fun x y => by
    cases e : ow x y with
    | zero => exact Or.inl ⟨rfl, (g.zero x y).mp e⟩
    | succ f =>
      obtain ⟨z1, k, z2, z3, z4⟩ := half_at_ring g.1 e
      exact Or.inr ⟨f, k, rfl, z1, z2, z3, z4⟩
  refine ⟨⟨by omega, by omega⟩, s2.sh.k 0, t_put1 (b := b) s2 g2 (by omega) tm ?_ ((g.zero a pe).mpr (nH a).1) ((g.zero pe b).mpr (nH b).2) (fun M3 rs3 ow3 s3 g3 hv3 l3 k3 => ?_)⟩
  · rcases side a b with z | ⟨f, k, e, z1, z2, z3, z4⟩
    · exact Or.inl z
    · exact Or.inr ⟨f, k, e, z1, z2, z3, z4, nm f, lF f e⟩
  refine ⟨⟨by omega, by omega⟩, s3.sh.k 0, t_put1 (b := a) s3 g3 (by omega) tm ?_ ((wf_zero g3.1 b pe).mpr ?_) ((wf_zero g3.1 pe a).mpr ?_) (fun M4 rs4 ow4 s4 g4 hv4 l4 _ => ⟨by omega, by omega, q M4 rs4 ow4 a b ha hb rfl rfl ta tb s4 g4 ?_⟩)⟩
  · rcases side b a with ⟨z, y⟩ | ⟨f, k, e, z1, z2, z3, z4⟩
    · refine Or.inl ⟨z, fun x => ?_⟩
      rcases (hv3 b a).mp x with w | w
      · exact y w.1
      · omega
    · have hne : ow a b ≠ f + 1 := fun y => by
        obtain ⟨_, k2, y2, y3, y4⟩ := half_at_ring g.1 y
        have h3 : 3 ≤ (rs f).length := (g.2.1 f).resolve_left (fun w => by rw [w] at z2; exact absurd z2 (Nat.not_lt_zero _))
        have e1 := gn_inj g.1 z1 (by omega) (y4.trans z3.symm)
        have e2 := gn_inj g.1 z1 (by omega) (z4.trans y3.symm)
        have e3 : (k2 + 2) % (rs f).length = (k2 + 0) % (rs f).length := by
          rw [show k2 + 2 = k2 + 1 + 1 by omega, Nat.add_mod, e1, ← Nat.add_mod, e2]
          rfl
        have := mod_small (by omega) (by omega) e3
        omega
      have r3 := k3 f hne
      exact Or.inr ⟨f, k, e, z1, by rw [r3]; exact z2, by rw [r3]; exact z3, by rw [r3]; exact z4, by rw [r3]; exact nm f, by rw [r3]; exact lG f e⟩
  · intro z
    rcases (hv3 b pe).mp z with w | w
    · exact (nH b).1 w.1
    · omega
  · intro z
    rcases (hv3 pe a).mp z with w | w
    · exact (nH a).2 w.1
    · omega
  · have hbaE : Hv rs3 b a ↔ Hv rs b a := by
      rw [hv3 b a]
      constructor
      · intro z
        rcases z with z | z
        · exact z.1
        · omega
      · intro z
        exact Or.inl ⟨z, by omega⟩
    have sp : spH rs rs4 a b pe := fun u v => by
      rw [hv4 u v, hbaE, hv3 u v]
      constructor
      · intro z
        rcases z with ⟨z | z, y⟩ | z
        · exact Or.inl ⟨z.1, z.2, y⟩
        · exact Or.inr (Or.inl z)
        · exact Or.inr (Or.inr z)
      · intro z
        rcases z with ⟨z1, z2, z3⟩ | z | z
        · exact Or.inl ⟨Or.inl ⟨z1, z2⟩, z3⟩
        · exact Or.inl ⟨Or.inr z, by omega⟩
        · exact Or.inr z
    have zF := g.zero a b
    have zG := g.zero b a
    have hl : a < 100 ∧ b < 100 ∧ pe < 100 := ⟨ha, hb, by omega⟩
    by_cases x1 : Hv rs a b
    · rw [if_neg (fun w => (zF.mp w) x1)] at l3
      by_cases x2 : Hv rs b a
      · rw [if_neg (fun w => (zG.mp w) x2)] at l4
        have := split_two g.1 g4.1 hab am bm nH x1 x2 sp
        have := edges_up g h g4 s4 (k := 0) (k2 := 1) (by omega)
        omega
      · rw [if_pos (zG.mpr x2)] at l4
        have := split_one g.1 g4.1 hab am bm hl nH x1 x2 sp
        have := edges_up g h g4 s4 (k := 0) (k2 := 1) (by omega)
        omega
    · rw [if_pos (zF.mpr x1)] at l3
      have x2 : Hv rs b a := by
        rcases he with z | z
        · exact absurd (zF.mpr x1) z
        · exact Classical.byContradiction (fun w => z (zG.mpr w))
      rw [if_neg (fun w => (zG.mp w) x2)] at l4
      have := split_one g.1 g4.1 (fun z => hab z.symm) bm am ⟨hb, ha, hl.2.2⟩ nH x2 x1 sp.swap
      have := edges_up g h g4 s4 (k := 0) (k2 := 1) (by omega)
      omega
end
