/-- the sum of the first n values -/
def sumN (g : Nat → Nat) : Nat → Nat
  | 0 => 0
  | n + 1 => sumN g n + g n
theorem sumN_le {g : Nat → Nat} {c n : Nat} (h : ∀ k, k < n → g k ≤ c) : sumN g n ≤ n * c := by
  induction n with
  | zero => exact Nat.zero_le _
  | succ n ih =>
    have h1 := ih (fun k hk => h k (by omega))
    have h2 := h n (by omega)
    have e : (n + 1) * c = n * c + c := Nat.succ_mul n c
    show sumN g n + g n ≤ (n + 1) * c
    omega
theorem sumN_same {g g2 : Nat → Nat} {n : Nat} (h : ∀ k, k < n → g k = g2 k) : sumN g n = sumN g2 n := by
  induction n with
  | zero => rfl
  | succ n ih =>
    show sumN g n + g n = sumN g2 n + g2 n
    rw [ih (fun k hk => h k (by omega)), h n (by omega)]
theorem sumN_mono {g : Nat → Nat} {k n : Nat} (h : k ≤ n) : sumN g k ≤ sumN g n := by
  induction n with
  | zero => rw [show k = 0 by omega]; exact Nat.le_refl _
  | succ n ih =>
    by_cases e : k = n + 1
    · rw [e]; exact Nat.le_refl _
    · have := ih (by omega)
      show _ ≤ sumN g n + g n
      omega
/-- the first place of a number in a row -/
def pl : List Nat → Nat → Nat
  | [], _ => 0
  | y :: ys, x => if y = x then 0 else pl ys x + 1
theorem pl_eq {x : Nat} : ∀ {xs : List Nat} {k : Nat}, xs[k]? = some x → (∀ j, j < k → xs[j]? ≠ some x) → pl xs x = k := by
  intro xs
  induction xs with
  | nil => intro k h _; simp at h
  | cons y ys ih =>
    intro k h hj
    unfold pl
    cases k with
    | zero =>
      rw [if_pos (by simpa using h)]
    | succ k =>
      have h0 := hj 0 (by omega)
      rw [if_neg (fun e => h0 (by simp [e]))]
      rw [ih (k := k) (by simpa using h) (fun j hlt => by have := hj (j + 1) (by omega); simpa using this)]
/-- what stands behind and ahead of a number in a face's ring -/
def aft (rs : Nat → List Nat) (f p : Nat) : Nat := gn (rs f) (pl (rs f) p + 1)
def bef (rs : Nat → List Nat) (f p : Nat) : Nat := gn (rs f) (pl (rs f) p + (rs f).length - 1)
def told (ow : Nat → Nat → Nat) (a b : Nat) : Nat := if a < b ∨ ow b a = 0 then 1 else 0
def eIn (rs : Nat → List Nat) (ow : Nat → Nat → Nat) (f : Nat) : Nat := sumN (fun i => told ow (gn (rs f) i) (gn (rs f) (i + 1))) (rs f).length
def eC (rs : Nat → List Nat) (ow : Nat → Nat → Nat) (fe : Nat) : Nat := sumN (eIn rs ow) fe
theorem told_le (ow : Nat → Nat → Nat) (a b : Nat) : told ow a b ≤ 1 := by
  unfold told; split <;> omega
/-- the owners say of each half the face that has it, and no ring has a point twice -/
def Wf (rs : Nat → List Nat) (ow : Nat → Nat → Nat) : Prop :=
  (∀ a b f, ow a b = f + 1 ↔ f < 160 ∧ hvk (rs f) (rs f).length a b) ∧ (∀ f i j, f < 160 → i < (rs f).length → j < (rs f).length → gn (rs f) i = gn (rs f) j → i = j)
/-- turning at b from c on: the first c without a face; n turns at most -/
def nO (rs : Nat → List Nat) (ow : Nat → Nat → Nat) (b : Nat) : Nat → Nat → Option Nat
  | 0, _ => none
  | n + 1, c => if ow b c = 0 then some c else nO rs ow b n (bef rs (ow b c - 1) b)
theorem map_at {xs : List Nat} {k : Nat} {x : Nat} (hx : x < 100) (hb : ∀ p, p ∈ xs → p < 100) : (xs.map nI)[k]? = some (nI x) ↔ xs[k]? = some x := by
  rw [List.getElem?_map]
  cases e : xs[k]? with
  | none => simp
  | some y =>
    have hy := hb y (List.mem_of_getElem? e)
    rw [Option.map_some, Option.some.injEq, Option.some.injEq, nI_eq (by omega) (by omega)]
section
variable {A : Nat → Nat} {M : Mm} {rs : Nat → List Nat} {ow : Nat → Nat → Nat}
theorem eC_le (h : FT A M rs ow) {fe : Nat} (hf : fe ≤ 160) : eC rs ow fe ≤ fe * 12 :=
  sumN_le (fun f hlt => by
    have h1 : eIn rs ow f ≤ (rs f).length * 1 := sumN_le (fun _ _ => told_le _ _ _)
    have := h.len (f := f) (by omega)
    omega)
theorem t_place {f p : Nat} {Q : Int32 → Prop} (h : FT A M rs ow) (hf : f < 160) (hp : p < 100) (q1 : p ∈ rs f → pl (rs f) p < (rs f).length → gn (rs f) (pl (rs f) p) = p → Q (nI (pl (rs f) p))) (q0 : p ∉ rs f → Q (-1)) : T_X5_placeOf M (A (64 + 2 * f)) (nI p) Q := by
  refine t_placeOf (h.2.1 f hf) (fun k hk hj => ?_) (fun hm => q0 (fun w => hm (List.mem_map_of_mem w)))
  have hb := fun p hp => h.2.2.2.2 f p hf hp
  have hk2 := (map_at hp hb).mp hk
  have e := pl_eq hk2 (fun j hlt w => hj j hlt ((map_at hp hb).mpr w))
  have hl := (List.getElem?_eq_some_iff.mp hk2).1
  rw [← e]
  exact q1 (List.mem_of_getElem? hk2) (by omega) (by rw [e]; exact gn_eq hk2)
theorem t_after {f p : Nat} {Q : Int32 → Prop} (h : FT A M rs ow) (hf : f < 160) (hp : p < 100) (hm : p ∈ rs f) (q : Q (nI (aft rs f p))) : T_X1_after M (A 7) (nI f) (nI p) Q := by
  unfold T_X1_after
  have hr := h.2.1 f hf
  have hl := h.len hf
  refine ⟨h.1.k 7, t_ring h hf ⟨hr.1, t_place h hf hp (fun _ hlt _ => ⟨hr.1, ?_⟩) (fun w => absurd hm w)⟩⟩
  rw [nI_1]
  refine t_gt hr (by omega) ?_
  rw [gt_map (by omega)]
  exact q
theorem t_before {f p : Nat} {Q : Int32 → Prop} (h : FT A M rs ow) (hf : f < 160) (hp : p < 100) (hm : p ∈ rs f) (q : Q (nI (bef rs f p))) : T_X1_before M (A 7) (nI f) (nI p) Q := by
  unfold T_X1_before
  have hr := h.2.1 f hf
  have hl := h.len hf
  refine ⟨h.1.k 7, t_ring h hf ⟨hr.1, t_place h hf hp (fun _ hlt _ => ⟨hr.1, ?_⟩) (fun w => absurd hm w)⟩⟩
  unfold bef at q
  by_cases e : pl (rs f) p = 0
  · rw [e] at q ⊢
    have e1 : nI 0 - 1 = -(nI 1) := by decide
    rw [e1]
    refine t_gtN hr (by rw [List.length_map]; omega) ?_
    rw [gt_map (by omega), List.length_map]
    rw [Nat.zero_add] at q
    exact q
  · have e1 : nI (pl (rs f) p) - 1 = nI (pl (rs f) p - 1) := by rw [show (1 : Int32) = nI 1 from rfl, pk_sub (by omega)]
    rw [e1]
    refine t_gt hr (by omega) ?_
    rw [gt_map (by omega)]
    have e2 : gn (rs f) (pl (rs f) p + (rs f).length - 1) = gn (rs f) (pl (rs f) p - 1) := by
      unfold gn
      rw [show pl (rs f) p + (rs f).length - 1 = pl (rs f) p - 1 + (rs f).length by omega, Nat.add_mod_right]
    rw [← e2]
    exact q
/-- a half with an owner: both points are in the ring -/
theorem Wf.mem (w : Wf rs ow) {a b : Nat} (h : ow a b ≠ 0) : ow a b - 1 < 160 ∧ a ∈ rs (ow a b - 1) ∧ b ∈ rs (ow a b - 1) := by
  have e : ow a b = (ow a b - 1) + 1 := by omega
  obtain ⟨h1, i, hi, e1, e2⟩ := (w.1 a b _).mp e
  have m1 := gn_mem (xs := rs (ow a b - 1)) (p := i) (by omega)
  have m2 := gn_mem (xs := rs (ow a b - 1)) (p := i + 1) (by omega)
  rw [e1] at m1
  rw [e2] at m2
  exact ⟨h1, m1, m2⟩
/-- what is needed to turn: who owns (a, b) has a in its ring -/
def Wk (rs : Nat → List Nat) (ow : Nat → Nat → Nat) : Prop := ∀ a b, ow a b ≠ 0 → ow a b - 1 < 160 ∧ a ∈ rs (ow a b - 1)
theorem Wf.wk (w : Wf rs ow) : Wk rs ow := fun _ _ h => ⟨(w.mem h).1, (w.mem h).2.1⟩
theorem t_nextOpen {a b : Nat} {Q : Int32 → Prop} (h : FT A M rs ow) (w : Wk rs ow) (ha : a < 100) (hb : b < 100) (q : ∀ c, c < 100 → nO rs ow b 100 a = some c → Q (nI c)) (qn : nO rs ow b 100 a = none → Q (-1)) : T_X1_nextOpen M (A 7) (nI a) (nI b) Q := by
  intro K hK
  have key : ∀ d k c, k + d = 100 → c < 100 → nO rs ow b 100 a = nO rs ow b d c → K (A 7) (nI b) (nI c) (nI k) := by
    intro d
    induction d with
    | zero =>
      intro k c hk hc e
      refine hK _ _ _ _ ?_
      unfold S_X1_nextOpen_5
      rw [show k = 100 by omega]
      exact ⟨fun _ => qn e, fun z => absurd (by decide) z⟩
    | succ d ih =>
      intro k c hk hc e
      refine hK _ _ _ _ ?_
      unfold S_X1_nextOpen_5
      have o := (h.2.2.2.1 b c hb hc).2
      refine ⟨fun z => absurd z (by rw [show (100 : Int32) = nI 100 from rfl]; exact nI_ge (by omega) (by omega)), fun _ => ⟨h.1.k 7, t_owner h hb hc ⟨fun z => ?_, fun z => ?_⟩⟩⟩
      · have hne : ow b c ≠ 0 := fun y => z ((oi_none (by omega)).mpr y)
        obtain ⟨m1, m2⟩ := w _ _ hne
        have e1 : oi (ow b c) = nI (ow b c - 1) := (oi_is (by omega) (by omega)).mpr (by omega)
        rw [e1, nI_1]
        refine ⟨h.1.k 7, t_before h m1 hb m2 (ih (k + 1) _ (by omega) ?_ ?_)⟩
        · exact h.2.2.2.2 _ _ m1 (gn_mem (List.length_pos_iff.mpr (fun e => by rw [e] at m2; exact absurd m2 List.not_mem_nil)))
        · rw [e]
          show (if ow b c = 0 then _ else _) = _
          rw [if_neg hne]
      · have h0 : ow b c = 0 := (oi_none (by omega)).mp z
        refine q c hc ?_
        rw [e]
        show (if ow b c = 0 then _ else _) = _
        rw [if_pos h0]
  have := key 100 0 a (by omega) ha rfl
  rwa [nI_0] at this
theorem t_isFree {s : Nat} {ys : List Nat} {Q : Int32 → Prop} (h : FT A M rs ow) (hr : RG M (A s) (A (s + 1)) (ys.map nI)) (hy : ∀ p, p ∈ ys → p < 100) (q1 : (∀ i, i < ys.length → ow (gn ys i) (gn ys (i + 1)) = 0) → Q 1) (q0 : ¬ (∀ i, i < ys.length → ow (gn ys i) (gn ys (i + 1)) = 0) → Q 0) : T_X1_isFree M (A 7) (A s) Q := by
  intro K hK
  have hl : ys.length ≤ 12 := by have := hr.2.2.2.2.1; rwa [List.length_map] at this
  have key : (∀ i, i < 0 → ow (gn ys i) (gn ys (i + 1)) = 0) → K (A 7) (A s) (nI 0) := by
    refine upto (P := fun k => (∀ i, i < k → ow (gn ys i) (gn ys (i + 1)) = 0) → K (A 7) (A s) (nI k)) (n := ys.length) ?_ ?_
    · intro hj
      refine hK _ _ _ ?_
      unfold S_X1_isFree_2
      refine ⟨hr.1, t_length hr ?_⟩
      rw [List.length_map]
      exact ⟨fun _ => q1 hj, fun z => absurd (nI_le (by omega) (by omega)) z⟩
    · intro k hk ih hj
      refine hK _ _ _ ?_
      unfold S_X1_isFree_2
      have b1 := hy _ (gn_mem (xs := ys) (p := k) (by omega))
      have b2 := hy _ (gn_mem (xs := ys) (p := k + 1) (by omega))
      have o := (h.2.2.2.1 _ _ b1 b2).2
      refine ⟨hr.1, t_length hr ?_⟩
      rw [List.length_map]
      refine ⟨fun z => absurd z (nI_ge (by omega) (by omega)), fun _ => ⟨hr.1, t_gt hr (by omega) ⟨hr.1, ?_⟩⟩⟩
      rw [nI_1]
      refine t_gt hr (by omega) ⟨h.1.k 7, ?_⟩
      rw [gt_map (by omega), gt_map (by omega)]
      refine t_owner h b1 b2 ⟨fun z => ih (fun i hi => ?_), fun z => q0 (fun y => z ((oi_none (by omega)).mpr (y k hk)))⟩
      by_cases e : i = k
      · subst e; exact (oi_none (by omega)).mp z
      · exact hj i (by omega)
  have := key (fun i hi => absurd hi (by omega))
  rwa [nI_0] at this
theorem t_edgeCount {fe fl : Nat} {Q : Int32 → Prop} (h : FT A M rs ow) (hn : FN A M fe fl) (q : Q (nI (eC rs ow fe))) : T_X1_edgeCount M (A 7) Q := by
  intro K4 K21 h4 h21
  have key : K4 (A 7) (nI (sumN (eIn rs ow) 0)) (nI 0) := by
    refine upto (P := fun f => K4 (A 7) (nI (sumN (eIn rs ow) f)) (nI f)) (n := fe) ?_ ?_
    · refine h4 _ _ _ ?_
      unfold S_X1_edgeCount_4
      rw [hn.1]
      exact ⟨h.1.k 7, fun _ => q, fun z => absurd (nI_le (by omega) (by have := hn.2.2.1; omega)) z⟩
    · intro f hf ih
      have hfe := hn.2.2.1
      have hf1 : f < 160 := by omega
      have hl := h.len hf1
      have hr := h.2.1 f hf1
      refine h4 _ _ _ ?_
      unfold S_X1_edgeCount_4
      rw [hn.1]
      refine ⟨h.1.k 7, fun z => absurd z (nI_ge hf (by omega)), fun _ => ⟨h.1.k 7, t_ring h hf1 ?_⟩⟩
      have inner : K21 (A 7) (nI (sumN (eIn rs ow) f + sumN (fun i => told ow (gn (rs f) i) (gn (rs f) (i + 1))) 0)) (nI f) (A (64 + 2 * f)) (nI 0) := by
        refine upto (P := fun i => K21 (A 7) (nI (sumN (eIn rs ow) f + sumN (fun i => told ow (gn (rs f) i) (gn (rs f) (i + 1))) i)) (nI f) (A (64 + 2 * f)) (nI i)) (n := (rs f).length) ?_ ?_
        · refine h21 _ _ _ _ _ ?_
          unfold S_X1_edgeCount_21
          refine ⟨hr.1, t_length hr ?_⟩
          rw [List.length_map, nI_1]
          exact ⟨fun _ => ih, fun z => absurd (nI_le (by omega) (by omega)) z⟩
        · intro i hi ih2
          refine h21 _ _ _ _ _ ?_
          unfold S_X1_edgeCount_21
          have hb := h.bd hf1 hi
          refine ⟨hr.1, t_length hr ?_⟩
          rw [List.length_map]
          refine ⟨fun z => absurd z (nI_ge (by omega) (by omega)), fun _ => ⟨hr.1, t_gt hr (by omega) ⟨hr.1, ?_⟩⟩⟩
          rw [nI_1]
          refine t_gt hr (by omega) ⟨h.1.k 7, ?_⟩
          rw [gt_map (by omega), gt_map (by omega)]
          have e : ∀ v, told ow (gn (rs f) i) (gn (rs f) (i + 1)) = v → sumN (eIn rs ow) f + sumN (fun i => told ow (gn (rs f) i) (gn (rs f) (i + 1))) i + v = sumN (eIn rs ow) f + sumN (fun i => told ow (gn (rs f) i) (gn (rs f) (i + 1))) (i + 1) := by
            intro v hv
            show _ = sumN (eIn rs ow) f + (sumN (fun i => told ow (gn (rs f) i) (gn (rs f) (i + 1))) i + told ow (gn (rs f) i) (gn (rs f) (i + 1)))
            omega
          refine t_isToldBy h hb.1 hb.2 (fun w => ⟨fun z => absurd z (by decide), fun _ => ?_⟩) (fun w1 w2 => ⟨fun _ => ?_, fun z => absurd rfl z⟩)
          · rw [nI_1, e 1 (if_pos w)]
            exact ih2
          · rw [Int32.add_zero, ← Nat.add_zero (sumN (eIn rs ow) f + _), e 0 (if_neg (fun w => w.elim w1 w2))]
            exact ih2
      rwa [nI_0] at inner
  rwa [nI_0] at key
def lenF (rs : Nat → List Nat) (fe : Nat) : Nat := sumN (fun f => (rs f).length) fe
theorem t_halfCount {fe fl : Nat} {Q : Int32 → Prop} (h : FT A M rs ow) (hn : FN A M fe fl) (q : Q (nI (lenF rs fe))) : T_X1_halfCount M (A 7) Q := by
  intro K4 h4
  have key : K4 (A 7) (nI (lenF rs 0)) (nI 0) := by
    refine upto (P := fun f => K4 (A 7) (nI (lenF rs f)) (nI f)) (n := fe) ?_ ?_
    · refine h4 _ _ _ ?_
      unfold S_X1_halfCount_4
      rw [hn.1]
      exact ⟨h.1.k 7, fun _ => q, fun z => absurd (nI_le (by omega) (by have := hn.2.2.1; omega)) z⟩
    · intro f hf ih
      have hfe := hn.2.2.1
      have hf1 : f < 160 := by omega
      have hr := h.2.1 f hf1
      refine h4 _ _ _ ?_
      unfold S_X1_halfCount_4
      rw [hn.1]
      refine ⟨h.1.k 7, fun z => absurd z (nI_ge hf (by omega)), fun _ => ⟨h.1.k 7, t_ring h hf1 ⟨hr.1, t_length hr ?_⟩⟩⟩
      rw [List.length_map, nI_add, nI_1]
      exact ih
  rwa [nI_0] at key
/-- how many neighbours a point has -/
def nbrs (ow : Nat → Nat → Nat) (p : Nat) : Nat := sumN (fun q => if ow p q ≠ 0 ∨ ow q p ≠ 0 then 1 else 0) 100
theorem t_neighboursOf {p : Nat} {Q : Int32 → Prop} (h : FT A M rs ow) (hp : p < 100) (q : Q (nI (nbrs ow p))) : T_X1_neighboursOf M (A 7) (nI p) Q := by
  intro K4 h4
  have key : K4 (A 7) (nI p) (nI (sumN (fun q => if ow p q ≠ 0 ∨ ow q p ≠ 0 then 1 else 0) 0)) (nI 0) := by
    refine upto (P := fun k => K4 (A 7) (nI p) (nI (sumN (fun q => if ow p q ≠ 0 ∨ ow q p ≠ 0 then 1 else 0) k)) (nI k)) (n := 100) ?_ ?_
    · refine h4 _ _ _ _ ?_
      unfold S_X1_neighboursOf_4
      exact ⟨fun _ => q, fun z => absurd (by decide) z⟩
    · intro k hk ih
      refine h4 _ _ _ _ ?_
      unfold S_X1_neighboursOf_4
      have e : sumN (fun q => if ow p q ≠ 0 ∨ ow q p ≠ 0 then 1 else 0) (k + 1) = sumN (fun q => if ow p q ≠ 0 ∨ ow q p ≠ 0 then 1 else 0) k + (if ow p k ≠ 0 ∨ ow k p ≠ 0 then 1 else 0) := rfl
      rw [e] at ih
      refine ⟨fun z => absurd z (by rw [show (100 : Int32) = nI 100 from rfl]; exact nI_ge (by omega) (by omega)), fun _ => ⟨h.1.k 7, t_isEdge h hp hk (fun w => ⟨fun z => absurd z (by decide), fun _ => ?_⟩) (fun w1 w2 => ⟨fun _ => ?_, fun z => absurd rfl z⟩)⟩⟩
      · rw [nI_1, nI_1]
        rw [if_pos w] at ih
        exact ih
      · rw [Int32.add_zero, nI_1]
        rw [if_neg (fun w => w.elim (fun g => g w1) (fun g => g w2))] at ih
        exact ih
  rwa [nI_0] at key
end
