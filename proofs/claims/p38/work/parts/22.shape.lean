/-- kinds of the mesh's things, by index: 0 the mesh, 1 points (2 their grid, 3-5 its rows, 6 there), 7 faces (8 rings, 9 the empty one, 11 owners), 12 marks (13), 14 survey (15 seen, 16 queue, 17 distance), 18 collapsing (19 shaped), 21 quartering (22 middles, 23 centres, 24 quarter), 26 smoothing (27 its grid), 31 first, 33 second; 64 + 2 f the ring of a face f -/
def kdL : List (Nat × Nat) := [(8, 8), (3, 4), (121, 3), (100, 100), (100, 100), (100, 100), (101, 100), (1, 5), (120, 160), (5, 2), (100, 12), (100, 10000), (2, 2), (100, 10000), (7, 6), (101, 160), (100, 160), (100, 100), (0, 3), (5, 2), (100, 12), (4, 5), (100, 10000), (100, 160), (5, 2), (100, 12), (6, 3), (121, 3), (100, 100), (100, 100), (100, 100), (5, 2), (100, 12), (5, 2), (100, 12)]
def rfL : List (Nat × Nat × Nat) := [(0, 0, 1), (0, 1, 7), (0, 2, 14), (0, 3, 18), (0, 4, 21), (0, 5, 26), (0, 6, 31), (0, 7, 33), (1, 0, 2), (1, 1, 6), (2, 0, 3), (2, 1, 4), (2, 2, 5), (7, 0, 8), (7, 1, 9), (7, 2, 11), (9, 0, 10), (12, 0, 13), (14, 0, 7), (14, 1, 12), (14, 2, 15), (14, 3, 16), (14, 4, 17), (18, 0, 7), (18, 1, 12), (18, 2, 19), (19, 0, 20), (21, 0, 1), (21, 1, 7), (21, 2, 22), (21, 3, 23), (21, 4, 24), (24, 0, 25), (26, 0, 1), (26, 1, 7), (26, 2, 27), (27, 0, 28), (27, 1, 29), (27, 2, 30), (31, 0, 32), (33, 0, 34)]
def Sh (A : Nat → Nat) (M : Mm) : Prop :=
  (∀ i j, i < 384 → j < 384 → A i = A j → i = j) ∧ (∀ i k, kdL[i]? = some k → kM M (A i) = k) ∧ (∀ q ∈ rfL, rM M (A q.1) q.2.1 = some (A q.2.2)) ∧
  ∀ f, f < 160 → kM M (A (64 + 2 * f)) = (5, 2) ∧ kM M (A (65 + 2 * f)) = (100, 12) ∧ rM M (A 8) f = some (A (64 + 2 * f)) ∧ rM M (A (64 + 2 * f)) 0 = some (A (65 + 2 * f))
theorem Sh.k {A : Nat → Nat} {M : Mm} (h : Sh A M) (i : Nat) {k : Nat × Nat} (e : kdL[i]? = some k := by rfl) : kM M (A i) = k := h.2.1 i k e
theorem Sh.r {A : Nat → Nat} {M : Mm} (h : Sh A M) (i j l : Nat) (e : (i, j, l) ∈ rfL := by decide) : rM M (A i) j = some (A l) := h.2.2.1 (i, j, l) e
theorem Sh.ne {A : Nat → Nat} {M : Mm} (h : Sh A M) {i j : Nat} (hi : i < 384) (hj : j < 384) (e : i ≠ j) : A i ≠ A j := fun q => e (h.1 i j hi hj q)
theorem Sh.go {A : Nat → Nat} {S : Nat → Prop} {M M' : Mm} (h : Sh A M) (c : Ch S M M') : Sh A M' :=
  ⟨h.1, fun i k e => (c.k _).trans (h.2.1 i k e), fun q e => (c.r _ _).trans (h.2.2.1 q e), fun f hf => ⟨(c.k _).trans (h.2.2.2 f hf).1, (c.k _).trans (h.2.2.2 f hf).2.1, (c.r _ _).trans (h.2.2.2 f hf).2.2.1, (c.r _ _).trans (h.2.2.2 f hf).2.2.2⟩⟩
/-- the addresses of the things of some indices -/
def In (A : Nat → Nat) (I : Nat → Prop) (b : Nat) : Prop := ∃ i, i < 384 ∧ I i ∧ b = A i
theorem In.not {A : Nat → Nat} {M : Mm} (h : Sh A M) {I : Nat → Prop} {i : Nat} (hi : i < 384) (hn : ¬ I i) : ¬ In A I (A i) := fun ⟨j, hj, hI, e⟩ => hn (by rw [h.1 i j hi hj e]; exact hI)
theorem In.mono {A : Nat → Nat} {I J : Nat → Prop} (h : ∀ i, I i → J i) (b : Nat) (q : In A I b) : In A J b := ⟨q.choose, q.choose_spec.1, h _ q.choose_spec.2.1, q.choose_spec.2.2⟩
theorem Ch.at {A : Nat → Nat} {M0 M M' : Mm} {I : Nat → Prop} (c : Ch (In A I) M M') (h : Sh A M0) {i : Nat} (hi : i < 384) (hn : ¬ I i) (j : Nat) : iM M' (A i) j = iM M (A i) j := c.i (In.not h hi hn) j
theorem Ch.two {A : Nat → Nat} {M M' : Mm} {i j : Nat} (c : Ch (fun b => b = A i ∨ b = A j) M M') (hi : i < 384) (hj : j < 384) : Ch (In A (fun l => l = i ∨ l = j)) M M' :=
  c.mono (fun b q => q.elim (fun e => ⟨i, hi, Or.inl rfl, e⟩) (fun e => ⟨j, hj, Or.inr rfl, e⟩))
theorem Ch.one {A : Nat → Nat} {M : Mm} {i k : Nat} {v : Int32} (hi : i < 384) : Ch (In A (fun l => l = i)) M (wI M (A i) k v) := Ch.put ⟨i, hi, rfl, rfl⟩
theorem Ch.wide {A : Nat → Nat} {M M' : Mm} {I J : Nat → Prop} (c : Ch (In A I) M M') (h : ∀ i, I i → J i) : Ch (In A J) M M' := c.mono (In.mono h)
/-- an int is a number below n, or outside -/
theorem i_case (x : Int32) (n : Nat) (hn : n < 2 ^ 31) : (∃ k, k < n ∧ x = nI k) ∨ (x < 0 ∨ (¬ x < 0 ∧ nI n ≤ x)) := by
  by_cases h : x < 0
  · exact Or.inr (Or.inl h)
  · obtain ⟨j, hj, e⟩ := nI_of h
    by_cases g : j < n
    · exact Or.inl ⟨j, g, e⟩
    · exact Or.inr (Or.inr ⟨h, by rw [e]; exact nI_le (by omega) hj⟩)
theorem nI_mulx (a b : Nat) : nI a * nI b = nI (a * b) := (Int32.ofNat_mul a b).symm
/-- the answer of a table that tells one more -/
def oi (v : Nat) : Int32 := nI v - 1
theorem oi_0 : oi 0 = -1 := by decide
theorem oi_s (f : Nat) : oi (f + 1) = nI f := nI_pred f
theorem oi_none {v : Nat} (h : v ≤ 1000) : oi v = -1 ↔ v = 0 := by
  constructor
  · intro e
    cases v with
    | zero => rfl
    | succ v =>
      rw [oi_s] at e
      have h1 : ¬ nI v < 0 := nI_pos (by omega)
      rw [e] at h1
      exact absurd (by decide) h1
  · intro e; subst e; exact oi_0
theorem oi_is {v f : Nat} (h : v ≤ 1000) (hf : f < 1000) : oi v = nI f ↔ v = f + 1 := by
  cases v with
  | zero =>
    rw [oi_0]
    constructor
    · intro e
      have h1 : ¬ nI f < 0 := nI_pos (by omega)
      rw [← e] at h1
      exact absurd (by decide) h1
    · intro e; omega
  | succ v =>
    rw [oi_s, nI_eq (by omega) (by omega)]
    omega
/-- what stands at a place of a row of numbers that goes round -/
def gn (xs : List Nat) (p : Nat) : Nat := (xs[p % xs.length]?).getD 0
theorem gn_some {xs : List Nat} {p : Nat} (h : 0 < xs.length) : xs[p % xs.length]? = some (gn xs p) := by
  unfold gn
  rw [List.getElem?_eq_getElem (Nat.mod_lt _ h)]
  rfl
theorem gn_mem {xs : List Nat} {p : Nat} (h : 0 < xs.length) : gn xs p ∈ xs := List.mem_of_getElem? (gn_some h)
theorem gn_lt {xs : List Nat} {p : Nat} (h : p < xs.length) : xs[p]? = some (gn xs p) := by
  have := gn_some (xs := xs) (p := p) (by omega)
  rwa [Nat.mod_eq_of_lt h] at this
theorem gn_eq {xs : List Nat} {p x : Nat} (h : xs[p]? = some x) : gn xs p = x := by
  have hl : p < xs.length := (List.getElem?_eq_some_iff.mp h).1
  have := gn_lt hl
  rw [h] at this
  exact (Option.some.inj this).symm
theorem gt_map {xs : List Nat} {p : Nat} (h : 0 < xs.length) : gt (xs.map nI) p = nI (gn xs p) := by
  unfold gt
  rw [List.length_map, List.getElem?_map, gn_some h]
  rfl
/-- the faces' rings and the owners of halves -/
def FT (A : Nat → Nat) (M : Mm) (rs : Nat → List Nat) (ow : Nat → Nat → Nat) : Prop :=
  Sh A M ∧ (∀ f, f < 160 → RG M (A (64 + 2 * f)) (A (65 + 2 * f)) ((rs f).map nI)) ∧ RG M (A 9) (A 10) [] ∧ (∀ a b, a < 100 → b < 100 → iM M (A 11) (a * 100 + b) = nI (ow a b) ∧ ow a b ≤ 160) ∧ (∀ f p, f < 160 → p ∈ rs f → p < 100)
theorem FT.len {A : Nat → Nat} {M : Mm} {rs : Nat → List Nat} {ow : Nat → Nat → Nat} (h : FT A M rs ow) {f : Nat} (hf : f < 160) : (rs f).length ≤ 12 := by
  have := (h.2.1 f hf).2.2.2.2.1
  rwa [List.length_map] at this
theorem FT.go {A : Nat → Nat} {I : Nat → Prop} {M M' : Mm} {rs : Nat → List Nat} {ow : Nat → Nat → Nat} (h : FT A M rs ow) (c : Ch (In A I) M M') (hI : ∀ i, I i → i ≠ 9 ∧ i ≠ 10 ∧ i ≠ 11 ∧ i < 64) : FT A M' rs ow := by
  obtain ⟨h1, h2, h3, h4, h5⟩ := h
  refine ⟨h1.go c, fun f hf => (h2 f hf).kept c (In.not h1 (by omega) (fun z => ?_)) (In.not h1 (by omega) (fun z => ?_)), h3.kept c (In.not h1 (by omega) (fun z => ?_)) (In.not h1 (by omega) (fun z => ?_)), fun a b ha hb => ?_, h5⟩
  · have := (hI _ z).2.2.2; omega
  · have := (hI _ z).2.2.2; omega
  · exact (hI _ z).1 rfl
  · exact (hI _ z).2.1 rfl
  · rw [c.at h1 (by omega) (fun z => (hI _ z).2.2.1 rfl)]
    exact h4 a b ha hb
section
variable {A : Nat → Nat} {M : Mm} {rs : Nat → List Nat} {ow : Nat → Nat → Nat}
theorem t_ring {f : Nat} {Q : Nat → Prop} (h : FT A M rs ow) (hf : f < 160) (q : Q (A (64 + 2 * f))) : T_X1_ring M (A 7) (nI f) Q := by
  unfold T_X1_ring
  have e : (160 : Int32) = nI 160 := rfl
  refine ⟨fun z => absurd z (nI_pos (by omega)), fun _ => ⟨fun z => absurd z (by rw [e]; exact nI_ge hf (by omega)), fun _ => ⟨h.1.k 7, A 8, h.1.r 7 0 8, 160, h.1.k 8, vp_in_nI hf (by omega), A (64 + 2 * f), ?_, q⟩⟩⟩
  rw [nI_clamp (by omega)]
  exact (h.1.2.2.2 f hf).2.2.1
theorem t_ring_out {x : Int32} {Q : Nat → Prop} (h : FT A M rs ow) (hx : x < 0 ∨ (¬ x < 0 ∧ nI 160 ≤ x)) (q : Q (A 9)) : T_X1_ring M (A 7) x Q := by
  unfold T_X1_ring
  have e : (160 : Int32) = nI 160 := rfl
  exact ⟨fun _ => ⟨h.1.k 7, A 9, h.1.r 7 1 9, q⟩, fun n => ⟨fun _ => ⟨h.1.k 7, A 9, h.1.r 7 1 9, q⟩, fun z => absurd (hx.elim (fun w => absurd w n) (fun w => w.2)) z⟩⟩
theorem t_has {x : Int32} {Q : Int32 → Prop} (h : FT A M rs ow) (q1 : ∀ f, f < 160 → x = nI f → rs f ≠ [] → Q 1) (q0 : (∀ f, f < 160 → x = nI f → rs f = []) → Q 0) : T_X1_has M (A 7) x Q := by
  unfold T_X1_has
  refine ⟨h.1.k 7, ?_⟩
  rcases i_case x 160 (by omega) with ⟨f, hf, e⟩ | hx
  · subst e
    have hl := h.len hf
    refine t_ring h hf ⟨(h.2.1 f hf).1, t_length (h.2.1 f hf) ?_⟩
    rw [List.length_map]
    by_cases e : rs f = []
    · refine ⟨fun _ => q0 (fun g hg eg => ?_), fun z => absurd (by rw [e]; decide) z⟩
      rw [← (nI_eq (by omega) (by omega)).mp eg]; exact e
    · have hn : 0 < (rs f).length := List.length_pos_iff.mpr e
      exact ⟨fun z => absurd z (nI_nle hn (by omega)), fun _ => q1 f hf rfl e⟩
  · refine t_ring_out h hx ⟨h.2.2.1.1, t_length h.2.2.1 ⟨fun _ => q0 (fun f hf e => ?_), fun z => absurd (by decide) z⟩⟩
    subst e
    rcases hx with w | w
    · exact absurd w (nI_pos (by omega))
    · exact absurd w.2 (nI_ge hf (by omega))
theorem t_owner {a b : Nat} {Q : Int32 → Prop} (h : FT A M rs ow) (ha : a < 100) (hb : b < 100) (q : Q (oi (ow a b))) : T_X1_owner M (A 7) (nI a) (nI b) Q := by
  unfold T_X1_owner
  have e : (100 : Int32) = nI 100 := rfl
  have e2 : nI a * 100 + nI b = nI (a * 100 + b) := by rw [e, nI_mulx, nI_add]
  rw [e2]
  refine ⟨fun z => absurd z (nI_pos (by omega)), fun _ => ⟨fun z => absurd z (by rw [e]; exact nI_ge ha (by omega)), fun _ => ⟨fun z => absurd z (nI_pos (by omega)), fun _ => ⟨fun _ => ⟨h.1.k 7, A 11, h.1.r 7 2 11, 10000, h.1.k 11, vp_in_nI (by omega) (by omega), ?_⟩, fun z => absurd (by rw [e]; exact nI_lt hb (by omega)) z⟩⟩⟩⟩
  rw [nI_clamp (by omega), (h.2.2.2.1 a b ha hb).1]
  exact q
theorem t_isOpen {a b : Nat} {Q : Int32 → Prop} (h : FT A M rs ow) (ha : a < 100) (hb : b < 100) (q1 : ow a b = 0 → ow b a ≠ 0 → Q 1) (q0 : ¬ (ow a b = 0 ∧ ow b a ≠ 0) → Q 0) : T_X1_isOpen M (A 7) (nI a) (nI b) Q := by
  have o1 := (h.2.2.2.1 a b ha hb).2
  have o2 := (h.2.2.2.1 b a hb ha).2
  unfold T_X1_isOpen
  refine ⟨h.1.k 7, t_owner h ha hb ⟨fun z => q0 (fun w => z ((oi_none (by omega)).mpr w.1)), fun z => ⟨h.1.k 7, t_owner h hb ha ⟨fun w => q0 (fun y => y.2 ((oi_none (by omega)).mp w)), fun w => q1 ((oi_none (by omega)).mp z) (fun y => w ((oi_none (by omega)).mpr y))⟩⟩⟩⟩
theorem t_isEdge {a b : Nat} {Q : Int32 → Prop} (h : FT A M rs ow) (ha : a < 100) (hb : b < 100) (q1 : ow a b ≠ 0 ∨ ow b a ≠ 0 → Q 1) (q0 : ow a b = 0 → ow b a = 0 → Q 0) : T_X1_isEdge M (A 7) (nI a) (nI b) Q := by
  have o1 := (h.2.2.2.1 a b ha hb).2
  have o2 := (h.2.2.2.1 b a hb ha).2
  unfold T_X1_isEdge
  refine ⟨h.1.k 7, t_owner h ha hb ⟨fun z => q1 (Or.inl (fun w => z ((oi_none (by omega)).mpr w))), fun z => ⟨h.1.k 7, t_owner h hb ha ⟨fun w => q0 ((oi_none (by omega)).mp z) ((oi_none (by omega)).mp w), fun w => q1 (Or.inr (fun y => w ((oi_none (by omega)).mpr y)))⟩⟩⟩⟩
theorem t_isInner {a b : Nat} {Q : Int32 → Prop} (h : FT A M rs ow) (ha : a < 100) (hb : b < 100) (q1 : ow a b ≠ 0 → ow b a ≠ 0 → Q 1) (q0 : ow a b = 0 ∨ ow b a = 0 → Q 0) : T_X1_isInner M (A 7) (nI a) (nI b) Q := by
  have o1 := (h.2.2.2.1 a b ha hb).2
  have o2 := (h.2.2.2.1 b a hb ha).2
  unfold T_X1_isInner
  refine ⟨h.1.k 7, t_owner h ha hb ⟨fun z => q0 (Or.inl ((oi_none (by omega)).mp z)), fun z => ⟨h.1.k 7, t_owner h hb ha ⟨fun w => q0 (Or.inr ((oi_none (by omega)).mp w)), fun w => q1 (fun y => z ((oi_none (by omega)).mpr y)) (fun y => w ((oi_none (by omega)).mpr y))⟩⟩⟩⟩
theorem t_isToldBy {a b : Nat} {Q : Int32 → Prop} (h : FT A M rs ow) (ha : a < 100) (hb : b < 100) (q1 : a < b ∨ ow b a = 0 → Q 1) (q0 : ¬ a < b → ow b a ≠ 0 → Q 0) : T_X1_isToldBy M (A 7) (nI a) (nI b) Q := by
  have o2 := (h.2.2.2.1 b a hb ha).2
  unfold T_X1_isToldBy
  refine ⟨fun z => q1 (Or.inl ((nI_ltI (by omega) (by omega)).mp z)), fun z => ⟨h.1.k 7, t_owner h hb ha ⟨fun w => q0 (fun y => z (nI_lt y (by omega))) (fun y => w ((oi_none (by omega)).mpr y)), fun w => q1 (Or.inr ((oi_none (by omega)).mp w))⟩⟩⟩
end
