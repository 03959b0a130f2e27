section
theorem t_reach64 {M : Mm} {x : Int64} {Q : Int32 → Prop} (q1 : -500 ≤ x.toInt → x.toInt ≤ 500 → Q 1) (q0 : Q 0) : T_X8_isInReach M x Q := by
  unfold T_X8_isInReach
  have a1 : (-500 : Int64).toInt = -500 := by decide
  have a2 : (500 : Int64).toInt = 500 := by decide
  have c1 : lg_cmp x (-500) < 0 ↔ x.toInt < -500 := by rw [lgl.1, a1]
  have c2 : 0 < lg_cmp x 500 ↔ 500 < x.toInt := by rw [lgl.2, a2]
  rw [c1, c2]
  exact ⟨fun _ => q0, fun z => ⟨fun _ => q0, fun w => q1 (by omega) (by omega)⟩⟩
theorem long_add (x y : Int32) : (x.toInt64 + y.toInt64).toInt = x.toInt + y.toInt := by
  have h1 := Int32.toInt_lt x
  have h2 := Int32.le_toInt x
  have h3 := Int32.toInt_lt y
  have h4 := Int32.le_toInt y
  rw [Int64.toInt_add, Int32.toInt_toInt64, Int32.toInt_toInt64, Int.bmod_def]
  omega
theorem nr_long {x y : Int32} (h1 : -500 ≤ (x.toInt64 + y.toInt64).toInt) (h2 : (x.toInt64 + y.toInt64).toInt ≤ 500) : nr (x + y) := by
  rw [long_add] at h1 h2
  rw [nr_iff, k32_add (by omega) (by omega)]
  exact ⟨h1, h2⟩
def nxt (n i : Nat) : Nat := if i + 1 < n then i + 1 else 0
theorem nxt_lt {n i : Nat} (hi : i < n) : nxt n i < n := by unfold nxt; split <;> omega
theorem gn_nxt {xs : List Nat} {i : Nat} (hi : i < xs.length) : gn xs (nxt xs.length i) = gn xs (i + 1) := by
  unfold nxt
  split
  · rfl
  · rw [show i + 1 = 0 + xs.length by omega, gn_add]
/-- a row of new points -/
def rowN (p c : Nat) : List Nat := (List.range c).map (fun k => p + k)
theorem rowN_len (p c : Nat) : (rowN p c).length = c := by unfold rowN; rw [List.length_map, List.length_range]
theorem rowN_suc (p c : Nat) : rowN p (c + 1) = rowN p c ++ [p + c] := by unfold rowN; rw [List.range_succ, List.map_append]; rfl
theorem rowN_at {p c k : Nat} (h : k < c) : gn (rowN p c) k = p + k := by
  refine gn_eq ?_
  unfold rowN
  rw [List.getElem?_map, List.getElem?_range h]
  rfl
theorem rowN_hv {p n : Nat} (hn : 0 < n) (u v : Nat) : hvk (rowN p n) (rowN p n).length u v ↔ ∃ i, i < n ∧ u = p + i ∧ v = p + nxt n i := by
  have hl := rowN_len p n
  have e : ∀ i, i < n → gn (rowN p n) (i + 1) = p + nxt n i := fun i hi => by
    have := gn_nxt (xs := rowN p n) (i := i) (by omega)
    rw [hl] at this
    rw [← this, rowN_at (nxt_lt hi)]
  rw [hl]
  constructor
  · intro ⟨i, hi, e1, e2⟩
    rw [rowN_at hi] at e1
    rw [e i hi] at e2
    exact ⟨i, hi, e1.symm, e2.symm⟩
  · intro ⟨i, hi, e1, e2⟩
    exact ⟨i, hi, by rw [rowN_at hi]; exact e1.symm, by rw [e i hi]; exact e2.symm⟩
variable {A : Nat → Nat} {M M' : Mm} {B : Nat} {rs rs2 : Nat → List Nat} {ow ow2 : Nat → Nat → Nat} {th : Nat → Bool} {ps : Nat → Nat → Int32} {fe fl pe pl : Nat} {Cc Zz : Nat}
theorem n_canShift {f ax : Nat} {y : Int32} {Q : Int32 → Prop} (h : SD A M B rs ow th ps fe fl pe pl) (hf : f < 160) (hax : ax < 3) (q1 : (∀ i, i < (rs f).length → nr (ps ax (gn (rs f) i) + y)) → Q 1) (q0 : Q 0) : T_X8_canShift M (A 0) (A (64 + 2 * f)) (nI ax) y Q := by
  unfold T_X8_canShift
  intro K hK
  have hr := h.1.2.1 f hf
  have hl := h.1.len hf
  have key : ∀ d i, i + d = (rs f).length → (∀ j, j < i → nr (ps ax (gn (rs f) j) + y)) → K (A 0) (A (64 + 2 * f)) (nI ax) y (nI i) := by
    intro d
    induction d with
    | zero =>
      intro i hi hj
      refine hK _ _ _ _ _ ⟨hr.1, t_length hr ?_⟩
      rw [List.length_map]
      exact ⟨fun _ => q1 (fun j hj2 => hj j (by omega)), fun z => absurd (nI_le (by omega) (by omega)) z⟩
    | succ d ih =>
      intro i hi hj
      refine hK _ _ _ _ _ ⟨hr.1, t_length hr ?_⟩
      rw [List.length_map]
      refine ⟨fun z => absurd z (nI_ge (by omega) (by omega)), fun _ => ⟨h.sh.k 0, A 1, h.sh.r 0 0 1, hr.1, t_gt hr (by omega) ?_⟩⟩
      rw [gt_map (by omega)]
      have hb := h.1.2.2.2.2 f _ hf (gn_mem (xs := rs f) (p := i) (by omega))
      refine ⟨h.sh.k 1, t_pget h.2.2.1 hb hax (t_reach64 (fun z1 z2 => ⟨fun _ => ?_, fun z => absurd z (by decide)⟩) ⟨fun z => absurd rfl z, fun _ => q0⟩)⟩
      rw [nI_1]
      refine ih (i + 1) (by omega) (fun j hj2 => ?_)
      by_cases x : j < i
      · exact hj j x
      · rw [show j = i by omega]
        exact nr_long z1 z2
  have := key (rs f).length 0 (by omega) (fun j hj => absurd hj (Nat.not_lt_zero _))
  rw [nI_0] at this
  exact this
/-- the sides of what is drawn out -/
theorem a_sides {p n : Nat} {xs : List Nat} {Q : Mm → Prop} (h : SD A M B rs ow th ps fe fl pe pl) (g : Gd rs ow th ps fe fl pe pl) (hr : RG M (A 33) (A 34) (xs.map nI)) (hn : xs.length = n) (h3 : 3 ≤ n) (h12 : n ≤ 12) (hp : p + n ≤ 100) (hfe : fe + n ≤ 160) (hx : ∀ q, q ∈ xs → q < p ∧ th q = true) (hd : ∀ i j, i < n → j < n → gn xs i = gn xs j → i = j) (ht : ∀ j, j < n → th (p + j) = true)
    (f1 : ∀ i, i < n → ¬ Hv rs (gn xs i) (gn xs (i + 1))) (f2 : ∀ u v, Hv rs u v → p ≤ u ∨ p ≤ v → ∃ j, j < n ∧ u = p + j ∧ v = p + nxt n j)
    (q : ∀ M' rs' ow', SD A M' B rs' ow' th ps (fe + n) (fl + n) pe pl → Gd rs' ow' th ps (fe + n) (fl + n) pe pl → Q M') : T_X8_addSides M (A 0) (A 33) (nI p) Q := by
  unfold T_X8_addSides
  intro K8 K30 h8 h30
  have xp : ∀ i, gn xs i < p := fun i => (hx _ (gn_mem (by omega))).1
  have xt : ∀ i, th (gn xs i) = true := fun i => (hx _ (gn_mem (by omega))).2
  have nn : ∀ i, i < n → nxt n i < n ∧ nxt n i ≠ i ∧ nxt n (nxt n i) ≠ i := fun i hi => by
    unfold nxt
    split <;> split <;> omega
  have nj : ∀ i j, i < n → j < n → nxt n i = nxt n j → i = j := fun i j hi hj e => by
    unfold nxt at e
    split at e <;> split at e <;> omega
  have gx : ∀ i, i < n → gn xs (nxt n i) = gn xs (i + 1) := fun i hi => by
    have := gn_nxt (xs := xs) (i := i) (by omega)
    rw [hn] at this
    exact this
  have key : ∀ d i M2 rs2 ow2, i + d = n → SD A M2 B rs2 ow2 th ps (fe + i) (fl + i) pe pl → Gd rs2 ow2 th ps (fe + i) (fl + i) pe pl → RG M2 (A 33) (A 34) (xs.map nI) → (∀ u v, Hv rs2 u v ↔ Hv rs u v ∨ ∃ j, j < i ∧ ((u = gn xs j ∧ v = gn xs (j + 1)) ∨ (u = gn xs (j + 1) ∧ v = p + nxt n j) ∨ (u = p + nxt n j ∧ v = p + j) ∨ (u = p + j ∧ v = gn xs j))) → K8 (A 0) (A 33) (nI p) (nI n) (nI i) M2 := by
    intro d
    induction d with
    | zero =>
      intro i M2 rs2 ow2 hi s2 g2 r2 hv2
      have : i = n := by omega
      subst this
      exact h8 _ _ _ _ _ _ ⟨fun _ => q M2 rs2 ow2 s2 g2, fun z => absurd (nI_le (Nat.le_refl _) (by omega)) z⟩
    | succ d ih =>
      intro i M2 rs2 ow2 hi s2 g2 r2 hv2
      have hin : i < n := by omega
      have k30 : K30 (A 0) (A 33) (nI p) (nI n) (nI i) (nI (nxt n i)) M2 := by
        refine h30 _ _ _ _ _ _ _ ⟨s2.sh.k 0, A 31, s2.sh.r 0 6 31, r2.1, t_gt r2 (by omega) ⟨r2.1, t_gt r2 (by have := (nn i hin).1; omega) ?_⟩⟩
        rw [gt_map (by omega), gt_map (by omega), gx i hin, nI_add, nI_add]
        obtain ⟨zs, hzr⟩ := s2.2.2.2.2.2 31 (Or.inl rfl)
        refine ⟨s2.sh.k 31, t_set4 hzr (fun M3 c3 r3 => ?_)⟩
        rw [if_neg (nI_ne1 (by omega))] at r3
        have r3' : RG M3 (A 31) (A (31 + 1)) ([gn xs i, gn xs (i + 1), p + nxt n i, p + i].map nI) := r3
        have c3' := c3.two (A := A) (by omega) (by omega)
        have s3 : SD A M3 B rs2 ow2 th ps (fe + i) (fl + i) pe pl := s2.go c3' (fun i z => by omega) (s2.2.2.2.2.rg s2.sh c3' (Or.inl rfl) (fun i z => z) r3)
        have r3b := r2.kept c3' (In.not s2.sh (by omega) (by omega)) (In.not s2.sh (by omega) (by omega))
        have o1 := xp i
        have o2 := xp (i + 1)
        have o3 : gn xs i ≠ gn xs (i + 1) := fun e => by
          rw [← gx i hin] at e
          exact (nn i hin).2.1 (hd i (nxt n i) hin (nn i hin).1 e).symm
        have o4 := nn i hin
        refine ⟨s3.sh.k 0, A 7, s3.sh.r 0 1 7, s3.sh.k 0, A 31, s3.sh.r 0 6 31, s3.sh.k 7, o_addF s3 g2 (Or.inl rfl) r3' (by omega) (by decide) (four_dist (by omega)) (fun u v z => ?_) (fun x hx2 => ?_) (fun M4 c4 s4 g4 => ?_)⟩
        · rw [g2.zero, hv2]
          have z := (four_hv _ _ _ _ u v).mp z
          intro y
          rcases z with ⟨rfl, rfl⟩ | ⟨rfl, rfl⟩ | ⟨rfl, rfl⟩ | ⟨rfl, rfl⟩
          · rcases y with y | ⟨j, hj, ⟨a1, a2⟩ | ⟨a1, a2⟩ | ⟨a1, a2⟩ | ⟨a1, a2⟩⟩
            · exact f1 i hin y
            · have := hd i j hin (by omega) a1; omega
            · omega
            · omega
            · omega
          · rcases y with y | ⟨j, hj, ⟨a1, a2⟩ | ⟨a1, a2⟩ | ⟨a1, a2⟩ | ⟨a1, a2⟩⟩
            · obtain ⟨j, _, a1, _⟩ := f2 _ _ y (Or.inr (by omega)); omega
            · have := xp (j + 1); omega
            · have := nj i j hin (by omega) (by omega); omega
            · omega
            · omega
          · rcases y with y | ⟨j, hj, ⟨a1, a2⟩ | ⟨a1, a2⟩ | ⟨a1, a2⟩ | ⟨a1, a2⟩⟩
            · obtain ⟨j, hj, a1, a2⟩ := f2 _ _ y (Or.inl (by omega))
              have : j = nxt n i := by omega
              subst this
              omega
            · have := xp j; omega
            · have := xp (j + 1); omega
            · omega
            · have := xp j; omega
          · rcases y with y | ⟨j, hj, ⟨a1, a2⟩ | ⟨a1, a2⟩ | ⟨a1, a2⟩ | ⟨a1, a2⟩⟩
            · obtain ⟨j, _, _, a2⟩ := f2 _ _ y (Or.inl (by omega)); omega
            · have := xp j; omega
            · have := xp (j + 1); omega
            · omega
            · omega
        · simp only [List.mem_cons, List.not_mem_nil, or_false] at hx2
          rcases hx2 with rfl | rfl | rfl | rfl
          · exact xt i
          · exact xt (i + 1)
          · exact ht _ o4.1
          · exact ht _ hin
        · rw [nI_1]
          refine ih (i + 1) M4 _ _ (by omega) s4 g4 (r3b.kept c4 (In.not s3.sh (by omega) (by omega)) (In.not s3.sh (by omega) (by omega))) (fun u v => ?_)
          rw [add_hv g2 (by omega), four_hv, hv2]
          constructor
          · intro z
            rcases z with z | z | ⟨j, hj, z⟩
            · exact Or.inr ⟨i, by omega, z⟩
            · exact Or.inl z
            · exact Or.inr ⟨j, by omega, z⟩
          · intro z
            rcases z with z | ⟨j, hj, z⟩
            · exact Or.inr (Or.inl z)
            · by_cases y : j < i
              · exact Or.inr (Or.inr ⟨j, y, z⟩)
              · have : j = i := by omega
                subst this
                exact Or.inl z
      refine h8 _ _ _ _ _ _ ⟨fun z => absurd z (nI_ge hin (by omega)), fun _ => ?_⟩
      rw [nI_1]
      unfold nxt at k30
      refine ⟨fun z => ?_, fun z => ?_⟩
      · have := (nI_leI (by omega) (by omega)).mp z
        rw [if_neg (by omega), nI_0] at k30
        exact k30
      · have : i + 1 < n := Classical.byContradiction (fun y => z (nI_le (by omega) (by omega)))
        rw [if_pos this] at k30
        exact k30
  refine ⟨hr.1, t_length hr ?_⟩
  rw [List.length_map, hn]
  have := key n 0 M rs ow (by omega) h g hr (fun u v => ⟨Or.inl, fun z => z.elim id (fun ⟨j, hj, _⟩ => absurd hj (Nat.not_lt_zero _))⟩)
  rw [nI_0] at this
  exact this
end
