section
theorem t_reach64 {M : Mm} {x : Int64} {Q : Int32 → Prop} (q1 : -500 ≤ x.toInt → x.toInt ≤ 500 → Q 1) (q0 : Q 0) : T_X8_isInReach M x Q := by
  unfold T_X8_isInReach
  have a1 : (-500 : Int64).toInt = -500 := by decide
  have a2 : (500 : Int64).toInt = 500 := by decide
  have c1 : lg_cmp x (-500) < 0 ↔ x.toInt < -500 := by rw [lgl.1, a1]
  have c2 : 0 < lg_cmp x 500 ↔ 500 < x.toInt := by rw [lgl.2, a2]
  rw [c1, c2]
  exact ⟨fun _ => q0, fun z => ⟨fun _ => q0, fun w => q1 (by omega) (by omega)⟩⟩
theorem long_add (x y : Int32) : (x.toInt64 + y.toInt64).toInt = x.toInt + y.toInt := by
  have h1 := Int32.toInt_lt x
  have h2 := Int32.le_toInt x
  have h3 := Int32.toInt_lt y
  have h4 := Int32.le_toInt y
  rw [Int64.toInt_add, Int32.toInt_toInt64, Int32.toInt_toInt64, Int.bmod_def]
  omega
theorem nr_long {x y : Int32} (h1 : -500 ≤ (x.toInt64 + y.toInt64).toInt) (h2 : (x.toInt64 + y.toInt64).toInt ≤ 500) : nr (x + y) := by
  rw [long_add] at h1 h2
  rw [nr_iff, k32_add (by omega) (by omega)]
  exact ⟨h1, h2⟩
def nxt (n i : Nat) : Nat := if i + 1 < n then i + 1 else 0
theorem nxt_lt {n i : Nat} (hi : i < n) : nxt n i < n := by unfold nxt; split <;> omega
theorem gn_nxt {xs : List Nat} {i : Nat} (hi : i < xs.length) : gn xs (nxt xs.length i) = gn xs (i + 1) := by
  unfold nxt
  split
  · rfl
  · rw [show i + 1 = 0 + xs.length by omega, gn_add]
/-- a row of new points -/
def rowN (p c : Nat) : List Nat := (List.range c).map (fun k => p + k)
theorem rowN_len (p c : Nat) : (rowN p c).length = c := by unfold rowN; rw [List.length_map, List.length_range]
theorem rowN_suc (p c : Nat) : rowN p (c + 1) = rowN p c ++ [p + c] := by unfold rowN; rw [List.range_succ, List.map_append]; rfl
theorem rowN_at {p c k : Nat} (h : k < c) : gn (rowN p c) k = p + k := by
  refine gn_eq ?_
  unfold rowN
  rw [List.getElem?_map, List.getElem?_range h]
  rfl
theorem rowN_hv {p n : Nat} (hn : 0 < n) (u v : Nat) : hvk (rowN p n) (rowN p n).length u v ↔ ∃ i, i < n ∧ u = p + i ∧ v = p + nxt n i := by
  have hl := rowN_len p n
  have e : ∀ i, i < n → gn (rowN p n) (i + 1) = p + nxt n i := fun i hi => by
    have := gn_nxt (xs := rowN p n) (i := i) (by omega)
    rw [hl] at this
    rw [← this, rowN_at (nxt_lt hi)]
  rw [hl]
  constructor
  · intro ⟨i, hi, e1, e2⟩
    rw [rowN_at hi] at e1
    rw [e i hi] at e2
    exact ⟨i, hi, e1.symm, e2.symm⟩
  · intro ⟨i, hi, e1, e2⟩
    exact ⟨i, hi, by rw [rowN_at hi]; exact e1.symm, by rw [e i hi]; exact e2.symm⟩
variable {A : Nat → Nat} {M M' : Mm} {B : Nat} {rs rs2 : Nat → List Nat} {ow ow2 : Nat → Nat → Nat} {th : Nat → Bool} {ps : Nat → Nat → Int32} {fe fl pe pl : Nat} {Cc Zz : Nat}
theorem n_canShift {f ax : Nat} {y : Int32} {Q : Int32 → Prop} (h : SD A M B rs ow th ps fe fl pe pl) (hf : f < 160) (hax : ax < 3) (q1 : (∀ i, i < (rs f).length → nr (ps ax (gn (rs f) i) + y)) → Q 1) (q0 : Q 0) : T_X8_canShift M (A 0) (A (64 + 2 * f)) (nI ax) y Q := by
  unfold T_X8_canShift
  intro K hK
  have hr := h.1.2.1 f hf
  have hl := h.1.len hf
  have key : ∀ d i, i + d = (rs f).length → (∀ j, j < i → nr (ps ax (gn (rs f) j) + y)) → K (A 0) (A (64 + 2 * f)) (nI ax) y (nI i) := by
    intro d
    induction d with
    | zero =>
      intro i hi hj
      refine hK _ _ _ _ _ ⟨hr.1, t_length hr ?_⟩
      rw [List.length_map]
      exact ⟨fun _ => q1 (fun j hj2 => hj j (by omega)), fun z => absurd (nI_le (by omega) (by omega)) z⟩
    | succ d ih =>
      intro i hi hj
      refine hK _ _ _ _ _ ⟨hr.1, t_length hr ?_⟩
      rw [List.length_map]
      refine ⟨fun z => absurd z (nI_ge (by omega) (by omega)), fun _ => ⟨h.sh.k 0, A 1, h.sh.r 0 0 1, hr.1, t_gt hr (by omega) ?_⟩⟩
      rw [gt_map (by omega)]
      have hb := h.1.2.2.2.2 f _ hf (gn_mem (xs := rs f) (p := i) (by omega))
      refine ⟨h.sh.k 1, t_pget h.2.2.1 hb hax (t_reach64 (fun z1 z2 => ⟨fun _ => ?_, fun z => absurd z (by decide)⟩) ⟨fun z => absurd rfl z, fun _ => q0⟩)⟩
      rw [nI_1]
      refine ih (i + 1) (by omega) (fun j hj2 => ?_)
      by_cases x : j < i
      · exact hj j x
      · rw [show j = i by omega]
        exact nr_long z1 z2
  have := key (rs f).length 0 (by omega) (fun j hj => absurd hj (Nat.not_lt_zero _))
  rw [nI_0] at this
  exact this
/-- the sides of what is drawn out -/
theorem a_sides {p n : Nat} {xs : List Nat} {Q : Mm → Prop} (h : SD A M B rs ow th ps fe fl pe pl) (g : Gd rs ow th ps fe fl pe pl) (hr : RG M (A 33) (A 34) (xs.map nI)) (hn : xs.length = n) (h3 : 3 ≤ n) (h12 : n ≤ 12) (hp : p + n ≤ 100) (hfe : fe + n ≤ 160) (hx : ∀ q, q ∈ xs → q < p ∧ th q = true) (hd : ∀ i j, i < n → j < n → gn xs i = gn xs j → i = j) (ht : ∀ j, j < n → th (p + j) = true)
    (f1 : ∀ i, i < n → ¬ Hv rs (gn xs i) (gn xs (i + 1))) (f2 : ∀ u v, Hv rs u v → p ≤ u ∨ p ≤ v → ∃ j, j < n ∧ u = p + j ∧ v = p + nxt n j)
    (q : ∀ M' rs' ow', SD A M' B rs' ow' th ps (fe + n) (fl + n) pe pl → Gd rs' ow' th ps (fe + n) (fl + n) pe pl → Q M') : T_X8_addSides M (A 0) (A 33) (nI p) Q := by
  unfold T_X8_addSides
  intro K8 K30 h8 h30
  have xp : ∀ i, gn xs i < p := fun i => (hx _ (gn_mem (by omega))).1
  have xt : ∀ i, th (gn xs i) = true := fun i => (hx _ (gn_mem (by omega))).2
  have nn : ∀ i, i < n → nxt n i < n ∧ nxt n i ≠ i ∧ nxt n (nxt n i) ≠ i := fun i hi => by
    unfold nxt
    split <;> split <;> omega
  have nj : ∀ i j, i < n → j < n → nxt n i = nxt n j → i = j := fun i j hi hj e => by
    unfold nxt at e
    split at e <;> split at e <;> omega
  have gx : ∀ i, i < n → gn xs (nxt n i) = gn xs (i + 1) := fun i hi => by
    have := gn_nxt (xs := xs) (i := i) (by omega)
    rw [hn] at this
    exact this
  have key : ∀ d i M2 rs2 ow2, i + d = n → SD A M2 B rs2 ow2 th ps (fe + i) (fl + i) pe pl → Gd rs2 ow2 th ps (fe + i) (fl + i) pe pl → RG M2 (A 33) (A 34) (xs.map nI) → (∀ u v, Hv rs2 u v ↔ Hv rs u v ∨ ∃ j, j < i ∧ ((u = gn xs j ∧ v = gn xs (j + 1)) ∨ (u = gn xs (j + 1) ∧ v = p + nxt n j) ∨ (u = p + nxt n j ∧ v = p + j) ∨ (u = p + j ∧ v = gn xs j))) → K8 (A 0) (A 33) (nI p) (nI n) (nI i) M2 := by
    intro d
    induction d with
    | zero =>
      intro i M2 rs2 ow2 hi s2 g2 r2 hv2
      have : i = n := by omega
      subst this
      exact h8 _ _ _ _ _ _ ⟨fun _ => q M2 rs2 ow2 s2 g2, fun z => absurd (nI_le (Nat.le_refl _) (by omega)) z⟩
    | succ d ih =>
      intro i M2 rs2 ow2 hi s2 g2 r2 hv2
      have hin : i < n := by omega
      have k30 : K30 (A 0) (A 33) (nI p) (nI n) (nI i) (nI (nxt n i)) M2 := by
        refine h30 _ _ _ _ _ _ _ ⟨s2.sh.k 0, A 31, s2.sh.r 0 6 31, r2.1, t_gt r2 (by omega) ⟨r2.1, t_gt r2 (by have := (nn i hin).1; omega) ?_⟩⟩
        rw [gt_map (by omega), gt_map (by omega), gx i hin, nI_add, nI_add]
        obtain ⟨zs, hzr⟩ := s2.2.2.2.2.2 31 (Or.inl rfl)
        refine ⟨s2.sh.k 31, t_set4 hzr (fun M3 c3 r3 => ?_)⟩
        rw [if_neg (nI_ne1 (by omega))] at r3
        have r3' : RG M3 (A 31) (A (31 + 1)) ([gn xs i, gn xs (i + 1), p + nxt n i, p + i].map nI) := r3
        have c3' := c3.two (A := A) (by omega) (by omega)
        have s3 : SD A M3 B rs2 ow2 th ps (fe + i) (fl + i) pe pl := s2.go c3' (fun i z => by omega) (s2.2.2.2.2.rg s2.sh c3' (Or.inl rfl) (fun i z => z) r3)
        have r3b := r2.kept c3' (In.not s2.sh (by omega) (by omega)) (In.not s2.sh (by omega) (by omega))
        have o1 := xp i
        have o2 := xp (i + 1)
        have o3 : gn xs i ≠ gn xs (i + 1) := fun e => by
          rw [← gx i hin] at e
          exact (nn i hin).2.1 (hd i (nxt n i) hin (nn i hin).1 e).symm
        have o4 := nn i hin
        refine ⟨s3.sh.k 0, A 7, s3.sh.r 0 1 7, s3.sh.k 0, A 31, s3.sh.r 0 6 31, s3.sh.k 7, o_addF s3 g2 (Or.inl rfl) r3' (by omega) (show 3 ≤ 4 by decide) (four_dist (by omega)) (fun u v z => ?_) (fun x hx2 => ?_) (fun M4 c4 s4 g4 => ?_)⟩
        · rw [g2.zero, hv2]
          have z := (four_hv _ _ _ _ u v).mp z
          intro y
          rcases z with ⟨rfl, rfl⟩ | ⟨rfl, rfl⟩ | ⟨rfl, rfl⟩ | ⟨rfl, rfl⟩
          · rcases y with y | ⟨j, hj, ⟨a1, a2⟩ | ⟨a1, a2⟩ | ⟨a1, a2⟩ | ⟨a1, a2⟩⟩
            · exact f1 i hin y
            · have := hd i j hin (by omega) a1; omega
            · omega
            · omega
            · omega
          · rcases y with y | ⟨j, hj, ⟨a1, a2⟩ | ⟨a1, a2⟩ | ⟨a1, a2⟩ | ⟨a1, a2⟩⟩
            · obtain ⟨j, _, a1, _⟩ := f2 _ _ y (Or.inr (by omega)); omega
            · have := xp (j + 1); omega
            · have := nj i j hin (by omega) (by omega); omega
            · omega
            · omega
          · rcases y with y | ⟨j, hj, ⟨a1, a2⟩ | ⟨a1, a2⟩ | ⟨a1, a2⟩ | ⟨a1, a2⟩⟩
            · obtain ⟨j, hj, a1, a2⟩ := f2 _ _ y (Or.inl (by omega))
              have : j = nxt n i := by omega
              subst this
              omega
            · have := xp j; omega
            · have := xp (j + 1); omega
            · omega
            · have := xp j; omega
          · rcases y with y | ⟨j, hj, ⟨a1, a2⟩ | ⟨a1, a2⟩ | ⟨a1, a2⟩ | ⟨a1, a2⟩⟩
            · obtain ⟨j, _, _, a2⟩ := f2 _ _ y (Or.inl (by omega)); omega
            · have := xp j; omega
            · have := xp (j + 1); omega
            · omega
            · omega
        · simp only [List.mem_cons, List.not_mem_nil, or_false] at hx2
          rcases hx2 with rfl | rfl | rfl | rfl
          · exact xt i
          · exact xt (i + 1)
          · exact ht _ o4.1
          · exact ht _ hin
        · rw [nI_1]
          refine ih (i + 1) M4 _ _ (by omega) s4 g4 (r3b.kept c4 (In.not s3.sh (by omega) (by omega)) (In.not s3.sh (by omega) (by omega))) (fun u v => ?_)
          rw [add_hv g2 (by omega), four_hv, hv2]
          constructor
          · intro z
            rcases z with z | z | ⟨j, hj, z⟩
            · exact Or.inr ⟨i, by omega, z⟩
            · exact Or.inl z
            · exact Or.inr ⟨j, by omega, z⟩
          · intro z
            rcases z with z | ⟨j, hj, z⟩
            · exact Or.inr (Or.inl z)
            · by_cases y : j < i
              · exact Or.inr (Or.inr ⟨j, y, z⟩)
              · have : j = i := by omega
                subst this
                exact Or.inl z
      refine h8 _ _ _ _ _ _ ⟨fun z => absurd z (nI_ge hin (by omega)), fun _ => ?_⟩
      rw [nI_1]
      unfold nxt at k30
      refine ⟨fun z => ?_, fun z => ?_⟩
      · have := (nI_leI (by omega) (by omega)).mp z
        rw [if_neg (by omega), nI_0] at k30
        exact k30
      · have : i + 1 < n := Classical.byContradiction (fun y => z (nI_le (by omega) (by omega)))
        rw [if_pos this] at k30
        exact k30
  refine ⟨hr.1, t_length hr ?_⟩
  rw [List.length_map, hn]
  have := key n 0 M rs ow (by omega) h g hr (fun u v => ⟨Or.inl, fun z => z.elim id (fun ⟨j, hj, _⟩ => absurd hj (Nat.not_lt_zero _))⟩)
  rw [nI_0] at this
  exact this
end
section
variable {A : Nat → Nat} {M M' : Mm} {B : Nat} {rs rs2 : Nat → List Nat} {ow ow2 : Nat → Nat → Nat} {th : Nat → Bool} {ps : Nat → Nat → Int32} {fe fl pe pl : Nat} {Cc Zz : Nat}
theorem o_draw {i1 x y z : Int32} {Q : Int32 → Mm → Prop} {X : String → Mm → Prop} (h : SD A M B rs ow th ps fe fl pe pl) (g : Gd rs ow th ps fe fl pe pl) (hc : 3 ≤ Cc) (hz : 18 ≤ Zz) (hX : ∀ E M', xE E → SD A M' B rs ow th ps fe fl pe pl → X E M')
    (q : ∀ M' rs' ow' th' ps' fe' fl' pe' pl' v, ¬ v < 0 → SD A M' B rs' ow' th' ps' fe' fl' pe' pl' → Gd rs' ow' th' ps' fe' fl' pe' pl' → Q v M') : T_X8_draw Cc Zz M (A 0) i1 x y z Q X := by
  unfold T_X8_draw
  intro K54 K93 K124 h54 h93 h124
  refine ⟨1, 6, ⟨by omega, by omega⟩, h.sh.k 0, n_fc h (by omega) (by omega) (fun f hf ef hne => ?_) (fun _ => hX _ _ (Or.inl rfl) h)⟩
  subst ef
  have hr := h.1.2.1 f hf
  have h3 := (g.2.1 f).resolve_left hne
  have h12 := h.1.len hf
  have bad54 : ∀ a5 cc zz, cc + 1 ≤ Cc → zz + 6 ≤ Zz → K54 (A 0) (nI f) x y z a5 0 M cc zz := fun a5 cc zz c1 c2 => h54 _ _ _ _ _ _ _ _ _ _ ⟨1, 6, ⟨by omega, by omega⟩, n_arg (by omega) (by omega) (fun z => absurd rfl z) (fun _ => hX _ _ (Or.inr (Or.inl rfl)) h)⟩
  have bad93 : ∀ a5 i6 cc zz, cc + 1 ≤ Cc → zz + 6 ≤ Zz → K93 (A 0) (nI f) x y z a5 i6 0 M cc zz := fun a5 i6 cc zz c1 c2 => h93 _ _ _ _ _ _ _ _ _ _ _ ⟨1, 6, ⟨by omega, by omega⟩, n_stt (by omega) (by omega) (fun z => absurd rfl z) (fun _ => hX _ _ (Or.inr (Or.inr rfl)) h)⟩
  refine ⟨h.sh.k 0, A 7, h.sh.r 0 1 7, ⟨by omega, by omega⟩, h.sh.k 7, t_ring h.1 hf ⟨⟨by omega, by omega⟩, h.sh.k 0, n_canShift (ax := 0) h hf (by omega) (fun n0 => ⟨fun z => absurd z (by decide), fun _ => ?_⟩) ⟨fun _ => bad54 _ _ _ (by omega) (by omega), fun z => absurd rfl z⟩⟩⟩
  refine ⟨⟨by omega, by omega⟩, h.sh.k 0, n_canShift (ax := 1) h hf (by omega) (fun n1 => ⟨fun z => absurd z (by decide), fun _ => ?_⟩) ⟨fun _ => bad54 _ _ _ (by omega) (by omega), fun z => absurd rfl z⟩⟩
  refine ⟨⟨by omega, by omega⟩, h.sh.k 0, n_canShift (ax := 2) h hf (by omega) (fun n2 => ⟨fun z => absurd z (by decide), fun _ => ?_⟩) ⟨fun _ => bad54 _ _ _ (by omega) (by omega), fun z => absurd rfl z⟩⟩
  refine h54 _ _ _ _ _ _ _ _ _ _ ⟨1, 6, ⟨by omega, by omega⟩, n_arg (by omega) (by omega) (fun _ => ?_) (fun z => absurd z (by decide))⟩
  refine ⟨⟨by omega, by omega⟩, hr.1, t_length hr ?_⟩
  rw [List.length_map]
  refine ⟨h.sh.k 0, A 1, h.sh.r 0 0 1, ⟨by omega, by omega⟩, h.sh.k 1, t_phasRoom h.2.2.1 h.2.2.2.1 (by omega) (fun r1 => ⟨fun z => absurd z (by decide), fun _ => ?_⟩) (fun _ => ⟨fun _ => bad93 _ _ _ _ (by omega) (by omega), fun z => absurd rfl z⟩)⟩
  refine ⟨h.sh.k 0, A 7, h.sh.r 0 1 7, ⟨by omega, by omega⟩, h.sh.k 7, t_room h (by omega) (fun r2 => ⟨fun z => absurd z (by decide), fun _ => ?_⟩) (fun _ => ⟨fun _ => bad93 _ _ _ _ (by omega) (by omega), fun z => absurd rfl z⟩)⟩
  refine h93 _ _ _ _ _ _ _ _ _ _ _ ⟨1, 6, ⟨by omega, by omega⟩, n_stt (by omega) (by omega) (fun _ => ?_) (fun z => absurd z (by decide))⟩
  refine ⟨h.sh.k 0, A 1, h.sh.r 0 0 1, ⟨by omega, by omega⟩, h.sh.k 1, t_pever h ?_⟩
  obtain ⟨xs, hx⟩ := h.2.2.2.2.2 33 (Or.inr (Or.inl rfl))
  refine ⟨h.sh.k 0, A 33, h.sh.r 0 7 33, ⟨by omega, by omega⟩, h.sh.k 33, t_copyFrom hx hr (h.sh.ne (by omega) (by omega) (by omega)) (h.sh.ne (by omega) (by omega) (by omega)) (fun M2 c2 r2 => ?_)⟩
  have c2' := c2.two (A := A) (by omega) (by omega)
  have s2 : SD A M2 B rs ow th ps fe fl pe pl := h.go c2' (fun i z => by omega) (h.2.2.2.2.rg h.sh c2' (Or.inr (Or.inl rfl)) (fun i z => z) r2)
  obtain ⟨xs2, hx2⟩ := s2.2.2.2.2.2 31 (Or.inl rfl)
  refine ⟨s2.sh.k 0, A 31, s2.sh.r 0 6 31, ⟨by omega, by omega⟩, s2.sh.k 31, t_clear hx2 (fun M3 c3 r3 => ?_)⟩
  have c3' := c3.two (A := A) (by omega) (by omega)
  have s3 : SD A M3 B rs ow th ps fe fl pe pl := s2.go c3' (fun i z => by omega) (s2.2.2.2.2.rg s2.sh c3' (Or.inl rfl) (fun i z => z) r3)
  have r3b := r2.kept c3' (In.not s2.sh (by omega) (by omega)) (In.not s2.sh (by omega) (by omega))
  have old : ∀ i, gn (rs f) i < pe := fun i => by
    have := g.2.2.2.2.2.2.1 f _ (gn_mem (xs := rs f) (p := i) (by omega))
    refine Classical.byContradiction (fun y => ?_)
    rw [g.2.2.2.2.2.1 _ (by omega)] at this
    cases this
  have key : ∀ d i M4 th4 ps4, i + d = (rs f).length → SD A M4 B rs ow th4 ps4 fe fl (pe + i) (pl + i) → Gd rs ow th4 ps4 fe fl (pe + i) (pl + i) → RG M4 (A 31) (A 32) ((rowN pe i).map nI) → RG M4 (A 33) (A 34) ((rs f).map nI) → (∀ p, th p = true → th4 p = true) → (∀ j, j < i → th4 (pe + j) = true) → (∀ ax p, p < pe → ps4 ax p = ps ax p) → ∀ cc zz, cc ≤ Cc → zz ≤ Zz → K124 (A 0) (nI f) x y z (nI (rs f).length) (nI pe) (nI i) M4 cc zz := by
    intro d
    induction d with
    | zero =>
      intro i M4 th4 ps4 hi s4 g4 r4 r4b m4 t4 p4 cc zz c1 c2
      have : i = (rs f).length := by omega
      subst this
      refine h124 _ _ _ _ _ _ _ _ _ _ _ ⟨fun _ => ?_, fun z => absurd (nI_le (Nat.le_refl _) (by omega)) z⟩
      have nH : ∀ u v, Hv rs u v → u < pe ∧ v < pe := fun u v ⟨k, hk, w⟩ => by
        have e1 := g.2.2.2.2.2.2.1 k _ (hvk_in w).1
        have e2 := g.2.2.2.2.2.2.1 k _ (hvk_in w).2
        refine ⟨Classical.byContradiction (fun y => ?_), Classical.byContradiction (fun y => ?_)⟩
        · rw [g.2.2.2.2.2.1 _ (by omega)] at e1; cases e1
        · rw [g.2.2.2.2.2.1 _ (by omega)] at e2; cases e2
      have hl := rowN_len pe (rs f).length
      have g5 : Gd (upr rs f (rowN pe (rs f).length)) (rshT f (rs f) (rowN pe (rs f).length) ow) th4 ps4 fe fl (pe + (rs f).length) (pl + (rs f).length) := by
        refine g4.re hf hne (by omega) (fun i j hi hj e => ?_) (fun u v w => Or.inl ?_) (fun p hp => ?_)
        · rw [hl] at hi hj
          rw [rowN_at hi, rowN_at hj] at e
          omega
        · rw [wf_zero g.1]
          obtain ⟨i, hi, e1, _⟩ := (rowN_hv (by omega) u v).mp w
          intro y
          have := (nH u v y).1
          omega
        · unfold rowN at hp
          obtain ⟨k, hk, e⟩ := List.mem_map.mp hp
          exact e ▸ t4 k (List.mem_range.mp hk)
      refine ⟨s4.sh.k 0, A 7, s4.sh.r 0 1 7, s4.sh.k 0, A 31, s4.sh.r 0 6 31, ⟨by omega, by omega⟩, s4.sh.k 7, t_reshape s4.1 hf (by omega) (by omega) r4 (fun p hp => ?_) (fun M5 c5 f5 => ?_)⟩
      · unfold rowN at hp
        obtain ⟨k, hk, e⟩ := List.mem_map.mp hp
        have := List.mem_range.mp hk
        omega
      have s5 : SD A M5 B (upr rs f (rowN pe (rs f).length)) (rshT f (rs f) (rowN pe (rs f).length) ow) th4 ps4 fe fl (pe + (rs f).length) (pl + (rs f).length) := s4.face c5 (fun i z => by omega) f5 (s4.2.1.go s4.sh c5 (by omega))
      have r5 := r4b.kept c5 (In.not s4.sh (by omega) (by omega)) (In.not s4.sh (by omega) (by omega))
      have H5 : ∀ u v, Hv (upr rs f (rowN pe (rs f).length)) u v ↔ (∃ i, i < (rs f).length ∧ u = pe + i ∧ v = pe + nxt (rs f).length i) ∨ (Hv rs u v ∧ ¬ hvk (rs f) (rs f).length u v) := fun u v => by
        rw [Hv_up hf, rowN_hv (by omega), Hv_oth g.1 hf]
      refine ⟨s5.sh.k 0, A 33, s5.sh.r 0 7 33, ⟨by omega, by omega⟩, s5.sh.k 0, a_sides s5 g5 r5 rfl h3 h12 (by omega) (by omega) (fun p hp => ?_) (fun i j hi hj e => g.1.2 f i j hf hi hj e) t4 (fun i hi w => ?_) (fun u v w o => ?_) (fun M6 rs6 ow6 s6 g6 => ⟨by omega, by omega, q M6 rs6 ow6 th4 ps4 _ _ _ _ _ (nI_pos (by omega)) s6 g6⟩)⟩
      · obtain ⟨k, hk⟩ := List.getElem?_of_mem hp
        rw [← gn_eq hk]
        exact ⟨old k, m4 _ (g.2.2.2.2.2.2.1 f _ (gn_mem (by omega)))⟩
      · rcases (H5 _ _).mp w with ⟨j, _, e, _⟩ | ⟨_, w⟩
        · have := old i; omega
        · exact w ⟨i, hi, rfl, rfl⟩
      · rcases (H5 _ _).mp w with w | ⟨w, _⟩
        · exact w
        · have := nH u v w
          omega
    | succ d ih =>
      intro i M4 th4 ps4 hi s4 g4 r4 r4b m4 t4 p4 cc zz c1 c2
      refine h124 _ _ _ _ _ _ _ _ _ _ _ ⟨fun z => absurd z (nI_ge (by omega) (by omega)), fun _ => ?_⟩
      refine ⟨s4.sh.k 0, A 31, s4.sh.r 0 6 31, s4.sh.k 0, A 1, s4.sh.r 0 0 1, s4.sh.k 0, A 33, s4.sh.r 0 7 33, ⟨by omega, by omega⟩, s4.sh.k 33, t_gt r4b (by omega) ?_⟩
      rw [gt_map (by omega)]
      have hb := h.1.2.2.2.2 f _ hf (gn_mem (xs := rs f) (p := i) (by omega))
      have hpl := g4.pl_le
      refine ⟨⟨by omega, by omega⟩, s4.sh.k 1, t_addShifted s4.2.2.1 s4.2.2.2.1 (by omega) (by omega) hb (fun M5 c5 p5 n5 => ?_)⟩
      have g5 := g4.pt (x := ps4 0 (gn (rs f) i) + x) (y := ps4 1 (gn (rs f) i) + y) (z := ps4 2 (gn (rs f) i) + z) (by omega) ⟨by rw [p4 0 _ (old i)]; exact n0 i (by omega), by rw [p4 1 _ (old i)]; exact n1 i (by omega), by rw [p4 2 _ (old i)]; exact n2 i (by omega)⟩
      have s5 := s4.point c5 (fun i z => z) p5 n5
      have r5 := r4.kept c5 (In.not s4.sh (by omega) (by omega)) (In.not s4.sh (by omega) (by omega))
      have r5b := r4b.kept c5 (In.not s4.sh (by omega) (by omega)) (In.not s4.sh (by omega) (by omega))
      refine ⟨⟨by omega, by omega⟩, s5.sh.k 31, t_add r5 (by rw [List.length_map, rowN_len]; omega) (fun M6 c6 r6 => ?_)⟩
      have c6' := c6.two (A := A) (by omega) (by omega)
      have s6 := s5.go c6' (fun i z => by omega) (s5.2.2.2.2.rg s5.sh c6' (Or.inl rfl) (fun i z => z) r6)
      have r6b := r5b.kept c6' (In.not s5.sh (by omega) (by omega)) (In.not s5.sh (by omega) (by omega))
      rw [nI_1]
      refine ih (i + 1) M6 _ _ (by omega) s6 g5 ?_ r6b (fun p e => up_th (m4 p e)) (fun j hj => ?_) (fun ax p hp => ?_) cc zz c1 c2
      · rw [rowN_suc, List.map_append]
        exact r6
      · by_cases w : j < i
        · exact up_th (t4 j w)
        · rw [show j = i by omega]
          exact up_me
      · unfold upP
        rw [if_neg (by omega)]
        exact p4 ax p hp
  have := key (rs f).length 0 M3 th ps (by omega) s3 g r3 r3b (fun p e => e) (fun j hj => absurd hj (Nat.not_lt_zero _)) (fun ax p hp => rfl) (0 + 1 + 1 + 1) (0 + 6 + 6 + 6) (by omega) (by omega)
  rw [nI_0] at this
  exact this
end
