theorem kd_at {s : State} {args : Array Value} {ty : FieldType} (h : (Cond.arrayClass ty).before args s = true) : ∃ c : ClassId, s.vm.findClass ("[" ++ ty.toString) = some c ∧ ArrOfT s c ty := by
  obtain ⟨c, k, comp, h1, h2, h3⟩ := Cond.arrayClass_spec h
  exact ⟨c, h1, fun n z => ⟨fun k h => (by cases h), k, h2, comp, h3⟩⟩
theorem kd_ov {s : State} {args : Array Value} {ty : FieldType} (h : (Cond.arrayOver (.array ty)).before args s = true) : ∃ c : ClassId, s.vm.findClass ("[" ++ (FieldType.array ty).toString) = some c ∧ ArrOfT s c (.array ty) := by
  obtain ⟨comp, c, k, h1, h2, h3, h4, h5⟩ := arrayOverA_spec h
  exact ⟨c, h5, fun n z => ⟨fun k h => (by cases h), k, h3, comp, h4⟩⟩
theorem kd_ob {s : State} {args : Array Value} {C : String} (h : (Cond.arrayOver (.object C)).before args s = true) : ∃ c : ClassId, va_RA s c (.object C) ∧ ArrOfT s c (.object C) := by
  obtain ⟨comp, c, k, h1, h2, h3, h4, h5⟩ := Cond.arrayOver_spec h
  exact ⟨c, ⟨k, comp, h3, h4, h1, h5⟩, fun n z => ⟨fun k h => (by cases h), k, h3, comp, h4⟩⟩
theorem bxw : ∀ j : Fin 24, Cond.eq (.elem (.static "QuarryMesh" "BOX_RINGS" "[I") (.int (Int32.ofNat j.val))) (.int (boxL.getD j.val 0)) ∈ flatC (Jvm.Cond.and given_1 narrow_1) := by decide +kernel
set_option maxRecDepth 100000 in
set_option maxHeartbeats 4000000 in
/-- what stands at the law's entry: the classes, and what lies below the walk's own cells -/
theorem law_stands {s : State} {b : Nat} (hts : ∀ w ∈ lw_tbl, w.before #[Value.ref b] s = true) (hgv : (Jvm.Cond.and given_1 narrow_1).before #[Value.ref b] s = true) : ∃ (D : va_G) (cA : Nat → ClassId), va_K D vwCl (tysC cA) s ∧ NW s ∧ Lo s.heap.size s s.heap := by
  have hl : ∀ w ∈ wsL_law, w.before #[Value.ref b] s = true := fun w h => hts w (wsL_law_in w h)
  have hs := flat_of_before _ hgv
  have hA : ∀ a : Nat, a < s.heap.size → ¬ (fun q : Nat => s.heap.size ≤ q) a := fun a h1 h2 => by
    have h2 : s.heap.size ≤ a := h2
    omega
  obtain ⟨c0, i0, k0⟩ := u_known (C := RX0) (T := TX0) (N := 3) (n := 3) hl inlX0 (hl (.instantiable RX0 3) (by decide +kernel))
  obtain ⟨c1, i1, k1⟩ := u_known (C := RX1) (T := TX1) (N := 5) (n := 5) hl inlX1 (hl (.instantiable RX1 5) (by decide +kernel))
  obtain ⟨c2, i2, k2⟩ := u_known (C := RX2) (T := TX2) (N := 2) (n := 2) hl inlX2 (hl (.instantiable RX2 2) (by decide +kernel))
  obtain ⟨c3, i3, k3⟩ := u_known (C := RX3) (T := TX3) (N := 4) (n := 4) hl inlX3 (hl (.instantiable RX3 4) (by decide +kernel))
  obtain ⟨c4, i4, k4⟩ := u_known (C := RX4) (T := TX4) (N := 5) (n := 5) hl inlX4 (hl (.instantiable RX4 5) (by decide +kernel))
  obtain ⟨c5, i5, k5⟩ := u_known (C := RX5) (T := TX5) (N := 2) (n := 2) hl inlX5 (hl (.instantiable RX5 2) (by decide +kernel))
  obtain ⟨c6, i6, k6⟩ := u_known (C := RX6) (T := TX6) (N := 3) (n := 3) hl inlX6 (hl (.instantiable RX6 3) (by decide +kernel))
  obtain ⟨c7, i7, k7⟩ := u_known (C := RX7) (T := TX7) (N := 6) (n := 6) hl inlX7 (hl (.instantiable RX7 6) (by decide +kernel))
  obtain ⟨c8, i8, k8⟩ := u_known (C := RX8) (T := TX8) (N := 8) (n := 8) hl inlX8 (hl (.instantiable RX8 8) (by decide +kernel))
  obtain ⟨a0, f0, o0⟩ := kd_at (ty := .int) (hl _ (by decide +kernel))
  obtain ⟨a1, f1, o1⟩ := kd_at (ty := .boolean) (hl _ (by decide +kernel))
  obtain ⟨a2, f2, o2⟩ := kd_at (ty := .byte) (hts _ (by decide +kernel))
  have w3 : (Cond.arrayOver (.object "QuarryMesh$Ring")).before #[Value.ref b] s = true := hts _ (by decide +kernel)
  have w4 : (Cond.arrayOver (.array .int)).before #[Value.ref b] s = true := hts _ (by decide +kernel)
  have w5 : (Cond.arrayOver (.array .boolean)).before #[Value.ref b] s = true := hts _ (by decide +kernel)
  obtain ⟨a3, f3, o3⟩ := kd_ob w3
  obtain ⟨a4, f4, o4⟩ := kd_ov w4
  obtain ⟨a5, f5, o5⟩ := kd_ov w5
  have hbox : ∃ t, va_Z "QuarryMesh" "BOX_RINGS" "[I" (.ref t) (fun q => s.heap.size ≤ q) s s.heap ∧ va_T .int t 24 (fun j => .int (boxL.getD j 0)) (fun q => s.heap.size ≤ q) s s.heap := by
    obtain ⟨t, e, hT⟩ := va_Tof (args := #[Value.ref b]) (s := s) (tm := .static "QuarryMesh" "BOX_RINGS" "[I") (ty := .int) (N := 24) (f := fun j => .int (boxL.getD j 0)) (A := fun q => s.heap.size ≤ q) (by omega) (hs _ (by decide +kernel)) (va_eqt (hs (.eq (.length (.static "QuarryMesh" "BOX_RINGS" "[I")) (.int 24)) (by decide +kernel))) (fun j hj => va_eqt (hs _ (bxw ⟨j, hj⟩))) hA
    exact ⟨t, va_Zref (hts _ (by decide +kernel)) (hts _ (by decide +kernel)) e hA, hT⟩
  have htx : ∀ q ∈ txts, Cond.stringRef q.1 q.2.1 q.2.2 ∈ lw_tbl ∧ Cond.exactly (.string q.1 q.2.1) "java/lang/String" ∈ flatC (Jvm.Cond.and given_1 narrow_1) := by decide +kernel
  have hnw : ∀ q ∈ nwM, Cond.methodLinkNest q.1 q.2.1 q.2.2.1 q.2.2.2 ∈ lw_tbl := by decide +kernel
  have hde : ∀ y ∈ thD, Cond.declares y ∈ lw_tbl := by decide +kernel
  have hca : ∀ E ∈ thE, Cond.castable E E ∈ lw_tbl := by decide +kernel
  have hnc : ∀ E ∈ thE, ∀ F ∈ thE, E ≠ F → Cond.not (.castable E F) ∈ flatC (Jvm.Cond.and given_1 narrow_1) := by decide +kernel
  refine ⟨(fun k => match k with
    | 0 => c0
    | 1 => c1
    | 2 => c2
    | 3 => c3
    | 4 => c4
    | 5 => c5
    | 6 => c6
    | 7 => c7
    | _ => c8, fun k => match k with
    | 0 => i0
    | 1 => i1
    | 2 => i2
    | 3 => i3
    | 4 => i4
    | 5 => i5
    | 6 => i6
    | 7 => i7
    | _ => i8), (fun k => match k with
    | 100 => a0
    | 101 => a1
    | 110 => a2
    | 120 => a3
    | 121 => a4
    | _ => a5), ⟨fun k q hq => ?_, fun k q hq => ?_⟩, fun q hq => va_Nw.of rfl (hts _ (hnw q hq)), va_AO.of w3, vx_Zqof (hts _ (by decide +kernel)) (hts _ (by decide +kernel)) (hs _ (by decide +kernel)) hA, vx_Zqof (hts _ (by decide +kernel)) (hts _ (by decide +kernel)) (hs _ (by decide +kernel)) hA, hbox, fun q hq => ?_, fun y hy => va_Nw.of rfl (hts _ (hde y hy)), fun E hE => va_Nw.of rfl (hts _ (hca E hE)), fun E hE F hF hne => va_Nc.of (hs _ (hnc E hE F hF hne)), w4, w5⟩
  · match k, hq with
    | 0, hq => cases hq; exact k0
    | 1, hq => cases hq; exact k1
    | 2, hq => cases hq; exact k2
    | 3, hq => cases hq; exact k3
    | 4, hq => cases hq; exact k4
    | 5, hq => cases hq; exact k5
    | 6, hq => cases hq; exact k6
    | 7, hq => cases hq; exact k7
    | 8, hq => cases hq; exact k8
    | k + 9, hq => simp [vwCl] at hq
  · match k, hq with
    | 0, hq => cases hq; exact ⟨o0, f0⟩
    | 1, hq => cases hq; exact ⟨o1, f1⟩
    | 2, hq => cases hq; exact ⟨o2, f2⟩
    | 3, hq => cases hq; exact ⟨o3, f3⟩
    | 4, hq => cases hq; exact ⟨o4, f4⟩
    | 5, hq => cases hq; exact ⟨o5, f5⟩
    | k + 6, hq => simp [tysC] at hq
  · obtain ⟨e1, e2⟩ := htx q hq
    obtain ⟨a, c, cA, kA, q1, -⟩ := Cond.exactly_spec (args := #[Value.ref b]) (first := s) (o := none) (s := s) (idx := []) (hs _ e2)
    have h1 : (Cond.stringRef q.1 q.2.1 q.2.2).before #[Value.ref b] s = true := hts _ e1
    exact ⟨a, vk_R.of (A := #[Value.ref b]) h1 q1⟩
