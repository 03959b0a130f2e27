def T_X3_add (M : Mm) (a0 : Nat) (i1 : Int32) (i2 : Int32) (i3 : Int32) (Q : Int32 → Mm → Prop) : Prop := kM M a0 = (3, 4) ∧ T_X8_isPointNumber M (iM M a0 2) (fun r_1 => (¬ r_1 = 0 → kM M a0 = (3, 4) ∧ T_X3_put M a0 (iM M a0 2) i1 i2 i3 (fun M_3 => kM M_3 a0 = (3, 4) ∧ ∃ a_4 : Nat, rM M_3 a0 1 = some a_4 ∧ ∃ n_5 : Nat, kM M_3 a_4 = (101, n_5) ∧ vp_in (iM M a0 2) n_5 ∧ kM (wI M_3 a_4 (iM M a0 2).toNatClampNeg (vp_nar .boolean 1)) a0 = (3, 4) ∧ kM (wI M_3 a_4 (iM M a0 2).toNatClampNeg (vp_nar .boolean 1)) a0 = (3, 4) ∧ kM (wI (wI M_3 a_4 (iM M a0 2).toNatClampNeg (vp_nar .boolean 1)) a0 2 ((iM (wI M_3 a_4 (iM M a0 2).toNatClampNeg (vp_nar .boolean 1)) a0 2) + 1)) a0 = (3, 4) ∧ kM (wI (wI M_3 a_4 (iM M a0 2).toNatClampNeg (vp_nar .boolean 1)) a0 2 ((iM (wI M_3 a_4 (iM M a0 2).toNatClampNeg (vp_nar .boolean 1)) a0 2) + 1)) a0 = (3, 4) ∧ Q (iM M a0 2) (wI (wI (wI M_3 a_4 (iM M a0 2).toNatClampNeg (vp_nar .boolean 1)) a0 2 ((iM (wI M_3 a_4 (iM M a0 2).toNatClampNeg (vp_nar .boolean 1)) a0 2) + 1)) a0 3 ((iM (wI (wI M_3 a_4 (iM M a0 2).toNatClampNeg (vp_nar .boolean 1)) a0 2 ((iM (wI M_3 a_4 (iM M a0 2).toNatClampNeg (vp_nar .boolean 1)) a0 2) + 1)) a0 3) + 1)))) ∧ (r_1 = 0 → Q (-1) M))
theorem inX3_add_X3 : ∀ w ∈ wsX30, w ∈ wsX3_add := by decide +kernel
set_option maxRecDepth 100000 in
set_option maxHeartbeats 4000000 in
theorem c_X3_add (l : Launch) (D : va_G) (cA : Nat → ClassId) (lo : Nat) {M : Mm} {a0 : Nat} {i1 : Int32} {i2 : Int32} {i3 : Int32} {Q : Int32 → Mm → Prop} (h : T_X3_add M a0 i1 i2 i3 Q) : Met l yX3_add wsX3_add ({ frames := 2, cells := 0, slots := 0, locals := 44 } : Room) (PcM D cA lo [.ref a0, .int i1, .int i2, .int i3] M) (QiM D cA lo Q) 0 0 (fun q => lo ≤ q) := by
  refine q_start (cc := cX3_add) (nL := 5) (ret := (some .int)) (by decide) rfl rfl (Nat.le_of_ble_eq_true rfl) ?_
  intro p e s m args below meth c C hr hlk hin
  unfold T_X3_add at h
  refine q_aload_n C dX3_add_0 rfl (j := 0) rfl ?_
  refine q_getI (ci := 3) (k0 := 2) (T := TX3) C inX3_add_X3 rfl (by decide) h.1 (by decide) rfl (by decide +kernel) rfl dX3_add_1 ?_
  have h := h.2
  refine q_istore (lv' := [(4, .int (iM M a0 2)), (0, .ref a0), (1, .int i1), (2, .int i2), (3, .int i3)]) C dX3_add_4 (by decide) rfl ?_
  refine q_iload C dX3_add_6 (j := 0) rfl ?_
  refine q_ci (q_runSN (As := [.int (iM M a0 2)]) (st := []) C (c_X8_isPointNumber l D cA lo h) ⟨va_cnB (host := "QuarryMesh") 1 C.2.2.2.2.1 gX3_add_X8_isPointNumber_n27 rfl rfl rfl (C.2.2.2.2.2.2.2.1 (RX3, 27, yX8_isPointNumber, "QuarryMesh") (List.mem_of_getElem? (i := 6) rfl)) (C.2.2.2.2.1 _ (by decide +kernel)) (by decide +kernel) ⟨Nat.le_of_ble_eq_true rfl, Nat.le_of_ble_eq_true rfl⟩, C.2.2.2.2.1 _ (by decide +kernel), trivial⟩ rfl rfl (Nat.le_of_ble_eq_true rfl) dX3_add_8 ⟨Nat.le_of_ble_eq_true rfl, Nat.le_of_ble_eq_true rfl⟩) (fun r_1 M_z h => ?_)
  refine q_mem h.1 ?_
  have h := h.2
  refine q_if_ne (tgt := 16) C dX3_add_11 (by decide) (fun z => ?_) (fun z => ?_)
  · have h := h.1 z
    refine q_aload_n C dX3_add_16 rfl (j := 1) rfl ?_
    refine q_iload C dX3_add_17 (j := 0) rfl ?_
    refine q_iload_n C dX3_add_19 rfl (j := 2) rfl ?_
    refine q_iload_n C dX3_add_20 rfl (j := 3) rfl ?_
    refine q_iload_n C dX3_add_21 rfl (j := 4) rfl ?_
    refine q_cv (q_runV (As := [.int (iM M a0 2), .int i1, .int i2, .int i3]) (st := []) C (c_X3_put l D cA lo h.2) (cwV 4 C.2.2.2.2.1 gX3_add_X3_put rfl rfl rfl (by decide +kernel) ⟨Nat.le_of_ble_eq_true rfl, Nat.le_of_ble_eq_true rfl⟩) h.1 (by decide) rfl rfl rfl (Nat.le_of_ble_eq_true rfl) dX3_add_22 ⟨Nat.le_of_ble_eq_true rfl, Nat.le_of_ble_eq_true rfl⟩) (fun M_3 h => ?_)
    refine q_aload_n C dX3_add_25 rfl (j := 1) rfl ?_
    refine q_getR (ci := 3) (k0 := 1) (T := TX3) C inX3_add_X3 rfl (by decide) h.1 (by decide) rfl (by decide +kernel) rfl dX3_add_26 ?_
    obtain ⟨a_4, z, h⟩ := h.2
    refine q_ref z ?_
    refine q_iload C dX3_add_29 (j := 0) rfl ?_
    refine q_iconst (v := 1) C dX3_add_31 (by decide) ?_
    obtain ⟨n_5, z1, z2, h⟩ := h
    refine q_zast C z1 z2 dX3_add_32 ?_
    refine q_aload_n C dX3_add_33 rfl (j := 1) rfl ?_
    refine q_dup C dX3_add_34 rfl ?_
    refine q_getI (ci := 3) (k0 := 2) (T := TX3) C inX3_add_X3 rfl (by decide) h.1 (by decide) rfl (by decide +kernel) rfl dX3_add_35 ?_
    have h := h.2
    refine q_iconst (v := 1) C dX3_add_38 (by decide) ?_
    refine q_iadd C dX3_add_39 ?_
    refine q_putI (ci := 3) (k0 := 2) (T := TX3) (v := ((iM (wI M_3 a_4 (iM M a0 2).toNatClampNeg (vp_nar .boolean 1)) a0 2) + 1)) (ty := .int) C inX3_add_X3 tyX3 tyX3_ok nmX3 rfl (by decide) h.1 (by decide) rfl (by decide +kernel) rfl (by decide +kernel) rfl rfl rfl dX3_add_40 ?_
    have h := h.2
    refine q_aload_n C dX3_add_43 rfl (j := 1) rfl ?_
    refine q_dup C dX3_add_44 rfl ?_
    refine q_getI (ci := 3) (k0 := 3) (T := TX3) C inX3_add_X3 rfl (by decide) h.1 (by decide) rfl (by decide +kernel) rfl dX3_add_45 ?_
    have h := h.2
    refine q_iconst (v := 1) C dX3_add_48 (by decide) ?_
    refine q_iadd C dX3_add_49 ?_
    refine q_putI (ci := 3) (k0 := 3) (T := TX3) (v := ((iM (wI (wI M_3 a_4 (iM M a0 2).toNatClampNeg (vp_nar .boolean 1)) a0 2 ((iM (wI M_3 a_4 (iM M a0 2).toNatClampNeg (vp_nar .boolean 1)) a0 2) + 1)) a0 3) + 1)) (ty := .int) C inX3_add_X3 tyX3 tyX3_ok nmX3 rfl (by decide) h.1 (by decide) rfl (by decide +kernel) rfl (by decide +kernel) rfl rfl rfl dX3_add_50 ?_
    have h := h.2
    refine q_iload C dX3_add_53 (j := 0) rfl ?_
    exact q_iret C hr hlk dX3_add_55 (Nat.le_of_ble_eq_true rfl) (Nat.le_of_ble_eq_true rfl) h
  · have h := h.2 z
    refine q_iconst (v := (-1)) C dX3_add_14 (by decide) ?_
    exact q_iret C hr hlk dX3_add_15 (Nat.le_of_ble_eq_true rfl) (Nat.le_of_ble_eq_true rfl) h
def T_X3_addMiddle (M : Mm) (a0 : Nat) (i1 : Int32) (i2 : Int32) (Q : Int32 → Mm → Prop) : Prop := kM M a0 = (3, 4) ∧ T_X3_get M a0 i1 0 (fun r_1 => kM M a0 = (3, 4) ∧ T_X3_get M a0 i2 0 (fun r_2 => kM M a0 = (3, 4) ∧ T_X3_get M a0 i1 1 (fun r_3 => kM M a0 = (3, 4) ∧ T_X3_get M a0 i2 1 (fun r_4 => kM M a0 = (3, 4) ∧ T_X3_get M a0 i1 2 (fun r_5 => kM M a0 = (3, 4) ∧ T_X3_get M a0 i2 2 (fun r_6 => kM M a0 = (3, 4) ∧ T_X3_add M a0 ((r_1 + r_2) / 2) ((r_3 + r_4) / 2) ((r_5 + r_6) / 2) (fun r_7 M_8 => Q r_7 M_8)))))))
set_option maxRecDepth 100000 in
set_option maxHeartbeats 4000000 in
theorem c_X3_addMiddle (l : Launch) (D : va_G) (cA : Nat → ClassId) (lo : Nat) {M : Mm} {a0 : Nat} {i1 : Int32} {i2 : Int32} {Q : Int32 → Mm → Prop} (h : T_X3_addMiddle M a0 i1 i2 Q) : Met l yX3_addMiddle wsX3_addMiddle ({ frames := 3, cells := 0, slots := 0, locals := 68 } : Room) (PcM D cA lo [.ref a0, .int i1, .int i2] M) (QiM D cA lo Q) 0 0 (fun q => lo ≤ q) := by
  refine q_start (cc := cX3_addMiddle) (nL := 3) (ret := (some .int)) (by decide) rfl rfl (Nat.le_of_ble_eq_true rfl) ?_
  intro p e s m args below meth c C hr hlk hin
  unfold T_X3_addMiddle at h
  refine q_aload_n C dX3_addMiddle_0 rfl (j := 0) rfl ?_
  refine q_aload_n C dX3_addMiddle_1 rfl (j := 0) rfl ?_
  refine q_iload_n C dX3_addMiddle_2 rfl (j := 1) rfl ?_
  refine q_iconst (v := 0) C dX3_addMiddle_3 (by decide) ?_
  refine q_ci (q_runV (As := [.int i1, .int 0]) (st := [.ref a0]) C (c_X3_get l D cA lo h.2) (cwV 2 C.2.2.2.2.1 gX3_addMiddle_X3_get rfl rfl rfl (by decide +kernel) ⟨Nat.le_of_ble_eq_true rfl, Nat.le_of_ble_eq_true rfl⟩) h.1 (by decide) rfl rfl rfl (Nat.le_of_ble_eq_true rfl) dX3_addMiddle_4 ⟨Nat.le_of_ble_eq_true rfl, Nat.le_of_ble_eq_true rfl⟩) (fun r_1 M_z h => ?_)
  refine q_mem h.1 ?_
  have h := h.2
  refine q_aload_n C dX3_addMiddle_7 rfl (j := 0) rfl ?_
  refine q_iload_n C dX3_addMiddle_8 rfl (j := 2) rfl ?_
  refine q_iconst (v := 0) C dX3_addMiddle_9 (by decide) ?_
  refine q_ci (q_runV (As := [.int i2, .int 0]) (st := [.int r_1, .ref a0]) C (c_X3_get l D cA lo h.2) (cwV 2 C.2.2.2.2.1 gX3_addMiddle_X3_get rfl rfl rfl (by decide +kernel) ⟨Nat.le_of_ble_eq_true rfl, Nat.le_of_ble_eq_true rfl⟩) h.1 (by decide) rfl rfl rfl (Nat.le_of_ble_eq_true rfl) dX3_addMiddle_10 ⟨Nat.le_of_ble_eq_true rfl, Nat.le_of_ble_eq_true rfl⟩) (fun r_2 M_z h => ?_)
  refine q_mem h.1 ?_
  have h := h.2
  refine q_iadd C dX3_addMiddle_13 ?_
  refine q_iconst (v := 2) C dX3_addMiddle_14 (by decide) ?_
  refine q_idiv C dX3_addMiddle_15 (by decide) ?_
  refine q_aload_n C dX3_addMiddle_16 rfl (j := 0) rfl ?_
  refine q_iload_n C dX3_addMiddle_17 rfl (j := 1) rfl ?_
  refine q_iconst (v := 1) C dX3_addMiddle_18 (by decide) ?_
  refine q_ci (q_runV (As := [.int i1, .int 1]) (st := [.int ((r_1 + r_2) / 2), .ref a0]) C (c_X3_get l D cA lo h.2) (cwV 2 C.2.2.2.2.1 gX3_addMiddle_X3_get rfl rfl rfl (by decide +kernel) ⟨Nat.le_of_ble_eq_true rfl, Nat.le_of_ble_eq_true rfl⟩) h.1 (by decide) rfl rfl rfl (Nat.le_of_ble_eq_true rfl) dX3_addMiddle_19 ⟨Nat.le_of_ble_eq_true rfl, Nat.le_of_ble_eq_true rfl⟩) (fun r_3 M_z h => ?_)
  refine q_mem h.1 ?_
  have h := h.2
  refine q_aload_n C dX3_addMiddle_22 rfl (j := 0) rfl ?_
  refine q_iload_n C dX3_addMiddle_23 rfl (j := 2) rfl ?_
  refine q_iconst (v := 1) C dX3_addMiddle_24 (by decide) ?_
  refine q_ci (q_runV (As := [.int i2, .int 1]) (st := [.int r_3, .int ((r_1 + r_2) / 2), .ref a0]) C (c_X3_get l D cA lo h.2) (cwV 2 C.2.2.2.2.1 gX3_addMiddle_X3_get rfl rfl rfl (by decide +kernel) ⟨Nat.le_of_ble_eq_true rfl, Nat.le_of_ble_eq_true rfl⟩) h.1 (by decide) rfl rfl rfl (Nat.le_of_ble_eq_true rfl) dX3_addMiddle_25 ⟨Nat.le_of_ble_eq_true rfl, Nat.le_of_ble_eq_true rfl⟩) (fun r_4 M_z h => ?_)
  refine q_mem h.1 ?_
  have h := h.2
  refine q_iadd C dX3_addMiddle_28 ?_
  refine q_iconst (v := 2) C dX3_addMiddle_29 (by decide) ?_
  refine q_idiv C dX3_addMiddle_30 (by decide) ?_
  refine q_aload_n C dX3_addMiddle_31 rfl (j := 0) rfl ?_
  refine q_iload_n C dX3_addMiddle_32 rfl (j := 1) rfl ?_
  refine q_iconst (v := 2) C dX3_addMiddle_33 (by decide) ?_
  refine q_ci (q_runV (As := [.int i1, .int 2]) (st := [.int ((r_3 + r_4) / 2), .int ((r_1 + r_2) / 2), .ref a0]) C (c_X3_get l D cA lo h.2) (cwV 2 C.2.2.2.2.1 gX3_addMiddle_X3_get rfl rfl rfl (by decide +kernel) ⟨Nat.le_of_ble_eq_true rfl, Nat.le_of_ble_eq_true rfl⟩) h.1 (by decide) rfl rfl rfl (Nat.le_of_ble_eq_true rfl) dX3_addMiddle_34 ⟨Nat.le_of_ble_eq_true rfl, Nat.le_of_ble_eq_true rfl⟩) (fun r_5 M_z h => ?_)
  refine q_mem h.1 ?_
  have h := h.2
  refine q_aload_n C dX3_addMiddle_37 rfl (j := 0) rfl ?_
  refine q_iload_n C dX3_addMiddle_38 rfl (j := 2) rfl ?_
  refine q_iconst (v := 2) C dX3_addMiddle_39 (by decide) ?_
  refine q_ci (q_runV (As := [.int i2, .int 2]) (st := [.int r_5, .int ((r_3 + r_4) / 2), .int ((r_1 + r_2) / 2), .ref a0]) C (c_X3_get l D cA lo h.2) (cwV 2 C.2.2.2.2.1 gX3_addMiddle_X3_get rfl rfl rfl (by decide +kernel) ⟨Nat.le_of_ble_eq_true rfl, Nat.le_of_ble_eq_true rfl⟩) h.1 (by decide) rfl rfl rfl (Nat.le_of_ble_eq_true rfl) dX3_addMiddle_40 ⟨Nat.le_of_ble_eq_true rfl, Nat.le_of_ble_eq_true rfl⟩) (fun r_6 M_z h => ?_)
  refine q_mem h.1 ?_
  have h := h.2
  refine q_iadd C dX3_addMiddle_43 ?_
  refine q_iconst (v := 2) C dX3_addMiddle_44 (by decide) ?_
  refine q_idiv C dX3_addMiddle_45 (by decide) ?_
  refine q_ci (q_runV (As := [.int ((r_1 + r_2) / 2), .int ((r_3 + r_4) / 2), .int ((r_5 + r_6) / 2)]) (st := []) C (c_X3_add l D cA lo h.2) (cwV 3 C.2.2.2.2.1 gX3_addMiddle_X3_add rfl rfl rfl (by decide +kernel) ⟨Nat.le_of_ble_eq_true rfl, Nat.le_of_ble_eq_true rfl⟩) h.1 (by decide) rfl rfl rfl (Nat.le_of_ble_eq_true rfl) dX3_addMiddle_46 ⟨Nat.le_of_ble_eq_true rfl, Nat.le_of_ble_eq_true rfl⟩) (fun r_7 M_8 h => ?_)
  exact q_iret C hr hlk dX3_addMiddle_49 (Nat.le_of_ble_eq_true rfl) (Nat.le_of_ble_eq_true rfl) h
def S_X3_centre_17 (K17 : Nat → Nat → Int32 → Int32 → Int32 → Int32 → Prop) (Q : Int32 → Prop) (M : Mm) (a0 : Nat) (a1 : Nat) (i2 : Int32) (i3 : Int32) (i4 : Int32) (i5 : Int32) : Prop := (i3 ≤ i5 → (¬ i3 = 0) ∧ Q (i4 / i3)) ∧ (¬ i3 ≤ i5 → kM M a1 = (5, 2) ∧ T_X5_get M a1 i5 (fun r_2 => kM M a0 = (3, 4) ∧ T_X3_get M a0 r_2 i2 (fun r_3 => K17 a0 a1 i2 i3 (i4 + r_3) (i5 + 1))))
def T_X3_centre (M : Mm) (a0 : Nat) (a1 : Nat) (i2 : Int32) (Q : Int32 → Prop) : Prop := ∀ (K17 : Nat → Nat → Int32 → Int32 → Int32 → Int32 → Prop), (∀ (a0 : Nat) (a1 : Nat) (i2 : Int32) (i3 : Int32) (i4 : Int32) (i5 : Int32), S_X3_centre_17 K17 Q M a0 a1 i2 i3 i4 i5 → K17 a0 a1 i2 i3 i4 i5) → kM M a1 = (5, 2) ∧ T_X5_length M a1 (fun r_1 => (¬ r_1 = 0 → K17 a0 a1 i2 r_1 0 0) ∧ (r_1 = 0 → Q 0))
set_option maxRecDepth 100000 in
set_option maxHeartbeats 4000000 in
theorem b_X3_centre_17 {p : Program} {l : Launch} {e : Env} {s : State} {m : MethodId} {args : Array Value} {below : List Frame} {meth : Method} {c : Code} {D : va_G} {cA : Nat → ClassId} {lo : Nat} (C : Cx p s m args c cX3_centre 6 RX3 wsX3_centre D cA lo) (hr : meth.sig.returnType = (some .int)) (hlk : meth.locks = false) {Q : Int32 → Prop} {M : Mm} (a0 : Nat) (a1 : Nat) (i2 : Int32) (i3 : Int32) (i4 : Int32) (i5 : Int32) (h : S_X3_centre_17 (fun (a0 : Nat) (a1 : Nat) (i2 : Int32) (i3 : Int32) (i4 : Int32) (i5 : Int32) => QW p l e ({ frames := 2, cells := 0, slots := 0, locals := 42 } : Room) s m args below meth c (MQ below (QiM D cA lo (fun r M1 => M1 = M ∧ Q r)) args s 0 0 (fun q => lo ≤ q)) 6 D cA lo 0 0 M 17 [(0, .ref a0), (1, .ref a1), (2, .int i2), (3, .int i3), (4, .int i4), (5, .int i5)] []) Q M a0 a1 i2 i3 i4 i5) : QW p l e ({ frames := 2, cells := 0, slots := 0, locals := 42 } : Room) s m args below meth c (MQ below (QiM D cA lo (fun r M1 => M1 = M ∧ Q r)) args s 0 0 (fun q => lo ≤ q)) 6 D cA lo 0 0 M 17 [(0, .ref a0), (1, .ref a1), (2, .int i2), (3, .int i3), (4, .int i4), (5, .int i5)] [] := by
  unfold S_X3_centre_17 at h
  refine q_iload C dX3_centre_17 (j := 5) rfl ?_
  refine q_iload_n C dX3_centre_19 rfl (j := 3) rfl ?_
  refine q_icmp_ge (tgt := 45) C dX3_centre_20 (by decide) (fun z => ?_) (fun z => ?_)
  · have h := h.1 z
    refine q_iload C dX3_centre_45 (j := 4) rfl ?_
    refine q_iload_n C dX3_centre_47 rfl (j := 3) rfl ?_
    refine q_idiv C dX3_centre_48 h.1 ?_
    have h := h.2
    exact q_iret C hr hlk dX3_centre_49 (Nat.le_of_ble_eq_true rfl) (Nat.le_of_ble_eq_true rfl) ⟨rfl, h⟩
  · have h := h.2 z
    refine q_iload C dX3_centre_23 (j := 4) rfl ?_
    refine q_aload_n C dX3_centre_25 rfl (j := 0) rfl ?_
    refine q_aload_n C dX3_centre_26 rfl (j := 1) rfl ?_
    refine q_iload C dX3_centre_27 (j := 5) rfl ?_
    refine q_ci (q_runV (As := [.int i5]) (st := [.ref a0, .int i4]) C (c_X5_get l D cA lo h.2) (cwV 1 C.2.2.2.2.1 gX3_centre_X5_get rfl rfl rfl (by decide +kernel) ⟨Nat.le_of_ble_eq_true rfl, Nat.le_of_ble_eq_true rfl⟩) h.1 (by decide) rfl rfl rfl (Nat.le_of_ble_eq_true rfl) dX3_centre_29 ⟨Nat.le_of_ble_eq_true rfl, Nat.le_of_ble_eq_true rfl⟩) (fun r_2 M_z h => ?_)
    refine q_mem h.1 ?_
    have h := h.2
    refine q_iload_n C dX3_centre_32 rfl (j := 2) rfl ?_
    refine q_ci (q_runV (As := [.int r_2, .int i2]) (st := [.int i4]) C (c_X3_get l D cA lo h.2) (cwV 2 C.2.2.2.2.1 gX3_centre_X3_get rfl rfl rfl (by decide +kernel) ⟨Nat.le_of_ble_eq_true rfl, Nat.le_of_ble_eq_true rfl⟩) h.1 (by decide) rfl rfl rfl (Nat.le_of_ble_eq_true rfl) dX3_centre_33 ⟨Nat.le_of_ble_eq_true rfl, Nat.le_of_ble_eq_true rfl⟩) (fun r_3 M_z h => ?_)
    refine q_mem h.1 ?_
    have h := h.2
    refine q_iadd C dX3_centre_36 ?_
    refine q_istore (lv' := [(4, .int (i4 + r_3)), (0, .ref a0), (1, .ref a1), (2, .int i2), (3, .int i3), (5, .int i5)]) C dX3_centre_37 (by decide) rfl ?_
    refine q_iinc (v := (i5 + 1)) (lv' := [(5, .int (i5 + 1)), (4, .int (i4 + r_3)), (0, .ref a0), (1, .ref a1), (2, .int i2), (3, .int i3)]) C dX3_centre_39 (j := 5) rfl rfl (by decide) rfl ?_
    refine q_goto (tgt := 17) C dX3_centre_42 (by decide) ?_
    exact q_sub [2, 3, 4, 5, 1, 0] rfl h
set_option maxRecDepth 100000 in
set_option maxHeartbeats 4000000 in
theorem c_X3_centre (l : Launch) (D : va_G) (cA : Nat → ClassId) (lo : Nat) {M : Mm} {a0 : Nat} {a1 : Nat} {i2 : Int32} {Q : Int32 → Prop} (h : T_X3_centre M a0 a1 i2 Q) : Met l yX3_centre wsX3_centre ({ frames := 2, cells := 0, slots := 0, locals := 42 } : Room) (PcM D cA lo [.ref a0, .ref a1, .int i2] M) (QiM D cA lo (fun r M1 => M1 = M ∧ Q r)) 0 0 (fun q => lo ≤ q) := by
  refine q_start (cc := cX3_centre) (nL := 6) (ret := (some .int)) (by decide) rfl rfl (Nat.le_of_ble_eq_true rfl) ?_
  intro p e s m args below meth c C hr hlk hin
  unfold T_X3_centre at h
  have h := h (fun (a0 : Nat) (a1 : Nat) (i2 : Int32) (i3 : Int32) (i4 : Int32) (i5 : Int32) => QW p l e ({ frames := 2, cells := 0, slots := 0, locals := 42 } : Room) s m args below meth c (MQ below (QiM D cA lo (fun r M1 => M1 = M ∧ Q r)) args s 0 0 (fun q => lo ≤ q)) 6 D cA lo 0 0 M 17 [(0, .ref a0), (1, .ref a1), (2, .int i2), (3, .int i3), (4, .int i4), (5, .int i5)] []) (fun a0 a1 i2 i3 i4 i5 h => b_X3_centre_17 C hr hlk a0 a1 i2 i3 i4 i5 h)
  refine q_aload_n C dX3_centre_0 rfl (j := 1) rfl ?_
  refine q_ci (q_runV (As := []) (st := []) C (c_X5_length l D cA lo h.2) (cwV 0 C.2.2.2.2.1 gX3_centre_X5_length rfl rfl rfl (by decide +kernel) ⟨Nat.le_of_ble_eq_true rfl, Nat.le_of_ble_eq_true rfl⟩) h.1 (by decide) rfl rfl rfl (Nat.le_of_ble_eq_true rfl) dX3_centre_1 ⟨Nat.le_of_ble_eq_true rfl, Nat.le_of_ble_eq_true rfl⟩) (fun r_1 M_z h => ?_)
  refine q_mem h.1 ?_
  have h := h.2
  refine q_istore_n (lv' := [(3, .int r_1), (0, .ref a0), (1, .ref a1), (2, .int i2)]) C dX3_centre_4 rfl (by decide) rfl ?_
  refine q_iload_n C dX3_centre_5 rfl (j := 0) rfl ?_
  refine q_if_ne (tgt := 11) C dX3_centre_6 (by decide) (fun z => ?_) (fun z => ?_)
  · have h := h.1 z
    refine q_iconst (v := 0) C dX3_centre_11 (by decide) ?_
    refine q_istore (lv' := [(4, .int 0), (3, .int r_1), (0, .ref a0), (1, .ref a1), (2, .int i2)]) C dX3_centre_12 (by decide) rfl ?_
    refine q_iconst (v := 0) C dX3_centre_14 (by decide) ?_
    refine q_istore (lv' := [(5, .int 0), (4, .int 0), (3, .int r_1), (0, .ref a0), (1, .ref a1), (2, .int i2)]) C dX3_centre_15 (by decide) rfl ?_
    exact q_sub [3, 4, 5, 2, 1, 0] rfl h
  · have h := h.2 z
    refine q_iconst (v := 0) C dX3_centre_9 (by decide) ?_
    exact q_iret C hr hlk dX3_centre_10 (Nat.le_of_ble_eq_true rfl) (Nat.le_of_ble_eq_true rfl) ⟨rfl, h⟩
def T_X3_addCentre (M : Mm) (a0 : Nat) (a1 : Nat) (Q : Int32 → Mm → Prop) : Prop := kM M a0 = (3, 4) ∧ T_X3_centre M a0 a1 0 (fun r_1 => kM M a0 = (3, 4) ∧ T_X3_centre M a0 a1 1 (fun r_2 => kM M a0 = (3, 4) ∧ T_X3_centre M a0 a1 2 (fun r_3 => kM M a0 = (3, 4) ∧ T_X3_add M a0 r_1 r_2 r_3 (fun r_4 M_5 => Q r_4 M_5))))
set_option maxRecDepth 100000 in
set_option maxHeartbeats 4000000 in
theorem c_X3_addCentre (l : Launch) (D : va_G) (cA : Nat → ClassId) (lo : Nat) {M : Mm} {a0 : Nat} {a1 : Nat} {Q : Int32 → Mm → Prop} (h : T_X3_addCentre M a0 a1 Q) : Met l yX3_addCentre wsX3_addCentre ({ frames := 3, cells := 0, slots := 0, locals := 68 } : Room) (PcM D cA lo [.ref a0, .ref a1] M) (QiM D cA lo Q) 0 0 (fun q => lo ≤ q) := by
  refine q_start (cc := cX3_addCentre) (nL := 2) (ret := (some .int)) (by decide) rfl rfl (Nat.le_of_ble_eq_true rfl) ?_
  intro p e s m args below meth c C hr hlk hin
  unfold T_X3_addCentre at h
  refine q_aload_n C dX3_addCentre_0 rfl (j := 0) rfl ?_
  refine q_aload_n C dX3_addCentre_1 rfl (j := 0) rfl ?_
  refine q_aload_n C dX3_addCentre_2 rfl (j := 1) rfl ?_
  refine q_iconst (v := 0) C dX3_addCentre_3 (by decide) ?_
  refine q_ci (q_runV (As := [.ref a1, .int 0]) (st := [.ref a0]) C (c_X3_centre l D cA lo h.2) (cwV 2 C.2.2.2.2.1 gX3_addCentre_X3_centre rfl rfl rfl (by decide +kernel) ⟨Nat.le_of_ble_eq_true rfl, Nat.le_of_ble_eq_true rfl⟩) h.1 (by decide) rfl rfl rfl (Nat.le_of_ble_eq_true rfl) dX3_addCentre_4 ⟨Nat.le_of_ble_eq_true rfl, Nat.le_of_ble_eq_true rfl⟩) (fun r_1 M_z h => ?_)
  refine q_mem h.1 ?_
  have h := h.2
  refine q_aload_n C dX3_addCentre_7 rfl (j := 0) rfl ?_
  refine q_aload_n C dX3_addCentre_8 rfl (j := 1) rfl ?_
  refine q_iconst (v := 1) C dX3_addCentre_9 (by decide) ?_
  refine q_ci (q_runV (As := [.ref a1, .int 1]) (st := [.int r_1, .ref a0]) C (c_X3_centre l D cA lo h.2) (cwV 2 C.2.2.2.2.1 gX3_addCentre_X3_centre rfl rfl rfl (by decide +kernel) ⟨Nat.le_of_ble_eq_true rfl, Nat.le_of_ble_eq_true rfl⟩) h.1 (by decide) rfl rfl rfl (Nat.le_of_ble_eq_true rfl) dX3_addCentre_10 ⟨Nat.le_of_ble_eq_true rfl, Nat.le_of_ble_eq_true rfl⟩) (fun r_2 M_z h => ?_)
  refine q_mem h.1 ?_
  have h := h.2
  refine q_aload_n C dX3_addCentre_13 rfl (j := 0) rfl ?_
  refine q_aload_n C dX3_addCentre_14 rfl (j := 1) rfl ?_
  refine q_iconst (v := 2) C dX3_addCentre_15 (by decide) ?_
  refine q_ci (q_runV (As := [.ref a1, .int 2]) (st := [.int r_2, .int r_1, .ref a0]) C (c_X3_centre l D cA lo h.2) (cwV 2 C.2.2.2.2.1 gX3_addCentre_X3_centre rfl rfl rfl (by decide +kernel) ⟨Nat.le_of_ble_eq_true rfl, Nat.le_of_ble_eq_true rfl⟩) h.1 (by decide) rfl rfl rfl (Nat.le_of_ble_eq_true rfl) dX3_addCentre_16 ⟨Nat.le_of_ble_eq_true rfl, Nat.le_of_ble_eq_true rfl⟩) (fun r_3 M_z h => ?_)
  refine q_mem h.1 ?_
  have h := h.2
  refine q_ci (q_runV (As := [.int r_1, .int r_2, .int r_3]) (st := []) C (c_X3_add l D cA lo h.2) (cwV 3 C.2.2.2.2.1 gX3_addCentre_X3_add rfl rfl rfl (by decide +kernel) ⟨Nat.le_of_ble_eq_true rfl, Nat.le_of_ble_eq_true rfl⟩) h.1 (by decide) rfl rfl rfl (Nat.le_of_ble_eq_true rfl) dX3_addCentre_19 ⟨Nat.le_of_ble_eq_true rfl, Nat.le_of_ble_eq_true rfl⟩) (fun r_4 M_5 h => ?_)
  exact q_iret C hr hlk dX3_addCentre_22 (Nat.le_of_ble_eq_true rfl) (Nat.le_of_ble_eq_true rfl) h
def T_X3_addShifted (M : Mm) (a0 : Nat) (i1 : Int32) (i2 : Int32) (i3 : Int32) (i4 : Int32) (Q : Int32 → Mm → Prop) : Prop := kM M a0 = (3, 4) ∧ T_X3_get M a0 i1 0 (fun r_1 => kM M a0 = (3, 4) ∧ T_X3_get M a0 i1 1 (fun r_2 => kM M a0 = (3, 4) ∧ T_X3_get M a0 i1 2 (fun r_3 => kM M a0 = (3, 4) ∧ T_X3_add M a0 (r_1 + i2) (r_2 + i3) (r_3 + i4) (fun r_4 M_5 => Q r_4 M_5))))
set_option maxRecDepth 100000 in
set_option maxHeartbeats 4000000 in
theorem c_X3_addShifted (l : Launch) (D : va_G) (cA : Nat → ClassId) (lo : Nat) {M : Mm} {a0 : Nat} {i1 : Int32} {i2 : Int32} {i3 : Int32} {i4 : Int32} {Q : Int32 → Mm → Prop} (h : T_X3_addShifted M a0 i1 i2 i3 i4 Q) : Met l yX3_addShifted wsX3_addShifted ({ frames := 3, cells := 0, slots := 0, locals := 68 } : Room) (PcM D cA lo [.ref a0, .int i1, .int i2, .int i3, .int i4] M) (QiM D cA lo Q) 0 0 (fun q => lo ≤ q) := by
  refine q_start (cc := cX3_addShifted) (nL := 5) (ret := (some .int)) (by decide) rfl rfl (Nat.le_of_ble_eq_true rfl) ?_
  intro p e s m args below meth c C hr hlk hin
  unfold T_X3_addShifted at h
  refine q_aload_n C dX3_addShifted_0 rfl (j := 0) rfl ?_
  refine q_aload_n C dX3_addShifted_1 rfl (j := 0) rfl ?_
  refine q_iload_n C dX3_addShifted_2 rfl (j := 1) rfl ?_
  refine q_iconst (v := 0) C dX3_addShifted_3 (by decide) ?_
  refine q_ci (q_runV (As := [.int i1, .int 0]) (st := [.ref a0]) C (c_X3_get l D cA lo h.2) (cwV 2 C.2.2.2.2.1 gX3_addShifted_X3_get rfl rfl rfl (by decide +kernel) ⟨Nat.le_of_ble_eq_true rfl, Nat.le_of_ble_eq_true rfl⟩) h.1 (by decide) rfl rfl rfl (Nat.le_of_ble_eq_true rfl) dX3_addShifted_4 ⟨Nat.le_of_ble_eq_true rfl, Nat.le_of_ble_eq_true rfl⟩) (fun r_1 M_z h => ?_)
  refine q_mem h.1 ?_
  have h := h.2
  refine q_iload_n C dX3_addShifted_7 rfl (j := 2) rfl ?_
  refine q_iadd C dX3_addShifted_8 ?_
  refine q_aload_n C dX3_addShifted_9 rfl (j := 0) rfl ?_
  refine q_iload_n C dX3_addShifted_10 rfl (j := 1) rfl ?_
  refine q_iconst (v := 1) C dX3_addShifted_11 (by decide) ?_
  refine q_ci (q_runV (As := [.int i1, .int 1]) (st := [.int (r_1 + i2), .ref a0]) C (c_X3_get l D cA lo h.2) (cwV 2 C.2.2.2.2.1 gX3_addShifted_X3_get rfl rfl rfl (by decide +kernel) ⟨Nat.le_of_ble_eq_true rfl, Nat.le_of_ble_eq_true rfl⟩) h.1 (by decide) rfl rfl rfl (Nat.le_of_ble_eq_true rfl) dX3_addShifted_12 ⟨Nat.le_of_ble_eq_true rfl, Nat.le_of_ble_eq_true rfl⟩) (fun r_2 M_z h => ?_)
  refine q_mem h.1 ?_
  have h := h.2
  refine q_iload_n C dX3_addShifted_15 rfl (j := 3) rfl ?_
  refine q_iadd C dX3_addShifted_16 ?_
  refine q_aload_n C dX3_addShifted_17 rfl (j := 0) rfl ?_
  refine q_iload_n C dX3_addShifted_18 rfl (j := 1) rfl ?_
  refine q_iconst (v := 2) C dX3_addShifted_19 (by decide) ?_
  refine q_ci (q_runV (As := [.int i1, .int 2]) (st := [.int (r_2 + i3), .int (r_1 + i2), .ref a0]) C (c_X3_get l D cA lo h.2) (cwV 2 C.2.2.2.2.1 gX3_addShifted_X3_get rfl rfl rfl (by decide +kernel) ⟨Nat.le_of_ble_eq_true rfl, Nat.le_of_ble_eq_true rfl⟩) h.1 (by decide) rfl rfl rfl (Nat.le_of_ble_eq_true rfl) dX3_addShifted_20 ⟨Nat.le_of_ble_eq_true rfl, Nat.le_of_ble_eq_true rfl⟩) (fun r_3 M_z h => ?_)
  refine q_mem h.1 ?_
  have h := h.2
  refine q_iload C dX3_addShifted_23 (j := 4) rfl ?_
  refine q_iadd C dX3_addShifted_25 ?_
  refine q_ci (q_runV (As := [.int (r_1 + i2), .int (r_2 + i3), .int (r_3 + i4)]) (st := []) C (c_X3_add l D cA lo h.2) (cwV 3 C.2.2.2.2.1 gX3_addShifted_X3_add rfl rfl rfl (by decide +kernel) ⟨Nat.le_of_ble_eq_true rfl, Nat.le_of_ble_eq_true rfl⟩) h.1 (by decide) rfl rfl rfl (Nat.le_of_ble_eq_true rfl) dX3_addShifted_26 ⟨Nat.le_of_ble_eq_true rfl, Nat.le_of_ble_eq_true rfl⟩) (fun r_4 M_5 h => ?_)
  exact q_iret C hr hlk dX3_addShifted_29 (Nat.le_of_ble_eq_true rfl) (Nat.le_of_ble_eq_true rfl) h
def T_X3_drop (M : Mm) (a0 : Nat) (i1 : Int32) (Q : Mm → Prop) : Prop := kM M a0 = (3, 4) ∧ T_X3_has M a0 i1 (fun r_1 => (r_1 = 0 → Q M) ∧ (¬ r_1 = 0 → kM M a0 = (3, 4) ∧ ∃ a_2 : Nat, rM M a0 1 = some a_2 ∧ ∃ n_3 : Nat, kM M a_2 = (101, n_3) ∧ vp_in i1 n_3 ∧ kM (wI M a_2 i1.toNatClampNeg (vp_nar .boolean 0)) a0 = (3, 4) ∧ kM (wI M a_2 i1.toNatClampNeg (vp_nar .boolean 0)) a0 = (3, 4) ∧ Q (wI (wI M a_2 i1.toNatClampNeg (vp_nar .boolean 0)) a0 3 ((iM (wI M a_2 i1.toNatClampNeg (vp_nar .boolean 0)) a0 3) - 1))))
theorem inX3_drop_X3 : ∀ w ∈ wsX30, w ∈ wsX3_drop := by decide +kernel
set_option maxRecDepth 100000 in
set_option maxHeartbeats 4000000 in
theorem c_X3_drop (l : Launch) (D : va_G) (cA : Nat → ClassId) (lo : Nat) {M : Mm} {a0 : Nat} {i1 : Int32} {Q : Mm → Prop} (h : T_X3_drop M a0 i1 Q) : Met l yX3_drop wsX3_drop ({ frames := 2, cells := 0, slots := 0, locals := 41 } : Room) (PcM D cA lo [.ref a0, .int i1] M) (QvM D cA lo Q) 0 0 (fun q => lo ≤ q) := by
  refine q_start (cc := cX3_drop) (nL := 2) (ret := none) (by decide) rfl rfl (Nat.le_of_ble_eq_true rfl) ?_
  intro p e s m args below meth c C hr hlk hin
  unfold T_X3_drop at h
  refine q_aload_n C dX3_drop_0 rfl (j := 0) rfl ?_
  refine q_iload_n C dX3_drop_1 rfl (j := 1) rfl ?_
  refine q_ci (q_runV (As := [.int i1]) (st := []) C (c_X3_has l D cA lo h.2) (cwV 1 C.2.2.2.2.1 gX3_drop_X3_has rfl rfl rfl (by decide +kernel) ⟨Nat.le_of_ble_eq_true rfl, Nat.le_of_ble_eq_true rfl⟩) h.1 (by decide) rfl rfl rfl (Nat.le_of_ble_eq_true rfl) dX3_drop_2 ⟨Nat.le_of_ble_eq_true rfl, Nat.le_of_ble_eq_true rfl⟩) (fun r_1 M_z h => ?_)
  refine q_mem h.1 ?_
  have h := h.2
  refine q_if_eq (tgt := 25) C dX3_drop_5 (by decide) (fun z => ?_) (fun z => ?_)
  · have h := h.1 z
    exact q_vret C hr hlk dX3_drop_25 (Nat.le_of_ble_eq_true rfl) (Nat.le_of_ble_eq_true rfl) h
  · have h := h.2 z
    refine q_aload_n C dX3_drop_8 rfl (j := 0) rfl ?_
    refine q_getR (ci := 3) (k0 := 1) (T := TX3) C inX3_drop_X3 rfl (by decide) h.1 (by decide) rfl (by decide +kernel) rfl dX3_drop_9 ?_
    obtain ⟨a_2, z, h⟩ := h.2
    refine q_ref z ?_
    refine q_iload_n C dX3_drop_12 rfl (j := 1) rfl ?_
    refine q_iconst (v := 0) C dX3_drop_13 (by decide) ?_
    obtain ⟨n_3, z1, z2, h⟩ := h
    refine q_zast C z1 z2 dX3_drop_14 ?_
    refine q_aload_n C dX3_drop_15 rfl (j := 0) rfl ?_
    refine q_dup C dX3_drop_16 rfl ?_
    refine q_getI (ci := 3) (k0 := 3) (T := TX3) C inX3_drop_X3 rfl (by decide) h.1 (by decide) rfl (by decide +kernel) rfl dX3_drop_17 ?_
    have h := h.2
    refine q_iconst (v := 1) C dX3_drop_20 (by decide) ?_
    refine q_isub C dX3_drop_21 ?_
    refine q_putI (ci := 3) (k0 := 3) (T := TX3) (v := ((iM (wI M a_2 i1.toNatClampNeg (vp_nar .boolean 0)) a0 3) - 1)) (ty := .int) C inX3_drop_X3 tyX3 tyX3_ok nmX3 rfl (by decide) h.1 (by decide) rfl (by decide +kernel) rfl (by decide +kernel) rfl rfl rfl dX3_drop_22 ?_
    have h := h.2
    exact q_vret C hr hlk dX3_drop_25 (Nat.le_of_ble_eq_true rfl) (Nat.le_of_ble_eq_true rfl) h
def S_X3_squaredLength_5 (K5 : Nat → Int32 → Int32 → Int32 → Int32 → Prop) (Q : Int32 → Prop) (M : Mm) (a0 : Nat) (i1 : Int32) (i2 : Int32) (i3 : Int32) (i4 : Int32) : Prop := (3 ≤ i4 → Q i3) ∧ (¬ 3 ≤ i4 → kM M a0 = (3, 4) ∧ T_X3_get M a0 i2 i4 (fun r_1 => kM M a0 = (3, 4) ∧ T_X3_get M a0 i1 i4 (fun r_2 => K5 a0 i1 i2 (i3 + ((r_1 - r_2) * (r_1 - r_2))) (i4 + 1))))
def T_X3_squaredLength (M : Mm) (a0 : Nat) (i1 : Int32) (i2 : Int32) (Q : Int32 → Prop) : Prop := ∀ (K5 : Nat → Int32 → Int32 → Int32 → Int32 → Prop), (∀ (a0 : Nat) (i1 : Int32) (i2 : Int32) (i3 : Int32) (i4 : Int32), S_X3_squaredLength_5 K5 Q M a0 i1 i2 i3 i4 → K5 a0 i1 i2 i3 i4) → K5 a0 i1 i2 0 0
set_option maxRecDepth 100000 in
set_option maxHeartbeats 4000000 in
theorem b_X3_squaredLength_5 {p : Program} {l : Launch} {e : Env} {s : State} {m : MethodId} {args : Array Value} {below : List Frame} {meth : Method} {c : Code} {D : va_G} {cA : Nat → ClassId} {lo : Nat} (C : Cx p s m args c cX3_squaredLength 6 RX3 wsX3_squaredLength D cA lo) (hr : meth.sig.returnType = (some .int)) (hlk : meth.locks = false) {Q : Int32 → Prop} {M : Mm} (a0 : Nat) (i1 : Int32) (i2 : Int32) (i3 : Int32) (i4 : Int32) (h : S_X3_squaredLength_5 (fun (a0 : Nat) (i1 : Int32) (i2 : Int32) (i3 : Int32) (i4 : Int32) => QW p l e ({ frames := 2, cells := 0, slots := 0, locals := 42 } : Room) s m args below meth c (MQ below (QiM D cA lo (fun r M1 => M1 = M ∧ Q r)) args s 0 0 (fun q => lo ≤ q)) 6 D cA lo 0 0 M 5 [(0, .ref a0), (1, .int i1), (2, .int i2), (3, .int i3), (4, .int i4)] []) Q M a0 i1 i2 i3 i4) : QW p l e ({ frames := 2, cells := 0, slots := 0, locals := 42 } : Room) s m args below meth c (MQ below (QiM D cA lo (fun r M1 => M1 = M ∧ Q r)) args s 0 0 (fun q => lo ≤ q)) 6 D cA lo 0 0 M 5 [(0, .ref a0), (1, .int i1), (2, .int i2), (3, .int i3), (4, .int i4)] [] := by
  unfold S_X3_squaredLength_5 at h
  refine q_iload C dX3_squaredLength_5 (j := 4) rfl ?_
  refine q_iconst (v := 3) C dX3_squaredLength_7 (by decide) ?_
  refine q_icmp_ge (tgt := 42) C dX3_squaredLength_8 (by decide) (fun z => ?_) (fun z => ?_)
  · have h := h.1 z
    refine q_iload_n C dX3_squaredLength_42 rfl (j := 3) rfl ?_
    exact q_iret C hr hlk dX3_squaredLength_43 (Nat.le_of_ble_eq_true rfl) (Nat.le_of_ble_eq_true rfl) ⟨rfl, h⟩
  · have h := h.2 z
    refine q_aload_n C dX3_squaredLength_11 rfl (j := 0) rfl ?_
    refine q_iload_n C dX3_squaredLength_12 rfl (j := 2) rfl ?_
    refine q_iload C dX3_squaredLength_13 (j := 4) rfl ?_
    refine q_ci (q_runV (As := [.int i2, .int i4]) (st := []) C (c_X3_get l D cA lo h.2) (cwV 2 C.2.2.2.2.1 gX3_squaredLength_X3_get rfl rfl rfl (by decide +kernel) ⟨Nat.le_of_ble_eq_true rfl, Nat.le_of_ble_eq_true rfl⟩) h.1 (by decide) rfl rfl rfl (Nat.le_of_ble_eq_true rfl) dX3_squaredLength_15 ⟨Nat.le_of_ble_eq_true rfl, Nat.le_of_ble_eq_true rfl⟩) (fun r_1 M_z h => ?_)
    refine q_mem h.1 ?_
    have h := h.2
    refine q_aload_n C dX3_squaredLength_18 rfl (j := 0) rfl ?_
    refine q_iload_n C dX3_squaredLength_19 rfl (j := 1) rfl ?_
    refine q_iload C dX3_squaredLength_20 (j := 4) rfl ?_
    refine q_ci (q_runV (As := [.int i1, .int i4]) (st := [.int r_1]) C (c_X3_get l D cA lo h.2) (cwV 2 C.2.2.2.2.1 gX3_squaredLength_X3_get rfl rfl rfl (by decide +kernel) ⟨Nat.le_of_ble_eq_true rfl, Nat.le_of_ble_eq_true rfl⟩) h.1 (by decide) rfl rfl rfl (Nat.le_of_ble_eq_true rfl) dX3_squaredLength_22 ⟨Nat.le_of_ble_eq_true rfl, Nat.le_of_ble_eq_true rfl⟩) (fun r_2 M_z h => ?_)
    refine q_mem h.1 ?_
    have h := h.2
    refine q_isub C dX3_squaredLength_25 ?_
    refine q_istore (lv' := [(5, .int (r_1 - r_2)), (0, .ref a0), (1, .int i1), (2, .int i2), (3, .int i3), (4, .int i4)]) C dX3_squaredLength_26 (by decide) rfl ?_
    refine q_iload_n C dX3_squaredLength_28 rfl (j := 4) rfl ?_
    refine q_iload C dX3_squaredLength_29 (j := 0) rfl ?_
    refine q_iload C dX3_squaredLength_31 (j := 0) rfl ?_
    refine q_imul C dX3_squaredLength_33 ?_
    refine q_iadd C dX3_squaredLength_34 ?_
    refine q_istore_n (lv' := [(3, .int (i3 + ((r_1 - r_2) * (r_1 - r_2)))), (5, .int (r_1 - r_2)), (0, .ref a0), (1, .int i1), (2, .int i2), (4, .int i4)]) C dX3_squaredLength_35 rfl (by decide) rfl ?_
    refine q_iinc (v := (i4 + 1)) (lv' := [(4, .int (i4 + 1)), (3, .int (i3 + ((r_1 - r_2) * (r_1 - r_2)))), (5, .int (r_1 - r_2)), (0, .ref a0), (1, .int i1), (2, .int i2)]) C dX3_squaredLength_36 (j := 5) rfl rfl (by decide) rfl ?_
    refine q_goto (tgt := 5) C dX3_squaredLength_39 (by decide) ?_
    exact q_sub [3, 4, 5, 1, 0] rfl h
set_option maxRecDepth 100000 in
set_option maxHeartbeats 4000000 in
theorem c_X3_squaredLength (l : Launch) (D : va_G) (cA : Nat → ClassId) (lo : Nat) {M : Mm} {a0 : Nat} {i1 : Int32} {i2 : Int32} {Q : Int32 → Prop} (h : T_X3_squaredLength M a0 i1 i2 Q) : Met l yX3_squaredLength wsX3_squaredLength ({ frames := 2, cells := 0, slots := 0, locals := 42 } : Room) (PcM D cA lo [.ref a0, .int i1, .int i2] M) (QiM D cA lo (fun r M1 => M1 = M ∧ Q r)) 0 0 (fun q => lo ≤ q) := by
  refine q_start (cc := cX3_squaredLength) (nL := 6) (ret := (some .int)) (by decide) rfl rfl (Nat.le_of_ble_eq_true rfl) ?_
  intro p e s m args below meth c C hr hlk hin
  unfold T_X3_squaredLength at h
  have h := h (fun (a0 : Nat) (i1 : Int32) (i2 : Int32) (i3 : Int32) (i4 : Int32) => QW p l e ({ frames := 2, cells := 0, slots := 0, locals := 42 } : Room) s m args below meth c (MQ below (QiM D cA lo (fun r M1 => M1 = M ∧ Q r)) args s 0 0 (fun q => lo ≤ q)) 6 D cA lo 0 0 M 5 [(0, .ref a0), (1, .int i1), (2, .int i2), (3, .int i3), (4, .int i4)] []) (fun a0 i1 i2 i3 i4 h => b_X3_squaredLength_5 C hr hlk a0 i1 i2 i3 i4 h)
  refine q_iconst (v := 0) C dX3_squaredLength_0 (by decide) ?_
  refine q_istore_n (lv' := [(3, .int 0), (0, .ref a0), (1, .int i1), (2, .int i2)]) C dX3_squaredLength_1 rfl (by decide) rfl ?_
  refine q_iconst (v := 0) C dX3_squaredLength_2 (by decide) ?_
  refine q_istore (lv' := [(4, .int 0), (3, .int 0), (0, .ref a0), (1, .int i1), (2, .int i2)]) C dX3_squaredLength_3 (by decide) rfl ?_
  exact q_sub [2, 3, 4, 1, 0] rfl h
def S_X3_normalOf_19 (K19 : Nat → Nat → Int32 → Int32 → Int32 → Int32 → Prop) (Q : Int32 → Prop) (M : Mm) (a0 : Nat) (a1 : Nat) (i3 : Int32) (i4 : Int32) (i5 : Int32) (i6 : Int32) : Prop := kM M a1 = (5, 2) ∧ T_X5_length M a1 (fun r_1 => (r_1 ≤ i6 → Q i5) ∧ (¬ r_1 ≤ i6 → kM M a1 = (5, 2) ∧ T_X5_get M a1 i6 (fun r_2 => kM M a1 = (5, 2) ∧ T_X5_get M a1 (i6 + 1) (fun r_3 => kM M a0 = (3, 4) ∧ T_X3_get M a0 r_2 i3 (fun r_4 => kM M a0 = (3, 4) ∧ T_X3_get M a0 r_3 i4 (fun r_5 => kM M a0 = (3, 4) ∧ T_X3_get M a0 r_2 i4 (fun r_6 => kM M a0 = (3, 4) ∧ T_X3_get M a0 r_3 i3 (fun r_7 => K19 a0 a1 i3 i4 (i5 + ((r_4 * r_5) - (r_6 * r_7))) (i6 + 1)))))))))
def T_X3_normalOf (M : Mm) (a0 : Nat) (a1 : Nat) (i2 : Int32) (Q : Int32 → Prop) : Prop := ∀ (K19 : Nat → Nat → Int32 → Int32 → Int32 → Int32 → Prop), (∀ (a0 : Nat) (a1 : Nat) (i3 : Int32) (i4 : Int32) (i5 : Int32) (i6 : Int32), S_X3_normalOf_19 K19 Q M a0 a1 i3 i4 i5 i6 → K19 a0 a1 i3 i4 i5 i6) → K19 a0 a1 ((i2 + 1) - (i2 + 1) / 3 * 3) ((i2 + 2) - (i2 + 2) / 3 * 3) 0 0
set_option maxRecDepth 100000 in
set_option maxHeartbeats 4000000 in
theorem b_X3_normalOf_19 {p : Program} {l : Launch} {e : Env} {s : State} {m : MethodId} {args : Array Value} {below : List Frame} {meth : Method} {c : Code} {D : va_G} {cA : Nat → ClassId} {lo : Nat} (C : Cx p s m args c cX3_normalOf 9 RX3 wsX3_normalOf D cA lo) (hr : meth.sig.returnType = (some .int)) (hlk : meth.locks = false) {Q : Int32 → Prop} {M : Mm} (a0 : Nat) (a1 : Nat) (i3 : Int32) (i4 : Int32) (i5 : Int32) (i6 : Int32) (h : S_X3_normalOf_19 (fun (a0 : Nat) (a1 : Nat) (i3 : Int32) (i4 : Int32) (i5 : Int32) (i6 : Int32) => QW p l e ({ frames := 2, cells := 0, slots := 0, locals := 42 } : Room) s m args below meth c (MQ below (QiM D cA lo (fun r M1 => M1 = M ∧ Q r)) args s 0 0 (fun q => lo ≤ q)) 9 D cA lo 0 0 M 19 [(0, .ref a0), (1, .ref a1), (3, .int i3), (4, .int i4), (5, .int i5), (6, .int i6)] []) Q M a0 a1 i3 i4 i5 i6) : QW p l e ({ frames := 2, cells := 0, slots := 0, locals := 42 } : Room) s m args below meth c (MQ below (QiM D cA lo (fun r M1 => M1 = M ∧ Q r)) args s 0 0 (fun q => lo ≤ q)) 9 D cA lo 0 0 M 19 [(0, .ref a0), (1, .ref a1), (3, .int i3), (4, .int i4), (5, .int i5), (6, .int i6)] [] := by
  unfold S_X3_normalOf_19 at h
  refine q_iload C dX3_normalOf_19 (j := 5) rfl ?_
  refine q_aload_n C dX3_normalOf_21 rfl (j := 1) rfl ?_
  refine q_ci (q_runV (As := []) (st := [.int i6]) C (c_X5_length l D cA lo h.2) (cwV 0 C.2.2.2.2.1 gX3_normalOf_X5_length rfl rfl rfl (by decide +kernel) ⟨Nat.le_of_ble_eq_true rfl, Nat.le_of_ble_eq_true rfl⟩) h.1 (by decide) rfl rfl rfl (Nat.le_of_ble_eq_true rfl) dX3_normalOf_22 ⟨Nat.le_of_ble_eq_true rfl, Nat.le_of_ble_eq_true rfl⟩) (fun r_1 M_z h => ?_)
  refine q_mem h.1 ?_
  have h := h.2
  refine q_icmp_ge (tgt := 90) C dX3_normalOf_25 (by decide) (fun z => ?_) (fun z => ?_)
  · have h := h.1 z
    refine q_iload C dX3_normalOf_90 (j := 4) rfl ?_
    exact q_iret C hr hlk dX3_normalOf_92 (Nat.le_of_ble_eq_true rfl) (Nat.le_of_ble_eq_true rfl) ⟨rfl, h⟩
  · have h := h.2 z
    refine q_aload_n C dX3_normalOf_28 rfl (j := 1) rfl ?_
    refine q_iload C dX3_normalOf_29 (j := 5) rfl ?_
    refine q_ci (q_runV (As := [.int i6]) (st := []) C (c_X5_get l D cA lo h.2) (cwV 1 C.2.2.2.2.1 gX3_normalOf_X5_get rfl rfl rfl (by decide +kernel) ⟨Nat.le_of_ble_eq_true rfl, Nat.le_of_ble_eq_true rfl⟩) h.1 (by decide) rfl rfl rfl (Nat.le_of_ble_eq_true rfl) dX3_normalOf_31 ⟨Nat.le_of_ble_eq_true rfl, Nat.le_of_ble_eq_true rfl⟩) (fun r_2 M_z h => ?_)
    refine q_mem h.1 ?_
    have h := h.2
    refine q_istore (lv' := [(7, .int r_2), (0, .ref a0), (1, .ref a1), (3, .int i3), (4, .int i4), (5, .int i5), (6, .int i6)]) C dX3_normalOf_34 (by decide) rfl ?_
    refine q_aload_n C dX3_normalOf_36 rfl (j := 2) rfl ?_
    refine q_iload C dX3_normalOf_37 (j := 6) rfl ?_
    refine q_iconst (v := 1) C dX3_normalOf_39 (by decide) ?_
    refine q_iadd C dX3_normalOf_40 ?_
    refine q_ci (q_runV (As := [.int (i6 + 1)]) (st := []) C (c_X5_get l D cA lo h.2) (cwV 1 C.2.2.2.2.1 gX3_normalOf_X5_get rfl rfl rfl (by decide +kernel) ⟨Nat.le_of_ble_eq_true rfl, Nat.le_of_ble_eq_true rfl⟩) h.1 (by decide) rfl rfl rfl (Nat.le_of_ble_eq_true rfl) dX3_normalOf_41 ⟨Nat.le_of_ble_eq_true rfl, Nat.le_of_ble_eq_true rfl⟩) (fun r_3 M_z h => ?_)
    refine q_mem h.1 ?_
    have h := h.2
    refine q_istore (lv' := [(8, .int r_3), (7, .int r_2), (0, .ref a0), (1, .ref a1), (3, .int i3), (4, .int i4), (5, .int i5), (6, .int i6)]) C dX3_normalOf_44 (by decide) rfl ?_
    refine q_iload C dX3_normalOf_46 (j := 6) rfl ?_
    refine q_aload_n C dX3_normalOf_48 rfl (j := 2) rfl ?_
    refine q_iload C dX3_normalOf_49 (j := 1) rfl ?_
    refine q_iload_n C dX3_normalOf_51 rfl (j := 4) rfl ?_
    refine q_ci (q_runV (As := [.int r_2, .int i3]) (st := [.int i5]) C (c_X3_get l D cA lo h.2) (cwV 2 C.2.2.2.2.1 gX3_normalOf_X3_get rfl rfl rfl (by decide +kernel) ⟨Nat.le_of_ble_eq_true rfl, Nat.le_of_ble_eq_true rfl⟩) h.1 (by decide) rfl rfl rfl (Nat.le_of_ble_eq_true rfl) dX3_normalOf_52 ⟨Nat.le_of_ble_eq_true rfl, Nat.le_of_ble_eq_true rfl⟩) (fun r_4 M_z h => ?_)
    refine q_mem h.1 ?_
    have h := h.2
    refine q_aload_n C dX3_normalOf_55 rfl (j := 2) rfl ?_
    refine q_iload C dX3_normalOf_56 (j := 0) rfl ?_
    refine q_iload C dX3_normalOf_58 (j := 5) rfl ?_
    refine q_ci (q_runV (As := [.int r_3, .int i4]) (st := [.int r_4, .int i5]) C (c_X3_get l D cA lo h.2) (cwV 2 C.2.2.2.2.1 gX3_normalOf_X3_get rfl rfl rfl (by decide +kernel) ⟨Nat.le_of_ble_eq_true rfl, Nat.le_of_ble_eq_true rfl⟩) h.1 (by decide) rfl rfl rfl (Nat.le_of_ble_eq_true rfl) dX3_normalOf_60 ⟨Nat.le_of_ble_eq_true rfl, Nat.le_of_ble_eq_true rfl⟩) (fun r_5 M_z h => ?_)
    refine q_mem h.1 ?_
    have h := h.2
    refine q_imul C dX3_normalOf_63 ?_
    refine q_aload_n C dX3_normalOf_64 rfl (j := 2) rfl ?_
    refine q_iload C dX3_normalOf_65 (j := 1) rfl ?_
    refine q_iload C dX3_normalOf_67 (j := 5) rfl ?_
    refine q_ci (q_runV (As := [.int r_2, .int i4]) (st := [.int (r_4 * r_5), .int i5]) C (c_X3_get l D cA lo h.2) (cwV 2 C.2.2.2.2.1 gX3_normalOf_X3_get rfl rfl rfl (by decide +kernel) ⟨Nat.le_of_ble_eq_true rfl, Nat.le_of_ble_eq_true rfl⟩) h.1 (by decide) rfl rfl rfl (Nat.le_of_ble_eq_true rfl) dX3_normalOf_69 ⟨Nat.le_of_ble_eq_true rfl, Nat.le_of_ble_eq_true rfl⟩) (fun r_6 M_z h => ?_)
    refine q_mem h.1 ?_
    have h := h.2
    refine q_aload_n C dX3_normalOf_72 rfl (j := 2) rfl ?_
    refine q_iload C dX3_normalOf_73 (j := 0) rfl ?_
    refine q_iload_n C dX3_normalOf_75 rfl (j := 4) rfl ?_
    refine q_ci (q_runV (As := [.int r_3, .int i3]) (st := [.int r_6, .int (r_4 * r_5), .int i5]) C (c_X3_get l D cA lo h.2) (cwV 2 C.2.2.2.2.1 gX3_normalOf_X3_get rfl rfl rfl (by decide +kernel) ⟨Nat.le_of_ble_eq_true rfl, Nat.le_of_ble_eq_true rfl⟩) h.1 (by decide) rfl rfl rfl (Nat.le_of_ble_eq_true rfl) dX3_normalOf_76 ⟨Nat.le_of_ble_eq_true rfl, Nat.le_of_ble_eq_true rfl⟩) (fun r_7 M_z h => ?_)
    refine q_mem h.1 ?_
    have h := h.2
    refine q_imul C dX3_normalOf_79 ?_
    refine q_isub C dX3_normalOf_80 ?_
    refine q_iadd C dX3_normalOf_81 ?_
    refine q_istore (lv' := [(5, .int (i5 + ((r_4 * r_5) - (r_6 * r_7)))), (8, .int r_3), (7, .int r_2), (0, .ref a0), (1, .ref a1), (3, .int i3), (4, .int i4), (6, .int i6)]) C dX3_normalOf_82 (by decide) rfl ?_
    refine q_iinc (v := (i6 + 1)) (lv' := [(6, .int (i6 + 1)), (5, .int (i5 + ((r_4 * r_5) - (r_6 * r_7)))), (8, .int r_3), (7, .int r_2), (0, .ref a0), (1, .ref a1), (3, .int i3), (4, .int i4)]) C dX3_normalOf_84 (j := 7) rfl rfl (by decide) rfl ?_
    refine q_goto (tgt := 19) C dX3_normalOf_87 (by decide) ?_
    exact q_sub [4, 5, 6, 7, 1, 0] rfl h
set_option maxRecDepth 100000 in
set_option maxHeartbeats 4000000 in
theorem c_X3_normalOf (l : Launch) (D : va_G) (cA : Nat → ClassId) (lo : Nat) {M : Mm} {a0 : Nat} {a1 : Nat} {i2 : Int32} {Q : Int32 → Prop} (h : T_X3_normalOf M a0 a1 i2 Q) : Met l yX3_normalOf wsX3_normalOf ({ frames := 2, cells := 0, slots := 0, locals := 42 } : Room) (PcM D cA lo [.ref a0, .ref a1, .int i2] M) (QiM D cA lo (fun r M1 => M1 = M ∧ Q r)) 0 0 (fun q => lo ≤ q) := by
  refine q_start (cc := cX3_normalOf) (nL := 9) (ret := (some .int)) (by decide) rfl rfl (Nat.le_of_ble_eq_true rfl) ?_
  intro p e s m args below meth c C hr hlk hin
  unfold T_X3_normalOf at h
  have h := h (fun (a0 : Nat) (a1 : Nat) (i3 : Int32) (i4 : Int32) (i5 : Int32) (i6 : Int32) => QW p l e ({ frames := 2, cells := 0, slots := 0, locals := 42 } : Room) s m args below meth c (MQ below (QiM D cA lo (fun r M1 => M1 = M ∧ Q r)) args s 0 0 (fun q => lo ≤ q)) 9 D cA lo 0 0 M 19 [(0, .ref a0), (1, .ref a1), (3, .int i3), (4, .int i4), (5, .int i5), (6, .int i6)] []) (fun a0 a1 i3 i4 i5 i6 h => b_X3_normalOf_19 C hr hlk a0 a1 i3 i4 i5 i6 h)
  refine q_iload_n C dX3_normalOf_0 rfl (j := 2) rfl ?_
  refine q_iconst (v := 1) C dX3_normalOf_1 (by decide) ?_
  refine q_iadd C dX3_normalOf_2 ?_
  refine q_iconst (v := 3) C dX3_normalOf_3 (by decide) ?_
  refine q_irem C dX3_normalOf_4 (by decide) ?_
  refine q_istore_n (lv' := [(3, .int ((i2 + 1) - (i2 + 1) / 3 * 3)), (0, .ref a0), (1, .ref a1), (2, .int i2)]) C dX3_normalOf_5 rfl (by decide) rfl ?_
  refine q_iload_n C dX3_normalOf_6 rfl (j := 3) rfl ?_
  refine q_iconst (v := 2) C dX3_normalOf_7 (by decide) ?_
  refine q_iadd C dX3_normalOf_8 ?_
  refine q_iconst (v := 3) C dX3_normalOf_9 (by decide) ?_
  refine q_irem C dX3_normalOf_10 (by decide) ?_
  refine q_istore (lv' := [(4, .int ((i2 + 2) - (i2 + 2) / 3 * 3)), (3, .int ((i2 + 1) - (i2 + 1) / 3 * 3)), (0, .ref a0), (1, .ref a1), (2, .int i2)]) C dX3_normalOf_11 (by decide) rfl ?_
  refine q_iconst (v := 0) C dX3_normalOf_13 (by decide) ?_
  refine q_istore (lv' := [(5, .int 0), (4, .int ((i2 + 2) - (i2 + 2) / 3 * 3)), (3, .int ((i2 + 1) - (i2 + 1) / 3 * 3)), (0, .ref a0), (1, .ref a1), (2, .int i2)]) C dX3_normalOf_14 (by decide) rfl ?_
  refine q_iconst (v := 0) C dX3_normalOf_16 (by decide) ?_
  refine q_istore (lv' := [(6, .int 0), (5, .int 0), (4, .int ((i2 + 2) - (i2 + 2) / 3 * 3)), (3, .int ((i2 + 1) - (i2 + 1) / 3 * 3)), (0, .ref a0), (1, .ref a1), (2, .int i2)]) C dX3_normalOf_17 (by decide) rfl ?_
  exact q_sub [4, 5, 3, 2, 1, 0] rfl h
def S_X3_spat_6 (K6 : Nat → Int32 → Int32 → Int32 → Int64 → Int32 → Prop) (Q : Int64 → Prop) (M : Mm) (a0 : Nat) (i1 : Int32) (i2 : Int32) (i3 : Int32) (l4 : Int64) (i6 : Int32) : Prop := (3 ≤ i6 → Q l4) ∧ (¬ 3 ≤ i6 → kM M a0 = (3, 4) ∧ T_X3_get M a0 i2 ((i6 + 1) - (i6 + 1) / 3 * 3) (fun r_1 => kM M a0 = (3, 4) ∧ T_X3_get M a0 i3 ((i6 + 2) - (i6 + 2) / 3 * 3) (fun r_2 => kM M a0 = (3, 4) ∧ T_X3_get M a0 i2 ((i6 + 2) - (i6 + 2) / 3 * 3) (fun r_3 => kM M a0 = (3, 4) ∧ T_X3_get M a0 i3 ((i6 + 1) - (i6 + 1) / 3 * 3) (fun r_4 => kM M a0 = (3, 4) ∧ T_X3_get M a0 i1 i6 (fun r_5 => K6 a0 i1 i2 i3 (l4 + (r_5.toInt64 * ((r_1.toInt64 * r_2.toInt64) - (r_3.toInt64 * r_4.toInt64)))) (i6 + 1)))))))
def T_X3_spat (M : Mm) (a0 : Nat) (i1 : Int32) (i2 : Int32) (i3 : Int32) (Q : Int64 → Prop) : Prop := ∀ (K6 : Nat → Int32 → Int32 → Int32 → Int64 → Int32 → Prop), (∀ (a0 : Nat) (i1 : Int32) (i2 : Int32) (i3 : Int32) (l4 : Int64) (i6 : Int32), S_X3_spat_6 K6 Q M a0 i1 i2 i3 l4 i6 → K6 a0 i1 i2 i3 l4 i6) → K6 a0 i1 i2 i3 0 0
set_option maxRecDepth 100000 in
set_option maxHeartbeats 4000000 in
theorem b_X3_spat_6 {p : Program} {l : Launch} {e : Env} {s : State} {m : MethodId} {args : Array Value} {below : List Frame} {meth : Method} {c : Code} {D : va_G} {cA : Nat → ClassId} {lo : Nat} (C : Cx p s m args c cX3_spat 11 RX3 wsX3_spat D cA lo) (hr : meth.sig.returnType = (some .long)) (hlk : meth.locks = false) {Q : Int64 → Prop} {M : Mm} (a0 : Nat) (i1 : Int32) (i2 : Int32) (i3 : Int32) (l4 : Int64) (i6 : Int32) (h : S_X3_spat_6 (fun (a0 : Nat) (i1 : Int32) (i2 : Int32) (i3 : Int32) (l4 : Int64) (i6 : Int32) => QW p l e ({ frames := 2, cells := 0, slots := 0, locals := 42 } : Room) s m args below meth c (MQ below (QlM D cA lo (fun r M1 => M1 = M ∧ Q r)) args s 0 0 (fun q => lo ≤ q)) 11 D cA lo 0 0 M 6 [(0, .ref a0), (1, .int i1), (2, .int i2), (3, .int i3), (4, .long l4), (6, .int i6)] []) Q M a0 i1 i2 i3 l4 i6) : QW p l e ({ frames := 2, cells := 0, slots := 0, locals := 42 } : Room) s m args below meth c (MQ below (QlM D cA lo (fun r M1 => M1 = M ∧ Q r)) args s 0 0 (fun q => lo ≤ q)) 11 D cA lo 0 0 M 6 [(0, .ref a0), (1, .int i1), (2, .int i2), (3, .int i3), (4, .long l4), (6, .int i6)] [] := by
  unfold S_X3_spat_6 at h
  refine q_iload C dX3_spat_6 (j := 5) rfl ?_
  refine q_iconst (v := 3) C dX3_spat_8 (by decide) ?_
  refine q_icmp_ge (tgt := 87) C dX3_spat_9 (by decide) (fun z => ?_) (fun z => ?_)
  · have h := h.1 z
    refine q_lload C dX3_spat_87 (j := 4) rfl ?_
    exact q_lret C hr hlk dX3_spat_89 (Nat.le_of_ble_eq_true rfl) (Nat.le_of_ble_eq_true rfl) ⟨rfl, h⟩
  · have h := h.2 z
    refine q_iload C dX3_spat_12 (j := 5) rfl ?_
    refine q_iconst (v := 1) C dX3_spat_14 (by decide) ?_
    refine q_iadd C dX3_spat_15 ?_
    refine q_iconst (v := 3) C dX3_spat_16 (by decide) ?_
    refine q_irem C dX3_spat_17 (by decide) ?_
    refine q_istore (lv' := [(7, .int ((i6 + 1) - (i6 + 1) / 3 * 3)), (0, .ref a0), (1, .int i1), (2, .int i2), (3, .int i3), (4, .long l4), (6, .int i6)]) C dX3_spat_18 (by decide) rfl ?_
    refine q_iload C dX3_spat_20 (j := 6) rfl ?_
    refine q_iconst (v := 2) C dX3_spat_22 (by decide) ?_
    refine q_iadd C dX3_spat_23 ?_
    refine q_iconst (v := 3) C dX3_spat_24 (by decide) ?_
    refine q_irem C dX3_spat_25 (by decide) ?_
    refine q_istore (lv' := [(8, .int ((i6 + 2) - (i6 + 2) / 3 * 3)), (7, .int ((i6 + 1) - (i6 + 1) / 3 * 3)), (0, .ref a0), (1, .int i1), (2, .int i2), (3, .int i3), (4, .long l4), (6, .int i6)]) C dX3_spat_26 (by decide) rfl ?_
    refine q_aload_n C dX3_spat_28 rfl (j := 2) rfl ?_
    refine q_iload_n C dX3_spat_29 rfl (j := 4) rfl ?_
    refine q_iload C dX3_spat_30 (j := 1) rfl ?_
    refine q_ci (q_runV (As := [.int i2, .int ((i6 + 1) - (i6 + 1) / 3 * 3)]) (st := []) C (c_X3_get l D cA lo h.2) (cwV 2 C.2.2.2.2.1 gX3_spat_X3_get rfl rfl rfl (by decide +kernel) ⟨Nat.le_of_ble_eq_true rfl, Nat.le_of_ble_eq_true rfl⟩) h.1 (by decide) rfl rfl rfl (Nat.le_of_ble_eq_true rfl) dX3_spat_32 ⟨Nat.le_of_ble_eq_true rfl, Nat.le_of_ble_eq_true rfl⟩) (fun r_1 M_z h => ?_)
    refine q_mem h.1 ?_
    have h := h.2
    refine q_i2l C dX3_spat_35 ?_
    refine q_aload_n C dX3_spat_36 rfl (j := 2) rfl ?_
    refine q_iload_n C dX3_spat_37 rfl (j := 5) rfl ?_
    refine q_iload C dX3_spat_38 (j := 0) rfl ?_
    refine q_ci (q_runV (As := [.int i3, .int ((i6 + 2) - (i6 + 2) / 3 * 3)]) (st := [.long r_1.toInt64]) C (c_X3_get l D cA lo h.2) (cwV 2 C.2.2.2.2.1 gX3_spat_X3_get rfl rfl rfl (by decide +kernel) ⟨Nat.le_of_ble_eq_true rfl, Nat.le_of_ble_eq_true rfl⟩) h.1 (by decide) rfl rfl rfl (Nat.le_of_ble_eq_true rfl) dX3_spat_40 ⟨Nat.le_of_ble_eq_true rfl, Nat.le_of_ble_eq_true rfl⟩) (fun r_2 M_z h => ?_)
    refine q_mem h.1 ?_
    have h := h.2
    refine q_i2l C dX3_spat_43 ?_
    refine q_lmul C dX3_spat_44 ?_
    refine q_aload_n C dX3_spat_45 rfl (j := 2) rfl ?_
    refine q_iload_n C dX3_spat_46 rfl (j := 4) rfl ?_
    refine q_iload C dX3_spat_47 (j := 0) rfl ?_
    refine q_ci (q_runV (As := [.int i2, .int ((i6 + 2) - (i6 + 2) / 3 * 3)]) (st := [.long (r_1.toInt64 * r_2.toInt64)]) C (c_X3_get l D cA lo h.2) (cwV 2 C.2.2.2.2.1 gX3_spat_X3_get rfl rfl rfl (by decide +kernel) ⟨Nat.le_of_ble_eq_true rfl, Nat.le_of_ble_eq_true rfl⟩) h.1 (by decide) rfl rfl rfl (Nat.le_of_ble_eq_true rfl) dX3_spat_49 ⟨Nat.le_of_ble_eq_true rfl, Nat.le_of_ble_eq_true rfl⟩) (fun r_3 M_z h => ?_)
    refine q_mem h.1 ?_
    have h := h.2
    refine q_i2l C dX3_spat_52 ?_
    refine q_aload_n C dX3_spat_53 rfl (j := 2) rfl ?_
    refine q_iload_n C dX3_spat_54 rfl (j := 5) rfl ?_
    refine q_iload C dX3_spat_55 (j := 1) rfl ?_
    refine q_ci (q_runV (As := [.int i3, .int ((i6 + 1) - (i6 + 1) / 3 * 3)]) (st := [.long r_3.toInt64, .long (r_1.toInt64 * r_2.toInt64)]) C (c_X3_get l D cA lo h.2) (cwV 2 C.2.2.2.2.1 gX3_spat_X3_get rfl rfl rfl (by decide +kernel) ⟨Nat.le_of_ble_eq_true rfl, Nat.le_of_ble_eq_true rfl⟩) h.1 (by decide) rfl rfl rfl (Nat.le_of_ble_eq_true rfl) dX3_spat_57 ⟨Nat.le_of_ble_eq_true rfl, Nat.le_of_ble_eq_true rfl⟩) (fun r_4 M_z h => ?_)
    refine q_mem h.1 ?_
    have h := h.2
    refine q_i2l C dX3_spat_60 ?_
    refine q_lmul C dX3_spat_61 ?_
    refine q_lsub C dX3_spat_62 ?_
    refine q_lstore (lv' := [(9, .long ((r_1.toInt64 * r_2.toInt64) - (r_3.toInt64 * r_4.toInt64))), (8, .int ((i6 + 2) - (i6 + 2) / 3 * 3)), (7, .int ((i6 + 1) - (i6 + 1) / 3 * 3)), (0, .ref a0), (1, .int i1), (2, .int i2), (3, .int i3), (4, .long l4), (6, .int i6)]) C dX3_spat_63 (by decide) rfl ?_
    refine q_lload C dX3_spat_65 (j := 7) rfl ?_
    refine q_aload_n C dX3_spat_67 rfl (j := 3) rfl ?_
    refine q_iload_n C dX3_spat_68 rfl (j := 4) rfl ?_
    refine q_iload C dX3_spat_69 (j := 8) rfl ?_
    refine q_ci (q_runV (As := [.int i1, .int i6]) (st := [.long l4]) C (c_X3_get l D cA lo h.2) (cwV 2 C.2.2.2.2.1 gX3_spat_X3_get rfl rfl rfl (by decide +kernel) ⟨Nat.le_of_ble_eq_true rfl, Nat.le_of_ble_eq_true rfl⟩) h.1 (by decide) rfl rfl rfl (Nat.le_of_ble_eq_true rfl) dX3_spat_71 ⟨Nat.le_of_ble_eq_true rfl, Nat.le_of_ble_eq_true rfl⟩) (fun r_5 M_z h => ?_)
    refine q_mem h.1 ?_
    have h := h.2
    refine q_i2l C dX3_spat_74 ?_
    refine q_lload C dX3_spat_75 (j := 0) rfl ?_
    refine q_lmul C dX3_spat_77 ?_
    refine q_ladd C dX3_spat_78 ?_
    refine q_lstore (lv' := [(4, .long (l4 + (r_5.toInt64 * ((r_1.toInt64 * r_2.toInt64) - (r_3.toInt64 * r_4.toInt64))))), (9, .long ((r_1.toInt64 * r_2.toInt64) - (r_3.toInt64 * r_4.toInt64))), (8, .int ((i6 + 2) - (i6 + 2) / 3 * 3)), (7, .int ((i6 + 1) - (i6 + 1) / 3 * 3)), (0, .ref a0), (1, .int i1), (2, .int i2), (3, .int i3), (6, .int i6)]) C dX3_spat_79 (by decide) rfl ?_
    refine q_iinc (v := (i6 + 1)) (lv' := [(6, .int (i6 + 1)), (4, .long (l4 + (r_5.toInt64 * ((r_1.toInt64 * r_2.toInt64) - (r_3.toInt64 * r_4.toInt64))))), (9, .long ((r_1.toInt64 * r_2.toInt64) - (r_3.toInt64 * r_4.toInt64))), (8, .int ((i6 + 2) - (i6 + 2) / 3 * 3)), (7, .int ((i6 + 1) - (i6 + 1) / 3 * 3)), (0, .ref a0), (1, .int i1), (2, .int i2), (3, .int i3)]) C dX3_spat_81 (j := 8) rfl rfl (by decide) rfl ?_
    refine q_goto (tgt := 6) C dX3_spat_84 (by decide) ?_
    exact q_sub [5, 6, 7, 8, 1, 0] rfl h
set_option maxRecDepth 100000 in
set_option maxHeartbeats 4000000 in
theorem c_X3_spat (l : Launch) (D : va_G) (cA : Nat → ClassId) (lo : Nat) {M : Mm} {a0 : Nat} {i1 : Int32} {i2 : Int32} {i3 : Int32} {Q : Int64 → Prop} (h : T_X3_spat M a0 i1 i2 i3 Q) : Met l yX3_spat wsX3_spat ({ frames := 2, cells := 0, slots := 0, locals := 42 } : Room) (PcM D cA lo [.ref a0, .int i1, .int i2, .int i3] M) (QlM D cA lo (fun r M1 => M1 = M ∧ Q r)) 0 0 (fun q => lo ≤ q) := by
  refine q_start (cc := cX3_spat) (nL := 11) (ret := (some .long)) (by decide) rfl rfl (Nat.le_of_ble_eq_true rfl) ?_
  intro p e s m args below meth c C hr hlk hin
  unfold T_X3_spat at h
  have h := h (fun (a0 : Nat) (i1 : Int32) (i2 : Int32) (i3 : Int32) (l4 : Int64) (i6 : Int32) => QW p l e ({ frames := 2, cells := 0, slots := 0, locals := 42 } : Room) s m args below meth c (MQ below (QlM D cA lo (fun r M1 => M1 = M ∧ Q r)) args s 0 0 (fun q => lo ≤ q)) 11 D cA lo 0 0 M 6 [(0, .ref a0), (1, .int i1), (2, .int i2), (3, .int i3), (4, .long l4), (6, .int i6)] []) (fun a0 i1 i2 i3 l4 i6 h => b_X3_spat_6 C hr hlk a0 i1 i2 i3 l4 i6 h)
  refine q_lconst (v := 0) C dX3_spat_0 (by decide) ?_
  refine q_lstore (lv' := [(4, .long 0), (0, .ref a0), (1, .int i1), (2, .int i2), (3, .int i3)]) C dX3_spat_1 (by decide) rfl ?_
  refine q_iconst (v := 0) C dX3_spat_3 (by decide) ?_
  refine q_istore (lv' := [(6, .int 0), (4, .long 0), (0, .ref a0), (1, .int i1), (2, .int i2), (3, .int i3)]) C dX3_spat_4 (by decide) rfl ?_
  exact q_sub [2, 3, 4, 5, 1, 0] rfl h
def S_X3_bulkOf_5 (K5 : Nat → Nat → Int64 → Int32 → Prop) (Q : Int64 → Prop) (M : Mm) (a0 : Nat) (a1 : Nat) (l2 : Int64) (i4 : Int32) : Prop := kM M a1 = (5, 2) ∧ T_X5_length M a1 (fun r_1 => (r_1 ≤ (i4 + 1) → Q l2) ∧ (¬ r_1 ≤ (i4 + 1) → kM M a1 = (5, 2) ∧ T_X5_get M a1 0 (fun r_2 => kM M a1 = (5, 2) ∧ T_X5_get M a1 i4 (fun r_3 => kM M a1 = (5, 2) ∧ T_X5_get M a1 (i4 + 1) (fun r_4 => kM M a0 = (3, 4) ∧ T_X3_spat M a0 r_2 r_3 r_4 (fun r_5 => K5 a0 a1 (l2 + r_5) (i4 + 1)))))))
def T_X3_bulkOf (M : Mm) (a0 : Nat) (a1 : Nat) (Q : Int64 → Prop) : Prop := ∀ (K5 : Nat → Nat → Int64 → Int32 → Prop), (∀ (a0 : Nat) (a1 : Nat) (l2 : Int64) (i4 : Int32), S_X3_bulkOf_5 K5 Q M a0 a1 l2 i4 → K5 a0 a1 l2 i4) → K5 a0 a1 0 1
set_option maxRecDepth 100000 in
set_option maxHeartbeats 4000000 in
theorem b_X3_bulkOf_5 {p : Program} {l : Launch} {e : Env} {s : State} {m : MethodId} {args : Array Value} {below : List Frame} {meth : Method} {c : Code} {D : va_G} {cA : Nat → ClassId} {lo : Nat} (C : Cx p s m args c cX3_bulkOf 5 RX3 wsX3_bulkOf D cA lo) (hr : meth.sig.returnType = (some .long)) (hlk : meth.locks = false) {Q : Int64 → Prop} {M : Mm} (a0 : Nat) (a1 : Nat) (l2 : Int64) (i4 : Int32) (h : S_X3_bulkOf_5 (fun (a0 : Nat) (a1 : Nat) (l2 : Int64) (i4 : Int32) => QW p l e ({ frames := 3, cells := 0, slots := 0, locals := 72 } : Room) s m args below meth c (MQ below (QlM D cA lo (fun r M1 => M1 = M ∧ Q r)) args s 0 0 (fun q => lo ≤ q)) 5 D cA lo 0 0 M 5 [(0, .ref a0), (1, .ref a1), (2, .long l2), (4, .int i4)] []) Q M a0 a1 l2 i4) : QW p l e ({ frames := 3, cells := 0, slots := 0, locals := 72 } : Room) s m args below meth c (MQ below (QlM D cA lo (fun r M1 => M1 = M ∧ Q r)) args s 0 0 (fun q => lo ≤ q)) 5 D cA lo 0 0 M 5 [(0, .ref a0), (1, .ref a1), (2, .long l2), (4, .int i4)] [] := by
  unfold S_X3_bulkOf_5 at h
  refine q_iload C dX3_bulkOf_5 (j := 3) rfl ?_
  refine q_iconst (v := 1) C dX3_bulkOf_7 (by decide) ?_
  refine q_iadd C dX3_bulkOf_8 ?_
  refine q_aload_n C dX3_bulkOf_9 rfl (j := 1) rfl ?_
  refine q_ci (q_runV (As := []) (st := [.int (i4 + 1)]) C (c_X5_length l D cA lo h.2) (cwV 0 C.2.2.2.2.1 gX3_bulkOf_X5_length rfl rfl rfl (by decide +kernel) ⟨Nat.le_of_ble_eq_true rfl, Nat.le_of_ble_eq_true rfl⟩) h.1 (by decide) rfl rfl rfl (Nat.le_of_ble_eq_true rfl) dX3_bulkOf_10 ⟨Nat.le_of_ble_eq_true rfl, Nat.le_of_ble_eq_true rfl⟩) (fun r_1 M_z h => ?_)
  refine q_mem h.1 ?_
  have h := h.2
  refine q_icmp_ge (tgt := 48) C dX3_bulkOf_13 (by decide) (fun z => ?_) (fun z => ?_)
  · have h := h.1 z
    refine q_lload_n C dX3_bulkOf_48 rfl (j := 2) rfl ?_
    exact q_lret C hr hlk dX3_bulkOf_49 (Nat.le_of_ble_eq_true rfl) (Nat.le_of_ble_eq_true rfl) ⟨rfl, h⟩
  · have h := h.2 z
    refine q_lload_n C dX3_bulkOf_16 rfl (j := 2) rfl ?_
    refine q_aload_n C dX3_bulkOf_17 rfl (j := 0) rfl ?_
    refine q_aload_n C dX3_bulkOf_18 rfl (j := 1) rfl ?_
    refine q_iconst (v := 0) C dX3_bulkOf_19 (by decide) ?_
    refine q_ci (q_runV (As := [.int 0]) (st := [.ref a0, .long l2]) C (c_X5_get l D cA lo h.2) (cwV 1 C.2.2.2.2.1 gX3_bulkOf_X5_get rfl rfl rfl (by decide +kernel) ⟨Nat.le_of_ble_eq_true rfl, Nat.le_of_ble_eq_true rfl⟩) h.1 (by decide) rfl rfl rfl (Nat.le_of_ble_eq_true rfl) dX3_bulkOf_20 ⟨Nat.le_of_ble_eq_true rfl, Nat.le_of_ble_eq_true rfl⟩) (fun r_2 M_z h => ?_)
    refine q_mem h.1 ?_
    have h := h.2
    refine q_aload_n C dX3_bulkOf_23 rfl (j := 1) rfl ?_
    refine q_iload C dX3_bulkOf_24 (j := 3) rfl ?_
    refine q_ci (q_runV (As := [.int i4]) (st := [.int r_2, .ref a0, .long l2]) C (c_X5_get l D cA lo h.2) (cwV 1 C.2.2.2.2.1 gX3_bulkOf_X5_get rfl rfl rfl (by decide +kernel) ⟨Nat.le_of_ble_eq_true rfl, Nat.le_of_ble_eq_true rfl⟩) h.1 (by decide) rfl rfl rfl (Nat.le_of_ble_eq_true rfl) dX3_bulkOf_26 ⟨Nat.le_of_ble_eq_true rfl, Nat.le_of_ble_eq_true rfl⟩) (fun r_3 M_z h => ?_)
    refine q_mem h.1 ?_
    have h := h.2
    refine q_aload_n C dX3_bulkOf_29 rfl (j := 1) rfl ?_
    refine q_iload C dX3_bulkOf_30 (j := 3) rfl ?_
    refine q_iconst (v := 1) C dX3_bulkOf_32 (by decide) ?_
    refine q_iadd C dX3_bulkOf_33 ?_
    refine q_ci (q_runV (As := [.int (i4 + 1)]) (st := [.int r_3, .int r_2, .ref a0, .long l2]) C (c_X5_get l D cA lo h.2) (cwV 1 C.2.2.2.2.1 gX3_bulkOf_X5_get rfl rfl rfl (by decide +kernel) ⟨Nat.le_of_ble_eq_true rfl, Nat.le_of_ble_eq_true rfl⟩) h.1 (by decide) rfl rfl rfl (Nat.le_of_ble_eq_true rfl) dX3_bulkOf_34 ⟨Nat.le_of_ble_eq_true rfl, Nat.le_of_ble_eq_true rfl⟩) (fun r_4 M_z h => ?_)
    refine q_mem h.1 ?_
    have h := h.2
    refine q_cl (q_runV (As := [.int r_2, .int r_3, .int r_4]) (st := [.long l2]) C (c_X3_spat l D cA lo h.2) (cwV 3 C.2.2.2.2.1 gX3_bulkOf_X3_spat rfl rfl rfl (by decide +kernel) ⟨Nat.le_of_ble_eq_true rfl, Nat.le_of_ble_eq_true rfl⟩) h.1 (by decide) rfl rfl rfl (Nat.le_of_ble_eq_true rfl) dX3_bulkOf_37 ⟨Nat.le_of_ble_eq_true rfl, Nat.le_of_ble_eq_true rfl⟩) (fun r_5 M_z h => ?_)
    refine q_mem h.1 ?_
    have h := h.2
    refine q_ladd C dX3_bulkOf_40 ?_
    refine q_lstore_n (lv' := [(2, .long (l2 + r_5)), (0, .ref a0), (1, .ref a1), (4, .int i4)]) C dX3_bulkOf_41 rfl (by decide) rfl ?_
    refine q_iinc (v := (i4 + 1)) (lv' := [(4, .int (i4 + 1)), (2, .long (l2 + r_5)), (0, .ref a0), (1, .ref a1)]) C dX3_bulkOf_42 (j := 3) rfl rfl (by decide) rfl ?_
    refine q_goto (tgt := 5) C dX3_bulkOf_45 (by decide) ?_
    exact q_sub [2, 3, 1, 0] rfl h
set_option maxRecDepth 100000 in
set_option maxHeartbeats 4000000 in
theorem c_X3_bulkOf (l : Launch) (D : va_G) (cA : Nat → ClassId) (lo : Nat) {M : Mm} {a0 : Nat} {a1 : Nat} {Q : Int64 → Prop} (h : T_X3_bulkOf M a0 a1 Q) : Met l yX3_bulkOf wsX3_bulkOf ({ frames := 3, cells := 0, slots := 0, locals := 72 } : Room) (PcM D cA lo [.ref a0, .ref a1] M) (QlM D cA lo (fun r M1 => M1 = M ∧ Q r)) 0 0 (fun q => lo ≤ q) := by
  refine q_start (cc := cX3_bulkOf) (nL := 5) (ret := (some .long)) (by decide) rfl rfl (Nat.le_of_ble_eq_true rfl) ?_
  intro p e s m args below meth c C hr hlk hin
  unfold T_X3_bulkOf at h
  have h := h (fun (a0 : Nat) (a1 : Nat) (l2 : Int64) (i4 : Int32) => QW p l e ({ frames := 3, cells := 0, slots := 0, locals := 72 } : Room) s m args below meth c (MQ below (QlM D cA lo (fun r M1 => M1 = M ∧ Q r)) args s 0 0 (fun q => lo ≤ q)) 5 D cA lo 0 0 M 5 [(0, .ref a0), (1, .ref a1), (2, .long l2), (4, .int i4)] []) (fun a0 a1 l2 i4 h => b_X3_bulkOf_5 C hr hlk a0 a1 l2 i4 h)
  refine q_lconst (v := 0) C dX3_bulkOf_0 (by decide) ?_
  refine q_lstore_n (lv' := [(2, .long 0), (0, .ref a0), (1, .ref a1)]) C dX3_bulkOf_1 rfl (by decide) rfl ?_
  refine q_iconst (v := 1) C dX3_bulkOf_2 (by decide) ?_
  refine q_istore (lv' := [(4, .int 1), (2, .long 0), (0, .ref a0), (1, .ref a1)]) C dX3_bulkOf_3 (by decide) rfl ?_
  exact q_sub [2, 3, 1, 0] rfl h
def T_X4_init (Cc Zz : Nat) (M : Mm) (a0 : Nat) (a1 : Nat) (a2 : Nat) (Q : Mm → Prop) : Prop := 0 + 1 ≤ Cc ∧ 0 + 10000 ≤ Zz ∧ ∀ q_1 : Nat, frs M q_1 → kM (wN M q_1 100 10000) a0 = (4, 5) ∧ (0 + 1) + 1 ≤ Cc ∧ (0 + 10000) + 160 ≤ Zz ∧ ∀ q_2 : Nat, frs (wR (wN M q_1 100 10000) a0 2 (some q_1)) q_2 → kM (wN (wR (wN M q_1 100 10000) a0 2 (some q_1)) q_2 100 160) a0 = (4, 5) ∧ ((0 + 1) + 1) + 1 ≤ Cc ∧ ((0 + 10000) + 160) + 2 ≤ Zz ∧ ∀ q_3 : Nat, frs (wR (wN (wR (wN M q_1 100 10000) a0 2 (some q_1)) q_2 100 160) a0 3 (some q_2)) q_3 → ∃ dc_6 ds_6 : Nat, ((((0 + 1) + 1) + 1) + dc_6 ≤ Cc ∧ (((0 + 10000) + 160) + 2) + ds_6 ≤ Zz) ∧ T_X5_init dc_6 ds_6 (wN (wR (wN (wR (wN M q_1 100 10000) a0 2 (some q_1)) q_2 100 160) a0 3 (some q_2)) q_3 5 2) q_3 (fun M_5 => kM M_5 a0 = (4, 5) ∧ kM (wR M_5 a0 4 (some q_3)) a0 = (4, 5) ∧ kM (wR (wR M_5 a0 4 (some q_3)) a0 0 (some a1)) a0 = (4, 5) ∧ ((((0 + 1) + 1) + 1) + dc_6) ≤ Cc ∧ ((((0 + 10000) + 160) + 2) + ds_6) ≤ Zz ∧ Q (wR (wR (wR M_5 a0 4 (some q_3)) a0 0 (some a1)) a0 1 (some a2)))
theorem inX4_init_X4 : ∀ w ∈ wsX40, w ∈ wsX4_init := by decide +kernel
theorem inX4_init_X5 : ∀ w ∈ wsX50, w ∈ wsX4_init := by decide +kernel
set_option maxRecDepth 100000 in
set_option maxHeartbeats 4000000 in
theorem c_X4_init (l : Launch) (D : va_G) (cA : Nat → ClassId) (lo : Nat) {M : Mm} {a0 : Nat} {a1 : Nat} {a2 : Nat} {Cc Zz : Nat} {Q : Mm → Prop} (h : T_X4_init Cc Zz M a0 a1 a2 Q) : Met l yX4_init wsX4_init ({ frames := 2, cells := Cc, slots := Zz, locals := 40 } : Room) (PcM D cA lo [.ref a0, .ref a1, .ref a2] M) (QvM D cA lo Q) Cc Zz (fun q => lo ≤ q) := by
  refine q_start (cc := cX4_init) (nL := 3) (ret := none) (by decide) rfl rfl (Nat.le_of_ble_eq_true rfl) ?_
  intro p e s m args below meth c C hr hlk hin
  unfold T_X4_init at h
  refine q_aload_n C dX4_init_0 rfl (j := 0) rfl ?_
  refine q_objInit C (by decide +kernel) (by decide +kernel) (by decide +kernel) dX4_init_1 ⟨Nat.le_of_ble_eq_true rfl, Nat.le_of_ble_eq_true rfl⟩ ?_
  refine q_aload_n C dX4_init_4 rfl (j := 0) rfl ?_
  refine q_sipush (v := 10000) C dX4_init_5 (by decide) ?_
  refine q_newI (N := 10000) C (by decide +kernel) (by decide) (by decide) (by decide) ⟨h.1, h.2.1⟩ dX4_init_8 (fun q_1 hq _ => ?_)
  have h := h.2.2 q_1 hq
  refine q_putFR (ci := 4) (k0 := 2) (T := TX4) (v := (some q_1)) (ty := .array .int) C inX4_init_X4 tyX4 tyX4_ok nmX4 rfl (by decide) h.1 (by decide) rfl (by decide +kernel) rfl hin rfl (by decide +kernel) rfl rfl rfl dX4_init_10 ?_
  have h := h.2
  refine q_aload_n C dX4_init_13 rfl (j := 0) rfl ?_
  refine q_sipush (v := 160) C dX4_init_14 (by decide) ?_
  refine q_newI (N := 160) C (by decide +kernel) (by decide) (by decide) (by decide) ⟨h.1, h.2.1⟩ dX4_init_17 (fun q_2 hq _ => ?_)
  have h := h.2.2 q_2 hq
  refine q_putFR (ci := 4) (k0 := 3) (T := TX4) (v := (some q_2)) (ty := .array .int) C inX4_init_X4 tyX4 tyX4_ok nmX4 rfl (by decide) h.1 (by decide) rfl (by decide +kernel) rfl hin rfl (by decide +kernel) rfl rfl rfl dX4_init_19 ?_
  have h := h.2
  refine q_aload_n C dX4_init_22 rfl (j := 0) rfl ?_
  refine q_new (ci := 5) (T := TX5) C inX4_init_X5 tyX5 tyX5_ok (by decide +kernel) (by decide +kernel) (by decide +kernel) rfl (by decide) (by decide +kernel) ⟨h.1, h.2.1⟩ dX4_init_23 (fun q_3 hq _ => ?_)
  have h := h.2.2 q_3 hq
  refine q_dup C dX4_init_26 rfl ?_
  obtain ⟨dc_6, ds_6, hcz, h⟩ := h
  refine q_cv (q_runIN (As := []) (st := [.ref q_3, .ref a0]) C (c_X5_init l D cA lo h) ⟨va_cnB (host := "QuarryMesh") 0 C.2.2.2.2.1 gX4_init_X5_init_n20 rfl rfl rfl (C.2.2.2.2.2.2.2.1 (RX4, 20, yX5_init, "QuarryMesh") (List.mem_of_getElem? (i := 4) rfl)) (C.2.2.2.2.1 _ (by decide +kernel)) (by decide +kernel) ⟨Nat.le_of_ble_eq_true rfl, Nat.le_of_ble_eq_true rfl⟩, rfl, C.2.2.2.2.1 _ (by decide +kernel)⟩ rfl rfl (Nat.le_of_ble_eq_true rfl) dX4_init_27 hcz) (fun M_5 h => ?_)
  refine q_putFR (ci := 4) (k0 := 4) (T := TX4) (v := (some q_3)) (ty := .object "QuarryMesh$Ring") C inX4_init_X4 tyX4 tyX4_ok nmX4 rfl (by decide) h.1 (by decide) rfl (by decide +kernel) rfl hin rfl (by decide +kernel) rfl rfl rfl dX4_init_30 ?_
  have h := h.2
  refine q_aload_n C dX4_init_33 rfl (j := 0) rfl ?_
  refine q_aload_n C dX4_init_34 rfl (j := 1) rfl ?_
  refine q_putFR (ci := 4) (k0 := 0) (T := TX4) (v := (some a1)) (ty := .object "QuarryMesh$Points") C inX4_init_X4 tyX4 tyX4_ok nmX4 rfl (by decide) h.1 (by decide) rfl (by decide +kernel) rfl hin rfl (by decide +kernel) rfl rfl rfl dX4_init_35 ?_
  have h := h.2
  refine q_aload_n C dX4_init_38 rfl (j := 0) rfl ?_
  refine q_aload_n C dX4_init_39 rfl (j := 2) rfl ?_
  refine q_putFR (ci := 4) (k0 := 1) (T := TX4) (v := (some a2)) (ty := .object "QuarryMesh$Faces") C inX4_init_X4 tyX4 tyX4_ok nmX4 rfl (by decide) h.1 (by decide) rfl (by decide +kernel) rfl hin rfl (by decide +kernel) rfl rfl rfl dX4_init_40 ?_
  have h := h.2
  exact q_vret C hr hlk dX4_init_43 h.1 h.2.1 h.2.2
def T_X4_fits (M : Mm) (a0 : Nat) (Q : Int32 → Prop) : Prop := kM M a0 = (4, 5) ∧ ∃ a_1 : Nat, rM M a0 0 = some a_1 ∧ kM M a0 = (4, 5) ∧ ∃ a_2 : Nat, rM M a0 1 = some a_2 ∧ kM M a_2 = (1, 5) ∧ T_X1_edgeCount M a_2 (fun r_3 => kM M a0 = (4, 5) ∧ ∃ a_4 : Nat, rM M a0 1 = some a_4 ∧ kM M a_4 = (1, 5) ∧ T_X1_left M a_4 (fun r_5 => kM M a_1 = (3, 4) ∧ T_X3_hasRoom M a_1 (r_3 + r_5) (fun r_6 => (r_6 = 0 → Q 0) ∧ (¬ r_6 = 0 → kM M a0 = (4, 5) ∧ ∃ a_7 : Nat, rM M a0 1 = some a_7 ∧ kM M a0 = (4, 5) ∧ ∃ a_8 : Nat, rM M a0 1 = some a_8 ∧ kM M a_8 = (1, 5) ∧ T_X1_halfCount M a_8 (fun r_9 => kM M a_7 = (1, 5) ∧ T_X1_hasRoom M a_7 r_9 (fun r_10 => (r_10 = 0 → Q 0) ∧ (¬ r_10 = 0 → Q 1)))))))
theorem inX4_fits_X4 : ∀ w ∈ wsX40, w ∈ wsX4_fits := by decide +kernel
set_option maxRecDepth 100000 in
set_option maxHeartbeats 4000000 in
theorem c_X4_fits (l : Launch) (D : va_G) (cA : Nat → ClassId) (lo : Nat) {M : Mm} {a0 : Nat} {Q : Int32 → Prop} (h : T_X4_fits M a0 Q) : Met l yX4_fits wsX4_fits ({ frames := 3, cells := 0, slots := 0, locals := 68 } : Room) (PcM D cA lo [.ref a0] M) (QiM D cA lo (fun r M1 => M1 = M ∧ Q r)) 0 0 (fun q => lo ≤ q) := by
  refine q_start (cc := cX4_fits) (nL := 1) (ret := (some .boolean)) (by decide) rfl rfl (Nat.le_of_ble_eq_true rfl) ?_
  intro p e s m args below meth c C hr hlk hin
  unfold T_X4_fits at h
  refine q_aload_n C dX4_fits_0 rfl (j := 0) rfl ?_
  refine q_getR (ci := 4) (k0 := 0) (T := TX4) C inX4_fits_X4 rfl (by decide) h.1 (by decide) rfl (by decide +kernel) rfl dX4_fits_1 ?_
  obtain ⟨a_1, z, h⟩ := h.2
  refine q_ref z ?_
  refine q_aload_n C dX4_fits_4 rfl (j := 0) rfl ?_
  refine q_getR (ci := 4) (k0 := 1) (T := TX4) C inX4_fits_X4 rfl (by decide) h.1 (by decide) rfl (by decide +kernel) rfl dX4_fits_5 ?_
  obtain ⟨a_2, z, h⟩ := h.2
  refine q_ref z ?_
  refine q_ci (q_runV (As := []) (st := [.ref a_1]) C (c_X1_edgeCount l D cA lo h.2) (cwV 0 C.2.2.2.2.1 gX4_fits_X1_edgeCount rfl rfl rfl (by decide +kernel) ⟨Nat.le_of_ble_eq_true rfl, Nat.le_of_ble_eq_true rfl⟩) h.1 (by decide) rfl rfl rfl (Nat.le_of_ble_eq_true rfl) dX4_fits_8 ⟨Nat.le_of_ble_eq_true rfl, Nat.le_of_ble_eq_true rfl⟩) (fun r_3 M_z h => ?_)
  refine q_mem h.1 ?_
  have h := h.2
  refine q_aload_n C dX4_fits_11 rfl (j := 0) rfl ?_
  refine q_getR (ci := 4) (k0 := 1) (T := TX4) C inX4_fits_X4 rfl (by decide) h.1 (by decide) rfl (by decide +kernel) rfl dX4_fits_12 ?_
  obtain ⟨a_4, z, h⟩ := h.2
  refine q_ref z ?_
  refine q_ci (q_runV (As := []) (st := [.int r_3, .ref a_1]) C (c_X1_left l D cA lo h.2) (cwV 0 C.2.2.2.2.1 gX4_fits_X1_left rfl rfl rfl (by decide +kernel) ⟨Nat.le_of_ble_eq_true rfl, Nat.le_of_ble_eq_true rfl⟩) h.1 (by decide) rfl rfl rfl (Nat.le_of_ble_eq_true rfl) dX4_fits_15 ⟨Nat.le_of_ble_eq_true rfl, Nat.le_of_ble_eq_true rfl⟩) (fun r_5 M_z h => ?_)
  refine q_mem h.1 ?_
  have h := h.2
  refine q_iadd C dX4_fits_18 ?_
  refine q_ci (q_runV (As := [.int (r_3 + r_5)]) (st := []) C (c_X3_hasRoom l D cA lo h.2) (cwV 1 C.2.2.2.2.1 gX4_fits_X3_hasRoom rfl rfl rfl (by decide +kernel) ⟨Nat.le_of_ble_eq_true rfl, Nat.le_of_ble_eq_true rfl⟩) h.1 (by decide) rfl rfl rfl (Nat.le_of_ble_eq_true rfl) dX4_fits_19 ⟨Nat.le_of_ble_eq_true rfl, Nat.le_of_ble_eq_true rfl⟩) (fun r_6 M_z h => ?_)
  refine q_mem h.1 ?_
  have h := h.2
  refine q_if_eq (tgt := 46) C dX4_fits_22 (by decide) (fun z => ?_) (fun z => ?_)
  · have h := h.1 z
    refine q_iconst (v := 0) C dX4_fits_46 (by decide) ?_
    exact q_zret C hr hlk dX4_fits_47 (Nat.le_of_ble_eq_true rfl) (Nat.le_of_ble_eq_true rfl) (Or.inl rfl) ⟨rfl, h⟩
  · have h := h.2 z
    refine q_aload_n C dX4_fits_25 rfl (j := 0) rfl ?_
    refine q_getR (ci := 4) (k0 := 1) (T := TX4) C inX4_fits_X4 rfl (by decide) h.1 (by decide) rfl (by decide +kernel) rfl dX4_fits_26 ?_
    obtain ⟨a_7, z, h⟩ := h.2
    refine q_ref z ?_
    refine q_aload_n C dX4_fits_29 rfl (j := 0) rfl ?_
    refine q_getR (ci := 4) (k0 := 1) (T := TX4) C inX4_fits_X4 rfl (by decide) h.1 (by decide) rfl (by decide +kernel) rfl dX4_fits_30 ?_
    obtain ⟨a_8, z, h⟩ := h.2
    refine q_ref z ?_
    refine q_ci (q_runV (As := []) (st := [.ref a_7]) C (c_X1_halfCount l D cA lo h.2) (cwV 0 C.2.2.2.2.1 gX4_fits_X1_halfCount rfl rfl rfl (by decide +kernel) ⟨Nat.le_of_ble_eq_true rfl, Nat.le_of_ble_eq_true rfl⟩) h.1 (by decide) rfl rfl rfl (Nat.le_of_ble_eq_true rfl) dX4_fits_33 ⟨Nat.le_of_ble_eq_true rfl, Nat.le_of_ble_eq_true rfl⟩) (fun r_9 M_z h => ?_)
    refine q_mem h.1 ?_
    have h := h.2
    refine q_ci (q_runV (As := [.int r_9]) (st := []) C (c_X1_hasRoom l D cA lo h.2) (cwV 1 C.2.2.2.2.1 gX4_fits_X1_hasRoom rfl rfl rfl (by decide +kernel) ⟨Nat.le_of_ble_eq_true rfl, Nat.le_of_ble_eq_true rfl⟩) h.1 (by decide) rfl rfl rfl (Nat.le_of_ble_eq_true rfl) dX4_fits_36 ⟨Nat.le_of_ble_eq_true rfl, Nat.le_of_ble_eq_true rfl⟩) (fun r_10 M_z h => ?_)
    refine q_mem h.1 ?_
    have h := h.2
    refine q_if_eq (tgt := 46) C dX4_fits_39 (by decide) (fun z => ?_) (fun z => ?_)
    · have h := h.1 z
      refine q_iconst (v := 0) C dX4_fits_46 (by decide) ?_
      exact q_zret C hr hlk dX4_fits_47 (Nat.le_of_ble_eq_true rfl) (Nat.le_of_ble_eq_true rfl) (Or.inl rfl) ⟨rfl, h⟩
    · have h := h.2 z
      refine q_iconst (v := 1) C dX4_fits_42 (by decide) ?_
      refine q_goto (tgt := 47) C dX4_fits_43 (by decide) ?_
      exact q_zret C hr hlk dX4_fits_47 (Nat.le_of_ble_eq_true rfl) (Nat.le_of_ble_eq_true rfl) (Or.inr rfl) ⟨rfl, h⟩
def S_X4_addMiddles_2 (K2 : Nat → Int32 → Mm → Prop) (K12 : Nat → Int32 → Int32 → Mm → Prop) (Q : Mm → Prop) (M : Mm) (a0 : Nat) (i1 : Int32) : Prop := (100 ≤ i1 → Q M) ∧ (¬ 100 ≤ i1 → K12 a0 i1 (i1 + 1) M)
def S_X4_addMiddles_12 (K2 : Nat → Int32 → Mm → Prop) (K12 : Nat → Int32 → Int32 → Mm → Prop) (Q : Mm → Prop) (M : Mm) (a0 : Nat) (i1 : Int32) (i2 : Int32) : Prop := (100 ≤ i2 → K2 a0 (i1 + 1) M) ∧ (¬ 100 ≤ i2 → kM M a0 = (4, 5) ∧ ∃ a_1 : Nat, rM M a0 1 = some a_1 ∧ kM M a_1 = (1, 5) ∧ T_X1_isEdge M a_1 i1 i2 (fun r_2 => (r_2 = 0 → K12 a0 i1 (i2 + 1) M) ∧ (¬ r_2 = 0 → kM M a0 = (4, 5) ∧ ∃ a_3 : Nat, rM M a0 0 = some a_3 ∧ kM M a_3 = (3, 4) ∧ T_X3_addMiddle M a_3 i1 i2 (fun r_4 M_5 => kM M_5 a0 = (4, 5) ∧ ∃ a_6 : Nat, rM M_5 a0 2 = some a_6 ∧ ∃ n_7 : Nat, kM M_5 a_6 = (100, n_7) ∧ vp_in ((i1 * 100) + i2) n_7 ∧ kM (wI M_5 a_6 ((i1 * 100) + i2).toNatClampNeg r_4) a0 = (4, 5) ∧ ∃ a_8 : Nat, rM (wI M_5 a_6 ((i1 * 100) + i2).toNatClampNeg r_4) a0 2 = some a_8 ∧ ∃ n_9 : Nat, kM (wI M_5 a_6 ((i1 * 100) + i2).toNatClampNeg r_4) a_8 = (100, n_9) ∧ vp_in ((i2 * 100) + i1) n_9 ∧ K12 a0 i1 (i2 + 1) (wI (wI M_5 a_6 ((i1 * 100) + i2).toNatClampNeg r_4) a_8 ((i2 * 100) + i1).toNatClampNeg r_4)))))
def T_X4_addMiddles (M : Mm) (a0 : Nat) (Q : Mm → Prop) : Prop := ∀ (K2 : Nat → Int32 → Mm → Prop) (K12 : Nat → Int32 → Int32 → Mm → Prop), (∀ (a0 : Nat) (i1 : Int32) (M : Mm), S_X4_addMiddles_2 K2 K12 Q M a0 i1 → K2 a0 i1 M) → (∀ (a0 : Nat) (i1 : Int32) (i2 : Int32) (M : Mm), S_X4_addMiddles_12 K2 K12 Q M a0 i1 i2 → K12 a0 i1 i2 M) → K2 a0 0 M
theorem inX4_addMiddles_X4 : ∀ w ∈ wsX40, w ∈ wsX4_addMiddles := by decide +kernel
set_option maxRecDepth 100000 in
set_option maxHeartbeats 4000000 in
theorem b_X4_addMiddles_2 {p : Program} {l : Launch} {e : Env} {s : State} {m : MethodId} {args : Array Value} {below : List Frame} {meth : Method} {c : Code} {D : va_G} {cA : Nat → ClassId} {lo : Nat} (C : Cx p s m args c cX4_addMiddles 4 RX4 wsX4_addMiddles D cA lo) (hr : meth.sig.returnType = none) (hlk : meth.locks = false) {Q : Mm → Prop} (M : Mm) (a0 : Nat) (i1 : Int32) (h : S_X4_addMiddles_2 (fun (a0 : Nat) (i1 : Int32) (M : Mm) => QW p l e ({ frames := 4, cells := 0, slots := 0, locals := 90 } : Room) s m args below meth c (MQ below (QvM D cA lo Q) args s 0 0 (fun q => lo ≤ q)) 4 D cA lo 0 0 M 2 [(0, .ref a0), (1, .int i1)] []) (fun (a0 : Nat) (i1 : Int32) (i2 : Int32) (M : Mm) => QW p l e ({ frames := 4, cells := 0, slots := 0, locals := 90 } : Room) s m args below meth c (MQ below (QvM D cA lo Q) args s 0 0 (fun q => lo ≤ q)) 4 D cA lo 0 0 M 12 [(0, .ref a0), (1, .int i1), (2, .int i2)] []) Q M a0 i1) : QW p l e ({ frames := 4, cells := 0, slots := 0, locals := 90 } : Room) s m args below meth c (MQ below (QvM D cA lo Q) args s 0 0 (fun q => lo ≤ q)) 4 D cA lo 0 0 M 2 [(0, .ref a0), (1, .int i1)] [] := by
  unfold S_X4_addMiddles_2 at h
  refine q_iload_n C dX4_addMiddles_2 rfl (j := 1) rfl ?_
  refine q_bipush (v := 100) C dX4_addMiddles_3 (by decide) ?_
  refine q_icmp_ge (tgt := 76) C dX4_addMiddles_5 (by decide) (fun z => ?_) (fun z => ?_)
  · have h := h.1 z
    exact q_vret C hr hlk dX4_addMiddles_76 (Nat.le_of_ble_eq_true rfl) (Nat.le_of_ble_eq_true rfl) h
  · have h := h.2 z
    refine q_iload_n C dX4_addMiddles_8 rfl (j := 1) rfl ?_
    refine q_iconst (v := 1) C dX4_addMiddles_9 (by decide) ?_
    refine q_iadd C dX4_addMiddles_10 ?_
    refine q_istore_n (lv' := [(2, .int (i1 + 1)), (0, .ref a0), (1, .int i1)]) C dX4_addMiddles_11 rfl (by decide) rfl ?_
    exact q_sub [1, 2, 0] rfl h
set_option maxRecDepth 100000 in
set_option maxHeartbeats 4000000 in
theorem b_X4_addMiddles_12 {p : Program} {l : Launch} {e : Env} {s : State} {m : MethodId} {args : Array Value} {below : List Frame} {meth : Method} {c : Code} {D : va_G} {cA : Nat → ClassId} {lo : Nat} (C : Cx p s m args c cX4_addMiddles 4 RX4 wsX4_addMiddles D cA lo) (hr : meth.sig.returnType = none) (hlk : meth.locks = false) {Q : Mm → Prop} (M : Mm) (a0 : Nat) (i1 : Int32) (i2 : Int32) (h : S_X4_addMiddles_12 (fun (a0 : Nat) (i1 : Int32) (M : Mm) => QW p l e ({ frames := 4, cells := 0, slots := 0, locals := 90 } : Room) s m args below meth c (MQ below (QvM D cA lo Q) args s 0 0 (fun q => lo ≤ q)) 4 D cA lo 0 0 M 2 [(0, .ref a0), (1, .int i1)] []) (fun (a0 : Nat) (i1 : Int32) (i2 : Int32) (M : Mm) => QW p l e ({ frames := 4, cells := 0, slots := 0, locals := 90 } : Room) s m args below meth c (MQ below (QvM D cA lo Q) args s 0 0 (fun q => lo ≤ q)) 4 D cA lo 0 0 M 12 [(0, .ref a0), (1, .int i1), (2, .int i2)] []) Q M a0 i1 i2) : QW p l e ({ frames := 4, cells := 0, slots := 0, locals := 90 } : Room) s m args below meth c (MQ below (QvM D cA lo Q) args s 0 0 (fun q => lo ≤ q)) 4 D cA lo 0 0 M 12 [(0, .ref a0), (1, .int i1), (2, .int i2)] [] := by
  unfold S_X4_addMiddles_12 at h
  refine q_iload_n C dX4_addMiddles_12 rfl (j := 2) rfl ?_
  refine q_bipush (v := 100) C dX4_addMiddles_13 (by decide) ?_
  refine q_icmp_ge (tgt := 70) C dX4_addMiddles_15 (by decide) (fun z => ?_) (fun z => ?_)
  · have h := h.1 z
    refine q_iinc (v := (i1 + 1)) (lv' := [(1, .int (i1 + 1)), (0, .ref a0), (2, .int i2)]) C dX4_addMiddles_70 (j := 1) rfl rfl (by decide) rfl ?_
    refine q_goto (tgt := 2) C dX4_addMiddles_73 (by decide) ?_
    exact q_sub [1, 0] rfl h
  · have h := h.2 z
    refine q_aload_n C dX4_addMiddles_18 rfl (j := 0) rfl ?_
    refine q_getR (ci := 4) (k0 := 1) (T := TX4) C inX4_addMiddles_X4 rfl (by decide) h.1 (by decide) rfl (by decide +kernel) rfl dX4_addMiddles_19 ?_
    obtain ⟨a_1, z, h⟩ := h.2
    refine q_ref z ?_
    refine q_iload_n C dX4_addMiddles_22 rfl (j := 1) rfl ?_
    refine q_iload_n C dX4_addMiddles_23 rfl (j := 2) rfl ?_
    refine q_ci (q_runV (As := [.int i1, .int i2]) (st := []) C (c_X1_isEdge l D cA lo h.2) (cwV 2 C.2.2.2.2.1 gX4_addMiddles_X1_isEdge rfl rfl rfl (by decide +kernel) ⟨Nat.le_of_ble_eq_true rfl, Nat.le_of_ble_eq_true rfl⟩) h.1 (by decide) rfl rfl rfl (Nat.le_of_ble_eq_true rfl) dX4_addMiddles_24 ⟨Nat.le_of_ble_eq_true rfl, Nat.le_of_ble_eq_true rfl⟩) (fun r_2 M_z h => ?_)
    refine q_mem h.1 ?_
    have h := h.2
    refine q_if_eq (tgt := 64) C dX4_addMiddles_27 (by decide) (fun z => ?_) (fun z => ?_)
    · have h := h.1 z
      refine q_iinc (v := (i2 + 1)) (lv' := [(2, .int (i2 + 1)), (0, .ref a0), (1, .int i1)]) C dX4_addMiddles_64 (j := 2) rfl rfl (by decide) rfl ?_
      refine q_goto (tgt := 12) C dX4_addMiddles_67 (by decide) ?_
      exact q_sub [1, 2, 0] rfl h
    · have h := h.2 z
      refine q_aload_n C dX4_addMiddles_30 rfl (j := 0) rfl ?_
      refine q_getR (ci := 4) (k0 := 0) (T := TX4) C inX4_addMiddles_X4 rfl (by decide) h.1 (by decide) rfl (by decide +kernel) rfl dX4_addMiddles_31 ?_
      obtain ⟨a_3, z, h⟩ := h.2
      refine q_ref z ?_
      refine q_iload_n C dX4_addMiddles_34 rfl (j := 1) rfl ?_
      refine q_iload_n C dX4_addMiddles_35 rfl (j := 2) rfl ?_
      refine q_ci (q_runV (As := [.int i1, .int i2]) (st := []) C (c_X3_addMiddle l D cA lo h.2) (cwV 2 C.2.2.2.2.1 gX4_addMiddles_X3_addMiddle rfl rfl rfl (by decide +kernel) ⟨Nat.le_of_ble_eq_true rfl, Nat.le_of_ble_eq_true rfl⟩) h.1 (by decide) rfl rfl rfl (Nat.le_of_ble_eq_true rfl) dX4_addMiddles_36 ⟨Nat.le_of_ble_eq_true rfl, Nat.le_of_ble_eq_true rfl⟩) (fun r_4 M_5 h => ?_)
      refine q_istore_n (lv' := [(3, .int r_4), (0, .ref a0), (1, .int i1), (2, .int i2)]) C dX4_addMiddles_39 rfl (by decide) rfl ?_
      refine q_aload_n C dX4_addMiddles_40 rfl (j := 1) rfl ?_
      refine q_getR (ci := 4) (k0 := 2) (T := TX4) C inX4_addMiddles_X4 rfl (by decide) h.1 (by decide) rfl (by decide +kernel) rfl dX4_addMiddles_41 ?_
      obtain ⟨a_6, z, h⟩ := h.2
      refine q_ref z ?_
      refine q_iload_n C dX4_addMiddles_44 rfl (j := 2) rfl ?_
      refine q_bipush (v := 100) C dX4_addMiddles_45 (by decide) ?_
      refine q_imul C dX4_addMiddles_47 ?_
      refine q_iload_n C dX4_addMiddles_48 rfl (j := 3) rfl ?_
      refine q_iadd C dX4_addMiddles_49 ?_
      refine q_iload_n C dX4_addMiddles_50 rfl (j := 0) rfl ?_
      obtain ⟨n_7, z1, z2, h⟩ := h
      refine q_iast C z1 z2 dX4_addMiddles_51 ?_
      refine q_aload_n C dX4_addMiddles_52 rfl (j := 1) rfl ?_
      refine q_getR (ci := 4) (k0 := 2) (T := TX4) C inX4_addMiddles_X4 rfl (by decide) h.1 (by decide) rfl (by decide +kernel) rfl dX4_addMiddles_53 ?_
      obtain ⟨a_8, z, h⟩ := h.2
      refine q_ref z ?_
      refine q_iload_n C dX4_addMiddles_56 rfl (j := 3) rfl ?_
      refine q_bipush (v := 100) C dX4_addMiddles_57 (by decide) ?_
      refine q_imul C dX4_addMiddles_59 ?_
      refine q_iload_n C dX4_addMiddles_60 rfl (j := 2) rfl ?_
      refine q_iadd C dX4_addMiddles_61 ?_
      refine q_iload_n C dX4_addMiddles_62 rfl (j := 0) rfl ?_
      obtain ⟨n_9, z1, z2, h⟩ := h
      refine q_iast C z1 z2 dX4_addMiddles_63 ?_
      refine q_iinc (v := (i2 + 1)) (lv' := [(2, .int (i2 + 1)), (3, .int r_4), (0, .ref a0), (1, .int i1)]) C dX4_addMiddles_64 (j := 3) rfl rfl (by decide) rfl ?_
      refine q_goto (tgt := 12) C dX4_addMiddles_67 (by decide) ?_
      exact q_sub [2, 3, 0] rfl h
set_option maxRecDepth 100000 in
set_option maxHeartbeats 4000000 in
theorem c_X4_addMiddles (l : Launch) (D : va_G) (cA : Nat → ClassId) (lo : Nat) {M : Mm} {a0 : Nat} {Q : Mm → Prop} (h : T_X4_addMiddles M a0 Q) : Met l yX4_addMiddles wsX4_addMiddles ({ frames := 4, cells := 0, slots := 0, locals := 90 } : Room) (PcM D cA lo [.ref a0] M) (QvM D cA lo Q) 0 0 (fun q => lo ≤ q) := by
  refine q_start (cc := cX4_addMiddles) (nL := 4) (ret := none) (by decide) rfl rfl (Nat.le_of_ble_eq_true rfl) ?_
  intro p e s m args below meth c C hr hlk hin
  unfold T_X4_addMiddles at h
  have h := h (fun (a0 : Nat) (i1 : Int32) (M : Mm) => QW p l e ({ frames := 4, cells := 0, slots := 0, locals := 90 } : Room) s m args below meth c (MQ below (QvM D cA lo Q) args s 0 0 (fun q => lo ≤ q)) 4 D cA lo 0 0 M 2 [(0, .ref a0), (1, .int i1)] []) (fun (a0 : Nat) (i1 : Int32) (i2 : Int32) (M : Mm) => QW p l e ({ frames := 4, cells := 0, slots := 0, locals := 90 } : Room) s m args below meth c (MQ below (QvM D cA lo Q) args s 0 0 (fun q => lo ≤ q)) 4 D cA lo 0 0 M 12 [(0, .ref a0), (1, .int i1), (2, .int i2)] []) (fun a0 i1 M h => b_X4_addMiddles_2 C hr hlk M a0 i1 h) (fun a0 i1 i2 M h => b_X4_addMiddles_12 C hr hlk M a0 i1 i2 h)
  refine q_iconst (v := 0) C dX4_addMiddles_0 (by decide) ?_
  refine q_istore_n (lv' := [(1, .int 0), (0, .ref a0)]) C dX4_addMiddles_1 rfl (by decide) rfl ?_
  exact q_sub [1, 0] rfl h
def S_X4_addCentres_2 (K2 : Nat → Int32 → Mm → Prop) (Q : Mm → Prop) (M : Mm) (a0 : Nat) (i1 : Int32) : Prop := (160 ≤ i1 → Q M) ∧ (¬ 160 ≤ i1 → kM M a0 = (4, 5) ∧ ∃ a_1 : Nat, rM M a0 1 = some a_1 ∧ kM M a_1 = (1, 5) ∧ T_X1_has M a_1 i1 (fun r_2 => (r_2 = 0 → K2 a0 (i1 + 1) M) ∧ (¬ r_2 = 0 → kM M a0 = (4, 5) ∧ ∃ a_3 : Nat, rM M a0 3 = some a_3 ∧ kM M a0 = (4, 5) ∧ ∃ a_4 : Nat, rM M a0 0 = some a_4 ∧ kM M a0 = (4, 5) ∧ ∃ a_5 : Nat, rM M a0 1 = some a_5 ∧ kM M a_5 = (1, 5) ∧ T_X1_ring M a_5 i1 (fun r_6 => kM M a_4 = (3, 4) ∧ T_X3_addCentre M a_4 r_6 (fun r_7 M_8 => ∃ n_9 : Nat, kM M_8 a_3 = (100, n_9) ∧ vp_in i1 n_9 ∧ K2 a0 (i1 + 1) (wI M_8 a_3 i1.toNatClampNeg r_7))))))
def T_X4_addCentres (M : Mm) (a0 : Nat) (Q : Mm → Prop) : Prop := ∀ (K2 : Nat → Int32 → Mm → Prop), (∀ (a0 : Nat) (i1 : Int32) (M : Mm), S_X4_addCentres_2 K2 Q M a0 i1 → K2 a0 i1 M) → K2 a0 0 M
theorem inX4_addCentres_X4 : ∀ w ∈ wsX40, w ∈ wsX4_addCentres := by decide +kernel
set_option maxRecDepth 100000 in
set_option maxHeartbeats 4000000 in
theorem b_X4_addCentres_2 {p : Program} {l : Launch} {e : Env} {s : State} {m : MethodId} {args : Array Value} {below : List Frame} {meth : Method} {c : Code} {D : va_G} {cA : Nat → ClassId} {lo : Nat} (C : Cx p s m args c cX4_addCentres 2 RX4 wsX4_addCentres D cA lo) (hr : meth.sig.returnType = none) (hlk : meth.locks = false) {Q : Mm → Prop} (M : Mm) (a0 : Nat) (i1 : Int32) (h : S_X4_addCentres_2 (fun (a0 : Nat) (i1 : Int32) (M : Mm) => QW p l e ({ frames := 4, cells := 0, slots := 0, locals := 89 } : Room) s m args below meth c (MQ below (QvM D cA lo Q) args s 0 0 (fun q => lo ≤ q)) 2 D cA lo 0 0 M 2 [(0, .ref a0), (1, .int i1)] []) Q M a0 i1) : QW p l e ({ frames := 4, cells := 0, slots := 0, locals := 89 } : Room) s m args below meth c (MQ below (QvM D cA lo Q) args s 0 0 (fun q => lo ≤ q)) 2 D cA lo 0 0 M 2 [(0, .ref a0), (1, .int i1)] [] := by
  unfold S_X4_addCentres_2 at h
  refine q_iload_n C dX4_addCentres_2 rfl (j := 1) rfl ?_
  refine q_sipush (v := 160) C dX4_addCentres_3 (by decide) ?_
  refine q_icmp_ge (tgt := 47) C dX4_addCentres_6 (by decide) (fun z => ?_) (fun z => ?_)
  · have h := h.1 z
    exact q_vret C hr hlk dX4_addCentres_47 (Nat.le_of_ble_eq_true rfl) (Nat.le_of_ble_eq_true rfl) h
  · have h := h.2 z
    refine q_aload_n C dX4_addCentres_9 rfl (j := 0) rfl ?_
    refine q_getR (ci := 4) (k0 := 1) (T := TX4) C inX4_addCentres_X4 rfl (by decide) h.1 (by decide) rfl (by decide +kernel) rfl dX4_addCentres_10 ?_
    obtain ⟨a_1, z, h⟩ := h.2
    refine q_ref z ?_
    refine q_iload_n C dX4_addCentres_13 rfl (j := 1) rfl ?_
    refine q_ci (q_runV (As := [.int i1]) (st := []) C (c_X1_has l D cA lo h.2) (cwV 1 C.2.2.2.2.1 gX4_addCentres_X1_has rfl rfl rfl (by decide +kernel) ⟨Nat.le_of_ble_eq_true rfl, Nat.le_of_ble_eq_true rfl⟩) h.1 (by decide) rfl rfl rfl (Nat.le_of_ble_eq_true rfl) dX4_addCentres_14 ⟨Nat.le_of_ble_eq_true rfl, Nat.le_of_ble_eq_true rfl⟩) (fun r_2 M_z h => ?_)
    refine q_mem h.1 ?_
    have h := h.2
    refine q_if_eq (tgt := 41) C dX4_addCentres_17 (by decide) (fun z => ?_) (fun z => ?_)
    · have h := h.1 z
      refine q_iinc (v := (i1 + 1)) (lv' := [(1, .int (i1 + 1)), (0, .ref a0)]) C dX4_addCentres_41 (j := 1) rfl rfl (by decide) rfl ?_
      refine q_goto (tgt := 2) C dX4_addCentres_44 (by decide) ?_
      exact q_sub [1, 0] rfl h
    · have h := h.2 z
      refine q_aload_n C dX4_addCentres_20 rfl (j := 0) rfl ?_
      refine q_getR (ci := 4) (k0 := 3) (T := TX4) C inX4_addCentres_X4 rfl (by decide) h.1 (by decide) rfl (by decide +kernel) rfl dX4_addCentres_21 ?_
      obtain ⟨a_3, z, h⟩ := h.2
      refine q_ref z ?_
      refine q_iload_n C dX4_addCentres_24 rfl (j := 1) rfl ?_
      refine q_aload_n C dX4_addCentres_25 rfl (j := 0) rfl ?_
      refine q_getR (ci := 4) (k0 := 0) (T := TX4) C inX4_addCentres_X4 rfl (by decide) h.1 (by decide) rfl (by decide +kernel) rfl dX4_addCentres_26 ?_
      obtain ⟨a_4, z, h⟩ := h.2
      refine q_ref z ?_
      refine q_aload_n C dX4_addCentres_29 rfl (j := 0) rfl ?_
      refine q_getR (ci := 4) (k0 := 1) (T := TX4) C inX4_addCentres_X4 rfl (by decide) h.1 (by decide) rfl (by decide +kernel) rfl dX4_addCentres_30 ?_
      obtain ⟨a_5, z, h⟩ := h.2
      refine q_ref z ?_
      refine q_iload_n C dX4_addCentres_33 rfl (j := 1) rfl ?_
      refine q_cr (q_runV (As := [.int i1]) (st := [.ref a_4, .int i1, .ref a_3]) C (c_X1_ring l D cA lo h.2) (cwV 1 C.2.2.2.2.1 gX4_addCentres_X1_ring rfl rfl rfl (by decide +kernel) ⟨Nat.le_of_ble_eq_true rfl, Nat.le_of_ble_eq_true rfl⟩) h.1 (by decide) rfl rfl rfl (Nat.le_of_ble_eq_true rfl) dX4_addCentres_34 ⟨Nat.le_of_ble_eq_true rfl, Nat.le_of_ble_eq_true rfl⟩) (fun r_6 M_z h => ?_)
      refine q_mem h.1 ?_
      have h := h.2
      refine q_ci (q_runV (As := [.ref r_6]) (st := [.int i1, .ref a_3]) C (c_X3_addCentre l D cA lo h.2) (cwV 1 C.2.2.2.2.1 gX4_addCentres_X3_addCentre rfl rfl rfl (by decide +kernel) ⟨Nat.le_of_ble_eq_true rfl, Nat.le_of_ble_eq_true rfl⟩) h.1 (by decide) rfl rfl rfl (Nat.le_of_ble_eq_true rfl) dX4_addCentres_37 ⟨Nat.le_of_ble_eq_true rfl, Nat.le_of_ble_eq_true rfl⟩) (fun r_7 M_8 h => ?_)
      obtain ⟨n_9, z1, z2, h⟩ := h
      refine q_iast C z1 z2 dX4_addCentres_40 ?_
      refine q_iinc (v := (i1 + 1)) (lv' := [(1, .int (i1 + 1)), (0, .ref a0)]) C dX4_addCentres_41 (j := 1) rfl rfl (by decide) rfl ?_
      refine q_goto (tgt := 2) C dX4_addCentres_44 (by decide) ?_
      exact q_sub [1, 0] rfl h
set_option maxRecDepth 100000 in
set_option maxHeartbeats 4000000 in
theorem c_X4_addCentres (l : Launch) (D : va_G) (cA : Nat → ClassId) (lo : Nat) {M : Mm} {a0 : Nat} {Q : Mm → Prop} (h : T_X4_addCentres M a0 Q) : Met l yX4_addCentres wsX4_addCentres ({ frames := 4, cells := 0, slots := 0, locals := 89 } : Room) (PcM D cA lo [.ref a0] M) (QvM D cA lo Q) 0 0 (fun q => lo ≤ q) := by
  refine q_start (cc := cX4_addCentres) (nL := 2) (ret := none) (by decide) rfl rfl (Nat.le_of_ble_eq_true rfl) ?_
  intro p e s m args below meth c C hr hlk hin
  unfold T_X4_addCentres at h
  have h := h (fun (a0 : Nat) (i1 : Int32) (M : Mm) => QW p l e ({ frames := 4, cells := 0, slots := 0, locals := 89 } : Room) s m args below meth c (MQ below (QvM D cA lo Q) args s 0 0 (fun q => lo ≤ q)) 2 D cA lo 0 0 M 2 [(0, .ref a0), (1, .int i1)] []) (fun a0 i1 M h => b_X4_addCentres_2 C hr hlk M a0 i1 h)
  refine q_iconst (v := 0) C dX4_addCentres_0 (by decide) ?_
  refine q_istore_n (lv' := [(1, .int 0), (0, .ref a0)]) C dX4_addCentres_1 rfl (by decide) rfl ?_
  exact q_sub [1, 0] rfl h
def T_X4_middle (M : Mm) (a0 : Nat) (i1 : Int32) (i2 : Int32) (Q : Int32 → Prop) : Prop := T_X8_isPointNumber M i1 (fun r_1 => (r_1 = 0 → Q (-1)) ∧ (¬ r_1 = 0 → T_X8_isPointNumber M i2 (fun r_2 => (r_2 = 0 → Q (-1)) ∧ (¬ r_2 = 0 → kM M a0 = (4, 5) ∧ ∃ a_3 : Nat, rM M a0 2 = some a_3 ∧ ∃ n_4 : Nat, kM M a_3 = (100, n_4) ∧ vp_in ((i1 * 100) + i2) n_4 ∧ Q (iM M a_3 ((i1 * 100) + i2).toNatClampNeg)))))
theorem inX4_middle_X4 : ∀ w ∈ wsX40, w ∈ wsX4_middle := by decide +kernel
set_option maxRecDepth 100000 in
set_option maxHeartbeats 4000000 in
theorem c_X4_middle (l : Launch) (D : va_G) (cA : Nat → ClassId) (lo : Nat) {M : Mm} {a0 : Nat} {i1 : Int32} {i2 : Int32} {Q : Int32 → Prop} (h : T_X4_middle M a0 i1 i2 Q) : Met l yX4_middle wsX4_middle ({ frames := 1, cells := 0, slots := 0, locals := 20 } : Room) (PcM D cA lo [.ref a0, .int i1, .int i2] M) (QiM D cA lo (fun r M1 => M1 = M ∧ Q r)) 0 0 (fun q => lo ≤ q) := by
  refine q_start (cc := cX4_middle) (nL := 3) (ret := (some .int)) (by decide) rfl rfl (Nat.le_of_ble_eq_true rfl) ?_
  intro p e s m args below meth c C hr hlk hin
  unfold T_X4_middle at h
  refine q_iload_n C dX4_middle_0 rfl (j := 1) rfl ?_
  refine q_ci (q_runSN (As := [.int i1]) (st := []) C (c_X8_isPointNumber l D cA lo h) ⟨va_cnB (host := "QuarryMesh") 1 C.2.2.2.2.1 gX4_middle_X8_isPointNumber_n105 rfl rfl rfl (C.2.2.2.2.2.2.2.1 (RX4, 105, yX8_isPointNumber, "QuarryMesh") (List.mem_of_getElem? (i := 11) rfl)) (C.2.2.2.2.1 _ (by decide +kernel)) (by decide +kernel) ⟨Nat.le_of_ble_eq_true rfl, Nat.le_of_ble_eq_true rfl⟩, C.2.2.2.2.1 _ (by decide +kernel), trivial⟩ rfl rfl (Nat.le_of_ble_eq_true rfl) dX4_middle_1 ⟨Nat.le_of_ble_eq_true rfl, Nat.le_of_ble_eq_true rfl⟩) (fun r_1 M_z h => ?_)
  refine q_mem h.1 ?_
  have h := h.2
  refine q_if_eq (tgt := 28) C dX4_middle_4 (by decide) (fun z => ?_) (fun z => ?_)
  · have h := h.1 z
    refine q_iconst (v := (-1)) C dX4_middle_28 (by decide) ?_
    exact q_iret C hr hlk dX4_middle_29 (Nat.le_of_ble_eq_true rfl) (Nat.le_of_ble_eq_true rfl) ⟨rfl, h⟩
  · have h := h.2 z
    refine q_iload_n C dX4_middle_7 rfl (j := 2) rfl ?_
    refine q_ci (q_runSN (As := [.int i2]) (st := []) C (c_X8_isPointNumber l D cA lo h) ⟨va_cnB (host := "QuarryMesh") 1 C.2.2.2.2.1 gX4_middle_X8_isPointNumber_n105 rfl rfl rfl (C.2.2.2.2.2.2.2.1 (RX4, 105, yX8_isPointNumber, "QuarryMesh") (List.mem_of_getElem? (i := 11) rfl)) (C.2.2.2.2.1 _ (by decide +kernel)) (by decide +kernel) ⟨Nat.le_of_ble_eq_true rfl, Nat.le_of_ble_eq_true rfl⟩, C.2.2.2.2.1 _ (by decide +kernel), trivial⟩ rfl rfl (Nat.le_of_ble_eq_true rfl) dX4_middle_8 ⟨Nat.le_of_ble_eq_true rfl, Nat.le_of_ble_eq_true rfl⟩) (fun r_2 M_z h => ?_)
    refine q_mem h.1 ?_
    have h := h.2
    refine q_if_eq (tgt := 28) C dX4_middle_11 (by decide) (fun z => ?_) (fun z => ?_)
    · have h := h.1 z
      refine q_iconst (v := (-1)) C dX4_middle_28 (by decide) ?_
      exact q_iret C hr hlk dX4_middle_29 (Nat.le_of_ble_eq_true rfl) (Nat.le_of_ble_eq_true rfl) ⟨rfl, h⟩
    · have h := h.2 z
      refine q_aload_n C dX4_middle_14 rfl (j := 0) rfl ?_
      refine q_getR (ci := 4) (k0 := 2) (T := TX4) C inX4_middle_X4 rfl (by decide) h.1 (by decide) rfl (by decide +kernel) rfl dX4_middle_15 ?_
      obtain ⟨a_3, z, h⟩ := h.2
      refine q_ref z ?_
      refine q_iload_n C dX4_middle_18 rfl (j := 1) rfl ?_
      refine q_bipush (v := 100) C dX4_middle_19 (by decide) ?_
      refine q_imul C dX4_middle_21 ?_
      refine q_iload_n C dX4_middle_22 rfl (j := 2) rfl ?_
      refine q_iadd C dX4_middle_23 ?_
      obtain ⟨n_4, z1, z2, h⟩ := h
      refine q_iald C z1 z2 dX4_middle_24 ?_
      refine q_goto (tgt := 29) C dX4_middle_25 (by decide) ?_
      exact q_iret C hr hlk dX4_middle_29 (Nat.le_of_ble_eq_true rfl) (Nat.le_of_ble_eq_true rfl) ⟨rfl, h⟩
def T_X5_set (M : Mm) (a0 : Nat) (i1 : Int32) (i2 : Int32) (i3 : Int32) (i4 : Int32) (Q : Mm → Prop) : Prop := kM M a0 = (5, 2) ∧ T_X5_clear M a0 (fun M_2 => kM M_2 a0 = (5, 2) ∧ T_X5_add M_2 a0 i1 (fun M_4 => kM M_4 a0 = (5, 2) ∧ T_X5_add M_4 a0 i2 (fun M_6 => kM M_6 a0 = (5, 2) ∧ T_X5_add M_6 a0 i3 (fun M_8 => (i4 = (-1) → Q M_8) ∧ (¬ i4 = (-1) → kM M_8 a0 = (5, 2) ∧ T_X5_add M_8 a0 i4 (fun M_10 => Q M_10))))))
set_option maxRecDepth 100000 in
set_option maxHeartbeats 4000000 in
theorem c_X5_set (l : Launch) (D : va_G) (cA : Nat → ClassId) (lo : Nat) {M : Mm} {a0 : Nat} {i1 : Int32} {i2 : Int32} {i3 : Int32} {i4 : Int32} {Q : Mm → Prop} (h : T_X5_set M a0 i1 i2 i3 i4 Q) : Met l yX5_set wsX5_set ({ frames := 1, cells := 0, slots := 0, locals := 21 } : Room) (PcM D cA lo [.ref a0, .int i1, .int i2, .int i3, .int i4] M) (QvM D cA lo Q) 0 0 (fun q => lo ≤ q) := by
  refine q_start (cc := cX5_set) (nL := 5) (ret := none) (by decide) rfl rfl (Nat.le_of_ble_eq_true rfl) ?_
  intro p e s m args below meth c C hr hlk hin
  unfold T_X5_set at h
  refine q_aload_n C dX5_set_0 rfl (j := 0) rfl ?_
  refine q_cv (q_runV (As := []) (st := []) C (c_X5_clear l D cA lo h.2) (cwV 0 C.2.2.2.2.1 gX5_set_X5_clear rfl rfl rfl (by decide +kernel) ⟨Nat.le_of_ble_eq_true rfl, Nat.le_of_ble_eq_true rfl⟩) h.1 (by decide) rfl rfl rfl (Nat.le_of_ble_eq_true rfl) dX5_set_1 ⟨Nat.le_of_ble_eq_true rfl, Nat.le_of_ble_eq_true rfl⟩) (fun M_2 h => ?_)
  refine q_aload_n C dX5_set_4 rfl (j := 0) rfl ?_
  refine q_iload_n C dX5_set_5 rfl (j := 1) rfl ?_
  refine q_cv (q_runV (As := [.int i1]) (st := []) C (c_X5_add l D cA lo h.2) (cwV 1 C.2.2.2.2.1 gX5_set_X5_add rfl rfl rfl (by decide +kernel) ⟨Nat.le_of_ble_eq_true rfl, Nat.le_of_ble_eq_true rfl⟩) h.1 (by decide) rfl rfl rfl (Nat.le_of_ble_eq_true rfl) dX5_set_6 ⟨Nat.le_of_ble_eq_true rfl, Nat.le_of_ble_eq_true rfl⟩) (fun M_4 h => ?_)
  refine q_aload_n C dX5_set_9 rfl (j := 0) rfl ?_
  refine q_iload_n C dX5_set_10 rfl (j := 2) rfl ?_
  refine q_cv (q_runV (As := [.int i2]) (st := []) C (c_X5_add l D cA lo h.2) (cwV 1 C.2.2.2.2.1 gX5_set_X5_add rfl rfl rfl (by decide +kernel) ⟨Nat.le_of_ble_eq_true rfl, Nat.le_of_ble_eq_true rfl⟩) h.1 (by decide) rfl rfl rfl (Nat.le_of_ble_eq_true rfl) dX5_set_11 ⟨Nat.le_of_ble_eq_true rfl, Nat.le_of_ble_eq_true rfl⟩) (fun M_6 h => ?_)
  refine q_aload_n C dX5_set_14 rfl (j := 0) rfl ?_
  refine q_iload_n C dX5_set_15 rfl (j := 3) rfl ?_
  refine q_cv (q_runV (As := [.int i3]) (st := []) C (c_X5_add l D cA lo h.2) (cwV 1 C.2.2.2.2.1 gX5_set_X5_add rfl rfl rfl (by decide +kernel) ⟨Nat.le_of_ble_eq_true rfl, Nat.le_of_ble_eq_true rfl⟩) h.1 (by decide) rfl rfl rfl (Nat.le_of_ble_eq_true rfl) dX5_set_16 ⟨Nat.le_of_ble_eq_true rfl, Nat.le_of_ble_eq_true rfl⟩) (fun M_8 h => ?_)
  refine q_iload C dX5_set_19 (j := 4) rfl ?_
  refine q_iconst (v := (-1)) C dX5_set_21 (by decide) ?_
  refine q_icmp_eq (tgt := 31) C dX5_set_22 (by decide) (fun z => ?_) (fun z => ?_)
  · have h := h.1 z
    exact q_vret C hr hlk dX5_set_31 (Nat.le_of_ble_eq_true rfl) (Nat.le_of_ble_eq_true rfl) h
  · have h := h.2 z
    refine q_aload_n C dX5_set_25 rfl (j := 0) rfl ?_
    refine q_iload C dX5_set_26 (j := 4) rfl ?_
    refine q_cv (q_runV (As := [.int i4]) (st := []) C (c_X5_add l D cA lo h.2) (cwV 1 C.2.2.2.2.1 gX5_set_X5_add rfl rfl rfl (by decide +kernel) ⟨Nat.le_of_ble_eq_true rfl, Nat.le_of_ble_eq_true rfl⟩) h.1 (by decide) rfl rfl rfl (Nat.le_of_ble_eq_true rfl) dX5_set_28 ⟨Nat.le_of_ble_eq_true rfl, Nat.le_of_ble_eq_true rfl⟩) (fun M_10 h => ?_)
    exact q_vret C hr hlk dX5_set_31 (Nat.le_of_ble_eq_true rfl) (Nat.le_of_ble_eq_true rfl) h
