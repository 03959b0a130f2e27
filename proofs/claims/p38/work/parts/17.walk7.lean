def T_X8_flipFits (M : Mm) (a0 : Nat) (i1 : Int32) (i2 : Int32) (Q : Int32 → Prop) : Prop := kM M a0 = (8, 8) ∧ ∃ a_1 : Nat, rM M a0 1 = some a_1 ∧ kM M a0 = (8, 8) ∧ ∃ a_2 : Nat, rM M a0 1 = some a_2 ∧ kM M a_2 = (1, 5) ∧ T_X1_owner M a_2 i1 i2 (fun r_3 => kM M a_1 = (1, 5) ∧ T_X1_after M a_1 r_3 i2 (fun r_4 => kM M a0 = (8, 8) ∧ ∃ a_5 : Nat, rM M a0 1 = some a_5 ∧ kM M a0 = (8, 8) ∧ ∃ a_6 : Nat, rM M a0 1 = some a_6 ∧ kM M a_6 = (1, 5) ∧ T_X1_owner M a_6 i2 i1 (fun r_7 => kM M a_5 = (1, 5) ∧ T_X1_after M a_5 r_7 i1 (fun r_8 => (r_4 = r_8 → Q 0) ∧ (¬ r_4 = r_8 → kM M a0 = (8, 8) ∧ ∃ a_9 : Nat, rM M a0 1 = some a_9 ∧ kM M a_9 = (1, 5) ∧ T_X1_isEdge M a_9 r_4 r_8 (fun r_10 => (¬ r_10 = 0 → Q 0) ∧ (r_10 = 0 → Q 1)))))))
theorem inX8_flipFits_X8 : ∀ w ∈ wsX80, w ∈ wsX8_flipFits := by decide +kernel
set_option maxRecDepth 100000 in
set_option maxHeartbeats 4000000 in
theorem c_X8_flipFits (l : Launch) (D : va_G) (cA : Nat → ClassId) (lo : Nat) {M : Mm} {a0 : Nat} {i1 : Int32} {i2 : Int32} {Q : Int32 → Prop} (h : T_X8_flipFits M a0 i1 i2 Q) : Met l yX8_flipFits wsX8_flipFits ({ frames := 2, cells := 0, slots := 0, locals := 45 } : Room) (PcM D cA lo [.ref a0, .int i1, .int i2] M) (QiM D cA lo (fun r M1 => M1 = M ∧ Q r)) 0 0 (fun q => lo ≤ q) := by
  refine q_start (cc := cX8_flipFits) (nL := 5) (ret := (some .boolean)) (by decide) rfl rfl (Nat.le_of_ble_eq_true rfl) ?_
  intro p e s m args below meth c C hr hlk hin
  unfold T_X8_flipFits at h
  refine q_aload_n C dX8_flipFits_0 rfl (j := 0) rfl ?_
  refine q_getR (ci := 8) (k0 := 1) (T := TX8) C inX8_flipFits_X8 rfl (by decide) h.1 (by decide) rfl (by decide +kernel) rfl dX8_flipFits_1 ?_
  obtain ⟨a_1, z, h⟩ := h.2
  refine q_ref z ?_
  refine q_aload_n C dX8_flipFits_4 rfl (j := 0) rfl ?_
  refine q_getR (ci := 8) (k0 := 1) (T := TX8) C inX8_flipFits_X8 rfl (by decide) h.1 (by decide) rfl (by decide +kernel) rfl dX8_flipFits_5 ?_
  obtain ⟨a_2, z, h⟩ := h.2
  refine q_ref z ?_
  refine q_iload_n C dX8_flipFits_8 rfl (j := 1) rfl ?_
  refine q_iload_n C dX8_flipFits_9 rfl (j := 2) rfl ?_
  refine q_ci (q_runV (As := [.int i1, .int i2]) (st := [.ref a_1]) C (c_X1_owner l D cA lo h.2) (cwV 2 C.2.2.2.2.1 gX8_flipFits_X1_owner rfl rfl rfl (by decide +kernel) ⟨Nat.le_of_ble_eq_true rfl, Nat.le_of_ble_eq_true rfl⟩) h.1 (by decide) rfl rfl rfl (Nat.le_of_ble_eq_true rfl) dX8_flipFits_10 ⟨Nat.le_of_ble_eq_true rfl, Nat.le_of_ble_eq_true rfl⟩) (fun r_3 M_z h => ?_)
  refine q_mem h.1 ?_
  have h := h.2
  refine q_iload_n C dX8_flipFits_13 rfl (j := 2) rfl ?_
  refine q_ci (q_runV (As := [.int r_3, .int i2]) (st := []) C (c_X1_after l D cA lo h.2) (cwV 2 C.2.2.2.2.1 gX8_flipFits_X1_after rfl rfl rfl (by decide +kernel) ⟨Nat.le_of_ble_eq_true rfl, Nat.le_of_ble_eq_true rfl⟩) h.1 (by decide) rfl rfl rfl (Nat.le_of_ble_eq_true rfl) dX8_flipFits_14 ⟨Nat.le_of_ble_eq_true rfl, Nat.le_of_ble_eq_true rfl⟩) (fun r_4 M_z h => ?_)
  refine q_mem h.1 ?_
  have h := h.2
  refine q_istore_n (lv' := [(3, .int r_4), (0, .ref a0), (1, .int i1), (2, .int i2)]) C dX8_flipFits_17 rfl (by decide) rfl ?_
  refine q_aload_n C dX8_flipFits_18 rfl (j := 1) rfl ?_
  refine q_getR (ci := 8) (k0 := 1) (T := TX8) C inX8_flipFits_X8 rfl (by decide) h.1 (by decide) rfl (by decide +kernel) rfl dX8_flipFits_19 ?_
  obtain ⟨a_5, z, h⟩ := h.2
  refine q_ref z ?_
  refine q_aload_n C dX8_flipFits_22 rfl (j := 1) rfl ?_
  refine q_getR (ci := 8) (k0 := 1) (T := TX8) C inX8_flipFits_X8 rfl (by decide) h.1 (by decide) rfl (by decide +kernel) rfl dX8_flipFits_23 ?_
  obtain ⟨a_6, z, h⟩ := h.2
  refine q_ref z ?_
  refine q_iload_n C dX8_flipFits_26 rfl (j := 3) rfl ?_
  refine q_iload_n C dX8_flipFits_27 rfl (j := 2) rfl ?_
  refine q_ci (q_runV (As := [.int i2, .int i1]) (st := [.ref a_5]) C (c_X1_owner l D cA lo h.2) (cwV 2 C.2.2.2.2.1 gX8_flipFits_X1_owner rfl rfl rfl (by decide +kernel) ⟨Nat.le_of_ble_eq_true rfl, Nat.le_of_ble_eq_true rfl⟩) h.1 (by decide) rfl rfl rfl (Nat.le_of_ble_eq_true rfl) dX8_flipFits_28 ⟨Nat.le_of_ble_eq_true rfl, Nat.le_of_ble_eq_true rfl⟩) (fun r_7 M_z h => ?_)
  refine q_mem h.1 ?_
  have h := h.2
  refine q_iload_n C dX8_flipFits_31 rfl (j := 2) rfl ?_
  refine q_ci (q_runV (As := [.int r_7, .int i1]) (st := []) C (c_X1_after l D cA lo h.2) (cwV 2 C.2.2.2.2.1 gX8_flipFits_X1_after rfl rfl rfl (by decide +kernel) ⟨Nat.le_of_ble_eq_true rfl, Nat.le_of_ble_eq_true rfl⟩) h.1 (by decide) rfl rfl rfl (Nat.le_of_ble_eq_true rfl) dX8_flipFits_32 ⟨Nat.le_of_ble_eq_true rfl, Nat.le_of_ble_eq_true rfl⟩) (fun r_8 M_z h => ?_)
  refine q_mem h.1 ?_
  have h := h.2
  refine q_istore (lv' := [(4, .int r_8), (3, .int r_4), (0, .ref a0), (1, .int i1), (2, .int i2)]) C dX8_flipFits_35 (by decide) rfl ?_
  refine q_iload_n C dX8_flipFits_37 rfl (j := 1) rfl ?_
  refine q_iload C dX8_flipFits_38 (j := 0) rfl ?_
  refine q_icmp_eq (tgt := 60) C dX8_flipFits_40 (by decide) (fun z => ?_) (fun z => ?_)
  · have h := h.1 z
    refine q_iconst (v := 0) C dX8_flipFits_60 (by decide) ?_
    exact q_zret C hr hlk dX8_flipFits_61 (Nat.le_of_ble_eq_true rfl) (Nat.le_of_ble_eq_true rfl) (Or.inl rfl) ⟨rfl, h⟩
  · have h := h.2 z
    refine q_aload_n C dX8_flipFits_43 rfl (j := 2) rfl ?_
    refine q_getR (ci := 8) (k0 := 1) (T := TX8) C inX8_flipFits_X8 rfl (by decide) h.1 (by decide) rfl (by decide +kernel) rfl dX8_flipFits_44 ?_
    obtain ⟨a_9, z, h⟩ := h.2
    refine q_ref z ?_
    refine q_iload_n C dX8_flipFits_47 rfl (j := 1) rfl ?_
    refine q_iload C dX8_flipFits_48 (j := 0) rfl ?_
    refine q_ci (q_runV (As := [.int r_4, .int r_8]) (st := []) C (c_X1_isEdge l D cA lo h.2) (cwV 2 C.2.2.2.2.1 gX8_flipFits_X1_isEdge rfl rfl rfl (by decide +kernel) ⟨Nat.le_of_ble_eq_true rfl, Nat.le_of_ble_eq_true rfl⟩) h.1 (by decide) rfl rfl rfl (Nat.le_of_ble_eq_true rfl) dX8_flipFits_50 ⟨Nat.le_of_ble_eq_true rfl, Nat.le_of_ble_eq_true rfl⟩) (fun r_10 M_z h => ?_)
    refine q_mem h.1 ?_
    have h := h.2
    refine q_if_ne (tgt := 60) C dX8_flipFits_53 (by decide) (fun z => ?_) (fun z => ?_)
    · have h := h.1 z
      refine q_iconst (v := 0) C dX8_flipFits_60 (by decide) ?_
      exact q_zret C hr hlk dX8_flipFits_61 (Nat.le_of_ble_eq_true rfl) (Nat.le_of_ble_eq_true rfl) (Or.inl rfl) ⟨rfl, h⟩
    · have h := h.2 z
      refine q_iconst (v := 1) C dX8_flipFits_56 (by decide) ?_
      refine q_goto (tgt := 61) C dX8_flipFits_57 (by decide) ?_
      exact q_zret C hr hlk dX8_flipFits_61 (Nat.le_of_ble_eq_true rfl) (Nat.le_of_ble_eq_true rfl) (Or.inr rfl) ⟨rfl, h⟩
def T_X8_flip (Cc Zz : Nat) (M : Mm) (a0 : Nat) (i1 : Int32) (i2 : Int32) (Q : Int32 → Mm → Prop) (X : String → Mm → Prop) : Prop := ∃ dc_3 ds_3 : Nat, (0 + dc_3 ≤ Cc ∧ 0 + ds_3 ≤ Zz) ∧ kM M a0 = (8, 8) ∧ T_X8_needPoints dc_3 ds_3 M a0 i1 i2 (fun M_2 => ((0 + dc_3) ≤ Cc ∧ (0 + ds_3) ≤ Zz) ∧ kM M_2 a0 = (8, 8) ∧ T_X8_isBetweenTriangles M_2 a0 i1 i2 (fun r_4 => ∃ dc_7 ds_7 : Nat, ((0 + dc_3) + dc_7 ≤ Cc ∧ (0 + ds_3) + ds_7 ≤ Zz) ∧ T_X8_needArgument dc_7 ds_7 M_2 r_4 (fun M_6 => (((0 + dc_3) + dc_7) ≤ Cc ∧ ((0 + ds_3) + ds_7) ≤ Zz) ∧ kM M_6 a0 = (8, 8) ∧ T_X8_flipFits M_6 a0 i1 i2 (fun r_8 => ∃ dc_11 ds_11 : Nat, (((0 + dc_3) + dc_7) + dc_11 ≤ Cc ∧ ((0 + ds_3) + ds_7) + ds_11 ≤ Zz) ∧ T_X8_needState dc_11 ds_11 M_6 r_8 (fun M_10 => kM M_10 a0 = (8, 8) ∧ ∃ a_12 : Nat, rM M_10 a0 1 = some a_12 ∧ ((((0 + dc_3) + dc_7) + dc_11) ≤ Cc ∧ (((0 + ds_3) + ds_7) + ds_11) ≤ Zz) ∧ kM M_10 a_12 = (1, 5) ∧ T_X1_owner M_10 a_12 i1 i2 (fun r_13 => kM M_10 a0 = (8, 8) ∧ ∃ a_14 : Nat, rM M_10 a0 1 = some a_14 ∧ ((((0 + dc_3) + dc_7) + dc_11) ≤ Cc ∧ (((0 + ds_3) + ds_7) + ds_11) ≤ Zz) ∧ kM M_10 a_14 = (1, 5) ∧ T_X1_owner M_10 a_14 i2 i1 (fun r_15 => kM M_10 a0 = (8, 8) ∧ ∃ a_16 : Nat, rM M_10 a0 1 = some a_16 ∧ ((((0 + dc_3) + dc_7) + dc_11) ≤ Cc ∧ (((0 + ds_3) + ds_7) + ds_11) ≤ Zz) ∧ kM M_10 a_16 = (1, 5) ∧ T_X1_after M_10 a_16 r_13 i2 (fun r_17 => kM M_10 a0 = (8, 8) ∧ ∃ a_18 : Nat, rM M_10 a0 1 = some a_18 ∧ ((((0 + dc_3) + dc_7) + dc_11) ≤ Cc ∧ (((0 + ds_3) + ds_7) + ds_11) ≤ Zz) ∧ kM M_10 a_18 = (1, 5) ∧ T_X1_after M_10 a_18 r_15 i1 (fun r_19 => kM M_10 a0 = (8, 8) ∧ ∃ a_20 : Nat, rM M_10 a0 6 = some a_20 ∧ ((((0 + dc_3) + dc_7) + dc_11) ≤ Cc ∧ (((0 + ds_3) + ds_7) + ds_11) ≤ Zz) ∧ kM M_10 a_20 = (5, 2) ∧ T_X5_set M_10 a_20 r_17 r_19 i2 (-1) (fun M_22 => kM M_22 a0 = (8, 8) ∧ ∃ a_23 : Nat, rM M_22 a0 7 = some a_23 ∧ ((((0 + dc_3) + dc_7) + dc_11) ≤ Cc ∧ (((0 + ds_3) + ds_7) + ds_11) ≤ Zz) ∧ kM M_22 a_23 = (5, 2) ∧ T_X5_set M_22 a_23 r_19 r_17 i1 (-1) (fun M_25 => kM M_25 a0 = (8, 8) ∧ ∃ a_26 : Nat, rM M_25 a0 1 = some a_26 ∧ kM M_25 a0 = (8, 8) ∧ ∃ a_27 : Nat, rM M_25 a0 6 = some a_27 ∧ ((((0 + dc_3) + dc_7) + dc_11) ≤ Cc ∧ (((0 + ds_3) + ds_7) + ds_11) ≤ Zz) ∧ kM M_25 a_26 = (1, 5) ∧ T_X1_reshape M_25 a_26 r_13 a_27 (fun M_29 => kM M_29 a0 = (8, 8) ∧ ∃ a_30 : Nat, rM M_29 a0 1 = some a_30 ∧ kM M_29 a0 = (8, 8) ∧ ∃ a_31 : Nat, rM M_29 a0 7 = some a_31 ∧ ((((0 + dc_3) + dc_7) + dc_11) ≤ Cc ∧ (((0 + ds_3) + ds_7) + ds_11) ≤ Zz) ∧ kM M_29 a_30 = (1, 5) ∧ T_X1_reshape M_29 a_30 r_15 a_31 (fun M_33 => (((0 + dc_3) + dc_7) + dc_11) ≤ Cc ∧ (((0 + ds_3) + ds_7) + ds_11) ≤ Zz ∧ Q ((1000 * r_17) + r_19) M_33))))))))) X)) X)) X
theorem inX8_flip_X8 : ∀ w ∈ wsX80, w ∈ wsX8_flip := by decide +kernel
set_option maxRecDepth 100000 in
set_option maxHeartbeats 4000000 in
theorem c_X8_flip (l : Launch) (hl : l.stackTraces = false) (D : va_G) (cA : Nat → ClassId) (lo : Nat) {M : Mm} {a0 : Nat} {i1 : Int32} {i2 : Int32} {Cc Zz : Nat} {Q : Int32 → Mm → Prop} {X : String → Mm → Prop} (h : T_X8_flip Cc Zz M a0 i1 i2 Q X) : vx_Met l yX8_flip wsX8_flip ({ frames := 8, cells := Cc, slots := Zz, locals := 133 } : Room) (PcM D cA lo [.ref a0, .int i1, .int i2] M) (QiM D cA lo Q) (XcM D cA lo X) Cc Zz (fun q => lo ≤ q) := by
  refine q_startX (cc := cX8_flip) (nL := 7) (ret := (some .int)) (by decide) rfl rfl (Nat.le_of_ble_eq_true rfl) ?_
  intro p e s m args below meth c C hr hlk hin hex
  unfold T_X8_flip at h
  refine q_aload_n C dX8_flip_0 rfl (j := 0) rfl ?_
  refine q_iload_n C dX8_flip_1 rfl (j := 1) rfl ?_
  refine q_iload_n C dX8_flip_2 rfl (j := 2) rfl ?_
  obtain ⟨dc_3, ds_3, hcz, h⟩ := h
  refine q_xv (qx_runV (As := [.int i1, .int i2]) (st := []) C (c_X8_needPoints l hl D cA lo h.2) (cwV 2 C.2.2.2.2.1 gX8_flip_X8_needPoints rfl rfl rfl (by decide +kernel) ⟨Nat.le_of_ble_eq_true rfl, Nat.le_of_ble_eq_true rfl⟩) h.1 (by decide) rfl rfl rfl (Nat.le_of_ble_eq_true rfl) dX8_flip_3 hcz) (fun E M_x h => ?_) (fun M_2 h => ?_)
  · exact q_xout (fun x hx => hex x hx _) hlk hcz.1 hcz.2 h
  · refine q_aload_n C dX8_flip_6 rfl (j := 0) rfl ?_
    refine q_iload_n C dX8_flip_7 rfl (j := 1) rfl ?_
    refine q_iload_n C dX8_flip_8 rfl (j := 2) rfl ?_
    have hcz := h.1
    have h := h.2
    refine q_ci (q_runV (As := [.int i1, .int i2]) (st := []) C (c_X8_isBetweenTriangles l D cA lo h.2) (cwV 2 C.2.2.2.2.1 gX8_flip_X8_isBetweenTriangles rfl rfl rfl (by decide +kernel) ⟨Nat.le_of_ble_eq_true rfl, Nat.le_of_ble_eq_true rfl⟩) h.1 (by decide) rfl rfl rfl (Nat.le_of_ble_eq_true rfl) dX8_flip_9 ⟨Nat.le_trans (Nat.le_of_eq (Nat.add_zero _)) hcz.1, Nat.le_trans (Nat.le_of_eq (Nat.add_zero _)) hcz.2⟩) (fun r_4 M_z h => ?_)
    refine q_mem h.1 ?_
    have h := h.2
    obtain ⟨dc_7, ds_7, hcz, h⟩ := h
    refine q_xv (qx_runS (As := [.int r_4]) (st := []) C (c_X8_needArgument l hl D cA lo h) (va_cwS 1 C.2.2.2.2.1 gX8_flip_X8_needArgument rfl rfl rfl (by decide +kernel) ⟨Nat.le_of_ble_eq_true rfl, Nat.le_of_ble_eq_true rfl⟩) rfl rfl (Nat.le_of_ble_eq_true rfl) dX8_flip_12 hcz) (fun E M_x h => ?_) (fun M_6 h => ?_)
    · exact q_xout (fun x hx => hex x hx _) hlk hcz.1 hcz.2 h
    · refine q_aload_n C dX8_flip_15 rfl (j := 0) rfl ?_
      refine q_iload_n C dX8_flip_16 rfl (j := 1) rfl ?_
      refine q_iload_n C dX8_flip_17 rfl (j := 2) rfl ?_
      have hcz := h.1
      have h := h.2
      refine q_ci (q_runV (As := [.int i1, .int i2]) (st := []) C (c_X8_flipFits l D cA lo h.2) (cwV 2 C.2.2.2.2.1 gX8_flip_X8_flipFits rfl rfl rfl (by decide +kernel) ⟨Nat.le_of_ble_eq_true rfl, Nat.le_of_ble_eq_true rfl⟩) h.1 (by decide) rfl rfl rfl (Nat.le_of_ble_eq_true rfl) dX8_flip_18 ⟨Nat.le_trans (Nat.le_of_eq (Nat.add_zero _)) hcz.1, Nat.le_trans (Nat.le_of_eq (Nat.add_zero _)) hcz.2⟩) (fun r_8 M_z h => ?_)
      refine q_mem h.1 ?_
      have h := h.2
      obtain ⟨dc_11, ds_11, hcz, h⟩ := h
      refine q_xv (qx_runS (As := [.int r_8]) (st := []) C (c_X8_needState l hl D cA lo h) (va_cwS 1 C.2.2.2.2.1 gX8_flip_X8_needState rfl rfl rfl (by decide +kernel) ⟨Nat.le_of_ble_eq_true rfl, Nat.le_of_ble_eq_true rfl⟩) rfl rfl (Nat.le_of_ble_eq_true rfl) dX8_flip_21 hcz) (fun E M_x h => ?_) (fun M_10 h => ?_)
      · exact q_xout (fun x hx => hex x hx _) hlk hcz.1 hcz.2 h
      · refine q_aload_n C dX8_flip_24 rfl (j := 0) rfl ?_
        refine q_getR (ci := 8) (k0 := 1) (T := TX8) C inX8_flip_X8 rfl (by decide) h.1 (by decide) rfl (by decide +kernel) rfl dX8_flip_25 ?_
        obtain ⟨a_12, z, h⟩ := h.2
        refine q_ref z ?_
        refine q_iload_n C dX8_flip_28 rfl (j := 1) rfl ?_
        refine q_iload_n C dX8_flip_29 rfl (j := 2) rfl ?_
        have hcz := h.1
        have h := h.2
        refine q_ci (q_runV (As := [.int i1, .int i2]) (st := []) C (c_X1_owner l D cA lo h.2) (cwV 2 C.2.2.2.2.1 gX8_flip_X1_owner rfl rfl rfl (by decide +kernel) ⟨Nat.le_of_ble_eq_true rfl, Nat.le_of_ble_eq_true rfl⟩) h.1 (by decide) rfl rfl rfl (Nat.le_of_ble_eq_true rfl) dX8_flip_30 ⟨Nat.le_trans (Nat.le_of_eq (Nat.add_zero _)) hcz.1, Nat.le_trans (Nat.le_of_eq (Nat.add_zero _)) hcz.2⟩) (fun r_13 M_z h => ?_)
        refine q_mem h.1 ?_
        have h := h.2
        refine q_istore_n (lv' := [(3, .int r_13), (0, .ref a0), (1, .int i1), (2, .int i2)]) C dX8_flip_33 rfl (by decide) rfl ?_
        refine q_aload_n C dX8_flip_34 rfl (j := 1) rfl ?_
        refine q_getR (ci := 8) (k0 := 1) (T := TX8) C inX8_flip_X8 rfl (by decide) h.1 (by decide) rfl (by decide +kernel) rfl dX8_flip_35 ?_
        obtain ⟨a_14, z, h⟩ := h.2
        refine q_ref z ?_
        refine q_iload_n C dX8_flip_38 rfl (j := 3) rfl ?_
        refine q_iload_n C dX8_flip_39 rfl (j := 2) rfl ?_
        have hcz := h.1
        have h := h.2
        refine q_ci (q_runV (As := [.int i2, .int i1]) (st := []) C (c_X1_owner l D cA lo h.2) (cwV 2 C.2.2.2.2.1 gX8_flip_X1_owner rfl rfl rfl (by decide +kernel) ⟨Nat.le_of_ble_eq_true rfl, Nat.le_of_ble_eq_true rfl⟩) h.1 (by decide) rfl rfl rfl (Nat.le_of_ble_eq_true rfl) dX8_flip_40 ⟨Nat.le_trans (Nat.le_of_eq (Nat.add_zero _)) hcz.1, Nat.le_trans (Nat.le_of_eq (Nat.add_zero _)) hcz.2⟩) (fun r_15 M_z h => ?_)
        refine q_mem h.1 ?_
        have h := h.2
        refine q_istore (lv' := [(4, .int r_15), (3, .int r_13), (0, .ref a0), (1, .int i1), (2, .int i2)]) C dX8_flip_43 (by decide) rfl ?_
        refine q_aload_n C dX8_flip_45 rfl (j := 2) rfl ?_
        refine q_getR (ci := 8) (k0 := 1) (T := TX8) C inX8_flip_X8 rfl (by decide) h.1 (by decide) rfl (by decide +kernel) rfl dX8_flip_46 ?_
        obtain ⟨a_16, z, h⟩ := h.2
        refine q_ref z ?_
        refine q_iload_n C dX8_flip_49 rfl (j := 1) rfl ?_
        refine q_iload_n C dX8_flip_50 rfl (j := 4) rfl ?_
        have hcz := h.1
        have h := h.2
        refine q_ci (q_runV (As := [.int r_13, .int i2]) (st := []) C (c_X1_after l D cA lo h.2) (cwV 2 C.2.2.2.2.1 gX8_flip_X1_after rfl rfl rfl (by decide +kernel) ⟨Nat.le_of_ble_eq_true rfl, Nat.le_of_ble_eq_true rfl⟩) h.1 (by decide) rfl rfl rfl (Nat.le_of_ble_eq_true rfl) dX8_flip_51 ⟨Nat.le_trans (Nat.le_of_eq (Nat.add_zero _)) hcz.1, Nat.le_trans (Nat.le_of_eq (Nat.add_zero _)) hcz.2⟩) (fun r_17 M_z h => ?_)
        refine q_mem h.1 ?_
        have h := h.2
        refine q_istore (lv' := [(5, .int r_17), (4, .int r_15), (3, .int r_13), (0, .ref a0), (1, .int i1), (2, .int i2)]) C dX8_flip_54 (by decide) rfl ?_
        refine q_aload_n C dX8_flip_56 rfl (j := 3) rfl ?_
        refine q_getR (ci := 8) (k0 := 1) (T := TX8) C inX8_flip_X8 rfl (by decide) h.1 (by decide) rfl (by decide +kernel) rfl dX8_flip_57 ?_
        obtain ⟨a_18, z, h⟩ := h.2
        refine q_ref z ?_
        refine q_iload C dX8_flip_60 (j := 1) rfl ?_
        refine q_iload_n C dX8_flip_62 rfl (j := 4) rfl ?_
        have hcz := h.1
        have h := h.2
        refine q_ci (q_runV (As := [.int r_15, .int i1]) (st := []) C (c_X1_after l D cA lo h.2) (cwV 2 C.2.2.2.2.1 gX8_flip_X1_after rfl rfl rfl (by decide +kernel) ⟨Nat.le_of_ble_eq_true rfl, Nat.le_of_ble_eq_true rfl⟩) h.1 (by decide) rfl rfl rfl (Nat.le_of_ble_eq_true rfl) dX8_flip_63 ⟨Nat.le_trans (Nat.le_of_eq (Nat.add_zero _)) hcz.1, Nat.le_trans (Nat.le_of_eq (Nat.add_zero _)) hcz.2⟩) (fun r_19 M_z h => ?_)
        refine q_mem h.1 ?_
        have h := h.2
        refine q_istore (lv' := [(6, .int r_19), (5, .int r_17), (4, .int r_15), (3, .int r_13), (0, .ref a0), (1, .int i1), (2, .int i2)]) C dX8_flip_66 (by decide) rfl ?_
        refine q_aload_n C dX8_flip_68 rfl (j := 4) rfl ?_
        refine q_getR (ci := 8) (k0 := 6) (T := TX8) C inX8_flip_X8 rfl (by decide) h.1 (by decide) rfl (by decide +kernel) rfl dX8_flip_69 ?_
        obtain ⟨a_20, z, h⟩ := h.2
        refine q_ref z ?_
        refine q_iload C dX8_flip_72 (j := 1) rfl ?_
        refine q_iload C dX8_flip_74 (j := 0) rfl ?_
        refine q_iload_n C dX8_flip_76 rfl (j := 6) rfl ?_
        refine q_iconst (v := (-1)) C dX8_flip_77 (by decide) ?_
        have hcz := h.1
        have h := h.2
        refine q_cv (q_runV (As := [.int r_17, .int r_19, .int i2, .int (-1)]) (st := []) C (c_X5_set l D cA lo h.2) (cwV 4 C.2.2.2.2.1 gX8_flip_X5_set rfl rfl rfl (by decide +kernel) ⟨Nat.le_of_ble_eq_true rfl, Nat.le_of_ble_eq_true rfl⟩) h.1 (by decide) rfl rfl rfl (Nat.le_of_ble_eq_true rfl) dX8_flip_78 ⟨Nat.le_trans (Nat.le_of_eq (Nat.add_zero _)) hcz.1, Nat.le_trans (Nat.le_of_eq (Nat.add_zero _)) hcz.2⟩) (fun M_22 h => ?_)
        refine q_aload_n C dX8_flip_81 rfl (j := 4) rfl ?_
        refine q_getR (ci := 8) (k0 := 7) (T := TX8) C inX8_flip_X8 rfl (by decide) h.1 (by decide) rfl (by decide +kernel) rfl dX8_flip_82 ?_
        obtain ⟨a_23, z, h⟩ := h.2
        refine q_ref z ?_
        refine q_iload C dX8_flip_85 (j := 0) rfl ?_
        refine q_iload C dX8_flip_87 (j := 1) rfl ?_
        refine q_iload_n C dX8_flip_89 rfl (j := 5) rfl ?_
        refine q_iconst (v := (-1)) C dX8_flip_90 (by decide) ?_
        have hcz := h.1
        have h := h.2
        refine q_cv (q_runV (As := [.int r_19, .int r_17, .int i1, .int (-1)]) (st := []) C (c_X5_set l D cA lo h.2) (cwV 4 C.2.2.2.2.1 gX8_flip_X5_set rfl rfl rfl (by decide +kernel) ⟨Nat.le_of_ble_eq_true rfl, Nat.le_of_ble_eq_true rfl⟩) h.1 (by decide) rfl rfl rfl (Nat.le_of_ble_eq_true rfl) dX8_flip_91 ⟨Nat.le_trans (Nat.le_of_eq (Nat.add_zero _)) hcz.1, Nat.le_trans (Nat.le_of_eq (Nat.add_zero _)) hcz.2⟩) (fun M_25 h => ?_)
        refine q_aload_n C dX8_flip_94 rfl (j := 4) rfl ?_
        refine q_getR (ci := 8) (k0 := 1) (T := TX8) C inX8_flip_X8 rfl (by decide) h.1 (by decide) rfl (by decide +kernel) rfl dX8_flip_95 ?_
        obtain ⟨a_26, z, h⟩ := h.2
        refine q_ref z ?_
        refine q_iload_n C dX8_flip_98 rfl (j := 3) rfl ?_
        refine q_aload_n C dX8_flip_99 rfl (j := 4) rfl ?_
        refine q_getR (ci := 8) (k0 := 6) (T := TX8) C inX8_flip_X8 rfl (by decide) h.1 (by decide) rfl (by decide +kernel) rfl dX8_flip_100 ?_
        obtain ⟨a_27, z, h⟩ := h.2
        refine q_ref z ?_
        have hcz := h.1
        have h := h.2
        refine q_cv (q_runV (As := [.int r_13, .ref a_27]) (st := []) C (c_X1_reshape l D cA lo h.2) (cwV 2 C.2.2.2.2.1 gX8_flip_X1_reshape rfl rfl rfl (by decide +kernel) ⟨Nat.le_of_ble_eq_true rfl, Nat.le_of_ble_eq_true rfl⟩) h.1 (by decide) rfl rfl rfl (Nat.le_of_ble_eq_true rfl) dX8_flip_103 ⟨Nat.le_trans (Nat.le_of_eq (Nat.add_zero _)) hcz.1, Nat.le_trans (Nat.le_of_eq (Nat.add_zero _)) hcz.2⟩) (fun M_29 h => ?_)
        refine q_aload_n C dX8_flip_106 rfl (j := 4) rfl ?_
        refine q_getR (ci := 8) (k0 := 1) (T := TX8) C inX8_flip_X8 rfl (by decide) h.1 (by decide) rfl (by decide +kernel) rfl dX8_flip_107 ?_
        obtain ⟨a_30, z, h⟩ := h.2
        refine q_ref z ?_
        refine q_iload C dX8_flip_110 (j := 2) rfl ?_
        refine q_aload_n C dX8_flip_112 rfl (j := 4) rfl ?_
        refine q_getR (ci := 8) (k0 := 7) (T := TX8) C inX8_flip_X8 rfl (by decide) h.1 (by decide) rfl (by decide +kernel) rfl dX8_flip_113 ?_
        obtain ⟨a_31, z, h⟩ := h.2
        refine q_ref z ?_
        have hcz := h.1
        have h := h.2
        refine q_cv (q_runV (As := [.int r_15, .ref a_31]) (st := []) C (c_X1_reshape l D cA lo h.2) (cwV 2 C.2.2.2.2.1 gX8_flip_X1_reshape rfl rfl rfl (by decide +kernel) ⟨Nat.le_of_ble_eq_true rfl, Nat.le_of_ble_eq_true rfl⟩) h.1 (by decide) rfl rfl rfl (Nat.le_of_ble_eq_true rfl) dX8_flip_116 ⟨Nat.le_trans (Nat.le_of_eq (Nat.add_zero _)) hcz.1, Nat.le_trans (Nat.le_of_eq (Nat.add_zero _)) hcz.2⟩) (fun M_33 h => ?_)
        refine q_sipush (v := 1000) C dX8_flip_119 (by decide) ?_
        refine q_iload C dX8_flip_122 (j := 1) rfl ?_
        refine q_imul C dX8_flip_124 ?_
        refine q_iload C dX8_flip_125 (j := 0) rfl ?_
        refine q_iadd C dX8_flip_127 ?_
        exact q_xret (q_iret C hr hlk dX8_flip_128 h.1 h.2.1 h.2.2)
def S_X8_canShift_3 (K3 : Nat → Nat → Int32 → Int32 → Int32 → Prop) (Q : Int32 → Prop) (M : Mm) (a0 : Nat) (a1 : Nat) (i2 : Int32) (i3 : Int32) (i4 : Int32) : Prop := kM M a1 = (5, 2) ∧ T_X5_length M a1 (fun r_1 => (r_1 ≤ i4 → Q 1) ∧ (¬ r_1 ≤ i4 → kM M a0 = (8, 8) ∧ ∃ a_2 : Nat, rM M a0 0 = some a_2 ∧ kM M a1 = (5, 2) ∧ T_X5_get M a1 i4 (fun r_3 => kM M a_2 = (3, 4) ∧ T_X3_get M a_2 r_3 i2 (fun r_4 => T_X8_isInReach M (r_4.toInt64 + i3.toInt64) (fun r_5 => (¬ r_5 = 0 → K3 a0 a1 i2 i3 (i4 + 1)) ∧ (r_5 = 0 → Q 0))))))
def T_X8_canShift (M : Mm) (a0 : Nat) (a1 : Nat) (i2 : Int32) (i3 : Int32) (Q : Int32 → Prop) : Prop := ∀ (K3 : Nat → Nat → Int32 → Int32 → Int32 → Prop), (∀ (a0 : Nat) (a1 : Nat) (i2 : Int32) (i3 : Int32) (i4 : Int32), S_X8_canShift_3 K3 Q M a0 a1 i2 i3 i4 → K3 a0 a1 i2 i3 i4) → K3 a0 a1 i2 i3 0
theorem inX8_canShift_X8 : ∀ w ∈ wsX80, w ∈ wsX8_canShift := by decide +kernel
set_option maxRecDepth 100000 in
set_option maxHeartbeats 4000000 in
theorem b_X8_canShift_3 {p : Program} {l : Launch} {e : Env} {s : State} {m : MethodId} {args : Array Value} {below : List Frame} {meth : Method} {c : Code} {D : va_G} {cA : Nat → ClassId} {lo : Nat} (C : Cx p s m args c cX8_canShift 5 RX8 wsX8_canShift D cA lo) (hr : meth.sig.returnType = (some .boolean)) (hlk : meth.locks = false) {Q : Int32 → Prop} {M : Mm} (a0 : Nat) (a1 : Nat) (i2 : Int32) (i3 : Int32) (i4 : Int32) (h : S_X8_canShift_3 (fun (a0 : Nat) (a1 : Nat) (i2 : Int32) (i3 : Int32) (i4 : Int32) => QW p l e ({ frames := 2, cells := 0, slots := 0, locals := 42 } : Room) s m args below meth c (MQ below (QiM D cA lo (fun r M1 => M1 = M ∧ Q r)) args s 0 0 (fun q => lo ≤ q)) 5 D cA lo 0 0 M 3 [(0, .ref a0), (1, .ref a1), (2, .int i2), (3, .int i3), (4, .int i4)] []) Q M a0 a1 i2 i3 i4) : QW p l e ({ frames := 2, cells := 0, slots := 0, locals := 42 } : Room) s m args below meth c (MQ below (QiM D cA lo (fun r M1 => M1 = M ∧ Q r)) args s 0 0 (fun q => lo ≤ q)) 5 D cA lo 0 0 M 3 [(0, .ref a0), (1, .ref a1), (2, .int i2), (3, .int i3), (4, .int i4)] [] := by
  unfold S_X8_canShift_3 at h
  refine q_iload C dX8_canShift_3 (j := 4) rfl ?_
  refine q_aload_n C dX8_canShift_5 rfl (j := 1) rfl ?_
  refine q_ci (q_runV (As := []) (st := [.int i4]) C (c_X5_length l D cA lo h.2) (cwV 0 C.2.2.2.2.1 gX8_canShift_X5_length rfl rfl rfl (by decide +kernel) ⟨Nat.le_of_ble_eq_true rfl, Nat.le_of_ble_eq_true rfl⟩) h.1 (by decide) rfl rfl rfl (Nat.le_of_ble_eq_true rfl) dX8_canShift_6 ⟨Nat.le_of_ble_eq_true rfl, Nat.le_of_ble_eq_true rfl⟩) (fun r_1 M_z h => ?_)
  refine q_mem h.1 ?_
  have h := h.2
  refine q_icmp_ge (tgt := 44) C dX8_canShift_9 (by decide) (fun z => ?_) (fun z => ?_)
  · have h := h.1 z
    refine q_iconst (v := 1) C dX8_canShift_44 (by decide) ?_
    exact q_zret C hr hlk dX8_canShift_45 (Nat.le_of_ble_eq_true rfl) (Nat.le_of_ble_eq_true rfl) (Or.inr rfl) ⟨rfl, h⟩
  · have h := h.2 z
    refine q_aload_n C dX8_canShift_12 rfl (j := 0) rfl ?_
    refine q_getR (ci := 8) (k0 := 0) (T := TX8) C inX8_canShift_X8 rfl (by decide) h.1 (by decide) rfl (by decide +kernel) rfl dX8_canShift_13 ?_
    obtain ⟨a_2, z, h⟩ := h.2
    refine q_ref z ?_
    refine q_aload_n C dX8_canShift_16 rfl (j := 1) rfl ?_
    refine q_iload C dX8_canShift_17 (j := 4) rfl ?_
    refine q_ci (q_runV (As := [.int i4]) (st := [.ref a_2]) C (c_X5_get l D cA lo h.2) (cwV 1 C.2.2.2.2.1 gX8_canShift_X5_get rfl rfl rfl (by decide +kernel) ⟨Nat.le_of_ble_eq_true rfl, Nat.le_of_ble_eq_true rfl⟩) h.1 (by decide) rfl rfl rfl (Nat.le_of_ble_eq_true rfl) dX8_canShift_19 ⟨Nat.le_of_ble_eq_true rfl, Nat.le_of_ble_eq_true rfl⟩) (fun r_3 M_z h => ?_)
    refine q_mem h.1 ?_
    have h := h.2
    refine q_iload_n C dX8_canShift_22 rfl (j := 2) rfl ?_
    refine q_ci (q_runV (As := [.int r_3, .int i2]) (st := []) C (c_X3_get l D cA lo h.2) (cwV 2 C.2.2.2.2.1 gX8_canShift_X3_get rfl rfl rfl (by decide +kernel) ⟨Nat.le_of_ble_eq_true rfl, Nat.le_of_ble_eq_true rfl⟩) h.1 (by decide) rfl rfl rfl (Nat.le_of_ble_eq_true rfl) dX8_canShift_23 ⟨Nat.le_of_ble_eq_true rfl, Nat.le_of_ble_eq_true rfl⟩) (fun r_4 M_z h => ?_)
    refine q_mem h.1 ?_
    have h := h.2
    refine q_i2l C dX8_canShift_26 ?_
    refine q_iload_n C dX8_canShift_27 rfl (j := 3) rfl ?_
    refine q_i2l C dX8_canShift_28 ?_
    refine q_ladd C dX8_canShift_29 ?_
    refine q_ci (q_runS (As := [.long (r_4.toInt64 + i3.toInt64)]) (st := []) C (c_X8_isInReach l D cA lo h) (va_cwS 1 C.2.2.2.2.1 gX8_canShift_X8_isInReach rfl rfl rfl (by decide +kernel) ⟨Nat.le_of_ble_eq_true rfl, Nat.le_of_ble_eq_true rfl⟩) rfl rfl (Nat.le_of_ble_eq_true rfl) dX8_canShift_30 ⟨Nat.le_of_ble_eq_true rfl, Nat.le_of_ble_eq_true rfl⟩) (fun r_5 M_z h => ?_)
    refine q_mem h.1 ?_
    have h := h.2
    refine q_if_ne (tgt := 38) C dX8_canShift_33 (by decide) (fun z => ?_) (fun z => ?_)
    · have h := h.1 z
      refine q_iinc (v := (i4 + 1)) (lv' := [(4, .int (i4 + 1)), (0, .ref a0), (1, .ref a1), (2, .int i2), (3, .int i3)]) C dX8_canShift_38 (j := 4) rfl rfl (by decide) rfl ?_
      refine q_goto (tgt := 3) C dX8_canShift_41 (by decide) ?_
      exact q_sub [1, 2, 3, 4, 0] rfl h
    · have h := h.2 z
      refine q_iconst (v := 0) C dX8_canShift_36 (by decide) ?_
      exact q_zret C hr hlk dX8_canShift_37 (Nat.le_of_ble_eq_true rfl) (Nat.le_of_ble_eq_true rfl) (Or.inl rfl) ⟨rfl, h⟩
set_option maxRecDepth 100000 in
set_option maxHeartbeats 4000000 in
theorem c_X8_canShift (l : Launch) (D : va_G) (cA : Nat → ClassId) (lo : Nat) {M : Mm} {a0 : Nat} {a1 : Nat} {i2 : Int32} {i3 : Int32} {Q : Int32 → Prop} (h : T_X8_canShift M a0 a1 i2 i3 Q) : Met l yX8_canShift wsX8_canShift ({ frames := 2, cells := 0, slots := 0, locals := 42 } : Room) (PcM D cA lo [.ref a0, .ref a1, .int i2, .int i3] M) (QiM D cA lo (fun r M1 => M1 = M ∧ Q r)) 0 0 (fun q => lo ≤ q) := by
  refine q_start (cc := cX8_canShift) (nL := 5) (ret := (some .boolean)) (by decide) rfl rfl (Nat.le_of_ble_eq_true rfl) ?_
  intro p e s m args below meth c C hr hlk hin
  unfold T_X8_canShift at h
  have h := h (fun (a0 : Nat) (a1 : Nat) (i2 : Int32) (i3 : Int32) (i4 : Int32) => QW p l e ({ frames := 2, cells := 0, slots := 0, locals := 42 } : Room) s m args below meth c (MQ below (QiM D cA lo (fun r M1 => M1 = M ∧ Q r)) args s 0 0 (fun q => lo ≤ q)) 5 D cA lo 0 0 M 3 [(0, .ref a0), (1, .ref a1), (2, .int i2), (3, .int i3), (4, .int i4)] []) (fun a0 a1 i2 i3 i4 h => b_X8_canShift_3 C hr hlk a0 a1 i2 i3 i4 h)
  refine q_iconst (v := 0) C dX8_canShift_0 (by decide) ?_
  refine q_istore (lv' := [(4, .int 0), (0, .ref a0), (1, .ref a1), (2, .int i2), (3, .int i3)]) C dX8_canShift_1 (by decide) rfl ?_
  exact q_sub [1, 2, 3, 4, 0] rfl h
def S_X8_addSides_8 (K8 : Nat → Nat → Int32 → Int32 → Int32 → Mm → Prop) (K30 : Nat → Nat → Int32 → Int32 → Int32 → Int32 → Mm → Prop) (Q : Mm → Prop) (M : Mm) (a0 : Nat) (a1 : Nat) (i2 : Int32) (i3 : Int32) (i4 : Int32) : Prop := (i3 ≤ i4 → Q M) ∧ (¬ i3 ≤ i4 → (i3 ≤ (i4 + 1) → K30 a0 a1 i2 i3 i4 0 M) ∧ (¬ i3 ≤ (i4 + 1) → K30 a0 a1 i2 i3 i4 (i4 + 1) M))
def S_X8_addSides_30 (K8 : Nat → Nat → Int32 → Int32 → Int32 → Mm → Prop) (K30 : Nat → Nat → Int32 → Int32 → Int32 → Int32 → Mm → Prop) (Q : Mm → Prop) (M : Mm) (a0 : Nat) (a1 : Nat) (i2 : Int32) (i3 : Int32) (i4 : Int32) (is0 : Int32) : Prop := kM M a0 = (8, 8) ∧ ∃ a_2 : Nat, rM M a0 6 = some a_2 ∧ kM M a1 = (5, 2) ∧ T_X5_get M a1 i4 (fun r_3 => kM M a1 = (5, 2) ∧ T_X5_get M a1 is0 (fun r_4 => kM M a_2 = (5, 2) ∧ T_X5_set M a_2 r_3 r_4 (i2 + is0) (i2 + i4) (fun M_6 => kM M_6 a0 = (8, 8) ∧ ∃ a_7 : Nat, rM M_6 a0 1 = some a_7 ∧ kM M_6 a0 = (8, 8) ∧ ∃ a_8 : Nat, rM M_6 a0 6 = some a_8 ∧ kM M_6 a_7 = (1, 5) ∧ T_X1_add M_6 a_7 a_8 (fun r_9 M_10 => K8 a0 a1 i2 i3 (i4 + 1) M_10))))
def T_X8_addSides (M : Mm) (a0 : Nat) (a1 : Nat) (i2 : Int32) (Q : Mm → Prop) : Prop := ∀ (K8 : Nat → Nat → Int32 → Int32 → Int32 → Mm → Prop) (K30 : Nat → Nat → Int32 → Int32 → Int32 → Int32 → Mm → Prop), (∀ (a0 : Nat) (a1 : Nat) (i2 : Int32) (i3 : Int32) (i4 : Int32) (M : Mm), S_X8_addSides_8 K8 K30 Q M a0 a1 i2 i3 i4 → K8 a0 a1 i2 i3 i4 M) → (∀ (a0 : Nat) (a1 : Nat) (i2 : Int32) (i3 : Int32) (i4 : Int32) (is0 : Int32) (M : Mm), S_X8_addSides_30 K8 K30 Q M a0 a1 i2 i3 i4 is0 → K30 a0 a1 i2 i3 i4 is0 M) → kM M a1 = (5, 2) ∧ T_X5_length M a1 (fun r_1 => K8 a0 a1 i2 r_1 0 M)
theorem inX8_addSides_X8 : ∀ w ∈ wsX80, w ∈ wsX8_addSides := by decide +kernel
set_option maxRecDepth 100000 in
set_option maxHeartbeats 4000000 in
theorem b_X8_addSides_8 {p : Program} {l : Launch} {e : Env} {s : State} {m : MethodId} {args : Array Value} {below : List Frame} {meth : Method} {c : Code} {D : va_G} {cA : Nat → ClassId} {lo : Nat} (C : Cx p s m args c cX8_addSides 6 RX8 wsX8_addSides D cA lo) (hr : meth.sig.returnType = none) (hlk : meth.locks = false) {Q : Mm → Prop} (M : Mm) (a0 : Nat) (a1 : Nat) (i2 : Int32) (i3 : Int32) (i4 : Int32) (h : S_X8_addSides_8 (fun (a0 : Nat) (a1 : Nat) (i2 : Int32) (i3 : Int32) (i4 : Int32) (M : Mm) => QW p l e ({ frames := 4, cells := 0, slots := 0, locals := 90 } : Room) s m args below meth c (MQ below (QvM D cA lo Q) args s 0 0 (fun q => lo ≤ q)) 6 D cA lo 0 0 M 8 [(0, .ref a0), (1, .ref a1), (2, .int i2), (3, .int i3), (4, .int i4)] []) (fun (a0 : Nat) (a1 : Nat) (i2 : Int32) (i3 : Int32) (i4 : Int32) (is0 : Int32) (M : Mm) => QW p l e ({ frames := 4, cells := 0, slots := 0, locals := 90 } : Room) s m args below meth c (MQ below (QvM D cA lo Q) args s 0 0 (fun q => lo ≤ q)) 6 D cA lo 0 0 M 30 [(0, .ref a0), (1, .ref a1), (2, .int i2), (3, .int i3), (4, .int i4)] [.int is0]) Q M a0 a1 i2 i3 i4) : QW p l e ({ frames := 4, cells := 0, slots := 0, locals := 90 } : Room) s m args below meth c (MQ below (QvM D cA lo Q) args s 0 0 (fun q => lo ≤ q)) 6 D cA lo 0 0 M 8 [(0, .ref a0), (1, .ref a1), (2, .int i2), (3, .int i3), (4, .int i4)] [] := by
  unfold S_X8_addSides_8 at h
  refine q_iload C dX8_addSides_8 (j := 4) rfl ?_
  refine q_iload_n C dX8_addSides_10 rfl (j := 3) rfl ?_
  refine q_icmp_ge (tgt := 77) C dX8_addSides_11 (by decide) (fun z => ?_) (fun z => ?_)
  · have h := h.1 z
    exact q_vret C hr hlk dX8_addSides_77 (Nat.le_of_ble_eq_true rfl) (Nat.le_of_ble_eq_true rfl) h
  · have h := h.2 z
    refine q_iload C dX8_addSides_14 (j := 4) rfl ?_
    refine q_iconst (v := 1) C dX8_addSides_16 (by decide) ?_
    refine q_iadd C dX8_addSides_17 ?_
    refine q_iload_n C dX8_addSides_18 rfl (j := 3) rfl ?_
    refine q_icmp_ge (tgt := 29) C dX8_addSides_19 (by decide) (fun z => ?_) (fun z => ?_)
    · have h := h.1 z
      refine q_iconst (v := 0) C dX8_addSides_29 (by decide) ?_
      exact q_sub [0, 1, 2, 3, 4] rfl h
    · have h := h.2 z
      refine q_iload C dX8_addSides_22 (j := 4) rfl ?_
      refine q_iconst (v := 1) C dX8_addSides_24 (by decide) ?_
      refine q_iadd C dX8_addSides_25 ?_
      refine q_goto (tgt := 30) C dX8_addSides_26 (by decide) ?_
      exact q_sub [0, 1, 2, 3, 4] rfl h
set_option maxRecDepth 100000 in
set_option maxHeartbeats 4000000 in
theorem b_X8_addSides_30 {p : Program} {l : Launch} {e : Env} {s : State} {m : MethodId} {args : Array Value} {below : List Frame} {meth : Method} {c : Code} {D : va_G} {cA : Nat → ClassId} {lo : Nat} (C : Cx p s m args c cX8_addSides 6 RX8 wsX8_addSides D cA lo) (hr : meth.sig.returnType = none) (hlk : meth.locks = false) {Q : Mm → Prop} (M : Mm) (a0 : Nat) (a1 : Nat) (i2 : Int32) (i3 : Int32) (i4 : Int32) (is0 : Int32) (h : S_X8_addSides_30 (fun (a0 : Nat) (a1 : Nat) (i2 : Int32) (i3 : Int32) (i4 : Int32) (M : Mm) => QW p l e ({ frames := 4, cells := 0, slots := 0, locals := 90 } : Room) s m args below meth c (MQ below (QvM D cA lo Q) args s 0 0 (fun q => lo ≤ q)) 6 D cA lo 0 0 M 8 [(0, .ref a0), (1, .ref a1), (2, .int i2), (3, .int i3), (4, .int i4)] []) (fun (a0 : Nat) (a1 : Nat) (i2 : Int32) (i3 : Int32) (i4 : Int32) (is0 : Int32) (M : Mm) => QW p l e ({ frames := 4, cells := 0, slots := 0, locals := 90 } : Room) s m args below meth c (MQ below (QvM D cA lo Q) args s 0 0 (fun q => lo ≤ q)) 6 D cA lo 0 0 M 30 [(0, .ref a0), (1, .ref a1), (2, .int i2), (3, .int i3), (4, .int i4)] [.int is0]) Q M a0 a1 i2 i3 i4 is0) : QW p l e ({ frames := 4, cells := 0, slots := 0, locals := 90 } : Room) s m args below meth c (MQ below (QvM D cA lo Q) args s 0 0 (fun q => lo ≤ q)) 6 D cA lo 0 0 M 30 [(0, .ref a0), (1, .ref a1), (2, .int i2), (3, .int i3), (4, .int i4)] [.int is0] := by
  unfold S_X8_addSides_30 at h
  refine q_istore (lv' := [(5, .int is0), (0, .ref a0), (1, .ref a1), (2, .int i2), (3, .int i3), (4, .int i4)]) C dX8_addSides_30 (by decide) rfl ?_
  refine q_aload_n C dX8_addSides_32 rfl (j := 1) rfl ?_
  refine q_getR (ci := 8) (k0 := 6) (T := TX8) C inX8_addSides_X8 rfl (by decide) h.1 (by decide) rfl (by decide +kernel) rfl dX8_addSides_33 ?_
  obtain ⟨a_2, z, h⟩ := h.2
  refine q_ref z ?_
  refine q_aload_n C dX8_addSides_36 rfl (j := 2) rfl ?_
  refine q_iload C dX8_addSides_37 (j := 5) rfl ?_
  refine q_ci (q_runV (As := [.int i4]) (st := [.ref a_2]) C (c_X5_get l D cA lo h.2) (cwV 1 C.2.2.2.2.1 gX8_addSides_X5_get rfl rfl rfl (by decide +kernel) ⟨Nat.le_of_ble_eq_true rfl, Nat.le_of_ble_eq_true rfl⟩) h.1 (by decide) rfl rfl rfl (Nat.le_of_ble_eq_true rfl) dX8_addSides_39 ⟨Nat.le_of_ble_eq_true rfl, Nat.le_of_ble_eq_true rfl⟩) (fun r_3 M_z h => ?_)
  refine q_mem h.1 ?_
  have h := h.2
  refine q_aload_n C dX8_addSides_42 rfl (j := 2) rfl ?_
  refine q_iload C dX8_addSides_43 (j := 0) rfl ?_
  refine q_ci (q_runV (As := [.int is0]) (st := [.int r_3, .ref a_2]) C (c_X5_get l D cA lo h.2) (cwV 1 C.2.2.2.2.1 gX8_addSides_X5_get rfl rfl rfl (by decide +kernel) ⟨Nat.le_of_ble_eq_true rfl, Nat.le_of_ble_eq_true rfl⟩) h.1 (by decide) rfl rfl rfl (Nat.le_of_ble_eq_true rfl) dX8_addSides_45 ⟨Nat.le_of_ble_eq_true rfl, Nat.le_of_ble_eq_true rfl⟩) (fun r_4 M_z h => ?_)
  refine q_mem h.1 ?_
  have h := h.2
  refine q_iload_n C dX8_addSides_48 rfl (j := 3) rfl ?_
  refine q_iload C dX8_addSides_49 (j := 0) rfl ?_
  refine q_iadd C dX8_addSides_51 ?_
  refine q_iload_n C dX8_addSides_52 rfl (j := 3) rfl ?_
  refine q_iload C dX8_addSides_53 (j := 5) rfl ?_
  refine q_iadd C dX8_addSides_55 ?_
  refine q_cv (q_runV (As := [.int r_3, .int r_4, .int (i2 + is0), .int (i2 + i4)]) (st := []) C (c_X5_set l D cA lo h.2) (cwV 4 C.2.2.2.2.1 gX8_addSides_X5_set rfl rfl rfl (by decide +kernel) ⟨Nat.le_of_ble_eq_true rfl, Nat.le_of_ble_eq_true rfl⟩) h.1 (by decide) rfl rfl rfl (Nat.le_of_ble_eq_true rfl) dX8_addSides_56 ⟨Nat.le_of_ble_eq_true rfl, Nat.le_of_ble_eq_true rfl⟩) (fun M_6 h => ?_)
  refine q_aload_n C dX8_addSides_59 rfl (j := 1) rfl ?_
  refine q_getR (ci := 8) (k0 := 1) (T := TX8) C inX8_addSides_X8 rfl (by decide) h.1 (by decide) rfl (by decide +kernel) rfl dX8_addSides_60 ?_
  obtain ⟨a_7, z, h⟩ := h.2
  refine q_ref z ?_
  refine q_aload_n C dX8_addSides_63 rfl (j := 1) rfl ?_
  refine q_getR (ci := 8) (k0 := 6) (T := TX8) C inX8_addSides_X8 rfl (by decide) h.1 (by decide) rfl (by decide +kernel) rfl dX8_addSides_64 ?_
  obtain ⟨a_8, z, h⟩ := h.2
  refine q_ref z ?_
  refine q_ci (q_runV (As := [.ref a_8]) (st := []) C (c_X1_add l D cA lo h.2) (cwV 1 C.2.2.2.2.1 gX8_addSides_X1_add rfl rfl rfl (by decide +kernel) ⟨Nat.le_of_ble_eq_true rfl, Nat.le_of_ble_eq_true rfl⟩) h.1 (by decide) rfl rfl rfl (Nat.le_of_ble_eq_true rfl) dX8_addSides_67 ⟨Nat.le_of_ble_eq_true rfl, Nat.le_of_ble_eq_true rfl⟩) (fun r_9 M_10 h => ?_)
  refine q_pop C dX8_addSides_70 rfl ?_
  refine q_iinc (v := (i4 + 1)) (lv' := [(4, .int (i4 + 1)), (5, .int is0), (0, .ref a0), (1, .ref a1), (2, .int i2), (3, .int i3)]) C dX8_addSides_71 (j := 5) rfl rfl (by decide) rfl ?_
  refine q_goto (tgt := 8) C dX8_addSides_74 (by decide) ?_
  exact q_sub [2, 3, 4, 5, 0] rfl h
set_option maxRecDepth 100000 in
set_option maxHeartbeats 4000000 in
theorem c_X8_addSides (l : Launch) (D : va_G) (cA : Nat → ClassId) (lo : Nat) {M : Mm} {a0 : Nat} {a1 : Nat} {i2 : Int32} {Q : Mm → Prop} (h : T_X8_addSides M a0 a1 i2 Q) : Met l yX8_addSides wsX8_addSides ({ frames := 4, cells := 0, slots := 0, locals := 90 } : Room) (PcM D cA lo [.ref a0, .ref a1, .int i2] M) (QvM D cA lo Q) 0 0 (fun q => lo ≤ q) := by
  refine q_start (cc := cX8_addSides) (nL := 6) (ret := none) (by decide) rfl rfl (Nat.le_of_ble_eq_true rfl) ?_
  intro p e s m args below meth c C hr hlk hin
  unfold T_X8_addSides at h
  have h := h (fun (a0 : Nat) (a1 : Nat) (i2 : Int32) (i3 : Int32) (i4 : Int32) (M : Mm) => QW p l e ({ frames := 4, cells := 0, slots := 0, locals := 90 } : Room) s m args below meth c (MQ below (QvM D cA lo Q) args s 0 0 (fun q => lo ≤ q)) 6 D cA lo 0 0 M 8 [(0, .ref a0), (1, .ref a1), (2, .int i2), (3, .int i3), (4, .int i4)] []) (fun (a0 : Nat) (a1 : Nat) (i2 : Int32) (i3 : Int32) (i4 : Int32) (is0 : Int32) (M : Mm) => QW p l e ({ frames := 4, cells := 0, slots := 0, locals := 90 } : Room) s m args below meth c (MQ below (QvM D cA lo Q) args s 0 0 (fun q => lo ≤ q)) 6 D cA lo 0 0 M 30 [(0, .ref a0), (1, .ref a1), (2, .int i2), (3, .int i3), (4, .int i4)] [.int is0]) (fun a0 a1 i2 i3 i4 M h => b_X8_addSides_8 C hr hlk M a0 a1 i2 i3 i4 h) (fun a0 a1 i2 i3 i4 is0 M h => b_X8_addSides_30 C hr hlk M a0 a1 i2 i3 i4 is0 h)
  refine q_aload_n C dX8_addSides_0 rfl (j := 1) rfl ?_
  refine q_ci (q_runV (As := []) (st := []) C (c_X5_length l D cA lo h.2) (cwV 0 C.2.2.2.2.1 gX8_addSides_X5_length rfl rfl rfl (by decide +kernel) ⟨Nat.le_of_ble_eq_true rfl, Nat.le_of_ble_eq_true rfl⟩) h.1 (by decide) rfl rfl rfl (Nat.le_of_ble_eq_true rfl) dX8_addSides_1 ⟨Nat.le_of_ble_eq_true rfl, Nat.le_of_ble_eq_true rfl⟩) (fun r_1 M_z h => ?_)
  refine q_mem h.1 ?_
  have h := h.2
  refine q_istore_n (lv' := [(3, .int r_1), (0, .ref a0), (1, .ref a1), (2, .int i2)]) C dX8_addSides_4 rfl (by decide) rfl ?_
  refine q_iconst (v := 0) C dX8_addSides_5 (by decide) ?_
  refine q_istore (lv' := [(4, .int 0), (3, .int r_1), (0, .ref a0), (1, .ref a1), (2, .int i2)]) C dX8_addSides_6 (by decide) rfl ?_
  exact q_sub [2, 3, 4, 1, 0] rfl h
def S_X8_draw_54 (K54 : Nat → Int32 → Int32 → Int32 → Int32 → Nat → Int32 → Mm → Nat → Nat → Prop) (K93 : Nat → Int32 → Int32 → Int32 → Int32 → Nat → Int32 → Int32 → Mm → Nat → Nat → Prop) (K124 : Nat → Int32 → Int32 → Int32 → Int32 → Int32 → Int32 → Int32 → Mm → Nat → Nat → Prop) (Cc Zz : Nat) (Q : Int32 → Mm → Prop) (X : String → Mm → Prop) (M : Mm) (a0 : Nat) (i1 : Int32) (i2 : Int32) (i3 : Int32) (i4 : Int32) (a5 : Nat) (is0 : Int32) (cc zz : Nat) : Prop := ∃ dc_11 ds_11 : Nat, (cc + dc_11 ≤ Cc ∧ zz + ds_11 ≤ Zz) ∧ T_X8_needArgument dc_11 ds_11 M is0 (fun M_10 => ((cc + dc_11) ≤ Cc ∧ (zz + ds_11) ≤ Zz) ∧ kM M_10 a5 = (5, 2) ∧ T_X5_length M_10 a5 (fun r_12 => kM M_10 a0 = (8, 8) ∧ ∃ a_13 : Nat, rM M_10 a0 0 = some a_13 ∧ ((cc + dc_11) ≤ Cc ∧ (zz + ds_11) ≤ Zz) ∧ kM M_10 a_13 = (3, 4) ∧ T_X3_hasRoom M_10 a_13 r_12 (fun r_14 => (r_14 = 0 → K93 a0 i1 i2 i3 i4 a5 r_12 0 M_10 (cc + dc_11) (zz + ds_11)) ∧ (¬ r_14 = 0 → kM M_10 a0 = (8, 8) ∧ ∃ a_15 : Nat, rM M_10 a0 1 = some a_15 ∧ ((cc + dc_11) ≤ Cc ∧ (zz + ds_11) ≤ Zz) ∧ kM M_10 a_15 = (1, 5) ∧ T_X1_hasRoom M_10 a_15 r_12 (fun r_16 => (r_16 = 0 → K93 a0 i1 i2 i3 i4 a5 r_12 0 M_10 (cc + dc_11) (zz + ds_11)) ∧ (¬ r_16 = 0 → K93 a0 i1 i2 i3 i4 a5 r_12 1 M_10 (cc + dc_11) (zz + ds_11))))))) X
def S_X8_draw_93 (K54 : Nat → Int32 → Int32 → Int32 → Int32 → Nat → Int32 → Mm → Nat → Nat → Prop) (K93 : Nat → Int32 → Int32 → Int32 → Int32 → Nat → Int32 → Int32 → Mm → Nat → Nat → Prop) (K124 : Nat → Int32 → Int32 → Int32 → Int32 → Int32 → Int32 → Int32 → Mm → Nat → Nat → Prop) (Cc Zz : Nat) (Q : Int32 → Mm → Prop) (X : String → Mm → Prop) (M : Mm) (a0 : Nat) (i1 : Int32) (i2 : Int32) (i3 : Int32) (i4 : Int32) (a5 : Nat) (i6 : Int32) (is0 : Int32) (cc zz : Nat) : Prop := ∃ dc_19 ds_19 : Nat, (cc + dc_19 ≤ Cc ∧ zz + ds_19 ≤ Zz) ∧ T_X8_needState dc_19 ds_19 M is0 (fun M_18 => kM M_18 a0 = (8, 8) ∧ ∃ a_20 : Nat, rM M_18 a0 0 = some a_20 ∧ ((cc + dc_19) ≤ Cc ∧ (zz + ds_19) ≤ Zz) ∧ kM M_18 a_20 = (3, 4) ∧ T_X3_ever M_18 a_20 (fun r_21 => kM M_18 a0 = (8, 8) ∧ ∃ a_22 : Nat, rM M_18 a0 7 = some a_22 ∧ ((cc + dc_19) ≤ Cc ∧ (zz + ds_19) ≤ Zz) ∧ kM M_18 a_22 = (5, 2) ∧ T_X5_copyFrom M_18 a_22 a5 (fun M_24 => kM M_24 a0 = (8, 8) ∧ ∃ a_25 : Nat, rM M_24 a0 6 = some a_25 ∧ ((cc + dc_19) ≤ Cc ∧ (zz + ds_19) ≤ Zz) ∧ kM M_24 a_25 = (5, 2) ∧ T_X5_clear M_24 a_25 (fun M_27 => K124 a0 i1 i2 i3 i4 i6 r_21 0 M_27 (cc + dc_19) (zz + ds_19))))) X
def S_X8_draw_124 (K54 : Nat → Int32 → Int32 → Int32 → Int32 → Nat → Int32 → Mm → Nat → Nat → Prop) (K93 : Nat → Int32 → Int32 → Int32 → Int32 → Nat → Int32 → Int32 → Mm → Nat → Nat → Prop) (K124 : Nat → Int32 → Int32 → Int32 → Int32 → Int32 → Int32 → Int32 → Mm → Nat → Nat → Prop) (Cc Zz : Nat) (Q : Int32 → Mm → Prop) (X : String → Mm → Prop) (M : Mm) (a0 : Nat) (i1 : Int32) (i2 : Int32) (i3 : Int32) (i4 : Int32) (i6 : Int32) (i7 : Int32) (i8 : Int32) (cc zz : Nat) : Prop := (i6 ≤ i8 → kM M a0 = (8, 8) ∧ ∃ a_28 : Nat, rM M a0 1 = some a_28 ∧ kM M a0 = (8, 8) ∧ ∃ a_29 : Nat, rM M a0 6 = some a_29 ∧ (cc ≤ Cc ∧ zz ≤ Zz) ∧ kM M a_28 = (1, 5) ∧ T_X1_reshape M a_28 i1 a_29 (fun M_31 => kM M_31 a0 = (8, 8) ∧ ∃ a_32 : Nat, rM M_31 a0 7 = some a_32 ∧ (cc ≤ Cc ∧ zz ≤ Zz) ∧ kM M_31 a0 = (8, 8) ∧ T_X8_addSides M_31 a0 a_32 i7 (fun M_34 => cc ≤ Cc ∧ zz ≤ Zz ∧ Q i7 M_34))) ∧ (¬ i6 ≤ i8 → kM M a0 = (8, 8) ∧ ∃ a_35 : Nat, rM M a0 6 = some a_35 ∧ kM M a0 = (8, 8) ∧ ∃ a_36 : Nat, rM M a0 0 = some a_36 ∧ kM M a0 = (8, 8) ∧ ∃ a_37 : Nat, rM M a0 7 = some a_37 ∧ (cc ≤ Cc ∧ zz ≤ Zz) ∧ kM M a_37 = (5, 2) ∧ T_X5_get M a_37 i8 (fun r_38 => (cc ≤ Cc ∧ zz ≤ Zz) ∧ kM M a_36 = (3, 4) ∧ T_X3_addShifted M a_36 r_38 i2 i3 i4 (fun r_39 M_40 => (cc ≤ Cc ∧ zz ≤ Zz) ∧ kM M_40 a_35 = (5, 2) ∧ T_X5_add M_40 a_35 r_39 (fun M_42 => K124 a0 i1 i2 i3 i4 i6 i7 (i8 + 1) M_42 cc zz))))
def T_X8_draw (Cc Zz : Nat) (M : Mm) (a0 : Nat) (i1 : Int32) (i2 : Int32) (i3 : Int32) (i4 : Int32) (Q : Int32 → Mm → Prop) (X : String → Mm → Prop) : Prop := ∀ (K54 : Nat → Int32 → Int32 → Int32 → Int32 → Nat → Int32 → Mm → Nat → Nat → Prop) (K93 : Nat → Int32 → Int32 → Int32 → Int32 → Nat → Int32 → Int32 → Mm → Nat → Nat → Prop) (K124 : Nat → Int32 → Int32 → Int32 → Int32 → Int32 → Int32 → Int32 → Mm → Nat → Nat → Prop), (∀ (a0 : Nat) (i1 : Int32) (i2 : Int32) (i3 : Int32) (i4 : Int32) (a5 : Nat) (is0 : Int32) (M : Mm) (cc zz : Nat), S_X8_draw_54 K54 K93 K124 Cc Zz Q X M a0 i1 i2 i3 i4 a5 is0 cc zz → K54 a0 i1 i2 i3 i4 a5 is0 M cc zz) → (∀ (a0 : Nat) (i1 : Int32) (i2 : Int32) (i3 : Int32) (i4 : Int32) (a5 : Nat) (i6 : Int32) (is0 : Int32) (M : Mm) (cc zz : Nat), S_X8_draw_93 K54 K93 K124 Cc Zz Q X M a0 i1 i2 i3 i4 a5 i6 is0 cc zz → K93 a0 i1 i2 i3 i4 a5 i6 is0 M cc zz) → (∀ (a0 : Nat) (i1 : Int32) (i2 : Int32) (i3 : Int32) (i4 : Int32) (i6 : Int32) (i7 : Int32) (i8 : Int32) (M : Mm) (cc zz : Nat), S_X8_draw_124 K54 K93 K124 Cc Zz Q X M a0 i1 i2 i3 i4 i6 i7 i8 cc zz → K124 a0 i1 i2 i3 i4 i6 i7 i8 M cc zz) → ∃ dc_3 ds_3 : Nat, (0 + dc_3 ≤ Cc ∧ 0 + ds_3 ≤ Zz) ∧ kM M a0 = (8, 8) ∧ T_X8_needFace dc_3 ds_3 M a0 i1 (fun M_2 => kM M_2 a0 = (8, 8) ∧ ∃ a_4 : Nat, rM M_2 a0 1 = some a_4 ∧ ((0 + dc_3) ≤ Cc ∧ (0 + ds_3) ≤ Zz) ∧ kM M_2 a_4 = (1, 5) ∧ T_X1_ring M_2 a_4 i1 (fun r_5 => ((0 + dc_3) ≤ Cc ∧ (0 + ds_3) ≤ Zz) ∧ kM M_2 a0 = (8, 8) ∧ T_X8_canShift M_2 a0 r_5 0 i2 (fun r_6 => (r_6 = 0 → K54 a0 i1 i2 i3 i4 r_5 0 M_2 (0 + dc_3) (0 + ds_3)) ∧ (¬ r_6 = 0 → ((0 + dc_3) ≤ Cc ∧ (0 + ds_3) ≤ Zz) ∧ kM M_2 a0 = (8, 8) ∧ T_X8_canShift M_2 a0 r_5 1 i3 (fun r_7 => (r_7 = 0 → K54 a0 i1 i2 i3 i4 r_5 0 M_2 (0 + dc_3) (0 + ds_3)) ∧ (¬ r_7 = 0 → ((0 + dc_3) ≤ Cc ∧ (0 + ds_3) ≤ Zz) ∧ kM M_2 a0 = (8, 8) ∧ T_X8_canShift M_2 a0 r_5 2 i4 (fun r_8 => (r_8 = 0 → K54 a0 i1 i2 i3 i4 r_5 0 M_2 (0 + dc_3) (0 + ds_3)) ∧ (¬ r_8 = 0 → K54 a0 i1 i2 i3 i4 r_5 1 M_2 (0 + dc_3) (0 + ds_3))))))))) X
theorem inX8_draw_X8 : ∀ w ∈ wsX80, w ∈ wsX8_draw := by decide +kernel
set_option maxRecDepth 100000 in
set_option maxHeartbeats 4000000 in
theorem b_X8_draw_54 {p : Program} {l : Launch} {e : Env} {s : State} {m : MethodId} {args : Array Value} {below : List Frame} {meth : Method} {c : Code} {D : va_G} {cA : Nat → ClassId} {lo : Nat} (C : Cx p s m args c cX8_draw 9 RX8 wsX8_draw D cA lo) (hr : meth.sig.returnType = (some .int)) (hlk : meth.locks = false) (hl : l.stackTraces = false) (hex : ∀ x ∈ c.exceptionTable.toList, ∀ pc, covers x pc = false) {Q : Int32 → Mm → Prop} {Cc Zz : Nat} {X : String → Mm → Prop} (M : Mm) (a0 : Nat) (i1 : Int32) (i2 : Int32) (i3 : Int32) (i4 : Int32) (a5 : Nat) (is0 : Int32) (cc zz : Nat) (h : S_X8_draw_54 (fun (a0 : Nat) (i1 : Int32) (i2 : Int32) (i3 : Int32) (i4 : Int32) (a5 : Nat) (is0 : Int32) (M : Mm) (cc zz : Nat) => QW p l e ({ frames := 7, cells := Cc, slots := Zz, locals := 115 } : Room) s m args below meth c (vx_MQ below (QiM D cA lo Q) (XcM D cA lo X) args s Cc Zz (fun q => lo ≤ q)) 9 D cA lo cc zz M 54 [(0, .ref a0), (1, .int i1), (2, .int i2), (3, .int i3), (4, .int i4), (5, .ref a5)] [.int is0]) (fun (a0 : Nat) (i1 : Int32) (i2 : Int32) (i3 : Int32) (i4 : Int32) (a5 : Nat) (i6 : Int32) (is0 : Int32) (M : Mm) (cc zz : Nat) => QW p l e ({ frames := 7, cells := Cc, slots := Zz, locals := 115 } : Room) s m args below meth c (vx_MQ below (QiM D cA lo Q) (XcM D cA lo X) args s Cc Zz (fun q => lo ≤ q)) 9 D cA lo cc zz M 93 [(0, .ref a0), (1, .int i1), (2, .int i2), (3, .int i3), (4, .int i4), (5, .ref a5), (6, .int i6)] [.int is0]) (fun (a0 : Nat) (i1 : Int32) (i2 : Int32) (i3 : Int32) (i4 : Int32) (i6 : Int32) (i7 : Int32) (i8 : Int32) (M : Mm) (cc zz : Nat) => QW p l e ({ frames := 7, cells := Cc, slots := Zz, locals := 115 } : Room) s m args below meth c (vx_MQ below (QiM D cA lo Q) (XcM D cA lo X) args s Cc Zz (fun q => lo ≤ q)) 9 D cA lo cc zz M 124 [(0, .ref a0), (1, .int i1), (2, .int i2), (3, .int i3), (4, .int i4), (6, .int i6), (7, .int i7), (8, .int i8)] []) Cc Zz Q X M a0 i1 i2 i3 i4 a5 is0 cc zz) : QW p l e ({ frames := 7, cells := Cc, slots := Zz, locals := 115 } : Room) s m args below meth c (vx_MQ below (QiM D cA lo Q) (XcM D cA lo X) args s Cc Zz (fun q => lo ≤ q)) 9 D cA lo cc zz M 54 [(0, .ref a0), (1, .int i1), (2, .int i2), (3, .int i3), (4, .int i4), (5, .ref a5)] [.int is0] := by
  unfold S_X8_draw_54 at h
  obtain ⟨dc_11, ds_11, hcz, h⟩ := h
  refine q_xv (qx_runS (As := [.int is0]) (st := []) C (c_X8_needArgument l hl D cA lo h) (va_cwS 1 C.2.2.2.2.1 gX8_draw_X8_needArgument rfl rfl rfl (by decide +kernel) ⟨Nat.le_of_ble_eq_true rfl, Nat.le_of_ble_eq_true rfl⟩) rfl rfl (Nat.le_of_ble_eq_true rfl) dX8_draw_54 hcz) (fun E M_x h => ?_) (fun M_10 h => ?_)
  · exact q_xout (fun x hx => hex x hx _) hlk hcz.1 hcz.2 h
  · refine q_aload C dX8_draw_57 (j := 5) rfl ?_
    have hcz := h.1
    have h := h.2
    refine q_ci (q_runV (As := []) (st := []) C (c_X5_length l D cA lo h.2) (cwV 0 C.2.2.2.2.1 gX8_draw_X5_length rfl rfl rfl (by decide +kernel) ⟨Nat.le_of_ble_eq_true rfl, Nat.le_of_ble_eq_true rfl⟩) h.1 (by decide) rfl rfl rfl (Nat.le_of_ble_eq_true rfl) dX8_draw_59 ⟨Nat.le_trans (Nat.le_of_eq (Nat.add_zero _)) hcz.1, Nat.le_trans (Nat.le_of_eq (Nat.add_zero _)) hcz.2⟩) (fun r_12 M_z h => ?_)
    refine q_mem h.1 ?_
    have h := h.2
    refine q_istore (lv' := [(6, .int r_12), (0, .ref a0), (1, .int i1), (2, .int i2), (3, .int i3), (4, .int i4), (5, .ref a5)]) C dX8_draw_62 (by decide) rfl ?_
    refine q_aload_n C dX8_draw_64 rfl (j := 1) rfl ?_
    refine q_getR (ci := 8) (k0 := 0) (T := TX8) C inX8_draw_X8 rfl (by decide) h.1 (by decide) rfl (by decide +kernel) rfl dX8_draw_65 ?_
    obtain ⟨a_13, z, h⟩ := h.2
    refine q_ref z ?_
    refine q_iload C dX8_draw_68 (j := 0) rfl ?_
    have hcz := h.1
    have h := h.2
    refine q_ci (q_runV (As := [.int r_12]) (st := []) C (c_X3_hasRoom l D cA lo h.2) (cwV 1 C.2.2.2.2.1 gX8_draw_X3_hasRoom rfl rfl rfl (by decide +kernel) ⟨Nat.le_of_ble_eq_true rfl, Nat.le_of_ble_eq_true rfl⟩) h.1 (by decide) rfl rfl rfl (Nat.le_of_ble_eq_true rfl) dX8_draw_70 ⟨Nat.le_trans (Nat.le_of_eq (Nat.add_zero _)) hcz.1, Nat.le_trans (Nat.le_of_eq (Nat.add_zero _)) hcz.2⟩) (fun r_14 M_z h => ?_)
    refine q_mem h.1 ?_
    have h := h.2
    refine q_if_eq (tgt := 92) C dX8_draw_73 (by decide) (fun z => ?_) (fun z => ?_)
    · have h := h.1 z
      refine q_iconst (v := 0) C dX8_draw_92 (by decide) ?_
      exact q_sub [1, 2, 3, 4, 5, 6, 0] rfl h
    · have h := h.2 z
      refine q_aload_n C dX8_draw_76 rfl (j := 1) rfl ?_
      refine q_getR (ci := 8) (k0 := 1) (T := TX8) C inX8_draw_X8 rfl (by decide) h.1 (by decide) rfl (by decide +kernel) rfl dX8_draw_77 ?_
      obtain ⟨a_15, z, h⟩ := h.2
      refine q_ref z ?_
      refine q_iload C dX8_draw_80 (j := 0) rfl ?_
      have hcz := h.1
      have h := h.2
      refine q_ci (q_runV (As := [.int r_12]) (st := []) C (c_X1_hasRoom l D cA lo h.2) (cwV 1 C.2.2.2.2.1 gX8_draw_X1_hasRoom rfl rfl rfl (by decide +kernel) ⟨Nat.le_of_ble_eq_true rfl, Nat.le_of_ble_eq_true rfl⟩) h.1 (by decide) rfl rfl rfl (Nat.le_of_ble_eq_true rfl) dX8_draw_82 ⟨Nat.le_trans (Nat.le_of_eq (Nat.add_zero _)) hcz.1, Nat.le_trans (Nat.le_of_eq (Nat.add_zero _)) hcz.2⟩) (fun r_16 M_z h => ?_)
      refine q_mem h.1 ?_
      have h := h.2
      refine q_if_eq (tgt := 92) C dX8_draw_85 (by decide) (fun z => ?_) (fun z => ?_)
      · have h := h.1 z
        refine q_iconst (v := 0) C dX8_draw_92 (by decide) ?_
        exact q_sub [1, 2, 3, 4, 5, 6, 0] rfl h
      · have h := h.2 z
        refine q_iconst (v := 1) C dX8_draw_88 (by decide) ?_
        refine q_goto (tgt := 93) C dX8_draw_89 (by decide) ?_
        exact q_sub [1, 2, 3, 4, 5, 6, 0] rfl h
set_option maxRecDepth 100000 in
set_option maxHeartbeats 4000000 in
theorem b_X8_draw_93 {p : Program} {l : Launch} {e : Env} {s : State} {m : MethodId} {args : Array Value} {below : List Frame} {meth : Method} {c : Code} {D : va_G} {cA : Nat → ClassId} {lo : Nat} (C : Cx p s m args c cX8_draw 9 RX8 wsX8_draw D cA lo) (hr : meth.sig.returnType = (some .int)) (hlk : meth.locks = false) (hl : l.stackTraces = false) (hex : ∀ x ∈ c.exceptionTable.toList, ∀ pc, covers x pc = false) {Q : Int32 → Mm → Prop} {Cc Zz : Nat} {X : String → Mm → Prop} (M : Mm) (a0 : Nat) (i1 : Int32) (i2 : Int32) (i3 : Int32) (i4 : Int32) (a5 : Nat) (i6 : Int32) (is0 : Int32) (cc zz : Nat) (h : S_X8_draw_93 (fun (a0 : Nat) (i1 : Int32) (i2 : Int32) (i3 : Int32) (i4 : Int32) (a5 : Nat) (is0 : Int32) (M : Mm) (cc zz : Nat) => QW p l e ({ frames := 7, cells := Cc, slots := Zz, locals := 115 } : Room) s m args below meth c (vx_MQ below (QiM D cA lo Q) (XcM D cA lo X) args s Cc Zz (fun q => lo ≤ q)) 9 D cA lo cc zz M 54 [(0, .ref a0), (1, .int i1), (2, .int i2), (3, .int i3), (4, .int i4), (5, .ref a5)] [.int is0]) (fun (a0 : Nat) (i1 : Int32) (i2 : Int32) (i3 : Int32) (i4 : Int32) (a5 : Nat) (i6 : Int32) (is0 : Int32) (M : Mm) (cc zz : Nat) => QW p l e ({ frames := 7, cells := Cc, slots := Zz, locals := 115 } : Room) s m args below meth c (vx_MQ below (QiM D cA lo Q) (XcM D cA lo X) args s Cc Zz (fun q => lo ≤ q)) 9 D cA lo cc zz M 93 [(0, .ref a0), (1, .int i1), (2, .int i2), (3, .int i3), (4, .int i4), (5, .ref a5), (6, .int i6)] [.int is0]) (fun (a0 : Nat) (i1 : Int32) (i2 : Int32) (i3 : Int32) (i4 : Int32) (i6 : Int32) (i7 : Int32) (i8 : Int32) (M : Mm) (cc zz : Nat) => QW p l e ({ frames := 7, cells := Cc, slots := Zz, locals := 115 } : Room) s m args below meth c (vx_MQ below (QiM D cA lo Q) (XcM D cA lo X) args s Cc Zz (fun q => lo ≤ q)) 9 D cA lo cc zz M 124 [(0, .ref a0), (1, .int i1), (2, .int i2), (3, .int i3), (4, .int i4), (6, .int i6), (7, .int i7), (8, .int i8)] []) Cc Zz Q X M a0 i1 i2 i3 i4 a5 i6 is0 cc zz) : QW p l e ({ frames := 7, cells := Cc, slots := Zz, locals := 115 } : Room) s m args below meth c (vx_MQ below (QiM D cA lo Q) (XcM D cA lo X) args s Cc Zz (fun q => lo ≤ q)) 9 D cA lo cc zz M 93 [(0, .ref a0), (1, .int i1), (2, .int i2), (3, .int i3), (4, .int i4), (5, .ref a5), (6, .int i6)] [.int is0] := by
  unfold S_X8_draw_93 at h
  obtain ⟨dc_19, ds_19, hcz, h⟩ := h
  refine q_xv (qx_runS (As := [.int is0]) (st := []) C (c_X8_needState l hl D cA lo h) (va_cwS 1 C.2.2.2.2.1 gX8_draw_X8_needState rfl rfl rfl (by decide +kernel) ⟨Nat.le_of_ble_eq_true rfl, Nat.le_of_ble_eq_true rfl⟩) rfl rfl (Nat.le_of_ble_eq_true rfl) dX8_draw_93 hcz) (fun E M_x h => ?_) (fun M_18 h => ?_)
  · exact q_xout (fun x hx => hex x hx _) hlk hcz.1 hcz.2 h
  · refine q_aload_n C dX8_draw_96 rfl (j := 0) rfl ?_
    refine q_getR (ci := 8) (k0 := 0) (T := TX8) C inX8_draw_X8 rfl (by decide) h.1 (by decide) rfl (by decide +kernel) rfl dX8_draw_97 ?_
    obtain ⟨a_20, z, h⟩ := h.2
    refine q_ref z ?_
    have hcz := h.1
    have h := h.2
    refine q_ci (q_runV (As := []) (st := []) C (c_X3_ever l D cA lo h.2) (cwV 0 C.2.2.2.2.1 gX8_draw_X3_ever rfl rfl rfl (by decide +kernel) ⟨Nat.le_of_ble_eq_true rfl, Nat.le_of_ble_eq_true rfl⟩) h.1 (by decide) rfl rfl rfl (Nat.le_of_ble_eq_true rfl) dX8_draw_100 ⟨Nat.le_trans (Nat.le_of_eq (Nat.add_zero _)) hcz.1, Nat.le_trans (Nat.le_of_eq (Nat.add_zero _)) hcz.2⟩) (fun r_21 M_z h => ?_)
    refine q_mem h.1 ?_
    have h := h.2
    refine q_istore (lv' := [(7, .int r_21), (0, .ref a0), (1, .int i1), (2, .int i2), (3, .int i3), (4, .int i4), (5, .ref a5), (6, .int i6)]) C dX8_draw_103 (by decide) rfl ?_
    refine q_aload_n C dX8_draw_105 rfl (j := 1) rfl ?_
    refine q_getR (ci := 8) (k0 := 7) (T := TX8) C inX8_draw_X8 rfl (by decide) h.1 (by decide) rfl (by decide +kernel) rfl dX8_draw_106 ?_
    obtain ⟨a_22, z, h⟩ := h.2
    refine q_ref z ?_
    refine q_aload C dX8_draw_109 (j := 6) rfl ?_
    have hcz := h.1
    have h := h.2
    refine q_cv (q_runV (As := [.ref a5]) (st := []) C (c_X5_copyFrom l D cA lo h.2) (cwV 1 C.2.2.2.2.1 gX8_draw_X5_copyFrom rfl rfl rfl (by decide +kernel) ⟨Nat.le_of_ble_eq_true rfl, Nat.le_of_ble_eq_true rfl⟩) h.1 (by decide) rfl rfl rfl (Nat.le_of_ble_eq_true rfl) dX8_draw_111 ⟨Nat.le_trans (Nat.le_of_eq (Nat.add_zero _)) hcz.1, Nat.le_trans (Nat.le_of_eq (Nat.add_zero _)) hcz.2⟩) (fun M_24 h => ?_)
    refine q_aload_n C dX8_draw_114 rfl (j := 1) rfl ?_
    refine q_getR (ci := 8) (k0 := 6) (T := TX8) C inX8_draw_X8 rfl (by decide) h.1 (by decide) rfl (by decide +kernel) rfl dX8_draw_115 ?_
    obtain ⟨a_25, z, h⟩ := h.2
    refine q_ref z ?_
    have hcz := h.1
    have h := h.2
    refine q_cv (q_runV (As := []) (st := []) C (c_X5_clear l D cA lo h.2) (cwV 0 C.2.2.2.2.1 gX8_draw_X5_clear rfl rfl rfl (by decide +kernel) ⟨Nat.le_of_ble_eq_true rfl, Nat.le_of_ble_eq_true rfl⟩) h.1 (by decide) rfl rfl rfl (Nat.le_of_ble_eq_true rfl) dX8_draw_118 ⟨Nat.le_trans (Nat.le_of_eq (Nat.add_zero _)) hcz.1, Nat.le_trans (Nat.le_of_eq (Nat.add_zero _)) hcz.2⟩) (fun M_27 h => ?_)
    refine q_iconst (v := 0) C dX8_draw_121 (by decide) ?_
    refine q_istore (lv' := [(8, .int 0), (7, .int r_21), (0, .ref a0), (1, .int i1), (2, .int i2), (3, .int i3), (4, .int i4), (5, .ref a5), (6, .int i6)]) C dX8_draw_122 (by decide) rfl ?_
    exact q_sub [2, 3, 4, 5, 6, 8, 1, 0] rfl h
set_option maxRecDepth 100000 in
set_option maxHeartbeats 4000000 in
theorem b_X8_draw_124 {p : Program} {l : Launch} {e : Env} {s : State} {m : MethodId} {args : Array Value} {below : List Frame} {meth : Method} {c : Code} {D : va_G} {cA : Nat → ClassId} {lo : Nat} (C : Cx p s m args c cX8_draw 9 RX8 wsX8_draw D cA lo) (hr : meth.sig.returnType = (some .int)) (hlk : meth.locks = false) (hl : l.stackTraces = false) (hex : ∀ x ∈ c.exceptionTable.toList, ∀ pc, covers x pc = false) {Q : Int32 → Mm → Prop} {Cc Zz : Nat} {X : String → Mm → Prop} (M : Mm) (a0 : Nat) (i1 : Int32) (i2 : Int32) (i3 : Int32) (i4 : Int32) (i6 : Int32) (i7 : Int32) (i8 : Int32) (cc zz : Nat) (h : S_X8_draw_124 (fun (a0 : Nat) (i1 : Int32) (i2 : Int32) (i3 : Int32) (i4 : Int32) (a5 : Nat) (is0 : Int32) (M : Mm) (cc zz : Nat) => QW p l e ({ frames := 7, cells := Cc, slots := Zz, locals := 115 } : Room) s m args below meth c (vx_MQ below (QiM D cA lo Q) (XcM D cA lo X) args s Cc Zz (fun q => lo ≤ q)) 9 D cA lo cc zz M 54 [(0, .ref a0), (1, .int i1), (2, .int i2), (3, .int i3), (4, .int i4), (5, .ref a5)] [.int is0]) (fun (a0 : Nat) (i1 : Int32) (i2 : Int32) (i3 : Int32) (i4 : Int32) (a5 : Nat) (i6 : Int32) (is0 : Int32) (M : Mm) (cc zz : Nat) => QW p l e ({ frames := 7, cells := Cc, slots := Zz, locals := 115 } : Room) s m args below meth c (vx_MQ below (QiM D cA lo Q) (XcM D cA lo X) args s Cc Zz (fun q => lo ≤ q)) 9 D cA lo cc zz M 93 [(0, .ref a0), (1, .int i1), (2, .int i2), (3, .int i3), (4, .int i4), (5, .ref a5), (6, .int i6)] [.int is0]) (fun (a0 : Nat) (i1 : Int32) (i2 : Int32) (i3 : Int32) (i4 : Int32) (i6 : Int32) (i7 : Int32) (i8 : Int32) (M : Mm) (cc zz : Nat) => QW p l e ({ frames := 7, cells := Cc, slots := Zz, locals := 115 } : Room) s m args below meth c (vx_MQ below (QiM D cA lo Q) (XcM D cA lo X) args s Cc Zz (fun q => lo ≤ q)) 9 D cA lo cc zz M 124 [(0, .ref a0), (1, .int i1), (2, .int i2), (3, .int i3), (4, .int i4), (6, .int i6), (7, .int i7), (8, .int i8)] []) Cc Zz Q X M a0 i1 i2 i3 i4 i6 i7 i8 cc zz) : QW p l e ({ frames := 7, cells := Cc, slots := Zz, locals := 115 } : Room) s m args below meth c (vx_MQ below (QiM D cA lo Q) (XcM D cA lo X) args s Cc Zz (fun q => lo ≤ q)) 9 D cA lo cc zz M 124 [(0, .ref a0), (1, .int i1), (2, .int i2), (3, .int i3), (4, .int i4), (6, .int i6), (7, .int i7), (8, .int i8)] [] := by
  unfold S_X8_draw_124 at h
  refine q_iload C dX8_draw_124 (j := 7) rfl ?_
  refine q_iload C dX8_draw_126 (j := 5) rfl ?_
  refine q_icmp_ge (tgt := 164) C dX8_draw_128 (by decide) (fun z => ?_) (fun z => ?_)
  · have h := h.1 z
    refine q_aload_n C dX8_draw_164 rfl (j := 0) rfl ?_
    refine q_getR (ci := 8) (k0 := 1) (T := TX8) C inX8_draw_X8 rfl (by decide) h.1 (by decide) rfl (by decide +kernel) rfl dX8_draw_165 ?_
    obtain ⟨a_28, z, h⟩ := h.2
    refine q_ref z ?_
    refine q_iload_n C dX8_draw_168 rfl (j := 1) rfl ?_
    refine q_aload_n C dX8_draw_169 rfl (j := 0) rfl ?_
    refine q_getR (ci := 8) (k0 := 6) (T := TX8) C inX8_draw_X8 rfl (by decide) h.1 (by decide) rfl (by decide +kernel) rfl dX8_draw_170 ?_
    obtain ⟨a_29, z, h⟩ := h.2
    refine q_ref z ?_
    have hcz := h.1
    have h := h.2
    refine q_cv (q_runV (As := [.int i1, .ref a_29]) (st := []) C (c_X1_reshape l D cA lo h.2) (cwV 2 C.2.2.2.2.1 gX8_draw_X1_reshape rfl rfl rfl (by decide +kernel) ⟨Nat.le_of_ble_eq_true rfl, Nat.le_of_ble_eq_true rfl⟩) h.1 (by decide) rfl rfl rfl (Nat.le_of_ble_eq_true rfl) dX8_draw_173 ⟨Nat.le_trans (Nat.le_of_eq (Nat.add_zero _)) hcz.1, Nat.le_trans (Nat.le_of_eq (Nat.add_zero _)) hcz.2⟩) (fun M_31 h => ?_)
    refine q_aload_n C dX8_draw_176 rfl (j := 0) rfl ?_
    refine q_aload_n C dX8_draw_177 rfl (j := 0) rfl ?_
    refine q_getR (ci := 8) (k0 := 7) (T := TX8) C inX8_draw_X8 rfl (by decide) h.1 (by decide) rfl (by decide +kernel) rfl dX8_draw_178 ?_
    obtain ⟨a_32, z, h⟩ := h.2
    refine q_ref z ?_
    refine q_iload C dX8_draw_181 (j := 6) rfl ?_
    have hcz := h.1
    have h := h.2
    refine q_cv (q_runV (As := [.ref a_32, .int i7]) (st := []) C (c_X8_addSides l D cA lo h.2) (cwV 2 C.2.2.2.2.1 gX8_draw_X8_addSides rfl rfl rfl (by decide +kernel) ⟨Nat.le_of_ble_eq_true rfl, Nat.le_of_ble_eq_true rfl⟩) h.1 (by decide) rfl rfl rfl (Nat.le_of_ble_eq_true rfl) dX8_draw_183 ⟨Nat.le_trans (Nat.le_of_eq (Nat.add_zero _)) hcz.1, Nat.le_trans (Nat.le_of_eq (Nat.add_zero _)) hcz.2⟩) (fun M_34 h => ?_)
    refine q_iload C dX8_draw_186 (j := 6) rfl ?_
    exact q_xret (q_iret C hr hlk dX8_draw_188 h.1 h.2.1 h.2.2)
  · have h := h.2 z
    refine q_aload_n C dX8_draw_131 rfl (j := 0) rfl ?_
    refine q_getR (ci := 8) (k0 := 6) (T := TX8) C inX8_draw_X8 rfl (by decide) h.1 (by decide) rfl (by decide +kernel) rfl dX8_draw_132 ?_
    obtain ⟨a_35, z, h⟩ := h.2
    refine q_ref z ?_
    refine q_aload_n C dX8_draw_135 rfl (j := 0) rfl ?_
    refine q_getR (ci := 8) (k0 := 0) (T := TX8) C inX8_draw_X8 rfl (by decide) h.1 (by decide) rfl (by decide +kernel) rfl dX8_draw_136 ?_
    obtain ⟨a_36, z, h⟩ := h.2
    refine q_ref z ?_
    refine q_aload_n C dX8_draw_139 rfl (j := 0) rfl ?_
    refine q_getR (ci := 8) (k0 := 7) (T := TX8) C inX8_draw_X8 rfl (by decide) h.1 (by decide) rfl (by decide +kernel) rfl dX8_draw_140 ?_
    obtain ⟨a_37, z, h⟩ := h.2
    refine q_ref z ?_
    refine q_iload C dX8_draw_143 (j := 7) rfl ?_
    have hcz := h.1
    have h := h.2
    refine q_ci (q_runV (As := [.int i8]) (st := [.ref a_36, .ref a_35]) C (c_X5_get l D cA lo h.2) (cwV 1 C.2.2.2.2.1 gX8_draw_X5_get rfl rfl rfl (by decide +kernel) ⟨Nat.le_of_ble_eq_true rfl, Nat.le_of_ble_eq_true rfl⟩) h.1 (by decide) rfl rfl rfl (Nat.le_of_ble_eq_true rfl) dX8_draw_145 ⟨Nat.le_trans (Nat.le_of_eq (Nat.add_zero _)) hcz.1, Nat.le_trans (Nat.le_of_eq (Nat.add_zero _)) hcz.2⟩) (fun r_38 M_z h => ?_)
    refine q_mem h.1 ?_
    have h := h.2
    refine q_iload_n C dX8_draw_148 rfl (j := 2) rfl ?_
    refine q_iload_n C dX8_draw_149 rfl (j := 3) rfl ?_
    refine q_iload C dX8_draw_150 (j := 4) rfl ?_
    have hcz := h.1
    have h := h.2
    refine q_ci (q_runV (As := [.int r_38, .int i2, .int i3, .int i4]) (st := [.ref a_35]) C (c_X3_addShifted l D cA lo h.2) (cwV 4 C.2.2.2.2.1 gX8_draw_X3_addShifted rfl rfl rfl (by decide +kernel) ⟨Nat.le_of_ble_eq_true rfl, Nat.le_of_ble_eq_true rfl⟩) h.1 (by decide) rfl rfl rfl (Nat.le_of_ble_eq_true rfl) dX8_draw_152 ⟨Nat.le_trans (Nat.le_of_eq (Nat.add_zero _)) hcz.1, Nat.le_trans (Nat.le_of_eq (Nat.add_zero _)) hcz.2⟩) (fun r_39 M_40 h => ?_)
    have hcz := h.1
    have h := h.2
    refine q_cv (q_runV (As := [.int r_39]) (st := []) C (c_X5_add l D cA lo h.2) (cwV 1 C.2.2.2.2.1 gX8_draw_X5_add rfl rfl rfl (by decide +kernel) ⟨Nat.le_of_ble_eq_true rfl, Nat.le_of_ble_eq_true rfl⟩) h.1 (by decide) rfl rfl rfl (Nat.le_of_ble_eq_true rfl) dX8_draw_155 ⟨Nat.le_trans (Nat.le_of_eq (Nat.add_zero _)) hcz.1, Nat.le_trans (Nat.le_of_eq (Nat.add_zero _)) hcz.2⟩) (fun M_42 h => ?_)
    refine q_iinc (v := (i8 + 1)) (lv' := [(8, .int (i8 + 1)), (0, .ref a0), (1, .int i1), (2, .int i2), (3, .int i3), (4, .int i4), (6, .int i6), (7, .int i7)]) C dX8_draw_158 (j := 7) rfl rfl (by decide) rfl ?_
    refine q_goto (tgt := 124) C dX8_draw_161 (by decide) ?_
    exact q_sub [1, 2, 3, 4, 5, 6, 7, 0] rfl h
set_option maxRecDepth 100000 in
set_option maxHeartbeats 4000000 in
theorem c_X8_draw (l : Launch) (hl : l.stackTraces = false) (D : va_G) (cA : Nat → ClassId) (lo : Nat) {M : Mm} {a0 : Nat} {i1 : Int32} {i2 : Int32} {i3 : Int32} {i4 : Int32} {Cc Zz : Nat} {Q : Int32 → Mm → Prop} {X : String → Mm → Prop} (h : T_X8_draw Cc Zz M a0 i1 i2 i3 i4 Q X) : vx_Met l yX8_draw wsX8_draw ({ frames := 7, cells := Cc, slots := Zz, locals := 115 } : Room) (PcM D cA lo [.ref a0, .int i1, .int i2, .int i3, .int i4] M) (QiM D cA lo Q) (XcM D cA lo X) Cc Zz (fun q => lo ≤ q) := by
  refine q_startX (cc := cX8_draw) (nL := 9) (ret := (some .int)) (by decide) rfl rfl (Nat.le_of_ble_eq_true rfl) ?_
  intro p e s m args below meth c C hr hlk hin hex
  unfold T_X8_draw at h
  have h := h (fun (a0 : Nat) (i1 : Int32) (i2 : Int32) (i3 : Int32) (i4 : Int32) (a5 : Nat) (is0 : Int32) (M : Mm) (cc zz : Nat) => QW p l e ({ frames := 7, cells := Cc, slots := Zz, locals := 115 } : Room) s m args below meth c (vx_MQ below (QiM D cA lo Q) (XcM D cA lo X) args s Cc Zz (fun q => lo ≤ q)) 9 D cA lo cc zz M 54 [(0, .ref a0), (1, .int i1), (2, .int i2), (3, .int i3), (4, .int i4), (5, .ref a5)] [.int is0]) (fun (a0 : Nat) (i1 : Int32) (i2 : Int32) (i3 : Int32) (i4 : Int32) (a5 : Nat) (i6 : Int32) (is0 : Int32) (M : Mm) (cc zz : Nat) => QW p l e ({ frames := 7, cells := Cc, slots := Zz, locals := 115 } : Room) s m args below meth c (vx_MQ below (QiM D cA lo Q) (XcM D cA lo X) args s Cc Zz (fun q => lo ≤ q)) 9 D cA lo cc zz M 93 [(0, .ref a0), (1, .int i1), (2, .int i2), (3, .int i3), (4, .int i4), (5, .ref a5), (6, .int i6)] [.int is0]) (fun (a0 : Nat) (i1 : Int32) (i2 : Int32) (i3 : Int32) (i4 : Int32) (i6 : Int32) (i7 : Int32) (i8 : Int32) (M : Mm) (cc zz : Nat) => QW p l e ({ frames := 7, cells := Cc, slots := Zz, locals := 115 } : Room) s m args below meth c (vx_MQ below (QiM D cA lo Q) (XcM D cA lo X) args s Cc Zz (fun q => lo ≤ q)) 9 D cA lo cc zz M 124 [(0, .ref a0), (1, .int i1), (2, .int i2), (3, .int i3), (4, .int i4), (6, .int i6), (7, .int i7), (8, .int i8)] []) (fun a0 i1 i2 i3 i4 a5 is0 M cc zz h => b_X8_draw_54 C hr hlk hl hex M a0 i1 i2 i3 i4 a5 is0 cc zz h) (fun a0 i1 i2 i3 i4 a5 i6 is0 M cc zz h => b_X8_draw_93 C hr hlk hl hex M a0 i1 i2 i3 i4 a5 i6 is0 cc zz h) (fun a0 i1 i2 i3 i4 i6 i7 i8 M cc zz h => b_X8_draw_124 C hr hlk hl hex M a0 i1 i2 i3 i4 i6 i7 i8 cc zz h)
  refine q_aload_n C dX8_draw_0 rfl (j := 0) rfl ?_
  refine q_iload_n C dX8_draw_1 rfl (j := 1) rfl ?_
  obtain ⟨dc_3, ds_3, hcz, h⟩ := h
  refine q_xv (qx_runV (As := [.int i1]) (st := []) C (c_X8_needFace l hl D cA lo h.2) (cwV 1 C.2.2.2.2.1 gX8_draw_X8_needFace rfl rfl rfl (by decide +kernel) ⟨Nat.le_of_ble_eq_true rfl, Nat.le_of_ble_eq_true rfl⟩) h.1 (by decide) rfl rfl rfl (Nat.le_of_ble_eq_true rfl) dX8_draw_2 hcz) (fun E M_x h => ?_) (fun M_2 h => ?_)
  · exact q_xout (fun x hx => hex x hx _) hlk hcz.1 hcz.2 h
  · refine q_aload_n C dX8_draw_5 rfl (j := 0) rfl ?_
    refine q_getR (ci := 8) (k0 := 1) (T := TX8) C inX8_draw_X8 rfl (by decide) h.1 (by decide) rfl (by decide +kernel) rfl dX8_draw_6 ?_
    obtain ⟨a_4, z, h⟩ := h.2
    refine q_ref z ?_
    refine q_iload_n C dX8_draw_9 rfl (j := 1) rfl ?_
    have hcz := h.1
    have h := h.2
    refine q_cr (q_runV (As := [.int i1]) (st := []) C (c_X1_ring l D cA lo h.2) (cwV 1 C.2.2.2.2.1 gX8_draw_X1_ring rfl rfl rfl (by decide +kernel) ⟨Nat.le_of_ble_eq_true rfl, Nat.le_of_ble_eq_true rfl⟩) h.1 (by decide) rfl rfl rfl (Nat.le_of_ble_eq_true rfl) dX8_draw_10 ⟨Nat.le_trans (Nat.le_of_eq (Nat.add_zero _)) hcz.1, Nat.le_trans (Nat.le_of_eq (Nat.add_zero _)) hcz.2⟩) (fun r_5 M_z h => ?_)
    refine q_mem h.1 ?_
    have h := h.2
    refine q_astore (lv' := [(5, .ref r_5), (0, .ref a0), (1, .int i1), (2, .int i2), (3, .int i3), (4, .int i4)]) C dX8_draw_13 (by decide) rfl ?_
    refine q_aload_n C dX8_draw_15 rfl (j := 1) rfl ?_
    refine q_aload C dX8_draw_16 (j := 0) rfl ?_
    refine q_iconst (v := 0) C dX8_draw_18 (by decide) ?_
    refine q_iload_n C dX8_draw_19 rfl (j := 3) rfl ?_
    have hcz := h.1
    have h := h.2
    refine q_ci (q_runV (As := [.ref r_5, .int 0, .int i2]) (st := []) C (c_X8_canShift l D cA lo h.2) (cwV 3 C.2.2.2.2.1 gX8_draw_X8_canShift rfl rfl rfl (by decide +kernel) ⟨Nat.le_of_ble_eq_true rfl, Nat.le_of_ble_eq_true rfl⟩) h.1 (by decide) rfl rfl rfl (Nat.le_of_ble_eq_true rfl) dX8_draw_20 ⟨Nat.le_trans (Nat.le_of_eq (Nat.add_zero _)) hcz.1, Nat.le_trans (Nat.le_of_eq (Nat.add_zero _)) hcz.2⟩) (fun r_6 M_z h => ?_)
    refine q_mem h.1 ?_
    have h := h.2
    refine q_if_eq (tgt := 53) C dX8_draw_23 (by decide) (fun z => ?_) (fun z => ?_)
    · have h := h.1 z
      refine q_iconst (v := 0) C dX8_draw_53 (by decide) ?_
      exact q_sub [1, 2, 3, 4, 5, 0] rfl h
    · have h := h.2 z
      refine q_aload_n C dX8_draw_26 rfl (j := 1) rfl ?_
      refine q_aload C dX8_draw_27 (j := 0) rfl ?_
      refine q_iconst (v := 1) C dX8_draw_29 (by decide) ?_
      refine q_iload_n C dX8_draw_30 rfl (j := 4) rfl ?_
      have hcz := h.1
      have h := h.2
      refine q_ci (q_runV (As := [.ref r_5, .int 1, .int i3]) (st := []) C (c_X8_canShift l D cA lo h.2) (cwV 3 C.2.2.2.2.1 gX8_draw_X8_canShift rfl rfl rfl (by decide +kernel) ⟨Nat.le_of_ble_eq_true rfl, Nat.le_of_ble_eq_true rfl⟩) h.1 (by decide) rfl rfl rfl (Nat.le_of_ble_eq_true rfl) dX8_draw_31 ⟨Nat.le_trans (Nat.le_of_eq (Nat.add_zero _)) hcz.1, Nat.le_trans (Nat.le_of_eq (Nat.add_zero _)) hcz.2⟩) (fun r_7 M_z h => ?_)
      refine q_mem h.1 ?_
      have h := h.2
      refine q_if_eq (tgt := 53) C dX8_draw_34 (by decide) (fun z => ?_) (fun z => ?_)
      · have h := h.1 z
        refine q_iconst (v := 0) C dX8_draw_53 (by decide) ?_
        exact q_sub [1, 2, 3, 4, 5, 0] rfl h
      · have h := h.2 z
        refine q_aload_n C dX8_draw_37 rfl (j := 1) rfl ?_
        refine q_aload C dX8_draw_38 (j := 0) rfl ?_
        refine q_iconst (v := 2) C dX8_draw_40 (by decide) ?_
        refine q_iload C dX8_draw_41 (j := 5) rfl ?_
        have hcz := h.1
        have h := h.2
        refine q_ci (q_runV (As := [.ref r_5, .int 2, .int i4]) (st := []) C (c_X8_canShift l D cA lo h.2) (cwV 3 C.2.2.2.2.1 gX8_draw_X8_canShift rfl rfl rfl (by decide +kernel) ⟨Nat.le_of_ble_eq_true rfl, Nat.le_of_ble_eq_true rfl⟩) h.1 (by decide) rfl rfl rfl (Nat.le_of_ble_eq_true rfl) dX8_draw_43 ⟨Nat.le_trans (Nat.le_of_eq (Nat.add_zero _)) hcz.1, Nat.le_trans (Nat.le_of_eq (Nat.add_zero _)) hcz.2⟩) (fun r_8 M_z h => ?_)
        refine q_mem h.1 ?_
        have h := h.2
        refine q_if_eq (tgt := 53) C dX8_draw_46 (by decide) (fun z => ?_) (fun z => ?_)
        · have h := h.1 z
          refine q_iconst (v := 0) C dX8_draw_53 (by decide) ?_
          exact q_sub [1, 2, 3, 4, 5, 0] rfl h
        · have h := h.2 z
          refine q_iconst (v := 1) C dX8_draw_49 (by decide) ?_
          refine q_goto (tgt := 54) C dX8_draw_50 (by decide) ?_
          exact q_sub [1, 2, 3, 4, 5, 0] rfl h
def S_X8_readHole_16 (K16 : Nat → Int32 → Int32 → Int32 → Int32 → Mm → Prop) (Q : Mm → Prop) (M : Mm) (a0 : Nat) (i3 : Int32) (i4 : Int32) (i5 : Int32) (i6 : Int32) : Prop := (i3 ≤ i6 → Q M) ∧ (¬ i3 ≤ i6 → kM M a0 = (8, 8) ∧ ∃ a_4 : Nat, rM M a0 6 = some a_4 ∧ kM M a_4 = (5, 2) ∧ T_X5_add M a_4 i4 (fun M_6 => kM M_6 a0 = (8, 8) ∧ ∃ a_7 : Nat, rM M_6 a0 1 = some a_7 ∧ kM M_6 a_7 = (1, 5) ∧ T_X1_nextOpen M_6 a_7 i4 i5 (fun r_8 => K16 a0 i3 i5 r_8 (i6 + 1) M_6)))
def T_X8_readHole (M : Mm) (a0 : Nat) (i1 : Int32) (i2 : Int32) (i3 : Int32) (Q : Mm → Prop) : Prop := ∀ (K16 : Nat → Int32 → Int32 → Int32 → Int32 → Mm → Prop), (∀ (a0 : Nat) (i3 : Int32) (i4 : Int32) (i5 : Int32) (i6 : Int32) (M : Mm), S_X8_readHole_16 K16 Q M a0 i3 i4 i5 i6 → K16 a0 i3 i4 i5 i6 M) → kM M a0 = (8, 8) ∧ ∃ a_1 : Nat, rM M a0 6 = some a_1 ∧ kM M a_1 = (5, 2) ∧ T_X5_clear M a_1 (fun M_3 => K16 a0 i3 i1 i2 0 M_3)
theorem inX8_readHole_X8 : ∀ w ∈ wsX80, w ∈ wsX8_readHole := by decide +kernel
set_option maxRecDepth 100000 in
set_option maxHeartbeats 4000000 in
theorem b_X8_readHole_16 {p : Program} {l : Launch} {e : Env} {s : State} {m : MethodId} {args : Array Value} {below : List Frame} {meth : Method} {c : Code} {D : va_G} {cA : Nat → ClassId} {lo : Nat} (C : Cx p s m args c cX8_readHole 8 RX8 wsX8_readHole D cA lo) (hr : meth.sig.returnType = none) (hlk : meth.locks = false) {Q : Mm → Prop} (M : Mm) (a0 : Nat) (i3 : Int32) (i4 : Int32) (i5 : Int32) (i6 : Int32) (h : S_X8_readHole_16 (fun (a0 : Nat) (i3 : Int32) (i4 : Int32) (i5 : Int32) (i6 : Int32) (M : Mm) => QW p l e ({ frames := 3, cells := 0, slots := 0, locals := 70 } : Room) s m args below meth c (MQ below (QvM D cA lo Q) args s 0 0 (fun q => lo ≤ q)) 8 D cA lo 0 0 M 16 [(0, .ref a0), (3, .int i3), (4, .int i4), (5, .int i5), (6, .int i6)] []) Q M a0 i3 i4 i5 i6) : QW p l e ({ frames := 3, cells := 0, slots := 0, locals := 70 } : Room) s m args below meth c (MQ below (QvM D cA lo Q) args s 0 0 (fun q => lo ≤ q)) 8 D cA lo 0 0 M 16 [(0, .ref a0), (3, .int i3), (4, .int i4), (5, .int i5), (6, .int i6)] [] := by
  unfold S_X8_readHole_16 at h
  refine q_iload C dX8_readHole_16 (j := 4) rfl ?_
  refine q_iload_n C dX8_readHole_18 rfl (j := 1) rfl ?_
  refine q_icmp_ge (tgt := 58) C dX8_readHole_19 (by decide) (fun z => ?_) (fun z => ?_)
  · have h := h.1 z
    exact q_vret C hr hlk dX8_readHole_58 (Nat.le_of_ble_eq_true rfl) (Nat.le_of_ble_eq_true rfl) h
  · have h := h.2 z
    refine q_aload_n C dX8_readHole_22 rfl (j := 0) rfl ?_
    refine q_getR (ci := 8) (k0 := 6) (T := TX8) C inX8_readHole_X8 rfl (by decide) h.1 (by decide) rfl (by decide +kernel) rfl dX8_readHole_23 ?_
    obtain ⟨a_4, z, h⟩ := h.2
    refine q_ref z ?_
    refine q_iload C dX8_readHole_26 (j := 2) rfl ?_
    refine q_cv (q_runV (As := [.int i4]) (st := []) C (c_X5_add l D cA lo h.2) (cwV 1 C.2.2.2.2.1 gX8_readHole_X5_add rfl rfl rfl (by decide +kernel) ⟨Nat.le_of_ble_eq_true rfl, Nat.le_of_ble_eq_true rfl⟩) h.1 (by decide) rfl rfl rfl (Nat.le_of_ble_eq_true rfl) dX8_readHole_28 ⟨Nat.le_of_ble_eq_true rfl, Nat.le_of_ble_eq_true rfl⟩) (fun M_6 h => ?_)
    refine q_aload_n C dX8_readHole_31 rfl (j := 0) rfl ?_
    refine q_getR (ci := 8) (k0 := 1) (T := TX8) C inX8_readHole_X8 rfl (by decide) h.1 (by decide) rfl (by decide +kernel) rfl dX8_readHole_32 ?_
    obtain ⟨a_7, z, h⟩ := h.2
    refine q_ref z ?_
    refine q_iload C dX8_readHole_35 (j := 2) rfl ?_
    refine q_iload C dX8_readHole_37 (j := 3) rfl ?_
    refine q_ci (q_runV (As := [.int i4, .int i5]) (st := []) C (c_X1_nextOpen l D cA lo h.2) (cwV 2 C.2.2.2.2.1 gX8_readHole_X1_nextOpen rfl rfl rfl (by decide +kernel) ⟨Nat.le_of_ble_eq_true rfl, Nat.le_of_ble_eq_true rfl⟩) h.1 (by decide) rfl rfl rfl (Nat.le_of_ble_eq_true rfl) dX8_readHole_39 ⟨Nat.le_of_ble_eq_true rfl, Nat.le_of_ble_eq_true rfl⟩) (fun r_8 M_z h => ?_)
    refine q_mem h.1 ?_
    have h := h.2
    refine q_istore (lv' := [(7, .int r_8), (0, .ref a0), (3, .int i3), (4, .int i4), (5, .int i5), (6, .int i6)]) C dX8_readHole_42 (by decide) rfl ?_
    refine q_iload C dX8_readHole_44 (j := 4) rfl ?_
    refine q_istore (lv' := [(4, .int i5), (7, .int r_8), (0, .ref a0), (3, .int i3), (5, .int i5), (6, .int i6)]) C dX8_readHole_46 (by decide) rfl ?_
    refine q_iload C dX8_readHole_48 (j := 1) rfl ?_
    refine q_istore (lv' := [(5, .int r_8), (4, .int i5), (7, .int r_8), (0, .ref a0), (3, .int i3), (6, .int i6)]) C dX8_readHole_50 (by decide) rfl ?_
    refine q_iinc (v := (i6 + 1)) (lv' := [(6, .int (i6 + 1)), (5, .int r_8), (4, .int i5), (7, .int r_8), (0, .ref a0), (3, .int i3)]) C dX8_readHole_52 (j := 5) rfl rfl (by decide) rfl ?_
    refine q_goto (tgt := 16) C dX8_readHole_55 (by decide) ?_
    exact q_sub [4, 5, 2, 1, 0] rfl h
set_option maxRecDepth 100000 in
set_option maxHeartbeats 4000000 in
theorem c_X8_readHole (l : Launch) (D : va_G) (cA : Nat → ClassId) (lo : Nat) {M : Mm} {a0 : Nat} {i1 : Int32} {i2 : Int32} {i3 : Int32} {Q : Mm → Prop} (h : T_X8_readHole M a0 i1 i2 i3 Q) : Met l yX8_readHole wsX8_readHole ({ frames := 3, cells := 0, slots := 0, locals := 70 } : Room) (PcM D cA lo [.ref a0, .int i1, .int i2, .int i3] M) (QvM D cA lo Q) 0 0 (fun q => lo ≤ q) := by
  refine q_start (cc := cX8_readHole) (nL := 8) (ret := none) (by decide) rfl rfl (Nat.le_of_ble_eq_true rfl) ?_
  intro p e s m args below meth c C hr hlk hin
  unfold T_X8_readHole at h
  have h := h (fun (a0 : Nat) (i3 : Int32) (i4 : Int32) (i5 : Int32) (i6 : Int32) (M : Mm) => QW p l e ({ frames := 3, cells := 0, slots := 0, locals := 70 } : Room) s m args below meth c (MQ below (QvM D cA lo Q) args s 0 0 (fun q => lo ≤ q)) 8 D cA lo 0 0 M 16 [(0, .ref a0), (3, .int i3), (4, .int i4), (5, .int i5), (6, .int i6)] []) (fun a0 i3 i4 i5 i6 M h => b_X8_readHole_16 C hr hlk M a0 i3 i4 i5 i6 h)
  refine q_aload_n C dX8_readHole_0 rfl (j := 0) rfl ?_
  refine q_getR (ci := 8) (k0 := 6) (T := TX8) C inX8_readHole_X8 rfl (by decide) h.1 (by decide) rfl (by decide +kernel) rfl dX8_readHole_1 ?_
  obtain ⟨a_1, z, h⟩ := h.2
  refine q_ref z ?_
  refine q_cv (q_runV (As := []) (st := []) C (c_X5_clear l D cA lo h.2) (cwV 0 C.2.2.2.2.1 gX8_readHole_X5_clear rfl rfl rfl (by decide +kernel) ⟨Nat.le_of_ble_eq_true rfl, Nat.le_of_ble_eq_true rfl⟩) h.1 (by decide) rfl rfl rfl (Nat.le_of_ble_eq_true rfl) dX8_readHole_4 ⟨Nat.le_of_ble_eq_true rfl, Nat.le_of_ble_eq_true rfl⟩) (fun M_3 h => ?_)
  refine q_iload_n C dX8_readHole_7 rfl (j := 1) rfl ?_
  refine q_istore (lv' := [(4, .int i1), (0, .ref a0), (1, .int i1), (2, .int i2), (3, .int i3)]) C dX8_readHole_8 (by decide) rfl ?_
  refine q_iload_n C dX8_readHole_10 rfl (j := 3) rfl ?_
  refine q_istore (lv' := [(5, .int i2), (4, .int i1), (0, .ref a0), (1, .int i1), (2, .int i2), (3, .int i3)]) C dX8_readHole_11 (by decide) rfl ?_
  refine q_iconst (v := 0) C dX8_readHole_13 (by decide) ?_
  refine q_istore (lv' := [(6, .int 0), (5, .int i2), (4, .int i1), (0, .ref a0), (1, .int i1), (2, .int i2), (3, .int i3)]) C dX8_readHole_14 (by decide) rfl ?_
  exact q_sub [3, 6, 2, 1, 0] rfl h
def S_X8_fill_55 (K55 : Nat → Int32 → Int32 → Int32 → Int32 → Mm → Nat → Nat → Prop) (K80 : Nat → Int32 → Mm → Nat → Nat → Prop) (Cc Zz : Nat) (Q : Int32 → Mm → Prop) (X : String → Mm → Prop) (M : Mm) (a0 : Nat) (i1 : Int32) (i2 : Int32) (i3 : Int32) (is0 : Int32) (cc zz : Nat) : Prop := ∃ dc_16 ds_16 : Nat, (cc + dc_16 ≤ Cc ∧ zz + ds_16 ≤ Zz) ∧ T_X8_needState dc_16 ds_16 M is0 (fun M_15 => ((cc + dc_16) ≤ Cc ∧ (zz + ds_16) ≤ Zz) ∧ kM M_15 a0 = (8, 8) ∧ T_X8_readHole M_15 a0 i1 i2 i3 (fun M_18 => kM M_18 a0 = (8, 8) ∧ ∃ a_19 : Nat, rM M_18 a0 6 = some a_19 ∧ ((cc + dc_16) ≤ Cc ∧ (zz + ds_16) ≤ Zz) ∧ kM M_18 a_19 = (5, 2) ∧ T_X5_hasTwice M_18 a_19 (fun r_20 => (¬ r_20 = 0 → K80 a0 0 M_18 (cc + dc_16) (zz + ds_16)) ∧ (r_20 = 0 → K80 a0 1 M_18 (cc + dc_16) (zz + ds_16))))) X
def S_X8_fill_80 (K55 : Nat → Int32 → Int32 → Int32 → Int32 → Mm → Nat → Nat → Prop) (K80 : Nat → Int32 → Mm → Nat → Nat → Prop) (Cc Zz : Nat) (Q : Int32 → Mm → Prop) (X : String → Mm → Prop) (M : Mm) (a0 : Nat) (is0 : Int32) (cc zz : Nat) : Prop := ∃ dc_23 ds_23 : Nat, (cc + dc_23 ≤ Cc ∧ zz + ds_23 ≤ Zz) ∧ T_X8_needState dc_23 ds_23 M is0 (fun M_22 => kM M_22 a0 = (8, 8) ∧ ∃ a_24 : Nat, rM M_22 a0 1 = some a_24 ∧ kM M_22 a0 = (8, 8) ∧ ∃ a_25 : Nat, rM M_22 a0 6 = some a_25 ∧ ((cc + dc_23) ≤ Cc ∧ (zz + ds_23) ≤ Zz) ∧ kM M_22 a_24 = (1, 5) ∧ T_X1_add M_22 a_24 a_25 (fun r_26 M_27 => (cc + dc_23) ≤ Cc ∧ (zz + ds_23) ≤ Zz ∧ Q r_26 M_27)) X
def T_X8_fill (Cc Zz : Nat) (M : Mm) (a0 : Nat) (i1 : Int32) (i2 : Int32) (Q : Int32 → Mm → Prop) (X : String → Mm → Prop) : Prop := ∀ (K55 : Nat → Int32 → Int32 → Int32 → Int32 → Mm → Nat → Nat → Prop) (K80 : Nat → Int32 → Mm → Nat → Nat → Prop), (∀ (a0 : Nat) (i1 : Int32) (i2 : Int32) (i3 : Int32) (is0 : Int32) (M : Mm) (cc zz : Nat), S_X8_fill_55 K55 K80 Cc Zz Q X M a0 i1 i2 i3 is0 cc zz → K55 a0 i1 i2 i3 is0 M cc zz) → (∀ (a0 : Nat) (is0 : Int32) (M : Mm) (cc zz : Nat), S_X8_fill_80 K55 K80 Cc Zz Q X M a0 is0 cc zz → K80 a0 is0 M cc zz) → ∃ dc_3 ds_3 : Nat, (0 + dc_3 ≤ Cc ∧ 0 + ds_3 ≤ Zz) ∧ kM M a0 = (8, 8) ∧ T_X8_needPoints dc_3 ds_3 M a0 i1 i2 (fun M_2 => kM M_2 a0 = (8, 8) ∧ ∃ a_4 : Nat, rM M_2 a0 1 = some a_4 ∧ ((0 + dc_3) ≤ Cc ∧ (0 + ds_3) ≤ Zz) ∧ kM M_2 a_4 = (1, 5) ∧ T_X1_isOpen M_2 a_4 i1 i2 (fun r_5 => ∃ dc_8 ds_8 : Nat, ((0 + dc_3) + dc_8 ≤ Cc ∧ (0 + ds_3) + ds_8 ≤ Zz) ∧ T_X8_needArgument dc_8 ds_8 M_2 r_5 (fun M_7 => kM M_7 a0 = (8, 8) ∧ ∃ a_9 : Nat, rM M_7 a0 2 = some a_9 ∧ (((0 + dc_3) + dc_8) ≤ Cc ∧ ((0 + ds_3) + ds_8) ≤ Zz) ∧ kM M_7 a_9 = (7, 6) ∧ T_X7_holeLength M_7 a_9 i1 i2 (fun r_10 M_11 => kM M_11 a0 = (8, 8) ∧ ∃ a_12 : Nat, rM M_11 a0 1 = some a_12 ∧ (((0 + dc_3) + dc_8) ≤ Cc ∧ ((0 + ds_3) + ds_8) ≤ Zz) ∧ kM M_11 a_12 = (1, 5) ∧ T_X1_hasRoom M_11 a_12 1 (fun r_13 => (r_13 = 0 → K55 a0 i1 i2 r_10 0 M_11 ((0 + dc_3) + dc_8) ((0 + ds_3) + ds_8)) ∧ (¬ r_13 = 0 → (r_10 < 3 → K55 a0 i1 i2 r_10 0 M_11 ((0 + dc_3) + dc_8) ((0 + ds_3) + ds_8)) ∧ (¬ r_10 < 3 → (12 < r_10 → K55 a0 i1 i2 r_10 0 M_11 ((0 + dc_3) + dc_8) ((0 + ds_3) + ds_8)) ∧ (¬ 12 < r_10 → K55 a0 i1 i2 r_10 1 M_11 ((0 + dc_3) + dc_8) ((0 + ds_3) + ds_8))))))) X)) X
theorem inX8_fill_X8 : ∀ w ∈ wsX80, w ∈ wsX8_fill := by decide +kernel
set_option maxRecDepth 100000 in
set_option maxHeartbeats 4000000 in
theorem b_X8_fill_55 {p : Program} {l : Launch} {e : Env} {s : State} {m : MethodId} {args : Array Value} {below : List Frame} {meth : Method} {c : Code} {D : va_G} {cA : Nat → ClassId} {lo : Nat} (C : Cx p s m args c cX8_fill 4 RX8 wsX8_fill D cA lo) (hr : meth.sig.returnType = (some .int)) (hlk : meth.locks = false) (hl : l.stackTraces = false) (hex : ∀ x ∈ c.exceptionTable.toList, ∀ pc, covers x pc = false) {Q : Int32 → Mm → Prop} {Cc Zz : Nat} {X : String → Mm → Prop} (M : Mm) (a0 : Nat) (i1 : Int32) (i2 : Int32) (i3 : Int32) (is0 : Int32) (cc zz : Nat) (h : S_X8_fill_55 (fun (a0 : Nat) (i1 : Int32) (i2 : Int32) (i3 : Int32) (is0 : Int32) (M : Mm) (cc zz : Nat) => QW p l e ({ frames := 8, cells := Cc, slots := Zz, locals := 133 } : Room) s m args below meth c (vx_MQ below (QiM D cA lo Q) (XcM D cA lo X) args s Cc Zz (fun q => lo ≤ q)) 4 D cA lo cc zz M 55 [(0, .ref a0), (1, .int i1), (2, .int i2), (3, .int i3)] [.int is0]) (fun (a0 : Nat) (is0 : Int32) (M : Mm) (cc zz : Nat) => QW p l e ({ frames := 8, cells := Cc, slots := Zz, locals := 133 } : Room) s m args below meth c (vx_MQ below (QiM D cA lo Q) (XcM D cA lo X) args s Cc Zz (fun q => lo ≤ q)) 4 D cA lo cc zz M 80 [(0, .ref a0)] [.int is0]) Cc Zz Q X M a0 i1 i2 i3 is0 cc zz) : QW p l e ({ frames := 8, cells := Cc, slots := Zz, locals := 133 } : Room) s m args below meth c (vx_MQ below (QiM D cA lo Q) (XcM D cA lo X) args s Cc Zz (fun q => lo ≤ q)) 4 D cA lo cc zz M 55 [(0, .ref a0), (1, .int i1), (2, .int i2), (3, .int i3)] [.int is0] := by
  unfold S_X8_fill_55 at h
  obtain ⟨dc_16, ds_16, hcz, h⟩ := h
  refine q_xv (qx_runS (As := [.int is0]) (st := []) C (c_X8_needState l hl D cA lo h) (va_cwS 1 C.2.2.2.2.1 gX8_fill_X8_needState rfl rfl rfl (by decide +kernel) ⟨Nat.le_of_ble_eq_true rfl, Nat.le_of_ble_eq_true rfl⟩) rfl rfl (Nat.le_of_ble_eq_true rfl) dX8_fill_55 hcz) (fun E M_x h => ?_) (fun M_15 h => ?_)
  · exact q_xout (fun x hx => hex x hx _) hlk hcz.1 hcz.2 h
  · refine q_aload_n C dX8_fill_58 rfl (j := 0) rfl ?_
    refine q_iload_n C dX8_fill_59 rfl (j := 1) rfl ?_
    refine q_iload_n C dX8_fill_60 rfl (j := 2) rfl ?_
    refine q_iload_n C dX8_fill_61 rfl (j := 3) rfl ?_
    have hcz := h.1
    have h := h.2
    refine q_cv (q_runV (As := [.int i1, .int i2, .int i3]) (st := []) C (c_X8_readHole l D cA lo h.2) (cwV 3 C.2.2.2.2.1 gX8_fill_X8_readHole rfl rfl rfl (by decide +kernel) ⟨Nat.le_of_ble_eq_true rfl, Nat.le_of_ble_eq_true rfl⟩) h.1 (by decide) rfl rfl rfl (Nat.le_of_ble_eq_true rfl) dX8_fill_62 ⟨Nat.le_trans (Nat.le_of_eq (Nat.add_zero _)) hcz.1, Nat.le_trans (Nat.le_of_eq (Nat.add_zero _)) hcz.2⟩) (fun M_18 h => ?_)
    refine q_aload_n C dX8_fill_65 rfl (j := 0) rfl ?_
    refine q_getR (ci := 8) (k0 := 6) (T := TX8) C inX8_fill_X8 rfl (by decide) h.1 (by decide) rfl (by decide +kernel) rfl dX8_fill_66 ?_
    obtain ⟨a_19, z, h⟩ := h.2
    refine q_ref z ?_
    have hcz := h.1
    have h := h.2
    refine q_ci (q_runV (As := []) (st := []) C (c_X5_hasTwice l D cA lo h.2) (cwV 0 C.2.2.2.2.1 gX8_fill_X5_hasTwice rfl rfl rfl (by decide +kernel) ⟨Nat.le_of_ble_eq_true rfl, Nat.le_of_ble_eq_true rfl⟩) h.1 (by decide) rfl rfl rfl (Nat.le_of_ble_eq_true rfl) dX8_fill_69 ⟨Nat.le_trans (Nat.le_of_eq (Nat.add_zero _)) hcz.1, Nat.le_trans (Nat.le_of_eq (Nat.add_zero _)) hcz.2⟩) (fun r_20 M_z h => ?_)
    refine q_mem h.1 ?_
    have h := h.2
    refine q_if_ne (tgt := 79) C dX8_fill_72 (by decide) (fun z => ?_) (fun z => ?_)
    · have h := h.1 z
      refine q_iconst (v := 0) C dX8_fill_79 (by decide) ?_
      exact q_sub [0] rfl h
    · have h := h.2 z
      refine q_iconst (v := 1) C dX8_fill_75 (by decide) ?_
      refine q_goto (tgt := 80) C dX8_fill_76 (by decide) ?_
      exact q_sub [0] rfl h
set_option maxRecDepth 100000 in
set_option maxHeartbeats 4000000 in
theorem b_X8_fill_80 {p : Program} {l : Launch} {e : Env} {s : State} {m : MethodId} {args : Array Value} {below : List Frame} {meth : Method} {c : Code} {D : va_G} {cA : Nat → ClassId} {lo : Nat} (C : Cx p s m args c cX8_fill 4 RX8 wsX8_fill D cA lo) (hr : meth.sig.returnType = (some .int)) (hlk : meth.locks = false) (hl : l.stackTraces = false) (hex : ∀ x ∈ c.exceptionTable.toList, ∀ pc, covers x pc = false) {Q : Int32 → Mm → Prop} {Cc Zz : Nat} {X : String → Mm → Prop} (M : Mm) (a0 : Nat) (is0 : Int32) (cc zz : Nat) (h : S_X8_fill_80 (fun (a0 : Nat) (i1 : Int32) (i2 : Int32) (i3 : Int32) (is0 : Int32) (M : Mm) (cc zz : Nat) => QW p l e ({ frames := 8, cells := Cc, slots := Zz, locals := 133 } : Room) s m args below meth c (vx_MQ below (QiM D cA lo Q) (XcM D cA lo X) args s Cc Zz (fun q => lo ≤ q)) 4 D cA lo cc zz M 55 [(0, .ref a0), (1, .int i1), (2, .int i2), (3, .int i3)] [.int is0]) (fun (a0 : Nat) (is0 : Int32) (M : Mm) (cc zz : Nat) => QW p l e ({ frames := 8, cells := Cc, slots := Zz, locals := 133 } : Room) s m args below meth c (vx_MQ below (QiM D cA lo Q) (XcM D cA lo X) args s Cc Zz (fun q => lo ≤ q)) 4 D cA lo cc zz M 80 [(0, .ref a0)] [.int is0]) Cc Zz Q X M a0 is0 cc zz) : QW p l e ({ frames := 8, cells := Cc, slots := Zz, locals := 133 } : Room) s m args below meth c (vx_MQ below (QiM D cA lo Q) (XcM D cA lo X) args s Cc Zz (fun q => lo ≤ q)) 4 D cA lo cc zz M 80 [(0, .ref a0)] [.int is0] := by
  unfold S_X8_fill_80 at h
  obtain ⟨dc_23, ds_23, hcz, h⟩ := h
  refine q_xv (qx_runS (As := [.int is0]) (st := []) C (c_X8_needState l hl D cA lo h) (va_cwS 1 C.2.2.2.2.1 gX8_fill_X8_needState rfl rfl rfl (by decide +kernel) ⟨Nat.le_of_ble_eq_true rfl, Nat.le_of_ble_eq_true rfl⟩) rfl rfl (Nat.le_of_ble_eq_true rfl) dX8_fill_80 hcz) (fun E M_x h => ?_) (fun M_22 h => ?_)
  · exact q_xout (fun x hx => hex x hx _) hlk hcz.1 hcz.2 h
  · refine q_aload_n C dX8_fill_83 rfl (j := 0) rfl ?_
    refine q_getR (ci := 8) (k0 := 1) (T := TX8) C inX8_fill_X8 rfl (by decide) h.1 (by decide) rfl (by decide +kernel) rfl dX8_fill_84 ?_
    obtain ⟨a_24, z, h⟩ := h.2
    refine q_ref z ?_
    refine q_aload_n C dX8_fill_87 rfl (j := 0) rfl ?_
    refine q_getR (ci := 8) (k0 := 6) (T := TX8) C inX8_fill_X8 rfl (by decide) h.1 (by decide) rfl (by decide +kernel) rfl dX8_fill_88 ?_
    obtain ⟨a_25, z, h⟩ := h.2
    refine q_ref z ?_
    have hcz := h.1
    have h := h.2
    refine q_ci (q_runV (As := [.ref a_25]) (st := []) C (c_X1_add l D cA lo h.2) (cwV 1 C.2.2.2.2.1 gX8_fill_X1_add rfl rfl rfl (by decide +kernel) ⟨Nat.le_of_ble_eq_true rfl, Nat.le_of_ble_eq_true rfl⟩) h.1 (by decide) rfl rfl rfl (Nat.le_of_ble_eq_true rfl) dX8_fill_91 ⟨Nat.le_trans (Nat.le_of_eq (Nat.add_zero _)) hcz.1, Nat.le_trans (Nat.le_of_eq (Nat.add_zero _)) hcz.2⟩) (fun r_26 M_27 h => ?_)
    exact q_xret (q_iret C hr hlk dX8_fill_94 h.1 h.2.1 h.2.2)
set_option maxRecDepth 100000 in
set_option maxHeartbeats 4000000 in
theorem c_X8_fill (l : Launch) (hl : l.stackTraces = false) (D : va_G) (cA : Nat → ClassId) (lo : Nat) {M : Mm} {a0 : Nat} {i1 : Int32} {i2 : Int32} {Cc Zz : Nat} {Q : Int32 → Mm → Prop} {X : String → Mm → Prop} (h : T_X8_fill Cc Zz M a0 i1 i2 Q X) : vx_Met l yX8_fill wsX8_fill ({ frames := 8, cells := Cc, slots := Zz, locals := 133 } : Room) (PcM D cA lo [.ref a0, .int i1, .int i2] M) (QiM D cA lo Q) (XcM D cA lo X) Cc Zz (fun q => lo ≤ q) := by
  refine q_startX (cc := cX8_fill) (nL := 4) (ret := (some .int)) (by decide) rfl rfl (Nat.le_of_ble_eq_true rfl) ?_
  intro p e s m args below meth c C hr hlk hin hex
  unfold T_X8_fill at h
  have h := h (fun (a0 : Nat) (i1 : Int32) (i2 : Int32) (i3 : Int32) (is0 : Int32) (M : Mm) (cc zz : Nat) => QW p l e ({ frames := 8, cells := Cc, slots := Zz, locals := 133 } : Room) s m args below meth c (vx_MQ below (QiM D cA lo Q) (XcM D cA lo X) args s Cc Zz (fun q => lo ≤ q)) 4 D cA lo cc zz M 55 [(0, .ref a0), (1, .int i1), (2, .int i2), (3, .int i3)] [.int is0]) (fun (a0 : Nat) (is0 : Int32) (M : Mm) (cc zz : Nat) => QW p l e ({ frames := 8, cells := Cc, slots := Zz, locals := 133 } : Room) s m args below meth c (vx_MQ below (QiM D cA lo Q) (XcM D cA lo X) args s Cc Zz (fun q => lo ≤ q)) 4 D cA lo cc zz M 80 [(0, .ref a0)] [.int is0]) (fun a0 i1 i2 i3 is0 M cc zz h => b_X8_fill_55 C hr hlk hl hex M a0 i1 i2 i3 is0 cc zz h) (fun a0 is0 M cc zz h => b_X8_fill_80 C hr hlk hl hex M a0 is0 cc zz h)
  refine q_aload_n C dX8_fill_0 rfl (j := 0) rfl ?_
  refine q_iload_n C dX8_fill_1 rfl (j := 1) rfl ?_
  refine q_iload_n C dX8_fill_2 rfl (j := 2) rfl ?_
  obtain ⟨dc_3, ds_3, hcz, h⟩ := h
  refine q_xv (qx_runV (As := [.int i1, .int i2]) (st := []) C (c_X8_needPoints l hl D cA lo h.2) (cwV 2 C.2.2.2.2.1 gX8_fill_X8_needPoints rfl rfl rfl (by decide +kernel) ⟨Nat.le_of_ble_eq_true rfl, Nat.le_of_ble_eq_true rfl⟩) h.1 (by decide) rfl rfl rfl (Nat.le_of_ble_eq_true rfl) dX8_fill_3 hcz) (fun E M_x h => ?_) (fun M_2 h => ?_)
  · exact q_xout (fun x hx => hex x hx _) hlk hcz.1 hcz.2 h
  · refine q_aload_n C dX8_fill_6 rfl (j := 0) rfl ?_
    refine q_getR (ci := 8) (k0 := 1) (T := TX8) C inX8_fill_X8 rfl (by decide) h.1 (by decide) rfl (by decide +kernel) rfl dX8_fill_7 ?_
    obtain ⟨a_4, z, h⟩ := h.2
    refine q_ref z ?_
    refine q_iload_n C dX8_fill_10 rfl (j := 1) rfl ?_
    refine q_iload_n C dX8_fill_11 rfl (j := 2) rfl ?_
    have hcz := h.1
    have h := h.2
    refine q_ci (q_runV (As := [.int i1, .int i2]) (st := []) C (c_X1_isOpen l D cA lo h.2) (cwV 2 C.2.2.2.2.1 gX8_fill_X1_isOpen rfl rfl rfl (by decide +kernel) ⟨Nat.le_of_ble_eq_true rfl, Nat.le_of_ble_eq_true rfl⟩) h.1 (by decide) rfl rfl rfl (Nat.le_of_ble_eq_true rfl) dX8_fill_12 ⟨Nat.le_trans (Nat.le_of_eq (Nat.add_zero _)) hcz.1, Nat.le_trans (Nat.le_of_eq (Nat.add_zero _)) hcz.2⟩) (fun r_5 M_z h => ?_)
    refine q_mem h.1 ?_
    have h := h.2
    obtain ⟨dc_8, ds_8, hcz, h⟩ := h
    refine q_xv (qx_runS (As := [.int r_5]) (st := []) C (c_X8_needArgument l hl D cA lo h) (va_cwS 1 C.2.2.2.2.1 gX8_fill_X8_needArgument rfl rfl rfl (by decide +kernel) ⟨Nat.le_of_ble_eq_true rfl, Nat.le_of_ble_eq_true rfl⟩) rfl rfl (Nat.le_of_ble_eq_true rfl) dX8_fill_15 hcz) (fun E M_x h => ?_) (fun M_7 h => ?_)
    · exact q_xout (fun x hx => hex x hx _) hlk hcz.1 hcz.2 h
    · refine q_aload_n C dX8_fill_18 rfl (j := 0) rfl ?_
      refine q_getR (ci := 8) (k0 := 2) (T := TX8) C inX8_fill_X8 rfl (by decide) h.1 (by decide) rfl (by decide +kernel) rfl dX8_fill_19 ?_
      obtain ⟨a_9, z, h⟩ := h.2
      refine q_ref z ?_
      refine q_iload_n C dX8_fill_22 rfl (j := 1) rfl ?_
      refine q_iload_n C dX8_fill_23 rfl (j := 2) rfl ?_
      have hcz := h.1
      have h := h.2
      refine q_ci (q_runV (As := [.int i1, .int i2]) (st := []) C (c_X7_holeLength l D cA lo h.2) (cwV 2 C.2.2.2.2.1 gX8_fill_X7_holeLength rfl rfl rfl (by decide +kernel) ⟨Nat.le_of_ble_eq_true rfl, Nat.le_of_ble_eq_true rfl⟩) h.1 (by decide) rfl rfl rfl (Nat.le_of_ble_eq_true rfl) dX8_fill_24 ⟨Nat.le_trans (Nat.le_of_eq (Nat.add_zero _)) hcz.1, Nat.le_trans (Nat.le_of_eq (Nat.add_zero _)) hcz.2⟩) (fun r_10 M_11 h => ?_)
      refine q_istore_n (lv' := [(3, .int r_10), (0, .ref a0), (1, .int i1), (2, .int i2)]) C dX8_fill_27 rfl (by decide) rfl ?_
      refine q_aload_n C dX8_fill_28 rfl (j := 1) rfl ?_
      refine q_getR (ci := 8) (k0 := 1) (T := TX8) C inX8_fill_X8 rfl (by decide) h.1 (by decide) rfl (by decide +kernel) rfl dX8_fill_29 ?_
      obtain ⟨a_12, z, h⟩ := h.2
      refine q_ref z ?_
      refine q_iconst (v := 1) C dX8_fill_32 (by decide) ?_
      have hcz := h.1
      have h := h.2
      refine q_ci (q_runV (As := [.int 1]) (st := []) C (c_X1_hasRoom l D cA lo h.2) (cwV 1 C.2.2.2.2.1 gX8_fill_X1_hasRoom rfl rfl rfl (by decide +kernel) ⟨Nat.le_of_ble_eq_true rfl, Nat.le_of_ble_eq_true rfl⟩) h.1 (by decide) rfl rfl rfl (Nat.le_of_ble_eq_true rfl) dX8_fill_33 ⟨Nat.le_trans (Nat.le_of_eq (Nat.add_zero _)) hcz.1, Nat.le_trans (Nat.le_of_eq (Nat.add_zero _)) hcz.2⟩) (fun r_13 M_z h => ?_)
      refine q_mem h.1 ?_
      have h := h.2
      refine q_if_eq (tgt := 54) C dX8_fill_36 (by decide) (fun z => ?_) (fun z => ?_)
      · have h := h.1 z
        refine q_iconst (v := 0) C dX8_fill_54 (by decide) ?_
        exact q_sub [1, 2, 3, 0] rfl h
      · have h := h.2 z
        refine q_iload_n C dX8_fill_39 rfl (j := 0) rfl ?_
        refine q_iconst (v := 3) C dX8_fill_40 (by decide) ?_
        refine q_icmp_lt (tgt := 54) C dX8_fill_41 (by decide) (fun z => ?_) (fun z => ?_)
        · have h := h.1 z
          refine q_iconst (v := 0) C dX8_fill_54 (by decide) ?_
          exact q_sub [1, 2, 3, 0] rfl h
        · have h := h.2 z
          refine q_iload_n C dX8_fill_44 rfl (j := 0) rfl ?_
          refine q_bipush (v := 12) C dX8_fill_45 (by decide) ?_
          refine q_icmp_gt (tgt := 54) C dX8_fill_47 (by decide) (fun z => ?_) (fun z => ?_)
          · have h := h.1 z
            refine q_iconst (v := 0) C dX8_fill_54 (by decide) ?_
            exact q_sub [1, 2, 3, 0] rfl h
          · have h := h.2 z
            refine q_iconst (v := 1) C dX8_fill_50 (by decide) ?_
            refine q_goto (tgt := 55) C dX8_fill_51 (by decide) ?_
            exact q_sub [1, 2, 3, 0] rfl h
def T_X8_quarters (Cc Zz : Nat) (M : Mm) (a0 : Nat) (Q : Int32 → Mm → Prop) (X : String → Mm → Prop) : Prop := kM M a0 = (8, 8) ∧ ∃ a_1 : Nat, rM M a0 4 = some a_1 ∧ (0 ≤ Cc ∧ 0 ≤ Zz) ∧ kM M a_1 = (4, 5) ∧ T_X4_fits M a_1 (fun r_2 => ∃ dc_5 ds_5 : Nat, (0 + dc_5 ≤ Cc ∧ 0 + ds_5 ≤ Zz) ∧ T_X8_needState dc_5 ds_5 M r_2 (fun M_4 => kM M_4 a0 = (8, 8) ∧ ∃ a_6 : Nat, rM M_4 a0 4 = some a_6 ∧ ((0 + dc_5) ≤ Cc ∧ (0 + ds_5) ≤ Zz) ∧ kM M_4 a_6 = (4, 5) ∧ T_X4_apply M_4 a_6 (fun M_8 => kM M_8 a0 = (8, 8) ∧ ∃ a_9 : Nat, rM M_8 a0 1 = some a_9 ∧ ((0 + dc_5) ≤ Cc ∧ (0 + ds_5) ≤ Zz) ∧ kM M_8 a_9 = (1, 5) ∧ T_X1_left M_8 a_9 (fun r_10 => (0 + dc_5) ≤ Cc ∧ (0 + ds_5) ≤ Zz ∧ Q r_10 M_8))) X)
theorem inX8_quarters_X8 : ∀ w ∈ wsX80, w ∈ wsX8_quarters := by decide +kernel
set_option maxRecDepth 100000 in
set_option maxHeartbeats 4000000 in
theorem c_X8_quarters (l : Launch) (hl : l.stackTraces = false) (D : va_G) (cA : Nat → ClassId) (lo : Nat) {M : Mm} {a0 : Nat} {Cc Zz : Nat} {Q : Int32 → Mm → Prop} {X : String → Mm → Prop} (h : T_X8_quarters Cc Zz M a0 Q X) : vx_Met l yX8_quarters wsX8_quarters ({ frames := 7, cells := Cc, slots := Zz, locals := 136 } : Room) (PcM D cA lo [.ref a0] M) (QiM D cA lo Q) (XcM D cA lo X) Cc Zz (fun q => lo ≤ q) := by
  refine q_startX (cc := cX8_quarters) (nL := 1) (ret := (some .int)) (by decide) rfl rfl (Nat.le_of_ble_eq_true rfl) ?_
  intro p e s m args below meth c C hr hlk hin hex
  unfold T_X8_quarters at h
  refine q_aload_n C dX8_quarters_0 rfl (j := 0) rfl ?_
  refine q_getR (ci := 8) (k0 := 4) (T := TX8) C inX8_quarters_X8 rfl (by decide) h.1 (by decide) rfl (by decide +kernel) rfl dX8_quarters_1 ?_
  obtain ⟨a_1, z, h⟩ := h.2
  refine q_ref z ?_
  have hcz := h.1
  have h := h.2
  refine q_ci (q_runV (As := []) (st := []) C (c_X4_fits l D cA lo h.2) (cwV 0 C.2.2.2.2.1 gX8_quarters_X4_fits rfl rfl rfl (by decide +kernel) ⟨Nat.le_of_ble_eq_true rfl, Nat.le_of_ble_eq_true rfl⟩) h.1 (by decide) rfl rfl rfl (Nat.le_of_ble_eq_true rfl) dX8_quarters_4 ⟨Nat.le_trans (Nat.le_of_eq (Nat.add_zero _)) hcz.1, Nat.le_trans (Nat.le_of_eq (Nat.add_zero _)) hcz.2⟩) (fun r_2 M_z h => ?_)
  refine q_mem h.1 ?_
  have h := h.2
  obtain ⟨dc_5, ds_5, hcz, h⟩ := h
  refine q_xv (qx_runS (As := [.int r_2]) (st := []) C (c_X8_needState l hl D cA lo h) (va_cwS 1 C.2.2.2.2.1 gX8_quarters_X8_needState rfl rfl rfl (by decide +kernel) ⟨Nat.le_of_ble_eq_true rfl, Nat.le_of_ble_eq_true rfl⟩) rfl rfl (Nat.le_of_ble_eq_true rfl) dX8_quarters_7 hcz) (fun E M_x h => ?_) (fun M_4 h => ?_)
  · exact q_xout (fun x hx => hex x hx _) hlk hcz.1 hcz.2 h
  · refine q_aload_n C dX8_quarters_10 rfl (j := 0) rfl ?_
    refine q_getR (ci := 8) (k0 := 4) (T := TX8) C inX8_quarters_X8 rfl (by decide) h.1 (by decide) rfl (by decide +kernel) rfl dX8_quarters_11 ?_
    obtain ⟨a_6, z, h⟩ := h.2
    refine q_ref z ?_
    have hcz := h.1
    have h := h.2
    refine q_cv (q_runV (As := []) (st := []) C (c_X4_apply l D cA lo h.2) (cwV 0 C.2.2.2.2.1 gX8_quarters_X4_apply rfl rfl rfl (by decide +kernel) ⟨Nat.le_of_ble_eq_true rfl, Nat.le_of_ble_eq_true rfl⟩) h.1 (by decide) rfl rfl rfl (Nat.le_of_ble_eq_true rfl) dX8_quarters_14 ⟨Nat.le_trans (Nat.le_of_eq (Nat.add_zero _)) hcz.1, Nat.le_trans (Nat.le_of_eq (Nat.add_zero _)) hcz.2⟩) (fun M_8 h => ?_)
    refine q_aload_n C dX8_quarters_17 rfl (j := 0) rfl ?_
    refine q_getR (ci := 8) (k0 := 1) (T := TX8) C inX8_quarters_X8 rfl (by decide) h.1 (by decide) rfl (by decide +kernel) rfl dX8_quarters_18 ?_
    obtain ⟨a_9, z, h⟩ := h.2
    refine q_ref z ?_
    have hcz := h.1
    have h := h.2
    refine q_ci (q_runV (As := []) (st := []) C (c_X1_left l D cA lo h.2) (cwV 0 C.2.2.2.2.1 gX8_quarters_X1_left rfl rfl rfl (by decide +kernel) ⟨Nat.le_of_ble_eq_true rfl, Nat.le_of_ble_eq_true rfl⟩) h.1 (by decide) rfl rfl rfl (Nat.le_of_ble_eq_true rfl) dX8_quarters_21 ⟨Nat.le_trans (Nat.le_of_eq (Nat.add_zero _)) hcz.1, Nat.le_trans (Nat.le_of_eq (Nat.add_zero _)) hcz.2⟩) (fun r_10 M_z h => ?_)
    refine q_mem h.1 ?_
    have h := h.2
    exact q_xret (q_iret C hr hlk dX8_quarters_24 h.1 h.2.1 h.2.2)
def T_X8_smooth (M : Mm) (a0 : Nat) (Q : Int32 → Mm → Prop) : Prop := kM M a0 = (8, 8) ∧ ∃ a_1 : Nat, rM M a0 5 = some a_1 ∧ kM M a_1 = (6, 3) ∧ T_X6_apply M a_1 (fun r_2 M_3 => Q r_2 M_3)
theorem inX8_smooth_X8 : ∀ w ∈ wsX80, w ∈ wsX8_smooth := by decide +kernel
set_option maxRecDepth 100000 in
set_option maxHeartbeats 4000000 in
theorem c_X8_smooth (l : Launch) (D : va_G) (cA : Nat → ClassId) (lo : Nat) {M : Mm} {a0 : Nat} {Q : Int32 → Mm → Prop} (h : T_X8_smooth M a0 Q) : Met l yX8_smooth wsX8_smooth ({ frames := 5, cells := 0, slots := 0, locals := 114 } : Room) (PcM D cA lo [.ref a0] M) (QiM D cA lo Q) 0 0 (fun q => lo ≤ q) := by
  refine q_start (cc := cX8_smooth) (nL := 1) (ret := (some .int)) (by decide) rfl rfl (Nat.le_of_ble_eq_true rfl) ?_
  intro p e s m args below meth c C hr hlk hin
  unfold T_X8_smooth at h
  refine q_aload_n C dX8_smooth_0 rfl (j := 0) rfl ?_
  refine q_getR (ci := 8) (k0 := 5) (T := TX8) C inX8_smooth_X8 rfl (by decide) h.1 (by decide) rfl (by decide +kernel) rfl dX8_smooth_1 ?_
  obtain ⟨a_1, z, h⟩ := h.2
  refine q_ref z ?_
  refine q_ci (q_runV (As := []) (st := []) C (c_X6_apply l D cA lo h.2) (cwV 0 C.2.2.2.2.1 gX8_smooth_X6_apply rfl rfl rfl (by decide +kernel) ⟨Nat.le_of_ble_eq_true rfl, Nat.le_of_ble_eq_true rfl⟩) h.1 (by decide) rfl rfl rfl (Nat.le_of_ble_eq_true rfl) dX8_smooth_4 ⟨Nat.le_of_ble_eq_true rfl, Nat.le_of_ble_eq_true rfl⟩) (fun r_2 M_3 h => ?_)
  exact q_iret C hr hlk dX8_smooth_7 (Nat.le_of_ble_eq_true rfl) (Nat.le_of_ble_eq_true rfl) h
def S_X8_turn_2 (K2 : Nat → Int32 → Mm → Prop) (Q : Int32 → Mm → Prop) (M : Mm) (a0 : Nat) (i1 : Int32) : Prop := kM M a0 = (8, 8) ∧ ∃ a_1 : Nat, rM M a0 1 = some a_1 ∧ kM M a_1 = (1, 5) ∧ T_X1_ever M a_1 (fun r_2 => (r_2 ≤ i1 → kM M a0 = (8, 8) ∧ ∃ a_3 : Nat, rM M a0 1 = some a_3 ∧ kM M a_3 = (1, 5) ∧ T_X1_left M a_3 (fun r_4 => Q r_4 M)) ∧ (¬ r_2 ≤ i1 → kM M a0 = (8, 8) ∧ ∃ a_5 : Nat, rM M a0 1 = some a_5 ∧ kM M a_5 = (1, 5) ∧ T_X1_has M a_5 i1 (fun r_6 => (r_6 = 0 → K2 a0 (i1 + 1) M) ∧ (¬ r_6 = 0 → kM M a0 = (8, 8) ∧ ∃ a_7 : Nat, rM M a0 6 = some a_7 ∧ kM M a0 = (8, 8) ∧ ∃ a_8 : Nat, rM M a0 1 = some a_8 ∧ kM M a_8 = (1, 5) ∧ T_X1_ring M a_8 i1 (fun r_9 => kM M a_7 = (5, 2) ∧ T_X5_copyBackwards M a_7 r_9 (fun M_11 => kM M_11 a0 = (8, 8) ∧ ∃ a_12 : Nat, rM M_11 a0 1 = some a_12 ∧ kM M_11 a0 = (8, 8) ∧ ∃ a_13 : Nat, rM M_11 a0 6 = some a_13 ∧ kM M_11 a_12 = (1, 5) ∧ T_X1_reshape M_11 a_12 i1 a_13 (fun M_15 => K2 a0 (i1 + 1) M_15)))))))
def T_X8_turn (M : Mm) (a0 : Nat) (Q : Int32 → Mm → Prop) : Prop := ∀ (K2 : Nat → Int32 → Mm → Prop), (∀ (a0 : Nat) (i1 : Int32) (M : Mm), S_X8_turn_2 K2 Q M a0 i1 → K2 a0 i1 M) → K2 a0 0 M
theorem inX8_turn_X8 : ∀ w ∈ wsX80, w ∈ wsX8_turn := by decide +kernel
set_option maxRecDepth 100000 in
set_option maxHeartbeats 4000000 in
theorem b_X8_turn_2 {p : Program} {l : Launch} {e : Env} {s : State} {m : MethodId} {args : Array Value} {below : List Frame} {meth : Method} {c : Code} {D : va_G} {cA : Nat → ClassId} {lo : Nat} (C : Cx p s m args c cX8_turn 2 RX8 wsX8_turn D cA lo) (hr : meth.sig.returnType = (some .int)) (hlk : meth.locks = false) {Q : Int32 → Mm → Prop} (M : Mm) (a0 : Nat) (i1 : Int32) (h : S_X8_turn_2 (fun (a0 : Nat) (i1 : Int32) (M : Mm) => QW p l e ({ frames := 3, cells := 0, slots := 0, locals := 68 } : Room) s m args below meth c (MQ below (QiM D cA lo Q) args s 0 0 (fun q => lo ≤ q)) 2 D cA lo 0 0 M 2 [(0, .ref a0), (1, .int i1)] []) Q M a0 i1) : QW p l e ({ frames := 3, cells := 0, slots := 0, locals := 68 } : Room) s m args below meth c (MQ below (QiM D cA lo Q) args s 0 0 (fun q => lo ≤ q)) 2 D cA lo 0 0 M 2 [(0, .ref a0), (1, .int i1)] [] := by
  unfold S_X8_turn_2 at h
  refine q_iload_n C dX8_turn_2 rfl (j := 1) rfl ?_
  refine q_aload_n C dX8_turn_3 rfl (j := 0) rfl ?_
  refine q_getR (ci := 8) (k0 := 1) (T := TX8) C inX8_turn_X8 rfl (by decide) h.1 (by decide) rfl (by decide +kernel) rfl dX8_turn_4 ?_
  obtain ⟨a_1, z, h⟩ := h.2
  refine q_ref z ?_
  refine q_ci (q_runV (As := []) (st := [.int i1]) C (c_X1_ever l D cA lo h.2) (cwV 0 C.2.2.2.2.1 gX8_turn_X1_ever rfl rfl rfl (by decide +kernel) ⟨Nat.le_of_ble_eq_true rfl, Nat.le_of_ble_eq_true rfl⟩) h.1 (by decide) rfl rfl rfl (Nat.le_of_ble_eq_true rfl) dX8_turn_7 ⟨Nat.le_of_ble_eq_true rfl, Nat.le_of_ble_eq_true rfl⟩) (fun r_2 M_z h => ?_)
  refine q_mem h.1 ?_
  have h := h.2
  refine q_icmp_ge (tgt := 57) C dX8_turn_10 (by decide) (fun z => ?_) (fun z => ?_)
  · have h := h.1 z
    refine q_aload_n C dX8_turn_57 rfl (j := 0) rfl ?_
    refine q_getR (ci := 8) (k0 := 1) (T := TX8) C inX8_turn_X8 rfl (by decide) h.1 (by decide) rfl (by decide +kernel) rfl dX8_turn_58 ?_
    obtain ⟨a_3, z, h⟩ := h.2
    refine q_ref z ?_
    refine q_ci (q_runV (As := []) (st := []) C (c_X1_left l D cA lo h.2) (cwV 0 C.2.2.2.2.1 gX8_turn_X1_left rfl rfl rfl (by decide +kernel) ⟨Nat.le_of_ble_eq_true rfl, Nat.le_of_ble_eq_true rfl⟩) h.1 (by decide) rfl rfl rfl (Nat.le_of_ble_eq_true rfl) dX8_turn_61 ⟨Nat.le_of_ble_eq_true rfl, Nat.le_of_ble_eq_true rfl⟩) (fun r_4 M_z h => ?_)
    refine q_mem h.1 ?_
    have h := h.2
    exact q_iret C hr hlk dX8_turn_64 (Nat.le_of_ble_eq_true rfl) (Nat.le_of_ble_eq_true rfl) h
  · have h := h.2 z
    refine q_aload_n C dX8_turn_13 rfl (j := 0) rfl ?_
    refine q_getR (ci := 8) (k0 := 1) (T := TX8) C inX8_turn_X8 rfl (by decide) h.1 (by decide) rfl (by decide +kernel) rfl dX8_turn_14 ?_
    obtain ⟨a_5, z, h⟩ := h.2
    refine q_ref z ?_
    refine q_iload_n C dX8_turn_17 rfl (j := 1) rfl ?_
    refine q_ci (q_runV (As := [.int i1]) (st := []) C (c_X1_has l D cA lo h.2) (cwV 1 C.2.2.2.2.1 gX8_turn_X1_has rfl rfl rfl (by decide +kernel) ⟨Nat.le_of_ble_eq_true rfl, Nat.le_of_ble_eq_true rfl⟩) h.1 (by decide) rfl rfl rfl (Nat.le_of_ble_eq_true rfl) dX8_turn_18 ⟨Nat.le_of_ble_eq_true rfl, Nat.le_of_ble_eq_true rfl⟩) (fun r_6 M_z h => ?_)
    refine q_mem h.1 ?_
    have h := h.2
    refine q_if_eq (tgt := 51) C dX8_turn_21 (by decide) (fun z => ?_) (fun z => ?_)
    · have h := h.1 z
      refine q_iinc (v := (i1 + 1)) (lv' := [(1, .int (i1 + 1)), (0, .ref a0)]) C dX8_turn_51 (j := 1) rfl rfl (by decide) rfl ?_
      refine q_goto (tgt := 2) C dX8_turn_54 (by decide) ?_
      exact q_sub [1, 0] rfl h
    · have h := h.2 z
      refine q_aload_n C dX8_turn_24 rfl (j := 0) rfl ?_
      refine q_getR (ci := 8) (k0 := 6) (T := TX8) C inX8_turn_X8 rfl (by decide) h.1 (by decide) rfl (by decide +kernel) rfl dX8_turn_25 ?_
      obtain ⟨a_7, z, h⟩ := h.2
      refine q_ref z ?_
      refine q_aload_n C dX8_turn_28 rfl (j := 0) rfl ?_
      refine q_getR (ci := 8) (k0 := 1) (T := TX8) C inX8_turn_X8 rfl (by decide) h.1 (by decide) rfl (by decide +kernel) rfl dX8_turn_29 ?_
      obtain ⟨a_8, z, h⟩ := h.2
      refine q_ref z ?_
      refine q_iload_n C dX8_turn_32 rfl (j := 1) rfl ?_
      refine q_cr (q_runV (As := [.int i1]) (st := [.ref a_7]) C (c_X1_ring l D cA lo h.2) (cwV 1 C.2.2.2.2.1 gX8_turn_X1_ring rfl rfl rfl (by decide +kernel) ⟨Nat.le_of_ble_eq_true rfl, Nat.le_of_ble_eq_true rfl⟩) h.1 (by decide) rfl rfl rfl (Nat.le_of_ble_eq_true rfl) dX8_turn_33 ⟨Nat.le_of_ble_eq_true rfl, Nat.le_of_ble_eq_true rfl⟩) (fun r_9 M_z h => ?_)
      refine q_mem h.1 ?_
      have h := h.2
      refine q_cv (q_runV (As := [.ref r_9]) (st := []) C (c_X5_copyBackwards l D cA lo h.2) (cwV 1 C.2.2.2.2.1 gX8_turn_X5_copyBackwards rfl rfl rfl (by decide +kernel) ⟨Nat.le_of_ble_eq_true rfl, Nat.le_of_ble_eq_true rfl⟩) h.1 (by decide) rfl rfl rfl (Nat.le_of_ble_eq_true rfl) dX8_turn_36 ⟨Nat.le_of_ble_eq_true rfl, Nat.le_of_ble_eq_true rfl⟩) (fun M_11 h => ?_)
      refine q_aload_n C dX8_turn_39 rfl (j := 0) rfl ?_
      refine q_getR (ci := 8) (k0 := 1) (T := TX8) C inX8_turn_X8 rfl (by decide) h.1 (by decide) rfl (by decide +kernel) rfl dX8_turn_40 ?_
      obtain ⟨a_12, z, h⟩ := h.2
      refine q_ref z ?_
      refine q_iload_n C dX8_turn_43 rfl (j := 1) rfl ?_
      refine q_aload_n C dX8_turn_44 rfl (j := 0) rfl ?_
      refine q_getR (ci := 8) (k0 := 6) (T := TX8) C inX8_turn_X8 rfl (by decide) h.1 (by decide) rfl (by decide +kernel) rfl dX8_turn_45 ?_
      obtain ⟨a_13, z, h⟩ := h.2
      refine q_ref z ?_
      refine q_cv (q_runV (As := [.int i1, .ref a_13]) (st := []) C (c_X1_reshape l D cA lo h.2) (cwV 2 C.2.2.2.2.1 gX8_turn_X1_reshape rfl rfl rfl (by decide +kernel) ⟨Nat.le_of_ble_eq_true rfl, Nat.le_of_ble_eq_true rfl⟩) h.1 (by decide) rfl rfl rfl (Nat.le_of_ble_eq_true rfl) dX8_turn_48 ⟨Nat.le_of_ble_eq_true rfl, Nat.le_of_ble_eq_true rfl⟩) (fun M_15 h => ?_)
      refine q_iinc (v := (i1 + 1)) (lv' := [(1, .int (i1 + 1)), (0, .ref a0)]) C dX8_turn_51 (j := 1) rfl rfl (by decide) rfl ?_
      refine q_goto (tgt := 2) C dX8_turn_54 (by decide) ?_
      exact q_sub [1, 0] rfl h
set_option maxRecDepth 100000 in
set_option maxHeartbeats 4000000 in
theorem c_X8_turn (l : Launch) (D : va_G) (cA : Nat → ClassId) (lo : Nat) {M : Mm} {a0 : Nat} {Q : Int32 → Mm → Prop} (h : T_X8_turn M a0 Q) : Met l yX8_turn wsX8_turn ({ frames := 3, cells := 0, slots := 0, locals := 68 } : Room) (PcM D cA lo [.ref a0] M) (QiM D cA lo Q) 0 0 (fun q => lo ≤ q) := by
  refine q_start (cc := cX8_turn) (nL := 2) (ret := (some .int)) (by decide) rfl rfl (Nat.le_of_ble_eq_true rfl) ?_
  intro p e s m args below meth c C hr hlk hin
  unfold T_X8_turn at h
  have h := h (fun (a0 : Nat) (i1 : Int32) (M : Mm) => QW p l e ({ frames := 3, cells := 0, slots := 0, locals := 68 } : Room) s m args below meth c (MQ below (QiM D cA lo Q) args s 0 0 (fun q => lo ≤ q)) 2 D cA lo 0 0 M 2 [(0, .ref a0), (1, .int i1)] []) (fun a0 i1 M h => b_X8_turn_2 C hr hlk M a0 i1 h)
  refine q_iconst (v := 0) C dX8_turn_0 (by decide) ?_
  refine q_istore_n (lv' := [(1, .int 0), (0, .ref a0)]) C dX8_turn_1 rfl (by decide) rfl ?_
  exact q_sub [1, 0] rfl h
def T_X8_points (M : Mm) (a0 : Nat) (Q : Int32 → Prop) : Prop := kM M a0 = (8, 8) ∧ ∃ a_1 : Nat, rM M a0 0 = some a_1 ∧ kM M a_1 = (3, 4) ∧ T_X3_left M a_1 (fun r_2 => Q r_2)
theorem inX8_points_X8 : ∀ w ∈ wsX80, w ∈ wsX8_points := by decide +kernel
set_option maxRecDepth 100000 in
set_option maxHeartbeats 4000000 in
theorem c_X8_points (l : Launch) (D : va_G) (cA : Nat → ClassId) (lo : Nat) {M : Mm} {a0 : Nat} {Q : Int32 → Prop} (h : T_X8_points M a0 Q) : Met l yX8_points wsX8_points ({ frames := 1, cells := 0, slots := 0, locals := 20 } : Room) (PcM D cA lo [.ref a0] M) (QiM D cA lo (fun r M1 => M1 = M ∧ Q r)) 0 0 (fun q => lo ≤ q) := by
  refine q_start (cc := cX8_points) (nL := 1) (ret := (some .int)) (by decide) rfl rfl (Nat.le_of_ble_eq_true rfl) ?_
  intro p e s m args below meth c C hr hlk hin
  unfold T_X8_points at h
  refine q_aload_n C dX8_points_0 rfl (j := 0) rfl ?_
  refine q_getR (ci := 8) (k0 := 0) (T := TX8) C inX8_points_X8 rfl (by decide) h.1 (by decide) rfl (by decide +kernel) rfl dX8_points_1 ?_
  obtain ⟨a_1, z, h⟩ := h.2
  refine q_ref z ?_
  refine q_ci (q_runV (As := []) (st := []) C (c_X3_left l D cA lo h.2) (cwV 0 C.2.2.2.2.1 gX8_points_X3_left rfl rfl rfl (by decide +kernel) ⟨Nat.le_of_ble_eq_true rfl, Nat.le_of_ble_eq_true rfl⟩) h.1 (by decide) rfl rfl rfl (Nat.le_of_ble_eq_true rfl) dX8_points_4 ⟨Nat.le_of_ble_eq_true rfl, Nat.le_of_ble_eq_true rfl⟩) (fun r_2 M_z h => ?_)
  refine q_mem h.1 ?_
  have h := h.2
  exact q_iret C hr hlk dX8_points_7 (Nat.le_of_ble_eq_true rfl) (Nat.le_of_ble_eq_true rfl) ⟨rfl, h⟩
def T_X8_edges (M : Mm) (a0 : Nat) (Q : Int32 → Prop) : Prop := kM M a0 = (8, 8) ∧ ∃ a_1 : Nat, rM M a0 1 = some a_1 ∧ kM M a_1 = (1, 5) ∧ T_X1_edgeCount M a_1 (fun r_2 => Q r_2)
theorem inX8_edges_X8 : ∀ w ∈ wsX80, w ∈ wsX8_edges := by decide +kernel
set_option maxRecDepth 100000 in
set_option maxHeartbeats 4000000 in
theorem c_X8_edges (l : Launch) (D : va_G) (cA : Nat → ClassId) (lo : Nat) {M : Mm} {a0 : Nat} {Q : Int32 → Prop} (h : T_X8_edges M a0 Q) : Met l yX8_edges wsX8_edges ({ frames := 3, cells := 0, slots := 0, locals := 68 } : Room) (PcM D cA lo [.ref a0] M) (QiM D cA lo (fun r M1 => M1 = M ∧ Q r)) 0 0 (fun q => lo ≤ q) := by
  refine q_start (cc := cX8_edges) (nL := 1) (ret := (some .int)) (by decide) rfl rfl (Nat.le_of_ble_eq_true rfl) ?_
  intro p e s m args below meth c C hr hlk hin
  unfold T_X8_edges at h
  refine q_aload_n C dX8_edges_0 rfl (j := 0) rfl ?_
  refine q_getR (ci := 8) (k0 := 1) (T := TX8) C inX8_edges_X8 rfl (by decide) h.1 (by decide) rfl (by decide +kernel) rfl dX8_edges_1 ?_
  obtain ⟨a_1, z, h⟩ := h.2
  refine q_ref z ?_
  refine q_ci (q_runV (As := []) (st := []) C (c_X1_edgeCount l D cA lo h.2) (cwV 0 C.2.2.2.2.1 gX8_edges_X1_edgeCount rfl rfl rfl (by decide +kernel) ⟨Nat.le_of_ble_eq_true rfl, Nat.le_of_ble_eq_true rfl⟩) h.1 (by decide) rfl rfl rfl (Nat.le_of_ble_eq_true rfl) dX8_edges_4 ⟨Nat.le_of_ble_eq_true rfl, Nat.le_of_ble_eq_true rfl⟩) (fun r_2 M_z h => ?_)
  refine q_mem h.1 ?_
  have h := h.2
  exact q_iret C hr hlk dX8_edges_7 (Nat.le_of_ble_eq_true rfl) (Nat.le_of_ble_eq_true rfl) ⟨rfl, h⟩
def T_X8_faces (M : Mm) (a0 : Nat) (Q : Int32 → Prop) : Prop := kM M a0 = (8, 8) ∧ ∃ a_1 : Nat, rM M a0 1 = some a_1 ∧ kM M a_1 = (1, 5) ∧ T_X1_left M a_1 (fun r_2 => Q r_2)
theorem inX8_faces_X8 : ∀ w ∈ wsX80, w ∈ wsX8_faces := by decide +kernel
set_option maxRecDepth 100000 in
set_option maxHeartbeats 4000000 in
theorem c_X8_faces (l : Launch) (D : va_G) (cA : Nat → ClassId) (lo : Nat) {M : Mm} {a0 : Nat} {Q : Int32 → Prop} (h : T_X8_faces M a0 Q) : Met l yX8_faces wsX8_faces ({ frames := 1, cells := 0, slots := 0, locals := 20 } : Room) (PcM D cA lo [.ref a0] M) (QiM D cA lo (fun r M1 => M1 = M ∧ Q r)) 0 0 (fun q => lo ≤ q) := by
  refine q_start (cc := cX8_faces) (nL := 1) (ret := (some .int)) (by decide) rfl rfl (Nat.le_of_ble_eq_true rfl) ?_
  intro p e s m args below meth c C hr hlk hin
  unfold T_X8_faces at h
  refine q_aload_n C dX8_faces_0 rfl (j := 0) rfl ?_
  refine q_getR (ci := 8) (k0 := 1) (T := TX8) C inX8_faces_X8 rfl (by decide) h.1 (by decide) rfl (by decide +kernel) rfl dX8_faces_1 ?_
  obtain ⟨a_1, z, h⟩ := h.2
  refine q_ref z ?_
  refine q_ci (q_runV (As := []) (st := []) C (c_X1_left l D cA lo h.2) (cwV 0 C.2.2.2.2.1 gX8_faces_X1_left rfl rfl rfl (by decide +kernel) ⟨Nat.le_of_ble_eq_true rfl, Nat.le_of_ble_eq_true rfl⟩) h.1 (by decide) rfl rfl rfl (Nat.le_of_ble_eq_true rfl) dX8_faces_4 ⟨Nat.le_of_ble_eq_true rfl, Nat.le_of_ble_eq_true rfl⟩) (fun r_2 M_z h => ?_)
  refine q_mem h.1 ?_
  have h := h.2
  exact q_iret C hr hlk dX8_faces_7 (Nat.le_of_ble_eq_true rfl) (Nat.le_of_ble_eq_true rfl) ⟨rfl, h⟩
def T_X8_holes (M : Mm) (a0 : Nat) (Q : Int32 → Mm → Prop) : Prop := kM M a0 = (8, 8) ∧ ∃ a_1 : Nat, rM M a0 2 = some a_1 ∧ kM M a_1 = (7, 6) ∧ T_X7_holeCount M a_1 (fun r_2 M_3 => Q r_2 M_3)
theorem inX8_holes_X8 : ∀ w ∈ wsX80, w ∈ wsX8_holes := by decide +kernel
set_option maxRecDepth 100000 in
set_option maxHeartbeats 4000000 in
theorem c_X8_holes (l : Launch) (D : va_G) (cA : Nat → ClassId) (lo : Nat) {M : Mm} {a0 : Nat} {Q : Int32 → Mm → Prop} (h : T_X8_holes M a0 Q) : Met l yX8_holes wsX8_holes ({ frames := 5, cells := 0, slots := 0, locals := 120 } : Room) (PcM D cA lo [.ref a0] M) (QiM D cA lo Q) 0 0 (fun q => lo ≤ q) := by
  refine q_start (cc := cX8_holes) (nL := 1) (ret := (some .int)) (by decide) rfl rfl (Nat.le_of_ble_eq_true rfl) ?_
  intro p e s m args below meth c C hr hlk hin
  unfold T_X8_holes at h
  refine q_aload_n C dX8_holes_0 rfl (j := 0) rfl ?_
  refine q_getR (ci := 8) (k0 := 2) (T := TX8) C inX8_holes_X8 rfl (by decide) h.1 (by decide) rfl (by decide +kernel) rfl dX8_holes_1 ?_
  obtain ⟨a_1, z, h⟩ := h.2
  refine q_ref z ?_
  refine q_ci (q_runV (As := []) (st := []) C (c_X7_holeCount l D cA lo h.2) (cwV 0 C.2.2.2.2.1 gX8_holes_X7_holeCount rfl rfl rfl (by decide +kernel) ⟨Nat.le_of_ble_eq_true rfl, Nat.le_of_ble_eq_true rfl⟩) h.1 (by decide) rfl rfl rfl (Nat.le_of_ble_eq_true rfl) dX8_holes_4 ⟨Nat.le_of_ble_eq_true rfl, Nat.le_of_ble_eq_true rfl⟩) (fun r_2 M_3 h => ?_)
  exact q_iret C hr hlk dX8_holes_7 (Nat.le_of_ble_eq_true rfl) (Nat.le_of_ble_eq_true rfl) h
def T_X8_shells (M : Mm) (a0 : Nat) (Q : Int32 → Mm → Prop) : Prop := kM M a0 = (8, 8) ∧ ∃ a_1 : Nat, rM M a0 2 = some a_1 ∧ kM M a_1 = (7, 6) ∧ T_X7_shellCount M a_1 (fun r_2 M_3 => Q r_2 M_3)
theorem inX8_shells_X8 : ∀ w ∈ wsX80, w ∈ wsX8_shells := by decide +kernel
set_option maxRecDepth 100000 in
set_option maxHeartbeats 4000000 in
theorem c_X8_shells (l : Launch) (D : va_G) (cA : Nat → ClassId) (lo : Nat) {M : Mm} {a0 : Nat} {Q : Int32 → Mm → Prop} (h : T_X8_shells M a0 Q) : Met l yX8_shells wsX8_shells ({ frames := 4, cells := 0, slots := 0, locals := 88 } : Room) (PcM D cA lo [.ref a0] M) (QiM D cA lo Q) 0 0 (fun q => lo ≤ q) := by
  refine q_start (cc := cX8_shells) (nL := 1) (ret := (some .int)) (by decide) rfl rfl (Nat.le_of_ble_eq_true rfl) ?_
  intro p e s m args below meth c C hr hlk hin
  unfold T_X8_shells at h
  refine q_aload_n C dX8_shells_0 rfl (j := 0) rfl ?_
  refine q_getR (ci := 8) (k0 := 2) (T := TX8) C inX8_shells_X8 rfl (by decide) h.1 (by decide) rfl (by decide +kernel) rfl dX8_shells_1 ?_
  obtain ⟨a_1, z, h⟩ := h.2
  refine q_ref z ?_
  refine q_ci (q_runV (As := []) (st := []) C (c_X7_shellCount l D cA lo h.2) (cwV 0 C.2.2.2.2.1 gX8_shells_X7_shellCount rfl rfl rfl (by decide +kernel) ⟨Nat.le_of_ble_eq_true rfl, Nat.le_of_ble_eq_true rfl⟩) h.1 (by decide) rfl rfl rfl (Nat.le_of_ble_eq_true rfl) dX8_shells_4 ⟨Nat.le_of_ble_eq_true rfl, Nat.le_of_ble_eq_true rfl⟩) (fun r_2 M_3 h => ?_)
  exact q_iret C hr hlk dX8_shells_7 (Nat.le_of_ble_eq_true rfl) (Nat.le_of_ble_eq_true rfl) h
def S_X8_needAxis_13 (K13 : Mm → Nat → Nat → Prop) (Cc Zz : Nat) (Q : Mm → Prop) (X : String → Mm → Prop) (M : Mm)  (cc zz : Nat) : Prop := ∃ dc_6 ds_6 : Nat, (cc + dc_6 ≤ Cc ∧ zz + ds_6 ≤ Zz) ∧ T_X8_needArgument dc_6 ds_6 M 0 (fun M_5 => (cc + dc_6) ≤ Cc ∧ (zz + ds_6) ≤ Zz ∧ Q M_5) X
def T_X8_needAxis (Cc Zz : Nat) (M : Mm) (i0 : Int32) (Q : Mm → Prop) (X : String → Mm → Prop) : Prop := ∀ (K13 : Mm → Nat → Nat → Prop), (∀  (M : Mm) (cc zz : Nat), S_X8_needAxis_13 K13 Cc Zz Q X M  cc zz → K13  M cc zz) → (i0 < 0 → K13 M 0 0) ∧ (¬ i0 < 0 → (3 ≤ i0 → K13 M 0 0) ∧ (¬ 3 ≤ i0 → ∃ dc_3 ds_3 : Nat, (0 + dc_3 ≤ Cc ∧ 0 + ds_3 ≤ Zz) ∧ T_X8_needArgument dc_3 ds_3 M 1 (fun M_2 => (0 + dc_3) ≤ Cc ∧ (0 + ds_3) ≤ Zz ∧ Q M_2) X))
set_option maxRecDepth 100000 in
set_option maxHeartbeats 4000000 in
theorem b_X8_needAxis_13 {p : Program} {l : Launch} {e : Env} {s : State} {m : MethodId} {args : Array Value} {below : List Frame} {meth : Method} {c : Code} {D : va_G} {cA : Nat → ClassId} {lo : Nat} (C : Cx p s m args c cX8_needAxis 1 RX8 wsX8_needAxis D cA lo) (hr : meth.sig.returnType = none) (hlk : meth.locks = false) (hl : l.stackTraces = false) (hex : ∀ x ∈ c.exceptionTable.toList, ∀ pc, covers x pc = false) {Q : Mm → Prop} {Cc Zz : Nat} {X : String → Mm → Prop} (M : Mm)  (cc zz : Nat) (h : S_X8_needAxis_13 (fun  (M : Mm) (cc zz : Nat) => QW p l e ({ frames := 7, cells := Cc, slots := Zz, locals := 110 } : Room) s m args below meth c (vx_MQ below (QvM D cA lo Q) (XcM D cA lo X) args s Cc Zz (fun q => lo ≤ q)) 1 D cA lo cc zz M 13 [] []) Cc Zz Q X M  cc zz) : QW p l e ({ frames := 7, cells := Cc, slots := Zz, locals := 110 } : Room) s m args below meth c (vx_MQ below (QvM D cA lo Q) (XcM D cA lo X) args s Cc Zz (fun q => lo ≤ q)) 1 D cA lo cc zz M 13 [] [] := by
  unfold S_X8_needAxis_13 at h
  refine q_iconst (v := 0) C dX8_needAxis_13 (by decide) ?_
  obtain ⟨dc_6, ds_6, hcz, h⟩ := h
  refine q_xv (qx_runS (As := [.int 0]) (st := []) C (c_X8_needArgument l hl D cA lo h) (va_cwS 1 C.2.2.2.2.1 gX8_needAxis_X8_needArgument rfl rfl rfl (by decide +kernel) ⟨Nat.le_of_ble_eq_true rfl, Nat.le_of_ble_eq_true rfl⟩) rfl rfl (Nat.le_of_ble_eq_true rfl) dX8_needAxis_14 hcz) (fun E M_x h => ?_) (fun M_5 h => ?_)
  · exact q_xout (fun x hx => hex x hx _) hlk hcz.1 hcz.2 h
  · exact q_xret (q_vret C hr hlk dX8_needAxis_17 h.1 h.2.1 h.2.2)
set_option maxRecDepth 100000 in
set_option maxHeartbeats 4000000 in
theorem c_X8_needAxis (l : Launch) (hl : l.stackTraces = false) (D : va_G) (cA : Nat → ClassId) (lo : Nat) {M : Mm} {i0 : Int32} {Cc Zz : Nat} {Q : Mm → Prop} {X : String → Mm → Prop} (h : T_X8_needAxis Cc Zz M i0 Q X) : vx_Met l yX8_needAxis wsX8_needAxis ({ frames := 7, cells := Cc, slots := Zz, locals := 110 } : Room) (PcM D cA lo [.int i0] M) (QvM D cA lo Q) (XcM D cA lo X) Cc Zz (fun q => lo ≤ q) := by
  refine q_startX (cc := cX8_needAxis) (nL := 1) (ret := none) (by decide) rfl rfl (Nat.le_of_ble_eq_true rfl) ?_
  intro p e s m args below meth c C hr hlk hin hex
  unfold T_X8_needAxis at h
  have h := h (fun  (M : Mm) (cc zz : Nat) => QW p l e ({ frames := 7, cells := Cc, slots := Zz, locals := 110 } : Room) s m args below meth c (vx_MQ below (QvM D cA lo Q) (XcM D cA lo X) args s Cc Zz (fun q => lo ≤ q)) 1 D cA lo cc zz M 13 [] []) (fun M cc zz h => b_X8_needAxis_13 C hr hlk hl hex M  cc zz h)
  refine q_iload_n C dX8_needAxis_0 rfl (j := 0) rfl ?_
  refine q_if_lt (tgt := 13) C dX8_needAxis_1 (by decide) (fun z => ?_) (fun z => ?_)
  · have h := h.1 z
    exact q_sub [] rfl h
  · have h := h.2 z
    refine q_iload_n C dX8_needAxis_4 rfl (j := 0) rfl ?_
    refine q_iconst (v := 3) C dX8_needAxis_5 (by decide) ?_
    refine q_icmp_ge (tgt := 13) C dX8_needAxis_6 (by decide) (fun z => ?_) (fun z => ?_)
    · have h := h.1 z
      exact q_sub [] rfl h
    · have h := h.2 z
      refine q_iconst (v := 1) C dX8_needAxis_9 (by decide) ?_
      refine q_goto (tgt := 14) C dX8_needAxis_10 (by decide) ?_
      obtain ⟨dc_3, ds_3, hcz, h⟩ := h
      refine q_xv (qx_runS (As := [.int 1]) (st := []) C (c_X8_needArgument l hl D cA lo h) (va_cwS 1 C.2.2.2.2.1 gX8_needAxis_X8_needArgument rfl rfl rfl (by decide +kernel) ⟨Nat.le_of_ble_eq_true rfl, Nat.le_of_ble_eq_true rfl⟩) rfl rfl (Nat.le_of_ble_eq_true rfl) dX8_needAxis_14 hcz) (fun E M_x h => ?_) (fun M_2 h => ?_)
      · exact q_xout (fun x hx => hex x hx _) hlk hcz.1 hcz.2 h
      · exact q_xret (q_vret C hr hlk dX8_needAxis_17 h.1 h.2.1 h.2.2)
