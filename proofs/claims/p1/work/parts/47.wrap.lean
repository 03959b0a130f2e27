def T_L_point (Cc Zz : Nat) (M : Mm) (a0 : Nat) (i1 : Int32) (i2 : Int32) (i3 : Int32) (a4 : Nat) (Q : Int32 → Mm → Prop) (X : String → Mm → Prop) : Prop := ∃ dc_3 ds_3 : Nat, (0 + dc_3 ≤ Cc ∧ 0 + ds_3 ≤ Zz) ∧ kM M a0 = (8, 8) ∧ T_X8_point dc_3 ds_3 M a0 i1 i2 i3 (fun r_1 M_2 => ∃ n_4 : Nat, kM M_2 a4 = (110, n_4) ∧ vp_in 0 n_4 ∧ (0 + dc_3) ≤ Cc ∧ (0 + ds_3) ≤ Zz ∧ Q 0 (wL M_2 a4 (0 : Int32).toNatClampNeg r_1.toInt64)) (fun E_x M_x => (E_x = "java/lang/IllegalArgumentException" ∧ (0 + dc_3) ≤ Cc ∧ (0 + ds_3) ≤ Zz ∧ Q 1 M_x) ∨ (E_x = "java/lang/IllegalStateException" ∧ (0 + dc_3) ≤ Cc ∧ (0 + ds_3) ≤ Zz ∧ Q 2 M_x))
set_option maxRecDepth 100000 in
set_option maxHeartbeats 4000000 in
theorem c_L_point (l : Launch) (hl : l.stackTraces = false) (D : va_G) (cA : Nat → ClassId) (lo : Nat) {M : Mm} {a0 : Nat} {i1 : Int32} {i2 : Int32} {i3 : Int32} {a4 : Nat} {Cc Zz : Nat} {Q : Int32 → Mm → Prop} {X : String → Mm → Prop} (h : T_L_point Cc Zz M a0 i1 i2 i3 a4 Q X) : vx_Met l yL_point wsL_point ({ frames := 9, cells := Cc, slots := Zz, locals := 155 } : Room) (PcM D cA lo [.ref a0, .int i1, .int i2, .int i3, .ref a4] M) (QiM D cA lo Q) (XcM D cA lo X) Cc Zz (fun q => lo ≤ q) := by
  refine q_startH (hh := [(0, 12, 15, 13), (0, 12, 19, 15)]) (cc := cL_point) (nL := 6) (ret := (some .int)) (by decide) rfl rfl (Nat.le_of_ble_eq_true rfl) ?_
  intro p e s m args below meth c C hr hlk htab
  unfold T_L_point at h
  refine q_aload C dL_point_0 (j := 4) rfl ?_
  refine q_iconst (v := 0) C dL_point_2 (by decide) ?_
  refine q_aload_n C dL_point_3 rfl (j := 0) rfl ?_
  refine q_iload_n C dL_point_4 rfl (j := 1) rfl ?_
  refine q_iload_n C dL_point_5 rfl (j := 2) rfl ?_
  refine q_iload_n C dL_point_6 rfl (j := 3) rfl ?_
  obtain ⟨dc_3, ds_3, hcz, h⟩ := h
  refine q_xi (qx_runV (As := [.int i1, .int i2, .int i3]) (st := [.int 0, .ref a4]) C (c_X8_point l hl D cA lo h.2) (cwV 3 C.2.2.2.2.1 gL_point_X8_point rfl rfl rfl (by decide +kernel) ⟨Nat.le_of_ble_eq_true rfl, Nat.le_of_ble_eq_true rfl⟩) h.1 (by decide) rfl rfl rfl (Nat.le_of_ble_eq_true rfl) dL_point_7 hcz) (fun E M_x h => ?_) (fun r_1 M_2 h => ?_)
  · rcases h with ⟨rfl, h⟩ | ⟨rfl, h⟩
    · have h := h
      refine q_catch (name := "") C htab [] (0, 12, 15, 13) [(0, 12, 19, 15)] rfl (by decide) (fun z hz => absurd hz List.not_mem_nil) (by decide) (by decide) (by decide +kernel) (fun qx => ?_)
      refine q_astore (lv' := [(5, .ref qx), (0, .ref a0), (1, .int i1), (2, .int i2), (3, .int i3), (4, .ref a4)]) C dL_point_15 (by decide) rfl ?_
      refine q_iconst (v := 1) C dL_point_17 (by decide) ?_
      exact q_xret (q_iret C hr hlk dL_point_18 h.1 h.2.1 h.2.2)
    · have h := h
      refine q_catch (name := "") C htab [(0, 12, 15, 13)] (0, 12, 19, 15) [] rfl (by decide) (List.forall_mem_cons.mpr ⟨Or.inr ⟨by decide, "java/lang/IllegalArgumentException", by decide, by decide, by decide +kernel⟩, fun z hz => absurd hz List.not_mem_nil⟩) (by decide) (by decide) (by decide +kernel) (fun qx => ?_)
      refine q_astore (lv' := [(5, .ref qx), (0, .ref a0), (1, .int i1), (2, .int i2), (3, .int i3), (4, .ref a4)]) C dL_point_19 (by decide) rfl ?_
      refine q_iconst (v := 2) C dL_point_21 (by decide) ?_
      exact q_xret (q_iret C hr hlk dL_point_22 h.1 h.2.1 h.2.2)
  · refine q_i2l C dL_point_10 ?_
    obtain ⟨n_4, z1, z2, h⟩ := h
    refine q_last C z1 z2 dL_point_11 ?_
    refine q_goto (tgt := 23) C dL_point_12 (by decide) ?_
    refine q_iconst (v := 0) C dL_point_23 (by decide) ?_
    exact q_xret (q_iret C hr hlk dL_point_24 h.1 h.2.1 h.2.2)
def T_L_move (Cc Zz : Nat) (M : Mm) (a0 : Nat) (i1 : Int32) (i2 : Int32) (i3 : Int32) (i4 : Int32) (a5 : Nat) (Q : Int32 → Mm → Prop) (X : String → Mm → Prop) : Prop := ∃ dc_3 ds_3 : Nat, (0 + dc_3 ≤ Cc ∧ 0 + ds_3 ≤ Zz) ∧ kM M a0 = (8, 8) ∧ T_X8_move dc_3 ds_3 M a0 i1 i2 i3 i4 (fun r_1 M_2 => ∃ n_4 : Nat, kM M_2 a5 = (110, n_4) ∧ vp_in 0 n_4 ∧ (0 + dc_3) ≤ Cc ∧ (0 + ds_3) ≤ Zz ∧ Q 0 (wL M_2 a5 (0 : Int32).toNatClampNeg r_1.toInt64)) (fun E_x M_x => (E_x = "java/lang/IndexOutOfBoundsException" ∧ (0 + dc_3) ≤ Cc ∧ (0 + ds_3) ≤ Zz ∧ Q 1 M_x) ∨ (E_x = "java/lang/IllegalArgumentException" ∧ (0 + dc_3) ≤ Cc ∧ (0 + ds_3) ≤ Zz ∧ Q 2 M_x))
set_option maxRecDepth 100000 in
set_option maxHeartbeats 4000000 in
theorem c_L_move (l : Launch) (hl : l.stackTraces = false) (D : va_G) (cA : Nat → ClassId) (lo : Nat) {M : Mm} {a0 : Nat} {i1 : Int32} {i2 : Int32} {i3 : Int32} {i4 : Int32} {a5 : Nat} {Cc Zz : Nat} {Q : Int32 → Mm → Prop} {X : String → Mm → Prop} (h : T_L_move Cc Zz M a0 i1 i2 i3 i4 a5 Q X) : vx_Met l yL_move wsL_move ({ frames := 9, cells := Cc, slots := Zz, locals := 159 } : Room) (PcM D cA lo [.ref a0, .int i1, .int i2, .int i3, .int i4, .ref a5] M) (QiM D cA lo Q) (XcM D cA lo X) Cc Zz (fun q => lo ≤ q) := by
  refine q_startH (hh := [(0, 14, 17, 21), (0, 14, 21, 13)]) (cc := cL_move) (nL := 7) (ret := (some .int)) (by decide) rfl rfl (Nat.le_of_ble_eq_true rfl) ?_
  intro p e s m args below meth c C hr hlk htab
  unfold T_L_move at h
  refine q_aload C dL_move_0 (j := 5) rfl ?_
  refine q_iconst (v := 0) C dL_move_2 (by decide) ?_
  refine q_aload_n C dL_move_3 rfl (j := 0) rfl ?_
  refine q_iload_n C dL_move_4 rfl (j := 1) rfl ?_
  refine q_iload_n C dL_move_5 rfl (j := 2) rfl ?_
  refine q_iload_n C dL_move_6 rfl (j := 3) rfl ?_
  refine q_iload C dL_move_7 (j := 4) rfl ?_
  obtain ⟨dc_3, ds_3, hcz, h⟩ := h
  refine q_xi (qx_runV (As := [.int i1, .int i2, .int i3, .int i4]) (st := [.int 0, .ref a5]) C (c_X8_move l hl D cA lo h.2) (cwV 4 C.2.2.2.2.1 gL_move_X8_move rfl rfl rfl (by decide +kernel) ⟨Nat.le_of_ble_eq_true rfl, Nat.le_of_ble_eq_true rfl⟩) h.1 (by decide) rfl rfl rfl (Nat.le_of_ble_eq_true rfl) dL_move_9 hcz) (fun E M_x h => ?_) (fun r_1 M_2 h => ?_)
  · rcases h with ⟨rfl, h⟩ | ⟨rfl, h⟩
    · have h := h
      refine q_catch (name := "") C htab [] (0, 14, 17, 21) [(0, 14, 21, 13)] rfl (by decide) (fun z hz => absurd hz List.not_mem_nil) (by decide) (by decide) (by decide +kernel) (fun qx => ?_)
      refine q_astore (lv' := [(6, .ref qx), (0, .ref a0), (1, .int i1), (2, .int i2), (3, .int i3), (4, .int i4), (5, .ref a5)]) C dL_move_17 (by decide) rfl ?_
      refine q_iconst (v := 1) C dL_move_19 (by decide) ?_
      exact q_xret (q_iret C hr hlk dL_move_20 h.1 h.2.1 h.2.2)
    · have h := h
      refine q_catch (name := "") C htab [(0, 14, 17, 21)] (0, 14, 21, 13) [] rfl (by decide) (List.forall_mem_cons.mpr ⟨Or.inr ⟨by decide, "java/lang/IndexOutOfBoundsException", by decide, by decide, by decide +kernel⟩, fun z hz => absurd hz List.not_mem_nil⟩) (by decide) (by decide) (by decide +kernel) (fun qx => ?_)
      refine q_astore (lv' := [(6, .ref qx), (0, .ref a0), (1, .int i1), (2, .int i2), (3, .int i3), (4, .int i4), (5, .ref a5)]) C dL_move_21 (by decide) rfl ?_
      refine q_iconst (v := 2) C dL_move_23 (by decide) ?_
      exact q_xret (q_iret C hr hlk dL_move_24 h.1 h.2.1 h.2.2)
  · refine q_i2l C dL_move_12 ?_
    obtain ⟨n_4, z1, z2, h⟩ := h
    refine q_last C z1 z2 dL_move_13 ?_
    refine q_goto (tgt := 25) C dL_move_14 (by decide) ?_
    refine q_iconst (v := 0) C dL_move_25 (by decide) ?_
    exact q_xret (q_iret C hr hlk dL_move_26 h.1 h.2.1 h.2.2)
def T_L_face (Cc Zz : Nat) (M : Mm) (a0 : Nat) (i1 : Int32) (i2 : Int32) (i3 : Int32) (i4 : Int32) (a5 : Nat) (Q : Int32 → Mm → Prop) (X : String → Mm → Prop) : Prop := ∃ dc_3 ds_3 : Nat, (0 + dc_3 ≤ Cc ∧ 0 + ds_3 ≤ Zz) ∧ kM M a0 = (8, 8) ∧ T_X8_face dc_3 ds_3 M a0 i1 i2 i3 i4 (fun r_1 M_2 => ∃ n_4 : Nat, kM M_2 a5 = (110, n_4) ∧ vp_in 0 n_4 ∧ (0 + dc_3) ≤ Cc ∧ (0 + ds_3) ≤ Zz ∧ Q 0 (wL M_2 a5 (0 : Int32).toNatClampNeg r_1.toInt64)) (fun E_x M_x => (E_x = "java/lang/IndexOutOfBoundsException" ∧ (0 + dc_3) ≤ Cc ∧ (0 + ds_3) ≤ Zz ∧ Q 1 M_x) ∨ (E_x = "java/lang/IllegalStateException" ∧ (0 + dc_3) ≤ Cc ∧ (0 + ds_3) ≤ Zz ∧ Q 2 M_x))
set_option maxRecDepth 100000 in
set_option maxHeartbeats 4000000 in
theorem c_L_face (l : Launch) (hl : l.stackTraces = false) (D : va_G) (cA : Nat → ClassId) (lo : Nat) {M : Mm} {a0 : Nat} {i1 : Int32} {i2 : Int32} {i3 : Int32} {i4 : Int32} {a5 : Nat} {Cc Zz : Nat} {Q : Int32 → Mm → Prop} {X : String → Mm → Prop} (h : T_L_face Cc Zz M a0 i1 i2 i3 i4 a5 Q X) : vx_Met l yL_face wsL_face ({ frames := 9, cells := Cc, slots := Zz, locals := 157 } : Room) (PcM D cA lo [.ref a0, .int i1, .int i2, .int i3, .int i4, .ref a5] M) (QiM D cA lo Q) (XcM D cA lo X) Cc Zz (fun q => lo ≤ q) := by
  refine q_startH (hh := [(0, 14, 17, 21), (0, 14, 21, 15)]) (cc := cL_face) (nL := 7) (ret := (some .int)) (by decide) rfl rfl (Nat.le_of_ble_eq_true rfl) ?_
  intro p e s m args below meth c C hr hlk htab
  unfold T_L_face at h
  refine q_aload C dL_face_0 (j := 5) rfl ?_
  refine q_iconst (v := 0) C dL_face_2 (by decide) ?_
  refine q_aload_n C dL_face_3 rfl (j := 0) rfl ?_
  refine q_iload_n C dL_face_4 rfl (j := 1) rfl ?_
  refine q_iload_n C dL_face_5 rfl (j := 2) rfl ?_
  refine q_iload_n C dL_face_6 rfl (j := 3) rfl ?_
  refine q_iload C dL_face_7 (j := 4) rfl ?_
  obtain ⟨dc_3, ds_3, hcz, h⟩ := h
  refine q_xi (qx_runV (As := [.int i1, .int i2, .int i3, .int i4]) (st := [.int 0, .ref a5]) C (c_X8_face l hl D cA lo h.2) (cwV 4 C.2.2.2.2.1 gL_face_X8_face rfl rfl rfl (by decide +kernel) ⟨Nat.le_of_ble_eq_true rfl, Nat.le_of_ble_eq_true rfl⟩) h.1 (by decide) rfl rfl rfl (Nat.le_of_ble_eq_true rfl) dL_face_9 hcz) (fun E M_x h => ?_) (fun r_1 M_2 h => ?_)
  · rcases h with ⟨rfl, h⟩ | ⟨rfl, h⟩
    · have h := h
      refine q_catch (name := "") C htab [] (0, 14, 17, 21) [(0, 14, 21, 15)] rfl (by decide) (fun z hz => absurd hz List.not_mem_nil) (by decide) (by decide) (by decide +kernel) (fun qx => ?_)
      refine q_astore (lv' := [(6, .ref qx), (0, .ref a0), (1, .int i1), (2, .int i2), (3, .int i3), (4, .int i4), (5, .ref a5)]) C dL_face_17 (by decide) rfl ?_
      refine q_iconst (v := 1) C dL_face_19 (by decide) ?_
      exact q_xret (q_iret C hr hlk dL_face_20 h.1 h.2.1 h.2.2)
    · have h := h
      refine q_catch (name := "") C htab [(0, 14, 17, 21)] (0, 14, 21, 15) [] rfl (by decide) (List.forall_mem_cons.mpr ⟨Or.inr ⟨by decide, "java/lang/IndexOutOfBoundsException", by decide, by decide, by decide +kernel⟩, fun z hz => absurd hz List.not_mem_nil⟩) (by decide) (by decide) (by decide +kernel) (fun qx => ?_)
      refine q_astore (lv' := [(6, .ref qx), (0, .ref a0), (1, .int i1), (2, .int i2), (3, .int i3), (4, .int i4), (5, .ref a5)]) C dL_face_21 (by decide) rfl ?_
      refine q_iconst (v := 2) C dL_face_23 (by decide) ?_
      exact q_xret (q_iret C hr hlk dL_face_24 h.1 h.2.1 h.2.2)
  · refine q_i2l C dL_face_12 ?_
    obtain ⟨n_4, z1, z2, h⟩ := h
    refine q_last C z1 z2 dL_face_13 ?_
    refine q_goto (tgt := 25) C dL_face_14 (by decide) ?_
    refine q_iconst (v := 0) C dL_face_25 (by decide) ?_
    exact q_xret (q_iret C hr hlk dL_face_26 h.1 h.2.1 h.2.2)
def T_L_dropFace (Cc Zz : Nat) (M : Mm) (a0 : Nat) (i1 : Int32) (a2 : Nat) (Q : Int32 → Mm → Prop) (X : String → Mm → Prop) : Prop := ∃ dc_3 ds_3 : Nat, (0 + dc_3 ≤ Cc ∧ 0 + ds_3 ≤ Zz) ∧ kM M a0 = (8, 8) ∧ T_X8_dropFace dc_3 ds_3 M a0 i1 (fun r_1 M_2 => ∃ n_4 : Nat, kM M_2 a2 = (110, n_4) ∧ vp_in 0 n_4 ∧ (0 + dc_3) ≤ Cc ∧ (0 + ds_3) ≤ Zz ∧ Q 0 (wL M_2 a2 (0 : Int32).toNatClampNeg r_1.toInt64)) (fun E_x M_x => (E_x = "java/lang/IndexOutOfBoundsException" ∧ (0 + dc_3) ≤ Cc ∧ (0 + ds_3) ≤ Zz ∧ Q 1 M_x))
set_option maxRecDepth 100000 in
set_option maxHeartbeats 4000000 in
theorem c_L_dropFace (l : Launch) (hl : l.stackTraces = false) (D : va_G) (cA : Nat → ClassId) (lo : Nat) {M : Mm} {a0 : Nat} {i1 : Int32} {a2 : Nat} {Cc Zz : Nat} {Q : Int32 → Mm → Prop} {X : String → Mm → Prop} (h : T_L_dropFace Cc Zz M a0 i1 a2 Q X) : vx_Met l yL_dropFace wsL_dropFace ({ frames := 8, cells := Cc, slots := Zz, locals := 132 } : Room) (PcM D cA lo [.ref a0, .int i1, .ref a2] M) (QiM D cA lo Q) (XcM D cA lo X) Cc Zz (fun q => lo ≤ q) := by
  refine q_startH (hh := [(0, 9, 12, 21)]) (cc := cL_dropFace) (nL := 4) (ret := (some .int)) (by decide) rfl rfl (Nat.le_of_ble_eq_true rfl) ?_
  intro p e s m args below meth c C hr hlk htab
  unfold T_L_dropFace at h
  refine q_aload_n C dL_dropFace_0 rfl (j := 2) rfl ?_
  refine q_iconst (v := 0) C dL_dropFace_1 (by decide) ?_
  refine q_aload_n C dL_dropFace_2 rfl (j := 0) rfl ?_
  refine q_iload_n C dL_dropFace_3 rfl (j := 1) rfl ?_
  obtain ⟨dc_3, ds_3, hcz, h⟩ := h
  refine q_xi (qx_runV (As := [.int i1]) (st := [.int 0, .ref a2]) C (c_X8_dropFace l hl D cA lo h.2) (cwV 1 C.2.2.2.2.1 gL_dropFace_X8_dropFace rfl rfl rfl (by decide +kernel) ⟨Nat.le_of_ble_eq_true rfl, Nat.le_of_ble_eq_true rfl⟩) h.1 (by decide) rfl rfl rfl (Nat.le_of_ble_eq_true rfl) dL_dropFace_4 hcz) (fun E M_x h => ?_) (fun r_1 M_2 h => ?_)
  · obtain ⟨rfl, h⟩ := h
    have h := h
    refine q_catch (name := "") C htab [] (0, 9, 12, 21) [] rfl (by decide) (fun z hz => absurd hz List.not_mem_nil) (by decide) (by decide) (by decide +kernel) (fun qx => ?_)
    refine q_astore_n (lv' := [(3, .ref qx), (0, .ref a0), (1, .int i1), (2, .ref a2)]) C dL_dropFace_12 rfl (by decide) rfl ?_
    refine q_iconst (v := 1) C dL_dropFace_13 (by decide) ?_
    exact q_xret (q_iret C hr hlk dL_dropFace_14 h.1 h.2.1 h.2.2)
  · refine q_i2l C dL_dropFace_7 ?_
    obtain ⟨n_4, z1, z2, h⟩ := h
    refine q_last C z1 z2 dL_dropFace_8 ?_
    refine q_goto (tgt := 15) C dL_dropFace_9 (by decide) ?_
    refine q_iconst (v := 0) C dL_dropFace_15 (by decide) ?_
    exact q_xret (q_iret C hr hlk dL_dropFace_16 h.1 h.2.1 h.2.2)
def T_L_dropPoint (Cc Zz : Nat) (M : Mm) (a0 : Nat) (i1 : Int32) (a2 : Nat) (Q : Int32 → Mm → Prop) (X : String → Mm → Prop) : Prop := ∃ dc_3 ds_3 : Nat, (0 + dc_3 ≤ Cc ∧ 0 + ds_3 ≤ Zz) ∧ kM M a0 = (8, 8) ∧ T_X8_dropPoint dc_3 ds_3 M a0 i1 (fun r_1 M_2 => ∃ n_4 : Nat, kM M_2 a2 = (110, n_4) ∧ vp_in 0 n_4 ∧ (0 + dc_3) ≤ Cc ∧ (0 + ds_3) ≤ Zz ∧ Q 0 (wL M_2 a2 (0 : Int32).toNatClampNeg r_1.toInt64)) (fun E_x M_x => (E_x = "java/lang/IndexOutOfBoundsException" ∧ (0 + dc_3) ≤ Cc ∧ (0 + ds_3) ≤ Zz ∧ Q 1 M_x) ∨ (E_x = "java/lang/IllegalStateException" ∧ (0 + dc_3) ≤ Cc ∧ (0 + ds_3) ≤ Zz ∧ Q 2 M_x))
set_option maxRecDepth 100000 in
set_option maxHeartbeats 4000000 in
theorem c_L_dropPoint (l : Launch) (hl : l.stackTraces = false) (D : va_G) (cA : Nat → ClassId) (lo : Nat) {M : Mm} {a0 : Nat} {i1 : Int32} {a2 : Nat} {Cc Zz : Nat} {Q : Int32 → Mm → Prop} {X : String → Mm → Prop} (h : T_L_dropPoint Cc Zz M a0 i1 a2 Q X) : vx_Met l yL_dropPoint wsL_dropPoint ({ frames := 8, cells := Cc, slots := Zz, locals := 132 } : Room) (PcM D cA lo [.ref a0, .int i1, .ref a2] M) (QiM D cA lo Q) (XcM D cA lo X) Cc Zz (fun q => lo ≤ q) := by
  refine q_startH (hh := [(0, 9, 12, 21), (0, 9, 15, 15)]) (cc := cL_dropPoint) (nL := 4) (ret := (some .int)) (by decide) rfl rfl (Nat.le_of_ble_eq_true rfl) ?_
  intro p e s m args below meth c C hr hlk htab
  unfold T_L_dropPoint at h
  refine q_aload_n C dL_dropPoint_0 rfl (j := 2) rfl ?_
  refine q_iconst (v := 0) C dL_dropPoint_1 (by decide) ?_
  refine q_aload_n C dL_dropPoint_2 rfl (j := 0) rfl ?_
  refine q_iload_n C dL_dropPoint_3 rfl (j := 1) rfl ?_
  obtain ⟨dc_3, ds_3, hcz, h⟩ := h
  refine q_xi (qx_runV (As := [.int i1]) (st := [.int 0, .ref a2]) C (c_X8_dropPoint l hl D cA lo h.2) (cwV 1 C.2.2.2.2.1 gL_dropPoint_X8_dropPoint rfl rfl rfl (by decide +kernel) ⟨Nat.le_of_ble_eq_true rfl, Nat.le_of_ble_eq_true rfl⟩) h.1 (by decide) rfl rfl rfl (Nat.le_of_ble_eq_true rfl) dL_dropPoint_4 hcz) (fun E M_x h => ?_) (fun r_1 M_2 h => ?_)
  · rcases h with ⟨rfl, h⟩ | ⟨rfl, h⟩
    · have h := h
      refine q_catch (name := "") C htab [] (0, 9, 12, 21) [(0, 9, 15, 15)] rfl (by decide) (fun z hz => absurd hz List.not_mem_nil) (by decide) (by decide) (by decide +kernel) (fun qx => ?_)
      refine q_astore_n (lv' := [(3, .ref qx), (0, .ref a0), (1, .int i1), (2, .ref a2)]) C dL_dropPoint_12 rfl (by decide) rfl ?_
      refine q_iconst (v := 1) C dL_dropPoint_13 (by decide) ?_
      exact q_xret (q_iret C hr hlk dL_dropPoint_14 h.1 h.2.1 h.2.2)
    · have h := h
      refine q_catch (name := "") C htab [(0, 9, 12, 21)] (0, 9, 15, 15) [] rfl (by decide) (List.forall_mem_cons.mpr ⟨Or.inr ⟨by decide, "java/lang/IndexOutOfBoundsException", by decide, by decide, by decide +kernel⟩, fun z hz => absurd hz List.not_mem_nil⟩) (by decide) (by decide) (by decide +kernel) (fun qx => ?_)
      refine q_astore_n (lv' := [(3, .ref qx), (0, .ref a0), (1, .int i1), (2, .ref a2)]) C dL_dropPoint_15 rfl (by decide) rfl ?_
      refine q_iconst (v := 2) C dL_dropPoint_16 (by decide) ?_
      exact q_xret (q_iret C hr hlk dL_dropPoint_17 h.1 h.2.1 h.2.2)
  · refine q_i2l C dL_dropPoint_7 ?_
    obtain ⟨n_4, z1, z2, h⟩ := h
    refine q_last C z1 z2 dL_dropPoint_8 ?_
    refine q_goto (tgt := 18) C dL_dropPoint_9 (by decide) ?_
    refine q_iconst (v := 0) C dL_dropPoint_18 (by decide) ?_
    exact q_xret (q_iret C hr hlk dL_dropPoint_19 h.1 h.2.1 h.2.2)
def T_L_box (Cc Zz : Nat) (M : Mm) (a0 : Nat) (i1 : Int32) (i2 : Int32) (i3 : Int32) (i4 : Int32) (a5 : Nat) (Q : Int32 → Mm → Prop) (X : String → Mm → Prop) : Prop := ∃ dc_3 ds_3 : Nat, (0 + dc_3 ≤ Cc ∧ 0 + ds_3 ≤ Zz) ∧ kM M a0 = (8, 8) ∧ T_X8_box dc_3 ds_3 M a0 i1 i2 i3 i4 (fun r_1 M_2 => ∃ n_4 : Nat, kM M_2 a5 = (110, n_4) ∧ vp_in 0 n_4 ∧ (0 + dc_3) ≤ Cc ∧ (0 + ds_3) ≤ Zz ∧ Q 0 (wL M_2 a5 (0 : Int32).toNatClampNeg r_1.toInt64)) (fun E_x M_x => (E_x = "java/lang/IllegalArgumentException" ∧ (0 + dc_3) ≤ Cc ∧ (0 + ds_3) ≤ Zz ∧ Q 1 M_x) ∨ (E_x = "java/lang/IllegalStateException" ∧ (0 + dc_3) ≤ Cc ∧ (0 + ds_3) ≤ Zz ∧ Q 2 M_x))
set_option maxRecDepth 100000 in
set_option maxHeartbeats 4000000 in
theorem c_L_box (l : Launch) (hl : l.stackTraces = false) (D : va_G) (cA : Nat → ClassId) (lo : Nat) {M : Mm} {a0 : Nat} {i1 : Int32} {i2 : Int32} {i3 : Int32} {i4 : Int32} {a5 : Nat} {Cc Zz : Nat} {Q : Int32 → Mm → Prop} {X : String → Mm → Prop} (h : T_L_box Cc Zz M a0 i1 i2 i3 i4 a5 Q X) : vx_Met l yL_box wsL_box ({ frames := 9, cells := Cc, slots := Zz, locals := 157 } : Room) (PcM D cA lo [.ref a0, .int i1, .int i2, .int i3, .int i4, .ref a5] M) (QiM D cA lo Q) (XcM D cA lo X) Cc Zz (fun q => lo ≤ q) := by
  refine q_startH (hh := [(0, 14, 17, 13), (0, 14, 21, 15)]) (cc := cL_box) (nL := 7) (ret := (some .int)) (by decide) rfl rfl (Nat.le_of_ble_eq_true rfl) ?_
  intro p e s m args below meth c C hr hlk htab
  unfold T_L_box at h
  refine q_aload C dL_box_0 (j := 5) rfl ?_
  refine q_iconst (v := 0) C dL_box_2 (by decide) ?_
  refine q_aload_n C dL_box_3 rfl (j := 0) rfl ?_
  refine q_iload_n C dL_box_4 rfl (j := 1) rfl ?_
  refine q_iload_n C dL_box_5 rfl (j := 2) rfl ?_
  refine q_iload_n C dL_box_6 rfl (j := 3) rfl ?_
  refine q_iload C dL_box_7 (j := 4) rfl ?_
  obtain ⟨dc_3, ds_3, hcz, h⟩ := h
  refine q_xi (qx_runV (As := [.int i1, .int i2, .int i3, .int i4]) (st := [.int 0, .ref a5]) C (c_X8_box l hl D cA lo h.2) (cwV 4 C.2.2.2.2.1 gL_box_X8_box rfl rfl rfl (by decide +kernel) ⟨Nat.le_of_ble_eq_true rfl, Nat.le_of_ble_eq_true rfl⟩) h.1 (by decide) rfl rfl rfl (Nat.le_of_ble_eq_true rfl) dL_box_9 hcz) (fun E M_x h => ?_) (fun r_1 M_2 h => ?_)
  · rcases h with ⟨rfl, h⟩ | ⟨rfl, h⟩
    · have h := h
      refine q_catch (name := "") C htab [] (0, 14, 17, 13) [(0, 14, 21, 15)] rfl (by decide) (fun z hz => absurd hz List.not_mem_nil) (by decide) (by decide) (by decide +kernel) (fun qx => ?_)
      refine q_astore (lv' := [(6, .ref qx), (0, .ref a0), (1, .int i1), (2, .int i2), (3, .int i3), (4, .int i4), (5, .ref a5)]) C dL_box_17 (by decide) rfl ?_
      refine q_iconst (v := 1) C dL_box_19 (by decide) ?_
      exact q_xret (q_iret C hr hlk dL_box_20 h.1 h.2.1 h.2.2)
    · have h := h
      refine q_catch (name := "") C htab [(0, 14, 17, 13)] (0, 14, 21, 15) [] rfl (by decide) (List.forall_mem_cons.mpr ⟨Or.inr ⟨by decide, "java/lang/IllegalArgumentException", by decide, by decide, by decide +kernel⟩, fun z hz => absurd hz List.not_mem_nil⟩) (by decide) (by decide) (by decide +kernel) (fun qx => ?_)
      refine q_astore (lv' := [(6, .ref qx), (0, .ref a0), (1, .int i1), (2, .int i2), (3, .int i3), (4, .int i4), (5, .ref a5)]) C dL_box_21 (by decide) rfl ?_
      refine q_iconst (v := 2) C dL_box_23 (by decide) ?_
      exact q_xret (q_iret C hr hlk dL_box_24 h.1 h.2.1 h.2.2)
  · refine q_i2l C dL_box_12 ?_
    obtain ⟨n_4, z1, z2, h⟩ := h
    refine q_last C z1 z2 dL_box_13 ?_
    refine q_goto (tgt := 25) C dL_box_14 (by decide) ?_
    refine q_iconst (v := 0) C dL_box_25 (by decide) ?_
    exact q_xret (q_iret C hr hlk dL_box_26 h.1 h.2.1 h.2.2)
def T_L_split (Cc Zz : Nat) (M : Mm) (a0 : Nat) (i1 : Int32) (i2 : Int32) (a3 : Nat) (Q : Int32 → Mm → Prop) (X : String → Mm → Prop) : Prop := ∃ dc_3 ds_3 : Nat, (0 + dc_3 ≤ Cc ∧ 0 + ds_3 ≤ Zz) ∧ kM M a0 = (8, 8) ∧ T_X8_split dc_3 ds_3 M a0 i1 i2 (fun r_1 M_2 => ∃ n_4 : Nat, kM M_2 a3 = (110, n_4) ∧ vp_in 0 n_4 ∧ (0 + dc_3) ≤ Cc ∧ (0 + ds_3) ≤ Zz ∧ Q 0 (wL M_2 a3 (0 : Int32).toNatClampNeg r_1.toInt64)) (fun E_x M_x => (E_x = "java/lang/IndexOutOfBoundsException" ∧ (0 + dc_3) ≤ Cc ∧ (0 + ds_3) ≤ Zz ∧ Q 1 M_x) ∨ (E_x = "java/lang/IllegalArgumentException" ∧ (0 + dc_3) ≤ Cc ∧ (0 + ds_3) ≤ Zz ∧ Q 2 M_x) ∨ (E_x = "java/lang/IllegalStateException" ∧ (0 + dc_3) ≤ Cc ∧ (0 + ds_3) ≤ Zz ∧ Q 3 M_x))
set_option maxRecDepth 100000 in
set_option maxHeartbeats 4000000 in
theorem c_L_split (l : Launch) (hl : l.stackTraces = false) (D : va_G) (cA : Nat → ClassId) (lo : Nat) {M : Mm} {a0 : Nat} {i1 : Int32} {i2 : Int32} {a3 : Nat} {Cc Zz : Nat} {Q : Int32 → Mm → Prop} {X : String → Mm → Prop} (h : T_L_split Cc Zz M a0 i1 i2 a3 Q X) : vx_Met l yL_split wsL_split ({ frames := 9, cells := Cc, slots := Zz, locals := 158 } : Room) (PcM D cA lo [.ref a0, .int i1, .int i2, .ref a3] M) (QiM D cA lo Q) (XcM D cA lo X) Cc Zz (fun q => lo ≤ q) := by
  refine q_startH (hh := [(0, 10, 13, 21), (0, 10, 17, 13), (0, 10, 21, 15)]) (cc := cL_split) (nL := 5) (ret := (some .int)) (by decide) rfl rfl (Nat.le_of_ble_eq_true rfl) ?_
  intro p e s m args below meth c C hr hlk htab
  unfold T_L_split at h
  refine q_aload_n C dL_split_0 rfl (j := 3) rfl ?_
  refine q_iconst (v := 0) C dL_split_1 (by decide) ?_
  refine q_aload_n C dL_split_2 rfl (j := 0) rfl ?_
  refine q_iload_n C dL_split_3 rfl (j := 1) rfl ?_
  refine q_iload_n C dL_split_4 rfl (j := 2) rfl ?_
  obtain ⟨dc_3, ds_3, hcz, h⟩ := h
  refine q_xi (qx_runV (As := [.int i1, .int i2]) (st := [.int 0, .ref a3]) C (c_X8_split l hl D cA lo h.2) (cwV 2 C.2.2.2.2.1 gL_split_X8_split rfl rfl rfl (by decide +kernel) ⟨Nat.le_of_ble_eq_true rfl, Nat.le_of_ble_eq_true rfl⟩) h.1 (by decide) rfl rfl rfl (Nat.le_of_ble_eq_true rfl) dL_split_5 hcz) (fun E M_x h => ?_) (fun r_1 M_2 h => ?_)
  · rcases h with ⟨rfl, h⟩ | ⟨rfl, h⟩ | ⟨rfl, h⟩
    · have h := h
      refine q_catch (name := "") C htab [] (0, 10, 13, 21) [(0, 10, 17, 13), (0, 10, 21, 15)] rfl (by decide) (fun z hz => absurd hz List.not_mem_nil) (by decide) (by decide) (by decide +kernel) (fun qx => ?_)
      refine q_astore (lv' := [(4, .ref qx), (0, .ref a0), (1, .int i1), (2, .int i2), (3, .ref a3)]) C dL_split_13 (by decide) rfl ?_
      refine q_iconst (v := 1) C dL_split_15 (by decide) ?_
      exact q_xret (q_iret C hr hlk dL_split_16 h.1 h.2.1 h.2.2)
    · have h := h
      refine q_catch (name := "") C htab [(0, 10, 13, 21)] (0, 10, 17, 13) [(0, 10, 21, 15)] rfl (by decide) (List.forall_mem_cons.mpr ⟨Or.inr ⟨by decide, "java/lang/IndexOutOfBoundsException", by decide, by decide, by decide +kernel⟩, fun z hz => absurd hz List.not_mem_nil⟩) (by decide) (by decide) (by decide +kernel) (fun qx => ?_)
      refine q_astore (lv' := [(4, .ref qx), (0, .ref a0), (1, .int i1), (2, .int i2), (3, .ref a3)]) C dL_split_17 (by decide) rfl ?_
      refine q_iconst (v := 2) C dL_split_19 (by decide) ?_
      exact q_xret (q_iret C hr hlk dL_split_20 h.1 h.2.1 h.2.2)
    · have h := h
      refine q_catch (name := "") C htab [(0, 10, 13, 21), (0, 10, 17, 13)] (0, 10, 21, 15) [] rfl (by decide) (List.forall_mem_cons.mpr ⟨Or.inr ⟨by decide, "java/lang/IndexOutOfBoundsException", by decide, by decide, by decide +kernel⟩, List.forall_mem_cons.mpr ⟨Or.inr ⟨by decide, "java/lang/IllegalArgumentException", by decide, by decide, by decide +kernel⟩, fun z hz => absurd hz List.not_mem_nil⟩⟩) (by decide) (by decide) (by decide +kernel) (fun qx => ?_)
      refine q_astore (lv' := [(4, .ref qx), (0, .ref a0), (1, .int i1), (2, .int i2), (3, .ref a3)]) C dL_split_21 (by decide) rfl ?_
      refine q_iconst (v := 3) C dL_split_23 (by decide) ?_
      exact q_xret (q_iret C hr hlk dL_split_24 h.1 h.2.1 h.2.2)
  · refine q_i2l C dL_split_8 ?_
    obtain ⟨n_4, z1, z2, h⟩ := h
    refine q_last C z1 z2 dL_split_9 ?_
    refine q_goto (tgt := 25) C dL_split_10 (by decide) ?_
    refine q_iconst (v := 0) C dL_split_25 (by decide) ?_
    exact q_xret (q_iret C hr hlk dL_split_26 h.1 h.2.1 h.2.2)
def T_L_cut (Cc Zz : Nat) (M : Mm) (a0 : Nat) (i1 : Int32) (i2 : Int32) (i3 : Int32) (a4 : Nat) (Q : Int32 → Mm → Prop) (X : String → Mm → Prop) : Prop := ∃ dc_3 ds_3 : Nat, (0 + dc_3 ≤ Cc ∧ 0 + ds_3 ≤ Zz) ∧ kM M a0 = (8, 8) ∧ T_X8_cut dc_3 ds_3 M a0 i1 i2 i3 (fun r_1 M_2 => ∃ n_4 : Nat, kM M_2 a4 = (110, n_4) ∧ vp_in 0 n_4 ∧ (0 + dc_3) ≤ Cc ∧ (0 + ds_3) ≤ Zz ∧ Q 0 (wL M_2 a4 (0 : Int32).toNatClampNeg r_1.toInt64)) (fun E_x M_x => (E_x = "java/lang/IndexOutOfBoundsException" ∧ (0 + dc_3) ≤ Cc ∧ (0 + ds_3) ≤ Zz ∧ Q 1 M_x) ∨ (E_x = "java/lang/IllegalArgumentException" ∧ (0 + dc_3) ≤ Cc ∧ (0 + ds_3) ≤ Zz ∧ Q 2 M_x) ∨ (E_x = "java/lang/IllegalStateException" ∧ (0 + dc_3) ≤ Cc ∧ (0 + ds_3) ≤ Zz ∧ Q 3 M_x))
set_option maxRecDepth 100000 in
set_option maxHeartbeats 4000000 in
theorem c_L_cut (l : Launch) (hl : l.stackTraces = false) (D : va_G) (cA : Nat → ClassId) (lo : Nat) {M : Mm} {a0 : Nat} {i1 : Int32} {i2 : Int32} {i3 : Int32} {a4 : Nat} {Cc Zz : Nat} {Q : Int32 → Mm → Prop} {X : String → Mm → Prop} (h : T_L_cut Cc Zz M a0 i1 i2 i3 a4 Q X) : vx_Met l yL_cut wsL_cut ({ frames := 8, cells := Cc, slots := Zz, locals := 139 } : Room) (PcM D cA lo [.ref a0, .int i1, .int i2, .int i3, .ref a4] M) (QiM D cA lo Q) (XcM D cA lo X) Cc Zz (fun q => lo ≤ q) := by
  refine q_startH (hh := [(0, 12, 15, 21), (0, 12, 19, 13), (0, 12, 23, 15)]) (cc := cL_cut) (nL := 6) (ret := (some .int)) (by decide) rfl rfl (Nat.le_of_ble_eq_true rfl) ?_
  intro p e s m args below meth c C hr hlk htab
  unfold T_L_cut at h
  refine q_aload C dL_cut_0 (j := 4) rfl ?_
  refine q_iconst (v := 0) C dL_cut_2 (by decide) ?_
  refine q_aload_n C dL_cut_3 rfl (j := 0) rfl ?_
  refine q_iload_n C dL_cut_4 rfl (j := 1) rfl ?_
  refine q_iload_n C dL_cut_5 rfl (j := 2) rfl ?_
  refine q_iload_n C dL_cut_6 rfl (j := 3) rfl ?_
  obtain ⟨dc_3, ds_3, hcz, h⟩ := h
  refine q_xi (qx_runV (As := [.int i1, .int i2, .int i3]) (st := [.int 0, .ref a4]) C (c_X8_cut l hl D cA lo h.2) (cwV 3 C.2.2.2.2.1 gL_cut_X8_cut rfl rfl rfl (by decide +kernel) ⟨Nat.le_of_ble_eq_true rfl, Nat.le_of_ble_eq_true rfl⟩) h.1 (by decide) rfl rfl rfl (Nat.le_of_ble_eq_true rfl) dL_cut_7 hcz) (fun E M_x h => ?_) (fun r_1 M_2 h => ?_)
  · rcases h with ⟨rfl, h⟩ | ⟨rfl, h⟩ | ⟨rfl, h⟩
    · have h := h
      refine q_catch (name := "") C htab [] (0, 12, 15, 21) [(0, 12, 19, 13), (0, 12, 23, 15)] rfl (by decide) (fun z hz => absurd hz List.not_mem_nil) (by decide) (by decide) (by decide +kernel) (fun qx => ?_)
      refine q_astore (lv' := [(5, .ref qx), (0, .ref a0), (1, .int i1), (2, .int i2), (3, .int i3), (4, .ref a4)]) C dL_cut_15 (by decide) rfl ?_
      refine q_iconst (v := 1) C dL_cut_17 (by decide) ?_
      exact q_xret (q_iret C hr hlk dL_cut_18 h.1 h.2.1 h.2.2)
    · have h := h
      refine q_catch (name := "") C htab [(0, 12, 15, 21)] (0, 12, 19, 13) [(0, 12, 23, 15)] rfl (by decide) (List.forall_mem_cons.mpr ⟨Or.inr ⟨by decide, "java/lang/IndexOutOfBoundsException", by decide, by decide, by decide +kernel⟩, fun z hz => absurd hz List.not_mem_nil⟩) (by decide) (by decide) (by decide +kernel) (fun qx => ?_)
      refine q_astore (lv' := [(5, .ref qx), (0, .ref a0), (1, .int i1), (2, .int i2), (3, .int i3), (4, .ref a4)]) C dL_cut_19 (by decide) rfl ?_
      refine q_iconst (v := 2) C dL_cut_21 (by decide) ?_
      exact q_xret (q_iret C hr hlk dL_cut_22 h.1 h.2.1 h.2.2)
    · have h := h
      refine q_catch (name := "") C htab [(0, 12, 15, 21), (0, 12, 19, 13)] (0, 12, 23, 15) [] rfl (by decide) (List.forall_mem_cons.mpr ⟨Or.inr ⟨by decide, "java/lang/IndexOutOfBoundsException", by decide, by decide, by decide +kernel⟩, List.forall_mem_cons.mpr ⟨Or.inr ⟨by decide, "java/lang/IllegalArgumentException", by decide, by decide, by decide +kernel⟩, fun z hz => absurd hz List.not_mem_nil⟩⟩) (by decide) (by decide) (by decide +kernel) (fun qx => ?_)
      refine q_astore (lv' := [(5, .ref qx), (0, .ref a0), (1, .int i1), (2, .int i2), (3, .int i3), (4, .ref a4)]) C dL_cut_23 (by decide) rfl ?_
      refine q_iconst (v := 3) C dL_cut_25 (by decide) ?_
      exact q_xret (q_iret C hr hlk dL_cut_26 h.1 h.2.1 h.2.2)
  · refine q_i2l C dL_cut_10 ?_
    obtain ⟨n_4, z1, z2, h⟩ := h
    refine q_last C z1 z2 dL_cut_11 ?_
    refine q_goto (tgt := 27) C dL_cut_12 (by decide) ?_
    refine q_iconst (v := 0) C dL_cut_27 (by decide) ?_
    exact q_xret (q_iret C hr hlk dL_cut_28 h.1 h.2.1 h.2.2)
def T_L_join (Cc Zz : Nat) (M : Mm) (a0 : Nat) (i1 : Int32) (i2 : Int32) (a3 : Nat) (Q : Int32 → Mm → Prop) (X : String → Mm → Prop) : Prop := ∃ dc_3 ds_3 : Nat, (0 + dc_3 ≤ Cc ∧ 0 + ds_3 ≤ Zz) ∧ kM M a0 = (8, 8) ∧ T_X8_join dc_3 ds_3 M a0 i1 i2 (fun r_1 M_2 => ∃ n_4 : Nat, kM M_2 a3 = (110, n_4) ∧ vp_in 0 n_4 ∧ (0 + dc_3) ≤ Cc ∧ (0 + ds_3) ≤ Zz ∧ Q 0 (wL M_2 a3 (0 : Int32).toNatClampNeg r_1.toInt64)) (fun E_x M_x => (E_x = "java/lang/IndexOutOfBoundsException" ∧ (0 + dc_3) ≤ Cc ∧ (0 + ds_3) ≤ Zz ∧ Q 1 M_x) ∨ (E_x = "java/lang/IllegalArgumentException" ∧ (0 + dc_3) ≤ Cc ∧ (0 + ds_3) ≤ Zz ∧ Q 2 M_x) ∨ (E_x = "java/lang/IllegalStateException" ∧ (0 + dc_3) ≤ Cc ∧ (0 + ds_3) ≤ Zz ∧ Q 3 M_x))
set_option maxRecDepth 100000 in
set_option maxHeartbeats 4000000 in
theorem c_L_join (l : Launch) (hl : l.stackTraces = false) (D : va_G) (cA : Nat → ClassId) (lo : Nat) {M : Mm} {a0 : Nat} {i1 : Int32} {i2 : Int32} {a3 : Nat} {Cc Zz : Nat} {Q : Int32 → Mm → Prop} {X : String → Mm → Prop} (h : T_L_join Cc Zz M a0 i1 i2 a3 Q X) : vx_Met l yL_join wsL_join ({ frames := 9, cells := Cc, slots := Zz, locals := 159 } : Room) (PcM D cA lo [.ref a0, .int i1, .int i2, .ref a3] M) (QiM D cA lo Q) (XcM D cA lo X) Cc Zz (fun q => lo ≤ q) := by
  refine q_startH (hh := [(0, 10, 13, 21), (0, 10, 17, 13), (0, 10, 21, 15)]) (cc := cL_join) (nL := 5) (ret := (some .int)) (by decide) rfl rfl (Nat.le_of_ble_eq_true rfl) ?_
  intro p e s m args below meth c C hr hlk htab
  unfold T_L_join at h
  refine q_aload_n C dL_join_0 rfl (j := 3) rfl ?_
  refine q_iconst (v := 0) C dL_join_1 (by decide) ?_
  refine q_aload_n C dL_join_2 rfl (j := 0) rfl ?_
  refine q_iload_n C dL_join_3 rfl (j := 1) rfl ?_
  refine q_iload_n C dL_join_4 rfl (j := 2) rfl ?_
  obtain ⟨dc_3, ds_3, hcz, h⟩ := h
  refine q_xi (qx_runV (As := [.int i1, .int i2]) (st := [.int 0, .ref a3]) C (c_X8_join l hl D cA lo h.2) (cwV 2 C.2.2.2.2.1 gL_join_X8_join rfl rfl rfl (by decide +kernel) ⟨Nat.le_of_ble_eq_true rfl, Nat.le_of_ble_eq_true rfl⟩) h.1 (by decide) rfl rfl rfl (Nat.le_of_ble_eq_true rfl) dL_join_5 hcz) (fun E M_x h => ?_) (fun r_1 M_2 h => ?_)
  · rcases h with ⟨rfl, h⟩ | ⟨rfl, h⟩ | ⟨rfl, h⟩
    · have h := h
      refine q_catch (name := "") C htab [] (0, 10, 13, 21) [(0, 10, 17, 13), (0, 10, 21, 15)] rfl (by decide) (fun z hz => absurd hz List.not_mem_nil) (by decide) (by decide) (by decide +kernel) (fun qx => ?_)
      refine q_astore (lv' := [(4, .ref qx), (0, .ref a0), (1, .int i1), (2, .int i2), (3, .ref a3)]) C dL_join_13 (by decide) rfl ?_
      refine q_iconst (v := 1) C dL_join_15 (by decide) ?_
      exact q_xret (q_iret C hr hlk dL_join_16 h.1 h.2.1 h.2.2)
    · have h := h
      refine q_catch (name := "") C htab [(0, 10, 13, 21)] (0, 10, 17, 13) [(0, 10, 21, 15)] rfl (by decide) (List.forall_mem_cons.mpr ⟨Or.inr ⟨by decide, "java/lang/IndexOutOfBoundsException", by decide, by decide, by decide +kernel⟩, fun z hz => absurd hz List.not_mem_nil⟩) (by decide) (by decide) (by decide +kernel) (fun qx => ?_)
      refine q_astore (lv' := [(4, .ref qx), (0, .ref a0), (1, .int i1), (2, .int i2), (3, .ref a3)]) C dL_join_17 (by decide) rfl ?_
      refine q_iconst (v := 2) C dL_join_19 (by decide) ?_
      exact q_xret (q_iret C hr hlk dL_join_20 h.1 h.2.1 h.2.2)
    · have h := h
      refine q_catch (name := "") C htab [(0, 10, 13, 21), (0, 10, 17, 13)] (0, 10, 21, 15) [] rfl (by decide) (List.forall_mem_cons.mpr ⟨Or.inr ⟨by decide, "java/lang/IndexOutOfBoundsException", by decide, by decide, by decide +kernel⟩, List.forall_mem_cons.mpr ⟨Or.inr ⟨by decide, "java/lang/IllegalArgumentException", by decide, by decide, by decide +kernel⟩, fun z hz => absurd hz List.not_mem_nil⟩⟩) (by decide) (by decide) (by decide +kernel) (fun qx => ?_)
      refine q_astore (lv' := [(4, .ref qx), (0, .ref a0), (1, .int i1), (2, .int i2), (3, .ref a3)]) C dL_join_21 (by decide) rfl ?_
      refine q_iconst (v := 3) C dL_join_23 (by decide) ?_
      exact q_xret (q_iret C hr hlk dL_join_24 h.1 h.2.1 h.2.2)
  · refine q_i2l C dL_join_8 ?_
    obtain ⟨n_4, z1, z2, h⟩ := h
    refine q_last C z1 z2 dL_join_9 ?_
    refine q_goto (tgt := 25) C dL_join_10 (by decide) ?_
    refine q_iconst (v := 0) C dL_join_25 (by decide) ?_
    exact q_xret (q_iret C hr hlk dL_join_26 h.1 h.2.1 h.2.2)
def T_L_collapse (Cc Zz : Nat) (M : Mm) (a0 : Nat) (i1 : Int32) (i2 : Int32) (a3 : Nat) (Q : Int32 → Mm → Prop) (X : String → Mm → Prop) : Prop := ∃ dc_3 ds_3 : Nat, (0 + dc_3 ≤ Cc ∧ 0 + ds_3 ≤ Zz) ∧ kM M a0 = (8, 8) ∧ T_X8_collapse dc_3 ds_3 M a0 i1 i2 (fun r_1 M_2 => ∃ n_4 : Nat, kM M_2 a3 = (110, n_4) ∧ vp_in 0 n_4 ∧ (0 + dc_3) ≤ Cc ∧ (0 + ds_3) ≤ Zz ∧ Q 0 (wL M_2 a3 (0 : Int32).toNatClampNeg r_1.toInt64)) (fun E_x M_x => (E_x = "java/lang/IndexOutOfBoundsException" ∧ (0 + dc_3) ≤ Cc ∧ (0 + ds_3) ≤ Zz ∧ Q 1 M_x) ∨ (E_x = "java/lang/IllegalArgumentException" ∧ (0 + dc_3) ≤ Cc ∧ (0 + ds_3) ≤ Zz ∧ Q 2 M_x) ∨ (E_x = "java/lang/IllegalStateException" ∧ (0 + dc_3) ≤ Cc ∧ (0 + ds_3) ≤ Zz ∧ Q 3 M_x))
set_option maxRecDepth 100000 in
set_option maxHeartbeats 4000000 in
theorem c_L_collapse (l : Launch) (hl : l.stackTraces = false) (D : va_G) (cA : Nat → ClassId) (lo : Nat) {M : Mm} {a0 : Nat} {i1 : Int32} {i2 : Int32} {a3 : Nat} {Cc Zz : Nat} {Q : Int32 → Mm → Prop} {X : String → Mm → Prop} (h : T_L_collapse Cc Zz M a0 i1 i2 a3 Q X) : vx_Met l yL_collapse wsL_collapse ({ frames := 9, cells := Cc, slots := Zz, locals := 156 } : Room) (PcM D cA lo [.ref a0, .int i1, .int i2, .ref a3] M) (QiM D cA lo Q) (XcM D cA lo X) Cc Zz (fun q => lo ≤ q) := by
  refine q_startH (hh := [(0, 10, 13, 21), (0, 10, 17, 13), (0, 10, 21, 15)]) (cc := cL_collapse) (nL := 5) (ret := (some .int)) (by decide) rfl rfl (Nat.le_of_ble_eq_true rfl) ?_
  intro p e s m args below meth c C hr hlk htab
  unfold T_L_collapse at h
  refine q_aload_n C dL_collapse_0 rfl (j := 3) rfl ?_
  refine q_iconst (v := 0) C dL_collapse_1 (by decide) ?_
  refine q_aload_n C dL_collapse_2 rfl (j := 0) rfl ?_
  refine q_iload_n C dL_collapse_3 rfl (j := 1) rfl ?_
  refine q_iload_n C dL_collapse_4 rfl (j := 2) rfl ?_
  obtain ⟨dc_3, ds_3, hcz, h⟩ := h
  refine q_xi (qx_runV (As := [.int i1, .int i2]) (st := [.int 0, .ref a3]) C (c_X8_collapse l hl D cA lo h.2) (cwV 2 C.2.2.2.2.1 gL_collapse_X8_collapse rfl rfl rfl (by decide +kernel) ⟨Nat.le_of_ble_eq_true rfl, Nat.le_of_ble_eq_true rfl⟩) h.1 (by decide) rfl rfl rfl (Nat.le_of_ble_eq_true rfl) dL_collapse_5 hcz) (fun E M_x h => ?_) (fun r_1 M_2 h => ?_)
  · rcases h with ⟨rfl, h⟩ | ⟨rfl, h⟩ | ⟨rfl, h⟩
    · have h := h
      refine q_catch (name := "") C htab [] (0, 10, 13, 21) [(0, 10, 17, 13), (0, 10, 21, 15)] rfl (by decide) (fun z hz => absurd hz List.not_mem_nil) (by decide) (by decide) (by decide +kernel) (fun qx => ?_)
      refine q_astore (lv' := [(4, .ref qx), (0, .ref a0), (1, .int i1), (2, .int i2), (3, .ref a3)]) C dL_collapse_13 (by decide) rfl ?_
      refine q_iconst (v := 1) C dL_collapse_15 (by decide) ?_
      exact q_xret (q_iret C hr hlk dL_collapse_16 h.1 h.2.1 h.2.2)
    · have h := h
      refine q_catch (name := "") C htab [(0, 10, 13, 21)] (0, 10, 17, 13) [(0, 10, 21, 15)] rfl (by decide) (List.forall_mem_cons.mpr ⟨Or.inr ⟨by decide, "java/lang/IndexOutOfBoundsException", by decide, by decide, by decide +kernel⟩, fun z hz => absurd hz List.not_mem_nil⟩) (by decide) (by decide) (by decide +kernel) (fun qx => ?_)
      refine q_astore (lv' := [(4, .ref qx), (0, .ref a0), (1, .int i1), (2, .int i2), (3, .ref a3)]) C dL_collapse_17 (by decide) rfl ?_
      refine q_iconst (v := 2) C dL_collapse_19 (by decide) ?_
      exact q_xret (q_iret C hr hlk dL_collapse_20 h.1 h.2.1 h.2.2)
    · have h := h
      refine q_catch (name := "") C htab [(0, 10, 13, 21), (0, 10, 17, 13)] (0, 10, 21, 15) [] rfl (by decide) (List.forall_mem_cons.mpr ⟨Or.inr ⟨by decide, "java/lang/IndexOutOfBoundsException", by decide, by decide, by decide +kernel⟩, List.forall_mem_cons.mpr ⟨Or.inr ⟨by decide, "java/lang/IllegalArgumentException", by decide, by decide, by decide +kernel⟩, fun z hz => absurd hz List.not_mem_nil⟩⟩) (by decide) (by decide) (by decide +kernel) (fun qx => ?_)
      refine q_astore (lv' := [(4, .ref qx), (0, .ref a0), (1, .int i1), (2, .int i2), (3, .ref a3)]) C dL_collapse_21 (by decide) rfl ?_
      refine q_iconst (v := 3) C dL_collapse_23 (by decide) ?_
      exact q_xret (q_iret C hr hlk dL_collapse_24 h.1 h.2.1 h.2.2)
  · refine q_i2l C dL_collapse_8 ?_
    obtain ⟨n_4, z1, z2, h⟩ := h
    refine q_last C z1 z2 dL_collapse_9 ?_
    refine q_goto (tgt := 25) C dL_collapse_10 (by decide) ?_
    refine q_iconst (v := 0) C dL_collapse_25 (by decide) ?_
    exact q_xret (q_iret C hr hlk dL_collapse_26 h.1 h.2.1 h.2.2)
def T_L_flip (Cc Zz : Nat) (M : Mm) (a0 : Nat) (i1 : Int32) (i2 : Int32) (a3 : Nat) (Q : Int32 → Mm → Prop) (X : String → Mm → Prop) : Prop := ∃ dc_3 ds_3 : Nat, (0 + dc_3 ≤ Cc ∧ 0 + ds_3 ≤ Zz) ∧ kM M a0 = (8, 8) ∧ T_X8_flip dc_3 ds_3 M a0 i1 i2 (fun r_1 M_2 => ∃ n_4 : Nat, kM M_2 a3 = (110, n_4) ∧ vp_in 0 n_4 ∧ (0 + dc_3) ≤ Cc ∧ (0 + ds_3) ≤ Zz ∧ Q 0 (wL M_2 a3 (0 : Int32).toNatClampNeg r_1.toInt64)) (fun E_x M_x => (E_x = "java/lang/IndexOutOfBoundsException" ∧ (0 + dc_3) ≤ Cc ∧ (0 + ds_3) ≤ Zz ∧ Q 1 M_x) ∨ (E_x = "java/lang/IllegalArgumentException" ∧ (0 + dc_3) ≤ Cc ∧ (0 + ds_3) ≤ Zz ∧ Q 2 M_x) ∨ (E_x = "java/lang/IllegalStateException" ∧ (0 + dc_3) ≤ Cc ∧ (0 + ds_3) ≤ Zz ∧ Q 3 M_x))
set_option maxRecDepth 100000 in
set_option maxHeartbeats 4000000 in
theorem c_L_flip (l : Launch) (hl : l.stackTraces = false) (D : va_G) (cA : Nat → ClassId) (lo : Nat) {M : Mm} {a0 : Nat} {i1 : Int32} {i2 : Int32} {a3 : Nat} {Cc Zz : Nat} {Q : Int32 → Mm → Prop} {X : String → Mm → Prop} (h : T_L_flip Cc Zz M a0 i1 i2 a3 Q X) : vx_Met l yL_flip wsL_flip ({ frames := 9, cells := Cc, slots := Zz, locals := 159 } : Room) (PcM D cA lo [.ref a0, .int i1, .int i2, .ref a3] M) (QiM D cA lo Q) (XcM D cA lo X) Cc Zz (fun q => lo ≤ q) := by
  refine q_startH (hh := [(0, 10, 13, 21), (0, 10, 17, 13), (0, 10, 21, 15)]) (cc := cL_flip) (nL := 5) (ret := (some .int)) (by decide) rfl rfl (Nat.le_of_ble_eq_true rfl) ?_
  intro p e s m args below meth c C hr hlk htab
  unfold T_L_flip at h
  refine q_aload_n C dL_flip_0 rfl (j := 3) rfl ?_
  refine q_iconst (v := 0) C dL_flip_1 (by decide) ?_
  refine q_aload_n C dL_flip_2 rfl (j := 0) rfl ?_
  refine q_iload_n C dL_flip_3 rfl (j := 1) rfl ?_
  refine q_iload_n C dL_flip_4 rfl (j := 2) rfl ?_
  obtain ⟨dc_3, ds_3, hcz, h⟩ := h
  refine q_xi (qx_runV (As := [.int i1, .int i2]) (st := [.int 0, .ref a3]) C (c_X8_flip l hl D cA lo h.2) (cwV 2 C.2.2.2.2.1 gL_flip_X8_flip rfl rfl rfl (by decide +kernel) ⟨Nat.le_of_ble_eq_true rfl, Nat.le_of_ble_eq_true rfl⟩) h.1 (by decide) rfl rfl rfl (Nat.le_of_ble_eq_true rfl) dL_flip_5 hcz) (fun E M_x h => ?_) (fun r_1 M_2 h => ?_)
  · rcases h with ⟨rfl, h⟩ | ⟨rfl, h⟩ | ⟨rfl, h⟩
    · have h := h
      refine q_catch (name := "") C htab [] (0, 10, 13, 21) [(0, 10, 17, 13), (0, 10, 21, 15)] rfl (by decide) (fun z hz => absurd hz List.not_mem_nil) (by decide) (by decide) (by decide +kernel) (fun qx => ?_)
      refine q_astore (lv' := [(4, .ref qx), (0, .ref a0), (1, .int i1), (2, .int i2), (3, .ref a3)]) C dL_flip_13 (by decide) rfl ?_
      refine q_iconst (v := 1) C dL_flip_15 (by decide) ?_
      exact q_xret (q_iret C hr hlk dL_flip_16 h.1 h.2.1 h.2.2)
    · have h := h
      refine q_catch (name := "") C htab [(0, 10, 13, 21)] (0, 10, 17, 13) [(0, 10, 21, 15)] rfl (by decide) (List.forall_mem_cons.mpr ⟨Or.inr ⟨by decide, "java/lang/IndexOutOfBoundsException", by decide, by decide, by decide +kernel⟩, fun z hz => absurd hz List.not_mem_nil⟩) (by decide) (by decide) (by decide +kernel) (fun qx => ?_)
      refine q_astore (lv' := [(4, .ref qx), (0, .ref a0), (1, .int i1), (2, .int i2), (3, .ref a3)]) C dL_flip_17 (by decide) rfl ?_
      refine q_iconst (v := 2) C dL_flip_19 (by decide) ?_
      exact q_xret (q_iret C hr hlk dL_flip_20 h.1 h.2.1 h.2.2)
    · have h := h
      refine q_catch (name := "") C htab [(0, 10, 13, 21), (0, 10, 17, 13)] (0, 10, 21, 15) [] rfl (by decide) (List.forall_mem_cons.mpr ⟨Or.inr ⟨by decide, "java/lang/IndexOutOfBoundsException", by decide, by decide, by decide +kernel⟩, List.forall_mem_cons.mpr ⟨Or.inr ⟨by decide, "java/lang/IllegalArgumentException", by decide, by decide, by decide +kernel⟩, fun z hz => absurd hz List.not_mem_nil⟩⟩) (by decide) (by decide) (by decide +kernel) (fun qx => ?_)
      refine q_astore (lv' := [(4, .ref qx), (0, .ref a0), (1, .int i1), (2, .int i2), (3, .ref a3)]) C dL_flip_21 (by decide) rfl ?_
      refine q_iconst (v := 3) C dL_flip_23 (by decide) ?_
      exact q_xret (q_iret C hr hlk dL_flip_24 h.1 h.2.1 h.2.2)
  · refine q_i2l C dL_flip_8 ?_
    obtain ⟨n_4, z1, z2, h⟩ := h
    refine q_last C z1 z2 dL_flip_9 ?_
    refine q_goto (tgt := 25) C dL_flip_10 (by decide) ?_
    refine q_iconst (v := 0) C dL_flip_25 (by decide) ?_
    exact q_xret (q_iret C hr hlk dL_flip_26 h.1 h.2.1 h.2.2)
def T_L_draw (Cc Zz : Nat) (M : Mm) (a0 : Nat) (i1 : Int32) (i2 : Int32) (i3 : Int32) (i4 : Int32) (a5 : Nat) (Q : Int32 → Mm → Prop) (X : String → Mm → Prop) : Prop := ∃ dc_3 ds_3 : Nat, (0 + dc_3 ≤ Cc ∧ 0 + ds_3 ≤ Zz) ∧ kM M a0 = (8, 8) ∧ T_X8_draw dc_3 ds_3 M a0 i1 i2 i3 i4 (fun r_1 M_2 => ∃ n_4 : Nat, kM M_2 a5 = (110, n_4) ∧ vp_in 0 n_4 ∧ (0 + dc_3) ≤ Cc ∧ (0 + ds_3) ≤ Zz ∧ Q 0 (wL M_2 a5 (0 : Int32).toNatClampNeg r_1.toInt64)) (fun E_x M_x => (E_x = "java/lang/IndexOutOfBoundsException" ∧ (0 + dc_3) ≤ Cc ∧ (0 + ds_3) ≤ Zz ∧ Q 1 M_x) ∨ (E_x = "java/lang/IllegalArgumentException" ∧ (0 + dc_3) ≤ Cc ∧ (0 + ds_3) ≤ Zz ∧ Q 2 M_x) ∨ (E_x = "java/lang/IllegalStateException" ∧ (0 + dc_3) ≤ Cc ∧ (0 + ds_3) ≤ Zz ∧ Q 3 M_x))
set_option maxRecDepth 100000 in
set_option maxHeartbeats 4000000 in
theorem c_L_draw (l : Launch) (hl : l.stackTraces = false) (D : va_G) (cA : Nat → ClassId) (lo : Nat) {M : Mm} {a0 : Nat} {i1 : Int32} {i2 : Int32} {i3 : Int32} {i4 : Int32} {a5 : Nat} {Cc Zz : Nat} {Q : Int32 → Mm → Prop} {X : String → Mm → Prop} (h : T_L_draw Cc Zz M a0 i1 i2 i3 i4 a5 Q X) : vx_Met l yL_draw wsL_draw ({ frames := 8, cells := Cc, slots := Zz, locals := 143 } : Room) (PcM D cA lo [.ref a0, .int i1, .int i2, .int i3, .int i4, .ref a5] M) (QiM D cA lo Q) (XcM D cA lo X) Cc Zz (fun q => lo ≤ q) := by
  refine q_startH (hh := [(0, 14, 17, 21), (0, 14, 21, 13), (0, 14, 25, 15)]) (cc := cL_draw) (nL := 7) (ret := (some .int)) (by decide) rfl rfl (Nat.le_of_ble_eq_true rfl) ?_
  intro p e s m args below meth c C hr hlk htab
  unfold T_L_draw at h
  refine q_aload C dL_draw_0 (j := 5) rfl ?_
  refine q_iconst (v := 0) C dL_draw_2 (by decide) ?_
  refine q_aload_n C dL_draw_3 rfl (j := 0) rfl ?_
  refine q_iload_n C dL_draw_4 rfl (j := 1) rfl ?_
  refine q_iload_n C dL_draw_5 rfl (j := 2) rfl ?_
  refine q_iload_n C dL_draw_6 rfl (j := 3) rfl ?_
  refine q_iload C dL_draw_7 (j := 4) rfl ?_
  obtain ⟨dc_3, ds_3, hcz, h⟩ := h
  refine q_xi (qx_runV (As := [.int i1, .int i2, .int i3, .int i4]) (st := [.int 0, .ref a5]) C (c_X8_draw l hl D cA lo h.2) (cwV 4 C.2.2.2.2.1 gL_draw_X8_draw rfl rfl rfl (by decide +kernel) ⟨Nat.le_of_ble_eq_true rfl, Nat.le_of_ble_eq_true rfl⟩) h.1 (by decide) rfl rfl rfl (Nat.le_of_ble_eq_true rfl) dL_draw_9 hcz) (fun E M_x h => ?_) (fun r_1 M_2 h => ?_)
  · rcases h with ⟨rfl, h⟩ | ⟨rfl, h⟩ | ⟨rfl, h⟩
    · have h := h
      refine q_catch (name := "") C htab [] (0, 14, 17, 21) [(0, 14, 21, 13), (0, 14, 25, 15)] rfl (by decide) (fun z hz => absurd hz List.not_mem_nil) (by decide) (by decide) (by decide +kernel) (fun qx => ?_)
      refine q_astore (lv' := [(6, .ref qx), (0, .ref a0), (1, .int i1), (2, .int i2), (3, .int i3), (4, .int i4), (5, .ref a5)]) C dL_draw_17 (by decide) rfl ?_
      refine q_iconst (v := 1) C dL_draw_19 (by decide) ?_
      exact q_xret (q_iret C hr hlk dL_draw_20 h.1 h.2.1 h.2.2)
    · have h := h
      refine q_catch (name := "") C htab [(0, 14, 17, 21)] (0, 14, 21, 13) [(0, 14, 25, 15)] rfl (by decide) (List.forall_mem_cons.mpr ⟨Or.inr ⟨by decide, "java/lang/IndexOutOfBoundsException", by decide, by decide, by decide +kernel⟩, fun z hz => absurd hz List.not_mem_nil⟩) (by decide) (by decide) (by decide +kernel) (fun qx => ?_)
      refine q_astore (lv' := [(6, .ref qx), (0, .ref a0), (1, .int i1), (2, .int i2), (3, .int i3), (4, .int i4), (5, .ref a5)]) C dL_draw_21 (by decide) rfl ?_
      refine q_iconst (v := 2) C dL_draw_23 (by decide) ?_
      exact q_xret (q_iret C hr hlk dL_draw_24 h.1 h.2.1 h.2.2)
    · have h := h
      refine q_catch (name := "") C htab [(0, 14, 17, 21), (0, 14, 21, 13)] (0, 14, 25, 15) [] rfl (by decide) (List.forall_mem_cons.mpr ⟨Or.inr ⟨by decide, "java/lang/IndexOutOfBoundsException", by decide, by decide, by decide +kernel⟩, List.forall_mem_cons.mpr ⟨Or.inr ⟨by decide, "java/lang/IllegalArgumentException", by decide, by decide, by decide +kernel⟩, fun z hz => absurd hz List.not_mem_nil⟩⟩) (by decide) (by decide) (by decide +kernel) (fun qx => ?_)
      refine q_astore (lv' := [(6, .ref qx), (0, .ref a0), (1, .int i1), (2, .int i2), (3, .int i3), (4, .int i4), (5, .ref a5)]) C dL_draw_25 (by decide) rfl ?_
      refine q_iconst (v := 3) C dL_draw_27 (by decide) ?_
      exact q_xret (q_iret C hr hlk dL_draw_28 h.1 h.2.1 h.2.2)
  · refine q_i2l C dL_draw_12 ?_
    obtain ⟨n_4, z1, z2, h⟩ := h
    refine q_last C z1 z2 dL_draw_13 ?_
    refine q_goto (tgt := 29) C dL_draw_14 (by decide) ?_
    refine q_iconst (v := 0) C dL_draw_29 (by decide) ?_
    exact q_xret (q_iret C hr hlk dL_draw_30 h.1 h.2.1 h.2.2)
def T_L_fill (Cc Zz : Nat) (M : Mm) (a0 : Nat) (i1 : Int32) (i2 : Int32) (a3 : Nat) (Q : Int32 → Mm → Prop) (X : String → Mm → Prop) : Prop := ∃ dc_3 ds_3 : Nat, (0 + dc_3 ≤ Cc ∧ 0 + ds_3 ≤ Zz) ∧ kM M a0 = (8, 8) ∧ T_X8_fill dc_3 ds_3 M a0 i1 i2 (fun r_1 M_2 => ∃ n_4 : Nat, kM M_2 a3 = (110, n_4) ∧ vp_in 0 n_4 ∧ (0 + dc_3) ≤ Cc ∧ (0 + ds_3) ≤ Zz ∧ Q 0 (wL M_2 a3 (0 : Int32).toNatClampNeg r_1.toInt64)) (fun E_x M_x => (E_x = "java/lang/IndexOutOfBoundsException" ∧ (0 + dc_3) ≤ Cc ∧ (0 + ds_3) ≤ Zz ∧ Q 1 M_x) ∨ (E_x = "java/lang/IllegalArgumentException" ∧ (0 + dc_3) ≤ Cc ∧ (0 + ds_3) ≤ Zz ∧ Q 2 M_x) ∨ (E_x = "java/lang/IllegalStateException" ∧ (0 + dc_3) ≤ Cc ∧ (0 + ds_3) ≤ Zz ∧ Q 3 M_x))
set_option maxRecDepth 100000 in
set_option maxHeartbeats 4000000 in
theorem c_L_fill (l : Launch) (hl : l.stackTraces = false) (D : va_G) (cA : Nat → ClassId) (lo : Nat) {M : Mm} {a0 : Nat} {i1 : Int32} {i2 : Int32} {a3 : Nat} {Cc Zz : Nat} {Q : Int32 → Mm → Prop} {X : String → Mm → Prop} (h : T_L_fill Cc Zz M a0 i1 i2 a3 Q X) : vx_Met l yL_fill wsL_fill ({ frames := 9, cells := Cc, slots := Zz, locals := 156 } : Room) (PcM D cA lo [.ref a0, .int i1, .int i2, .ref a3] M) (QiM D cA lo Q) (XcM D cA lo X) Cc Zz (fun q => lo ≤ q) := by
  refine q_startH (hh := [(0, 10, 13, 21), (0, 10, 17, 13), (0, 10, 21, 15)]) (cc := cL_fill) (nL := 5) (ret := (some .int)) (by decide) rfl rfl (Nat.le_of_ble_eq_true rfl) ?_
  intro p e s m args below meth c C hr hlk htab
  unfold T_L_fill at h
  refine q_aload_n C dL_fill_0 rfl (j := 3) rfl ?_
  refine q_iconst (v := 0) C dL_fill_1 (by decide) ?_
  refine q_aload_n C dL_fill_2 rfl (j := 0) rfl ?_
  refine q_iload_n C dL_fill_3 rfl (j := 1) rfl ?_
  refine q_iload_n C dL_fill_4 rfl (j := 2) rfl ?_
  obtain ⟨dc_3, ds_3, hcz, h⟩ := h
  refine q_xi (qx_runV (As := [.int i1, .int i2]) (st := [.int 0, .ref a3]) C (c_X8_fill l hl D cA lo h.2) (cwV 2 C.2.2.2.2.1 gL_fill_X8_fill rfl rfl rfl (by decide +kernel) ⟨Nat.le_of_ble_eq_true rfl, Nat.le_of_ble_eq_true rfl⟩) h.1 (by decide) rfl rfl rfl (Nat.le_of_ble_eq_true rfl) dL_fill_5 hcz) (fun E M_x h => ?_) (fun r_1 M_2 h => ?_)
  · rcases h with ⟨rfl, h⟩ | ⟨rfl, h⟩ | ⟨rfl, h⟩
    · have h := h
      refine q_catch (name := "") C htab [] (0, 10, 13, 21) [(0, 10, 17, 13), (0, 10, 21, 15)] rfl (by decide) (fun z hz => absurd hz List.not_mem_nil) (by decide) (by decide) (by decide +kernel) (fun qx => ?_)
      refine q_astore (lv' := [(4, .ref qx), (0, .ref a0), (1, .int i1), (2, .int i2), (3, .ref a3)]) C dL_fill_13 (by decide) rfl ?_
      refine q_iconst (v := 1) C dL_fill_15 (by decide) ?_
      exact q_xret (q_iret C hr hlk dL_fill_16 h.1 h.2.1 h.2.2)
    · have h := h
      refine q_catch (name := "") C htab [(0, 10, 13, 21)] (0, 10, 17, 13) [(0, 10, 21, 15)] rfl (by decide) (List.forall_mem_cons.mpr ⟨Or.inr ⟨by decide, "java/lang/IndexOutOfBoundsException", by decide, by decide, by decide +kernel⟩, fun z hz => absurd hz List.not_mem_nil⟩) (by decide) (by decide) (by decide +kernel) (fun qx => ?_)
      refine q_astore (lv' := [(4, .ref qx), (0, .ref a0), (1, .int i1), (2, .int i2), (3, .ref a3)]) C dL_fill_17 (by decide) rfl ?_
      refine q_iconst (v := 2) C dL_fill_19 (by decide) ?_
      exact q_xret (q_iret C hr hlk dL_fill_20 h.1 h.2.1 h.2.2)
    · have h := h
      refine q_catch (name := "") C htab [(0, 10, 13, 21), (0, 10, 17, 13)] (0, 10, 21, 15) [] rfl (by decide) (List.forall_mem_cons.mpr ⟨Or.inr ⟨by decide, "java/lang/IndexOutOfBoundsException", by decide, by decide, by decide +kernel⟩, List.forall_mem_cons.mpr ⟨Or.inr ⟨by decide, "java/lang/IllegalArgumentException", by decide, by decide, by decide +kernel⟩, fun z hz => absurd hz List.not_mem_nil⟩⟩) (by decide) (by decide) (by decide +kernel) (fun qx => ?_)
      refine q_astore (lv' := [(4, .ref qx), (0, .ref a0), (1, .int i1), (2, .int i2), (3, .ref a3)]) C dL_fill_21 (by decide) rfl ?_
      refine q_iconst (v := 3) C dL_fill_23 (by decide) ?_
      exact q_xret (q_iret C hr hlk dL_fill_24 h.1 h.2.1 h.2.2)
  · refine q_i2l C dL_fill_8 ?_
    obtain ⟨n_4, z1, z2, h⟩ := h
    refine q_last C z1 z2 dL_fill_9 ?_
    refine q_goto (tgt := 25) C dL_fill_10 (by decide) ?_
    refine q_iconst (v := 0) C dL_fill_25 (by decide) ?_
    exact q_xret (q_iret C hr hlk dL_fill_26 h.1 h.2.1 h.2.2)
def T_L_quarters (Cc Zz : Nat) (M : Mm) (a0 : Nat) (a1 : Nat) (Q : Int32 → Mm → Prop) (X : String → Mm → Prop) : Prop := ∃ dc_3 ds_3 : Nat, (0 + dc_3 ≤ Cc ∧ 0 + ds_3 ≤ Zz) ∧ kM M a0 = (8, 8) ∧ T_X8_quarters dc_3 ds_3 M a0 (fun r_1 M_2 => ∃ n_4 : Nat, kM M_2 a1 = (110, n_4) ∧ vp_in 0 n_4 ∧ (0 + dc_3) ≤ Cc ∧ (0 + ds_3) ≤ Zz ∧ Q 0 (wL M_2 a1 (0 : Int32).toNatClampNeg r_1.toInt64)) (fun E_x M_x => (E_x = "java/lang/IllegalStateException" ∧ (0 + dc_3) ≤ Cc ∧ (0 + ds_3) ≤ Zz ∧ Q 1 M_x))
set_option maxRecDepth 100000 in
set_option maxHeartbeats 4000000 in
theorem c_L_quarters (l : Launch) (hl : l.stackTraces = false) (D : va_G) (cA : Nat → ClassId) (lo : Nat) {M : Mm} {a0 : Nat} {a1 : Nat} {Cc Zz : Nat} {Q : Int32 → Mm → Prop} {X : String → Mm → Prop} (h : T_L_quarters Cc Zz M a0 a1 Q X) : vx_Met l yL_quarters wsL_quarters ({ frames := 8, cells := Cc, slots := Zz, locals := 156 } : Room) (PcM D cA lo [.ref a0, .ref a1] M) (QiM D cA lo Q) (XcM D cA lo X) Cc Zz (fun q => lo ≤ q) := by
  refine q_startH (hh := [(0, 8, 11, 15)]) (cc := cL_quarters) (nL := 3) (ret := (some .int)) (by decide) rfl rfl (Nat.le_of_ble_eq_true rfl) ?_
  intro p e s m args below meth c C hr hlk htab
  unfold T_L_quarters at h
  refine q_aload_n C dL_quarters_0 rfl (j := 1) rfl ?_
  refine q_iconst (v := 0) C dL_quarters_1 (by decide) ?_
  refine q_aload_n C dL_quarters_2 rfl (j := 0) rfl ?_
  obtain ⟨dc_3, ds_3, hcz, h⟩ := h
  refine q_xi (qx_runV (As := []) (st := [.int 0, .ref a1]) C (c_X8_quarters l hl D cA lo h.2) (cwV 0 C.2.2.2.2.1 gL_quarters_X8_quarters rfl rfl rfl (by decide +kernel) ⟨Nat.le_of_ble_eq_true rfl, Nat.le_of_ble_eq_true rfl⟩) h.1 (by decide) rfl rfl rfl (Nat.le_of_ble_eq_true rfl) dL_quarters_3 hcz) (fun E M_x h => ?_) (fun r_1 M_2 h => ?_)
  · obtain ⟨rfl, h⟩ := h
    have h := h
    refine q_catch (name := "") C htab [] (0, 8, 11, 15) [] rfl (by decide) (fun z hz => absurd hz List.not_mem_nil) (by decide) (by decide) (by decide +kernel) (fun qx => ?_)
    refine q_astore_n (lv' := [(2, .ref qx), (0, .ref a0), (1, .ref a1)]) C dL_quarters_11 rfl (by decide) rfl ?_
    refine q_iconst (v := 1) C dL_quarters_12 (by decide) ?_
    exact q_xret (q_iret C hr hlk dL_quarters_13 h.1 h.2.1 h.2.2)
  · refine q_i2l C dL_quarters_6 ?_
    obtain ⟨n_4, z1, z2, h⟩ := h
    refine q_last C z1 z2 dL_quarters_7 ?_
    refine q_goto (tgt := 14) C dL_quarters_8 (by decide) ?_
    refine q_iconst (v := 0) C dL_quarters_14 (by decide) ?_
    exact q_xret (q_iret C hr hlk dL_quarters_15 h.1 h.2.1 h.2.2)
def T_L_at (Cc Zz : Nat) (M : Mm) (a0 : Nat) (i1 : Int32) (i2 : Int32) (a3 : Nat) (Q : Int32 → Mm → Prop) (X : String → Mm → Prop) : Prop := ∃ dc_3 ds_3 : Nat, (0 + dc_3 ≤ Cc ∧ 0 + ds_3 ≤ Zz) ∧ kM M a0 = (8, 8) ∧ T_X8_at dc_3 ds_3 M a0 i1 i2 (fun r_1 M_2 => ∃ n_4 : Nat, kM M_2 a3 = (110, n_4) ∧ vp_in 0 n_4 ∧ (0 + dc_3) ≤ Cc ∧ (0 + ds_3) ≤ Zz ∧ Q 0 (wL M_2 a3 (0 : Int32).toNatClampNeg r_1.toInt64)) (fun E_x M_x => (E_x = "java/lang/IndexOutOfBoundsException" ∧ (0 + dc_3) ≤ Cc ∧ (0 + ds_3) ≤ Zz ∧ Q 1 M_x) ∨ (E_x = "java/lang/IllegalArgumentException" ∧ (0 + dc_3) ≤ Cc ∧ (0 + ds_3) ≤ Zz ∧ Q 2 M_x))
set_option maxRecDepth 100000 in
set_option maxHeartbeats 4000000 in
theorem c_L_at (l : Launch) (hl : l.stackTraces = false) (D : va_G) (cA : Nat → ClassId) (lo : Nat) {M : Mm} {a0 : Nat} {i1 : Int32} {i2 : Int32} {a3 : Nat} {Cc Zz : Nat} {Q : Int32 → Mm → Prop} {X : String → Mm → Prop} (h : T_L_at Cc Zz M a0 i1 i2 a3 Q X) : vx_Met l yL_at wsL_at ({ frames := 9, cells := Cc, slots := Zz, locals := 152 } : Room) (PcM D cA lo [.ref a0, .int i1, .int i2, .ref a3] M) (QiM D cA lo Q) (XcM D cA lo X) Cc Zz (fun q => lo ≤ q) := by
  refine q_startH (hh := [(0, 10, 13, 21), (0, 10, 17, 13)]) (cc := cL_at) (nL := 5) (ret := (some .int)) (by decide) rfl rfl (Nat.le_of_ble_eq_true rfl) ?_
  intro p e s m args below meth c C hr hlk htab
  unfold T_L_at at h
  refine q_aload_n C dL_at_0 rfl (j := 3) rfl ?_
  refine q_iconst (v := 0) C dL_at_1 (by decide) ?_
  refine q_aload_n C dL_at_2 rfl (j := 0) rfl ?_
  refine q_iload_n C dL_at_3 rfl (j := 1) rfl ?_
  refine q_iload_n C dL_at_4 rfl (j := 2) rfl ?_
  obtain ⟨dc_3, ds_3, hcz, h⟩ := h
  refine q_xi (qx_runV (As := [.int i1, .int i2]) (st := [.int 0, .ref a3]) C (c_X8_at l hl D cA lo h.2) (cwV 2 C.2.2.2.2.1 gL_at_X8_at rfl rfl rfl (by decide +kernel) ⟨Nat.le_of_ble_eq_true rfl, Nat.le_of_ble_eq_true rfl⟩) h.1 (by decide) rfl rfl rfl (Nat.le_of_ble_eq_true rfl) dL_at_5 hcz) (fun E M_x h => ?_) (fun r_1 M_2 h => ?_)
  · rcases h with ⟨rfl, h⟩ | ⟨rfl, h⟩
    · have h := h
      refine q_catch (name := "") C htab [] (0, 10, 13, 21) [(0, 10, 17, 13)] rfl (by decide) (fun z hz => absurd hz List.not_mem_nil) (by decide) (by decide) (by decide +kernel) (fun qx => ?_)
      refine q_astore (lv' := [(4, .ref qx), (0, .ref a0), (1, .int i1), (2, .int i2), (3, .ref a3)]) C dL_at_13 (by decide) rfl ?_
      refine q_iconst (v := 1) C dL_at_15 (by decide) ?_
      exact q_xret (q_iret C hr hlk dL_at_16 h.1 h.2.1 h.2.2)
    · have h := h
      refine q_catch (name := "") C htab [(0, 10, 13, 21)] (0, 10, 17, 13) [] rfl (by decide) (List.forall_mem_cons.mpr ⟨Or.inr ⟨by decide, "java/lang/IndexOutOfBoundsException", by decide, by decide, by decide +kernel⟩, fun z hz => absurd hz List.not_mem_nil⟩) (by decide) (by decide) (by decide +kernel) (fun qx => ?_)
      refine q_astore (lv' := [(4, .ref qx), (0, .ref a0), (1, .int i1), (2, .int i2), (3, .ref a3)]) C dL_at_17 (by decide) rfl ?_
      refine q_iconst (v := 2) C dL_at_19 (by decide) ?_
      exact q_xret (q_iret C hr hlk dL_at_20 h.1 h.2.1 h.2.2)
  · refine q_i2l C dL_at_8 ?_
    obtain ⟨n_4, z1, z2, h⟩ := h
    refine q_last C z1 z2 dL_at_9 ?_
    refine q_goto (tgt := 21) C dL_at_10 (by decide) ?_
    refine q_iconst (v := 0) C dL_at_21 (by decide) ?_
    exact q_xret (q_iret C hr hlk dL_at_22 h.1 h.2.1 h.2.2)
def T_L_size (Cc Zz : Nat) (M : Mm) (a0 : Nat) (i1 : Int32) (a2 : Nat) (Q : Int32 → Mm → Prop) (X : String → Mm → Prop) : Prop := ∃ dc_3 ds_3 : Nat, (0 + dc_3 ≤ Cc ∧ 0 + ds_3 ≤ Zz) ∧ kM M a0 = (8, 8) ∧ T_X8_size dc_3 ds_3 M a0 i1 (fun r_1 M_2 => ∃ n_4 : Nat, kM M_2 a2 = (110, n_4) ∧ vp_in 0 n_4 ∧ (0 + dc_3) ≤ Cc ∧ (0 + ds_3) ≤ Zz ∧ Q 0 (wL M_2 a2 (0 : Int32).toNatClampNeg r_1.toInt64)) (fun E_x M_x => (E_x = "java/lang/IndexOutOfBoundsException" ∧ (0 + dc_3) ≤ Cc ∧ (0 + ds_3) ≤ Zz ∧ Q 1 M_x))
set_option maxRecDepth 100000 in
set_option maxHeartbeats 4000000 in
theorem c_L_size (l : Launch) (hl : l.stackTraces = false) (D : va_G) (cA : Nat → ClassId) (lo : Nat) {M : Mm} {a0 : Nat} {i1 : Int32} {a2 : Nat} {Cc Zz : Nat} {Q : Int32 → Mm → Prop} {X : String → Mm → Prop} (h : T_L_size Cc Zz M a0 i1 a2 Q X) : vx_Met l yL_size wsL_size ({ frames := 8, cells := Cc, slots := Zz, locals := 132 } : Room) (PcM D cA lo [.ref a0, .int i1, .ref a2] M) (QiM D cA lo Q) (XcM D cA lo X) Cc Zz (fun q => lo ≤ q) := by
  refine q_startH (hh := [(0, 9, 12, 21)]) (cc := cL_size) (nL := 4) (ret := (some .int)) (by decide) rfl rfl (Nat.le_of_ble_eq_true rfl) ?_
  intro p e s m args below meth c C hr hlk htab
  unfold T_L_size at h
  refine q_aload_n C dL_size_0 rfl (j := 2) rfl ?_
  refine q_iconst (v := 0) C dL_size_1 (by decide) ?_
  refine q_aload_n C dL_size_2 rfl (j := 0) rfl ?_
  refine q_iload_n C dL_size_3 rfl (j := 1) rfl ?_
  obtain ⟨dc_3, ds_3, hcz, h⟩ := h
  refine q_xi (qx_runV (As := [.int i1]) (st := [.int 0, .ref a2]) C (c_X8_size l hl D cA lo h.2) (cwV 1 C.2.2.2.2.1 gL_size_X8_size rfl rfl rfl (by decide +kernel) ⟨Nat.le_of_ble_eq_true rfl, Nat.le_of_ble_eq_true rfl⟩) h.1 (by decide) rfl rfl rfl (Nat.le_of_ble_eq_true rfl) dL_size_4 hcz) (fun E M_x h => ?_) (fun r_1 M_2 h => ?_)
  · obtain ⟨rfl, h⟩ := h
    have h := h
    refine q_catch (name := "") C htab [] (0, 9, 12, 21) [] rfl (by decide) (fun z hz => absurd hz List.not_mem_nil) (by decide) (by decide) (by decide +kernel) (fun qx => ?_)
    refine q_astore_n (lv' := [(3, .ref qx), (0, .ref a0), (1, .int i1), (2, .ref a2)]) C dL_size_12 rfl (by decide) rfl ?_
    refine q_iconst (v := 1) C dL_size_13 (by decide) ?_
    exact q_xret (q_iret C hr hlk dL_size_14 h.1 h.2.1 h.2.2)
  · refine q_i2l C dL_size_7 ?_
    obtain ⟨n_4, z1, z2, h⟩ := h
    refine q_last C z1 z2 dL_size_8 ?_
    refine q_goto (tgt := 15) C dL_size_9 (by decide) ?_
    refine q_iconst (v := 0) C dL_size_15 (by decide) ?_
    exact q_xret (q_iret C hr hlk dL_size_16 h.1 h.2.1 h.2.2)
def T_L_corner (Cc Zz : Nat) (M : Mm) (a0 : Nat) (i1 : Int32) (i2 : Int32) (a3 : Nat) (Q : Int32 → Mm → Prop) (X : String → Mm → Prop) : Prop := ∃ dc_3 ds_3 : Nat, (0 + dc_3 ≤ Cc ∧ 0 + ds_3 ≤ Zz) ∧ kM M a0 = (8, 8) ∧ T_X8_corner dc_3 ds_3 M a0 i1 i2 (fun r_1 M_2 => ∃ n_4 : Nat, kM M_2 a3 = (110, n_4) ∧ vp_in 0 n_4 ∧ (0 + dc_3) ≤ Cc ∧ (0 + ds_3) ≤ Zz ∧ Q 0 (wL M_2 a3 (0 : Int32).toNatClampNeg r_1.toInt64)) (fun E_x M_x => (E_x = "java/lang/IndexOutOfBoundsException" ∧ (0 + dc_3) ≤ Cc ∧ (0 + ds_3) ≤ Zz ∧ Q 1 M_x))
set_option maxRecDepth 100000 in
set_option maxHeartbeats 4000000 in
theorem c_L_corner (l : Launch) (hl : l.stackTraces = false) (D : va_G) (cA : Nat → ClassId) (lo : Nat) {M : Mm} {a0 : Nat} {i1 : Int32} {i2 : Int32} {a3 : Nat} {Cc Zz : Nat} {Q : Int32 → Mm → Prop} {X : String → Mm → Prop} (h : T_L_corner Cc Zz M a0 i1 i2 a3 Q X) : vx_Met l yL_corner wsL_corner ({ frames := 8, cells := Cc, slots := Zz, locals := 134 } : Room) (PcM D cA lo [.ref a0, .int i1, .int i2, .ref a3] M) (QiM D cA lo Q) (XcM D cA lo X) Cc Zz (fun q => lo ≤ q) := by
  refine q_startH (hh := [(0, 10, 13, 21)]) (cc := cL_corner) (nL := 5) (ret := (some .int)) (by decide) rfl rfl (Nat.le_of_ble_eq_true rfl) ?_
  intro p e s m args below meth c C hr hlk htab
  unfold T_L_corner at h
  refine q_aload_n C dL_corner_0 rfl (j := 3) rfl ?_
  refine q_iconst (v := 0) C dL_corner_1 (by decide) ?_
  refine q_aload_n C dL_corner_2 rfl (j := 0) rfl ?_
  refine q_iload_n C dL_corner_3 rfl (j := 1) rfl ?_
  refine q_iload_n C dL_corner_4 rfl (j := 2) rfl ?_
  obtain ⟨dc_3, ds_3, hcz, h⟩ := h
  refine q_xi (qx_runV (As := [.int i1, .int i2]) (st := [.int 0, .ref a3]) C (c_X8_corner l hl D cA lo h.2) (cwV 2 C.2.2.2.2.1 gL_corner_X8_corner rfl rfl rfl (by decide +kernel) ⟨Nat.le_of_ble_eq_true rfl, Nat.le_of_ble_eq_true rfl⟩) h.1 (by decide) rfl rfl rfl (Nat.le_of_ble_eq_true rfl) dL_corner_5 hcz) (fun E M_x h => ?_) (fun r_1 M_2 h => ?_)
  · obtain ⟨rfl, h⟩ := h
    have h := h
    refine q_catch (name := "") C htab [] (0, 10, 13, 21) [] rfl (by decide) (fun z hz => absurd hz List.not_mem_nil) (by decide) (by decide) (by decide +kernel) (fun qx => ?_)
    refine q_astore (lv' := [(4, .ref qx), (0, .ref a0), (1, .int i1), (2, .int i2), (3, .ref a3)]) C dL_corner_13 (by decide) rfl ?_
    refine q_iconst (v := 1) C dL_corner_15 (by decide) ?_
    exact q_xret (q_iret C hr hlk dL_corner_16 h.1 h.2.1 h.2.2)
  · refine q_i2l C dL_corner_8 ?_
    obtain ⟨n_4, z1, z2, h⟩ := h
    refine q_last C z1 z2 dL_corner_9 ?_
    refine q_goto (tgt := 17) C dL_corner_10 (by decide) ?_
    refine q_iconst (v := 0) C dL_corner_17 (by decide) ?_
    exact q_xret (q_iret C hr hlk dL_corner_18 h.1 h.2.1 h.2.2)
def T_L_faceOf (Cc Zz : Nat) (M : Mm) (a0 : Nat) (i1 : Int32) (i2 : Int32) (a3 : Nat) (Q : Int32 → Mm → Prop) (X : String → Mm → Prop) : Prop := ∃ dc_3 ds_3 : Nat, (0 + dc_3 ≤ Cc ∧ 0 + ds_3 ≤ Zz) ∧ kM M a0 = (8, 8) ∧ T_X8_faceOf dc_3 ds_3 M a0 i1 i2 (fun r_1 M_2 => ∃ n_4 : Nat, kM M_2 a3 = (110, n_4) ∧ vp_in 0 n_4 ∧ (0 + dc_3) ≤ Cc ∧ (0 + ds_3) ≤ Zz ∧ Q 0 (wL M_2 a3 (0 : Int32).toNatClampNeg r_1.toInt64)) (fun E_x M_x => (E_x = "java/lang/IndexOutOfBoundsException" ∧ (0 + dc_3) ≤ Cc ∧ (0 + ds_3) ≤ Zz ∧ Q 1 M_x))
set_option maxRecDepth 100000 in
set_option maxHeartbeats 4000000 in
theorem c_L_faceOf (l : Launch) (hl : l.stackTraces = false) (D : va_G) (cA : Nat → ClassId) (lo : Nat) {M : Mm} {a0 : Nat} {i1 : Int32} {i2 : Int32} {a3 : Nat} {Cc Zz : Nat} {Q : Int32 → Mm → Prop} {X : String → Mm → Prop} (h : T_L_faceOf Cc Zz M a0 i1 i2 a3 Q X) : vx_Met l yL_faceOf wsL_faceOf ({ frames := 9, cells := Cc, slots := Zz, locals := 155 } : Room) (PcM D cA lo [.ref a0, .int i1, .int i2, .ref a3] M) (QiM D cA lo Q) (XcM D cA lo X) Cc Zz (fun q => lo ≤ q) := by
  refine q_startH (hh := [(0, 10, 13, 21)]) (cc := cL_faceOf) (nL := 5) (ret := (some .int)) (by decide) rfl rfl (Nat.le_of_ble_eq_true rfl) ?_
  intro p e s m args below meth c C hr hlk htab
  unfold T_L_faceOf at h
  refine q_aload_n C dL_faceOf_0 rfl (j := 3) rfl ?_
  refine q_iconst (v := 0) C dL_faceOf_1 (by decide) ?_
  refine q_aload_n C dL_faceOf_2 rfl (j := 0) rfl ?_
  refine q_iload_n C dL_faceOf_3 rfl (j := 1) rfl ?_
  refine q_iload_n C dL_faceOf_4 rfl (j := 2) rfl ?_
  obtain ⟨dc_3, ds_3, hcz, h⟩ := h
  refine q_xi (qx_runV (As := [.int i1, .int i2]) (st := [.int 0, .ref a3]) C (c_X8_faceOf l hl D cA lo h.2) (cwV 2 C.2.2.2.2.1 gL_faceOf_X8_faceOf rfl rfl rfl (by decide +kernel) ⟨Nat.le_of_ble_eq_true rfl, Nat.le_of_ble_eq_true rfl⟩) h.1 (by decide) rfl rfl rfl (Nat.le_of_ble_eq_true rfl) dL_faceOf_5 hcz) (fun E M_x h => ?_) (fun r_1 M_2 h => ?_)
  · obtain ⟨rfl, h⟩ := h
    have h := h
    refine q_catch (name := "") C htab [] (0, 10, 13, 21) [] rfl (by decide) (fun z hz => absurd hz List.not_mem_nil) (by decide) (by decide) (by decide +kernel) (fun qx => ?_)
    refine q_astore (lv' := [(4, .ref qx), (0, .ref a0), (1, .int i1), (2, .int i2), (3, .ref a3)]) C dL_faceOf_13 (by decide) rfl ?_
    refine q_iconst (v := 1) C dL_faceOf_15 (by decide) ?_
    exact q_xret (q_iret C hr hlk dL_faceOf_16 h.1 h.2.1 h.2.2)
  · refine q_i2l C dL_faceOf_8 ?_
    obtain ⟨n_4, z1, z2, h⟩ := h
    refine q_last C z1 z2 dL_faceOf_9 ?_
    refine q_goto (tgt := 17) C dL_faceOf_10 (by decide) ?_
    refine q_iconst (v := 0) C dL_faceOf_17 (by decide) ?_
    exact q_xret (q_iret C hr hlk dL_faceOf_18 h.1 h.2.1 h.2.2)
def T_L_hole (Cc Zz : Nat) (M : Mm) (a0 : Nat) (i1 : Int32) (i2 : Int32) (a3 : Nat) (Q : Int32 → Mm → Prop) (X : String → Mm → Prop) : Prop := ∃ dc_3 ds_3 : Nat, (0 + dc_3 ≤ Cc ∧ 0 + ds_3 ≤ Zz) ∧ kM M a0 = (8, 8) ∧ T_X8_hole dc_3 ds_3 M a0 i1 i2 (fun r_1 M_2 => ∃ n_4 : Nat, kM M_2 a3 = (110, n_4) ∧ vp_in 0 n_4 ∧ (0 + dc_3) ≤ Cc ∧ (0 + ds_3) ≤ Zz ∧ Q 0 (wL M_2 a3 (0 : Int32).toNatClampNeg r_1.toInt64)) (fun E_x M_x => (E_x = "java/lang/IndexOutOfBoundsException" ∧ (0 + dc_3) ≤ Cc ∧ (0 + ds_3) ≤ Zz ∧ Q 1 M_x))
set_option maxRecDepth 100000 in
set_option maxHeartbeats 4000000 in
theorem c_L_hole (l : Launch) (hl : l.stackTraces = false) (D : va_G) (cA : Nat → ClassId) (lo : Nat) {M : Mm} {a0 : Nat} {i1 : Int32} {i2 : Int32} {a3 : Nat} {Cc Zz : Nat} {Q : Int32 → Mm → Prop} {X : String → Mm → Prop} (h : T_L_hole Cc Zz M a0 i1 i2 a3 Q X) : vx_Met l yL_hole wsL_hole ({ frames := 9, cells := Cc, slots := Zz, locals := 155 } : Room) (PcM D cA lo [.ref a0, .int i1, .int i2, .ref a3] M) (QiM D cA lo Q) (XcM D cA lo X) Cc Zz (fun q => lo ≤ q) := by
  refine q_startH (hh := [(0, 10, 13, 21)]) (cc := cL_hole) (nL := 5) (ret := (some .int)) (by decide) rfl rfl (Nat.le_of_ble_eq_true rfl) ?_
  intro p e s m args below meth c C hr hlk htab
  unfold T_L_hole at h
  refine q_aload_n C dL_hole_0 rfl (j := 3) rfl ?_
  refine q_iconst (v := 0) C dL_hole_1 (by decide) ?_
  refine q_aload_n C dL_hole_2 rfl (j := 0) rfl ?_
  refine q_iload_n C dL_hole_3 rfl (j := 1) rfl ?_
  refine q_iload_n C dL_hole_4 rfl (j := 2) rfl ?_
  obtain ⟨dc_3, ds_3, hcz, h⟩ := h
  refine q_xi (qx_runV (As := [.int i1, .int i2]) (st := [.int 0, .ref a3]) C (c_X8_hole l hl D cA lo h.2) (cwV 2 C.2.2.2.2.1 gL_hole_X8_hole rfl rfl rfl (by decide +kernel) ⟨Nat.le_of_ble_eq_true rfl, Nat.le_of_ble_eq_true rfl⟩) h.1 (by decide) rfl rfl rfl (Nat.le_of_ble_eq_true rfl) dL_hole_5 hcz) (fun E M_x h => ?_) (fun r_1 M_2 h => ?_)
  · obtain ⟨rfl, h⟩ := h
    have h := h
    refine q_catch (name := "") C htab [] (0, 10, 13, 21) [] rfl (by decide) (fun z hz => absurd hz List.not_mem_nil) (by decide) (by decide) (by decide +kernel) (fun qx => ?_)
    refine q_astore (lv' := [(4, .ref qx), (0, .ref a0), (1, .int i1), (2, .int i2), (3, .ref a3)]) C dL_hole_13 (by decide) rfl ?_
    refine q_iconst (v := 1) C dL_hole_15 (by decide) ?_
    exact q_xret (q_iret C hr hlk dL_hole_16 h.1 h.2.1 h.2.2)
  · refine q_i2l C dL_hole_8 ?_
    obtain ⟨n_4, z1, z2, h⟩ := h
    refine q_last C z1 z2 dL_hole_9 ?_
    refine q_goto (tgt := 17) C dL_hole_10 (by decide) ?_
    refine q_iconst (v := 0) C dL_hole_17 (by decide) ?_
    exact q_xret (q_iret C hr hlk dL_hole_18 h.1 h.2.1 h.2.2)
def T_L_around (Cc Zz : Nat) (M : Mm) (a0 : Nat) (i1 : Int32) (i2 : Int32) (a3 : Nat) (Q : Int32 → Mm → Prop) (X : String → Mm → Prop) : Prop := ∃ dc_3 ds_3 : Nat, (0 + dc_3 ≤ Cc ∧ 0 + ds_3 ≤ Zz) ∧ kM M a0 = (8, 8) ∧ T_X8_around dc_3 ds_3 M a0 i1 i2 (fun r_1 M_2 => ∃ n_4 : Nat, kM M_2 a3 = (110, n_4) ∧ vp_in 0 n_4 ∧ (0 + dc_3) ≤ Cc ∧ (0 + ds_3) ≤ Zz ∧ Q 0 (wL M_2 a3 (0 : Int32).toNatClampNeg r_1.toInt64)) (fun E_x M_x => (E_x = "java/lang/IndexOutOfBoundsException" ∧ (0 + dc_3) ≤ Cc ∧ (0 + ds_3) ≤ Zz ∧ Q 1 M_x) ∨ (E_x = "java/lang/IllegalArgumentException" ∧ (0 + dc_3) ≤ Cc ∧ (0 + ds_3) ≤ Zz ∧ Q 2 M_x))
set_option maxRecDepth 100000 in
set_option maxHeartbeats 4000000 in
theorem c_L_around (l : Launch) (hl : l.stackTraces = false) (D : va_G) (cA : Nat → ClassId) (lo : Nat) {M : Mm} {a0 : Nat} {i1 : Int32} {i2 : Int32} {a3 : Nat} {Cc Zz : Nat} {Q : Int32 → Mm → Prop} {X : String → Mm → Prop} (h : T_L_around Cc Zz M a0 i1 i2 a3 Q X) : vx_Met l yL_around wsL_around ({ frames := 8, cells := Cc, slots := Zz, locals := 137 } : Room) (PcM D cA lo [.ref a0, .int i1, .int i2, .ref a3] M) (QiM D cA lo Q) (XcM D cA lo X) Cc Zz (fun q => lo ≤ q) := by
  refine q_startH (hh := [(0, 10, 13, 21), (0, 10, 17, 13)]) (cc := cL_around) (nL := 5) (ret := (some .int)) (by decide) rfl rfl (Nat.le_of_ble_eq_true rfl) ?_
  intro p e s m args below meth c C hr hlk htab
  unfold T_L_around at h
  refine q_aload_n C dL_around_0 rfl (j := 3) rfl ?_
  refine q_iconst (v := 0) C dL_around_1 (by decide) ?_
  refine q_aload_n C dL_around_2 rfl (j := 0) rfl ?_
  refine q_iload_n C dL_around_3 rfl (j := 1) rfl ?_
  refine q_iload_n C dL_around_4 rfl (j := 2) rfl ?_
  obtain ⟨dc_3, ds_3, hcz, h⟩ := h
  refine q_xi (qx_runV (As := [.int i1, .int i2]) (st := [.int 0, .ref a3]) C (c_X8_around l hl D cA lo h.2) (cwV 2 C.2.2.2.2.1 gL_around_X8_around rfl rfl rfl (by decide +kernel) ⟨Nat.le_of_ble_eq_true rfl, Nat.le_of_ble_eq_true rfl⟩) h.1 (by decide) rfl rfl rfl (Nat.le_of_ble_eq_true rfl) dL_around_5 hcz) (fun E M_x h => ?_) (fun r_1 M_2 h => ?_)
  · rcases h with ⟨rfl, h⟩ | ⟨rfl, h⟩
    · have h := h
      refine q_catch (name := "") C htab [] (0, 10, 13, 21) [(0, 10, 17, 13)] rfl (by decide) (fun z hz => absurd hz List.not_mem_nil) (by decide) (by decide) (by decide +kernel) (fun qx => ?_)
      refine q_astore (lv' := [(4, .ref qx), (0, .ref a0), (1, .int i1), (2, .int i2), (3, .ref a3)]) C dL_around_13 (by decide) rfl ?_
      refine q_iconst (v := 1) C dL_around_15 (by decide) ?_
      exact q_xret (q_iret C hr hlk dL_around_16 h.1 h.2.1 h.2.2)
    · have h := h
      refine q_catch (name := "") C htab [(0, 10, 13, 21)] (0, 10, 17, 13) [] rfl (by decide) (List.forall_mem_cons.mpr ⟨Or.inr ⟨by decide, "java/lang/IndexOutOfBoundsException", by decide, by decide, by decide +kernel⟩, fun z hz => absurd hz List.not_mem_nil⟩) (by decide) (by decide) (by decide +kernel) (fun qx => ?_)
      refine q_astore (lv' := [(4, .ref qx), (0, .ref a0), (1, .int i1), (2, .int i2), (3, .ref a3)]) C dL_around_17 (by decide) rfl ?_
      refine q_iconst (v := 2) C dL_around_19 (by decide) ?_
      exact q_xret (q_iret C hr hlk dL_around_20 h.1 h.2.1 h.2.2)
  · refine q_i2l C dL_around_8 ?_
    obtain ⟨n_4, z1, z2, h⟩ := h
    refine q_last C z1 z2 dL_around_9 ?_
    refine q_goto (tgt := 21) C dL_around_10 (by decide) ?_
    refine q_iconst (v := 0) C dL_around_21 (by decide) ?_
    exact q_xret (q_iret C hr hlk dL_around_22 h.1 h.2.1 h.2.2)
def T_L_normal (Cc Zz : Nat) (M : Mm) (a0 : Nat) (i1 : Int32) (i2 : Int32) (a3 : Nat) (Q : Int32 → Mm → Prop) (X : String → Mm → Prop) : Prop := ∃ dc_3 ds_3 : Nat, (0 + dc_3 ≤ Cc ∧ 0 + ds_3 ≤ Zz) ∧ kM M a0 = (8, 8) ∧ T_X8_normal dc_3 ds_3 M a0 i1 i2 (fun r_1 M_2 => ∃ n_4 : Nat, kM M_2 a3 = (110, n_4) ∧ vp_in 0 n_4 ∧ (0 + dc_3) ≤ Cc ∧ (0 + ds_3) ≤ Zz ∧ Q 0 (wL M_2 a3 (0 : Int32).toNatClampNeg r_1.toInt64)) (fun E_x M_x => (E_x = "java/lang/IndexOutOfBoundsException" ∧ (0 + dc_3) ≤ Cc ∧ (0 + ds_3) ≤ Zz ∧ Q 1 M_x) ∨ (E_x = "java/lang/IllegalArgumentException" ∧ (0 + dc_3) ≤ Cc ∧ (0 + ds_3) ≤ Zz ∧ Q 2 M_x))
set_option maxRecDepth 100000 in
set_option maxHeartbeats 4000000 in
theorem c_L_normal (l : Launch) (hl : l.stackTraces = false) (D : va_G) (cA : Nat → ClassId) (lo : Nat) {M : Mm} {a0 : Nat} {i1 : Int32} {i2 : Int32} {a3 : Nat} {Cc Zz : Nat} {Q : Int32 → Mm → Prop} {X : String → Mm → Prop} (h : T_L_normal Cc Zz M a0 i1 i2 a3 Q X) : vx_Met l yL_normal wsL_normal ({ frames := 9, cells := Cc, slots := Zz, locals := 152 } : Room) (PcM D cA lo [.ref a0, .int i1, .int i2, .ref a3] M) (QiM D cA lo Q) (XcM D cA lo X) Cc Zz (fun q => lo ≤ q) := by
  refine q_startH (hh := [(0, 10, 13, 21), (0, 10, 17, 13)]) (cc := cL_normal) (nL := 5) (ret := (some .int)) (by decide) rfl rfl (Nat.le_of_ble_eq_true rfl) ?_
  intro p e s m args below meth c C hr hlk htab
  unfold T_L_normal at h
  refine q_aload_n C dL_normal_0 rfl (j := 3) rfl ?_
  refine q_iconst (v := 0) C dL_normal_1 (by decide) ?_
  refine q_aload_n C dL_normal_2 rfl (j := 0) rfl ?_
  refine q_iload_n C dL_normal_3 rfl (j := 1) rfl ?_
  refine q_iload_n C dL_normal_4 rfl (j := 2) rfl ?_
  obtain ⟨dc_3, ds_3, hcz, h⟩ := h
  refine q_xi (qx_runV (As := [.int i1, .int i2]) (st := [.int 0, .ref a3]) C (c_X8_normal l hl D cA lo h.2) (cwV 2 C.2.2.2.2.1 gL_normal_X8_normal rfl rfl rfl (by decide +kernel) ⟨Nat.le_of_ble_eq_true rfl, Nat.le_of_ble_eq_true rfl⟩) h.1 (by decide) rfl rfl rfl (Nat.le_of_ble_eq_true rfl) dL_normal_5 hcz) (fun E M_x h => ?_) (fun r_1 M_2 h => ?_)
  · rcases h with ⟨rfl, h⟩ | ⟨rfl, h⟩
    · have h := h
      refine q_catch (name := "") C htab [] (0, 10, 13, 21) [(0, 10, 17, 13)] rfl (by decide) (fun z hz => absurd hz List.not_mem_nil) (by decide) (by decide) (by decide +kernel) (fun qx => ?_)
      refine q_astore (lv' := [(4, .ref qx), (0, .ref a0), (1, .int i1), (2, .int i2), (3, .ref a3)]) C dL_normal_13 (by decide) rfl ?_
      refine q_iconst (v := 1) C dL_normal_15 (by decide) ?_
      exact q_xret (q_iret C hr hlk dL_normal_16 h.1 h.2.1 h.2.2)
    · have h := h
      refine q_catch (name := "") C htab [(0, 10, 13, 21)] (0, 10, 17, 13) [] rfl (by decide) (List.forall_mem_cons.mpr ⟨Or.inr ⟨by decide, "java/lang/IndexOutOfBoundsException", by decide, by decide, by decide +kernel⟩, fun z hz => absurd hz List.not_mem_nil⟩) (by decide) (by decide) (by decide +kernel) (fun qx => ?_)
      refine q_astore (lv' := [(4, .ref qx), (0, .ref a0), (1, .int i1), (2, .int i2), (3, .ref a3)]) C dL_normal_17 (by decide) rfl ?_
      refine q_iconst (v := 2) C dL_normal_19 (by decide) ?_
      exact q_xret (q_iret C hr hlk dL_normal_20 h.1 h.2.1 h.2.2)
  · refine q_i2l C dL_normal_8 ?_
    obtain ⟨n_4, z1, z2, h⟩ := h
    refine q_last C z1 z2 dL_normal_9 ?_
    refine q_goto (tgt := 21) C dL_normal_10 (by decide) ?_
    refine q_iconst (v := 0) C dL_normal_21 (by decide) ?_
    exact q_xret (q_iret C hr hlk dL_normal_22 h.1 h.2.1 h.2.2)
def T_L_steps (Cc Zz : Nat) (M : Mm) (a0 : Nat) (i1 : Int32) (i2 : Int32) (a3 : Nat) (Q : Int32 → Mm → Prop) (X : String → Mm → Prop) : Prop := ∃ dc_3 ds_3 : Nat, (0 + dc_3 ≤ Cc ∧ 0 + ds_3 ≤ Zz) ∧ kM M a0 = (8, 8) ∧ T_X8_steps dc_3 ds_3 M a0 i1 i2 (fun r_1 M_2 => ∃ n_4 : Nat, kM M_2 a3 = (110, n_4) ∧ vp_in 0 n_4 ∧ (0 + dc_3) ≤ Cc ∧ (0 + ds_3) ≤ Zz ∧ Q 0 (wL M_2 a3 (0 : Int32).toNatClampNeg r_1.toInt64)) (fun E_x M_x => (E_x = "java/lang/IndexOutOfBoundsException" ∧ (0 + dc_3) ≤ Cc ∧ (0 + ds_3) ≤ Zz ∧ Q 1 M_x))
set_option maxRecDepth 100000 in
set_option maxHeartbeats 4000000 in
theorem c_L_steps (l : Launch) (hl : l.stackTraces = false) (D : va_G) (cA : Nat → ClassId) (lo : Nat) {M : Mm} {a0 : Nat} {i1 : Int32} {i2 : Int32} {a3 : Nat} {Cc Zz : Nat} {Q : Int32 → Mm → Prop} {X : String → Mm → Prop} (h : T_L_steps Cc Zz M a0 i1 i2 a3 Q X) : vx_Met l yL_steps wsL_steps ({ frames := 9, cells := Cc, slots := Zz, locals := 155 } : Room) (PcM D cA lo [.ref a0, .int i1, .int i2, .ref a3] M) (QiM D cA lo Q) (XcM D cA lo X) Cc Zz (fun q => lo ≤ q) := by
  refine q_startH (hh := [(0, 10, 13, 21)]) (cc := cL_steps) (nL := 5) (ret := (some .int)) (by decide) rfl rfl (Nat.le_of_ble_eq_true rfl) ?_
  intro p e s m args below meth c C hr hlk htab
  unfold T_L_steps at h
  refine q_aload_n C dL_steps_0 rfl (j := 3) rfl ?_
  refine q_iconst (v := 0) C dL_steps_1 (by decide) ?_
  refine q_aload_n C dL_steps_2 rfl (j := 0) rfl ?_
  refine q_iload_n C dL_steps_3 rfl (j := 1) rfl ?_
  refine q_iload_n C dL_steps_4 rfl (j := 2) rfl ?_
  obtain ⟨dc_3, ds_3, hcz, h⟩ := h
  refine q_xi (qx_runV (As := [.int i1, .int i2]) (st := [.int 0, .ref a3]) C (c_X8_steps l hl D cA lo h.2) (cwV 2 C.2.2.2.2.1 gL_steps_X8_steps rfl rfl rfl (by decide +kernel) ⟨Nat.le_of_ble_eq_true rfl, Nat.le_of_ble_eq_true rfl⟩) h.1 (by decide) rfl rfl rfl (Nat.le_of_ble_eq_true rfl) dL_steps_5 hcz) (fun E M_x h => ?_) (fun r_1 M_2 h => ?_)
  · obtain ⟨rfl, h⟩ := h
    have h := h
    refine q_catch (name := "") C htab [] (0, 10, 13, 21) [] rfl (by decide) (fun z hz => absurd hz List.not_mem_nil) (by decide) (by decide) (by decide +kernel) (fun qx => ?_)
    refine q_astore (lv' := [(4, .ref qx), (0, .ref a0), (1, .int i1), (2, .int i2), (3, .ref a3)]) C dL_steps_13 (by decide) rfl ?_
    refine q_iconst (v := 1) C dL_steps_15 (by decide) ?_
    exact q_xret (q_iret C hr hlk dL_steps_16 h.1 h.2.1 h.2.2)
  · refine q_i2l C dL_steps_8 ?_
    obtain ⟨n_4, z1, z2, h⟩ := h
    refine q_last C z1 z2 dL_steps_9 ?_
    refine q_goto (tgt := 17) C dL_steps_10 (by decide) ?_
    refine q_iconst (v := 0) C dL_steps_17 (by decide) ?_
    exact q_xret (q_iret C hr hlk dL_steps_18 h.1 h.2.1 h.2.2)
def T_L_may (Cc Zz : Nat) (M : Mm) (a0 : Nat) (i1 : Int32) (a2 : Nat) (Q : Int32 → Mm → Prop) (X : String → Mm → Prop) : Prop := ∃ dc_3 ds_3 : Nat, (0 + dc_3 ≤ Cc ∧ 0 + ds_3 ≤ Zz) ∧ kM M a0 = (8, 8) ∧ T_X8_may dc_3 ds_3 M a0 i1 (fun r_1 M_2 => ∃ n_4 : Nat, kM M_2 a2 = (110, n_4) ∧ vp_in 0 n_4 ∧ (0 + dc_3) ≤ Cc ∧ (0 + ds_3) ≤ Zz ∧ Q 0 (wL M_2 a2 (0 : Int32).toNatClampNeg r_1.toInt64)) (fun E_x M_x => (E_x = "java/lang/IllegalArgumentException" ∧ (0 + dc_3) ≤ Cc ∧ (0 + ds_3) ≤ Zz ∧ Q 1 M_x))
set_option maxRecDepth 100000 in
set_option maxHeartbeats 4000000 in
theorem c_L_may (l : Launch) (hl : l.stackTraces = false) (D : va_G) (cA : Nat → ClassId) (lo : Nat) {M : Mm} {a0 : Nat} {i1 : Int32} {a2 : Nat} {Cc Zz : Nat} {Q : Int32 → Mm → Prop} {X : String → Mm → Prop} (h : T_L_may Cc Zz M a0 i1 a2 Q X) : vx_Met l yL_may wsL_may ({ frames := 8, cells := Cc, slots := Zz, locals := 166 } : Room) (PcM D cA lo [.ref a0, .int i1, .ref a2] M) (QiM D cA lo Q) (XcM D cA lo X) Cc Zz (fun q => lo ≤ q) := by
  refine q_startH (hh := [(0, 9, 12, 13)]) (cc := cL_may) (nL := 4) (ret := (some .int)) (by decide) rfl rfl (Nat.le_of_ble_eq_true rfl) ?_
  intro p e s m args below meth c C hr hlk htab
  unfold T_L_may at h
  refine q_aload_n C dL_may_0 rfl (j := 2) rfl ?_
  refine q_iconst (v := 0) C dL_may_1 (by decide) ?_
  refine q_aload_n C dL_may_2 rfl (j := 0) rfl ?_
  refine q_iload_n C dL_may_3 rfl (j := 1) rfl ?_
  obtain ⟨dc_3, ds_3, hcz, h⟩ := h
  refine q_xi (qx_runV (As := [.int i1]) (st := [.int 0, .ref a2]) C (c_X8_may l hl D cA lo h.2) (cwV 1 C.2.2.2.2.1 gL_may_X8_may rfl rfl rfl (by decide +kernel) ⟨Nat.le_of_ble_eq_true rfl, Nat.le_of_ble_eq_true rfl⟩) h.1 (by decide) rfl rfl rfl (Nat.le_of_ble_eq_true rfl) dL_may_4 hcz) (fun E M_x h => ?_) (fun r_1 M_2 h => ?_)
  · obtain ⟨rfl, h⟩ := h
    have h := h
    refine q_catch (name := "") C htab [] (0, 9, 12, 13) [] rfl (by decide) (fun z hz => absurd hz List.not_mem_nil) (by decide) (by decide) (by decide +kernel) (fun qx => ?_)
    refine q_astore_n (lv' := [(3, .ref qx), (0, .ref a0), (1, .int i1), (2, .ref a2)]) C dL_may_12 rfl (by decide) rfl ?_
    refine q_iconst (v := 1) C dL_may_13 (by decide) ?_
    exact q_xret (q_iret C hr hlk dL_may_14 h.1 h.2.1 h.2.2)
  · refine q_i2l C dL_may_7 ?_
    obtain ⟨n_4, z1, z2, h⟩ := h
    refine q_last C z1 z2 dL_may_8 ?_
    refine q_goto (tgt := 15) C dL_may_9 (by decide) ?_
    refine q_iconst (v := 0) C dL_may_15 (by decide) ?_
    exact q_xret (q_iret C hr hlk dL_may_16 h.1 h.2.1 h.2.2)
def T_L_volumeWith (Cc Zz : Nat) (M : Mm) (a0 : Nat) (i1 : Int32) (i2 : Int32) (a3 : Nat) (Q : Int32 → Mm → Prop) (X : String → Mm → Prop) : Prop := ∃ dc_3 ds_3 : Nat, (0 + dc_3 ≤ Cc ∧ 0 + ds_3 ≤ Zz) ∧ kM M a0 = (8, 8) ∧ T_X8_volumeWith dc_3 ds_3 M a0 i1 i2 (fun r_1 M_2 => ∃ n_4 : Nat, kM M_2 a3 = (110, n_4) ∧ vp_in 0 n_4 ∧ (0 + dc_3) ≤ Cc ∧ (0 + ds_3) ≤ Zz ∧ Q 0 (wL M_2 a3 (0 : Int32).toNatClampNeg r_1)) (fun E_x M_x => (E_x = "java/lang/IndexOutOfBoundsException" ∧ (0 + dc_3) ≤ Cc ∧ (0 + ds_3) ≤ Zz ∧ Q 1 M_x) ∨ (E_x = "java/lang/IllegalArgumentException" ∧ (0 + dc_3) ≤ Cc ∧ (0 + ds_3) ≤ Zz ∧ Q 2 M_x) ∨ (E_x = "java/lang/IllegalStateException" ∧ (0 + dc_3) ≤ Cc ∧ (0 + ds_3) ≤ Zz ∧ Q 3 M_x))
set_option maxRecDepth 100000 in
set_option maxHeartbeats 4000000 in
theorem c_L_volumeWith (l : Launch) (hl : l.stackTraces = false) (D : va_G) (cA : Nat → ClassId) (lo : Nat) {M : Mm} {a0 : Nat} {i1 : Int32} {i2 : Int32} {a3 : Nat} {Cc Zz : Nat} {Q : Int32 → Mm → Prop} {X : String → Mm → Prop} (h : T_L_volumeWith Cc Zz M a0 i1 i2 a3 Q X) : vx_Met l yL_volumeWith wsL_volumeWith ({ frames := 9, cells := Cc, slots := Zz, locals := 158 } : Room) (PcM D cA lo [.ref a0, .int i1, .int i2, .ref a3] M) (QiM D cA lo Q) (XcM D cA lo X) Cc Zz (fun q => lo ≤ q) := by
  refine q_startH (hh := [(0, 9, 12, 21), (0, 9, 16, 13), (0, 9, 20, 15)]) (cc := cL_volumeWith) (nL := 5) (ret := (some .int)) (by decide) rfl rfl (Nat.le_of_ble_eq_true rfl) ?_
  intro p e s m args below meth c C hr hlk htab
  unfold T_L_volumeWith at h
  refine q_aload_n C dL_volumeWith_0 rfl (j := 3) rfl ?_
  refine q_iconst (v := 0) C dL_volumeWith_1 (by decide) ?_
  refine q_aload_n C dL_volumeWith_2 rfl (j := 0) rfl ?_
  refine q_iload_n C dL_volumeWith_3 rfl (j := 1) rfl ?_
  refine q_iload_n C dL_volumeWith_4 rfl (j := 2) rfl ?_
  obtain ⟨dc_3, ds_3, hcz, h⟩ := h
  refine q_xl (qx_runV (As := [.int i1, .int i2]) (st := [.int 0, .ref a3]) C (c_X8_volumeWith l hl D cA lo h.2) (cwV 2 C.2.2.2.2.1 gL_volumeWith_X8_volumeWith rfl rfl rfl (by decide +kernel) ⟨Nat.le_of_ble_eq_true rfl, Nat.le_of_ble_eq_true rfl⟩) h.1 (by decide) rfl rfl rfl (Nat.le_of_ble_eq_true rfl) dL_volumeWith_5 hcz) (fun E M_x h => ?_) (fun r_1 M_2 h => ?_)
  · rcases h with ⟨rfl, h⟩ | ⟨rfl, h⟩ | ⟨rfl, h⟩
    · have h := h
      refine q_catch (name := "") C htab [] (0, 9, 12, 21) [(0, 9, 16, 13), (0, 9, 20, 15)] rfl (by decide) (fun z hz => absurd hz List.not_mem_nil) (by decide) (by decide) (by decide +kernel) (fun qx => ?_)
      refine q_astore (lv' := [(4, .ref qx), (0, .ref a0), (1, .int i1), (2, .int i2), (3, .ref a3)]) C dL_volumeWith_12 (by decide) rfl ?_
      refine q_iconst (v := 1) C dL_volumeWith_14 (by decide) ?_
      exact q_xret (q_iret C hr hlk dL_volumeWith_15 h.1 h.2.1 h.2.2)
    · have h := h
      refine q_catch (name := "") C htab [(0, 9, 12, 21)] (0, 9, 16, 13) [(0, 9, 20, 15)] rfl (by decide) (List.forall_mem_cons.mpr ⟨Or.inr ⟨by decide, "java/lang/IndexOutOfBoundsException", by decide, by decide, by decide +kernel⟩, fun z hz => absurd hz List.not_mem_nil⟩) (by decide) (by decide) (by decide +kernel) (fun qx => ?_)
      refine q_astore (lv' := [(4, .ref qx), (0, .ref a0), (1, .int i1), (2, .int i2), (3, .ref a3)]) C dL_volumeWith_16 (by decide) rfl ?_
      refine q_iconst (v := 2) C dL_volumeWith_18 (by decide) ?_
      exact q_xret (q_iret C hr hlk dL_volumeWith_19 h.1 h.2.1 h.2.2)
    · have h := h
      refine q_catch (name := "") C htab [(0, 9, 12, 21), (0, 9, 16, 13)] (0, 9, 20, 15) [] rfl (by decide) (List.forall_mem_cons.mpr ⟨Or.inr ⟨by decide, "java/lang/IndexOutOfBoundsException", by decide, by decide, by decide +kernel⟩, List.forall_mem_cons.mpr ⟨Or.inr ⟨by decide, "java/lang/IllegalArgumentException", by decide, by decide, by decide +kernel⟩, fun z hz => absurd hz List.not_mem_nil⟩⟩) (by decide) (by decide) (by decide +kernel) (fun qx => ?_)
      refine q_astore (lv' := [(4, .ref qx), (0, .ref a0), (1, .int i1), (2, .int i2), (3, .ref a3)]) C dL_volumeWith_20 (by decide) rfl ?_
      refine q_iconst (v := 3) C dL_volumeWith_22 (by decide) ?_
      exact q_xret (q_iret C hr hlk dL_volumeWith_23 h.1 h.2.1 h.2.2)
  · obtain ⟨n_4, z1, z2, h⟩ := h
    refine q_last C z1 z2 dL_volumeWith_8 ?_
    refine q_goto (tgt := 24) C dL_volumeWith_9 (by decide) ?_
    refine q_iconst (v := 0) C dL_volumeWith_24 (by decide) ?_
    exact q_xret (q_iret C hr hlk dL_volumeWith_25 h.1 h.2.1 h.2.2)
def T_L_holesWithout (Cc Zz : Nat) (M : Mm) (a0 : Nat) (i1 : Int32) (a2 : Nat) (Q : Int32 → Mm → Prop) (X : String → Mm → Prop) : Prop := ∃ dc_3 ds_3 : Nat, (0 + dc_3 ≤ Cc ∧ 0 + ds_3 ≤ Zz) ∧ kM M a0 = (8, 8) ∧ T_X8_holesWithout dc_3 ds_3 M a0 i1 (fun r_1 M_2 => ∃ n_4 : Nat, kM M_2 a2 = (110, n_4) ∧ vp_in 0 n_4 ∧ (0 + dc_3) ≤ Cc ∧ (0 + ds_3) ≤ Zz ∧ Q 0 (wL M_2 a2 (0 : Int32).toNatClampNeg r_1.toInt64)) (fun E_x M_x => (E_x = "java/lang/IndexOutOfBoundsException" ∧ (0 + dc_3) ≤ Cc ∧ (0 + ds_3) ≤ Zz ∧ Q 1 M_x))
set_option maxRecDepth 100000 in
set_option maxHeartbeats 4000000 in
theorem c_L_holesWithout (l : Launch) (hl : l.stackTraces = false) (D : va_G) (cA : Nat → ClassId) (lo : Nat) {M : Mm} {a0 : Nat} {i1 : Int32} {a2 : Nat} {Cc Zz : Nat} {Q : Int32 → Mm → Prop} {X : String → Mm → Prop} (h : T_L_holesWithout Cc Zz M a0 i1 a2 Q X) : vx_Met l yL_holesWithout wsL_holesWithout ({ frames := 8, cells := Cc, slots := Zz, locals := 142 } : Room) (PcM D cA lo [.ref a0, .int i1, .ref a2] M) (QiM D cA lo Q) (XcM D cA lo X) Cc Zz (fun q => lo ≤ q) := by
  refine q_startH (hh := [(0, 9, 12, 21)]) (cc := cL_holesWithout) (nL := 4) (ret := (some .int)) (by decide) rfl rfl (Nat.le_of_ble_eq_true rfl) ?_
  intro p e s m args below meth c C hr hlk htab
  unfold T_L_holesWithout at h
  refine q_aload_n C dL_holesWithout_0 rfl (j := 2) rfl ?_
  refine q_iconst (v := 0) C dL_holesWithout_1 (by decide) ?_
  refine q_aload_n C dL_holesWithout_2 rfl (j := 0) rfl ?_
  refine q_iload_n C dL_holesWithout_3 rfl (j := 1) rfl ?_
  obtain ⟨dc_3, ds_3, hcz, h⟩ := h
  refine q_xi (qx_runV (As := [.int i1]) (st := [.int 0, .ref a2]) C (c_X8_holesWithout l hl D cA lo h.2) (cwV 1 C.2.2.2.2.1 gL_holesWithout_X8_holesWithout rfl rfl rfl (by decide +kernel) ⟨Nat.le_of_ble_eq_true rfl, Nat.le_of_ble_eq_true rfl⟩) h.1 (by decide) rfl rfl rfl (Nat.le_of_ble_eq_true rfl) dL_holesWithout_4 hcz) (fun E M_x h => ?_) (fun r_1 M_2 h => ?_)
  · obtain ⟨rfl, h⟩ := h
    have h := h
    refine q_catch (name := "") C htab [] (0, 9, 12, 21) [] rfl (by decide) (fun z hz => absurd hz List.not_mem_nil) (by decide) (by decide) (by decide +kernel) (fun qx => ?_)
    refine q_astore_n (lv' := [(3, .ref qx), (0, .ref a0), (1, .int i1), (2, .ref a2)]) C dL_holesWithout_12 rfl (by decide) rfl ?_
    refine q_iconst (v := 1) C dL_holesWithout_13 (by decide) ?_
    exact q_xret (q_iret C hr hlk dL_holesWithout_14 h.1 h.2.1 h.2.2)
  · refine q_i2l C dL_holesWithout_7 ?_
    obtain ⟨n_4, z1, z2, h⟩ := h
    refine q_last C z1 z2 dL_holesWithout_8 ?_
    refine q_goto (tgt := 15) C dL_holesWithout_9 (by decide) ?_
    refine q_iconst (v := 0) C dL_holesWithout_15 (by decide) ?_
    exact q_xret (q_iret C hr hlk dL_holesWithout_16 h.1 h.2.1 h.2.2)
