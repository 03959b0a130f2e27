def T_X8_needPoint (Cc Zz : Nat) (M : Mm) (a0 : Nat) (i1 : Int32) (Q : Mm → Prop) (X : String → Mm → Prop) : Prop := kM M a0 = (8, 8) ∧ ∃ a_1 : Nat, rM M a0 0 = some a_1 ∧ (0 ≤ Cc ∧ 0 ≤ Zz) ∧ kM M a_1 = (3, 4) ∧ T_X3_has M a_1 i1 (fun r_2 => (¬ r_2 = 0 → 0 ≤ Cc ∧ 0 ≤ Zz ∧ Q M) ∧ (r_2 = 0 → 0 + 1 ≤ Cc ∧ 0 + 6 ≤ Zz ∧ X "java/lang/IndexOutOfBoundsException" M))
theorem inX8_needPoint_X8 : ∀ w ∈ wsX80, w ∈ wsX8_needPoint := by decide +kernel
set_option maxRecDepth 100000 in
set_option maxHeartbeats 4000000 in
theorem c_X8_needPoint (l : Launch) (hl : l.stackTraces = false) (D : va_G) (cA : Nat → ClassId) (lo : Nat) {M : Mm} {a0 : Nat} {i1 : Int32} {Cc Zz : Nat} {Q : Mm → Prop} {X : String → Mm → Prop} (h : T_X8_needPoint Cc Zz M a0 i1 Q X) : vx_Met l yX8_needPoint wsX8_needPoint ({ frames := 6, cells := Cc, slots := Zz, locals := 90 } : Room) (PcM D cA lo [.ref a0, .int i1] M) (QvM D cA lo Q) (XcM D cA lo X) Cc Zz (fun q => lo ≤ q) := by
  refine q_startX (cc := cX8_needPoint) (nL := 2) (ret := none) (by decide) rfl rfl (Nat.le_of_ble_eq_true rfl) ?_
  intro p e s m args below meth c C hr hlk hin hex
  unfold T_X8_needPoint at h
  refine q_aload_n C dX8_needPoint_0 rfl (j := 0) rfl ?_
  refine q_getR (ci := 8) (k0 := 0) (T := TX8) C inX8_needPoint_X8 rfl (by decide) h.1 (by decide) rfl (by decide +kernel) rfl dX8_needPoint_1 ?_
  obtain ⟨a_1, z, h⟩ := h.2
  refine q_ref z ?_
  refine q_iload_n C dX8_needPoint_4 rfl (j := 1) rfl ?_
  have hcz := h.1
  have h := h.2
  refine q_ci (q_runV (As := [.int i1]) (st := []) C (c_X3_has l D cA lo h.2) (cwV 1 C.2.2.2.2.1 gX8_needPoint_X3_has rfl rfl rfl (by decide +kernel) ⟨Nat.le_of_ble_eq_true rfl, Nat.le_of_ble_eq_true rfl⟩) h.1 (by decide) rfl rfl rfl (Nat.le_of_ble_eq_true rfl) dX8_needPoint_5 ⟨Nat.le_trans (Nat.le_of_eq (Nat.add_zero _)) hcz.1, Nat.le_trans (Nat.le_of_eq (Nat.add_zero _)) hcz.2⟩) (fun r_2 M_z h => ?_)
  refine q_mem h.1 ?_
  have h := h.2
  refine q_if_ne (tgt := 22) C dX8_needPoint_8 (by decide) (fun z => ?_) (fun z => ?_)
  · have h := h.1 z
    exact q_xret (q_vret C hr hlk dX8_needPoint_22 h.1 h.2.1 h.2.2)
  · have h := h.2 z
    exact q_throw (E := "java/lang/IndexOutOfBoundsException") (text := "no such POINT") C hl hlk (fun x hx => hex x hx _) (List.mem_of_getElem? (i := 4) rfl) (by decide +kernel) (by decide +kernel) (by decide +kernel) (by decide +kernel) (by decide +kernel) (by decide +kernel) (by decide +kernel) dX8_needPoint_11 dX8_needPoint_14 dX8_needPoint_15 dX8_needPoint_18 dX8_needPoint_21 ⟨Nat.le_of_ble_eq_true rfl, Nat.le_of_ble_eq_true rfl, h.1, h.2.1⟩ h.1 h.2.1 h.2.2
def T_X8_needPoints (Cc Zz : Nat) (M : Mm) (a0 : Nat) (i1 : Int32) (i2 : Int32) (Q : Mm → Prop) (X : String → Mm → Prop) : Prop := ∃ dc_3 ds_3 : Nat, (0 + dc_3 ≤ Cc ∧ 0 + ds_3 ≤ Zz) ∧ kM M a0 = (8, 8) ∧ T_X8_needPoint dc_3 ds_3 M a0 i1 (fun M_2 => ∃ dc_6 ds_6 : Nat, ((0 + dc_3) + dc_6 ≤ Cc ∧ (0 + ds_3) + ds_6 ≤ Zz) ∧ kM M_2 a0 = (8, 8) ∧ T_X8_needPoint dc_6 ds_6 M_2 a0 i2 (fun M_5 => ((0 + dc_3) + dc_6) ≤ Cc ∧ ((0 + ds_3) + ds_6) ≤ Zz ∧ Q M_5) X) X
set_option maxRecDepth 100000 in
set_option maxHeartbeats 4000000 in
theorem c_X8_needPoints (l : Launch) (hl : l.stackTraces = false) (D : va_G) (cA : Nat → ClassId) (lo : Nat) {M : Mm} {a0 : Nat} {i1 : Int32} {i2 : Int32} {Cc Zz : Nat} {Q : Mm → Prop} {X : String → Mm → Prop} (h : T_X8_needPoints Cc Zz M a0 i1 i2 Q X) : vx_Met l yX8_needPoints wsX8_needPoints ({ frames := 7, cells := Cc, slots := Zz, locals := 111 } : Room) (PcM D cA lo [.ref a0, .int i1, .int i2] M) (QvM D cA lo Q) (XcM D cA lo X) Cc Zz (fun q => lo ≤ q) := by
  refine q_startX (cc := cX8_needPoints) (nL := 3) (ret := none) (by decide) rfl rfl (Nat.le_of_ble_eq_true rfl) ?_
  intro p e s m args below meth c C hr hlk hin hex
  unfold T_X8_needPoints at h
  refine q_aload_n C dX8_needPoints_0 rfl (j := 0) rfl ?_
  refine q_iload_n C dX8_needPoints_1 rfl (j := 1) rfl ?_
  obtain ⟨dc_3, ds_3, hcz, h⟩ := h
  refine q_xv (qx_runV (As := [.int i1]) (st := []) C (c_X8_needPoint l hl D cA lo h.2) (cwV 1 C.2.2.2.2.1 gX8_needPoints_X8_needPoint rfl rfl rfl (by decide +kernel) ⟨Nat.le_of_ble_eq_true rfl, Nat.le_of_ble_eq_true rfl⟩) h.1 (by decide) rfl rfl rfl (Nat.le_of_ble_eq_true rfl) dX8_needPoints_2 hcz) (fun E M_x h => ?_) (fun M_2 h => ?_)
  · exact q_xout (fun x hx => hex x hx _) hlk hcz.1 hcz.2 h
  · refine q_aload_n C dX8_needPoints_5 rfl (j := 0) rfl ?_
    refine q_iload_n C dX8_needPoints_6 rfl (j := 2) rfl ?_
    obtain ⟨dc_6, ds_6, hcz, h⟩ := h
    refine q_xv (qx_runV (As := [.int i2]) (st := []) C (c_X8_needPoint l hl D cA lo h.2) (cwV 1 C.2.2.2.2.1 gX8_needPoints_X8_needPoint rfl rfl rfl (by decide +kernel) ⟨Nat.le_of_ble_eq_true rfl, Nat.le_of_ble_eq_true rfl⟩) h.1 (by decide) rfl rfl rfl (Nat.le_of_ble_eq_true rfl) dX8_needPoints_7 hcz) (fun E M_x h => ?_) (fun M_5 h => ?_)
    · exact q_xout (fun x hx => hex x hx _) hlk hcz.1 hcz.2 h
    · exact q_xret (q_vret C hr hlk dX8_needPoints_10 h.1 h.2.1 h.2.2)
def S_X8_face_23 (K23 : Nat → Int32 → Int32 → Int32 → Int32 → Mm → Nat → Nat → Prop) (K75 : Nat → Int32 → Mm → Nat → Nat → Prop) (Cc Zz : Nat) (Q : Int32 → Mm → Prop) (X : String → Mm → Prop) (M : Mm) (a0 : Nat) (i1 : Int32) (i2 : Int32) (i3 : Int32) (i4 : Int32) (cc zz : Nat) : Prop := kM M a0 = (8, 8) ∧ ∃ a_10 : Nat, rM M a0 6 = some a_10 ∧ (cc ≤ Cc ∧ zz ≤ Zz) ∧ kM M a_10 = (5, 2) ∧ T_X5_set M a_10 i1 i2 i3 i4 (fun M_12 => kM M_12 a0 = (8, 8) ∧ ∃ a_13 : Nat, rM M_12 a0 1 = some a_13 ∧ (cc ≤ Cc ∧ zz ≤ Zz) ∧ kM M_12 a_13 = (1, 5) ∧ T_X1_hasRoom M_12 a_13 1 (fun r_14 => (r_14 = 0 → K75 a0 0 M_12 cc zz) ∧ (¬ r_14 = 0 → kM M_12 a0 = (8, 8) ∧ ∃ a_15 : Nat, rM M_12 a0 6 = some a_15 ∧ (cc ≤ Cc ∧ zz ≤ Zz) ∧ kM M_12 a_15 = (5, 2) ∧ T_X5_hasTwice M_12 a_15 (fun r_16 => (¬ r_16 = 0 → K75 a0 0 M_12 cc zz) ∧ (r_16 = 0 → kM M_12 a0 = (8, 8) ∧ ∃ a_17 : Nat, rM M_12 a0 1 = some a_17 ∧ kM M_12 a0 = (8, 8) ∧ ∃ a_18 : Nat, rM M_12 a0 6 = some a_18 ∧ (cc ≤ Cc ∧ zz ≤ Zz) ∧ kM M_12 a_17 = (1, 5) ∧ T_X1_isFree M_12 a_17 a_18 (fun r_19 => (r_19 = 0 → K75 a0 0 M_12 cc zz) ∧ (¬ r_19 = 0 → K75 a0 1 M_12 cc zz)))))))
def S_X8_face_75 (K23 : Nat → Int32 → Int32 → Int32 → Int32 → Mm → Nat → Nat → Prop) (K75 : Nat → Int32 → Mm → Nat → Nat → Prop) (Cc Zz : Nat) (Q : Int32 → Mm → Prop) (X : String → Mm → Prop) (M : Mm) (a0 : Nat) (is0 : Int32) (cc zz : Nat) : Prop := ∃ dc_22 ds_22 : Nat, (cc + dc_22 ≤ Cc ∧ zz + ds_22 ≤ Zz) ∧ T_X8_needState dc_22 ds_22 M is0 (fun M_21 => kM M_21 a0 = (8, 8) ∧ ∃ a_23 : Nat, rM M_21 a0 1 = some a_23 ∧ kM M_21 a0 = (8, 8) ∧ ∃ a_24 : Nat, rM M_21 a0 6 = some a_24 ∧ ((cc + dc_22) ≤ Cc ∧ (zz + ds_22) ≤ Zz) ∧ kM M_21 a_23 = (1, 5) ∧ T_X1_add M_21 a_23 a_24 (fun r_25 M_26 => (cc + dc_22) ≤ Cc ∧ (zz + ds_22) ≤ Zz ∧ Q r_25 M_26)) X
def T_X8_face (Cc Zz : Nat) (M : Mm) (a0 : Nat) (i1 : Int32) (i2 : Int32) (i3 : Int32) (i4 : Int32) (Q : Int32 → Mm → Prop) (X : String → Mm → Prop) : Prop := ∀ (K23 : Nat → Int32 → Int32 → Int32 → Int32 → Mm → Nat → Nat → Prop) (K75 : Nat → Int32 → Mm → Nat → Nat → Prop), (∀ (a0 : Nat) (i1 : Int32) (i2 : Int32) (i3 : Int32) (i4 : Int32) (M : Mm) (cc zz : Nat), S_X8_face_23 K23 K75 Cc Zz Q X M a0 i1 i2 i3 i4 cc zz → K23 a0 i1 i2 i3 i4 M cc zz) → (∀ (a0 : Nat) (is0 : Int32) (M : Mm) (cc zz : Nat), S_X8_face_75 K23 K75 Cc Zz Q X M a0 is0 cc zz → K75 a0 is0 M cc zz) → ∃ dc_3 ds_3 : Nat, (0 + dc_3 ≤ Cc ∧ 0 + ds_3 ≤ Zz) ∧ kM M a0 = (8, 8) ∧ T_X8_needPoints dc_3 ds_3 M a0 i1 i2 (fun M_2 => ∃ dc_6 ds_6 : Nat, ((0 + dc_3) + dc_6 ≤ Cc ∧ (0 + ds_3) + ds_6 ≤ Zz) ∧ kM M_2 a0 = (8, 8) ∧ T_X8_needPoint dc_6 ds_6 M_2 a0 i3 (fun M_5 => (i4 = (-1) → K23 a0 i1 i2 i3 i4 M_5 ((0 + dc_3) + dc_6) ((0 + ds_3) + ds_6)) ∧ (¬ i4 = (-1) → ∃ dc_9 ds_9 : Nat, (((0 + dc_3) + dc_6) + dc_9 ≤ Cc ∧ ((0 + ds_3) + ds_6) + ds_9 ≤ Zz) ∧ kM M_5 a0 = (8, 8) ∧ T_X8_needPoint dc_9 ds_9 M_5 a0 i4 (fun M_8 => K23 a0 i1 i2 i3 i4 M_8 (((0 + dc_3) + dc_6) + dc_9) (((0 + ds_3) + ds_6) + ds_9)) X)) X) X
theorem inX8_face_X8 : ∀ w ∈ wsX80, w ∈ wsX8_face := by decide +kernel
set_option maxRecDepth 100000 in
set_option maxHeartbeats 4000000 in
theorem b_X8_face_23 {p : Program} {l : Launch} {e : Env} {s : State} {m : MethodId} {args : Array Value} {below : List Frame} {meth : Method} {c : Code} {D : va_G} {cA : Nat → ClassId} {lo : Nat} (C : Cx p s m args c cX8_face 5 RX8 wsX8_face D cA lo) (hr : meth.sig.returnType = (some .int)) (hlk : meth.locks = false) (hl : l.stackTraces = false) (hex : ∀ x ∈ c.exceptionTable.toList, ∀ pc, covers x pc = false) {Q : Int32 → Mm → Prop} {Cc Zz : Nat} {X : String → Mm → Prop} (M : Mm) (a0 : Nat) (i1 : Int32) (i2 : Int32) (i3 : Int32) (i4 : Int32) (cc zz : Nat) (h : S_X8_face_23 (fun (a0 : Nat) (i1 : Int32) (i2 : Int32) (i3 : Int32) (i4 : Int32) (M : Mm) (cc zz : Nat) => QW p l e ({ frames := 8, cells := Cc, slots := Zz, locals := 133 } : Room) s m args below meth c (vx_MQ below (QiM D cA lo Q) (XcM D cA lo X) args s Cc Zz (fun q => lo ≤ q)) 5 D cA lo cc zz M 23 [(0, .ref a0), (1, .int i1), (2, .int i2), (3, .int i3), (4, .int i4)] []) (fun (a0 : Nat) (is0 : Int32) (M : Mm) (cc zz : Nat) => QW p l e ({ frames := 8, cells := Cc, slots := Zz, locals := 133 } : Room) s m args below meth c (vx_MQ below (QiM D cA lo Q) (XcM D cA lo X) args s Cc Zz (fun q => lo ≤ q)) 5 D cA lo cc zz M 75 [(0, .ref a0)] [.int is0]) Cc Zz Q X M a0 i1 i2 i3 i4 cc zz) : QW p l e ({ frames := 8, cells := Cc, slots := Zz, locals := 133 } : Room) s m args below meth c (vx_MQ below (QiM D cA lo Q) (XcM D cA lo X) args s Cc Zz (fun q => lo ≤ q)) 5 D cA lo cc zz M 23 [(0, .ref a0), (1, .int i1), (2, .int i2), (3, .int i3), (4, .int i4)] [] := by
  unfold S_X8_face_23 at h
  refine q_aload_n C dX8_face_23 rfl (j := 0) rfl ?_
  refine q_getR (ci := 8) (k0 := 6) (T := TX8) C inX8_face_X8 rfl (by decide) h.1 (by decide) rfl (by decide +kernel) rfl dX8_face_24 ?_
  obtain ⟨a_10, z, h⟩ := h.2
  refine q_ref z ?_
  refine q_iload_n C dX8_face_27 rfl (j := 1) rfl ?_
  refine q_iload_n C dX8_face_28 rfl (j := 2) rfl ?_
  refine q_iload_n C dX8_face_29 rfl (j := 3) rfl ?_
  refine q_iload C dX8_face_30 (j := 4) rfl ?_
  have hcz := h.1
  have h := h.2
  refine q_cv (q_runV (As := [.int i1, .int i2, .int i3, .int i4]) (st := []) C (c_X5_set l D cA lo h.2) (cwV 4 C.2.2.2.2.1 gX8_face_X5_set rfl rfl rfl (by decide +kernel) ⟨Nat.le_of_ble_eq_true rfl, Nat.le_of_ble_eq_true rfl⟩) h.1 (by decide) rfl rfl rfl (Nat.le_of_ble_eq_true rfl) dX8_face_32 ⟨Nat.le_trans (Nat.le_of_eq (Nat.add_zero _)) hcz.1, Nat.le_trans (Nat.le_of_eq (Nat.add_zero _)) hcz.2⟩) (fun M_12 h => ?_)
  refine q_aload_n C dX8_face_35 rfl (j := 0) rfl ?_
  refine q_getR (ci := 8) (k0 := 1) (T := TX8) C inX8_face_X8 rfl (by decide) h.1 (by decide) rfl (by decide +kernel) rfl dX8_face_36 ?_
  obtain ⟨a_13, z, h⟩ := h.2
  refine q_ref z ?_
  refine q_iconst (v := 1) C dX8_face_39 (by decide) ?_
  have hcz := h.1
  have h := h.2
  refine q_ci (q_runV (As := [.int 1]) (st := []) C (c_X1_hasRoom l D cA lo h.2) (cwV 1 C.2.2.2.2.1 gX8_face_X1_hasRoom rfl rfl rfl (by decide +kernel) ⟨Nat.le_of_ble_eq_true rfl, Nat.le_of_ble_eq_true rfl⟩) h.1 (by decide) rfl rfl rfl (Nat.le_of_ble_eq_true rfl) dX8_face_40 ⟨Nat.le_trans (Nat.le_of_eq (Nat.add_zero _)) hcz.1, Nat.le_trans (Nat.le_of_eq (Nat.add_zero _)) hcz.2⟩) (fun r_14 M_z h => ?_)
  refine q_mem h.1 ?_
  have h := h.2
  refine q_if_eq (tgt := 74) C dX8_face_43 (by decide) (fun z => ?_) (fun z => ?_)
  · have h := h.1 z
    refine q_iconst (v := 0) C dX8_face_74 (by decide) ?_
    exact q_sub [0] rfl h
  · have h := h.2 z
    refine q_aload_n C dX8_face_46 rfl (j := 0) rfl ?_
    refine q_getR (ci := 8) (k0 := 6) (T := TX8) C inX8_face_X8 rfl (by decide) h.1 (by decide) rfl (by decide +kernel) rfl dX8_face_47 ?_
    obtain ⟨a_15, z, h⟩ := h.2
    refine q_ref z ?_
    have hcz := h.1
    have h := h.2
    refine q_ci (q_runV (As := []) (st := []) C (c_X5_hasTwice l D cA lo h.2) (cwV 0 C.2.2.2.2.1 gX8_face_X5_hasTwice rfl rfl rfl (by decide +kernel) ⟨Nat.le_of_ble_eq_true rfl, Nat.le_of_ble_eq_true rfl⟩) h.1 (by decide) rfl rfl rfl (Nat.le_of_ble_eq_true rfl) dX8_face_50 ⟨Nat.le_trans (Nat.le_of_eq (Nat.add_zero _)) hcz.1, Nat.le_trans (Nat.le_of_eq (Nat.add_zero _)) hcz.2⟩) (fun r_16 M_z h => ?_)
    refine q_mem h.1 ?_
    have h := h.2
    refine q_if_ne (tgt := 74) C dX8_face_53 (by decide) (fun z => ?_) (fun z => ?_)
    · have h := h.1 z
      refine q_iconst (v := 0) C dX8_face_74 (by decide) ?_
      exact q_sub [0] rfl h
    · have h := h.2 z
      refine q_aload_n C dX8_face_56 rfl (j := 0) rfl ?_
      refine q_getR (ci := 8) (k0 := 1) (T := TX8) C inX8_face_X8 rfl (by decide) h.1 (by decide) rfl (by decide +kernel) rfl dX8_face_57 ?_
      obtain ⟨a_17, z, h⟩ := h.2
      refine q_ref z ?_
      refine q_aload_n C dX8_face_60 rfl (j := 0) rfl ?_
      refine q_getR (ci := 8) (k0 := 6) (T := TX8) C inX8_face_X8 rfl (by decide) h.1 (by decide) rfl (by decide +kernel) rfl dX8_face_61 ?_
      obtain ⟨a_18, z, h⟩ := h.2
      refine q_ref z ?_
      have hcz := h.1
      have h := h.2
      refine q_ci (q_runV (As := [.ref a_18]) (st := []) C (c_X1_isFree l D cA lo h.2) (cwV 1 C.2.2.2.2.1 gX8_face_X1_isFree rfl rfl rfl (by decide +kernel) ⟨Nat.le_of_ble_eq_true rfl, Nat.le_of_ble_eq_true rfl⟩) h.1 (by decide) rfl rfl rfl (Nat.le_of_ble_eq_true rfl) dX8_face_64 ⟨Nat.le_trans (Nat.le_of_eq (Nat.add_zero _)) hcz.1, Nat.le_trans (Nat.le_of_eq (Nat.add_zero _)) hcz.2⟩) (fun r_19 M_z h => ?_)
      refine q_mem h.1 ?_
      have h := h.2
      refine q_if_eq (tgt := 74) C dX8_face_67 (by decide) (fun z => ?_) (fun z => ?_)
      · have h := h.1 z
        refine q_iconst (v := 0) C dX8_face_74 (by decide) ?_
        exact q_sub [0] rfl h
      · have h := h.2 z
        refine q_iconst (v := 1) C dX8_face_70 (by decide) ?_
        refine q_goto (tgt := 75) C dX8_face_71 (by decide) ?_
        exact q_sub [0] rfl h
set_option maxRecDepth 100000 in
set_option maxHeartbeats 4000000 in
theorem b_X8_face_75 {p : Program} {l : Launch} {e : Env} {s : State} {m : MethodId} {args : Array Value} {below : List Frame} {meth : Method} {c : Code} {D : va_G} {cA : Nat → ClassId} {lo : Nat} (C : Cx p s m args c cX8_face 5 RX8 wsX8_face D cA lo) (hr : meth.sig.returnType = (some .int)) (hlk : meth.locks = false) (hl : l.stackTraces = false) (hex : ∀ x ∈ c.exceptionTable.toList, ∀ pc, covers x pc = false) {Q : Int32 → Mm → Prop} {Cc Zz : Nat} {X : String → Mm → Prop} (M : Mm) (a0 : Nat) (is0 : Int32) (cc zz : Nat) (h : S_X8_face_75 (fun (a0 : Nat) (i1 : Int32) (i2 : Int32) (i3 : Int32) (i4 : Int32) (M : Mm) (cc zz : Nat) => QW p l e ({ frames := 8, cells := Cc, slots := Zz, locals := 133 } : Room) s m args below meth c (vx_MQ below (QiM D cA lo Q) (XcM D cA lo X) args s Cc Zz (fun q => lo ≤ q)) 5 D cA lo cc zz M 23 [(0, .ref a0), (1, .int i1), (2, .int i2), (3, .int i3), (4, .int i4)] []) (fun (a0 : Nat) (is0 : Int32) (M : Mm) (cc zz : Nat) => QW p l e ({ frames := 8, cells := Cc, slots := Zz, locals := 133 } : Room) s m args below meth c (vx_MQ below (QiM D cA lo Q) (XcM D cA lo X) args s Cc Zz (fun q => lo ≤ q)) 5 D cA lo cc zz M 75 [(0, .ref a0)] [.int is0]) Cc Zz Q X M a0 is0 cc zz) : QW p l e ({ frames := 8, cells := Cc, slots := Zz, locals := 133 } : Room) s m args below meth c (vx_MQ below (QiM D cA lo Q) (XcM D cA lo X) args s Cc Zz (fun q => lo ≤ q)) 5 D cA lo cc zz M 75 [(0, .ref a0)] [.int is0] := by
  unfold S_X8_face_75 at h
  obtain ⟨dc_22, ds_22, hcz, h⟩ := h
  refine q_xv (qx_runS (As := [.int is0]) (st := []) C (c_X8_needState l hl D cA lo h) (va_cwS 1 C.2.2.2.2.1 gX8_face_X8_needState rfl rfl rfl (by decide +kernel) ⟨Nat.le_of_ble_eq_true rfl, Nat.le_of_ble_eq_true rfl⟩) rfl rfl (Nat.le_of_ble_eq_true rfl) dX8_face_75 hcz) (fun E M_x h => ?_) (fun M_21 h => ?_)
  · exact q_xout (fun x hx => hex x hx _) hlk hcz.1 hcz.2 h
  · refine q_aload_n C dX8_face_78 rfl (j := 0) rfl ?_
    refine q_getR (ci := 8) (k0 := 1) (T := TX8) C inX8_face_X8 rfl (by decide) h.1 (by decide) rfl (by decide +kernel) rfl dX8_face_79 ?_
    obtain ⟨a_23, z, h⟩ := h.2
    refine q_ref z ?_
    refine q_aload_n C dX8_face_82 rfl (j := 0) rfl ?_
    refine q_getR (ci := 8) (k0 := 6) (T := TX8) C inX8_face_X8 rfl (by decide) h.1 (by decide) rfl (by decide +kernel) rfl dX8_face_83 ?_
    obtain ⟨a_24, z, h⟩ := h.2
    refine q_ref z ?_
    have hcz := h.1
    have h := h.2
    refine q_ci (q_runV (As := [.ref a_24]) (st := []) C (c_X1_add l D cA lo h.2) (cwV 1 C.2.2.2.2.1 gX8_face_X1_add rfl rfl rfl (by decide +kernel) ⟨Nat.le_of_ble_eq_true rfl, Nat.le_of_ble_eq_true rfl⟩) h.1 (by decide) rfl rfl rfl (Nat.le_of_ble_eq_true rfl) dX8_face_86 ⟨Nat.le_trans (Nat.le_of_eq (Nat.add_zero _)) hcz.1, Nat.le_trans (Nat.le_of_eq (Nat.add_zero _)) hcz.2⟩) (fun r_25 M_26 h => ?_)
    exact q_xret (q_iret C hr hlk dX8_face_89 h.1 h.2.1 h.2.2)
set_option maxRecDepth 100000 in
set_option maxHeartbeats 4000000 in
theorem c_X8_face (l : Launch) (hl : l.stackTraces = false) (D : va_G) (cA : Nat → ClassId) (lo : Nat) {M : Mm} {a0 : Nat} {i1 : Int32} {i2 : Int32} {i3 : Int32} {i4 : Int32} {Cc Zz : Nat} {Q : Int32 → Mm → Prop} {X : String → Mm → Prop} (h : T_X8_face Cc Zz M a0 i1 i2 i3 i4 Q X) : vx_Met l yX8_face wsX8_face ({ frames := 8, cells := Cc, slots := Zz, locals := 133 } : Room) (PcM D cA lo [.ref a0, .int i1, .int i2, .int i3, .int i4] M) (QiM D cA lo Q) (XcM D cA lo X) Cc Zz (fun q => lo ≤ q) := by
  refine q_startX (cc := cX8_face) (nL := 5) (ret := (some .int)) (by decide) rfl rfl (Nat.le_of_ble_eq_true rfl) ?_
  intro p e s m args below meth c C hr hlk hin hex
  unfold T_X8_face at h
  have h := h (fun (a0 : Nat) (i1 : Int32) (i2 : Int32) (i3 : Int32) (i4 : Int32) (M : Mm) (cc zz : Nat) => QW p l e ({ frames := 8, cells := Cc, slots := Zz, locals := 133 } : Room) s m args below meth c (vx_MQ below (QiM D cA lo Q) (XcM D cA lo X) args s Cc Zz (fun q => lo ≤ q)) 5 D cA lo cc zz M 23 [(0, .ref a0), (1, .int i1), (2, .int i2), (3, .int i3), (4, .int i4)] []) (fun (a0 : Nat) (is0 : Int32) (M : Mm) (cc zz : Nat) => QW p l e ({ frames := 8, cells := Cc, slots := Zz, locals := 133 } : Room) s m args below meth c (vx_MQ below (QiM D cA lo Q) (XcM D cA lo X) args s Cc Zz (fun q => lo ≤ q)) 5 D cA lo cc zz M 75 [(0, .ref a0)] [.int is0]) (fun a0 i1 i2 i3 i4 M cc zz h => b_X8_face_23 C hr hlk hl hex M a0 i1 i2 i3 i4 cc zz h) (fun a0 is0 M cc zz h => b_X8_face_75 C hr hlk hl hex M a0 is0 cc zz h)
  refine q_aload_n C dX8_face_0 rfl (j := 0) rfl ?_
  refine q_iload_n C dX8_face_1 rfl (j := 1) rfl ?_
  refine q_iload_n C dX8_face_2 rfl (j := 2) rfl ?_
  obtain ⟨dc_3, ds_3, hcz, h⟩ := h
  refine q_xv (qx_runV (As := [.int i1, .int i2]) (st := []) C (c_X8_needPoints l hl D cA lo h.2) (cwV 2 C.2.2.2.2.1 gX8_face_X8_needPoints rfl rfl rfl (by decide +kernel) ⟨Nat.le_of_ble_eq_true rfl, Nat.le_of_ble_eq_true rfl⟩) h.1 (by decide) rfl rfl rfl (Nat.le_of_ble_eq_true rfl) dX8_face_3 hcz) (fun E M_x h => ?_) (fun M_2 h => ?_)
  · exact q_xout (fun x hx => hex x hx _) hlk hcz.1 hcz.2 h
  · refine q_aload_n C dX8_face_6 rfl (j := 0) rfl ?_
    refine q_iload_n C dX8_face_7 rfl (j := 3) rfl ?_
    obtain ⟨dc_6, ds_6, hcz, h⟩ := h
    refine q_xv (qx_runV (As := [.int i3]) (st := []) C (c_X8_needPoint l hl D cA lo h.2) (cwV 1 C.2.2.2.2.1 gX8_face_X8_needPoint rfl rfl rfl (by decide +kernel) ⟨Nat.le_of_ble_eq_true rfl, Nat.le_of_ble_eq_true rfl⟩) h.1 (by decide) rfl rfl rfl (Nat.le_of_ble_eq_true rfl) dX8_face_8 hcz) (fun E M_x h => ?_) (fun M_5 h => ?_)
    · exact q_xout (fun x hx => hex x hx _) hlk hcz.1 hcz.2 h
    · refine q_iload C dX8_face_11 (j := 4) rfl ?_
      refine q_iconst (v := (-1)) C dX8_face_13 (by decide) ?_
      refine q_icmp_eq (tgt := 23) C dX8_face_14 (by decide) (fun z => ?_) (fun z => ?_)
      · have h := h.1 z
        exact q_sub [0, 1, 2, 3, 4] rfl h
      · have h := h.2 z
        refine q_aload_n C dX8_face_17 rfl (j := 0) rfl ?_
        refine q_iload C dX8_face_18 (j := 4) rfl ?_
        obtain ⟨dc_9, ds_9, hcz, h⟩ := h
        refine q_xv (qx_runV (As := [.int i4]) (st := []) C (c_X8_needPoint l hl D cA lo h.2) (cwV 1 C.2.2.2.2.1 gX8_face_X8_needPoint rfl rfl rfl (by decide +kernel) ⟨Nat.le_of_ble_eq_true rfl, Nat.le_of_ble_eq_true rfl⟩) h.1 (by decide) rfl rfl rfl (Nat.le_of_ble_eq_true rfl) dX8_face_20 hcz) (fun E M_x h => ?_) (fun M_8 h => ?_)
        · exact q_xout (fun x hx => hex x hx _) hlk hcz.1 hcz.2 h
        · exact q_sub [0, 1, 2, 3, 4] rfl h
def T_X8_needFace (Cc Zz : Nat) (M : Mm) (a0 : Nat) (i1 : Int32) (Q : Mm → Prop) (X : String → Mm → Prop) : Prop := kM M a0 = (8, 8) ∧ ∃ a_1 : Nat, rM M a0 1 = some a_1 ∧ (0 ≤ Cc ∧ 0 ≤ Zz) ∧ kM M a_1 = (1, 5) ∧ T_X1_has M a_1 i1 (fun r_2 => (¬ r_2 = 0 → 0 ≤ Cc ∧ 0 ≤ Zz ∧ Q M) ∧ (r_2 = 0 → 0 + 1 ≤ Cc ∧ 0 + 6 ≤ Zz ∧ X "java/lang/IndexOutOfBoundsException" M))
theorem inX8_needFace_X8 : ∀ w ∈ wsX80, w ∈ wsX8_needFace := by decide +kernel
set_option maxRecDepth 100000 in
set_option maxHeartbeats 4000000 in
theorem c_X8_needFace (l : Launch) (hl : l.stackTraces = false) (D : va_G) (cA : Nat → ClassId) (lo : Nat) {M : Mm} {a0 : Nat} {i1 : Int32} {Cc Zz : Nat} {Q : Mm → Prop} {X : String → Mm → Prop} (h : T_X8_needFace Cc Zz M a0 i1 Q X) : vx_Met l yX8_needFace wsX8_needFace ({ frames := 6, cells := Cc, slots := Zz, locals := 90 } : Room) (PcM D cA lo [.ref a0, .int i1] M) (QvM D cA lo Q) (XcM D cA lo X) Cc Zz (fun q => lo ≤ q) := by
  refine q_startX (cc := cX8_needFace) (nL := 2) (ret := none) (by decide) rfl rfl (Nat.le_of_ble_eq_true rfl) ?_
  intro p e s m args below meth c C hr hlk hin hex
  unfold T_X8_needFace at h
  refine q_aload_n C dX8_needFace_0 rfl (j := 0) rfl ?_
  refine q_getR (ci := 8) (k0 := 1) (T := TX8) C inX8_needFace_X8 rfl (by decide) h.1 (by decide) rfl (by decide +kernel) rfl dX8_needFace_1 ?_
  obtain ⟨a_1, z, h⟩ := h.2
  refine q_ref z ?_
  refine q_iload_n C dX8_needFace_4 rfl (j := 1) rfl ?_
  have hcz := h.1
  have h := h.2
  refine q_ci (q_runV (As := [.int i1]) (st := []) C (c_X1_has l D cA lo h.2) (cwV 1 C.2.2.2.2.1 gX8_needFace_X1_has rfl rfl rfl (by decide +kernel) ⟨Nat.le_of_ble_eq_true rfl, Nat.le_of_ble_eq_true rfl⟩) h.1 (by decide) rfl rfl rfl (Nat.le_of_ble_eq_true rfl) dX8_needFace_5 ⟨Nat.le_trans (Nat.le_of_eq (Nat.add_zero _)) hcz.1, Nat.le_trans (Nat.le_of_eq (Nat.add_zero _)) hcz.2⟩) (fun r_2 M_z h => ?_)
  refine q_mem h.1 ?_
  have h := h.2
  refine q_if_ne (tgt := 22) C dX8_needFace_8 (by decide) (fun z => ?_) (fun z => ?_)
  · have h := h.1 z
    exact q_xret (q_vret C hr hlk dX8_needFace_22 h.1 h.2.1 h.2.2)
  · have h := h.2 z
    exact q_throw (E := "java/lang/IndexOutOfBoundsException") (text := "no such FACE") C hl hlk (fun x hx => hex x hx _) (List.mem_of_getElem? (i := 2) rfl) (by decide +kernel) (by decide +kernel) (by decide +kernel) (by decide +kernel) (by decide +kernel) (by decide +kernel) (by decide +kernel) dX8_needFace_11 dX8_needFace_14 dX8_needFace_15 dX8_needFace_18 dX8_needFace_21 ⟨Nat.le_of_ble_eq_true rfl, Nat.le_of_ble_eq_true rfl, h.1, h.2.1⟩ h.1 h.2.1 h.2.2
def T_X8_dropFace (Cc Zz : Nat) (M : Mm) (a0 : Nat) (i1 : Int32) (Q : Int32 → Mm → Prop) (X : String → Mm → Prop) : Prop := ∃ dc_3 ds_3 : Nat, (0 + dc_3 ≤ Cc ∧ 0 + ds_3 ≤ Zz) ∧ kM M a0 = (8, 8) ∧ T_X8_needFace dc_3 ds_3 M a0 i1 (fun M_2 => kM M_2 a0 = (8, 8) ∧ ∃ a_4 : Nat, rM M_2 a0 1 = some a_4 ∧ ((0 + dc_3) ≤ Cc ∧ (0 + ds_3) ≤ Zz) ∧ kM M_2 a_4 = (1, 5) ∧ T_X1_drop M_2 a_4 i1 (fun M_6 => kM M_6 a0 = (8, 8) ∧ ∃ a_7 : Nat, rM M_6 a0 1 = some a_7 ∧ ((0 + dc_3) ≤ Cc ∧ (0 + ds_3) ≤ Zz) ∧ kM M_6 a_7 = (1, 5) ∧ T_X1_left M_6 a_7 (fun r_8 => (0 + dc_3) ≤ Cc ∧ (0 + ds_3) ≤ Zz ∧ Q r_8 M_6))) X
theorem inX8_dropFace_X8 : ∀ w ∈ wsX80, w ∈ wsX8_dropFace := by decide +kernel
set_option maxRecDepth 100000 in
set_option maxHeartbeats 4000000 in
theorem c_X8_dropFace (l : Launch) (hl : l.stackTraces = false) (D : va_G) (cA : Nat → ClassId) (lo : Nat) {M : Mm} {a0 : Nat} {i1 : Int32} {Cc Zz : Nat} {Q : Int32 → Mm → Prop} {X : String → Mm → Prop} (h : T_X8_dropFace Cc Zz M a0 i1 Q X) : vx_Met l yX8_dropFace wsX8_dropFace ({ frames := 7, cells := Cc, slots := Zz, locals := 111 } : Room) (PcM D cA lo [.ref a0, .int i1] M) (QiM D cA lo Q) (XcM D cA lo X) Cc Zz (fun q => lo ≤ q) := by
  refine q_startX (cc := cX8_dropFace) (nL := 2) (ret := (some .int)) (by decide) rfl rfl (Nat.le_of_ble_eq_true rfl) ?_
  intro p e s m args below meth c C hr hlk hin hex
  unfold T_X8_dropFace at h
  refine q_aload_n C dX8_dropFace_0 rfl (j := 0) rfl ?_
  refine q_iload_n C dX8_dropFace_1 rfl (j := 1) rfl ?_
  obtain ⟨dc_3, ds_3, hcz, h⟩ := h
  refine q_xv (qx_runV (As := [.int i1]) (st := []) C (c_X8_needFace l hl D cA lo h.2) (cwV 1 C.2.2.2.2.1 gX8_dropFace_X8_needFace rfl rfl rfl (by decide +kernel) ⟨Nat.le_of_ble_eq_true rfl, Nat.le_of_ble_eq_true rfl⟩) h.1 (by decide) rfl rfl rfl (Nat.le_of_ble_eq_true rfl) dX8_dropFace_2 hcz) (fun E M_x h => ?_) (fun M_2 h => ?_)
  · exact q_xout (fun x hx => hex x hx _) hlk hcz.1 hcz.2 h
  · refine q_aload_n C dX8_dropFace_5 rfl (j := 0) rfl ?_
    refine q_getR (ci := 8) (k0 := 1) (T := TX8) C inX8_dropFace_X8 rfl (by decide) h.1 (by decide) rfl (by decide +kernel) rfl dX8_dropFace_6 ?_
    obtain ⟨a_4, z, h⟩ := h.2
    refine q_ref z ?_
    refine q_iload_n C dX8_dropFace_9 rfl (j := 1) rfl ?_
    have hcz := h.1
    have h := h.2
    refine q_cv (q_runV (As := [.int i1]) (st := []) C (c_X1_drop l D cA lo h.2) (cwV 1 C.2.2.2.2.1 gX8_dropFace_X1_drop rfl rfl rfl (by decide +kernel) ⟨Nat.le_of_ble_eq_true rfl, Nat.le_of_ble_eq_true rfl⟩) h.1 (by decide) rfl rfl rfl (Nat.le_of_ble_eq_true rfl) dX8_dropFace_10 ⟨Nat.le_trans (Nat.le_of_eq (Nat.add_zero _)) hcz.1, Nat.le_trans (Nat.le_of_eq (Nat.add_zero _)) hcz.2⟩) (fun M_6 h => ?_)
    refine q_aload_n C dX8_dropFace_13 rfl (j := 0) rfl ?_
    refine q_getR (ci := 8) (k0 := 1) (T := TX8) C inX8_dropFace_X8 rfl (by decide) h.1 (by decide) rfl (by decide +kernel) rfl dX8_dropFace_14 ?_
    obtain ⟨a_7, z, h⟩ := h.2
    refine q_ref z ?_
    have hcz := h.1
    have h := h.2
    refine q_ci (q_runV (As := []) (st := []) C (c_X1_left l D cA lo h.2) (cwV 0 C.2.2.2.2.1 gX8_dropFace_X1_left rfl rfl rfl (by decide +kernel) ⟨Nat.le_of_ble_eq_true rfl, Nat.le_of_ble_eq_true rfl⟩) h.1 (by decide) rfl rfl rfl (Nat.le_of_ble_eq_true rfl) dX8_dropFace_17 ⟨Nat.le_trans (Nat.le_of_eq (Nat.add_zero _)) hcz.1, Nat.le_trans (Nat.le_of_eq (Nat.add_zero _)) hcz.2⟩) (fun r_8 M_z h => ?_)
    refine q_mem h.1 ?_
    have h := h.2
    exact q_xret (q_iret C hr hlk dX8_dropFace_20 h.1 h.2.1 h.2.2)
def T_X8_addSquare (M : Mm) (a0 : Nat) (i1 : Int32) (i2 : Int32) (i3 : Int32) (i4 : Int32) (Q : Int32 → Mm → Prop) : Prop := kM M a0 = (8, 8) ∧ ∃ a_1 : Nat, rM M a0 0 = some a_1 ∧ kM M a_1 = (3, 4) ∧ T_X3_add M a_1 i1 i2 i3 (fun r_2 M_3 => kM M_3 a0 = (8, 8) ∧ ∃ a_4 : Nat, rM M_3 a0 0 = some a_4 ∧ kM M_3 a_4 = (3, 4) ∧ T_X3_add M_3 a_4 (i1 + i4) i2 i3 (fun r_5 M_6 => kM M_6 a0 = (8, 8) ∧ ∃ a_7 : Nat, rM M_6 a0 0 = some a_7 ∧ kM M_6 a_7 = (3, 4) ∧ T_X3_add M_6 a_7 (i1 + i4) (i2 + i4) i3 (fun r_8 M_9 => kM M_9 a0 = (8, 8) ∧ ∃ a_10 : Nat, rM M_9 a0 0 = some a_10 ∧ kM M_9 a_10 = (3, 4) ∧ T_X3_add M_9 a_10 i1 (i2 + i4) i3 (fun r_11 M_12 => Q r_2 M_12))))
theorem inX8_addSquare_X8 : ∀ w ∈ wsX80, w ∈ wsX8_addSquare := by decide +kernel
set_option maxRecDepth 100000 in
set_option maxHeartbeats 4000000 in
theorem c_X8_addSquare (l : Launch) (D : va_G) (cA : Nat → ClassId) (lo : Nat) {M : Mm} {a0 : Nat} {i1 : Int32} {i2 : Int32} {i3 : Int32} {i4 : Int32} {Q : Int32 → Mm → Prop} (h : T_X8_addSquare M a0 i1 i2 i3 i4 Q) : Met l yX8_addSquare wsX8_addSquare ({ frames := 3, cells := 0, slots := 0, locals := 68 } : Room) (PcM D cA lo [.ref a0, .int i1, .int i2, .int i3, .int i4] M) (QiM D cA lo Q) 0 0 (fun q => lo ≤ q) := by
  refine q_start (cc := cX8_addSquare) (nL := 6) (ret := (some .int)) (by decide) rfl rfl (Nat.le_of_ble_eq_true rfl) ?_
  intro p e s m args below meth c C hr hlk hin
  unfold T_X8_addSquare at h
  refine q_aload_n C dX8_addSquare_0 rfl (j := 0) rfl ?_
  refine q_getR (ci := 8) (k0 := 0) (T := TX8) C inX8_addSquare_X8 rfl (by decide) h.1 (by decide) rfl (by decide +kernel) rfl dX8_addSquare_1 ?_
  obtain ⟨a_1, z, h⟩ := h.2
  refine q_ref z ?_
  refine q_iload_n C dX8_addSquare_4 rfl (j := 1) rfl ?_
  refine q_iload_n C dX8_addSquare_5 rfl (j := 2) rfl ?_
  refine q_iload_n C dX8_addSquare_6 rfl (j := 3) rfl ?_
  refine q_ci (q_runV (As := [.int i1, .int i2, .int i3]) (st := []) C (c_X3_add l D cA lo h.2) (cwV 3 C.2.2.2.2.1 gX8_addSquare_X3_add rfl rfl rfl (by decide +kernel) ⟨Nat.le_of_ble_eq_true rfl, Nat.le_of_ble_eq_true rfl⟩) h.1 (by decide) rfl rfl rfl (Nat.le_of_ble_eq_true rfl) dX8_addSquare_7 ⟨Nat.le_of_ble_eq_true rfl, Nat.le_of_ble_eq_true rfl⟩) (fun r_2 M_3 h => ?_)
  refine q_istore (lv' := [(5, .int r_2), (0, .ref a0), (1, .int i1), (2, .int i2), (3, .int i3), (4, .int i4)]) C dX8_addSquare_10 (by decide) rfl ?_
  refine q_aload_n C dX8_addSquare_12 rfl (j := 1) rfl ?_
  refine q_getR (ci := 8) (k0 := 0) (T := TX8) C inX8_addSquare_X8 rfl (by decide) h.1 (by decide) rfl (by decide +kernel) rfl dX8_addSquare_13 ?_
  obtain ⟨a_4, z, h⟩ := h.2
  refine q_ref z ?_
  refine q_iload_n C dX8_addSquare_16 rfl (j := 2) rfl ?_
  refine q_iload C dX8_addSquare_17 (j := 5) rfl ?_
  refine q_iadd C dX8_addSquare_19 ?_
  refine q_iload_n C dX8_addSquare_20 rfl (j := 3) rfl ?_
  refine q_iload_n C dX8_addSquare_21 rfl (j := 4) rfl ?_
  refine q_ci (q_runV (As := [.int (i1 + i4), .int i2, .int i3]) (st := []) C (c_X3_add l D cA lo h.2) (cwV 3 C.2.2.2.2.1 gX8_addSquare_X3_add rfl rfl rfl (by decide +kernel) ⟨Nat.le_of_ble_eq_true rfl, Nat.le_of_ble_eq_true rfl⟩) h.1 (by decide) rfl rfl rfl (Nat.le_of_ble_eq_true rfl) dX8_addSquare_22 ⟨Nat.le_of_ble_eq_true rfl, Nat.le_of_ble_eq_true rfl⟩) (fun r_5 M_6 h => ?_)
  refine q_pop C dX8_addSquare_25 rfl ?_
  refine q_aload_n C dX8_addSquare_26 rfl (j := 1) rfl ?_
  refine q_getR (ci := 8) (k0 := 0) (T := TX8) C inX8_addSquare_X8 rfl (by decide) h.1 (by decide) rfl (by decide +kernel) rfl dX8_addSquare_27 ?_
  obtain ⟨a_7, z, h⟩ := h.2
  refine q_ref z ?_
  refine q_iload_n C dX8_addSquare_30 rfl (j := 2) rfl ?_
  refine q_iload C dX8_addSquare_31 (j := 5) rfl ?_
  refine q_iadd C dX8_addSquare_33 ?_
  refine q_iload_n C dX8_addSquare_34 rfl (j := 3) rfl ?_
  refine q_iload C dX8_addSquare_35 (j := 5) rfl ?_
  refine q_iadd C dX8_addSquare_37 ?_
  refine q_iload_n C dX8_addSquare_38 rfl (j := 4) rfl ?_
  refine q_ci (q_runV (As := [.int (i1 + i4), .int (i2 + i4), .int i3]) (st := []) C (c_X3_add l D cA lo h.2) (cwV 3 C.2.2.2.2.1 gX8_addSquare_X3_add rfl rfl rfl (by decide +kernel) ⟨Nat.le_of_ble_eq_true rfl, Nat.le_of_ble_eq_true rfl⟩) h.1 (by decide) rfl rfl rfl (Nat.le_of_ble_eq_true rfl) dX8_addSquare_39 ⟨Nat.le_of_ble_eq_true rfl, Nat.le_of_ble_eq_true rfl⟩) (fun r_8 M_9 h => ?_)
  refine q_pop C dX8_addSquare_42 rfl ?_
  refine q_aload_n C dX8_addSquare_43 rfl (j := 1) rfl ?_
  refine q_getR (ci := 8) (k0 := 0) (T := TX8) C inX8_addSquare_X8 rfl (by decide) h.1 (by decide) rfl (by decide +kernel) rfl dX8_addSquare_44 ?_
  obtain ⟨a_10, z, h⟩ := h.2
  refine q_ref z ?_
  refine q_iload_n C dX8_addSquare_47 rfl (j := 2) rfl ?_
  refine q_iload_n C dX8_addSquare_48 rfl (j := 3) rfl ?_
  refine q_iload C dX8_addSquare_49 (j := 5) rfl ?_
  refine q_iadd C dX8_addSquare_51 ?_
  refine q_iload_n C dX8_addSquare_52 rfl (j := 4) rfl ?_
  refine q_ci (q_runV (As := [.int i1, .int (i2 + i4), .int i3]) (st := []) C (c_X3_add l D cA lo h.2) (cwV 3 C.2.2.2.2.1 gX8_addSquare_X3_add rfl rfl rfl (by decide +kernel) ⟨Nat.le_of_ble_eq_true rfl, Nat.le_of_ble_eq_true rfl⟩) h.1 (by decide) rfl rfl rfl (Nat.le_of_ble_eq_true rfl) dX8_addSquare_53 ⟨Nat.le_of_ble_eq_true rfl, Nat.le_of_ble_eq_true rfl⟩) (fun r_11 M_12 h => ?_)
  refine q_pop C dX8_addSquare_56 rfl ?_
  refine q_iload C dX8_addSquare_57 (j := 0) rfl ?_
  exact q_iret C hr hlk dX8_addSquare_59 (Nat.le_of_ble_eq_true rfl) (Nat.le_of_ble_eq_true rfl) h
def S_X8_addBoxFaces_2 (K2 : Nat → Int32 → Int32 → Mm → Prop) (Q : Mm → Prop) (M : Mm) (a0 : Nat) (i1 : Int32) (i2 : Int32) : Prop := (24 < (i2 + 4) → Q M) ∧ (¬ 24 < (i2 + 4) → kM M a0 = (8, 8) ∧ ∃ a_1 : Nat, rM M a0 6 = some a_1 ∧ vp_in i2 24 ∧ vp_in (i2 + 1) 24 ∧ vp_in (i2 + 2) 24 ∧ vp_in (i2 + 3) 24 ∧ kM M a_1 = (5, 2) ∧ T_X5_set M a_1 (i1 + (boxL.getD i2.toNatClampNeg 0)) (i1 + (boxL.getD (i2 + 1).toNatClampNeg 0)) (i1 + (boxL.getD (i2 + 2).toNatClampNeg 0)) (i1 + (boxL.getD (i2 + 3).toNatClampNeg 0)) (fun M_3 => kM M_3 a0 = (8, 8) ∧ ∃ a_4 : Nat, rM M_3 a0 1 = some a_4 ∧ kM M_3 a0 = (8, 8) ∧ ∃ a_5 : Nat, rM M_3 a0 6 = some a_5 ∧ kM M_3 a_4 = (1, 5) ∧ T_X1_add M_3 a_4 a_5 (fun r_6 M_7 => K2 a0 i1 (i2 + 4) M_7)))
def T_X8_addBoxFaces (M : Mm) (a0 : Nat) (i1 : Int32) (Q : Mm → Prop) : Prop := ∀ (K2 : Nat → Int32 → Int32 → Mm → Prop), (∀ (a0 : Nat) (i1 : Int32) (i2 : Int32) (M : Mm), S_X8_addBoxFaces_2 K2 Q M a0 i1 i2 → K2 a0 i1 i2 M) → K2 a0 i1 0 M
theorem inX8_addBoxFaces_X8 : ∀ w ∈ wsX80, w ∈ wsX8_addBoxFaces := by decide +kernel
set_option maxRecDepth 100000 in
set_option maxHeartbeats 4000000 in
theorem b_X8_addBoxFaces_2 {p : Program} {l : Launch} {e : Env} {s : State} {m : MethodId} {args : Array Value} {below : List Frame} {meth : Method} {c : Code} {D : va_G} {cA : Nat → ClassId} {lo : Nat} (C : Cx p s m args c cX8_addBoxFaces 3 RX8 wsX8_addBoxFaces D cA lo) (hr : meth.sig.returnType = none) (hlk : meth.locks = false) {Q : Mm → Prop} (M : Mm) (a0 : Nat) (i1 : Int32) (i2 : Int32) (h : S_X8_addBoxFaces_2 (fun (a0 : Nat) (i1 : Int32) (i2 : Int32) (M : Mm) => QW p l e ({ frames := 4, cells := 0, slots := 0, locals := 90 } : Room) s m args below meth c (MQ below (QvM D cA lo Q) args s 0 0 (fun q => lo ≤ q)) 3 D cA lo 0 0 M 2 [(0, .ref a0), (1, .int i1), (2, .int i2)] []) Q M a0 i1 i2) : QW p l e ({ frames := 4, cells := 0, slots := 0, locals := 90 } : Room) s m args below meth c (MQ below (QvM D cA lo Q) args s 0 0 (fun q => lo ≤ q)) 3 D cA lo 0 0 M 2 [(0, .ref a0), (1, .int i1), (2, .int i2)] [] := by
  unfold S_X8_addBoxFaces_2 at h
  refine q_iload_n C dX8_addBoxFaces_2 rfl (j := 2) rfl ?_
  refine q_iconst (v := 4) C dX8_addBoxFaces_3 (by decide) ?_
  refine q_iadd C dX8_addBoxFaces_4 ?_
  refine q_getbox C (by decide +kernel) dX8_addBoxFaces_5 (fun box_5 hbox => ?_)
  refine q_boxlen hbox C dX8_addBoxFaces_8 ?_
  refine q_icmp_gt (tgt := 71) C dX8_addBoxFaces_9 (by decide) (fun z => ?_) (fun z => ?_)
  · have h := h.1 z
    exact q_vret C hr hlk dX8_addBoxFaces_71 (Nat.le_of_ble_eq_true rfl) (Nat.le_of_ble_eq_true rfl) h
  · have h := h.2 z
    refine q_aload_n C dX8_addBoxFaces_12 rfl (j := 0) rfl ?_
    refine q_getR (ci := 8) (k0 := 6) (T := TX8) C inX8_addBoxFaces_X8 rfl (by decide) h.1 (by decide) rfl (by decide +kernel) rfl dX8_addBoxFaces_13 ?_
    obtain ⟨a_1, z, h⟩ := h.2
    refine q_ref z ?_
    refine q_iload_n C dX8_addBoxFaces_16 rfl (j := 1) rfl ?_
    refine q_getbox C (by decide +kernel) dX8_addBoxFaces_17 (fun box_17 hbox => ?_)
    refine q_iload_n C dX8_addBoxFaces_20 rfl (j := 2) rfl ?_
    refine q_boxld hbox C dX8_addBoxFaces_21 h.1 ?_
    have h := h.2
    refine q_iadd C dX8_addBoxFaces_22 ?_
    refine q_iload_n C dX8_addBoxFaces_23 rfl (j := 1) rfl ?_
    refine q_getbox C (by decide +kernel) dX8_addBoxFaces_24 (fun box_24 hbox => ?_)
    refine q_iload_n C dX8_addBoxFaces_27 rfl (j := 2) rfl ?_
    refine q_iconst (v := 1) C dX8_addBoxFaces_28 (by decide) ?_
    refine q_iadd C dX8_addBoxFaces_29 ?_
    refine q_boxld hbox C dX8_addBoxFaces_30 h.1 ?_
    have h := h.2
    refine q_iadd C dX8_addBoxFaces_31 ?_
    refine q_iload_n C dX8_addBoxFaces_32 rfl (j := 1) rfl ?_
    refine q_getbox C (by decide +kernel) dX8_addBoxFaces_33 (fun box_33 hbox => ?_)
    refine q_iload_n C dX8_addBoxFaces_36 rfl (j := 2) rfl ?_
    refine q_iconst (v := 2) C dX8_addBoxFaces_37 (by decide) ?_
    refine q_iadd C dX8_addBoxFaces_38 ?_
    refine q_boxld hbox C dX8_addBoxFaces_39 h.1 ?_
    have h := h.2
    refine q_iadd C dX8_addBoxFaces_40 ?_
    refine q_iload_n C dX8_addBoxFaces_41 rfl (j := 1) rfl ?_
    refine q_getbox C (by decide +kernel) dX8_addBoxFaces_42 (fun box_42 hbox => ?_)
    refine q_iload_n C dX8_addBoxFaces_45 rfl (j := 2) rfl ?_
    refine q_iconst (v := 3) C dX8_addBoxFaces_46 (by decide) ?_
    refine q_iadd C dX8_addBoxFaces_47 ?_
    refine q_boxld hbox C dX8_addBoxFaces_48 h.1 ?_
    have h := h.2
    refine q_iadd C dX8_addBoxFaces_49 ?_
    refine q_cv (q_runV (As := [.int (i1 + (boxL.getD i2.toNatClampNeg 0)), .int (i1 + (boxL.getD (i2 + 1).toNatClampNeg 0)), .int (i1 + (boxL.getD (i2 + 2).toNatClampNeg 0)), .int (i1 + (boxL.getD (i2 + 3).toNatClampNeg 0))]) (st := []) C (c_X5_set l D cA lo h.2) (cwV 4 C.2.2.2.2.1 gX8_addBoxFaces_X5_set rfl rfl rfl (by decide +kernel) ⟨Nat.le_of_ble_eq_true rfl, Nat.le_of_ble_eq_true rfl⟩) h.1 (by decide) rfl rfl rfl (Nat.le_of_ble_eq_true rfl) dX8_addBoxFaces_50 ⟨Nat.le_of_ble_eq_true rfl, Nat.le_of_ble_eq_true rfl⟩) (fun M_3 h => ?_)
    refine q_aload_n C dX8_addBoxFaces_53 rfl (j := 0) rfl ?_
    refine q_getR (ci := 8) (k0 := 1) (T := TX8) C inX8_addBoxFaces_X8 rfl (by decide) h.1 (by decide) rfl (by decide +kernel) rfl dX8_addBoxFaces_54 ?_
    obtain ⟨a_4, z, h⟩ := h.2
    refine q_ref z ?_
    refine q_aload_n C dX8_addBoxFaces_57 rfl (j := 0) rfl ?_
    refine q_getR (ci := 8) (k0 := 6) (T := TX8) C inX8_addBoxFaces_X8 rfl (by decide) h.1 (by decide) rfl (by decide +kernel) rfl dX8_addBoxFaces_58 ?_
    obtain ⟨a_5, z, h⟩ := h.2
    refine q_ref z ?_
    refine q_ci (q_runV (As := [.ref a_5]) (st := []) C (c_X1_add l D cA lo h.2) (cwV 1 C.2.2.2.2.1 gX8_addBoxFaces_X1_add rfl rfl rfl (by decide +kernel) ⟨Nat.le_of_ble_eq_true rfl, Nat.le_of_ble_eq_true rfl⟩) h.1 (by decide) rfl rfl rfl (Nat.le_of_ble_eq_true rfl) dX8_addBoxFaces_61 ⟨Nat.le_of_ble_eq_true rfl, Nat.le_of_ble_eq_true rfl⟩) (fun r_6 M_7 h => ?_)
    refine q_pop C dX8_addBoxFaces_64 rfl ?_
    refine q_iinc (v := (i2 + 4)) (lv' := [(2, .int (i2 + 4)), (0, .ref a0), (1, .int i1)]) C dX8_addBoxFaces_65 (j := 2) rfl rfl (by decide) rfl ?_
    refine q_goto (tgt := 2) C dX8_addBoxFaces_68 (by decide) ?_
    exact q_sub [1, 2, 0] rfl h
set_option maxRecDepth 100000 in
set_option maxHeartbeats 4000000 in
theorem c_X8_addBoxFaces (l : Launch) (D : va_G) (cA : Nat → ClassId) (lo : Nat) {M : Mm} {a0 : Nat} {i1 : Int32} {Q : Mm → Prop} (h : T_X8_addBoxFaces M a0 i1 Q) : Met l yX8_addBoxFaces wsX8_addBoxFaces ({ frames := 4, cells := 0, slots := 0, locals := 90 } : Room) (PcM D cA lo [.ref a0, .int i1] M) (QvM D cA lo Q) 0 0 (fun q => lo ≤ q) := by
  refine q_start (cc := cX8_addBoxFaces) (nL := 3) (ret := none) (by decide) rfl rfl (Nat.le_of_ble_eq_true rfl) ?_
  intro p e s m args below meth c C hr hlk hin
  unfold T_X8_addBoxFaces at h
  have h := h (fun (a0 : Nat) (i1 : Int32) (i2 : Int32) (M : Mm) => QW p l e ({ frames := 4, cells := 0, slots := 0, locals := 90 } : Room) s m args below meth c (MQ below (QvM D cA lo Q) args s 0 0 (fun q => lo ≤ q)) 3 D cA lo 0 0 M 2 [(0, .ref a0), (1, .int i1), (2, .int i2)] []) (fun a0 i1 i2 M h => b_X8_addBoxFaces_2 C hr hlk M a0 i1 i2 h)
  refine q_iconst (v := 0) C dX8_addBoxFaces_0 (by decide) ?_
  refine q_istore_n (lv' := [(2, .int 0), (0, .ref a0), (1, .int i1)]) C dX8_addBoxFaces_1 rfl (by decide) rfl ?_
  exact q_sub [1, 2, 0] rfl h
def S_X8_box_19 (K19 : Nat → Int32 → Int32 → Int32 → Int32 → Int32 → Mm → Nat → Nat → Prop) (K72 : Nat → Int32 → Int32 → Int32 → Int32 → Int32 → Mm → Nat → Nat → Prop) (Cc Zz : Nat) (Q : Int32 → Mm → Prop) (X : String → Mm → Prop) (M : Mm) (a0 : Nat) (i1 : Int32) (i2 : Int32) (i3 : Int32) (i4 : Int32) (is0 : Int32) (cc zz : Nat) : Prop := ∃ dc_3 ds_3 : Nat, (cc + dc_3 ≤ Cc ∧ zz + ds_3 ≤ Zz) ∧ T_X8_needArgument dc_3 ds_3 M is0 (fun M_2 => ∃ dc_6 ds_6 : Nat, ((cc + dc_3) + dc_6 ≤ Cc ∧ (zz + ds_3) + ds_6 ≤ Zz) ∧ T_X8_needPlace dc_6 ds_6 M_2 i1 i2 i3 (fun M_5 => ∃ dc_9 ds_9 : Nat, (((cc + dc_3) + dc_6) + dc_9 ≤ Cc ∧ ((zz + ds_3) + ds_6) + ds_9 ≤ Zz) ∧ T_X8_needPlace dc_9 ds_9 M_5 (i1 + i4) (i2 + i4) (i3 + i4) (fun M_8 => kM M_8 a0 = (8, 8) ∧ ∃ a_10 : Nat, rM M_8 a0 0 = some a_10 ∧ ((((cc + dc_3) + dc_6) + dc_9) ≤ Cc ∧ (((zz + ds_3) + ds_6) + ds_9) ≤ Zz) ∧ kM M_8 a_10 = (3, 4) ∧ T_X3_hasRoom M_8 a_10 8 (fun r_11 => (r_11 = 0 → K72 a0 i1 i2 i3 i4 0 M_8 (((cc + dc_3) + dc_6) + dc_9) (((zz + ds_3) + ds_6) + ds_9)) ∧ (¬ r_11 = 0 → kM M_8 a0 = (8, 8) ∧ ∃ a_12 : Nat, rM M_8 a0 1 = some a_12 ∧ ((((cc + dc_3) + dc_6) + dc_9) ≤ Cc ∧ (((zz + ds_3) + ds_6) + ds_9) ≤ Zz) ∧ kM M_8 a_12 = (1, 5) ∧ T_X1_hasRoom M_8 a_12 6 (fun r_13 => (r_13 = 0 → K72 a0 i1 i2 i3 i4 0 M_8 (((cc + dc_3) + dc_6) + dc_9) (((zz + ds_3) + ds_6) + ds_9)) ∧ (¬ r_13 = 0 → K72 a0 i1 i2 i3 i4 1 M_8 (((cc + dc_3) + dc_6) + dc_9) (((zz + ds_3) + ds_6) + ds_9)))))) X) X) X
def S_X8_box_72 (K19 : Nat → Int32 → Int32 → Int32 → Int32 → Int32 → Mm → Nat → Nat → Prop) (K72 : Nat → Int32 → Int32 → Int32 → Int32 → Int32 → Mm → Nat → Nat → Prop) (Cc Zz : Nat) (Q : Int32 → Mm → Prop) (X : String → Mm → Prop) (M : Mm) (a0 : Nat) (i1 : Int32) (i2 : Int32) (i3 : Int32) (i4 : Int32) (is0 : Int32) (cc zz : Nat) : Prop := ∃ dc_16 ds_16 : Nat, (cc + dc_16 ≤ Cc ∧ zz + ds_16 ≤ Zz) ∧ T_X8_needState dc_16 ds_16 M is0 (fun M_15 => ((cc + dc_16) ≤ Cc ∧ (zz + ds_16) ≤ Zz) ∧ kM M_15 a0 = (8, 8) ∧ T_X8_addSquare M_15 a0 i1 i2 i3 i4 (fun r_17 M_18 => ((cc + dc_16) ≤ Cc ∧ (zz + ds_16) ≤ Zz) ∧ kM M_18 a0 = (8, 8) ∧ T_X8_addSquare M_18 a0 i1 i2 (i3 + i4) i4 (fun r_19 M_20 => ((cc + dc_16) ≤ Cc ∧ (zz + ds_16) ≤ Zz) ∧ kM M_20 a0 = (8, 8) ∧ T_X8_addBoxFaces M_20 a0 r_17 (fun M_22 => (cc + dc_16) ≤ Cc ∧ (zz + ds_16) ≤ Zz ∧ Q r_17 M_22)))) X
def T_X8_box (Cc Zz : Nat) (M : Mm) (a0 : Nat) (i1 : Int32) (i2 : Int32) (i3 : Int32) (i4 : Int32) (Q : Int32 → Mm → Prop) (X : String → Mm → Prop) : Prop := ∀ (K19 : Nat → Int32 → Int32 → Int32 → Int32 → Int32 → Mm → Nat → Nat → Prop) (K72 : Nat → Int32 → Int32 → Int32 → Int32 → Int32 → Mm → Nat → Nat → Prop), (∀ (a0 : Nat) (i1 : Int32) (i2 : Int32) (i3 : Int32) (i4 : Int32) (is0 : Int32) (M : Mm) (cc zz : Nat), S_X8_box_19 K19 K72 Cc Zz Q X M a0 i1 i2 i3 i4 is0 cc zz → K19 a0 i1 i2 i3 i4 is0 M cc zz) → (∀ (a0 : Nat) (i1 : Int32) (i2 : Int32) (i3 : Int32) (i4 : Int32) (is0 : Int32) (M : Mm) (cc zz : Nat), S_X8_box_72 K19 K72 Cc Zz Q X M a0 i1 i2 i3 i4 is0 cc zz → K72 a0 i1 i2 i3 i4 is0 M cc zz) → (i4 < 1 → K19 a0 i1 i2 i3 i4 0 M 0 0) ∧ (¬ i4 < 1 → (500 < i4 → K19 a0 i1 i2 i3 i4 0 M 0 0) ∧ (¬ 500 < i4 → K19 a0 i1 i2 i3 i4 1 M 0 0))
theorem inX8_box_X8 : ∀ w ∈ wsX80, w ∈ wsX8_box := by decide +kernel
set_option maxRecDepth 100000 in
set_option maxHeartbeats 4000000 in
theorem b_X8_box_19 {p : Program} {l : Launch} {e : Env} {s : State} {m : MethodId} {args : Array Value} {below : List Frame} {meth : Method} {c : Code} {D : va_G} {cA : Nat → ClassId} {lo : Nat} (C : Cx p s m args c cX8_box 6 RX8 wsX8_box D cA lo) (hr : meth.sig.returnType = (some .int)) (hlk : meth.locks = false) (hl : l.stackTraces = false) (hex : ∀ x ∈ c.exceptionTable.toList, ∀ pc, covers x pc = false) {Q : Int32 → Mm → Prop} {Cc Zz : Nat} {X : String → Mm → Prop} (M : Mm) (a0 : Nat) (i1 : Int32) (i2 : Int32) (i3 : Int32) (i4 : Int32) (is0 : Int32) (cc zz : Nat) (h : S_X8_box_19 (fun (a0 : Nat) (i1 : Int32) (i2 : Int32) (i3 : Int32) (i4 : Int32) (is0 : Int32) (M : Mm) (cc zz : Nat) => QW p l e ({ frames := 8, cells := Cc, slots := Zz, locals := 132 } : Room) s m args below meth c (vx_MQ below (QiM D cA lo Q) (XcM D cA lo X) args s Cc Zz (fun q => lo ≤ q)) 6 D cA lo cc zz M 19 [(0, .ref a0), (1, .int i1), (2, .int i2), (3, .int i3), (4, .int i4)] [.int is0]) (fun (a0 : Nat) (i1 : Int32) (i2 : Int32) (i3 : Int32) (i4 : Int32) (is0 : Int32) (M : Mm) (cc zz : Nat) => QW p l e ({ frames := 8, cells := Cc, slots := Zz, locals := 132 } : Room) s m args below meth c (vx_MQ below (QiM D cA lo Q) (XcM D cA lo X) args s Cc Zz (fun q => lo ≤ q)) 6 D cA lo cc zz M 72 [(0, .ref a0), (1, .int i1), (2, .int i2), (3, .int i3), (4, .int i4)] [.int is0]) Cc Zz Q X M a0 i1 i2 i3 i4 is0 cc zz) : QW p l e ({ frames := 8, cells := Cc, slots := Zz, locals := 132 } : Room) s m args below meth c (vx_MQ below (QiM D cA lo Q) (XcM D cA lo X) args s Cc Zz (fun q => lo ≤ q)) 6 D cA lo cc zz M 19 [(0, .ref a0), (1, .int i1), (2, .int i2), (3, .int i3), (4, .int i4)] [.int is0] := by
  unfold S_X8_box_19 at h
  obtain ⟨dc_3, ds_3, hcz, h⟩ := h
  refine q_xv (qx_runS (As := [.int is0]) (st := []) C (c_X8_needArgument l hl D cA lo h) (va_cwS 1 C.2.2.2.2.1 gX8_box_X8_needArgument rfl rfl rfl (by decide +kernel) ⟨Nat.le_of_ble_eq_true rfl, Nat.le_of_ble_eq_true rfl⟩) rfl rfl (Nat.le_of_ble_eq_true rfl) dX8_box_19 hcz) (fun E M_x h => ?_) (fun M_2 h => ?_)
  · exact q_xout (fun x hx => hex x hx _) hlk hcz.1 hcz.2 h
  · refine q_iload_n C dX8_box_22 rfl (j := 1) rfl ?_
    refine q_iload_n C dX8_box_23 rfl (j := 2) rfl ?_
    refine q_iload_n C dX8_box_24 rfl (j := 3) rfl ?_
    obtain ⟨dc_6, ds_6, hcz, h⟩ := h
    refine q_xv (qx_runS (As := [.int i1, .int i2, .int i3]) (st := []) C (c_X8_needPlace l hl D cA lo h) (va_cwS 3 C.2.2.2.2.1 gX8_box_X8_needPlace rfl rfl rfl (by decide +kernel) ⟨Nat.le_of_ble_eq_true rfl, Nat.le_of_ble_eq_true rfl⟩) rfl rfl (Nat.le_of_ble_eq_true rfl) dX8_box_25 hcz) (fun E M_x h => ?_) (fun M_5 h => ?_)
    · exact q_xout (fun x hx => hex x hx _) hlk hcz.1 hcz.2 h
    · refine q_iload_n C dX8_box_28 rfl (j := 1) rfl ?_
      refine q_iload C dX8_box_29 (j := 4) rfl ?_
      refine q_iadd C dX8_box_31 ?_
      refine q_iload_n C dX8_box_32 rfl (j := 2) rfl ?_
      refine q_iload C dX8_box_33 (j := 4) rfl ?_
      refine q_iadd C dX8_box_35 ?_
      refine q_iload_n C dX8_box_36 rfl (j := 3) rfl ?_
      refine q_iload C dX8_box_37 (j := 4) rfl ?_
      refine q_iadd C dX8_box_39 ?_
      obtain ⟨dc_9, ds_9, hcz, h⟩ := h
      refine q_xv (qx_runS (As := [.int (i1 + i4), .int (i2 + i4), .int (i3 + i4)]) (st := []) C (c_X8_needPlace l hl D cA lo h) (va_cwS 3 C.2.2.2.2.1 gX8_box_X8_needPlace rfl rfl rfl (by decide +kernel) ⟨Nat.le_of_ble_eq_true rfl, Nat.le_of_ble_eq_true rfl⟩) rfl rfl (Nat.le_of_ble_eq_true rfl) dX8_box_40 hcz) (fun E M_x h => ?_) (fun M_8 h => ?_)
      · exact q_xout (fun x hx => hex x hx _) hlk hcz.1 hcz.2 h
      · refine q_aload_n C dX8_box_43 rfl (j := 0) rfl ?_
        refine q_getR (ci := 8) (k0 := 0) (T := TX8) C inX8_box_X8 rfl (by decide) h.1 (by decide) rfl (by decide +kernel) rfl dX8_box_44 ?_
        obtain ⟨a_10, z, h⟩ := h.2
        refine q_ref z ?_
        refine q_bipush (v := 8) C dX8_box_47 (by decide) ?_
        have hcz := h.1
        have h := h.2
        refine q_ci (q_runV (As := [.int 8]) (st := []) C (c_X3_hasRoom l D cA lo h.2) (cwV 1 C.2.2.2.2.1 gX8_box_X3_hasRoom rfl rfl rfl (by decide +kernel) ⟨Nat.le_of_ble_eq_true rfl, Nat.le_of_ble_eq_true rfl⟩) h.1 (by decide) rfl rfl rfl (Nat.le_of_ble_eq_true rfl) dX8_box_49 ⟨Nat.le_trans (Nat.le_of_eq (Nat.add_zero _)) hcz.1, Nat.le_trans (Nat.le_of_eq (Nat.add_zero _)) hcz.2⟩) (fun r_11 M_z h => ?_)
        refine q_mem h.1 ?_
        have h := h.2
        refine q_if_eq (tgt := 71) C dX8_box_52 (by decide) (fun z => ?_) (fun z => ?_)
        · have h := h.1 z
          refine q_iconst (v := 0) C dX8_box_71 (by decide) ?_
          exact q_sub [0, 1, 2, 3, 4] rfl h
        · have h := h.2 z
          refine q_aload_n C dX8_box_55 rfl (j := 0) rfl ?_
          refine q_getR (ci := 8) (k0 := 1) (T := TX8) C inX8_box_X8 rfl (by decide) h.1 (by decide) rfl (by decide +kernel) rfl dX8_box_56 ?_
          obtain ⟨a_12, z, h⟩ := h.2
          refine q_ref z ?_
          refine q_bipush (v := 6) C dX8_box_59 (by decide) ?_
          have hcz := h.1
          have h := h.2
          refine q_ci (q_runV (As := [.int 6]) (st := []) C (c_X1_hasRoom l D cA lo h.2) (cwV 1 C.2.2.2.2.1 gX8_box_X1_hasRoom rfl rfl rfl (by decide +kernel) ⟨Nat.le_of_ble_eq_true rfl, Nat.le_of_ble_eq_true rfl⟩) h.1 (by decide) rfl rfl rfl (Nat.le_of_ble_eq_true rfl) dX8_box_61 ⟨Nat.le_trans (Nat.le_of_eq (Nat.add_zero _)) hcz.1, Nat.le_trans (Nat.le_of_eq (Nat.add_zero _)) hcz.2⟩) (fun r_13 M_z h => ?_)
          refine q_mem h.1 ?_
          have h := h.2
          refine q_if_eq (tgt := 71) C dX8_box_64 (by decide) (fun z => ?_) (fun z => ?_)
          · have h := h.1 z
            refine q_iconst (v := 0) C dX8_box_71 (by decide) ?_
            exact q_sub [0, 1, 2, 3, 4] rfl h
          · have h := h.2 z
            refine q_iconst (v := 1) C dX8_box_67 (by decide) ?_
            refine q_goto (tgt := 72) C dX8_box_68 (by decide) ?_
            exact q_sub [0, 1, 2, 3, 4] rfl h
set_option maxRecDepth 100000 in
set_option maxHeartbeats 4000000 in
theorem b_X8_box_72 {p : Program} {l : Launch} {e : Env} {s : State} {m : MethodId} {args : Array Value} {below : List Frame} {meth : Method} {c : Code} {D : va_G} {cA : Nat → ClassId} {lo : Nat} (C : Cx p s m args c cX8_box 6 RX8 wsX8_box D cA lo) (hr : meth.sig.returnType = (some .int)) (hlk : meth.locks = false) (hl : l.stackTraces = false) (hex : ∀ x ∈ c.exceptionTable.toList, ∀ pc, covers x pc = false) {Q : Int32 → Mm → Prop} {Cc Zz : Nat} {X : String → Mm → Prop} (M : Mm) (a0 : Nat) (i1 : Int32) (i2 : Int32) (i3 : Int32) (i4 : Int32) (is0 : Int32) (cc zz : Nat) (h : S_X8_box_72 (fun (a0 : Nat) (i1 : Int32) (i2 : Int32) (i3 : Int32) (i4 : Int32) (is0 : Int32) (M : Mm) (cc zz : Nat) => QW p l e ({ frames := 8, cells := Cc, slots := Zz, locals := 132 } : Room) s m args below meth c (vx_MQ below (QiM D cA lo Q) (XcM D cA lo X) args s Cc Zz (fun q => lo ≤ q)) 6 D cA lo cc zz M 19 [(0, .ref a0), (1, .int i1), (2, .int i2), (3, .int i3), (4, .int i4)] [.int is0]) (fun (a0 : Nat) (i1 : Int32) (i2 : Int32) (i3 : Int32) (i4 : Int32) (is0 : Int32) (M : Mm) (cc zz : Nat) => QW p l e ({ frames := 8, cells := Cc, slots := Zz, locals := 132 } : Room) s m args below meth c (vx_MQ below (QiM D cA lo Q) (XcM D cA lo X) args s Cc Zz (fun q => lo ≤ q)) 6 D cA lo cc zz M 72 [(0, .ref a0), (1, .int i1), (2, .int i2), (3, .int i3), (4, .int i4)] [.int is0]) Cc Zz Q X M a0 i1 i2 i3 i4 is0 cc zz) : QW p l e ({ frames := 8, cells := Cc, slots := Zz, locals := 132 } : Room) s m args below meth c (vx_MQ below (QiM D cA lo Q) (XcM D cA lo X) args s Cc Zz (fun q => lo ≤ q)) 6 D cA lo cc zz M 72 [(0, .ref a0), (1, .int i1), (2, .int i2), (3, .int i3), (4, .int i4)] [.int is0] := by
  unfold S_X8_box_72 at h
  obtain ⟨dc_16, ds_16, hcz, h⟩ := h
  refine q_xv (qx_runS (As := [.int is0]) (st := []) C (c_X8_needState l hl D cA lo h) (va_cwS 1 C.2.2.2.2.1 gX8_box_X8_needState rfl rfl rfl (by decide +kernel) ⟨Nat.le_of_ble_eq_true rfl, Nat.le_of_ble_eq_true rfl⟩) rfl rfl (Nat.le_of_ble_eq_true rfl) dX8_box_72 hcz) (fun E M_x h => ?_) (fun M_15 h => ?_)
  · exact q_xout (fun x hx => hex x hx _) hlk hcz.1 hcz.2 h
  · refine q_aload_n C dX8_box_75 rfl (j := 0) rfl ?_
    refine q_iload_n C dX8_box_76 rfl (j := 1) rfl ?_
    refine q_iload_n C dX8_box_77 rfl (j := 2) rfl ?_
    refine q_iload_n C dX8_box_78 rfl (j := 3) rfl ?_
    refine q_iload C dX8_box_79 (j := 4) rfl ?_
    have hcz := h.1
    have h := h.2
    refine q_ci (q_runV (As := [.int i1, .int i2, .int i3, .int i4]) (st := []) C (c_X8_addSquare l D cA lo h.2) (cwV 4 C.2.2.2.2.1 gX8_box_X8_addSquare rfl rfl rfl (by decide +kernel) ⟨Nat.le_of_ble_eq_true rfl, Nat.le_of_ble_eq_true rfl⟩) h.1 (by decide) rfl rfl rfl (Nat.le_of_ble_eq_true rfl) dX8_box_81 ⟨Nat.le_trans (Nat.le_of_eq (Nat.add_zero _)) hcz.1, Nat.le_trans (Nat.le_of_eq (Nat.add_zero _)) hcz.2⟩) (fun r_17 M_18 h => ?_)
    refine q_istore (lv' := [(5, .int r_17), (0, .ref a0), (1, .int i1), (2, .int i2), (3, .int i3), (4, .int i4)]) C dX8_box_84 (by decide) rfl ?_
    refine q_aload_n C dX8_box_86 rfl (j := 1) rfl ?_
    refine q_iload_n C dX8_box_87 rfl (j := 2) rfl ?_
    refine q_iload_n C dX8_box_88 rfl (j := 3) rfl ?_
    refine q_iload_n C dX8_box_89 rfl (j := 4) rfl ?_
    refine q_iload C dX8_box_90 (j := 5) rfl ?_
    refine q_iadd C dX8_box_92 ?_
    refine q_iload C dX8_box_93 (j := 5) rfl ?_
    have hcz := h.1
    have h := h.2
    refine q_ci (q_runV (As := [.int i1, .int i2, .int (i3 + i4), .int i4]) (st := []) C (c_X8_addSquare l D cA lo h.2) (cwV 4 C.2.2.2.2.1 gX8_box_X8_addSquare rfl rfl rfl (by decide +kernel) ⟨Nat.le_of_ble_eq_true rfl, Nat.le_of_ble_eq_true rfl⟩) h.1 (by decide) rfl rfl rfl (Nat.le_of_ble_eq_true rfl) dX8_box_95 ⟨Nat.le_trans (Nat.le_of_eq (Nat.add_zero _)) hcz.1, Nat.le_trans (Nat.le_of_eq (Nat.add_zero _)) hcz.2⟩) (fun r_19 M_20 h => ?_)
    refine q_pop C dX8_box_98 rfl ?_
    refine q_aload_n C dX8_box_99 rfl (j := 1) rfl ?_
    refine q_iload C dX8_box_100 (j := 0) rfl ?_
    have hcz := h.1
    have h := h.2
    refine q_cv (q_runV (As := [.int r_17]) (st := []) C (c_X8_addBoxFaces l D cA lo h.2) (cwV 1 C.2.2.2.2.1 gX8_box_X8_addBoxFaces rfl rfl rfl (by decide +kernel) ⟨Nat.le_of_ble_eq_true rfl, Nat.le_of_ble_eq_true rfl⟩) h.1 (by decide) rfl rfl rfl (Nat.le_of_ble_eq_true rfl) dX8_box_102 ⟨Nat.le_trans (Nat.le_of_eq (Nat.add_zero _)) hcz.1, Nat.le_trans (Nat.le_of_eq (Nat.add_zero _)) hcz.2⟩) (fun M_22 h => ?_)
    refine q_iload C dX8_box_105 (j := 0) rfl ?_
    exact q_xret (q_iret C hr hlk dX8_box_107 h.1 h.2.1 h.2.2)
set_option maxRecDepth 100000 in
set_option maxHeartbeats 4000000 in
theorem c_X8_box (l : Launch) (hl : l.stackTraces = false) (D : va_G) (cA : Nat → ClassId) (lo : Nat) {M : Mm} {a0 : Nat} {i1 : Int32} {i2 : Int32} {i3 : Int32} {i4 : Int32} {Cc Zz : Nat} {Q : Int32 → Mm → Prop} {X : String → Mm → Prop} (h : T_X8_box Cc Zz M a0 i1 i2 i3 i4 Q X) : vx_Met l yX8_box wsX8_box ({ frames := 8, cells := Cc, slots := Zz, locals := 132 } : Room) (PcM D cA lo [.ref a0, .int i1, .int i2, .int i3, .int i4] M) (QiM D cA lo Q) (XcM D cA lo X) Cc Zz (fun q => lo ≤ q) := by
  refine q_startX (cc := cX8_box) (nL := 6) (ret := (some .int)) (by decide) rfl rfl (Nat.le_of_ble_eq_true rfl) ?_
  intro p e s m args below meth c C hr hlk hin hex
  unfold T_X8_box at h
  have h := h (fun (a0 : Nat) (i1 : Int32) (i2 : Int32) (i3 : Int32) (i4 : Int32) (is0 : Int32) (M : Mm) (cc zz : Nat) => QW p l e ({ frames := 8, cells := Cc, slots := Zz, locals := 132 } : Room) s m args below meth c (vx_MQ below (QiM D cA lo Q) (XcM D cA lo X) args s Cc Zz (fun q => lo ≤ q)) 6 D cA lo cc zz M 19 [(0, .ref a0), (1, .int i1), (2, .int i2), (3, .int i3), (4, .int i4)] [.int is0]) (fun (a0 : Nat) (i1 : Int32) (i2 : Int32) (i3 : Int32) (i4 : Int32) (is0 : Int32) (M : Mm) (cc zz : Nat) => QW p l e ({ frames := 8, cells := Cc, slots := Zz, locals := 132 } : Room) s m args below meth c (vx_MQ below (QiM D cA lo Q) (XcM D cA lo X) args s Cc Zz (fun q => lo ≤ q)) 6 D cA lo cc zz M 72 [(0, .ref a0), (1, .int i1), (2, .int i2), (3, .int i3), (4, .int i4)] [.int is0]) (fun a0 i1 i2 i3 i4 is0 M cc zz h => b_X8_box_19 C hr hlk hl hex M a0 i1 i2 i3 i4 is0 cc zz h) (fun a0 i1 i2 i3 i4 is0 M cc zz h => b_X8_box_72 C hr hlk hl hex M a0 i1 i2 i3 i4 is0 cc zz h)
  refine q_iload C dX8_box_0 (j := 4) rfl ?_
  refine q_iconst (v := 1) C dX8_box_2 (by decide) ?_
  refine q_icmp_lt (tgt := 18) C dX8_box_3 (by decide) (fun z => ?_) (fun z => ?_)
  · have h := h.1 z
    refine q_iconst (v := 0) C dX8_box_18 (by decide) ?_
    exact q_sub [0, 1, 2, 3, 4] rfl h
  · have h := h.2 z
    refine q_iload C dX8_box_6 (j := 4) rfl ?_
    refine q_sipush (v := 500) C dX8_box_8 (by decide) ?_
    refine q_icmp_gt (tgt := 18) C dX8_box_11 (by decide) (fun z => ?_) (fun z => ?_)
    · have h := h.1 z
      refine q_iconst (v := 0) C dX8_box_18 (by decide) ?_
      exact q_sub [0, 1, 2, 3, 4] rfl h
    · have h := h.2 z
      refine q_iconst (v := 1) C dX8_box_14 (by decide) ?_
      refine q_goto (tgt := 19) C dX8_box_15 (by decide) ?_
      exact q_sub [0, 1, 2, 3, 4] rfl h
def T_X8_hasRoomInRing (M : Mm) (a0 : Nat) (i1 : Int32) (Q : Int32 → Prop) : Prop := kM M a0 = (8, 8) ∧ ∃ a_1 : Nat, rM M a0 1 = some a_1 ∧ kM M a_1 = (1, 5) ∧ T_X1_ring M a_1 i1 (fun r_2 => kM M r_2 = (5, 2) ∧ T_X5_length M r_2 (fun r_3 => (12 ≤ r_3 → Q 0) ∧ (¬ 12 ≤ r_3 → Q 1)))
theorem inX8_hasRoomInRing_X8 : ∀ w ∈ wsX80, w ∈ wsX8_hasRoomInRing := by decide +kernel
set_option maxRecDepth 100000 in
set_option maxHeartbeats 4000000 in
theorem c_X8_hasRoomInRing (l : Launch) (D : va_G) (cA : Nat → ClassId) (lo : Nat) {M : Mm} {a0 : Nat} {i1 : Int32} {Q : Int32 → Prop} (h : T_X8_hasRoomInRing M a0 i1 Q) : Met l yX8_hasRoomInRing wsX8_hasRoomInRing ({ frames := 1, cells := 0, slots := 0, locals := 21 } : Room) (PcM D cA lo [.ref a0, .int i1] M) (QiM D cA lo (fun r M1 => M1 = M ∧ Q r)) 0 0 (fun q => lo ≤ q) := by
  refine q_start (cc := cX8_hasRoomInRing) (nL := 2) (ret := (some .boolean)) (by decide) rfl rfl (Nat.le_of_ble_eq_true rfl) ?_
  intro p e s m args below meth c C hr hlk hin
  unfold T_X8_hasRoomInRing at h
  refine q_aload_n C dX8_hasRoomInRing_0 rfl (j := 0) rfl ?_
  refine q_getR (ci := 8) (k0 := 1) (T := TX8) C inX8_hasRoomInRing_X8 rfl (by decide) h.1 (by decide) rfl (by decide +kernel) rfl dX8_hasRoomInRing_1 ?_
  obtain ⟨a_1, z, h⟩ := h.2
  refine q_ref z ?_
  refine q_iload_n C dX8_hasRoomInRing_4 rfl (j := 1) rfl ?_
  refine q_cr (q_runV (As := [.int i1]) (st := []) C (c_X1_ring l D cA lo h.2) (cwV 1 C.2.2.2.2.1 gX8_hasRoomInRing_X1_ring rfl rfl rfl (by decide +kernel) ⟨Nat.le_of_ble_eq_true rfl, Nat.le_of_ble_eq_true rfl⟩) h.1 (by decide) rfl rfl rfl (Nat.le_of_ble_eq_true rfl) dX8_hasRoomInRing_5 ⟨Nat.le_of_ble_eq_true rfl, Nat.le_of_ble_eq_true rfl⟩) (fun r_2 M_z h => ?_)
  refine q_mem h.1 ?_
  have h := h.2
  refine q_ci (q_runV (As := []) (st := []) C (c_X5_length l D cA lo h.2) (cwV 0 C.2.2.2.2.1 gX8_hasRoomInRing_X5_length rfl rfl rfl (by decide +kernel) ⟨Nat.le_of_ble_eq_true rfl, Nat.le_of_ble_eq_true rfl⟩) h.1 (by decide) rfl rfl rfl (Nat.le_of_ble_eq_true rfl) dX8_hasRoomInRing_8 ⟨Nat.le_of_ble_eq_true rfl, Nat.le_of_ble_eq_true rfl⟩) (fun r_3 M_z h => ?_)
  refine q_mem h.1 ?_
  have h := h.2
  refine q_bipush (v := 12) C dX8_hasRoomInRing_11 (by decide) ?_
  refine q_icmp_ge (tgt := 20) C dX8_hasRoomInRing_13 (by decide) (fun z => ?_) (fun z => ?_)
  · have h := h.1 z
    refine q_iconst (v := 0) C dX8_hasRoomInRing_20 (by decide) ?_
    exact q_zret C hr hlk dX8_hasRoomInRing_21 (Nat.le_of_ble_eq_true rfl) (Nat.le_of_ble_eq_true rfl) (Or.inl rfl) ⟨rfl, h⟩
  · have h := h.2 z
    refine q_iconst (v := 1) C dX8_hasRoomInRing_16 (by decide) ?_
    refine q_goto (tgt := 21) C dX8_hasRoomInRing_17 (by decide) ?_
    exact q_zret C hr hlk dX8_hasRoomInRing_21 (Nat.le_of_ble_eq_true rfl) (Nat.le_of_ble_eq_true rfl) (Or.inr rfl) ⟨rfl, h⟩
def S_X8_putAfter_32 (K32 : Nat → Int32 → Int32 → Int32 → Nat → Int32 → Mm → Prop) (Q : Mm → Prop) (M : Mm) (a0 : Nat) (i1 : Int32) (i2 : Int32) (i3 : Int32) (a4 : Nat) (i5 : Int32) : Prop := kM M a4 = (5, 2) ∧ T_X5_length M a4 (fun r_8 => (r_8 ≤ i5 → kM M a0 = (8, 8) ∧ ∃ a_9 : Nat, rM M a0 1 = some a_9 ∧ kM M a0 = (8, 8) ∧ ∃ a_10 : Nat, rM M a0 6 = some a_10 ∧ kM M a_9 = (1, 5) ∧ T_X1_reshape M a_9 i1 a_10 (fun M_12 => Q M_12)) ∧ (¬ r_8 ≤ i5 → kM M a0 = (8, 8) ∧ ∃ a_13 : Nat, rM M a0 6 = some a_13 ∧ kM M a4 = (5, 2) ∧ T_X5_get M a4 i5 (fun r_14 => kM M a_13 = (5, 2) ∧ T_X5_add M a_13 r_14 (fun M_16 => kM M_16 a4 = (5, 2) ∧ T_X5_get M_16 a4 i5 (fun r_17 => (¬ r_17 = i2 → K32 a0 i1 i2 i3 a4 (i5 + 1) M_16) ∧ (r_17 = i2 → kM M_16 a0 = (8, 8) ∧ ∃ a_18 : Nat, rM M_16 a0 6 = some a_18 ∧ kM M_16 a_18 = (5, 2) ∧ T_X5_add M_16 a_18 i3 (fun M_20 => K32 a0 i1 i2 i3 a4 (i5 + 1) M_20)))))))
def T_X8_putAfter (M : Mm) (a0 : Nat) (i1 : Int32) (i2 : Int32) (i3 : Int32) (Q : Mm → Prop) : Prop := ∀ (K32 : Nat → Int32 → Int32 → Int32 → Nat → Int32 → Mm → Prop), (∀ (a0 : Nat) (i1 : Int32) (i2 : Int32) (i3 : Int32) (a4 : Nat) (i5 : Int32) (M : Mm), S_X8_putAfter_32 K32 Q M a0 i1 i2 i3 a4 i5 → K32 a0 i1 i2 i3 a4 i5 M) → kM M a0 = (8, 8) ∧ ∃ a_1 : Nat, rM M a0 1 = some a_1 ∧ kM M a_1 = (1, 5) ∧ T_X1_has M a_1 i1 (fun r_2 => (¬ r_2 = 0 → kM M a0 = (8, 8) ∧ ∃ a_3 : Nat, rM M a0 1 = some a_3 ∧ kM M a_3 = (1, 5) ∧ T_X1_ring M a_3 i1 (fun r_4 => kM M a0 = (8, 8) ∧ ∃ a_5 : Nat, rM M a0 6 = some a_5 ∧ kM M a_5 = (5, 2) ∧ T_X5_clear M a_5 (fun M_7 => K32 a0 i1 i2 i3 r_4 0 M_7))) ∧ (r_2 = 0 → Q M))
theorem inX8_putAfter_X8 : ∀ w ∈ wsX80, w ∈ wsX8_putAfter := by decide +kernel
set_option maxRecDepth 100000 in
set_option maxHeartbeats 4000000 in
theorem b_X8_putAfter_32 {p : Program} {l : Launch} {e : Env} {s : State} {m : MethodId} {args : Array Value} {below : List Frame} {meth : Method} {c : Code} {D : va_G} {cA : Nat → ClassId} {lo : Nat} (C : Cx p s m args c cX8_putAfter 6 RX8 wsX8_putAfter D cA lo) (hr : meth.sig.returnType = none) (hlk : meth.locks = false) {Q : Mm → Prop} (M : Mm) (a0 : Nat) (i1 : Int32) (i2 : Int32) (i3 : Int32) (a4 : Nat) (i5 : Int32) (h : S_X8_putAfter_32 (fun (a0 : Nat) (i1 : Int32) (i2 : Int32) (i3 : Int32) (a4 : Nat) (i5 : Int32) (M : Mm) => QW p l e ({ frames := 3, cells := 0, slots := 0, locals := 68 } : Room) s m args below meth c (MQ below (QvM D cA lo Q) args s 0 0 (fun q => lo ≤ q)) 6 D cA lo 0 0 M 32 [(0, .ref a0), (1, .int i1), (2, .int i2), (3, .int i3), (4, .ref a4), (5, .int i5)] []) Q M a0 i1 i2 i3 a4 i5) : QW p l e ({ frames := 3, cells := 0, slots := 0, locals := 68 } : Room) s m args below meth c (MQ below (QvM D cA lo Q) args s 0 0 (fun q => lo ≤ q)) 6 D cA lo 0 0 M 32 [(0, .ref a0), (1, .int i1), (2, .int i2), (3, .int i3), (4, .ref a4), (5, .int i5)] [] := by
  unfold S_X8_putAfter_32 at h
  refine q_iload C dX8_putAfter_32 (j := 5) rfl ?_
  refine q_aload C dX8_putAfter_34 (j := 4) rfl ?_
  refine q_ci (q_runV (As := []) (st := [.int i5]) C (c_X5_length l D cA lo h.2) (cwV 0 C.2.2.2.2.1 gX8_putAfter_X5_length rfl rfl rfl (by decide +kernel) ⟨Nat.le_of_ble_eq_true rfl, Nat.le_of_ble_eq_true rfl⟩) h.1 (by decide) rfl rfl rfl (Nat.le_of_ble_eq_true rfl) dX8_putAfter_36 ⟨Nat.le_of_ble_eq_true rfl, Nat.le_of_ble_eq_true rfl⟩) (fun r_8 M_z h => ?_)
  refine q_mem h.1 ?_
  have h := h.2
  refine q_icmp_ge (tgt := 81) C dX8_putAfter_39 (by decide) (fun z => ?_) (fun z => ?_)
  · have h := h.1 z
    refine q_aload_n C dX8_putAfter_81 rfl (j := 0) rfl ?_
    refine q_getR (ci := 8) (k0 := 1) (T := TX8) C inX8_putAfter_X8 rfl (by decide) h.1 (by decide) rfl (by decide +kernel) rfl dX8_putAfter_82 ?_
    obtain ⟨a_9, z, h⟩ := h.2
    refine q_ref z ?_
    refine q_iload_n C dX8_putAfter_85 rfl (j := 1) rfl ?_
    refine q_aload_n C dX8_putAfter_86 rfl (j := 0) rfl ?_
    refine q_getR (ci := 8) (k0 := 6) (T := TX8) C inX8_putAfter_X8 rfl (by decide) h.1 (by decide) rfl (by decide +kernel) rfl dX8_putAfter_87 ?_
    obtain ⟨a_10, z, h⟩ := h.2
    refine q_ref z ?_
    refine q_cv (q_runV (As := [.int i1, .ref a_10]) (st := []) C (c_X1_reshape l D cA lo h.2) (cwV 2 C.2.2.2.2.1 gX8_putAfter_X1_reshape rfl rfl rfl (by decide +kernel) ⟨Nat.le_of_ble_eq_true rfl, Nat.le_of_ble_eq_true rfl⟩) h.1 (by decide) rfl rfl rfl (Nat.le_of_ble_eq_true rfl) dX8_putAfter_90 ⟨Nat.le_of_ble_eq_true rfl, Nat.le_of_ble_eq_true rfl⟩) (fun M_12 h => ?_)
    exact q_vret C hr hlk dX8_putAfter_93 (Nat.le_of_ble_eq_true rfl) (Nat.le_of_ble_eq_true rfl) h
  · have h := h.2 z
    refine q_aload_n C dX8_putAfter_42 rfl (j := 0) rfl ?_
    refine q_getR (ci := 8) (k0 := 6) (T := TX8) C inX8_putAfter_X8 rfl (by decide) h.1 (by decide) rfl (by decide +kernel) rfl dX8_putAfter_43 ?_
    obtain ⟨a_13, z, h⟩ := h.2
    refine q_ref z ?_
    refine q_aload C dX8_putAfter_46 (j := 4) rfl ?_
    refine q_iload C dX8_putAfter_48 (j := 5) rfl ?_
    refine q_ci (q_runV (As := [.int i5]) (st := [.ref a_13]) C (c_X5_get l D cA lo h.2) (cwV 1 C.2.2.2.2.1 gX8_putAfter_X5_get rfl rfl rfl (by decide +kernel) ⟨Nat.le_of_ble_eq_true rfl, Nat.le_of_ble_eq_true rfl⟩) h.1 (by decide) rfl rfl rfl (Nat.le_of_ble_eq_true rfl) dX8_putAfter_50 ⟨Nat.le_of_ble_eq_true rfl, Nat.le_of_ble_eq_true rfl⟩) (fun r_14 M_z h => ?_)
    refine q_mem h.1 ?_
    have h := h.2
    refine q_cv (q_runV (As := [.int r_14]) (st := []) C (c_X5_add l D cA lo h.2) (cwV 1 C.2.2.2.2.1 gX8_putAfter_X5_add rfl rfl rfl (by decide +kernel) ⟨Nat.le_of_ble_eq_true rfl, Nat.le_of_ble_eq_true rfl⟩) h.1 (by decide) rfl rfl rfl (Nat.le_of_ble_eq_true rfl) dX8_putAfter_53 ⟨Nat.le_of_ble_eq_true rfl, Nat.le_of_ble_eq_true rfl⟩) (fun M_16 h => ?_)
    refine q_aload C dX8_putAfter_56 (j := 4) rfl ?_
    refine q_iload C dX8_putAfter_58 (j := 5) rfl ?_
    refine q_ci (q_runV (As := [.int i5]) (st := []) C (c_X5_get l D cA lo h.2) (cwV 1 C.2.2.2.2.1 gX8_putAfter_X5_get rfl rfl rfl (by decide +kernel) ⟨Nat.le_of_ble_eq_true rfl, Nat.le_of_ble_eq_true rfl⟩) h.1 (by decide) rfl rfl rfl (Nat.le_of_ble_eq_true rfl) dX8_putAfter_60 ⟨Nat.le_of_ble_eq_true rfl, Nat.le_of_ble_eq_true rfl⟩) (fun r_17 M_z h => ?_)
    refine q_mem h.1 ?_
    have h := h.2
    refine q_iload_n C dX8_putAfter_63 rfl (j := 2) rfl ?_
    refine q_icmp_ne (tgt := 75) C dX8_putAfter_64 (by decide) (fun z => ?_) (fun z => ?_)
    · have h := h.1 z
      refine q_iinc (v := (i5 + 1)) (lv' := [(5, .int (i5 + 1)), (0, .ref a0), (1, .int i1), (2, .int i2), (3, .int i3), (4, .ref a4)]) C dX8_putAfter_75 (j := 5) rfl rfl (by decide) rfl ?_
      refine q_goto (tgt := 32) C dX8_putAfter_78 (by decide) ?_
      exact q_sub [1, 2, 3, 4, 5, 0] rfl h
    · have h := h.2 z
      refine q_aload_n C dX8_putAfter_67 rfl (j := 0) rfl ?_
      refine q_getR (ci := 8) (k0 := 6) (T := TX8) C inX8_putAfter_X8 rfl (by decide) h.1 (by decide) rfl (by decide +kernel) rfl dX8_putAfter_68 ?_
      obtain ⟨a_18, z, h⟩ := h.2
      refine q_ref z ?_
      refine q_iload_n C dX8_putAfter_71 rfl (j := 3) rfl ?_
      refine q_cv (q_runV (As := [.int i3]) (st := []) C (c_X5_add l D cA lo h.2) (cwV 1 C.2.2.2.2.1 gX8_putAfter_X5_add rfl rfl rfl (by decide +kernel) ⟨Nat.le_of_ble_eq_true rfl, Nat.le_of_ble_eq_true rfl⟩) h.1 (by decide) rfl rfl rfl (Nat.le_of_ble_eq_true rfl) dX8_putAfter_72 ⟨Nat.le_of_ble_eq_true rfl, Nat.le_of_ble_eq_true rfl⟩) (fun M_20 h => ?_)
      refine q_iinc (v := (i5 + 1)) (lv' := [(5, .int (i5 + 1)), (0, .ref a0), (1, .int i1), (2, .int i2), (3, .int i3), (4, .ref a4)]) C dX8_putAfter_75 (j := 5) rfl rfl (by decide) rfl ?_
      refine q_goto (tgt := 32) C dX8_putAfter_78 (by decide) ?_
      exact q_sub [1, 2, 3, 4, 5, 0] rfl h
set_option maxRecDepth 100000 in
set_option maxHeartbeats 4000000 in
theorem c_X8_putAfter (l : Launch) (D : va_G) (cA : Nat → ClassId) (lo : Nat) {M : Mm} {a0 : Nat} {i1 : Int32} {i2 : Int32} {i3 : Int32} {Q : Mm → Prop} (h : T_X8_putAfter M a0 i1 i2 i3 Q) : Met l yX8_putAfter wsX8_putAfter ({ frames := 3, cells := 0, slots := 0, locals := 68 } : Room) (PcM D cA lo [.ref a0, .int i1, .int i2, .int i3] M) (QvM D cA lo Q) 0 0 (fun q => lo ≤ q) := by
  refine q_start (cc := cX8_putAfter) (nL := 6) (ret := none) (by decide) rfl rfl (Nat.le_of_ble_eq_true rfl) ?_
  intro p e s m args below meth c C hr hlk hin
  unfold T_X8_putAfter at h
  have h := h (fun (a0 : Nat) (i1 : Int32) (i2 : Int32) (i3 : Int32) (a4 : Nat) (i5 : Int32) (M : Mm) => QW p l e ({ frames := 3, cells := 0, slots := 0, locals := 68 } : Room) s m args below meth c (MQ below (QvM D cA lo Q) args s 0 0 (fun q => lo ≤ q)) 6 D cA lo 0 0 M 32 [(0, .ref a0), (1, .int i1), (2, .int i2), (3, .int i3), (4, .ref a4), (5, .int i5)] []) (fun a0 i1 i2 i3 a4 i5 M h => b_X8_putAfter_32 C hr hlk M a0 i1 i2 i3 a4 i5 h)
  refine q_aload_n C dX8_putAfter_0 rfl (j := 0) rfl ?_
  refine q_getR (ci := 8) (k0 := 1) (T := TX8) C inX8_putAfter_X8 rfl (by decide) h.1 (by decide) rfl (by decide +kernel) rfl dX8_putAfter_1 ?_
  obtain ⟨a_1, z, h⟩ := h.2
  refine q_ref z ?_
  refine q_iload_n C dX8_putAfter_4 rfl (j := 1) rfl ?_
  refine q_ci (q_runV (As := [.int i1]) (st := []) C (c_X1_has l D cA lo h.2) (cwV 1 C.2.2.2.2.1 gX8_putAfter_X1_has rfl rfl rfl (by decide +kernel) ⟨Nat.le_of_ble_eq_true rfl, Nat.le_of_ble_eq_true rfl⟩) h.1 (by decide) rfl rfl rfl (Nat.le_of_ble_eq_true rfl) dX8_putAfter_5 ⟨Nat.le_of_ble_eq_true rfl, Nat.le_of_ble_eq_true rfl⟩) (fun r_2 M_z h => ?_)
  refine q_mem h.1 ?_
  have h := h.2
  refine q_if_ne (tgt := 12) C dX8_putAfter_8 (by decide) (fun z => ?_) (fun z => ?_)
  · have h := h.1 z
    refine q_aload_n C dX8_putAfter_12 rfl (j := 0) rfl ?_
    refine q_getR (ci := 8) (k0 := 1) (T := TX8) C inX8_putAfter_X8 rfl (by decide) h.1 (by decide) rfl (by decide +kernel) rfl dX8_putAfter_13 ?_
    obtain ⟨a_3, z, h⟩ := h.2
    refine q_ref z ?_
    refine q_iload_n C dX8_putAfter_16 rfl (j := 1) rfl ?_
    refine q_cr (q_runV (As := [.int i1]) (st := []) C (c_X1_ring l D cA lo h.2) (cwV 1 C.2.2.2.2.1 gX8_putAfter_X1_ring rfl rfl rfl (by decide +kernel) ⟨Nat.le_of_ble_eq_true rfl, Nat.le_of_ble_eq_true rfl⟩) h.1 (by decide) rfl rfl rfl (Nat.le_of_ble_eq_true rfl) dX8_putAfter_17 ⟨Nat.le_of_ble_eq_true rfl, Nat.le_of_ble_eq_true rfl⟩) (fun r_4 M_z h => ?_)
    refine q_mem h.1 ?_
    have h := h.2
    refine q_astore (lv' := [(4, .ref r_4), (0, .ref a0), (1, .int i1), (2, .int i2), (3, .int i3)]) C dX8_putAfter_20 (by decide) rfl ?_
    refine q_aload_n C dX8_putAfter_22 rfl (j := 1) rfl ?_
    refine q_getR (ci := 8) (k0 := 6) (T := TX8) C inX8_putAfter_X8 rfl (by decide) h.1 (by decide) rfl (by decide +kernel) rfl dX8_putAfter_23 ?_
    obtain ⟨a_5, z, h⟩ := h.2
    refine q_ref z ?_
    refine q_cv (q_runV (As := []) (st := []) C (c_X5_clear l D cA lo h.2) (cwV 0 C.2.2.2.2.1 gX8_putAfter_X5_clear rfl rfl rfl (by decide +kernel) ⟨Nat.le_of_ble_eq_true rfl, Nat.le_of_ble_eq_true rfl⟩) h.1 (by decide) rfl rfl rfl (Nat.le_of_ble_eq_true rfl) dX8_putAfter_26 ⟨Nat.le_of_ble_eq_true rfl, Nat.le_of_ble_eq_true rfl⟩) (fun M_7 h => ?_)
    refine q_iconst (v := 0) C dX8_putAfter_29 (by decide) ?_
    refine q_istore (lv' := [(5, .int 0), (4, .ref r_4), (0, .ref a0), (1, .int i1), (2, .int i2), (3, .int i3)]) C dX8_putAfter_30 (by decide) rfl ?_
    exact q_sub [2, 3, 4, 5, 1, 0] rfl h
  · have h := h.2 z
    exact q_vret C hr hlk dX8_putAfter_11 (Nat.le_of_ble_eq_true rfl) (Nat.le_of_ble_eq_true rfl) h
def S_X8_split_72 (K72 : Nat → Int32 → Int32 → Int32 → Int32 → Int32 → Mm → Nat → Nat → Prop) (Cc Zz : Nat) (Q : Int32 → Mm → Prop) (X : String → Mm → Prop) (M : Mm) (a0 : Nat) (i1 : Int32) (i2 : Int32) (i3 : Int32) (i4 : Int32) (is0 : Int32) (cc zz : Nat) : Prop := ∃ dc_19 ds_19 : Nat, (cc + dc_19 ≤ Cc ∧ zz + ds_19 ≤ Zz) ∧ T_X8_needState dc_19 ds_19 M is0 (fun M_18 => kM M_18 a0 = (8, 8) ∧ ∃ a_20 : Nat, rM M_18 a0 0 = some a_20 ∧ ((cc + dc_19) ≤ Cc ∧ (zz + ds_19) ≤ Zz) ∧ kM M_18 a_20 = (3, 4) ∧ T_X3_addMiddle M_18 a_20 i1 i2 (fun r_21 M_22 => ((cc + dc_19) ≤ Cc ∧ (zz + ds_19) ≤ Zz) ∧ kM M_22 a0 = (8, 8) ∧ T_X8_putAfter M_22 a0 i3 i1 r_21 (fun M_24 => ((cc + dc_19) ≤ Cc ∧ (zz + ds_19) ≤ Zz) ∧ kM M_24 a0 = (8, 8) ∧ T_X8_putAfter M_24 a0 i4 i2 r_21 (fun M_26 => (cc + dc_19) ≤ Cc ∧ (zz + ds_19) ≤ Zz ∧ Q r_21 M_26)))) X
def T_X8_split (Cc Zz : Nat) (M : Mm) (a0 : Nat) (i1 : Int32) (i2 : Int32) (Q : Int32 → Mm → Prop) (X : String → Mm → Prop) : Prop := ∀ (K72 : Nat → Int32 → Int32 → Int32 → Int32 → Int32 → Mm → Nat → Nat → Prop), (∀ (a0 : Nat) (i1 : Int32) (i2 : Int32) (i3 : Int32) (i4 : Int32) (is0 : Int32) (M : Mm) (cc zz : Nat), S_X8_split_72 K72 Cc Zz Q X M a0 i1 i2 i3 i4 is0 cc zz → K72 a0 i1 i2 i3 i4 is0 M cc zz) → ∃ dc_3 ds_3 : Nat, (0 + dc_3 ≤ Cc ∧ 0 + ds_3 ≤ Zz) ∧ kM M a0 = (8, 8) ∧ T_X8_needPoints dc_3 ds_3 M a0 i1 i2 (fun M_2 => kM M_2 a0 = (8, 8) ∧ ∃ a_4 : Nat, rM M_2 a0 1 = some a_4 ∧ ((0 + dc_3) ≤ Cc ∧ (0 + ds_3) ≤ Zz) ∧ kM M_2 a_4 = (1, 5) ∧ T_X1_isEdge M_2 a_4 i1 i2 (fun r_5 => ∃ dc_8 ds_8 : Nat, ((0 + dc_3) + dc_8 ≤ Cc ∧ (0 + ds_3) + ds_8 ≤ Zz) ∧ T_X8_needArgument dc_8 ds_8 M_2 r_5 (fun M_7 => kM M_7 a0 = (8, 8) ∧ ∃ a_9 : Nat, rM M_7 a0 1 = some a_9 ∧ (((0 + dc_3) + dc_8) ≤ Cc ∧ ((0 + ds_3) + ds_8) ≤ Zz) ∧ kM M_7 a_9 = (1, 5) ∧ T_X1_owner M_7 a_9 i1 i2 (fun r_10 => kM M_7 a0 = (8, 8) ∧ ∃ a_11 : Nat, rM M_7 a0 1 = some a_11 ∧ (((0 + dc_3) + dc_8) ≤ Cc ∧ ((0 + ds_3) + ds_8) ≤ Zz) ∧ kM M_7 a_11 = (1, 5) ∧ T_X1_owner M_7 a_11 i2 i1 (fun r_12 => kM M_7 a0 = (8, 8) ∧ ∃ a_13 : Nat, rM M_7 a0 0 = some a_13 ∧ (((0 + dc_3) + dc_8) ≤ Cc ∧ ((0 + ds_3) + ds_8) ≤ Zz) ∧ kM M_7 a_13 = (3, 4) ∧ T_X3_hasRoom M_7 a_13 1 (fun r_14 => (r_14 = 0 → K72 a0 i1 i2 r_10 r_12 0 M_7 ((0 + dc_3) + dc_8) ((0 + ds_3) + ds_8)) ∧ (¬ r_14 = 0 → (((0 + dc_3) + dc_8) ≤ Cc ∧ ((0 + ds_3) + ds_8) ≤ Zz) ∧ kM M_7 a0 = (8, 8) ∧ T_X8_hasRoomInRing M_7 a0 r_10 (fun r_15 => (r_15 = 0 → K72 a0 i1 i2 r_10 r_12 0 M_7 ((0 + dc_3) + dc_8) ((0 + ds_3) + ds_8)) ∧ (¬ r_15 = 0 → (((0 + dc_3) + dc_8) ≤ Cc ∧ ((0 + ds_3) + ds_8) ≤ Zz) ∧ kM M_7 a0 = (8, 8) ∧ T_X8_hasRoomInRing M_7 a0 r_12 (fun r_16 => (r_16 = 0 → K72 a0 i1 i2 r_10 r_12 0 M_7 ((0 + dc_3) + dc_8) ((0 + ds_3) + ds_8)) ∧ (¬ r_16 = 0 → K72 a0 i1 i2 r_10 r_12 1 M_7 ((0 + dc_3) + dc_8) ((0 + ds_3) + ds_8)))))))))) X)) X
theorem inX8_split_X8 : ∀ w ∈ wsX80, w ∈ wsX8_split := by decide +kernel
set_option maxRecDepth 100000 in
set_option maxHeartbeats 4000000 in
theorem b_X8_split_72 {p : Program} {l : Launch} {e : Env} {s : State} {m : MethodId} {args : Array Value} {below : List Frame} {meth : Method} {c : Code} {D : va_G} {cA : Nat → ClassId} {lo : Nat} (C : Cx p s m args c cX8_split 6 RX8 wsX8_split D cA lo) (hr : meth.sig.returnType = (some .int)) (hlk : meth.locks = false) (hl : l.stackTraces = false) (hex : ∀ x ∈ c.exceptionTable.toList, ∀ pc, covers x pc = false) {Q : Int32 → Mm → Prop} {Cc Zz : Nat} {X : String → Mm → Prop} (M : Mm) (a0 : Nat) (i1 : Int32) (i2 : Int32) (i3 : Int32) (i4 : Int32) (is0 : Int32) (cc zz : Nat) (h : S_X8_split_72 (fun (a0 : Nat) (i1 : Int32) (i2 : Int32) (i3 : Int32) (i4 : Int32) (is0 : Int32) (M : Mm) (cc zz : Nat) => QW p l e ({ frames := 8, cells := Cc, slots := Zz, locals := 133 } : Room) s m args below meth c (vx_MQ below (QiM D cA lo Q) (XcM D cA lo X) args s Cc Zz (fun q => lo ≤ q)) 6 D cA lo cc zz M 72 [(0, .ref a0), (1, .int i1), (2, .int i2), (3, .int i3), (4, .int i4)] [.int is0]) Cc Zz Q X M a0 i1 i2 i3 i4 is0 cc zz) : QW p l e ({ frames := 8, cells := Cc, slots := Zz, locals := 133 } : Room) s m args below meth c (vx_MQ below (QiM D cA lo Q) (XcM D cA lo X) args s Cc Zz (fun q => lo ≤ q)) 6 D cA lo cc zz M 72 [(0, .ref a0), (1, .int i1), (2, .int i2), (3, .int i3), (4, .int i4)] [.int is0] := by
  unfold S_X8_split_72 at h
  obtain ⟨dc_19, ds_19, hcz, h⟩ := h
  refine q_xv (qx_runS (As := [.int is0]) (st := []) C (c_X8_needState l hl D cA lo h) (va_cwS 1 C.2.2.2.2.1 gX8_split_X8_needState rfl rfl rfl (by decide +kernel) ⟨Nat.le_of_ble_eq_true rfl, Nat.le_of_ble_eq_true rfl⟩) rfl rfl (Nat.le_of_ble_eq_true rfl) dX8_split_72 hcz) (fun E M_x h => ?_) (fun M_18 h => ?_)
  · exact q_xout (fun x hx => hex x hx _) hlk hcz.1 hcz.2 h
  · refine q_aload_n C dX8_split_75 rfl (j := 0) rfl ?_
    refine q_getR (ci := 8) (k0 := 0) (T := TX8) C inX8_split_X8 rfl (by decide) h.1 (by decide) rfl (by decide +kernel) rfl dX8_split_76 ?_
    obtain ⟨a_20, z, h⟩ := h.2
    refine q_ref z ?_
    refine q_iload_n C dX8_split_79 rfl (j := 1) rfl ?_
    refine q_iload_n C dX8_split_80 rfl (j := 2) rfl ?_
    have hcz := h.1
    have h := h.2
    refine q_ci (q_runV (As := [.int i1, .int i2]) (st := []) C (c_X3_addMiddle l D cA lo h.2) (cwV 2 C.2.2.2.2.1 gX8_split_X3_addMiddle rfl rfl rfl (by decide +kernel) ⟨Nat.le_of_ble_eq_true rfl, Nat.le_of_ble_eq_true rfl⟩) h.1 (by decide) rfl rfl rfl (Nat.le_of_ble_eq_true rfl) dX8_split_81 ⟨Nat.le_trans (Nat.le_of_eq (Nat.add_zero _)) hcz.1, Nat.le_trans (Nat.le_of_eq (Nat.add_zero _)) hcz.2⟩) (fun r_21 M_22 h => ?_)
    refine q_istore (lv' := [(5, .int r_21), (0, .ref a0), (1, .int i1), (2, .int i2), (3, .int i3), (4, .int i4)]) C dX8_split_84 (by decide) rfl ?_
    refine q_aload_n C dX8_split_86 rfl (j := 1) rfl ?_
    refine q_iload_n C dX8_split_87 rfl (j := 4) rfl ?_
    refine q_iload_n C dX8_split_88 rfl (j := 2) rfl ?_
    refine q_iload C dX8_split_89 (j := 0) rfl ?_
    have hcz := h.1
    have h := h.2
    refine q_cv (q_runV (As := [.int i3, .int i1, .int r_21]) (st := []) C (c_X8_putAfter l D cA lo h.2) (cwV 3 C.2.2.2.2.1 gX8_split_X8_putAfter rfl rfl rfl (by decide +kernel) ⟨Nat.le_of_ble_eq_true rfl, Nat.le_of_ble_eq_true rfl⟩) h.1 (by decide) rfl rfl rfl (Nat.le_of_ble_eq_true rfl) dX8_split_91 ⟨Nat.le_trans (Nat.le_of_eq (Nat.add_zero _)) hcz.1, Nat.le_trans (Nat.le_of_eq (Nat.add_zero _)) hcz.2⟩) (fun M_24 h => ?_)
    refine q_aload_n C dX8_split_94 rfl (j := 1) rfl ?_
    refine q_iload C dX8_split_95 (j := 5) rfl ?_
    refine q_iload_n C dX8_split_97 rfl (j := 3) rfl ?_
    refine q_iload C dX8_split_98 (j := 0) rfl ?_
    have hcz := h.1
    have h := h.2
    refine q_cv (q_runV (As := [.int i4, .int i2, .int r_21]) (st := []) C (c_X8_putAfter l D cA lo h.2) (cwV 3 C.2.2.2.2.1 gX8_split_X8_putAfter rfl rfl rfl (by decide +kernel) ⟨Nat.le_of_ble_eq_true rfl, Nat.le_of_ble_eq_true rfl⟩) h.1 (by decide) rfl rfl rfl (Nat.le_of_ble_eq_true rfl) dX8_split_100 ⟨Nat.le_trans (Nat.le_of_eq (Nat.add_zero _)) hcz.1, Nat.le_trans (Nat.le_of_eq (Nat.add_zero _)) hcz.2⟩) (fun M_26 h => ?_)
    refine q_iload C dX8_split_103 (j := 0) rfl ?_
    exact q_xret (q_iret C hr hlk dX8_split_105 h.1 h.2.1 h.2.2)
set_option maxRecDepth 100000 in
set_option maxHeartbeats 4000000 in
theorem c_X8_split (l : Launch) (hl : l.stackTraces = false) (D : va_G) (cA : Nat → ClassId) (lo : Nat) {M : Mm} {a0 : Nat} {i1 : Int32} {i2 : Int32} {Cc Zz : Nat} {Q : Int32 → Mm → Prop} {X : String → Mm → Prop} (h : T_X8_split Cc Zz M a0 i1 i2 Q X) : vx_Met l yX8_split wsX8_split ({ frames := 8, cells := Cc, slots := Zz, locals := 133 } : Room) (PcM D cA lo [.ref a0, .int i1, .int i2] M) (QiM D cA lo Q) (XcM D cA lo X) Cc Zz (fun q => lo ≤ q) := by
  refine q_startX (cc := cX8_split) (nL := 6) (ret := (some .int)) (by decide) rfl rfl (Nat.le_of_ble_eq_true rfl) ?_
  intro p e s m args below meth c C hr hlk hin hex
  unfold T_X8_split at h
  have h := h (fun (a0 : Nat) (i1 : Int32) (i2 : Int32) (i3 : Int32) (i4 : Int32) (is0 : Int32) (M : Mm) (cc zz : Nat) => QW p l e ({ frames := 8, cells := Cc, slots := Zz, locals := 133 } : Room) s m args below meth c (vx_MQ below (QiM D cA lo Q) (XcM D cA lo X) args s Cc Zz (fun q => lo ≤ q)) 6 D cA lo cc zz M 72 [(0, .ref a0), (1, .int i1), (2, .int i2), (3, .int i3), (4, .int i4)] [.int is0]) (fun a0 i1 i2 i3 i4 is0 M cc zz h => b_X8_split_72 C hr hlk hl hex M a0 i1 i2 i3 i4 is0 cc zz h)
  refine q_aload_n C dX8_split_0 rfl (j := 0) rfl ?_
  refine q_iload_n C dX8_split_1 rfl (j := 1) rfl ?_
  refine q_iload_n C dX8_split_2 rfl (j := 2) rfl ?_
  obtain ⟨dc_3, ds_3, hcz, h⟩ := h
  refine q_xv (qx_runV (As := [.int i1, .int i2]) (st := []) C (c_X8_needPoints l hl D cA lo h.2) (cwV 2 C.2.2.2.2.1 gX8_split_X8_needPoints rfl rfl rfl (by decide +kernel) ⟨Nat.le_of_ble_eq_true rfl, Nat.le_of_ble_eq_true rfl⟩) h.1 (by decide) rfl rfl rfl (Nat.le_of_ble_eq_true rfl) dX8_split_3 hcz) (fun E M_x h => ?_) (fun M_2 h => ?_)
  · exact q_xout (fun x hx => hex x hx _) hlk hcz.1 hcz.2 h
  · refine q_aload_n C dX8_split_6 rfl (j := 0) rfl ?_
    refine q_getR (ci := 8) (k0 := 1) (T := TX8) C inX8_split_X8 rfl (by decide) h.1 (by decide) rfl (by decide +kernel) rfl dX8_split_7 ?_
    obtain ⟨a_4, z, h⟩ := h.2
    refine q_ref z ?_
    refine q_iload_n C dX8_split_10 rfl (j := 1) rfl ?_
    refine q_iload_n C dX8_split_11 rfl (j := 2) rfl ?_
    have hcz := h.1
    have h := h.2
    refine q_ci (q_runV (As := [.int i1, .int i2]) (st := []) C (c_X1_isEdge l D cA lo h.2) (cwV 2 C.2.2.2.2.1 gX8_split_X1_isEdge rfl rfl rfl (by decide +kernel) ⟨Nat.le_of_ble_eq_true rfl, Nat.le_of_ble_eq_true rfl⟩) h.1 (by decide) rfl rfl rfl (Nat.le_of_ble_eq_true rfl) dX8_split_12 ⟨Nat.le_trans (Nat.le_of_eq (Nat.add_zero _)) hcz.1, Nat.le_trans (Nat.le_of_eq (Nat.add_zero _)) hcz.2⟩) (fun r_5 M_z h => ?_)
    refine q_mem h.1 ?_
    have h := h.2
    obtain ⟨dc_8, ds_8, hcz, h⟩ := h
    refine q_xv (qx_runS (As := [.int r_5]) (st := []) C (c_X8_needArgument l hl D cA lo h) (va_cwS 1 C.2.2.2.2.1 gX8_split_X8_needArgument rfl rfl rfl (by decide +kernel) ⟨Nat.le_of_ble_eq_true rfl, Nat.le_of_ble_eq_true rfl⟩) rfl rfl (Nat.le_of_ble_eq_true rfl) dX8_split_15 hcz) (fun E M_x h => ?_) (fun M_7 h => ?_)
    · exact q_xout (fun x hx => hex x hx _) hlk hcz.1 hcz.2 h
    · refine q_aload_n C dX8_split_18 rfl (j := 0) rfl ?_
      refine q_getR (ci := 8) (k0 := 1) (T := TX8) C inX8_split_X8 rfl (by decide) h.1 (by decide) rfl (by decide +kernel) rfl dX8_split_19 ?_
      obtain ⟨a_9, z, h⟩ := h.2
      refine q_ref z ?_
      refine q_iload_n C dX8_split_22 rfl (j := 1) rfl ?_
      refine q_iload_n C dX8_split_23 rfl (j := 2) rfl ?_
      have hcz := h.1
      have h := h.2
      refine q_ci (q_runV (As := [.int i1, .int i2]) (st := []) C (c_X1_owner l D cA lo h.2) (cwV 2 C.2.2.2.2.1 gX8_split_X1_owner rfl rfl rfl (by decide +kernel) ⟨Nat.le_of_ble_eq_true rfl, Nat.le_of_ble_eq_true rfl⟩) h.1 (by decide) rfl rfl rfl (Nat.le_of_ble_eq_true rfl) dX8_split_24 ⟨Nat.le_trans (Nat.le_of_eq (Nat.add_zero _)) hcz.1, Nat.le_trans (Nat.le_of_eq (Nat.add_zero _)) hcz.2⟩) (fun r_10 M_z h => ?_)
      refine q_mem h.1 ?_
      have h := h.2
      refine q_istore_n (lv' := [(3, .int r_10), (0, .ref a0), (1, .int i1), (2, .int i2)]) C dX8_split_27 rfl (by decide) rfl ?_
      refine q_aload_n C dX8_split_28 rfl (j := 1) rfl ?_
      refine q_getR (ci := 8) (k0 := 1) (T := TX8) C inX8_split_X8 rfl (by decide) h.1 (by decide) rfl (by decide +kernel) rfl dX8_split_29 ?_
      obtain ⟨a_11, z, h⟩ := h.2
      refine q_ref z ?_
      refine q_iload_n C dX8_split_32 rfl (j := 3) rfl ?_
      refine q_iload_n C dX8_split_33 rfl (j := 2) rfl ?_
      have hcz := h.1
      have h := h.2
      refine q_ci (q_runV (As := [.int i2, .int i1]) (st := []) C (c_X1_owner l D cA lo h.2) (cwV 2 C.2.2.2.2.1 gX8_split_X1_owner rfl rfl rfl (by decide +kernel) ⟨Nat.le_of_ble_eq_true rfl, Nat.le_of_ble_eq_true rfl⟩) h.1 (by decide) rfl rfl rfl (Nat.le_of_ble_eq_true rfl) dX8_split_34 ⟨Nat.le_trans (Nat.le_of_eq (Nat.add_zero _)) hcz.1, Nat.le_trans (Nat.le_of_eq (Nat.add_zero _)) hcz.2⟩) (fun r_12 M_z h => ?_)
      refine q_mem h.1 ?_
      have h := h.2
      refine q_istore (lv' := [(4, .int r_12), (3, .int r_10), (0, .ref a0), (1, .int i1), (2, .int i2)]) C dX8_split_37 (by decide) rfl ?_
      refine q_aload_n C dX8_split_39 rfl (j := 2) rfl ?_
      refine q_getR (ci := 8) (k0 := 0) (T := TX8) C inX8_split_X8 rfl (by decide) h.1 (by decide) rfl (by decide +kernel) rfl dX8_split_40 ?_
      obtain ⟨a_13, z, h⟩ := h.2
      refine q_ref z ?_
      refine q_iconst (v := 1) C dX8_split_43 (by decide) ?_
      have hcz := h.1
      have h := h.2
      refine q_ci (q_runV (As := [.int 1]) (st := []) C (c_X3_hasRoom l D cA lo h.2) (cwV 1 C.2.2.2.2.1 gX8_split_X3_hasRoom rfl rfl rfl (by decide +kernel) ⟨Nat.le_of_ble_eq_true rfl, Nat.le_of_ble_eq_true rfl⟩) h.1 (by decide) rfl rfl rfl (Nat.le_of_ble_eq_true rfl) dX8_split_44 ⟨Nat.le_trans (Nat.le_of_eq (Nat.add_zero _)) hcz.1, Nat.le_trans (Nat.le_of_eq (Nat.add_zero _)) hcz.2⟩) (fun r_14 M_z h => ?_)
      refine q_mem h.1 ?_
      have h := h.2
      refine q_if_eq (tgt := 71) C dX8_split_47 (by decide) (fun z => ?_) (fun z => ?_)
      · have h := h.1 z
        refine q_iconst (v := 0) C dX8_split_71 (by decide) ?_
        exact q_sub [2, 3, 4, 1, 0] rfl h
      · have h := h.2 z
        refine q_aload_n C dX8_split_50 rfl (j := 2) rfl ?_
        refine q_iload_n C dX8_split_51 rfl (j := 1) rfl ?_
        have hcz := h.1
        have h := h.2
        refine q_ci (q_runV (As := [.int r_10]) (st := []) C (c_X8_hasRoomInRing l D cA lo h.2) (cwV 1 C.2.2.2.2.1 gX8_split_X8_hasRoomInRing rfl rfl rfl (by decide +kernel) ⟨Nat.le_of_ble_eq_true rfl, Nat.le_of_ble_eq_true rfl⟩) h.1 (by decide) rfl rfl rfl (Nat.le_of_ble_eq_true rfl) dX8_split_52 ⟨Nat.le_trans (Nat.le_of_eq (Nat.add_zero _)) hcz.1, Nat.le_trans (Nat.le_of_eq (Nat.add_zero _)) hcz.2⟩) (fun r_15 M_z h => ?_)
        refine q_mem h.1 ?_
        have h := h.2
        refine q_if_eq (tgt := 71) C dX8_split_55 (by decide) (fun z => ?_) (fun z => ?_)
        · have h := h.1 z
          refine q_iconst (v := 0) C dX8_split_71 (by decide) ?_
          exact q_sub [2, 3, 4, 1, 0] rfl h
        · have h := h.2 z
          refine q_aload_n C dX8_split_58 rfl (j := 2) rfl ?_
          refine q_iload C dX8_split_59 (j := 0) rfl ?_
          have hcz := h.1
          have h := h.2
          refine q_ci (q_runV (As := [.int r_12]) (st := []) C (c_X8_hasRoomInRing l D cA lo h.2) (cwV 1 C.2.2.2.2.1 gX8_split_X8_hasRoomInRing rfl rfl rfl (by decide +kernel) ⟨Nat.le_of_ble_eq_true rfl, Nat.le_of_ble_eq_true rfl⟩) h.1 (by decide) rfl rfl rfl (Nat.le_of_ble_eq_true rfl) dX8_split_61 ⟨Nat.le_trans (Nat.le_of_eq (Nat.add_zero _)) hcz.1, Nat.le_trans (Nat.le_of_eq (Nat.add_zero _)) hcz.2⟩) (fun r_16 M_z h => ?_)
          refine q_mem h.1 ?_
          have h := h.2
          refine q_if_eq (tgt := 71) C dX8_split_64 (by decide) (fun z => ?_) (fun z => ?_)
          · have h := h.1 z
            refine q_iconst (v := 0) C dX8_split_71 (by decide) ?_
            exact q_sub [2, 3, 4, 1, 0] rfl h
          · have h := h.2 z
            refine q_iconst (v := 1) C dX8_split_67 (by decide) ?_
            refine q_goto (tgt := 72) C dX8_split_68 (by decide) ?_
            exact q_sub [2, 3, 4, 1, 0] rfl h
def S_X8_cut_53 (K53 : Nat → Int32 → Int32 → Int32 → Nat → Int32 → Int32 → Int32 → Mm → Nat → Nat → Prop) (K82 : Nat → Int32 → Int32 → Int32 → Nat → Int32 → Int32 → Int32 → Mm → Nat → Nat → Prop) (K111 : Nat → Int32 → Int32 → Int32 → Nat → Int32 → Int32 → Int32 → Int32 → Int32 → Mm → Nat → Nat → Prop) (K142 : Nat → Int32 → Nat → Int32 → Int32 → Int32 → Int32 → Int32 → Mm → Nat → Nat → Prop) (Cc Zz : Nat) (Q : Int32 → Mm → Prop) (X : String → Mm → Prop) (M : Mm) (a0 : Nat) (i1 : Int32) (i2 : Int32) (i3 : Int32) (a4 : Nat) (i5 : Int32) (i6 : Int32) (is0 : Int32) (cc zz : Nat) : Prop := ∃ dc_10 ds_10 : Nat, (cc + dc_10 ≤ Cc ∧ zz + ds_10 ≤ Zz) ∧ T_X8_needArgument dc_10 ds_10 M is0 (fun M_9 => (i6 ≤ i5 → ((cc + dc_10) ≤ Cc ∧ (zz + ds_10) ≤ Zz) ∧ kM M_9 a4 = (5, 2) ∧ T_X5_length M_9 a4 (fun r_11 => K82 a0 i1 i2 i3 a4 i5 i6 ((i6 - i5) + r_11) M_9 (cc + dc_10) (zz + ds_10))) ∧ (¬ i6 ≤ i5 → K82 a0 i1 i2 i3 a4 i5 i6 (i6 - i5) M_9 (cc + dc_10) (zz + ds_10))) X
def S_X8_cut_82 (K53 : Nat → Int32 → Int32 → Int32 → Nat → Int32 → Int32 → Int32 → Mm → Nat → Nat → Prop) (K82 : Nat → Int32 → Int32 → Int32 → Nat → Int32 → Int32 → Int32 → Mm → Nat → Nat → Prop) (K111 : Nat → Int32 → Int32 → Int32 → Nat → Int32 → Int32 → Int32 → Int32 → Int32 → Mm → Nat → Nat → Prop) (K142 : Nat → Int32 → Nat → Int32 → Int32 → Int32 → Int32 → Int32 → Mm → Nat → Nat → Prop) (Cc Zz : Nat) (Q : Int32 → Mm → Prop) (X : String → Mm → Prop) (M : Mm) (a0 : Nat) (i1 : Int32) (i2 : Int32) (i3 : Int32) (a4 : Nat) (i5 : Int32) (i6 : Int32) (is0 : Int32) (cc zz : Nat) : Prop := (cc ≤ Cc ∧ zz ≤ Zz) ∧ kM M a4 = (5, 2) ∧ T_X5_length M a4 (fun r_12 => (is0 ≤ 1 → K111 a0 i1 i2 i3 a4 i5 i6 is0 (r_12 - is0) 0 M cc zz) ∧ (¬ is0 ≤ 1 → ((r_12 - is0) ≤ 1 → K111 a0 i1 i2 i3 a4 i5 i6 is0 (r_12 - is0) 0 M cc zz) ∧ (¬ (r_12 - is0) ≤ 1 → K111 a0 i1 i2 i3 a4 i5 i6 is0 (r_12 - is0) 1 M cc zz)))
def S_X8_cut_111 (K53 : Nat → Int32 → Int32 → Int32 → Nat → Int32 → Int32 → Int32 → Mm → Nat → Nat → Prop) (K82 : Nat → Int32 → Int32 → Int32 → Nat → Int32 → Int32 → Int32 → Mm → Nat → Nat → Prop) (K111 : Nat → Int32 → Int32 → Int32 → Nat → Int32 → Int32 → Int32 → Int32 → Int32 → Mm → Nat → Nat → Prop) (K142 : Nat → Int32 → Nat → Int32 → Int32 → Int32 → Int32 → Int32 → Mm → Nat → Nat → Prop) (Cc Zz : Nat) (Q : Int32 → Mm → Prop) (X : String → Mm → Prop) (M : Mm) (a0 : Nat) (i1 : Int32) (i2 : Int32) (i3 : Int32) (a4 : Nat) (i5 : Int32) (i6 : Int32) (i7 : Int32) (i8 : Int32) (is0 : Int32) (cc zz : Nat) : Prop := ∃ dc_15 ds_15 : Nat, (cc + dc_15 ≤ Cc ∧ zz + ds_15 ≤ Zz) ∧ T_X8_needArgument dc_15 ds_15 M is0 (fun M_14 => kM M_14 a0 = (8, 8) ∧ ∃ a_16 : Nat, rM M_14 a0 1 = some a_16 ∧ ((cc + dc_15) ≤ Cc ∧ (zz + ds_15) ≤ Zz) ∧ kM M_14 a_16 = (1, 5) ∧ T_X1_hasRoom M_14 a_16 1 (fun r_17 => (r_17 = 0 → K142 a0 i1 a4 i5 i6 i7 i8 0 M_14 (cc + dc_15) (zz + ds_15)) ∧ (¬ r_17 = 0 → kM M_14 a0 = (8, 8) ∧ ∃ a_18 : Nat, rM M_14 a0 1 = some a_18 ∧ ((cc + dc_15) ≤ Cc ∧ (zz + ds_15) ≤ Zz) ∧ kM M_14 a_18 = (1, 5) ∧ T_X1_isEdge M_14 a_18 i2 i3 (fun r_19 => (¬ r_19 = 0 → K142 a0 i1 a4 i5 i6 i7 i8 0 M_14 (cc + dc_15) (zz + ds_15)) ∧ (r_19 = 0 → K142 a0 i1 a4 i5 i6 i7 i8 1 M_14 (cc + dc_15) (zz + ds_15)))))) X
def S_X8_cut_142 (K53 : Nat → Int32 → Int32 → Int32 → Nat → Int32 → Int32 → Int32 → Mm → Nat → Nat → Prop) (K82 : Nat → Int32 → Int32 → Int32 → Nat → Int32 → Int32 → Int32 → Mm → Nat → Nat → Prop) (K111 : Nat → Int32 → Int32 → Int32 → Nat → Int32 → Int32 → Int32 → Int32 → Int32 → Mm → Nat → Nat → Prop) (K142 : Nat → Int32 → Nat → Int32 → Int32 → Int32 → Int32 → Int32 → Mm → Nat → Nat → Prop) (Cc Zz : Nat) (Q : Int32 → Mm → Prop) (X : String → Mm → Prop) (M : Mm) (a0 : Nat) (i1 : Int32) (a4 : Nat) (i5 : Int32) (i6 : Int32) (i7 : Int32) (i8 : Int32) (is0 : Int32) (cc zz : Nat) : Prop := ∃ dc_22 ds_22 : Nat, (cc + dc_22 ≤ Cc ∧ zz + ds_22 ≤ Zz) ∧ T_X8_needState dc_22 ds_22 M is0 (fun M_21 => kM M_21 a0 = (8, 8) ∧ ∃ a_23 : Nat, rM M_21 a0 6 = some a_23 ∧ ((cc + dc_22) ≤ Cc ∧ (zz + ds_22) ≤ Zz) ∧ kM M_21 a_23 = (5, 2) ∧ T_X5_clear M_21 a_23 (fun M_25 => kM M_25 a0 = (8, 8) ∧ ∃ a_26 : Nat, rM M_25 a0 6 = some a_26 ∧ ((cc + dc_22) ≤ Cc ∧ (zz + ds_22) ≤ Zz) ∧ kM M_25 a_26 = (5, 2) ∧ T_X5_addStretch M_25 a_26 a4 i5 (i7 + 1) (fun M_28 => kM M_28 a0 = (8, 8) ∧ ∃ a_29 : Nat, rM M_28 a0 7 = some a_29 ∧ ((cc + dc_22) ≤ Cc ∧ (zz + ds_22) ≤ Zz) ∧ kM M_28 a_29 = (5, 2) ∧ T_X5_clear M_28 a_29 (fun M_31 => kM M_31 a0 = (8, 8) ∧ ∃ a_32 : Nat, rM M_31 a0 7 = some a_32 ∧ ((cc + dc_22) ≤ Cc ∧ (zz + ds_22) ≤ Zz) ∧ kM M_31 a_32 = (5, 2) ∧ T_X5_addStretch M_31 a_32 a4 i6 (i8 + 1) (fun M_34 => kM M_34 a0 = (8, 8) ∧ ∃ a_35 : Nat, rM M_34 a0 1 = some a_35 ∧ kM M_34 a0 = (8, 8) ∧ ∃ a_36 : Nat, rM M_34 a0 6 = some a_36 ∧ ((cc + dc_22) ≤ Cc ∧ (zz + ds_22) ≤ Zz) ∧ kM M_34 a_35 = (1, 5) ∧ T_X1_reshape M_34 a_35 i1 a_36 (fun M_38 => kM M_38 a0 = (8, 8) ∧ ∃ a_39 : Nat, rM M_38 a0 1 = some a_39 ∧ kM M_38 a0 = (8, 8) ∧ ∃ a_40 : Nat, rM M_38 a0 7 = some a_40 ∧ ((cc + dc_22) ≤ Cc ∧ (zz + ds_22) ≤ Zz) ∧ kM M_38 a_39 = (1, 5) ∧ T_X1_add M_38 a_39 a_40 (fun r_41 M_42 => (cc + dc_22) ≤ Cc ∧ (zz + ds_22) ≤ Zz ∧ Q r_41 M_42))))))) X
def T_X8_cut (Cc Zz : Nat) (M : Mm) (a0 : Nat) (i1 : Int32) (i2 : Int32) (i3 : Int32) (Q : Int32 → Mm → Prop) (X : String → Mm → Prop) : Prop := ∀ (K53 : Nat → Int32 → Int32 → Int32 → Nat → Int32 → Int32 → Int32 → Mm → Nat → Nat → Prop) (K82 : Nat → Int32 → Int32 → Int32 → Nat → Int32 → Int32 → Int32 → Mm → Nat → Nat → Prop) (K111 : Nat → Int32 → Int32 → Int32 → Nat → Int32 → Int32 → Int32 → Int32 → Int32 → Mm → Nat → Nat → Prop) (K142 : Nat → Int32 → Nat → Int32 → Int32 → Int32 → Int32 → Int32 → Mm → Nat → Nat → Prop), (∀ (a0 : Nat) (i1 : Int32) (i2 : Int32) (i3 : Int32) (a4 : Nat) (i5 : Int32) (i6 : Int32) (is0 : Int32) (M : Mm) (cc zz : Nat), S_X8_cut_53 K53 K82 K111 K142 Cc Zz Q X M a0 i1 i2 i3 a4 i5 i6 is0 cc zz → K53 a0 i1 i2 i3 a4 i5 i6 is0 M cc zz) → (∀ (a0 : Nat) (i1 : Int32) (i2 : Int32) (i3 : Int32) (a4 : Nat) (i5 : Int32) (i6 : Int32) (is0 : Int32) (M : Mm) (cc zz : Nat), S_X8_cut_82 K53 K82 K111 K142 Cc Zz Q X M a0 i1 i2 i3 a4 i5 i6 is0 cc zz → K82 a0 i1 i2 i3 a4 i5 i6 is0 M cc zz) → (∀ (a0 : Nat) (i1 : Int32) (i2 : Int32) (i3 : Int32) (a4 : Nat) (i5 : Int32) (i6 : Int32) (i7 : Int32) (i8 : Int32) (is0 : Int32) (M : Mm) (cc zz : Nat), S_X8_cut_111 K53 K82 K111 K142 Cc Zz Q X M a0 i1 i2 i3 a4 i5 i6 i7 i8 is0 cc zz → K111 a0 i1 i2 i3 a4 i5 i6 i7 i8 is0 M cc zz) → (∀ (a0 : Nat) (i1 : Int32) (a4 : Nat) (i5 : Int32) (i6 : Int32) (i7 : Int32) (i8 : Int32) (is0 : Int32) (M : Mm) (cc zz : Nat), S_X8_cut_142 K53 K82 K111 K142 Cc Zz Q X M a0 i1 a4 i5 i6 i7 i8 is0 cc zz → K142 a0 i1 a4 i5 i6 i7 i8 is0 M cc zz) → ∃ dc_3 ds_3 : Nat, (0 + dc_3 ≤ Cc ∧ 0 + ds_3 ≤ Zz) ∧ kM M a0 = (8, 8) ∧ T_X8_needFace dc_3 ds_3 M a0 i1 (fun M_2 => kM M_2 a0 = (8, 8) ∧ ∃ a_4 : Nat, rM M_2 a0 1 = some a_4 ∧ ((0 + dc_3) ≤ Cc ∧ (0 + ds_3) ≤ Zz) ∧ kM M_2 a_4 = (1, 5) ∧ T_X1_ring M_2 a_4 i1 (fun r_5 => ((0 + dc_3) ≤ Cc ∧ (0 + ds_3) ≤ Zz) ∧ kM M_2 r_5 = (5, 2) ∧ T_X5_placeOf M_2 r_5 i2 (fun r_6 => ((0 + dc_3) ≤ Cc ∧ (0 + ds_3) ≤ Zz) ∧ kM M_2 r_5 = (5, 2) ∧ T_X5_placeOf M_2 r_5 i3 (fun r_7 => (r_6 = (-1) → K53 a0 i1 i2 i3 r_5 r_6 r_7 0 M_2 (0 + dc_3) (0 + ds_3)) ∧ (¬ r_6 = (-1) → (r_7 = (-1) → K53 a0 i1 i2 i3 r_5 r_6 r_7 0 M_2 (0 + dc_3) (0 + ds_3)) ∧ (¬ r_7 = (-1) → (i2 = i3 → K53 a0 i1 i2 i3 r_5 r_6 r_7 0 M_2 (0 + dc_3) (0 + ds_3)) ∧ (¬ i2 = i3 → K53 a0 i1 i2 i3 r_5 r_6 r_7 1 M_2 (0 + dc_3) (0 + ds_3)))))))) X
theorem inX8_cut_X8 : ∀ w ∈ wsX80, w ∈ wsX8_cut := by decide +kernel
set_option maxRecDepth 100000 in
set_option maxHeartbeats 4000000 in
theorem b_X8_cut_53 {p : Program} {l : Launch} {e : Env} {s : State} {m : MethodId} {args : Array Value} {below : List Frame} {meth : Method} {c : Code} {D : va_G} {cA : Nat → ClassId} {lo : Nat} (C : Cx p s m args c cX8_cut 9 RX8 wsX8_cut D cA lo) (hr : meth.sig.returnType = (some .int)) (hlk : meth.locks = false) (hl : l.stackTraces = false) (hex : ∀ x ∈ c.exceptionTable.toList, ∀ pc, covers x pc = false) {Q : Int32 → Mm → Prop} {Cc Zz : Nat} {X : String → Mm → Prop} (M : Mm) (a0 : Nat) (i1 : Int32) (i2 : Int32) (i3 : Int32) (a4 : Nat) (i5 : Int32) (i6 : Int32) (is0 : Int32) (cc zz : Nat) (h : S_X8_cut_53 (fun (a0 : Nat) (i1 : Int32) (i2 : Int32) (i3 : Int32) (a4 : Nat) (i5 : Int32) (i6 : Int32) (is0 : Int32) (M : Mm) (cc zz : Nat) => QW p l e ({ frames := 7, cells := Cc, slots := Zz, locals := 111 } : Room) s m args below meth c (vx_MQ below (QiM D cA lo Q) (XcM D cA lo X) args s Cc Zz (fun q => lo ≤ q)) 9 D cA lo cc zz M 53 [(0, .ref a0), (1, .int i1), (2, .int i2), (3, .int i3), (4, .ref a4), (5, .int i5), (6, .int i6)] [.int is0]) (fun (a0 : Nat) (i1 : Int32) (i2 : Int32) (i3 : Int32) (a4 : Nat) (i5 : Int32) (i6 : Int32) (is0 : Int32) (M : Mm) (cc zz : Nat) => QW p l e ({ frames := 7, cells := Cc, slots := Zz, locals := 111 } : Room) s m args below meth c (vx_MQ below (QiM D cA lo Q) (XcM D cA lo X) args s Cc Zz (fun q => lo ≤ q)) 9 D cA lo cc zz M 82 [(0, .ref a0), (1, .int i1), (2, .int i2), (3, .int i3), (4, .ref a4), (5, .int i5), (6, .int i6)] [.int is0]) (fun (a0 : Nat) (i1 : Int32) (i2 : Int32) (i3 : Int32) (a4 : Nat) (i5 : Int32) (i6 : Int32) (i7 : Int32) (i8 : Int32) (is0 : Int32) (M : Mm) (cc zz : Nat) => QW p l e ({ frames := 7, cells := Cc, slots := Zz, locals := 111 } : Room) s m args below meth c (vx_MQ below (QiM D cA lo Q) (XcM D cA lo X) args s Cc Zz (fun q => lo ≤ q)) 9 D cA lo cc zz M 111 [(0, .ref a0), (1, .int i1), (2, .int i2), (3, .int i3), (4, .ref a4), (5, .int i5), (6, .int i6), (7, .int i7), (8, .int i8)] [.int is0]) (fun (a0 : Nat) (i1 : Int32) (a4 : Nat) (i5 : Int32) (i6 : Int32) (i7 : Int32) (i8 : Int32) (is0 : Int32) (M : Mm) (cc zz : Nat) => QW p l e ({ frames := 7, cells := Cc, slots := Zz, locals := 111 } : Room) s m args below meth c (vx_MQ below (QiM D cA lo Q) (XcM D cA lo X) args s Cc Zz (fun q => lo ≤ q)) 9 D cA lo cc zz M 142 [(0, .ref a0), (1, .int i1), (4, .ref a4), (5, .int i5), (6, .int i6), (7, .int i7), (8, .int i8)] [.int is0]) Cc Zz Q X M a0 i1 i2 i3 a4 i5 i6 is0 cc zz) : QW p l e ({ frames := 7, cells := Cc, slots := Zz, locals := 111 } : Room) s m args below meth c (vx_MQ below (QiM D cA lo Q) (XcM D cA lo X) args s Cc Zz (fun q => lo ≤ q)) 9 D cA lo cc zz M 53 [(0, .ref a0), (1, .int i1), (2, .int i2), (3, .int i3), (4, .ref a4), (5, .int i5), (6, .int i6)] [.int is0] := by
  unfold S_X8_cut_53 at h
  obtain ⟨dc_10, ds_10, hcz, h⟩ := h
  refine q_xv (qx_runS (As := [.int is0]) (st := []) C (c_X8_needArgument l hl D cA lo h) (va_cwS 1 C.2.2.2.2.1 gX8_cut_X8_needArgument rfl rfl rfl (by decide +kernel) ⟨Nat.le_of_ble_eq_true rfl, Nat.le_of_ble_eq_true rfl⟩) rfl rfl (Nat.le_of_ble_eq_true rfl) dX8_cut_53 hcz) (fun E M_x h => ?_) (fun M_9 h => ?_)
  · exact q_xout (fun x hx => hex x hx _) hlk hcz.1 hcz.2 h
  · refine q_iload C dX8_cut_56 (j := 5) rfl ?_
    refine q_iload C dX8_cut_58 (j := 6) rfl ?_
    refine q_icmp_ge (tgt := 71) C dX8_cut_60 (by decide) (fun z => ?_) (fun z => ?_)
    · have h := h.1 z
      refine q_iload C dX8_cut_71 (j := 6) rfl ?_
      refine q_iload C dX8_cut_73 (j := 5) rfl ?_
      refine q_isub C dX8_cut_75 ?_
      refine q_aload C dX8_cut_76 (j := 4) rfl ?_
      have hcz := h.1
      have h := h.2
      refine q_ci (q_runV (As := []) (st := [.int (i6 - i5)]) C (c_X5_length l D cA lo h.2) (cwV 0 C.2.2.2.2.1 gX8_cut_X5_length rfl rfl rfl (by decide +kernel) ⟨Nat.le_of_ble_eq_true rfl, Nat.le_of_ble_eq_true rfl⟩) h.1 (by decide) rfl rfl rfl (Nat.le_of_ble_eq_true rfl) dX8_cut_78 ⟨Nat.le_trans (Nat.le_of_eq (Nat.add_zero _)) hcz.1, Nat.le_trans (Nat.le_of_eq (Nat.add_zero _)) hcz.2⟩) (fun r_11 M_z h => ?_)
      refine q_mem h.1 ?_
      have h := h.2
      refine q_iadd C dX8_cut_81 ?_
      exact q_sub [0, 1, 2, 3, 4, 5, 6] rfl h
    · have h := h.2 z
      refine q_iload C dX8_cut_63 (j := 6) rfl ?_
      refine q_iload C dX8_cut_65 (j := 5) rfl ?_
      refine q_isub C dX8_cut_67 ?_
      refine q_goto (tgt := 82) C dX8_cut_68 (by decide) ?_
      exact q_sub [0, 1, 2, 3, 4, 5, 6] rfl h
set_option maxRecDepth 100000 in
set_option maxHeartbeats 4000000 in
theorem b_X8_cut_82 {p : Program} {l : Launch} {e : Env} {s : State} {m : MethodId} {args : Array Value} {below : List Frame} {meth : Method} {c : Code} {D : va_G} {cA : Nat → ClassId} {lo : Nat} (C : Cx p s m args c cX8_cut 9 RX8 wsX8_cut D cA lo) (hr : meth.sig.returnType = (some .int)) (hlk : meth.locks = false) (hl : l.stackTraces = false) (hex : ∀ x ∈ c.exceptionTable.toList, ∀ pc, covers x pc = false) {Q : Int32 → Mm → Prop} {Cc Zz : Nat} {X : String → Mm → Prop} (M : Mm) (a0 : Nat) (i1 : Int32) (i2 : Int32) (i3 : Int32) (a4 : Nat) (i5 : Int32) (i6 : Int32) (is0 : Int32) (cc zz : Nat) (h : S_X8_cut_82 (fun (a0 : Nat) (i1 : Int32) (i2 : Int32) (i3 : Int32) (a4 : Nat) (i5 : Int32) (i6 : Int32) (is0 : Int32) (M : Mm) (cc zz : Nat) => QW p l e ({ frames := 7, cells := Cc, slots := Zz, locals := 111 } : Room) s m args below meth c (vx_MQ below (QiM D cA lo Q) (XcM D cA lo X) args s Cc Zz (fun q => lo ≤ q)) 9 D cA lo cc zz M 53 [(0, .ref a0), (1, .int i1), (2, .int i2), (3, .int i3), (4, .ref a4), (5, .int i5), (6, .int i6)] [.int is0]) (fun (a0 : Nat) (i1 : Int32) (i2 : Int32) (i3 : Int32) (a4 : Nat) (i5 : Int32) (i6 : Int32) (is0 : Int32) (M : Mm) (cc zz : Nat) => QW p l e ({ frames := 7, cells := Cc, slots := Zz, locals := 111 } : Room) s m args below meth c (vx_MQ below (QiM D cA lo Q) (XcM D cA lo X) args s Cc Zz (fun q => lo ≤ q)) 9 D cA lo cc zz M 82 [(0, .ref a0), (1, .int i1), (2, .int i2), (3, .int i3), (4, .ref a4), (5, .int i5), (6, .int i6)] [.int is0]) (fun (a0 : Nat) (i1 : Int32) (i2 : Int32) (i3 : Int32) (a4 : Nat) (i5 : Int32) (i6 : Int32) (i7 : Int32) (i8 : Int32) (is0 : Int32) (M : Mm) (cc zz : Nat) => QW p l e ({ frames := 7, cells := Cc, slots := Zz, locals := 111 } : Room) s m args below meth c (vx_MQ below (QiM D cA lo Q) (XcM D cA lo X) args s Cc Zz (fun q => lo ≤ q)) 9 D cA lo cc zz M 111 [(0, .ref a0), (1, .int i1), (2, .int i2), (3, .int i3), (4, .ref a4), (5, .int i5), (6, .int i6), (7, .int i7), (8, .int i8)] [.int is0]) (fun (a0 : Nat) (i1 : Int32) (a4 : Nat) (i5 : Int32) (i6 : Int32) (i7 : Int32) (i8 : Int32) (is0 : Int32) (M : Mm) (cc zz : Nat) => QW p l e ({ frames := 7, cells := Cc, slots := Zz, locals := 111 } : Room) s m args below meth c (vx_MQ below (QiM D cA lo Q) (XcM D cA lo X) args s Cc Zz (fun q => lo ≤ q)) 9 D cA lo cc zz M 142 [(0, .ref a0), (1, .int i1), (4, .ref a4), (5, .int i5), (6, .int i6), (7, .int i7), (8, .int i8)] [.int is0]) Cc Zz Q X M a0 i1 i2 i3 a4 i5 i6 is0 cc zz) : QW p l e ({ frames := 7, cells := Cc, slots := Zz, locals := 111 } : Room) s m args below meth c (vx_MQ below (QiM D cA lo Q) (XcM D cA lo X) args s Cc Zz (fun q => lo ≤ q)) 9 D cA lo cc zz M 82 [(0, .ref a0), (1, .int i1), (2, .int i2), (3, .int i3), (4, .ref a4), (5, .int i5), (6, .int i6)] [.int is0] := by
  unfold S_X8_cut_82 at h
  refine q_istore (lv' := [(7, .int is0), (0, .ref a0), (1, .int i1), (2, .int i2), (3, .int i3), (4, .ref a4), (5, .int i5), (6, .int i6)]) C dX8_cut_82 (by decide) rfl ?_
  refine q_aload C dX8_cut_84 (j := 5) rfl ?_
  have hcz := h.1
  have h := h.2
  refine q_ci (q_runV (As := []) (st := []) C (c_X5_length l D cA lo h.2) (cwV 0 C.2.2.2.2.1 gX8_cut_X5_length rfl rfl rfl (by decide +kernel) ⟨Nat.le_of_ble_eq_true rfl, Nat.le_of_ble_eq_true rfl⟩) h.1 (by decide) rfl rfl rfl (Nat.le_of_ble_eq_true rfl) dX8_cut_86 ⟨Nat.le_trans (Nat.le_of_eq (Nat.add_zero _)) hcz.1, Nat.le_trans (Nat.le_of_eq (Nat.add_zero _)) hcz.2⟩) (fun r_12 M_z h => ?_)
  refine q_mem h.1 ?_
  have h := h.2
  refine q_iload C dX8_cut_89 (j := 0) rfl ?_
  refine q_isub C dX8_cut_91 ?_
  refine q_istore (lv' := [(8, .int (r_12 - is0)), (7, .int is0), (0, .ref a0), (1, .int i1), (2, .int i2), (3, .int i3), (4, .ref a4), (5, .int i5), (6, .int i6)]) C dX8_cut_92 (by decide) rfl ?_
  refine q_iload C dX8_cut_94 (j := 1) rfl ?_
  refine q_iconst (v := 1) C dX8_cut_96 (by decide) ?_
  refine q_icmp_le (tgt := 110) C dX8_cut_97 (by decide) (fun z => ?_) (fun z => ?_)
  · have h := h.1 z
    refine q_iconst (v := 0) C dX8_cut_110 (by decide) ?_
    exact q_sub [2, 3, 4, 5, 6, 7, 8, 1, 0] rfl h
  · have h := h.2 z
    refine q_iload C dX8_cut_100 (j := 0) rfl ?_
    refine q_iconst (v := 1) C dX8_cut_102 (by decide) ?_
    refine q_icmp_le (tgt := 110) C dX8_cut_103 (by decide) (fun z => ?_) (fun z => ?_)
    · have h := h.1 z
      refine q_iconst (v := 0) C dX8_cut_110 (by decide) ?_
      exact q_sub [2, 3, 4, 5, 6, 7, 8, 1, 0] rfl h
    · have h := h.2 z
      refine q_iconst (v := 1) C dX8_cut_106 (by decide) ?_
      refine q_goto (tgt := 111) C dX8_cut_107 (by decide) ?_
      exact q_sub [2, 3, 4, 5, 6, 7, 8, 1, 0] rfl h
set_option maxRecDepth 100000 in
set_option maxHeartbeats 4000000 in
theorem b_X8_cut_111 {p : Program} {l : Launch} {e : Env} {s : State} {m : MethodId} {args : Array Value} {below : List Frame} {meth : Method} {c : Code} {D : va_G} {cA : Nat → ClassId} {lo : Nat} (C : Cx p s m args c cX8_cut 9 RX8 wsX8_cut D cA lo) (hr : meth.sig.returnType = (some .int)) (hlk : meth.locks = false) (hl : l.stackTraces = false) (hex : ∀ x ∈ c.exceptionTable.toList, ∀ pc, covers x pc = false) {Q : Int32 → Mm → Prop} {Cc Zz : Nat} {X : String → Mm → Prop} (M : Mm) (a0 : Nat) (i1 : Int32) (i2 : Int32) (i3 : Int32) (a4 : Nat) (i5 : Int32) (i6 : Int32) (i7 : Int32) (i8 : Int32) (is0 : Int32) (cc zz : Nat) (h : S_X8_cut_111 (fun (a0 : Nat) (i1 : Int32) (i2 : Int32) (i3 : Int32) (a4 : Nat) (i5 : Int32) (i6 : Int32) (is0 : Int32) (M : Mm) (cc zz : Nat) => QW p l e ({ frames := 7, cells := Cc, slots := Zz, locals := 111 } : Room) s m args below meth c (vx_MQ below (QiM D cA lo Q) (XcM D cA lo X) args s Cc Zz (fun q => lo ≤ q)) 9 D cA lo cc zz M 53 [(0, .ref a0), (1, .int i1), (2, .int i2), (3, .int i3), (4, .ref a4), (5, .int i5), (6, .int i6)] [.int is0]) (fun (a0 : Nat) (i1 : Int32) (i2 : Int32) (i3 : Int32) (a4 : Nat) (i5 : Int32) (i6 : Int32) (is0 : Int32) (M : Mm) (cc zz : Nat) => QW p l e ({ frames := 7, cells := Cc, slots := Zz, locals := 111 } : Room) s m args below meth c (vx_MQ below (QiM D cA lo Q) (XcM D cA lo X) args s Cc Zz (fun q => lo ≤ q)) 9 D cA lo cc zz M 82 [(0, .ref a0), (1, .int i1), (2, .int i2), (3, .int i3), (4, .ref a4), (5, .int i5), (6, .int i6)] [.int is0]) (fun (a0 : Nat) (i1 : Int32) (i2 : Int32) (i3 : Int32) (a4 : Nat) (i5 : Int32) (i6 : Int32) (i7 : Int32) (i8 : Int32) (is0 : Int32) (M : Mm) (cc zz : Nat) => QW p l e ({ frames := 7, cells := Cc, slots := Zz, locals := 111 } : Room) s m args below meth c (vx_MQ below (QiM D cA lo Q) (XcM D cA lo X) args s Cc Zz (fun q => lo ≤ q)) 9 D cA lo cc zz M 111 [(0, .ref a0), (1, .int i1), (2, .int i2), (3, .int i3), (4, .ref a4), (5, .int i5), (6, .int i6), (7, .int i7), (8, .int i8)] [.int is0]) (fun (a0 : Nat) (i1 : Int32) (a4 : Nat) (i5 : Int32) (i6 : Int32) (i7 : Int32) (i8 : Int32) (is0 : Int32) (M : Mm) (cc zz : Nat) => QW p l e ({ frames := 7, cells := Cc, slots := Zz, locals := 111 } : Room) s m args below meth c (vx_MQ below (QiM D cA lo Q) (XcM D cA lo X) args s Cc Zz (fun q => lo ≤ q)) 9 D cA lo cc zz M 142 [(0, .ref a0), (1, .int i1), (4, .ref a4), (5, .int i5), (6, .int i6), (7, .int i7), (8, .int i8)] [.int is0]) Cc Zz Q X M a0 i1 i2 i3 a4 i5 i6 i7 i8 is0 cc zz) : QW p l e ({ frames := 7, cells := Cc, slots := Zz, locals := 111 } : Room) s m args below meth c (vx_MQ below (QiM D cA lo Q) (XcM D cA lo X) args s Cc Zz (fun q => lo ≤ q)) 9 D cA lo cc zz M 111 [(0, .ref a0), (1, .int i1), (2, .int i2), (3, .int i3), (4, .ref a4), (5, .int i5), (6, .int i6), (7, .int i7), (8, .int i8)] [.int is0] := by
  unfold S_X8_cut_111 at h
  obtain ⟨dc_15, ds_15, hcz, h⟩ := h
  refine q_xv (qx_runS (As := [.int is0]) (st := []) C (c_X8_needArgument l hl D cA lo h) (va_cwS 1 C.2.2.2.2.1 gX8_cut_X8_needArgument rfl rfl rfl (by decide +kernel) ⟨Nat.le_of_ble_eq_true rfl, Nat.le_of_ble_eq_true rfl⟩) rfl rfl (Nat.le_of_ble_eq_true rfl) dX8_cut_111 hcz) (fun E M_x h => ?_) (fun M_14 h => ?_)
  · exact q_xout (fun x hx => hex x hx _) hlk hcz.1 hcz.2 h
  · refine q_aload_n C dX8_cut_114 rfl (j := 0) rfl ?_
    refine q_getR (ci := 8) (k0 := 1) (T := TX8) C inX8_cut_X8 rfl (by decide) h.1 (by decide) rfl (by decide +kernel) rfl dX8_cut_115 ?_
    obtain ⟨a_16, z, h⟩ := h.2
    refine q_ref z ?_
    refine q_iconst (v := 1) C dX8_cut_118 (by decide) ?_
    have hcz := h.1
    have h := h.2
    refine q_ci (q_runV (As := [.int 1]) (st := []) C (c_X1_hasRoom l D cA lo h.2) (cwV 1 C.2.2.2.2.1 gX8_cut_X1_hasRoom rfl rfl rfl (by decide +kernel) ⟨Nat.le_of_ble_eq_true rfl, Nat.le_of_ble_eq_true rfl⟩) h.1 (by decide) rfl rfl rfl (Nat.le_of_ble_eq_true rfl) dX8_cut_119 ⟨Nat.le_trans (Nat.le_of_eq (Nat.add_zero _)) hcz.1, Nat.le_trans (Nat.le_of_eq (Nat.add_zero _)) hcz.2⟩) (fun r_17 M_z h => ?_)
    refine q_mem h.1 ?_
    have h := h.2
    refine q_if_eq (tgt := 141) C dX8_cut_122 (by decide) (fun z => ?_) (fun z => ?_)
    · have h := h.1 z
      refine q_iconst (v := 0) C dX8_cut_141 (by decide) ?_
      exact q_sub [0, 1, 4, 5, 6, 7, 8] rfl h
    · have h := h.2 z
      refine q_aload_n C dX8_cut_125 rfl (j := 0) rfl ?_
      refine q_getR (ci := 8) (k0 := 1) (T := TX8) C inX8_cut_X8 rfl (by decide) h.1 (by decide) rfl (by decide +kernel) rfl dX8_cut_126 ?_
      obtain ⟨a_18, z, h⟩ := h.2
      refine q_ref z ?_
      refine q_iload_n C dX8_cut_129 rfl (j := 2) rfl ?_
      refine q_iload_n C dX8_cut_130 rfl (j := 3) rfl ?_
      have hcz := h.1
      have h := h.2
      refine q_ci (q_runV (As := [.int i2, .int i3]) (st := []) C (c_X1_isEdge l D cA lo h.2) (cwV 2 C.2.2.2.2.1 gX8_cut_X1_isEdge rfl rfl rfl (by decide +kernel) ⟨Nat.le_of_ble_eq_true rfl, Nat.le_of_ble_eq_true rfl⟩) h.1 (by decide) rfl rfl rfl (Nat.le_of_ble_eq_true rfl) dX8_cut_131 ⟨Nat.le_trans (Nat.le_of_eq (Nat.add_zero _)) hcz.1, Nat.le_trans (Nat.le_of_eq (Nat.add_zero _)) hcz.2⟩) (fun r_19 M_z h => ?_)
      refine q_mem h.1 ?_
      have h := h.2
      refine q_if_ne (tgt := 141) C dX8_cut_134 (by decide) (fun z => ?_) (fun z => ?_)
      · have h := h.1 z
        refine q_iconst (v := 0) C dX8_cut_141 (by decide) ?_
        exact q_sub [0, 1, 4, 5, 6, 7, 8] rfl h
      · have h := h.2 z
        refine q_iconst (v := 1) C dX8_cut_137 (by decide) ?_
        refine q_goto (tgt := 142) C dX8_cut_138 (by decide) ?_
        exact q_sub [0, 1, 4, 5, 6, 7, 8] rfl h
set_option maxRecDepth 100000 in
set_option maxHeartbeats 4000000 in
theorem b_X8_cut_142 {p : Program} {l : Launch} {e : Env} {s : State} {m : MethodId} {args : Array Value} {below : List Frame} {meth : Method} {c : Code} {D : va_G} {cA : Nat → ClassId} {lo : Nat} (C : Cx p s m args c cX8_cut 9 RX8 wsX8_cut D cA lo) (hr : meth.sig.returnType = (some .int)) (hlk : meth.locks = false) (hl : l.stackTraces = false) (hex : ∀ x ∈ c.exceptionTable.toList, ∀ pc, covers x pc = false) {Q : Int32 → Mm → Prop} {Cc Zz : Nat} {X : String → Mm → Prop} (M : Mm) (a0 : Nat) (i1 : Int32) (a4 : Nat) (i5 : Int32) (i6 : Int32) (i7 : Int32) (i8 : Int32) (is0 : Int32) (cc zz : Nat) (h : S_X8_cut_142 (fun (a0 : Nat) (i1 : Int32) (i2 : Int32) (i3 : Int32) (a4 : Nat) (i5 : Int32) (i6 : Int32) (is0 : Int32) (M : Mm) (cc zz : Nat) => QW p l e ({ frames := 7, cells := Cc, slots := Zz, locals := 111 } : Room) s m args below meth c (vx_MQ below (QiM D cA lo Q) (XcM D cA lo X) args s Cc Zz (fun q => lo ≤ q)) 9 D cA lo cc zz M 53 [(0, .ref a0), (1, .int i1), (2, .int i2), (3, .int i3), (4, .ref a4), (5, .int i5), (6, .int i6)] [.int is0]) (fun (a0 : Nat) (i1 : Int32) (i2 : Int32) (i3 : Int32) (a4 : Nat) (i5 : Int32) (i6 : Int32) (is0 : Int32) (M : Mm) (cc zz : Nat) => QW p l e ({ frames := 7, cells := Cc, slots := Zz, locals := 111 } : Room) s m args below meth c (vx_MQ below (QiM D cA lo Q) (XcM D cA lo X) args s Cc Zz (fun q => lo ≤ q)) 9 D cA lo cc zz M 82 [(0, .ref a0), (1, .int i1), (2, .int i2), (3, .int i3), (4, .ref a4), (5, .int i5), (6, .int i6)] [.int is0]) (fun (a0 : Nat) (i1 : Int32) (i2 : Int32) (i3 : Int32) (a4 : Nat) (i5 : Int32) (i6 : Int32) (i7 : Int32) (i8 : Int32) (is0 : Int32) (M : Mm) (cc zz : Nat) => QW p l e ({ frames := 7, cells := Cc, slots := Zz, locals := 111 } : Room) s m args below meth c (vx_MQ below (QiM D cA lo Q) (XcM D cA lo X) args s Cc Zz (fun q => lo ≤ q)) 9 D cA lo cc zz M 111 [(0, .ref a0), (1, .int i1), (2, .int i2), (3, .int i3), (4, .ref a4), (5, .int i5), (6, .int i6), (7, .int i7), (8, .int i8)] [.int is0]) (fun (a0 : Nat) (i1 : Int32) (a4 : Nat) (i5 : Int32) (i6 : Int32) (i7 : Int32) (i8 : Int32) (is0 : Int32) (M : Mm) (cc zz : Nat) => QW p l e ({ frames := 7, cells := Cc, slots := Zz, locals := 111 } : Room) s m args below meth c (vx_MQ below (QiM D cA lo Q) (XcM D cA lo X) args s Cc Zz (fun q => lo ≤ q)) 9 D cA lo cc zz M 142 [(0, .ref a0), (1, .int i1), (4, .ref a4), (5, .int i5), (6, .int i6), (7, .int i7), (8, .int i8)] [.int is0]) Cc Zz Q X M a0 i1 a4 i5 i6 i7 i8 is0 cc zz) : QW p l e ({ frames := 7, cells := Cc, slots := Zz, locals := 111 } : Room) s m args below meth c (vx_MQ below (QiM D cA lo Q) (XcM D cA lo X) args s Cc Zz (fun q => lo ≤ q)) 9 D cA lo cc zz M 142 [(0, .ref a0), (1, .int i1), (4, .ref a4), (5, .int i5), (6, .int i6), (7, .int i7), (8, .int i8)] [.int is0] := by
  unfold S_X8_cut_142 at h
  obtain ⟨dc_22, ds_22, hcz, h⟩ := h
  refine q_xv (qx_runS (As := [.int is0]) (st := []) C (c_X8_needState l hl D cA lo h) (va_cwS 1 C.2.2.2.2.1 gX8_cut_X8_needState rfl rfl rfl (by decide +kernel) ⟨Nat.le_of_ble_eq_true rfl, Nat.le_of_ble_eq_true rfl⟩) rfl rfl (Nat.le_of_ble_eq_true rfl) dX8_cut_142 hcz) (fun E M_x h => ?_) (fun M_21 h => ?_)
  · exact q_xout (fun x hx => hex x hx _) hlk hcz.1 hcz.2 h
  · refine q_aload_n C dX8_cut_145 rfl (j := 0) rfl ?_
    refine q_getR (ci := 8) (k0 := 6) (T := TX8) C inX8_cut_X8 rfl (by decide) h.1 (by decide) rfl (by decide +kernel) rfl dX8_cut_146 ?_
    obtain ⟨a_23, z, h⟩ := h.2
    refine q_ref z ?_
    have hcz := h.1
    have h := h.2
    refine q_cv (q_runV (As := []) (st := []) C (c_X5_clear l D cA lo h.2) (cwV 0 C.2.2.2.2.1 gX8_cut_X5_clear rfl rfl rfl (by decide +kernel) ⟨Nat.le_of_ble_eq_true rfl, Nat.le_of_ble_eq_true rfl⟩) h.1 (by decide) rfl rfl rfl (Nat.le_of_ble_eq_true rfl) dX8_cut_149 ⟨Nat.le_trans (Nat.le_of_eq (Nat.add_zero _)) hcz.1, Nat.le_trans (Nat.le_of_eq (Nat.add_zero _)) hcz.2⟩) (fun M_25 h => ?_)
    refine q_aload_n C dX8_cut_152 rfl (j := 0) rfl ?_
    refine q_getR (ci := 8) (k0 := 6) (T := TX8) C inX8_cut_X8 rfl (by decide) h.1 (by decide) rfl (by decide +kernel) rfl dX8_cut_153 ?_
    obtain ⟨a_26, z, h⟩ := h.2
    refine q_ref z ?_
    refine q_aload C dX8_cut_156 (j := 2) rfl ?_
    refine q_iload C dX8_cut_158 (j := 3) rfl ?_
    refine q_iload C dX8_cut_160 (j := 5) rfl ?_
    refine q_iconst (v := 1) C dX8_cut_162 (by decide) ?_
    refine q_iadd C dX8_cut_163 ?_
    have hcz := h.1
    have h := h.2
    refine q_cv (q_runV (As := [.ref a4, .int i5, .int (i7 + 1)]) (st := []) C (c_X5_addStretch l D cA lo h.2) (cwV 3 C.2.2.2.2.1 gX8_cut_X5_addStretch rfl rfl rfl (by decide +kernel) ⟨Nat.le_of_ble_eq_true rfl, Nat.le_of_ble_eq_true rfl⟩) h.1 (by decide) rfl rfl rfl (Nat.le_of_ble_eq_true rfl) dX8_cut_164 ⟨Nat.le_trans (Nat.le_of_eq (Nat.add_zero _)) hcz.1, Nat.le_trans (Nat.le_of_eq (Nat.add_zero _)) hcz.2⟩) (fun M_28 h => ?_)
    refine q_aload_n C dX8_cut_167 rfl (j := 0) rfl ?_
    refine q_getR (ci := 8) (k0 := 7) (T := TX8) C inX8_cut_X8 rfl (by decide) h.1 (by decide) rfl (by decide +kernel) rfl dX8_cut_168 ?_
    obtain ⟨a_29, z, h⟩ := h.2
    refine q_ref z ?_
    have hcz := h.1
    have h := h.2
    refine q_cv (q_runV (As := []) (st := []) C (c_X5_clear l D cA lo h.2) (cwV 0 C.2.2.2.2.1 gX8_cut_X5_clear rfl rfl rfl (by decide +kernel) ⟨Nat.le_of_ble_eq_true rfl, Nat.le_of_ble_eq_true rfl⟩) h.1 (by decide) rfl rfl rfl (Nat.le_of_ble_eq_true rfl) dX8_cut_171 ⟨Nat.le_trans (Nat.le_of_eq (Nat.add_zero _)) hcz.1, Nat.le_trans (Nat.le_of_eq (Nat.add_zero _)) hcz.2⟩) (fun M_31 h => ?_)
    refine q_aload_n C dX8_cut_174 rfl (j := 0) rfl ?_
    refine q_getR (ci := 8) (k0 := 7) (T := TX8) C inX8_cut_X8 rfl (by decide) h.1 (by decide) rfl (by decide +kernel) rfl dX8_cut_175 ?_
    obtain ⟨a_32, z, h⟩ := h.2
    refine q_ref z ?_
    refine q_aload C dX8_cut_178 (j := 2) rfl ?_
    refine q_iload C dX8_cut_180 (j := 4) rfl ?_
    refine q_iload C dX8_cut_182 (j := 6) rfl ?_
    refine q_iconst (v := 1) C dX8_cut_184 (by decide) ?_
    refine q_iadd C dX8_cut_185 ?_
    have hcz := h.1
    have h := h.2
    refine q_cv (q_runV (As := [.ref a4, .int i6, .int (i8 + 1)]) (st := []) C (c_X5_addStretch l D cA lo h.2) (cwV 3 C.2.2.2.2.1 gX8_cut_X5_addStretch rfl rfl rfl (by decide +kernel) ⟨Nat.le_of_ble_eq_true rfl, Nat.le_of_ble_eq_true rfl⟩) h.1 (by decide) rfl rfl rfl (Nat.le_of_ble_eq_true rfl) dX8_cut_186 ⟨Nat.le_trans (Nat.le_of_eq (Nat.add_zero _)) hcz.1, Nat.le_trans (Nat.le_of_eq (Nat.add_zero _)) hcz.2⟩) (fun M_34 h => ?_)
    refine q_aload_n C dX8_cut_189 rfl (j := 0) rfl ?_
    refine q_getR (ci := 8) (k0 := 1) (T := TX8) C inX8_cut_X8 rfl (by decide) h.1 (by decide) rfl (by decide +kernel) rfl dX8_cut_190 ?_
    obtain ⟨a_35, z, h⟩ := h.2
    refine q_ref z ?_
    refine q_iload_n C dX8_cut_193 rfl (j := 1) rfl ?_
    refine q_aload_n C dX8_cut_194 rfl (j := 0) rfl ?_
    refine q_getR (ci := 8) (k0 := 6) (T := TX8) C inX8_cut_X8 rfl (by decide) h.1 (by decide) rfl (by decide +kernel) rfl dX8_cut_195 ?_
    obtain ⟨a_36, z, h⟩ := h.2
    refine q_ref z ?_
    have hcz := h.1
    have h := h.2
    refine q_cv (q_runV (As := [.int i1, .ref a_36]) (st := []) C (c_X1_reshape l D cA lo h.2) (cwV 2 C.2.2.2.2.1 gX8_cut_X1_reshape rfl rfl rfl (by decide +kernel) ⟨Nat.le_of_ble_eq_true rfl, Nat.le_of_ble_eq_true rfl⟩) h.1 (by decide) rfl rfl rfl (Nat.le_of_ble_eq_true rfl) dX8_cut_198 ⟨Nat.le_trans (Nat.le_of_eq (Nat.add_zero _)) hcz.1, Nat.le_trans (Nat.le_of_eq (Nat.add_zero _)) hcz.2⟩) (fun M_38 h => ?_)
    refine q_aload_n C dX8_cut_201 rfl (j := 0) rfl ?_
    refine q_getR (ci := 8) (k0 := 1) (T := TX8) C inX8_cut_X8 rfl (by decide) h.1 (by decide) rfl (by decide +kernel) rfl dX8_cut_202 ?_
    obtain ⟨a_39, z, h⟩ := h.2
    refine q_ref z ?_
    refine q_aload_n C dX8_cut_205 rfl (j := 0) rfl ?_
    refine q_getR (ci := 8) (k0 := 7) (T := TX8) C inX8_cut_X8 rfl (by decide) h.1 (by decide) rfl (by decide +kernel) rfl dX8_cut_206 ?_
    obtain ⟨a_40, z, h⟩ := h.2
    refine q_ref z ?_
    have hcz := h.1
    have h := h.2
    refine q_ci (q_runV (As := [.ref a_40]) (st := []) C (c_X1_add l D cA lo h.2) (cwV 1 C.2.2.2.2.1 gX8_cut_X1_add rfl rfl rfl (by decide +kernel) ⟨Nat.le_of_ble_eq_true rfl, Nat.le_of_ble_eq_true rfl⟩) h.1 (by decide) rfl rfl rfl (Nat.le_of_ble_eq_true rfl) dX8_cut_209 ⟨Nat.le_trans (Nat.le_of_eq (Nat.add_zero _)) hcz.1, Nat.le_trans (Nat.le_of_eq (Nat.add_zero _)) hcz.2⟩) (fun r_41 M_42 h => ?_)
    exact q_xret (q_iret C hr hlk dX8_cut_212 h.1 h.2.1 h.2.2)
set_option maxRecDepth 100000 in
set_option maxHeartbeats 4000000 in
theorem c_X8_cut (l : Launch) (hl : l.stackTraces = false) (D : va_G) (cA : Nat → ClassId) (lo : Nat) {M : Mm} {a0 : Nat} {i1 : Int32} {i2 : Int32} {i3 : Int32} {Cc Zz : Nat} {Q : Int32 → Mm → Prop} {X : String → Mm → Prop} (h : T_X8_cut Cc Zz M a0 i1 i2 i3 Q X) : vx_Met l yX8_cut wsX8_cut ({ frames := 7, cells := Cc, slots := Zz, locals := 111 } : Room) (PcM D cA lo [.ref a0, .int i1, .int i2, .int i3] M) (QiM D cA lo Q) (XcM D cA lo X) Cc Zz (fun q => lo ≤ q) := by
  refine q_startX (cc := cX8_cut) (nL := 9) (ret := (some .int)) (by decide) rfl rfl (Nat.le_of_ble_eq_true rfl) ?_
  intro p e s m args below meth c C hr hlk hin hex
  unfold T_X8_cut at h
  have h := h (fun (a0 : Nat) (i1 : Int32) (i2 : Int32) (i3 : Int32) (a4 : Nat) (i5 : Int32) (i6 : Int32) (is0 : Int32) (M : Mm) (cc zz : Nat) => QW p l e ({ frames := 7, cells := Cc, slots := Zz, locals := 111 } : Room) s m args below meth c (vx_MQ below (QiM D cA lo Q) (XcM D cA lo X) args s Cc Zz (fun q => lo ≤ q)) 9 D cA lo cc zz M 53 [(0, .ref a0), (1, .int i1), (2, .int i2), (3, .int i3), (4, .ref a4), (5, .int i5), (6, .int i6)] [.int is0]) (fun (a0 : Nat) (i1 : Int32) (i2 : Int32) (i3 : Int32) (a4 : Nat) (i5 : Int32) (i6 : Int32) (is0 : Int32) (M : Mm) (cc zz : Nat) => QW p l e ({ frames := 7, cells := Cc, slots := Zz, locals := 111 } : Room) s m args below meth c (vx_MQ below (QiM D cA lo Q) (XcM D cA lo X) args s Cc Zz (fun q => lo ≤ q)) 9 D cA lo cc zz M 82 [(0, .ref a0), (1, .int i1), (2, .int i2), (3, .int i3), (4, .ref a4), (5, .int i5), (6, .int i6)] [.int is0]) (fun (a0 : Nat) (i1 : Int32) (i2 : Int32) (i3 : Int32) (a4 : Nat) (i5 : Int32) (i6 : Int32) (i7 : Int32) (i8 : Int32) (is0 : Int32) (M : Mm) (cc zz : Nat) => QW p l e ({ frames := 7, cells := Cc, slots := Zz, locals := 111 } : Room) s m args below meth c (vx_MQ below (QiM D cA lo Q) (XcM D cA lo X) args s Cc Zz (fun q => lo ≤ q)) 9 D cA lo cc zz M 111 [(0, .ref a0), (1, .int i1), (2, .int i2), (3, .int i3), (4, .ref a4), (5, .int i5), (6, .int i6), (7, .int i7), (8, .int i8)] [.int is0]) (fun (a0 : Nat) (i1 : Int32) (a4 : Nat) (i5 : Int32) (i6 : Int32) (i7 : Int32) (i8 : Int32) (is0 : Int32) (M : Mm) (cc zz : Nat) => QW p l e ({ frames := 7, cells := Cc, slots := Zz, locals := 111 } : Room) s m args below meth c (vx_MQ below (QiM D cA lo Q) (XcM D cA lo X) args s Cc Zz (fun q => lo ≤ q)) 9 D cA lo cc zz M 142 [(0, .ref a0), (1, .int i1), (4, .ref a4), (5, .int i5), (6, .int i6), (7, .int i7), (8, .int i8)] [.int is0]) (fun a0 i1 i2 i3 a4 i5 i6 is0 M cc zz h => b_X8_cut_53 C hr hlk hl hex M a0 i1 i2 i3 a4 i5 i6 is0 cc zz h) (fun a0 i1 i2 i3 a4 i5 i6 is0 M cc zz h => b_X8_cut_82 C hr hlk hl hex M a0 i1 i2 i3 a4 i5 i6 is0 cc zz h) (fun a0 i1 i2 i3 a4 i5 i6 i7 i8 is0 M cc zz h => b_X8_cut_111 C hr hlk hl hex M a0 i1 i2 i3 a4 i5 i6 i7 i8 is0 cc zz h) (fun a0 i1 a4 i5 i6 i7 i8 is0 M cc zz h => b_X8_cut_142 C hr hlk hl hex M a0 i1 a4 i5 i6 i7 i8 is0 cc zz h)
  refine q_aload_n C dX8_cut_0 rfl (j := 0) rfl ?_
  refine q_iload_n C dX8_cut_1 rfl (j := 1) rfl ?_
  obtain ⟨dc_3, ds_3, hcz, h⟩ := h
  refine q_xv (qx_runV (As := [.int i1]) (st := []) C (c_X8_needFace l hl D cA lo h.2) (cwV 1 C.2.2.2.2.1 gX8_cut_X8_needFace rfl rfl rfl (by decide +kernel) ⟨Nat.le_of_ble_eq_true rfl, Nat.le_of_ble_eq_true rfl⟩) h.1 (by decide) rfl rfl rfl (Nat.le_of_ble_eq_true rfl) dX8_cut_2 hcz) (fun E M_x h => ?_) (fun M_2 h => ?_)
  · exact q_xout (fun x hx => hex x hx _) hlk hcz.1 hcz.2 h
  · refine q_aload_n C dX8_cut_5 rfl (j := 0) rfl ?_
    refine q_getR (ci := 8) (k0 := 1) (T := TX8) C inX8_cut_X8 rfl (by decide) h.1 (by decide) rfl (by decide +kernel) rfl dX8_cut_6 ?_
    obtain ⟨a_4, z, h⟩ := h.2
    refine q_ref z ?_
    refine q_iload_n C dX8_cut_9 rfl (j := 1) rfl ?_
    have hcz := h.1
    have h := h.2
    refine q_cr (q_runV (As := [.int i1]) (st := []) C (c_X1_ring l D cA lo h.2) (cwV 1 C.2.2.2.2.1 gX8_cut_X1_ring rfl rfl rfl (by decide +kernel) ⟨Nat.le_of_ble_eq_true rfl, Nat.le_of_ble_eq_true rfl⟩) h.1 (by decide) rfl rfl rfl (Nat.le_of_ble_eq_true rfl) dX8_cut_10 ⟨Nat.le_trans (Nat.le_of_eq (Nat.add_zero _)) hcz.1, Nat.le_trans (Nat.le_of_eq (Nat.add_zero _)) hcz.2⟩) (fun r_5 M_z h => ?_)
    refine q_mem h.1 ?_
    have h := h.2
    refine q_astore (lv' := [(4, .ref r_5), (0, .ref a0), (1, .int i1), (2, .int i2), (3, .int i3)]) C dX8_cut_13 (by decide) rfl ?_
    refine q_aload C dX8_cut_15 (j := 0) rfl ?_
    refine q_iload_n C dX8_cut_17 rfl (j := 3) rfl ?_
    have hcz := h.1
    have h := h.2
    refine q_ci (q_runV (As := [.int i2]) (st := []) C (c_X5_placeOf l D cA lo h.2) (cwV 1 C.2.2.2.2.1 gX8_cut_X5_placeOf rfl rfl rfl (by decide +kernel) ⟨Nat.le_of_ble_eq_true rfl, Nat.le_of_ble_eq_true rfl⟩) h.1 (by decide) rfl rfl rfl (Nat.le_of_ble_eq_true rfl) dX8_cut_18 ⟨Nat.le_trans (Nat.le_of_eq (Nat.add_zero _)) hcz.1, Nat.le_trans (Nat.le_of_eq (Nat.add_zero _)) hcz.2⟩) (fun r_6 M_z h => ?_)
    refine q_mem h.1 ?_
    have h := h.2
    refine q_istore (lv' := [(5, .int r_6), (4, .ref r_5), (0, .ref a0), (1, .int i1), (2, .int i2), (3, .int i3)]) C dX8_cut_21 (by decide) rfl ?_
    refine q_aload C dX8_cut_23 (j := 1) rfl ?_
    refine q_iload_n C dX8_cut_25 rfl (j := 5) rfl ?_
    have hcz := h.1
    have h := h.2
    refine q_ci (q_runV (As := [.int i3]) (st := []) C (c_X5_placeOf l D cA lo h.2) (cwV 1 C.2.2.2.2.1 gX8_cut_X5_placeOf rfl rfl rfl (by decide +kernel) ⟨Nat.le_of_ble_eq_true rfl, Nat.le_of_ble_eq_true rfl⟩) h.1 (by decide) rfl rfl rfl (Nat.le_of_ble_eq_true rfl) dX8_cut_26 ⟨Nat.le_trans (Nat.le_of_eq (Nat.add_zero _)) hcz.1, Nat.le_trans (Nat.le_of_eq (Nat.add_zero _)) hcz.2⟩) (fun r_7 M_z h => ?_)
    refine q_mem h.1 ?_
    have h := h.2
    refine q_istore (lv' := [(6, .int r_7), (5, .int r_6), (4, .ref r_5), (0, .ref a0), (1, .int i1), (2, .int i2), (3, .int i3)]) C dX8_cut_29 (by decide) rfl ?_
    refine q_iload C dX8_cut_31 (j := 1) rfl ?_
    refine q_iconst (v := (-1)) C dX8_cut_33 (by decide) ?_
    refine q_icmp_eq (tgt := 52) C dX8_cut_34 (by decide) (fun z => ?_) (fun z => ?_)
    · have h := h.1 z
      refine q_iconst (v := 0) C dX8_cut_52 (by decide) ?_
      exact q_sub [3, 4, 5, 6, 2, 1, 0] rfl h
    · have h := h.2 z
      refine q_iload C dX8_cut_37 (j := 0) rfl ?_
      refine q_iconst (v := (-1)) C dX8_cut_39 (by decide) ?_
      refine q_icmp_eq (tgt := 52) C dX8_cut_40 (by decide) (fun z => ?_) (fun z => ?_)
      · have h := h.1 z
        refine q_iconst (v := 0) C dX8_cut_52 (by decide) ?_
        exact q_sub [3, 4, 5, 6, 2, 1, 0] rfl h
      · have h := h.2 z
        refine q_iload_n C dX8_cut_43 rfl (j := 5) rfl ?_
        refine q_iload_n C dX8_cut_44 rfl (j := 6) rfl ?_
        refine q_icmp_eq (tgt := 52) C dX8_cut_45 (by decide) (fun z => ?_) (fun z => ?_)
        · have h := h.1 z
          refine q_iconst (v := 0) C dX8_cut_52 (by decide) ?_
          exact q_sub [3, 4, 5, 6, 2, 1, 0] rfl h
        · have h := h.2 z
          refine q_iconst (v := 1) C dX8_cut_48 (by decide) ?_
          refine q_goto (tgt := 53) C dX8_cut_49 (by decide) ?_
          exact q_sub [3, 4, 5, 6, 2, 1, 0] rfl h
def S_X8_joinFits_57 (K57 : Int32 → Int32 → Nat → Nat → Int32 → Prop) (Q : Int32 → Prop) (M : Mm) (i1 : Int32) (i2 : Int32) (a3 : Nat) (a4 : Nat) (i5 : Int32) : Prop := kM M a4 = (5, 2) ∧ T_X5_length M a4 (fun r_11 => (r_11 ≤ i5 → Q 1) ∧ (¬ r_11 ≤ i5 → kM M a4 = (5, 2) ∧ T_X5_get M a4 i5 (fun r_12 => (r_12 = i1 → K57 i1 i2 a3 a4 (i5 + 1)) ∧ (¬ r_12 = i1 → (r_12 = i2 → K57 i1 i2 a3 a4 (i5 + 1)) ∧ (¬ r_12 = i2 → kM M a3 = (5, 2) ∧ T_X5_placeOf M a3 r_12 (fun r_13 => (r_13 = (-1) → K57 i1 i2 a3 a4 (i5 + 1)) ∧ (¬ r_13 = (-1) → Q 0)))))))
def T_X8_joinFits (M : Mm) (a0 : Nat) (i1 : Int32) (i2 : Int32) (Q : Int32 → Prop) : Prop := ∀ (K57 : Int32 → Int32 → Nat → Nat → Int32 → Prop), (∀ (i1 : Int32) (i2 : Int32) (a3 : Nat) (a4 : Nat) (i5 : Int32), S_X8_joinFits_57 K57 Q M i1 i2 a3 a4 i5 → K57 i1 i2 a3 a4 i5) → kM M a0 = (8, 8) ∧ ∃ a_1 : Nat, rM M a0 1 = some a_1 ∧ kM M a0 = (8, 8) ∧ ∃ a_2 : Nat, rM M a0 1 = some a_2 ∧ kM M a_2 = (1, 5) ∧ T_X1_owner M a_2 i1 i2 (fun r_3 => kM M a_1 = (1, 5) ∧ T_X1_ring M a_1 r_3 (fun r_4 => kM M a0 = (8, 8) ∧ ∃ a_5 : Nat, rM M a0 1 = some a_5 ∧ kM M a0 = (8, 8) ∧ ∃ a_6 : Nat, rM M a0 1 = some a_6 ∧ kM M a_6 = (1, 5) ∧ T_X1_owner M a_6 i2 i1 (fun r_7 => kM M a_5 = (1, 5) ∧ T_X1_ring M a_5 r_7 (fun r_8 => kM M r_4 = (5, 2) ∧ T_X5_length M r_4 (fun r_9 => kM M r_8 = (5, 2) ∧ T_X5_length M r_8 (fun r_10 => (((r_9 + r_10) - 2) ≤ 12 → K57 i1 i2 r_4 r_8 0) ∧ (¬ ((r_9 + r_10) - 2) ≤ 12 → Q 0)))))))
theorem inX8_joinFits_X8 : ∀ w ∈ wsX80, w ∈ wsX8_joinFits := by decide +kernel
set_option maxRecDepth 100000 in
set_option maxHeartbeats 4000000 in
theorem b_X8_joinFits_57 {p : Program} {l : Launch} {e : Env} {s : State} {m : MethodId} {args : Array Value} {below : List Frame} {meth : Method} {c : Code} {D : va_G} {cA : Nat → ClassId} {lo : Nat} (C : Cx p s m args c cX8_joinFits 7 RX8 wsX8_joinFits D cA lo) (hr : meth.sig.returnType = (some .boolean)) (hlk : meth.locks = false) {Q : Int32 → Prop} {M : Mm} (i1 : Int32) (i2 : Int32) (a3 : Nat) (a4 : Nat) (i5 : Int32) (h : S_X8_joinFits_57 (fun (i1 : Int32) (i2 : Int32) (a3 : Nat) (a4 : Nat) (i5 : Int32) => QW p l e ({ frames := 1, cells := 0, slots := 0, locals := 22 } : Room) s m args below meth c (MQ below (QiM D cA lo (fun r M1 => M1 = M ∧ Q r)) args s 0 0 (fun q => lo ≤ q)) 7 D cA lo 0 0 M 57 [(1, .int i1), (2, .int i2), (3, .ref a3), (4, .ref a4), (5, .int i5)] []) Q M i1 i2 a3 a4 i5) : QW p l e ({ frames := 1, cells := 0, slots := 0, locals := 22 } : Room) s m args below meth c (MQ below (QiM D cA lo (fun r M1 => M1 = M ∧ Q r)) args s 0 0 (fun q => lo ≤ q)) 7 D cA lo 0 0 M 57 [(1, .int i1), (2, .int i2), (3, .ref a3), (4, .ref a4), (5, .int i5)] [] := by
  unfold S_X8_joinFits_57 at h
  refine q_iload C dX8_joinFits_57 (j := 4) rfl ?_
  refine q_aload C dX8_joinFits_59 (j := 3) rfl ?_
  refine q_ci (q_runV (As := []) (st := [.int i5]) C (c_X5_length l D cA lo h.2) (cwV 0 C.2.2.2.2.1 gX8_joinFits_X5_length rfl rfl rfl (by decide +kernel) ⟨Nat.le_of_ble_eq_true rfl, Nat.le_of_ble_eq_true rfl⟩) h.1 (by decide) rfl rfl rfl (Nat.le_of_ble_eq_true rfl) dX8_joinFits_61 ⟨Nat.le_of_ble_eq_true rfl, Nat.le_of_ble_eq_true rfl⟩) (fun r_11 M_z h => ?_)
  refine q_mem h.1 ?_
  have h := h.2
  refine q_icmp_ge (tgt := 106) C dX8_joinFits_64 (by decide) (fun z => ?_) (fun z => ?_)
  · have h := h.1 z
    refine q_iconst (v := 1) C dX8_joinFits_106 (by decide) ?_
    exact q_zret C hr hlk dX8_joinFits_107 (Nat.le_of_ble_eq_true rfl) (Nat.le_of_ble_eq_true rfl) (Or.inr rfl) ⟨rfl, h⟩
  · have h := h.2 z
    refine q_aload C dX8_joinFits_67 (j := 3) rfl ?_
    refine q_iload C dX8_joinFits_69 (j := 4) rfl ?_
    refine q_ci (q_runV (As := [.int i5]) (st := []) C (c_X5_get l D cA lo h.2) (cwV 1 C.2.2.2.2.1 gX8_joinFits_X5_get rfl rfl rfl (by decide +kernel) ⟨Nat.le_of_ble_eq_true rfl, Nat.le_of_ble_eq_true rfl⟩) h.1 (by decide) rfl rfl rfl (Nat.le_of_ble_eq_true rfl) dX8_joinFits_71 ⟨Nat.le_of_ble_eq_true rfl, Nat.le_of_ble_eq_true rfl⟩) (fun r_12 M_z h => ?_)
    refine q_mem h.1 ?_
    have h := h.2
    refine q_istore (lv' := [(6, .int r_12), (1, .int i1), (2, .int i2), (3, .ref a3), (4, .ref a4), (5, .int i5)]) C dX8_joinFits_74 (by decide) rfl ?_
    refine q_iload C dX8_joinFits_76 (j := 0) rfl ?_
    refine q_iload_n C dX8_joinFits_78 rfl (j := 1) rfl ?_
    refine q_icmp_eq (tgt := 100) C dX8_joinFits_79 (by decide) (fun z => ?_) (fun z => ?_)
    · have h := h.1 z
      refine q_iinc (v := (i5 + 1)) (lv' := [(5, .int (i5 + 1)), (6, .int r_12), (1, .int i1), (2, .int i2), (3, .ref a3), (4, .ref a4)]) C dX8_joinFits_100 (j := 5) rfl rfl (by decide) rfl ?_
      refine q_goto (tgt := 57) C dX8_joinFits_103 (by decide) ?_
      exact q_sub [2, 3, 4, 5, 0] rfl h
    · have h := h.2 z
      refine q_iload C dX8_joinFits_82 (j := 0) rfl ?_
      refine q_iload_n C dX8_joinFits_84 rfl (j := 2) rfl ?_
      refine q_icmp_eq (tgt := 100) C dX8_joinFits_85 (by decide) (fun z => ?_) (fun z => ?_)
      · have h := h.1 z
        refine q_iinc (v := (i5 + 1)) (lv' := [(5, .int (i5 + 1)), (6, .int r_12), (1, .int i1), (2, .int i2), (3, .ref a3), (4, .ref a4)]) C dX8_joinFits_100 (j := 5) rfl rfl (by decide) rfl ?_
        refine q_goto (tgt := 57) C dX8_joinFits_103 (by decide) ?_
        exact q_sub [2, 3, 4, 5, 0] rfl h
      · have h := h.2 z
        refine q_aload_n C dX8_joinFits_88 rfl (j := 3) rfl ?_
        refine q_iload C dX8_joinFits_89 (j := 0) rfl ?_
        refine q_ci (q_runV (As := [.int r_12]) (st := []) C (c_X5_placeOf l D cA lo h.2) (cwV 1 C.2.2.2.2.1 gX8_joinFits_X5_placeOf rfl rfl rfl (by decide +kernel) ⟨Nat.le_of_ble_eq_true rfl, Nat.le_of_ble_eq_true rfl⟩) h.1 (by decide) rfl rfl rfl (Nat.le_of_ble_eq_true rfl) dX8_joinFits_91 ⟨Nat.le_of_ble_eq_true rfl, Nat.le_of_ble_eq_true rfl⟩) (fun r_13 M_z h => ?_)
        refine q_mem h.1 ?_
        have h := h.2
        refine q_iconst (v := (-1)) C dX8_joinFits_94 (by decide) ?_
        refine q_icmp_eq (tgt := 100) C dX8_joinFits_95 (by decide) (fun z => ?_) (fun z => ?_)
        · have h := h.1 z
          refine q_iinc (v := (i5 + 1)) (lv' := [(5, .int (i5 + 1)), (6, .int r_12), (1, .int i1), (2, .int i2), (3, .ref a3), (4, .ref a4)]) C dX8_joinFits_100 (j := 5) rfl rfl (by decide) rfl ?_
          refine q_goto (tgt := 57) C dX8_joinFits_103 (by decide) ?_
          exact q_sub [2, 3, 4, 5, 0] rfl h
        · have h := h.2 z
          refine q_iconst (v := 0) C dX8_joinFits_98 (by decide) ?_
          exact q_zret C hr hlk dX8_joinFits_99 (Nat.le_of_ble_eq_true rfl) (Nat.le_of_ble_eq_true rfl) (Or.inl rfl) ⟨rfl, h⟩
set_option maxRecDepth 100000 in
set_option maxHeartbeats 4000000 in
theorem c_X8_joinFits (l : Launch) (D : va_G) (cA : Nat → ClassId) (lo : Nat) {M : Mm} {a0 : Nat} {i1 : Int32} {i2 : Int32} {Q : Int32 → Prop} (h : T_X8_joinFits M a0 i1 i2 Q) : Met l yX8_joinFits wsX8_joinFits ({ frames := 1, cells := 0, slots := 0, locals := 22 } : Room) (PcM D cA lo [.ref a0, .int i1, .int i2] M) (QiM D cA lo (fun r M1 => M1 = M ∧ Q r)) 0 0 (fun q => lo ≤ q) := by
  refine q_start (cc := cX8_joinFits) (nL := 7) (ret := (some .boolean)) (by decide) rfl rfl (Nat.le_of_ble_eq_true rfl) ?_
  intro p e s m args below meth c C hr hlk hin
  unfold T_X8_joinFits at h
  have h := h (fun (i1 : Int32) (i2 : Int32) (a3 : Nat) (a4 : Nat) (i5 : Int32) => QW p l e ({ frames := 1, cells := 0, slots := 0, locals := 22 } : Room) s m args below meth c (MQ below (QiM D cA lo (fun r M1 => M1 = M ∧ Q r)) args s 0 0 (fun q => lo ≤ q)) 7 D cA lo 0 0 M 57 [(1, .int i1), (2, .int i2), (3, .ref a3), (4, .ref a4), (5, .int i5)] []) (fun i1 i2 a3 a4 i5 h => b_X8_joinFits_57 C hr hlk i1 i2 a3 a4 i5 h)
  refine q_aload_n C dX8_joinFits_0 rfl (j := 0) rfl ?_
  refine q_getR (ci := 8) (k0 := 1) (T := TX8) C inX8_joinFits_X8 rfl (by decide) h.1 (by decide) rfl (by decide +kernel) rfl dX8_joinFits_1 ?_
  obtain ⟨a_1, z, h⟩ := h.2
  refine q_ref z ?_
  refine q_aload_n C dX8_joinFits_4 rfl (j := 0) rfl ?_
  refine q_getR (ci := 8) (k0 := 1) (T := TX8) C inX8_joinFits_X8 rfl (by decide) h.1 (by decide) rfl (by decide +kernel) rfl dX8_joinFits_5 ?_
  obtain ⟨a_2, z, h⟩ := h.2
  refine q_ref z ?_
  refine q_iload_n C dX8_joinFits_8 rfl (j := 1) rfl ?_
  refine q_iload_n C dX8_joinFits_9 rfl (j := 2) rfl ?_
  refine q_ci (q_runV (As := [.int i1, .int i2]) (st := [.ref a_1]) C (c_X1_owner l D cA lo h.2) (cwV 2 C.2.2.2.2.1 gX8_joinFits_X1_owner rfl rfl rfl (by decide +kernel) ⟨Nat.le_of_ble_eq_true rfl, Nat.le_of_ble_eq_true rfl⟩) h.1 (by decide) rfl rfl rfl (Nat.le_of_ble_eq_true rfl) dX8_joinFits_10 ⟨Nat.le_of_ble_eq_true rfl, Nat.le_of_ble_eq_true rfl⟩) (fun r_3 M_z h => ?_)
  refine q_mem h.1 ?_
  have h := h.2
  refine q_cr (q_runV (As := [.int r_3]) (st := []) C (c_X1_ring l D cA lo h.2) (cwV 1 C.2.2.2.2.1 gX8_joinFits_X1_ring rfl rfl rfl (by decide +kernel) ⟨Nat.le_of_ble_eq_true rfl, Nat.le_of_ble_eq_true rfl⟩) h.1 (by decide) rfl rfl rfl (Nat.le_of_ble_eq_true rfl) dX8_joinFits_13 ⟨Nat.le_of_ble_eq_true rfl, Nat.le_of_ble_eq_true rfl⟩) (fun r_4 M_z h => ?_)
  refine q_mem h.1 ?_
  have h := h.2
  refine q_astore_n (lv' := [(3, .ref r_4), (0, .ref a0), (1, .int i1), (2, .int i2)]) C dX8_joinFits_16 rfl (by decide) rfl ?_
  refine q_aload_n C dX8_joinFits_17 rfl (j := 1) rfl ?_
  refine q_getR (ci := 8) (k0 := 1) (T := TX8) C inX8_joinFits_X8 rfl (by decide) h.1 (by decide) rfl (by decide +kernel) rfl dX8_joinFits_18 ?_
  obtain ⟨a_5, z, h⟩ := h.2
  refine q_ref z ?_
  refine q_aload_n C dX8_joinFits_21 rfl (j := 1) rfl ?_
  refine q_getR (ci := 8) (k0 := 1) (T := TX8) C inX8_joinFits_X8 rfl (by decide) h.1 (by decide) rfl (by decide +kernel) rfl dX8_joinFits_22 ?_
  obtain ⟨a_6, z, h⟩ := h.2
  refine q_ref z ?_
  refine q_iload_n C dX8_joinFits_25 rfl (j := 3) rfl ?_
  refine q_iload_n C dX8_joinFits_26 rfl (j := 2) rfl ?_
  refine q_ci (q_runV (As := [.int i2, .int i1]) (st := [.ref a_5]) C (c_X1_owner l D cA lo h.2) (cwV 2 C.2.2.2.2.1 gX8_joinFits_X1_owner rfl rfl rfl (by decide +kernel) ⟨Nat.le_of_ble_eq_true rfl, Nat.le_of_ble_eq_true rfl⟩) h.1 (by decide) rfl rfl rfl (Nat.le_of_ble_eq_true rfl) dX8_joinFits_27 ⟨Nat.le_of_ble_eq_true rfl, Nat.le_of_ble_eq_true rfl⟩) (fun r_7 M_z h => ?_)
  refine q_mem h.1 ?_
  have h := h.2
  refine q_cr (q_runV (As := [.int r_7]) (st := []) C (c_X1_ring l D cA lo h.2) (cwV 1 C.2.2.2.2.1 gX8_joinFits_X1_ring rfl rfl rfl (by decide +kernel) ⟨Nat.le_of_ble_eq_true rfl, Nat.le_of_ble_eq_true rfl⟩) h.1 (by decide) rfl rfl rfl (Nat.le_of_ble_eq_true rfl) dX8_joinFits_30 ⟨Nat.le_of_ble_eq_true rfl, Nat.le_of_ble_eq_true rfl⟩) (fun r_8 M_z h => ?_)
  refine q_mem h.1 ?_
  have h := h.2
  refine q_astore (lv' := [(4, .ref r_8), (3, .ref r_4), (0, .ref a0), (1, .int i1), (2, .int i2)]) C dX8_joinFits_33 (by decide) rfl ?_
  refine q_aload_n C dX8_joinFits_35 rfl (j := 1) rfl ?_
  refine q_ci (q_runV (As := []) (st := []) C (c_X5_length l D cA lo h.2) (cwV 0 C.2.2.2.2.1 gX8_joinFits_X5_length rfl rfl rfl (by decide +kernel) ⟨Nat.le_of_ble_eq_true rfl, Nat.le_of_ble_eq_true rfl⟩) h.1 (by decide) rfl rfl rfl (Nat.le_of_ble_eq_true rfl) dX8_joinFits_36 ⟨Nat.le_of_ble_eq_true rfl, Nat.le_of_ble_eq_true rfl⟩) (fun r_9 M_z h => ?_)
  refine q_mem h.1 ?_
  have h := h.2
  refine q_aload C dX8_joinFits_39 (j := 0) rfl ?_
  refine q_ci (q_runV (As := []) (st := [.int r_9]) C (c_X5_length l D cA lo h.2) (cwV 0 C.2.2.2.2.1 gX8_joinFits_X5_length rfl rfl rfl (by decide +kernel) ⟨Nat.le_of_ble_eq_true rfl, Nat.le_of_ble_eq_true rfl⟩) h.1 (by decide) rfl rfl rfl (Nat.le_of_ble_eq_true rfl) dX8_joinFits_41 ⟨Nat.le_of_ble_eq_true rfl, Nat.le_of_ble_eq_true rfl⟩) (fun r_10 M_z h => ?_)
  refine q_mem h.1 ?_
  have h := h.2
  refine q_iadd C dX8_joinFits_44 ?_
  refine q_iconst (v := 2) C dX8_joinFits_45 (by decide) ?_
  refine q_isub C dX8_joinFits_46 ?_
  refine q_bipush (v := 12) C dX8_joinFits_47 (by decide) ?_
  refine q_icmp_le (tgt := 54) C dX8_joinFits_49 (by decide) (fun z => ?_) (fun z => ?_)
  · have h := h.1 z
    refine q_iconst (v := 0) C dX8_joinFits_54 (by decide) ?_
    refine q_istore (lv' := [(5, .int 0), (4, .ref r_8), (3, .ref r_4), (0, .ref a0), (1, .int i1), (2, .int i2)]) C dX8_joinFits_55 (by decide) rfl ?_
    exact q_sub [4, 5, 2, 1, 0] rfl h
  · have h := h.2 z
    refine q_iconst (v := 0) C dX8_joinFits_52 (by decide) ?_
    exact q_zret C hr hlk dX8_joinFits_53 (Nat.le_of_ble_eq_true rfl) (Nat.le_of_ble_eq_true rfl) (Or.inl rfl) ⟨rfl, h⟩
def T_X8_join (Cc Zz : Nat) (M : Mm) (a0 : Nat) (i1 : Int32) (i2 : Int32) (Q : Int32 → Mm → Prop) (X : String → Mm → Prop) : Prop := ∃ dc_3 ds_3 : Nat, (0 + dc_3 ≤ Cc ∧ 0 + ds_3 ≤ Zz) ∧ kM M a0 = (8, 8) ∧ T_X8_needPoints dc_3 ds_3 M a0 i1 i2 (fun M_2 => kM M_2 a0 = (8, 8) ∧ ∃ a_4 : Nat, rM M_2 a0 1 = some a_4 ∧ ((0 + dc_3) ≤ Cc ∧ (0 + ds_3) ≤ Zz) ∧ kM M_2 a_4 = (1, 5) ∧ T_X1_isInner M_2 a_4 i1 i2 (fun r_5 => ∃ dc_8 ds_8 : Nat, ((0 + dc_3) + dc_8 ≤ Cc ∧ (0 + ds_3) + ds_8 ≤ Zz) ∧ T_X8_needArgument dc_8 ds_8 M_2 r_5 (fun M_7 => (((0 + dc_3) + dc_8) ≤ Cc ∧ ((0 + ds_3) + ds_8) ≤ Zz) ∧ kM M_7 a0 = (8, 8) ∧ T_X8_joinFits M_7 a0 i1 i2 (fun r_9 => ∃ dc_12 ds_12 : Nat, (((0 + dc_3) + dc_8) + dc_12 ≤ Cc ∧ ((0 + ds_3) + ds_8) + ds_12 ≤ Zz) ∧ T_X8_needState dc_12 ds_12 M_7 r_9 (fun M_11 => kM M_11 a0 = (8, 8) ∧ ∃ a_13 : Nat, rM M_11 a0 1 = some a_13 ∧ ((((0 + dc_3) + dc_8) + dc_12) ≤ Cc ∧ (((0 + ds_3) + ds_8) + ds_12) ≤ Zz) ∧ kM M_11 a_13 = (1, 5) ∧ T_X1_owner M_11 a_13 i1 i2 (fun r_14 => kM M_11 a0 = (8, 8) ∧ ∃ a_15 : Nat, rM M_11 a0 1 = some a_15 ∧ ((((0 + dc_3) + dc_8) + dc_12) ≤ Cc ∧ (((0 + ds_3) + ds_8) + ds_12) ≤ Zz) ∧ kM M_11 a_15 = (1, 5) ∧ T_X1_owner M_11 a_15 i2 i1 (fun r_16 => kM M_11 a0 = (8, 8) ∧ ∃ a_17 : Nat, rM M_11 a0 1 = some a_17 ∧ ((((0 + dc_3) + dc_8) + dc_12) ≤ Cc ∧ (((0 + ds_3) + ds_8) + ds_12) ≤ Zz) ∧ kM M_11 a_17 = (1, 5) ∧ T_X1_ring M_11 a_17 r_14 (fun r_18 => kM M_11 a0 = (8, 8) ∧ ∃ a_19 : Nat, rM M_11 a0 1 = some a_19 ∧ ((((0 + dc_3) + dc_8) + dc_12) ≤ Cc ∧ (((0 + ds_3) + ds_8) + ds_12) ≤ Zz) ∧ kM M_11 a_19 = (1, 5) ∧ T_X1_ring M_11 a_19 r_16 (fun r_20 => kM M_11 a0 = (8, 8) ∧ ∃ a_21 : Nat, rM M_11 a0 6 = some a_21 ∧ ((((0 + dc_3) + dc_8) + dc_12) ≤ Cc ∧ (((0 + ds_3) + ds_8) + ds_12) ≤ Zz) ∧ kM M_11 a_21 = (5, 2) ∧ T_X5_clear M_11 a_21 (fun M_23 => kM M_23 a0 = (8, 8) ∧ ∃ a_24 : Nat, rM M_23 a0 6 = some a_24 ∧ ((((0 + dc_3) + dc_8) + dc_12) ≤ Cc ∧ (((0 + ds_3) + ds_8) + ds_12) ≤ Zz) ∧ kM M_23 r_18 = (5, 2) ∧ T_X5_placeOf M_23 r_18 i2 (fun r_25 => ((((0 + dc_3) + dc_8) + dc_12) ≤ Cc ∧ (((0 + ds_3) + ds_8) + ds_12) ≤ Zz) ∧ kM M_23 r_18 = (5, 2) ∧ T_X5_length M_23 r_18 (fun r_26 => ((((0 + dc_3) + dc_8) + dc_12) ≤ Cc ∧ (((0 + ds_3) + ds_8) + ds_12) ≤ Zz) ∧ kM M_23 a_24 = (5, 2) ∧ T_X5_addStretch M_23 a_24 r_18 r_25 r_26 (fun M_28 => kM M_28 a0 = (8, 8) ∧ ∃ a_29 : Nat, rM M_28 a0 6 = some a_29 ∧ ((((0 + dc_3) + dc_8) + dc_12) ≤ Cc ∧ (((0 + ds_3) + ds_8) + ds_12) ≤ Zz) ∧ kM M_28 r_20 = (5, 2) ∧ T_X5_placeOf M_28 r_20 i1 (fun r_30 => ((((0 + dc_3) + dc_8) + dc_12) ≤ Cc ∧ (((0 + ds_3) + ds_8) + ds_12) ≤ Zz) ∧ kM M_28 r_20 = (5, 2) ∧ T_X5_length M_28 r_20 (fun r_31 => ((((0 + dc_3) + dc_8) + dc_12) ≤ Cc ∧ (((0 + ds_3) + ds_8) + ds_12) ≤ Zz) ∧ kM M_28 a_29 = (5, 2) ∧ T_X5_addStretch M_28 a_29 r_20 (r_30 + 1) (r_31 - 2) (fun M_33 => kM M_33 a0 = (8, 8) ∧ ∃ a_34 : Nat, rM M_33 a0 1 = some a_34 ∧ ((((0 + dc_3) + dc_8) + dc_12) ≤ Cc ∧ (((0 + ds_3) + ds_8) + ds_12) ≤ Zz) ∧ kM M_33 a_34 = (1, 5) ∧ T_X1_drop M_33 a_34 r_16 (fun M_36 => kM M_36 a0 = (8, 8) ∧ ∃ a_37 : Nat, rM M_36 a0 1 = some a_37 ∧ kM M_36 a0 = (8, 8) ∧ ∃ a_38 : Nat, rM M_36 a0 6 = some a_38 ∧ ((((0 + dc_3) + dc_8) + dc_12) ≤ Cc ∧ (((0 + ds_3) + ds_8) + ds_12) ≤ Zz) ∧ kM M_36 a_37 = (1, 5) ∧ T_X1_reshape M_36 a_37 r_14 a_38 (fun M_40 => (((0 + dc_3) + dc_8) + dc_12) ≤ Cc ∧ (((0 + ds_3) + ds_8) + ds_12) ≤ Zz ∧ Q r_14 M_40)))))))))))))) X)) X)) X
theorem inX8_join_X8 : ∀ w ∈ wsX80, w ∈ wsX8_join := by decide +kernel
set_option maxRecDepth 100000 in
set_option maxHeartbeats 4000000 in
theorem c_X8_join (l : Launch) (hl : l.stackTraces = false) (D : va_G) (cA : Nat → ClassId) (lo : Nat) {M : Mm} {a0 : Nat} {i1 : Int32} {i2 : Int32} {Cc Zz : Nat} {Q : Int32 → Mm → Prop} {X : String → Mm → Prop} (h : T_X8_join Cc Zz M a0 i1 i2 Q X) : vx_Met l yX8_join wsX8_join ({ frames := 8, cells := Cc, slots := Zz, locals := 133 } : Room) (PcM D cA lo [.ref a0, .int i1, .int i2] M) (QiM D cA lo Q) (XcM D cA lo X) Cc Zz (fun q => lo ≤ q) := by
  refine q_startX (cc := cX8_join) (nL := 7) (ret := (some .int)) (by decide) rfl rfl (Nat.le_of_ble_eq_true rfl) ?_
  intro p e s m args below meth c C hr hlk hin hex
  unfold T_X8_join at h
  refine q_aload_n C dX8_join_0 rfl (j := 0) rfl ?_
  refine q_iload_n C dX8_join_1 rfl (j := 1) rfl ?_
  refine q_iload_n C dX8_join_2 rfl (j := 2) rfl ?_
  obtain ⟨dc_3, ds_3, hcz, h⟩ := h
  refine q_xv (qx_runV (As := [.int i1, .int i2]) (st := []) C (c_X8_needPoints l hl D cA lo h.2) (cwV 2 C.2.2.2.2.1 gX8_join_X8_needPoints rfl rfl rfl (by decide +kernel) ⟨Nat.le_of_ble_eq_true rfl, Nat.le_of_ble_eq_true rfl⟩) h.1 (by decide) rfl rfl rfl (Nat.le_of_ble_eq_true rfl) dX8_join_3 hcz) (fun E M_x h => ?_) (fun M_2 h => ?_)
  · exact q_xout (fun x hx => hex x hx _) hlk hcz.1 hcz.2 h
  · refine q_aload_n C dX8_join_6 rfl (j := 0) rfl ?_
    refine q_getR (ci := 8) (k0 := 1) (T := TX8) C inX8_join_X8 rfl (by decide) h.1 (by decide) rfl (by decide +kernel) rfl dX8_join_7 ?_
    obtain ⟨a_4, z, h⟩ := h.2
    refine q_ref z ?_
    refine q_iload_n C dX8_join_10 rfl (j := 1) rfl ?_
    refine q_iload_n C dX8_join_11 rfl (j := 2) rfl ?_
    have hcz := h.1
    have h := h.2
    refine q_ci (q_runV (As := [.int i1, .int i2]) (st := []) C (c_X1_isInner l D cA lo h.2) (cwV 2 C.2.2.2.2.1 gX8_join_X1_isInner rfl rfl rfl (by decide +kernel) ⟨Nat.le_of_ble_eq_true rfl, Nat.le_of_ble_eq_true rfl⟩) h.1 (by decide) rfl rfl rfl (Nat.le_of_ble_eq_true rfl) dX8_join_12 ⟨Nat.le_trans (Nat.le_of_eq (Nat.add_zero _)) hcz.1, Nat.le_trans (Nat.le_of_eq (Nat.add_zero _)) hcz.2⟩) (fun r_5 M_z h => ?_)
    refine q_mem h.1 ?_
    have h := h.2
    obtain ⟨dc_8, ds_8, hcz, h⟩ := h
    refine q_xv (qx_runS (As := [.int r_5]) (st := []) C (c_X8_needArgument l hl D cA lo h) (va_cwS 1 C.2.2.2.2.1 gX8_join_X8_needArgument rfl rfl rfl (by decide +kernel) ⟨Nat.le_of_ble_eq_true rfl, Nat.le_of_ble_eq_true rfl⟩) rfl rfl (Nat.le_of_ble_eq_true rfl) dX8_join_15 hcz) (fun E M_x h => ?_) (fun M_7 h => ?_)
    · exact q_xout (fun x hx => hex x hx _) hlk hcz.1 hcz.2 h
    · refine q_aload_n C dX8_join_18 rfl (j := 0) rfl ?_
      refine q_iload_n C dX8_join_19 rfl (j := 1) rfl ?_
      refine q_iload_n C dX8_join_20 rfl (j := 2) rfl ?_
      have hcz := h.1
      have h := h.2
      refine q_ci (q_runV (As := [.int i1, .int i2]) (st := []) C (c_X8_joinFits l D cA lo h.2) (cwV 2 C.2.2.2.2.1 gX8_join_X8_joinFits rfl rfl rfl (by decide +kernel) ⟨Nat.le_of_ble_eq_true rfl, Nat.le_of_ble_eq_true rfl⟩) h.1 (by decide) rfl rfl rfl (Nat.le_of_ble_eq_true rfl) dX8_join_21 ⟨Nat.le_trans (Nat.le_of_eq (Nat.add_zero _)) hcz.1, Nat.le_trans (Nat.le_of_eq (Nat.add_zero _)) hcz.2⟩) (fun r_9 M_z h => ?_)
      refine q_mem h.1 ?_
      have h := h.2
      obtain ⟨dc_12, ds_12, hcz, h⟩ := h
      refine q_xv (qx_runS (As := [.int r_9]) (st := []) C (c_X8_needState l hl D cA lo h) (va_cwS 1 C.2.2.2.2.1 gX8_join_X8_needState rfl rfl rfl (by decide +kernel) ⟨Nat.le_of_ble_eq_true rfl, Nat.le_of_ble_eq_true rfl⟩) rfl rfl (Nat.le_of_ble_eq_true rfl) dX8_join_24 hcz) (fun E M_x h => ?_) (fun M_11 h => ?_)
      · exact q_xout (fun x hx => hex x hx _) hlk hcz.1 hcz.2 h
      · refine q_aload_n C dX8_join_27 rfl (j := 0) rfl ?_
        refine q_getR (ci := 8) (k0 := 1) (T := TX8) C inX8_join_X8 rfl (by decide) h.1 (by decide) rfl (by decide +kernel) rfl dX8_join_28 ?_
        obtain ⟨a_13, z, h⟩ := h.2
        refine q_ref z ?_
        refine q_iload_n C dX8_join_31 rfl (j := 1) rfl ?_
        refine q_iload_n C dX8_join_32 rfl (j := 2) rfl ?_
        have hcz := h.1
        have h := h.2
        refine q_ci (q_runV (As := [.int i1, .int i2]) (st := []) C (c_X1_owner l D cA lo h.2) (cwV 2 C.2.2.2.2.1 gX8_join_X1_owner rfl rfl rfl (by decide +kernel) ⟨Nat.le_of_ble_eq_true rfl, Nat.le_of_ble_eq_true rfl⟩) h.1 (by decide) rfl rfl rfl (Nat.le_of_ble_eq_true rfl) dX8_join_33 ⟨Nat.le_trans (Nat.le_of_eq (Nat.add_zero _)) hcz.1, Nat.le_trans (Nat.le_of_eq (Nat.add_zero _)) hcz.2⟩) (fun r_14 M_z h => ?_)
        refine q_mem h.1 ?_
        have h := h.2
        refine q_istore_n (lv' := [(3, .int r_14), (0, .ref a0), (1, .int i1), (2, .int i2)]) C dX8_join_36 rfl (by decide) rfl ?_
        refine q_aload_n C dX8_join_37 rfl (j := 1) rfl ?_
        refine q_getR (ci := 8) (k0 := 1) (T := TX8) C inX8_join_X8 rfl (by decide) h.1 (by decide) rfl (by decide +kernel) rfl dX8_join_38 ?_
        obtain ⟨a_15, z, h⟩ := h.2
        refine q_ref z ?_
        refine q_iload_n C dX8_join_41 rfl (j := 3) rfl ?_
        refine q_iload_n C dX8_join_42 rfl (j := 2) rfl ?_
        have hcz := h.1
        have h := h.2
        refine q_ci (q_runV (As := [.int i2, .int i1]) (st := []) C (c_X1_owner l D cA lo h.2) (cwV 2 C.2.2.2.2.1 gX8_join_X1_owner rfl rfl rfl (by decide +kernel) ⟨Nat.le_of_ble_eq_true rfl, Nat.le_of_ble_eq_true rfl⟩) h.1 (by decide) rfl rfl rfl (Nat.le_of_ble_eq_true rfl) dX8_join_43 ⟨Nat.le_trans (Nat.le_of_eq (Nat.add_zero _)) hcz.1, Nat.le_trans (Nat.le_of_eq (Nat.add_zero _)) hcz.2⟩) (fun r_16 M_z h => ?_)
        refine q_mem h.1 ?_
        have h := h.2
        refine q_istore (lv' := [(4, .int r_16), (3, .int r_14), (0, .ref a0), (1, .int i1), (2, .int i2)]) C dX8_join_46 (by decide) rfl ?_
        refine q_aload_n C dX8_join_48 rfl (j := 2) rfl ?_
        refine q_getR (ci := 8) (k0 := 1) (T := TX8) C inX8_join_X8 rfl (by decide) h.1 (by decide) rfl (by decide +kernel) rfl dX8_join_49 ?_
        obtain ⟨a_17, z, h⟩ := h.2
        refine q_ref z ?_
        refine q_iload_n C dX8_join_52 rfl (j := 1) rfl ?_
        have hcz := h.1
        have h := h.2
        refine q_cr (q_runV (As := [.int r_14]) (st := []) C (c_X1_ring l D cA lo h.2) (cwV 1 C.2.2.2.2.1 gX8_join_X1_ring rfl rfl rfl (by decide +kernel) ⟨Nat.le_of_ble_eq_true rfl, Nat.le_of_ble_eq_true rfl⟩) h.1 (by decide) rfl rfl rfl (Nat.le_of_ble_eq_true rfl) dX8_join_53 ⟨Nat.le_trans (Nat.le_of_eq (Nat.add_zero _)) hcz.1, Nat.le_trans (Nat.le_of_eq (Nat.add_zero _)) hcz.2⟩) (fun r_18 M_z h => ?_)
        refine q_mem h.1 ?_
        have h := h.2
        refine q_astore (lv' := [(5, .ref r_18), (4, .int r_16), (3, .int r_14), (0, .ref a0), (1, .int i1), (2, .int i2)]) C dX8_join_56 (by decide) rfl ?_
        refine q_aload_n C dX8_join_58 rfl (j := 3) rfl ?_
        refine q_getR (ci := 8) (k0 := 1) (T := TX8) C inX8_join_X8 rfl (by decide) h.1 (by decide) rfl (by decide +kernel) rfl dX8_join_59 ?_
        obtain ⟨a_19, z, h⟩ := h.2
        refine q_ref z ?_
        refine q_iload C dX8_join_62 (j := 1) rfl ?_
        have hcz := h.1
        have h := h.2
        refine q_cr (q_runV (As := [.int r_16]) (st := []) C (c_X1_ring l D cA lo h.2) (cwV 1 C.2.2.2.2.1 gX8_join_X1_ring rfl rfl rfl (by decide +kernel) ⟨Nat.le_of_ble_eq_true rfl, Nat.le_of_ble_eq_true rfl⟩) h.1 (by decide) rfl rfl rfl (Nat.le_of_ble_eq_true rfl) dX8_join_64 ⟨Nat.le_trans (Nat.le_of_eq (Nat.add_zero _)) hcz.1, Nat.le_trans (Nat.le_of_eq (Nat.add_zero _)) hcz.2⟩) (fun r_20 M_z h => ?_)
        refine q_mem h.1 ?_
        have h := h.2
        refine q_astore (lv' := [(6, .ref r_20), (5, .ref r_18), (4, .int r_16), (3, .int r_14), (0, .ref a0), (1, .int i1), (2, .int i2)]) C dX8_join_67 (by decide) rfl ?_
        refine q_aload_n C dX8_join_69 rfl (j := 4) rfl ?_
        refine q_getR (ci := 8) (k0 := 6) (T := TX8) C inX8_join_X8 rfl (by decide) h.1 (by decide) rfl (by decide +kernel) rfl dX8_join_70 ?_
        obtain ⟨a_21, z, h⟩ := h.2
        refine q_ref z ?_
        have hcz := h.1
        have h := h.2
        refine q_cv (q_runV (As := []) (st := []) C (c_X5_clear l D cA lo h.2) (cwV 0 C.2.2.2.2.1 gX8_join_X5_clear rfl rfl rfl (by decide +kernel) ⟨Nat.le_of_ble_eq_true rfl, Nat.le_of_ble_eq_true rfl⟩) h.1 (by decide) rfl rfl rfl (Nat.le_of_ble_eq_true rfl) dX8_join_73 ⟨Nat.le_trans (Nat.le_of_eq (Nat.add_zero _)) hcz.1, Nat.le_trans (Nat.le_of_eq (Nat.add_zero _)) hcz.2⟩) (fun M_23 h => ?_)
        refine q_aload_n C dX8_join_76 rfl (j := 4) rfl ?_
        refine q_getR (ci := 8) (k0 := 6) (T := TX8) C inX8_join_X8 rfl (by decide) h.1 (by decide) rfl (by decide +kernel) rfl dX8_join_77 ?_
        obtain ⟨a_24, z, h⟩ := h.2
        refine q_ref z ?_
        refine q_aload C dX8_join_80 (j := 1) rfl ?_
        refine q_aload C dX8_join_82 (j := 1) rfl ?_
        refine q_iload_n C dX8_join_84 rfl (j := 6) rfl ?_
        have hcz := h.1
        have h := h.2
        refine q_ci (q_runV (As := [.int i2]) (st := [.ref r_18, .ref a_24]) C (c_X5_placeOf l D cA lo h.2) (cwV 1 C.2.2.2.2.1 gX8_join_X5_placeOf rfl rfl rfl (by decide +kernel) ⟨Nat.le_of_ble_eq_true rfl, Nat.le_of_ble_eq_true rfl⟩) h.1 (by decide) rfl rfl rfl (Nat.le_of_ble_eq_true rfl) dX8_join_85 ⟨Nat.le_trans (Nat.le_of_eq (Nat.add_zero _)) hcz.1, Nat.le_trans (Nat.le_of_eq (Nat.add_zero _)) hcz.2⟩) (fun r_25 M_z h => ?_)
        refine q_mem h.1 ?_
        have h := h.2
        refine q_aload C dX8_join_88 (j := 1) rfl ?_
        have hcz := h.1
        have h := h.2
        refine q_ci (q_runV (As := []) (st := [.int r_25, .ref r_18, .ref a_24]) C (c_X5_length l D cA lo h.2) (cwV 0 C.2.2.2.2.1 gX8_join_X5_length rfl rfl rfl (by decide +kernel) ⟨Nat.le_of_ble_eq_true rfl, Nat.le_of_ble_eq_true rfl⟩) h.1 (by decide) rfl rfl rfl (Nat.le_of_ble_eq_true rfl) dX8_join_90 ⟨Nat.le_trans (Nat.le_of_eq (Nat.add_zero _)) hcz.1, Nat.le_trans (Nat.le_of_eq (Nat.add_zero _)) hcz.2⟩) (fun r_26 M_z h => ?_)
        refine q_mem h.1 ?_
        have h := h.2
        have hcz := h.1
        have h := h.2
        refine q_cv (q_runV (As := [.ref r_18, .int r_25, .int r_26]) (st := []) C (c_X5_addStretch l D cA lo h.2) (cwV 3 C.2.2.2.2.1 gX8_join_X5_addStretch rfl rfl rfl (by decide +kernel) ⟨Nat.le_of_ble_eq_true rfl, Nat.le_of_ble_eq_true rfl⟩) h.1 (by decide) rfl rfl rfl (Nat.le_of_ble_eq_true rfl) dX8_join_93 ⟨Nat.le_trans (Nat.le_of_eq (Nat.add_zero _)) hcz.1, Nat.le_trans (Nat.le_of_eq (Nat.add_zero _)) hcz.2⟩) (fun M_28 h => ?_)
        refine q_aload_n C dX8_join_96 rfl (j := 4) rfl ?_
        refine q_getR (ci := 8) (k0 := 6) (T := TX8) C inX8_join_X8 rfl (by decide) h.1 (by decide) rfl (by decide +kernel) rfl dX8_join_97 ?_
        obtain ⟨a_29, z, h⟩ := h.2
        refine q_ref z ?_
        refine q_aload C dX8_join_100 (j := 0) rfl ?_
        refine q_aload C dX8_join_102 (j := 0) rfl ?_
        refine q_iload_n C dX8_join_104 rfl (j := 5) rfl ?_
        have hcz := h.1
        have h := h.2
        refine q_ci (q_runV (As := [.int i1]) (st := [.ref r_20, .ref a_29]) C (c_X5_placeOf l D cA lo h.2) (cwV 1 C.2.2.2.2.1 gX8_join_X5_placeOf rfl rfl rfl (by decide +kernel) ⟨Nat.le_of_ble_eq_true rfl, Nat.le_of_ble_eq_true rfl⟩) h.1 (by decide) rfl rfl rfl (Nat.le_of_ble_eq_true rfl) dX8_join_105 ⟨Nat.le_trans (Nat.le_of_eq (Nat.add_zero _)) hcz.1, Nat.le_trans (Nat.le_of_eq (Nat.add_zero _)) hcz.2⟩) (fun r_30 M_z h => ?_)
        refine q_mem h.1 ?_
        have h := h.2
        refine q_iconst (v := 1) C dX8_join_108 (by decide) ?_
        refine q_iadd C dX8_join_109 ?_
        refine q_aload C dX8_join_110 (j := 0) rfl ?_
        have hcz := h.1
        have h := h.2
        refine q_ci (q_runV (As := []) (st := [.int (r_30 + 1), .ref r_20, .ref a_29]) C (c_X5_length l D cA lo h.2) (cwV 0 C.2.2.2.2.1 gX8_join_X5_length rfl rfl rfl (by decide +kernel) ⟨Nat.le_of_ble_eq_true rfl, Nat.le_of_ble_eq_true rfl⟩) h.1 (by decide) rfl rfl rfl (Nat.le_of_ble_eq_true rfl) dX8_join_112 ⟨Nat.le_trans (Nat.le_of_eq (Nat.add_zero _)) hcz.1, Nat.le_trans (Nat.le_of_eq (Nat.add_zero _)) hcz.2⟩) (fun r_31 M_z h => ?_)
        refine q_mem h.1 ?_
        have h := h.2
        refine q_iconst (v := 2) C dX8_join_115 (by decide) ?_
        refine q_isub C dX8_join_116 ?_
        have hcz := h.1
        have h := h.2
        refine q_cv (q_runV (As := [.ref r_20, .int (r_30 + 1), .int (r_31 - 2)]) (st := []) C (c_X5_addStretch l D cA lo h.2) (cwV 3 C.2.2.2.2.1 gX8_join_X5_addStretch rfl rfl rfl (by decide +kernel) ⟨Nat.le_of_ble_eq_true rfl, Nat.le_of_ble_eq_true rfl⟩) h.1 (by decide) rfl rfl rfl (Nat.le_of_ble_eq_true rfl) dX8_join_117 ⟨Nat.le_trans (Nat.le_of_eq (Nat.add_zero _)) hcz.1, Nat.le_trans (Nat.le_of_eq (Nat.add_zero _)) hcz.2⟩) (fun M_33 h => ?_)
        refine q_aload_n C dX8_join_120 rfl (j := 4) rfl ?_
        refine q_getR (ci := 8) (k0 := 1) (T := TX8) C inX8_join_X8 rfl (by decide) h.1 (by decide) rfl (by decide +kernel) rfl dX8_join_121 ?_
        obtain ⟨a_34, z, h⟩ := h.2
        refine q_ref z ?_
        refine q_iload C dX8_join_124 (j := 2) rfl ?_
        have hcz := h.1
        have h := h.2
        refine q_cv (q_runV (As := [.int r_16]) (st := []) C (c_X1_drop l D cA lo h.2) (cwV 1 C.2.2.2.2.1 gX8_join_X1_drop rfl rfl rfl (by decide +kernel) ⟨Nat.le_of_ble_eq_true rfl, Nat.le_of_ble_eq_true rfl⟩) h.1 (by decide) rfl rfl rfl (Nat.le_of_ble_eq_true rfl) dX8_join_126 ⟨Nat.le_trans (Nat.le_of_eq (Nat.add_zero _)) hcz.1, Nat.le_trans (Nat.le_of_eq (Nat.add_zero _)) hcz.2⟩) (fun M_36 h => ?_)
        refine q_aload_n C dX8_join_129 rfl (j := 4) rfl ?_
        refine q_getR (ci := 8) (k0 := 1) (T := TX8) C inX8_join_X8 rfl (by decide) h.1 (by decide) rfl (by decide +kernel) rfl dX8_join_130 ?_
        obtain ⟨a_37, z, h⟩ := h.2
        refine q_ref z ?_
        refine q_iload_n C dX8_join_133 rfl (j := 3) rfl ?_
        refine q_aload_n C dX8_join_134 rfl (j := 4) rfl ?_
        refine q_getR (ci := 8) (k0 := 6) (T := TX8) C inX8_join_X8 rfl (by decide) h.1 (by decide) rfl (by decide +kernel) rfl dX8_join_135 ?_
        obtain ⟨a_38, z, h⟩ := h.2
        refine q_ref z ?_
        have hcz := h.1
        have h := h.2
        refine q_cv (q_runV (As := [.int r_14, .ref a_38]) (st := []) C (c_X1_reshape l D cA lo h.2) (cwV 2 C.2.2.2.2.1 gX8_join_X1_reshape rfl rfl rfl (by decide +kernel) ⟨Nat.le_of_ble_eq_true rfl, Nat.le_of_ble_eq_true rfl⟩) h.1 (by decide) rfl rfl rfl (Nat.le_of_ble_eq_true rfl) dX8_join_138 ⟨Nat.le_trans (Nat.le_of_eq (Nat.add_zero _)) hcz.1, Nat.le_trans (Nat.le_of_eq (Nat.add_zero _)) hcz.2⟩) (fun M_40 h => ?_)
        refine q_iload_n C dX8_join_141 rfl (j := 3) rfl ?_
        exact q_xret (q_iret C hr hlk dX8_join_142 h.1 h.2.1 h.2.2)
def T_X8_collapse (Cc Zz : Nat) (M : Mm) (a0 : Nat) (i1 : Int32) (i2 : Int32) (Q : Int32 → Mm → Prop) (X : String → Mm → Prop) : Prop := ∃ dc_3 ds_3 : Nat, (0 + dc_3 ≤ Cc ∧ 0 + ds_3 ≤ Zz) ∧ kM M a0 = (8, 8) ∧ T_X8_needPoints dc_3 ds_3 M a0 i1 i2 (fun M_2 => kM M_2 a0 = (8, 8) ∧ ∃ a_4 : Nat, rM M_2 a0 1 = some a_4 ∧ ((0 + dc_3) ≤ Cc ∧ (0 + ds_3) ≤ Zz) ∧ kM M_2 a_4 = (1, 5) ∧ T_X1_isEdge M_2 a_4 i1 i2 (fun r_5 => ∃ dc_8 ds_8 : Nat, ((0 + dc_3) + dc_8 ≤ Cc ∧ (0 + ds_3) + ds_8 ≤ Zz) ∧ T_X8_needArgument dc_8 ds_8 M_2 r_5 (fun M_7 => kM M_7 a0 = (8, 8) ∧ ∃ a_9 : Nat, rM M_7 a0 3 = some a_9 ∧ (((0 + dc_3) + dc_8) ≤ Cc ∧ ((0 + ds_3) + ds_8) ≤ Zz) ∧ kM M_7 a_9 = (0, 3) ∧ T_X0_fits M_7 a_9 i1 i2 (fun r_10 M_11 => ∃ dc_14 ds_14 : Nat, (((0 + dc_3) + dc_8) + dc_14 ≤ Cc ∧ ((0 + ds_3) + ds_8) + ds_14 ≤ Zz) ∧ T_X8_needState dc_14 ds_14 M_11 r_10 (fun M_13 => kM M_13 a0 = (8, 8) ∧ ∃ a_15 : Nat, rM M_13 a0 3 = some a_15 ∧ ((((0 + dc_3) + dc_8) + dc_14) ≤ Cc ∧ (((0 + ds_3) + ds_8) + ds_14) ≤ Zz) ∧ kM M_13 a_15 = (0, 3) ∧ T_X0_apply M_13 a_15 i1 i2 (fun r_16 M_17 => kM M_17 a0 = (8, 8) ∧ ∃ a_18 : Nat, rM M_17 a0 0 = some a_18 ∧ ((((0 + dc_3) + dc_8) + dc_14) ≤ Cc ∧ (((0 + ds_3) + ds_8) + ds_14) ≤ Zz) ∧ kM M_17 a_18 = (3, 4) ∧ T_X3_drop M_17 a_18 i2 (fun M_20 => (((0 + dc_3) + dc_8) + dc_14) ≤ Cc ∧ (((0 + ds_3) + ds_8) + ds_14) ≤ Zz ∧ Q r_16 M_20))) X)) X)) X
theorem inX8_collapse_X8 : ∀ w ∈ wsX80, w ∈ wsX8_collapse := by decide +kernel
set_option maxRecDepth 100000 in
set_option maxHeartbeats 4000000 in
theorem c_X8_collapse (l : Launch) (hl : l.stackTraces = false) (D : va_G) (cA : Nat → ClassId) (lo : Nat) {M : Mm} {a0 : Nat} {i1 : Int32} {i2 : Int32} {Cc Zz : Nat} {Q : Int32 → Mm → Prop} {X : String → Mm → Prop} (h : T_X8_collapse Cc Zz M a0 i1 i2 Q X) : vx_Met l yX8_collapse wsX8_collapse ({ frames := 8, cells := Cc, slots := Zz, locals := 133 } : Room) (PcM D cA lo [.ref a0, .int i1, .int i2] M) (QiM D cA lo Q) (XcM D cA lo X) Cc Zz (fun q => lo ≤ q) := by
  refine q_startX (cc := cX8_collapse) (nL := 4) (ret := (some .int)) (by decide) rfl rfl (Nat.le_of_ble_eq_true rfl) ?_
  intro p e s m args below meth c C hr hlk hin hex
  unfold T_X8_collapse at h
  refine q_aload_n C dX8_collapse_0 rfl (j := 0) rfl ?_
  refine q_iload_n C dX8_collapse_1 rfl (j := 1) rfl ?_
  refine q_iload_n C dX8_collapse_2 rfl (j := 2) rfl ?_
  obtain ⟨dc_3, ds_3, hcz, h⟩ := h
  refine q_xv (qx_runV (As := [.int i1, .int i2]) (st := []) C (c_X8_needPoints l hl D cA lo h.2) (cwV 2 C.2.2.2.2.1 gX8_collapse_X8_needPoints rfl rfl rfl (by decide +kernel) ⟨Nat.le_of_ble_eq_true rfl, Nat.le_of_ble_eq_true rfl⟩) h.1 (by decide) rfl rfl rfl (Nat.le_of_ble_eq_true rfl) dX8_collapse_3 hcz) (fun E M_x h => ?_) (fun M_2 h => ?_)
  · exact q_xout (fun x hx => hex x hx _) hlk hcz.1 hcz.2 h
  · refine q_aload_n C dX8_collapse_6 rfl (j := 0) rfl ?_
    refine q_getR (ci := 8) (k0 := 1) (T := TX8) C inX8_collapse_X8 rfl (by decide) h.1 (by decide) rfl (by decide +kernel) rfl dX8_collapse_7 ?_
    obtain ⟨a_4, z, h⟩ := h.2
    refine q_ref z ?_
    refine q_iload_n C dX8_collapse_10 rfl (j := 1) rfl ?_
    refine q_iload_n C dX8_collapse_11 rfl (j := 2) rfl ?_
    have hcz := h.1
    have h := h.2
    refine q_ci (q_runV (As := [.int i1, .int i2]) (st := []) C (c_X1_isEdge l D cA lo h.2) (cwV 2 C.2.2.2.2.1 gX8_collapse_X1_isEdge rfl rfl rfl (by decide +kernel) ⟨Nat.le_of_ble_eq_true rfl, Nat.le_of_ble_eq_true rfl⟩) h.1 (by decide) rfl rfl rfl (Nat.le_of_ble_eq_true rfl) dX8_collapse_12 ⟨Nat.le_trans (Nat.le_of_eq (Nat.add_zero _)) hcz.1, Nat.le_trans (Nat.le_of_eq (Nat.add_zero _)) hcz.2⟩) (fun r_5 M_z h => ?_)
    refine q_mem h.1 ?_
    have h := h.2
    obtain ⟨dc_8, ds_8, hcz, h⟩ := h
    refine q_xv (qx_runS (As := [.int r_5]) (st := []) C (c_X8_needArgument l hl D cA lo h) (va_cwS 1 C.2.2.2.2.1 gX8_collapse_X8_needArgument rfl rfl rfl (by decide +kernel) ⟨Nat.le_of_ble_eq_true rfl, Nat.le_of_ble_eq_true rfl⟩) rfl rfl (Nat.le_of_ble_eq_true rfl) dX8_collapse_15 hcz) (fun E M_x h => ?_) (fun M_7 h => ?_)
    · exact q_xout (fun x hx => hex x hx _) hlk hcz.1 hcz.2 h
    · refine q_aload_n C dX8_collapse_18 rfl (j := 0) rfl ?_
      refine q_getR (ci := 8) (k0 := 3) (T := TX8) C inX8_collapse_X8 rfl (by decide) h.1 (by decide) rfl (by decide +kernel) rfl dX8_collapse_19 ?_
      obtain ⟨a_9, z, h⟩ := h.2
      refine q_ref z ?_
      refine q_iload_n C dX8_collapse_22 rfl (j := 1) rfl ?_
      refine q_iload_n C dX8_collapse_23 rfl (j := 2) rfl ?_
      have hcz := h.1
      have h := h.2
      refine q_ci (q_runV (As := [.int i1, .int i2]) (st := []) C (c_X0_fits l D cA lo h.2) (cwV 2 C.2.2.2.2.1 gX8_collapse_X0_fits rfl rfl rfl (by decide +kernel) ⟨Nat.le_of_ble_eq_true rfl, Nat.le_of_ble_eq_true rfl⟩) h.1 (by decide) rfl rfl rfl (Nat.le_of_ble_eq_true rfl) dX8_collapse_24 ⟨Nat.le_trans (Nat.le_of_eq (Nat.add_zero _)) hcz.1, Nat.le_trans (Nat.le_of_eq (Nat.add_zero _)) hcz.2⟩) (fun r_10 M_11 h => ?_)
      obtain ⟨dc_14, ds_14, hcz, h⟩ := h
      refine q_xv (qx_runS (As := [.int r_10]) (st := []) C (c_X8_needState l hl D cA lo h) (va_cwS 1 C.2.2.2.2.1 gX8_collapse_X8_needState rfl rfl rfl (by decide +kernel) ⟨Nat.le_of_ble_eq_true rfl, Nat.le_of_ble_eq_true rfl⟩) rfl rfl (Nat.le_of_ble_eq_true rfl) dX8_collapse_27 hcz) (fun E M_x h => ?_) (fun M_13 h => ?_)
      · exact q_xout (fun x hx => hex x hx _) hlk hcz.1 hcz.2 h
      · refine q_aload_n C dX8_collapse_30 rfl (j := 0) rfl ?_
        refine q_getR (ci := 8) (k0 := 3) (T := TX8) C inX8_collapse_X8 rfl (by decide) h.1 (by decide) rfl (by decide +kernel) rfl dX8_collapse_31 ?_
        obtain ⟨a_15, z, h⟩ := h.2
        refine q_ref z ?_
        refine q_iload_n C dX8_collapse_34 rfl (j := 1) rfl ?_
        refine q_iload_n C dX8_collapse_35 rfl (j := 2) rfl ?_
        have hcz := h.1
        have h := h.2
        refine q_ci (q_runV (As := [.int i1, .int i2]) (st := []) C (c_X0_apply l D cA lo h.2) (cwV 2 C.2.2.2.2.1 gX8_collapse_X0_apply rfl rfl rfl (by decide +kernel) ⟨Nat.le_of_ble_eq_true rfl, Nat.le_of_ble_eq_true rfl⟩) h.1 (by decide) rfl rfl rfl (Nat.le_of_ble_eq_true rfl) dX8_collapse_36 ⟨Nat.le_trans (Nat.le_of_eq (Nat.add_zero _)) hcz.1, Nat.le_trans (Nat.le_of_eq (Nat.add_zero _)) hcz.2⟩) (fun r_16 M_17 h => ?_)
        refine q_istore_n (lv' := [(3, .int r_16), (0, .ref a0), (1, .int i1), (2, .int i2)]) C dX8_collapse_39 rfl (by decide) rfl ?_
        refine q_aload_n C dX8_collapse_40 rfl (j := 1) rfl ?_
        refine q_getR (ci := 8) (k0 := 0) (T := TX8) C inX8_collapse_X8 rfl (by decide) h.1 (by decide) rfl (by decide +kernel) rfl dX8_collapse_41 ?_
        obtain ⟨a_18, z, h⟩ := h.2
        refine q_ref z ?_
        refine q_iload_n C dX8_collapse_44 rfl (j := 3) rfl ?_
        have hcz := h.1
        have h := h.2
        refine q_cv (q_runV (As := [.int i2]) (st := []) C (c_X3_drop l D cA lo h.2) (cwV 1 C.2.2.2.2.1 gX8_collapse_X3_drop rfl rfl rfl (by decide +kernel) ⟨Nat.le_of_ble_eq_true rfl, Nat.le_of_ble_eq_true rfl⟩) h.1 (by decide) rfl rfl rfl (Nat.le_of_ble_eq_true rfl) dX8_collapse_45 ⟨Nat.le_trans (Nat.le_of_eq (Nat.add_zero _)) hcz.1, Nat.le_trans (Nat.le_of_eq (Nat.add_zero _)) hcz.2⟩) (fun M_20 h => ?_)
        refine q_iload_n C dX8_collapse_48 rfl (j := 0) rfl ?_
        exact q_xret (q_iret C hr hlk dX8_collapse_49 h.1 h.2.1 h.2.2)
def T_X8_isBetweenTriangles (M : Mm) (a0 : Nat) (i1 : Int32) (i2 : Int32) (Q : Int32 → Prop) : Prop := kM M a0 = (8, 8) ∧ ∃ a_1 : Nat, rM M a0 1 = some a_1 ∧ kM M a0 = (8, 8) ∧ ∃ a_2 : Nat, rM M a0 1 = some a_2 ∧ kM M a_2 = (1, 5) ∧ T_X1_owner M a_2 i1 i2 (fun r_3 => kM M a_1 = (1, 5) ∧ T_X1_ring M a_1 r_3 (fun r_4 => kM M r_4 = (5, 2) ∧ T_X5_length M r_4 (fun r_5 => (¬ r_5 = 3 → Q 0) ∧ (r_5 = 3 → kM M a0 = (8, 8) ∧ ∃ a_6 : Nat, rM M a0 1 = some a_6 ∧ kM M a0 = (8, 8) ∧ ∃ a_7 : Nat, rM M a0 1 = some a_7 ∧ kM M a_7 = (1, 5) ∧ T_X1_owner M a_7 i2 i1 (fun r_8 => kM M a_6 = (1, 5) ∧ T_X1_ring M a_6 r_8 (fun r_9 => kM M r_9 = (5, 2) ∧ T_X5_length M r_9 (fun r_10 => (¬ r_10 = 3 → Q 0) ∧ (r_10 = 3 → Q 1))))))))
theorem inX8_isBetweenTriangles_X8 : ∀ w ∈ wsX80, w ∈ wsX8_isBetweenTriangles := by decide +kernel
set_option maxRecDepth 100000 in
set_option maxHeartbeats 4000000 in
theorem c_X8_isBetweenTriangles (l : Launch) (D : va_G) (cA : Nat → ClassId) (lo : Nat) {M : Mm} {a0 : Nat} {i1 : Int32} {i2 : Int32} {Q : Int32 → Prop} (h : T_X8_isBetweenTriangles M a0 i1 i2 Q) : Met l yX8_isBetweenTriangles wsX8_isBetweenTriangles ({ frames := 1, cells := 0, slots := 0, locals := 22 } : Room) (PcM D cA lo [.ref a0, .int i1, .int i2] M) (QiM D cA lo (fun r M1 => M1 = M ∧ Q r)) 0 0 (fun q => lo ≤ q) := by
  refine q_start (cc := cX8_isBetweenTriangles) (nL := 3) (ret := (some .boolean)) (by decide) rfl rfl (Nat.le_of_ble_eq_true rfl) ?_
  intro p e s m args below meth c C hr hlk hin
  unfold T_X8_isBetweenTriangles at h
  refine q_aload_n C dX8_isBetweenTriangles_0 rfl (j := 0) rfl ?_
  refine q_getR (ci := 8) (k0 := 1) (T := TX8) C inX8_isBetweenTriangles_X8 rfl (by decide) h.1 (by decide) rfl (by decide +kernel) rfl dX8_isBetweenTriangles_1 ?_
  obtain ⟨a_1, z, h⟩ := h.2
  refine q_ref z ?_
  refine q_aload_n C dX8_isBetweenTriangles_4 rfl (j := 0) rfl ?_
  refine q_getR (ci := 8) (k0 := 1) (T := TX8) C inX8_isBetweenTriangles_X8 rfl (by decide) h.1 (by decide) rfl (by decide +kernel) rfl dX8_isBetweenTriangles_5 ?_
  obtain ⟨a_2, z, h⟩ := h.2
  refine q_ref z ?_
  refine q_iload_n C dX8_isBetweenTriangles_8 rfl (j := 1) rfl ?_
  refine q_iload_n C dX8_isBetweenTriangles_9 rfl (j := 2) rfl ?_
  refine q_ci (q_runV (As := [.int i1, .int i2]) (st := [.ref a_1]) C (c_X1_owner l D cA lo h.2) (cwV 2 C.2.2.2.2.1 gX8_isBetweenTriangles_X1_owner rfl rfl rfl (by decide +kernel) ⟨Nat.le_of_ble_eq_true rfl, Nat.le_of_ble_eq_true rfl⟩) h.1 (by decide) rfl rfl rfl (Nat.le_of_ble_eq_true rfl) dX8_isBetweenTriangles_10 ⟨Nat.le_of_ble_eq_true rfl, Nat.le_of_ble_eq_true rfl⟩) (fun r_3 M_z h => ?_)
  refine q_mem h.1 ?_
  have h := h.2
  refine q_cr (q_runV (As := [.int r_3]) (st := []) C (c_X1_ring l D cA lo h.2) (cwV 1 C.2.2.2.2.1 gX8_isBetweenTriangles_X1_ring rfl rfl rfl (by decide +kernel) ⟨Nat.le_of_ble_eq_true rfl, Nat.le_of_ble_eq_true rfl⟩) h.1 (by decide) rfl rfl rfl (Nat.le_of_ble_eq_true rfl) dX8_isBetweenTriangles_13 ⟨Nat.le_of_ble_eq_true rfl, Nat.le_of_ble_eq_true rfl⟩) (fun r_4 M_z h => ?_)
  refine q_mem h.1 ?_
  have h := h.2
  refine q_ci (q_runV (As := []) (st := []) C (c_X5_length l D cA lo h.2) (cwV 0 C.2.2.2.2.1 gX8_isBetweenTriangles_X5_length rfl rfl rfl (by decide +kernel) ⟨Nat.le_of_ble_eq_true rfl, Nat.le_of_ble_eq_true rfl⟩) h.1 (by decide) rfl rfl rfl (Nat.le_of_ble_eq_true rfl) dX8_isBetweenTriangles_16 ⟨Nat.le_of_ble_eq_true rfl, Nat.le_of_ble_eq_true rfl⟩) (fun r_5 M_z h => ?_)
  refine q_mem h.1 ?_
  have h := h.2
  refine q_iconst (v := 3) C dX8_isBetweenTriangles_19 (by decide) ?_
  refine q_icmp_ne (tgt := 50) C dX8_isBetweenTriangles_20 (by decide) (fun z => ?_) (fun z => ?_)
  · have h := h.1 z
    refine q_iconst (v := 0) C dX8_isBetweenTriangles_50 (by decide) ?_
    exact q_zret C hr hlk dX8_isBetweenTriangles_51 (Nat.le_of_ble_eq_true rfl) (Nat.le_of_ble_eq_true rfl) (Or.inl rfl) ⟨rfl, h⟩
  · have h := h.2 z
    refine q_aload_n C dX8_isBetweenTriangles_23 rfl (j := 0) rfl ?_
    refine q_getR (ci := 8) (k0 := 1) (T := TX8) C inX8_isBetweenTriangles_X8 rfl (by decide) h.1 (by decide) rfl (by decide +kernel) rfl dX8_isBetweenTriangles_24 ?_
    obtain ⟨a_6, z, h⟩ := h.2
    refine q_ref z ?_
    refine q_aload_n C dX8_isBetweenTriangles_27 rfl (j := 0) rfl ?_
    refine q_getR (ci := 8) (k0 := 1) (T := TX8) C inX8_isBetweenTriangles_X8 rfl (by decide) h.1 (by decide) rfl (by decide +kernel) rfl dX8_isBetweenTriangles_28 ?_
    obtain ⟨a_7, z, h⟩ := h.2
    refine q_ref z ?_
    refine q_iload_n C dX8_isBetweenTriangles_31 rfl (j := 2) rfl ?_
    refine q_iload_n C dX8_isBetweenTriangles_32 rfl (j := 1) rfl ?_
    refine q_ci (q_runV (As := [.int i2, .int i1]) (st := [.ref a_6]) C (c_X1_owner l D cA lo h.2) (cwV 2 C.2.2.2.2.1 gX8_isBetweenTriangles_X1_owner rfl rfl rfl (by decide +kernel) ⟨Nat.le_of_ble_eq_true rfl, Nat.le_of_ble_eq_true rfl⟩) h.1 (by decide) rfl rfl rfl (Nat.le_of_ble_eq_true rfl) dX8_isBetweenTriangles_33 ⟨Nat.le_of_ble_eq_true rfl, Nat.le_of_ble_eq_true rfl⟩) (fun r_8 M_z h => ?_)
    refine q_mem h.1 ?_
    have h := h.2
    refine q_cr (q_runV (As := [.int r_8]) (st := []) C (c_X1_ring l D cA lo h.2) (cwV 1 C.2.2.2.2.1 gX8_isBetweenTriangles_X1_ring rfl rfl rfl (by decide +kernel) ⟨Nat.le_of_ble_eq_true rfl, Nat.le_of_ble_eq_true rfl⟩) h.1 (by decide) rfl rfl rfl (Nat.le_of_ble_eq_true rfl) dX8_isBetweenTriangles_36 ⟨Nat.le_of_ble_eq_true rfl, Nat.le_of_ble_eq_true rfl⟩) (fun r_9 M_z h => ?_)
    refine q_mem h.1 ?_
    have h := h.2
    refine q_ci (q_runV (As := []) (st := []) C (c_X5_length l D cA lo h.2) (cwV 0 C.2.2.2.2.1 gX8_isBetweenTriangles_X5_length rfl rfl rfl (by decide +kernel) ⟨Nat.le_of_ble_eq_true rfl, Nat.le_of_ble_eq_true rfl⟩) h.1 (by decide) rfl rfl rfl (Nat.le_of_ble_eq_true rfl) dX8_isBetweenTriangles_39 ⟨Nat.le_of_ble_eq_true rfl, Nat.le_of_ble_eq_true rfl⟩) (fun r_10 M_z h => ?_)
    refine q_mem h.1 ?_
    have h := h.2
    refine q_iconst (v := 3) C dX8_isBetweenTriangles_42 (by decide) ?_
    refine q_icmp_ne (tgt := 50) C dX8_isBetweenTriangles_43 (by decide) (fun z => ?_) (fun z => ?_)
    · have h := h.1 z
      refine q_iconst (v := 0) C dX8_isBetweenTriangles_50 (by decide) ?_
      exact q_zret C hr hlk dX8_isBetweenTriangles_51 (Nat.le_of_ble_eq_true rfl) (Nat.le_of_ble_eq_true rfl) (Or.inl rfl) ⟨rfl, h⟩
    · have h := h.2 z
      refine q_iconst (v := 1) C dX8_isBetweenTriangles_46 (by decide) ?_
      refine q_goto (tgt := 51) C dX8_isBetweenTriangles_47 (by decide) ?_
      exact q_zret C hr hlk dX8_isBetweenTriangles_51 (Nat.le_of_ble_eq_true rfl) (Nat.le_of_ble_eq_true rfl) (Or.inr rfl) ⟨rfl, h⟩
