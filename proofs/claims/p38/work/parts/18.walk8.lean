def T_X8_at (Cc Zz : Nat) (M : Mm) (a0 : Nat) (i1 : Int32) (i2 : Int32) (Q : Int32 → Mm → Prop) (X : String → Mm → Prop) : Prop := ∃ dc_3 ds_3 : Nat, (0 + dc_3 ≤ Cc ∧ 0 + ds_3 ≤ Zz) ∧ kM M a0 = (8, 8) ∧ T_X8_needPoint dc_3 ds_3 M a0 i1 (fun M_2 => ∃ dc_6 ds_6 : Nat, ((0 + dc_3) + dc_6 ≤ Cc ∧ (0 + ds_3) + ds_6 ≤ Zz) ∧ T_X8_needAxis dc_6 ds_6 M_2 i2 (fun M_5 => kM M_5 a0 = (8, 8) ∧ ∃ a_7 : Nat, rM M_5 a0 0 = some a_7 ∧ (((0 + dc_3) + dc_6) ≤ Cc ∧ ((0 + ds_3) + ds_6) ≤ Zz) ∧ kM M_5 a_7 = (3, 4) ∧ T_X3_get M_5 a_7 i1 i2 (fun r_8 => ((0 + dc_3) + dc_6) ≤ Cc ∧ ((0 + ds_3) + ds_6) ≤ Zz ∧ Q r_8 M_5)) X) X
theorem inX8_at_X8 : ∀ w ∈ wsX80, w ∈ wsX8_at := by decide +kernel
set_option maxRecDepth 100000 in
set_option maxHeartbeats 4000000 in
theorem c_X8_at (l : Launch) (hl : l.stackTraces = false) (D : va_G) (cA : Nat → ClassId) (lo : Nat) {M : Mm} {a0 : Nat} {i1 : Int32} {i2 : Int32} {Cc Zz : Nat} {Q : Int32 → Mm → Prop} {X : String → Mm → Prop} (h : T_X8_at Cc Zz M a0 i1 i2 Q X) : vx_Met l yX8_at wsX8_at ({ frames := 8, cells := Cc, slots := Zz, locals := 130 } : Room) (PcM D cA lo [.ref a0, .int i1, .int i2] M) (QiM D cA lo Q) (XcM D cA lo X) Cc Zz (fun q => lo ≤ q) := by
  refine q_startX (cc := cX8_at) (nL := 3) (ret := (some .int)) (by decide) rfl rfl (Nat.le_of_ble_eq_true rfl) ?_
  intro p e s m args below meth c C hr hlk hin hex
  unfold T_X8_at at h
  refine q_aload_n C dX8_at_0 rfl (j := 0) rfl ?_
  refine q_iload_n C dX8_at_1 rfl (j := 1) rfl ?_
  obtain ⟨dc_3, ds_3, hcz, h⟩ := h
  refine q_xv (qx_runV (As := [.int i1]) (st := []) C (c_X8_needPoint l hl D cA lo h.2) (cwV 1 C.2.2.2.2.1 gX8_at_X8_needPoint rfl rfl rfl (by decide +kernel) ⟨Nat.le_of_ble_eq_true rfl, Nat.le_of_ble_eq_true rfl⟩) h.1 (by decide) rfl rfl rfl (Nat.le_of_ble_eq_true rfl) dX8_at_2 hcz) (fun E M_x h => ?_) (fun M_2 h => ?_)
  · exact q_xout (fun x hx => hex x hx _) hlk hcz.1 hcz.2 h
  · refine q_iload_n C dX8_at_5 rfl (j := 2) rfl ?_
    obtain ⟨dc_6, ds_6, hcz, h⟩ := h
    refine q_xv (qx_runS (As := [.int i2]) (st := []) C (c_X8_needAxis l hl D cA lo h) (va_cwS 1 C.2.2.2.2.1 gX8_at_X8_needAxis rfl rfl rfl (by decide +kernel) ⟨Nat.le_of_ble_eq_true rfl, Nat.le_of_ble_eq_true rfl⟩) rfl rfl (Nat.le_of_ble_eq_true rfl) dX8_at_6 hcz) (fun E M_x h => ?_) (fun M_5 h => ?_)
    · exact q_xout (fun x hx => hex x hx _) hlk hcz.1 hcz.2 h
    · refine q_aload_n C dX8_at_9 rfl (j := 0) rfl ?_
      refine q_getR (ci := 8) (k0 := 0) (T := TX8) C inX8_at_X8 rfl (by decide) h.1 (by decide) rfl (by decide +kernel) rfl dX8_at_10 ?_
      obtain ⟨a_7, z, h⟩ := h.2
      refine q_ref z ?_
      refine q_iload_n C dX8_at_13 rfl (j := 1) rfl ?_
      refine q_iload_n C dX8_at_14 rfl (j := 2) rfl ?_
      have hcz := h.1
      have h := h.2
      refine q_ci (q_runV (As := [.int i1, .int i2]) (st := []) C (c_X3_get l D cA lo h.2) (cwV 2 C.2.2.2.2.1 gX8_at_X3_get rfl rfl rfl (by decide +kernel) ⟨Nat.le_of_ble_eq_true rfl, Nat.le_of_ble_eq_true rfl⟩) h.1 (by decide) rfl rfl rfl (Nat.le_of_ble_eq_true rfl) dX8_at_15 ⟨Nat.le_trans (Nat.le_of_eq (Nat.add_zero _)) hcz.1, Nat.le_trans (Nat.le_of_eq (Nat.add_zero _)) hcz.2⟩) (fun r_8 M_z h => ?_)
      refine q_mem h.1 ?_
      have h := h.2
      exact q_xret (q_iret C hr hlk dX8_at_18 h.1 h.2.1 h.2.2)
def T_X8_size (Cc Zz : Nat) (M : Mm) (a0 : Nat) (i1 : Int32) (Q : Int32 → Mm → Prop) (X : String → Mm → Prop) : Prop := ∃ dc_3 ds_3 : Nat, (0 + dc_3 ≤ Cc ∧ 0 + ds_3 ≤ Zz) ∧ kM M a0 = (8, 8) ∧ T_X8_needFace dc_3 ds_3 M a0 i1 (fun M_2 => kM M_2 a0 = (8, 8) ∧ ∃ a_4 : Nat, rM M_2 a0 1 = some a_4 ∧ ((0 + dc_3) ≤ Cc ∧ (0 + ds_3) ≤ Zz) ∧ kM M_2 a_4 = (1, 5) ∧ T_X1_ring M_2 a_4 i1 (fun r_5 => ((0 + dc_3) ≤ Cc ∧ (0 + ds_3) ≤ Zz) ∧ kM M_2 r_5 = (5, 2) ∧ T_X5_length M_2 r_5 (fun r_6 => (0 + dc_3) ≤ Cc ∧ (0 + ds_3) ≤ Zz ∧ Q r_6 M_2))) X
theorem inX8_size_X8 : ∀ w ∈ wsX80, w ∈ wsX8_size := by decide +kernel
set_option maxRecDepth 100000 in
set_option maxHeartbeats 4000000 in
theorem c_X8_size (l : Launch) (hl : l.stackTraces = false) (D : va_G) (cA : Nat → ClassId) (lo : Nat) {M : Mm} {a0 : Nat} {i1 : Int32} {Cc Zz : Nat} {Q : Int32 → Mm → Prop} {X : String → Mm → Prop} (h : T_X8_size Cc Zz M a0 i1 Q X) : vx_Met l yX8_size wsX8_size ({ frames := 7, cells := Cc, slots := Zz, locals := 111 } : Room) (PcM D cA lo [.ref a0, .int i1] M) (QiM D cA lo Q) (XcM D cA lo X) Cc Zz (fun q => lo ≤ q) := by
  refine q_startX (cc := cX8_size) (nL := 2) (ret := (some .int)) (by decide) rfl rfl (Nat.le_of_ble_eq_true rfl) ?_
  intro p e s m args below meth c C hr hlk hin hex
  unfold T_X8_size at h
  refine q_aload_n C dX8_size_0 rfl (j := 0) rfl ?_
  refine q_iload_n C dX8_size_1 rfl (j := 1) rfl ?_
  obtain ⟨dc_3, ds_3, hcz, h⟩ := h
  refine q_xv (qx_runV (As := [.int i1]) (st := []) C (c_X8_needFace l hl D cA lo h.2) (cwV 1 C.2.2.2.2.1 gX8_size_X8_needFace rfl rfl rfl (by decide +kernel) ⟨Nat.le_of_ble_eq_true rfl, Nat.le_of_ble_eq_true rfl⟩) h.1 (by decide) rfl rfl rfl (Nat.le_of_ble_eq_true rfl) dX8_size_2 hcz) (fun E M_x h => ?_) (fun M_2 h => ?_)
  · exact q_xout (fun x hx => hex x hx _) hlk hcz.1 hcz.2 h
  · refine q_aload_n C dX8_size_5 rfl (j := 0) rfl ?_
    refine q_getR (ci := 8) (k0 := 1) (T := TX8) C inX8_size_X8 rfl (by decide) h.1 (by decide) rfl (by decide +kernel) rfl dX8_size_6 ?_
    obtain ⟨a_4, z, h⟩ := h.2
    refine q_ref z ?_
    refine q_iload_n C dX8_size_9 rfl (j := 1) rfl ?_
    have hcz := h.1
    have h := h.2
    refine q_cr (q_runV (As := [.int i1]) (st := []) C (c_X1_ring l D cA lo h.2) (cwV 1 C.2.2.2.2.1 gX8_size_X1_ring rfl rfl rfl (by decide +kernel) ⟨Nat.le_of_ble_eq_true rfl, Nat.le_of_ble_eq_true rfl⟩) h.1 (by decide) rfl rfl rfl (Nat.le_of_ble_eq_true rfl) dX8_size_10 ⟨Nat.le_trans (Nat.le_of_eq (Nat.add_zero _)) hcz.1, Nat.le_trans (Nat.le_of_eq (Nat.add_zero _)) hcz.2⟩) (fun r_5 M_z h => ?_)
    refine q_mem h.1 ?_
    have h := h.2
    have hcz := h.1
    have h := h.2
    refine q_ci (q_runV (As := []) (st := []) C (c_X5_length l D cA lo h.2) (cwV 0 C.2.2.2.2.1 gX8_size_X5_length rfl rfl rfl (by decide +kernel) ⟨Nat.le_of_ble_eq_true rfl, Nat.le_of_ble_eq_true rfl⟩) h.1 (by decide) rfl rfl rfl (Nat.le_of_ble_eq_true rfl) dX8_size_13 ⟨Nat.le_trans (Nat.le_of_eq (Nat.add_zero _)) hcz.1, Nat.le_trans (Nat.le_of_eq (Nat.add_zero _)) hcz.2⟩) (fun r_6 M_z h => ?_)
    refine q_mem h.1 ?_
    have h := h.2
    exact q_xret (q_iret C hr hlk dX8_size_16 h.1 h.2.1 h.2.2)
def S_X8_corner_26 (K26 : Mm → Nat → Nat → Prop) (Cc Zz : Nat) (Q : Int32 → Mm → Prop) (X : String → Mm → Prop) (M : Mm)  (cc zz : Nat) : Prop := cc + 1 ≤ Cc ∧ zz + 6 ≤ Zz ∧ X "java/lang/IndexOutOfBoundsException" M
def T_X8_corner (Cc Zz : Nat) (M : Mm) (a0 : Nat) (i1 : Int32) (i2 : Int32) (Q : Int32 → Mm → Prop) (X : String → Mm → Prop) : Prop := ∀ (K26 : Mm → Nat → Nat → Prop), (∀  (M : Mm) (cc zz : Nat), S_X8_corner_26 K26 Cc Zz Q X M  cc zz → K26  M cc zz) → ∃ dc_3 ds_3 : Nat, (0 + dc_3 ≤ Cc ∧ 0 + ds_3 ≤ Zz) ∧ kM M a0 = (8, 8) ∧ T_X8_needFace dc_3 ds_3 M a0 i1 (fun M_2 => kM M_2 a0 = (8, 8) ∧ ∃ a_4 : Nat, rM M_2 a0 1 = some a_4 ∧ ((0 + dc_3) ≤ Cc ∧ (0 + ds_3) ≤ Zz) ∧ kM M_2 a_4 = (1, 5) ∧ T_X1_ring M_2 a_4 i1 (fun r_5 => (i2 < 0 → K26 M_2 (0 + dc_3) (0 + ds_3)) ∧ (¬ i2 < 0 → ((0 + dc_3) ≤ Cc ∧ (0 + ds_3) ≤ Zz) ∧ kM M_2 r_5 = (5, 2) ∧ T_X5_length M_2 r_5 (fun r_6 => (i2 < r_6 → ((0 + dc_3) ≤ Cc ∧ (0 + ds_3) ≤ Zz) ∧ kM M_2 r_5 = (5, 2) ∧ T_X5_get M_2 r_5 i2 (fun r_7 => (0 + dc_3) ≤ Cc ∧ (0 + ds_3) ≤ Zz ∧ Q r_7 M_2)) ∧ (¬ i2 < r_6 → K26 M_2 (0 + dc_3) (0 + ds_3)))))) X
theorem inX8_corner_X8 : ∀ w ∈ wsX80, w ∈ wsX8_corner := by decide +kernel
set_option maxRecDepth 100000 in
set_option maxHeartbeats 4000000 in
theorem b_X8_corner_26 {p : Program} {l : Launch} {e : Env} {s : State} {m : MethodId} {args : Array Value} {below : List Frame} {meth : Method} {c : Code} {D : va_G} {cA : Nat → ClassId} {lo : Nat} (C : Cx p s m args c cX8_corner 4 RX8 wsX8_corner D cA lo) (hr : meth.sig.returnType = (some .int)) (hlk : meth.locks = false) (hl : l.stackTraces = false) (hex : ∀ x ∈ c.exceptionTable.toList, ∀ pc, covers x pc = false) {Q : Int32 → Mm → Prop} {Cc Zz : Nat} {X : String → Mm → Prop} (M : Mm)  (cc zz : Nat) (h : S_X8_corner_26 (fun  (M : Mm) (cc zz : Nat) => QW p l e ({ frames := 7, cells := Cc, slots := Zz, locals := 111 } : Room) s m args below meth c (vx_MQ below (QiM D cA lo Q) (XcM D cA lo X) args s Cc Zz (fun q => lo ≤ q)) 4 D cA lo cc zz M 26 [] []) Cc Zz Q X M  cc zz) : QW p l e ({ frames := 7, cells := Cc, slots := Zz, locals := 111 } : Room) s m args below meth c (vx_MQ below (QiM D cA lo Q) (XcM D cA lo X) args s Cc Zz (fun q => lo ≤ q)) 4 D cA lo cc zz M 26 [] [] := by
  unfold S_X8_corner_26 at h
  exact q_throw (E := "java/lang/IndexOutOfBoundsException") (text := "no such place") C hl hlk (fun x hx => hex x hx _) (List.mem_of_getElem? (i := 3) rfl) (by decide +kernel) (by decide +kernel) (by decide +kernel) (by decide +kernel) (by decide +kernel) (by decide +kernel) (by decide +kernel) dX8_corner_26 dX8_corner_29 dX8_corner_30 dX8_corner_33 dX8_corner_36 ⟨Nat.le_of_ble_eq_true rfl, Nat.le_of_ble_eq_true rfl, h.1, h.2.1⟩ h.1 h.2.1 h.2.2
set_option maxRecDepth 100000 in
set_option maxHeartbeats 4000000 in
theorem c_X8_corner (l : Launch) (hl : l.stackTraces = false) (D : va_G) (cA : Nat → ClassId) (lo : Nat) {M : Mm} {a0 : Nat} {i1 : Int32} {i2 : Int32} {Cc Zz : Nat} {Q : Int32 → Mm → Prop} {X : String → Mm → Prop} (h : T_X8_corner Cc Zz M a0 i1 i2 Q X) : vx_Met l yX8_corner wsX8_corner ({ frames := 7, cells := Cc, slots := Zz, locals := 111 } : Room) (PcM D cA lo [.ref a0, .int i1, .int i2] M) (QiM D cA lo Q) (XcM D cA lo X) Cc Zz (fun q => lo ≤ q) := by
  refine q_startX (cc := cX8_corner) (nL := 4) (ret := (some .int)) (by decide) rfl rfl (Nat.le_of_ble_eq_true rfl) ?_
  intro p e s m args below meth c C hr hlk hin hex
  unfold T_X8_corner at h
  have h := h (fun  (M : Mm) (cc zz : Nat) => QW p l e ({ frames := 7, cells := Cc, slots := Zz, locals := 111 } : Room) s m args below meth c (vx_MQ below (QiM D cA lo Q) (XcM D cA lo X) args s Cc Zz (fun q => lo ≤ q)) 4 D cA lo cc zz M 26 [] []) (fun M cc zz h => b_X8_corner_26 C hr hlk hl hex M  cc zz h)
  refine q_aload_n C dX8_corner_0 rfl (j := 0) rfl ?_
  refine q_iload_n C dX8_corner_1 rfl (j := 1) rfl ?_
  obtain ⟨dc_3, ds_3, hcz, h⟩ := h
  refine q_xv (qx_runV (As := [.int i1]) (st := []) C (c_X8_needFace l hl D cA lo h.2) (cwV 1 C.2.2.2.2.1 gX8_corner_X8_needFace rfl rfl rfl (by decide +kernel) ⟨Nat.le_of_ble_eq_true rfl, Nat.le_of_ble_eq_true rfl⟩) h.1 (by decide) rfl rfl rfl (Nat.le_of_ble_eq_true rfl) dX8_corner_2 hcz) (fun E M_x h => ?_) (fun M_2 h => ?_)
  · exact q_xout (fun x hx => hex x hx _) hlk hcz.1 hcz.2 h
  · refine q_aload_n C dX8_corner_5 rfl (j := 0) rfl ?_
    refine q_getR (ci := 8) (k0 := 1) (T := TX8) C inX8_corner_X8 rfl (by decide) h.1 (by decide) rfl (by decide +kernel) rfl dX8_corner_6 ?_
    obtain ⟨a_4, z, h⟩ := h.2
    refine q_ref z ?_
    refine q_iload_n C dX8_corner_9 rfl (j := 1) rfl ?_
    have hcz := h.1
    have h := h.2
    refine q_cr (q_runV (As := [.int i1]) (st := []) C (c_X1_ring l D cA lo h.2) (cwV 1 C.2.2.2.2.1 gX8_corner_X1_ring rfl rfl rfl (by decide +kernel) ⟨Nat.le_of_ble_eq_true rfl, Nat.le_of_ble_eq_true rfl⟩) h.1 (by decide) rfl rfl rfl (Nat.le_of_ble_eq_true rfl) dX8_corner_10 ⟨Nat.le_trans (Nat.le_of_eq (Nat.add_zero _)) hcz.1, Nat.le_trans (Nat.le_of_eq (Nat.add_zero _)) hcz.2⟩) (fun r_5 M_z h => ?_)
    refine q_mem h.1 ?_
    have h := h.2
    refine q_astore_n (lv' := [(3, .ref r_5), (0, .ref a0), (1, .int i1), (2, .int i2)]) C dX8_corner_13 rfl (by decide) rfl ?_
    refine q_iload_n C dX8_corner_14 rfl (j := 3) rfl ?_
    refine q_if_lt (tgt := 26) C dX8_corner_15 (by decide) (fun z => ?_) (fun z => ?_)
    · have h := h.1 z
      exact q_sub [] rfl h
    · have h := h.2 z
      refine q_iload_n C dX8_corner_18 rfl (j := 3) rfl ?_
      refine q_aload_n C dX8_corner_19 rfl (j := 0) rfl ?_
      have hcz := h.1
      have h := h.2
      refine q_ci (q_runV (As := []) (st := [.int i2]) C (c_X5_length l D cA lo h.2) (cwV 0 C.2.2.2.2.1 gX8_corner_X5_length rfl rfl rfl (by decide +kernel) ⟨Nat.le_of_ble_eq_true rfl, Nat.le_of_ble_eq_true rfl⟩) h.1 (by decide) rfl rfl rfl (Nat.le_of_ble_eq_true rfl) dX8_corner_20 ⟨Nat.le_trans (Nat.le_of_eq (Nat.add_zero _)) hcz.1, Nat.le_trans (Nat.le_of_eq (Nat.add_zero _)) hcz.2⟩) (fun r_6 M_z h => ?_)
      refine q_mem h.1 ?_
      have h := h.2
      refine q_icmp_lt (tgt := 37) C dX8_corner_23 (by decide) (fun z => ?_) (fun z => ?_)
      · have h := h.1 z
        refine q_aload_n C dX8_corner_37 rfl (j := 0) rfl ?_
        refine q_iload_n C dX8_corner_38 rfl (j := 3) rfl ?_
        have hcz := h.1
        have h := h.2
        refine q_ci (q_runV (As := [.int i2]) (st := []) C (c_X5_get l D cA lo h.2) (cwV 1 C.2.2.2.2.1 gX8_corner_X5_get rfl rfl rfl (by decide +kernel) ⟨Nat.le_of_ble_eq_true rfl, Nat.le_of_ble_eq_true rfl⟩) h.1 (by decide) rfl rfl rfl (Nat.le_of_ble_eq_true rfl) dX8_corner_39 ⟨Nat.le_trans (Nat.le_of_eq (Nat.add_zero _)) hcz.1, Nat.le_trans (Nat.le_of_eq (Nat.add_zero _)) hcz.2⟩) (fun r_7 M_z h => ?_)
        refine q_mem h.1 ?_
        have h := h.2
        exact q_xret (q_iret C hr hlk dX8_corner_42 h.1 h.2.1 h.2.2)
      · have h := h.2 z
        exact q_sub [] rfl h
def T_X8_faceOf (Cc Zz : Nat) (M : Mm) (a0 : Nat) (i1 : Int32) (i2 : Int32) (Q : Int32 → Mm → Prop) (X : String → Mm → Prop) : Prop := ∃ dc_3 ds_3 : Nat, (0 + dc_3 ≤ Cc ∧ 0 + ds_3 ≤ Zz) ∧ kM M a0 = (8, 8) ∧ T_X8_needPoints dc_3 ds_3 M a0 i1 i2 (fun M_2 => kM M_2 a0 = (8, 8) ∧ ∃ a_4 : Nat, rM M_2 a0 1 = some a_4 ∧ ((0 + dc_3) ≤ Cc ∧ (0 + ds_3) ≤ Zz) ∧ kM M_2 a_4 = (1, 5) ∧ T_X1_owner M_2 a_4 i1 i2 (fun r_5 => (0 + dc_3) ≤ Cc ∧ (0 + ds_3) ≤ Zz ∧ Q r_5 M_2)) X
theorem inX8_faceOf_X8 : ∀ w ∈ wsX80, w ∈ wsX8_faceOf := by decide +kernel
set_option maxRecDepth 100000 in
set_option maxHeartbeats 4000000 in
theorem c_X8_faceOf (l : Launch) (hl : l.stackTraces = false) (D : va_G) (cA : Nat → ClassId) (lo : Nat) {M : Mm} {a0 : Nat} {i1 : Int32} {i2 : Int32} {Cc Zz : Nat} {Q : Int32 → Mm → Prop} {X : String → Mm → Prop} (h : T_X8_faceOf Cc Zz M a0 i1 i2 Q X) : vx_Met l yX8_faceOf wsX8_faceOf ({ frames := 8, cells := Cc, slots := Zz, locals := 133 } : Room) (PcM D cA lo [.ref a0, .int i1, .int i2] M) (QiM D cA lo Q) (XcM D cA lo X) Cc Zz (fun q => lo ≤ q) := by
  refine q_startX (cc := cX8_faceOf) (nL := 3) (ret := (some .int)) (by decide) rfl rfl (Nat.le_of_ble_eq_true rfl) ?_
  intro p e s m args below meth c C hr hlk hin hex
  unfold T_X8_faceOf at h
  refine q_aload_n C dX8_faceOf_0 rfl (j := 0) rfl ?_
  refine q_iload_n C dX8_faceOf_1 rfl (j := 1) rfl ?_
  refine q_iload_n C dX8_faceOf_2 rfl (j := 2) rfl ?_
  obtain ⟨dc_3, ds_3, hcz, h⟩ := h
  refine q_xv (qx_runV (As := [.int i1, .int i2]) (st := []) C (c_X8_needPoints l hl D cA lo h.2) (cwV 2 C.2.2.2.2.1 gX8_faceOf_X8_needPoints rfl rfl rfl (by decide +kernel) ⟨Nat.le_of_ble_eq_true rfl, Nat.le_of_ble_eq_true rfl⟩) h.1 (by decide) rfl rfl rfl (Nat.le_of_ble_eq_true rfl) dX8_faceOf_3 hcz) (fun E M_x h => ?_) (fun M_2 h => ?_)
  · exact q_xout (fun x hx => hex x hx _) hlk hcz.1 hcz.2 h
  · refine q_aload_n C dX8_faceOf_6 rfl (j := 0) rfl ?_
    refine q_getR (ci := 8) (k0 := 1) (T := TX8) C inX8_faceOf_X8 rfl (by decide) h.1 (by decide) rfl (by decide +kernel) rfl dX8_faceOf_7 ?_
    obtain ⟨a_4, z, h⟩ := h.2
    refine q_ref z ?_
    refine q_iload_n C dX8_faceOf_10 rfl (j := 1) rfl ?_
    refine q_iload_n C dX8_faceOf_11 rfl (j := 2) rfl ?_
    have hcz := h.1
    have h := h.2
    refine q_ci (q_runV (As := [.int i1, .int i2]) (st := []) C (c_X1_owner l D cA lo h.2) (cwV 2 C.2.2.2.2.1 gX8_faceOf_X1_owner rfl rfl rfl (by decide +kernel) ⟨Nat.le_of_ble_eq_true rfl, Nat.le_of_ble_eq_true rfl⟩) h.1 (by decide) rfl rfl rfl (Nat.le_of_ble_eq_true rfl) dX8_faceOf_12 ⟨Nat.le_trans (Nat.le_of_eq (Nat.add_zero _)) hcz.1, Nat.le_trans (Nat.le_of_eq (Nat.add_zero _)) hcz.2⟩) (fun r_5 M_z h => ?_)
    refine q_mem h.1 ?_
    have h := h.2
    exact q_xret (q_iret C hr hlk dX8_faceOf_15 h.1 h.2.1 h.2.2)
def T_X8_hole (Cc Zz : Nat) (M : Mm) (a0 : Nat) (i1 : Int32) (i2 : Int32) (Q : Int32 → Mm → Prop) (X : String → Mm → Prop) : Prop := ∃ dc_3 ds_3 : Nat, (0 + dc_3 ≤ Cc ∧ 0 + ds_3 ≤ Zz) ∧ kM M a0 = (8, 8) ∧ T_X8_needPoints dc_3 ds_3 M a0 i1 i2 (fun M_2 => kM M_2 a0 = (8, 8) ∧ ∃ a_4 : Nat, rM M_2 a0 2 = some a_4 ∧ ((0 + dc_3) ≤ Cc ∧ (0 + ds_3) ≤ Zz) ∧ kM M_2 a_4 = (7, 6) ∧ T_X7_holeLength M_2 a_4 i1 i2 (fun r_5 M_6 => (0 + dc_3) ≤ Cc ∧ (0 + ds_3) ≤ Zz ∧ Q r_5 M_6)) X
theorem inX8_hole_X8 : ∀ w ∈ wsX80, w ∈ wsX8_hole := by decide +kernel
set_option maxRecDepth 100000 in
set_option maxHeartbeats 4000000 in
theorem c_X8_hole (l : Launch) (hl : l.stackTraces = false) (D : va_G) (cA : Nat → ClassId) (lo : Nat) {M : Mm} {a0 : Nat} {i1 : Int32} {i2 : Int32} {Cc Zz : Nat} {Q : Int32 → Mm → Prop} {X : String → Mm → Prop} (h : T_X8_hole Cc Zz M a0 i1 i2 Q X) : vx_Met l yX8_hole wsX8_hole ({ frames := 8, cells := Cc, slots := Zz, locals := 133 } : Room) (PcM D cA lo [.ref a0, .int i1, .int i2] M) (QiM D cA lo Q) (XcM D cA lo X) Cc Zz (fun q => lo ≤ q) := by
  refine q_startX (cc := cX8_hole) (nL := 3) (ret := (some .int)) (by decide) rfl rfl (Nat.le_of_ble_eq_true rfl) ?_
  intro p e s m args below meth c C hr hlk hin hex
  unfold T_X8_hole at h
  refine q_aload_n C dX8_hole_0 rfl (j := 0) rfl ?_
  refine q_iload_n C dX8_hole_1 rfl (j := 1) rfl ?_
  refine q_iload_n C dX8_hole_2 rfl (j := 2) rfl ?_
  obtain ⟨dc_3, ds_3, hcz, h⟩ := h
  refine q_xv (qx_runV (As := [.int i1, .int i2]) (st := []) C (c_X8_needPoints l hl D cA lo h.2) (cwV 2 C.2.2.2.2.1 gX8_hole_X8_needPoints rfl rfl rfl (by decide +kernel) ⟨Nat.le_of_ble_eq_true rfl, Nat.le_of_ble_eq_true rfl⟩) h.1 (by decide) rfl rfl rfl (Nat.le_of_ble_eq_true rfl) dX8_hole_3 hcz) (fun E M_x h => ?_) (fun M_2 h => ?_)
  · exact q_xout (fun x hx => hex x hx _) hlk hcz.1 hcz.2 h
  · refine q_aload_n C dX8_hole_6 rfl (j := 0) rfl ?_
    refine q_getR (ci := 8) (k0 := 2) (T := TX8) C inX8_hole_X8 rfl (by decide) h.1 (by decide) rfl (by decide +kernel) rfl dX8_hole_7 ?_
    obtain ⟨a_4, z, h⟩ := h.2
    refine q_ref z ?_
    refine q_iload_n C dX8_hole_10 rfl (j := 1) rfl ?_
    refine q_iload_n C dX8_hole_11 rfl (j := 2) rfl ?_
    have hcz := h.1
    have h := h.2
    refine q_ci (q_runV (As := [.int i1, .int i2]) (st := []) C (c_X7_holeLength l D cA lo h.2) (cwV 2 C.2.2.2.2.1 gX8_hole_X7_holeLength rfl rfl rfl (by decide +kernel) ⟨Nat.le_of_ble_eq_true rfl, Nat.le_of_ble_eq_true rfl⟩) h.1 (by decide) rfl rfl rfl (Nat.le_of_ble_eq_true rfl) dX8_hole_12 ⟨Nat.le_trans (Nat.le_of_eq (Nat.add_zero _)) hcz.1, Nat.le_trans (Nat.le_of_eq (Nat.add_zero _)) hcz.2⟩) (fun r_5 M_6 h => ?_)
    exact q_xret (q_iret C hr hlk dX8_hole_15 h.1 h.2.1 h.2.2)
def S_X8_sumOfSquares_4 (K4 : Nat → Int64 → Int32 → Prop) (K28 : Nat → Int64 → Int32 → Nat → Int32 → Prop) (Q : Int64 → Prop) (M : Mm) (a0 : Nat) (l1 : Int64) (i3 : Int32) : Prop := kM M a0 = (8, 8) ∧ ∃ a_1 : Nat, rM M a0 1 = some a_1 ∧ kM M a_1 = (1, 5) ∧ T_X1_ever M a_1 (fun r_2 => (r_2 ≤ i3 → Q l1) ∧ (¬ r_2 ≤ i3 → kM M a0 = (8, 8) ∧ ∃ a_3 : Nat, rM M a0 1 = some a_3 ∧ kM M a_3 = (1, 5) ∧ T_X1_ring M a_3 i3 (fun r_4 => K28 a0 l1 i3 r_4 0)))
def S_X8_sumOfSquares_28 (K4 : Nat → Int64 → Int32 → Prop) (K28 : Nat → Int64 → Int32 → Nat → Int32 → Prop) (Q : Int64 → Prop) (M : Mm) (a0 : Nat) (l1 : Int64) (i3 : Int32) (a4 : Nat) (i5 : Int32) : Prop := kM M a4 = (5, 2) ∧ T_X5_length M a4 (fun r_5 => (r_5 ≤ i5 → K4 a0 l1 (i3 + 1)) ∧ (¬ r_5 ≤ i5 → kM M a0 = (8, 8) ∧ ∃ a_6 : Nat, rM M a0 1 = some a_6 ∧ kM M a4 = (5, 2) ∧ T_X5_get M a4 i5 (fun r_7 => kM M a4 = (5, 2) ∧ T_X5_get M a4 (i5 + 1) (fun r_8 => kM M a_6 = (1, 5) ∧ T_X1_isToldBy M a_6 r_7 r_8 (fun r_9 => (r_9 = 0 → K28 a0 l1 i3 a4 (i5 + 1)) ∧ (¬ r_9 = 0 → kM M a0 = (8, 8) ∧ ∃ a_10 : Nat, rM M a0 0 = some a_10 ∧ kM M a4 = (5, 2) ∧ T_X5_get M a4 i5 (fun r_11 => kM M a4 = (5, 2) ∧ T_X5_get M a4 (i5 + 1) (fun r_12 => kM M a_10 = (3, 4) ∧ T_X3_squaredLength M a_10 r_11 r_12 (fun r_13 => K28 a0 (l1 + r_13.toInt64) i3 a4 (i5 + 1))))))))))
def T_X8_sumOfSquares (M : Mm) (a0 : Nat) (Q : Int64 → Prop) : Prop := ∀ (K4 : Nat → Int64 → Int32 → Prop) (K28 : Nat → Int64 → Int32 → Nat → Int32 → Prop), (∀ (a0 : Nat) (l1 : Int64) (i3 : Int32), S_X8_sumOfSquares_4 K4 K28 Q M a0 l1 i3 → K4 a0 l1 i3) → (∀ (a0 : Nat) (l1 : Int64) (i3 : Int32) (a4 : Nat) (i5 : Int32), S_X8_sumOfSquares_28 K4 K28 Q M a0 l1 i3 a4 i5 → K28 a0 l1 i3 a4 i5) → K4 a0 0 0
theorem inX8_sumOfSquares_X8 : ∀ w ∈ wsX80, w ∈ wsX8_sumOfSquares := by decide +kernel
set_option maxRecDepth 100000 in
set_option maxHeartbeats 4000000 in
theorem b_X8_sumOfSquares_4 {p : Program} {l : Launch} {e : Env} {s : State} {m : MethodId} {args : Array Value} {below : List Frame} {meth : Method} {c : Code} {D : va_G} {cA : Nat → ClassId} {lo : Nat} (C : Cx p s m args c cX8_sumOfSquares 6 RX8 wsX8_sumOfSquares D cA lo) (hr : meth.sig.returnType = (some .long)) (hlk : meth.locks = false) {Q : Int64 → Prop} {M : Mm} (a0 : Nat) (l1 : Int64) (i3 : Int32) (h : S_X8_sumOfSquares_4 (fun (a0 : Nat) (l1 : Int64) (i3 : Int32) => QW p l e ({ frames := 3, cells := 0, slots := 0, locals := 67 } : Room) s m args below meth c (MQ below (QlM D cA lo (fun r M1 => M1 = M ∧ Q r)) args s 0 0 (fun q => lo ≤ q)) 6 D cA lo 0 0 M 4 [(0, .ref a0), (1, .long l1), (3, .int i3)] []) (fun (a0 : Nat) (l1 : Int64) (i3 : Int32) (a4 : Nat) (i5 : Int32) => QW p l e ({ frames := 3, cells := 0, slots := 0, locals := 67 } : Room) s m args below meth c (MQ below (QlM D cA lo (fun r M1 => M1 = M ∧ Q r)) args s 0 0 (fun q => lo ≤ q)) 6 D cA lo 0 0 M 28 [(0, .ref a0), (1, .long l1), (3, .int i3), (4, .ref a4), (5, .int i5)] []) Q M a0 l1 i3) : QW p l e ({ frames := 3, cells := 0, slots := 0, locals := 67 } : Room) s m args below meth c (MQ below (QlM D cA lo (fun r M1 => M1 = M ∧ Q r)) args s 0 0 (fun q => lo ≤ q)) 6 D cA lo 0 0 M 4 [(0, .ref a0), (1, .long l1), (3, .int i3)] [] := by
  unfold S_X8_sumOfSquares_4 at h
  refine q_iload_n C dX8_sumOfSquares_4 rfl (j := 2) rfl ?_
  refine q_aload_n C dX8_sumOfSquares_5 rfl (j := 0) rfl ?_
  refine q_getR (ci := 8) (k0 := 1) (T := TX8) C inX8_sumOfSquares_X8 rfl (by decide) h.1 (by decide) rfl (by decide +kernel) rfl dX8_sumOfSquares_6 ?_
  obtain ⟨a_1, z, h⟩ := h.2
  refine q_ref z ?_
  refine q_ci (q_runV (As := []) (st := [.int i3]) C (c_X1_ever l D cA lo h.2) (cwV 0 C.2.2.2.2.1 gX8_sumOfSquares_X1_ever rfl rfl rfl (by decide +kernel) ⟨Nat.le_of_ble_eq_true rfl, Nat.le_of_ble_eq_true rfl⟩) h.1 (by decide) rfl rfl rfl (Nat.le_of_ble_eq_true rfl) dX8_sumOfSquares_9 ⟨Nat.le_of_ble_eq_true rfl, Nat.le_of_ble_eq_true rfl⟩) (fun r_2 M_z h => ?_)
  refine q_mem h.1 ?_
  have h := h.2
  refine q_icmp_ge (tgt := 103) C dX8_sumOfSquares_12 (by decide) (fun z => ?_) (fun z => ?_)
  · have h := h.1 z
    refine q_lload_n C dX8_sumOfSquares_103 rfl (j := 1) rfl ?_
    exact q_lret C hr hlk dX8_sumOfSquares_104 (Nat.le_of_ble_eq_true rfl) (Nat.le_of_ble_eq_true rfl) ⟨rfl, h⟩
  · have h := h.2 z
    refine q_aload_n C dX8_sumOfSquares_15 rfl (j := 0) rfl ?_
    refine q_getR (ci := 8) (k0 := 1) (T := TX8) C inX8_sumOfSquares_X8 rfl (by decide) h.1 (by decide) rfl (by decide +kernel) rfl dX8_sumOfSquares_16 ?_
    obtain ⟨a_3, z, h⟩ := h.2
    refine q_ref z ?_
    refine q_iload_n C dX8_sumOfSquares_19 rfl (j := 2) rfl ?_
    refine q_cr (q_runV (As := [.int i3]) (st := []) C (c_X1_ring l D cA lo h.2) (cwV 1 C.2.2.2.2.1 gX8_sumOfSquares_X1_ring rfl rfl rfl (by decide +kernel) ⟨Nat.le_of_ble_eq_true rfl, Nat.le_of_ble_eq_true rfl⟩) h.1 (by decide) rfl rfl rfl (Nat.le_of_ble_eq_true rfl) dX8_sumOfSquares_20 ⟨Nat.le_of_ble_eq_true rfl, Nat.le_of_ble_eq_true rfl⟩) (fun r_4 M_z h => ?_)
    refine q_mem h.1 ?_
    have h := h.2
    refine q_astore (lv' := [(4, .ref r_4), (0, .ref a0), (1, .long l1), (3, .int i3)]) C dX8_sumOfSquares_23 (by decide) rfl ?_
    refine q_iconst (v := 0) C dX8_sumOfSquares_25 (by decide) ?_
    refine q_istore (lv' := [(5, .int 0), (4, .ref r_4), (0, .ref a0), (1, .long l1), (3, .int i3)]) C dX8_sumOfSquares_26 (by decide) rfl ?_
    exact q_sub [2, 3, 4, 1, 0] rfl h
set_option maxRecDepth 100000 in
set_option maxHeartbeats 4000000 in
theorem b_X8_sumOfSquares_28 {p : Program} {l : Launch} {e : Env} {s : State} {m : MethodId} {args : Array Value} {below : List Frame} {meth : Method} {c : Code} {D : va_G} {cA : Nat → ClassId} {lo : Nat} (C : Cx p s m args c cX8_sumOfSquares 6 RX8 wsX8_sumOfSquares D cA lo) (hr : meth.sig.returnType = (some .long)) (hlk : meth.locks = false) {Q : Int64 → Prop} {M : Mm} (a0 : Nat) (l1 : Int64) (i3 : Int32) (a4 : Nat) (i5 : Int32) (h : S_X8_sumOfSquares_28 (fun (a0 : Nat) (l1 : Int64) (i3 : Int32) => QW p l e ({ frames := 3, cells := 0, slots := 0, locals := 67 } : Room) s m args below meth c (MQ below (QlM D cA lo (fun r M1 => M1 = M ∧ Q r)) args s 0 0 (fun q => lo ≤ q)) 6 D cA lo 0 0 M 4 [(0, .ref a0), (1, .long l1), (3, .int i3)] []) (fun (a0 : Nat) (l1 : Int64) (i3 : Int32) (a4 : Nat) (i5 : Int32) => QW p l e ({ frames := 3, cells := 0, slots := 0, locals := 67 } : Room) s m args below meth c (MQ below (QlM D cA lo (fun r M1 => M1 = M ∧ Q r)) args s 0 0 (fun q => lo ≤ q)) 6 D cA lo 0 0 M 28 [(0, .ref a0), (1, .long l1), (3, .int i3), (4, .ref a4), (5, .int i5)] []) Q M a0 l1 i3 a4 i5) : QW p l e ({ frames := 3, cells := 0, slots := 0, locals := 67 } : Room) s m args below meth c (MQ below (QlM D cA lo (fun r M1 => M1 = M ∧ Q r)) args s 0 0 (fun q => lo ≤ q)) 6 D cA lo 0 0 M 28 [(0, .ref a0), (1, .long l1), (3, .int i3), (4, .ref a4), (5, .int i5)] [] := by
  unfold S_X8_sumOfSquares_28 at h
  refine q_iload C dX8_sumOfSquares_28 (j := 4) rfl ?_
  refine q_aload C dX8_sumOfSquares_30 (j := 3) rfl ?_
  refine q_ci (q_runV (As := []) (st := [.int i5]) C (c_X5_length l D cA lo h.2) (cwV 0 C.2.2.2.2.1 gX8_sumOfSquares_X5_length rfl rfl rfl (by decide +kernel) ⟨Nat.le_of_ble_eq_true rfl, Nat.le_of_ble_eq_true rfl⟩) h.1 (by decide) rfl rfl rfl (Nat.le_of_ble_eq_true rfl) dX8_sumOfSquares_32 ⟨Nat.le_of_ble_eq_true rfl, Nat.le_of_ble_eq_true rfl⟩) (fun r_5 M_z h => ?_)
  refine q_mem h.1 ?_
  have h := h.2
  refine q_icmp_ge (tgt := 97) C dX8_sumOfSquares_35 (by decide) (fun z => ?_) (fun z => ?_)
  · have h := h.1 z
    refine q_iinc (v := (i3 + 1)) (lv' := [(3, .int (i3 + 1)), (0, .ref a0), (1, .long l1), (4, .ref a4), (5, .int i5)]) C dX8_sumOfSquares_97 (j := 2) rfl rfl (by decide) rfl ?_
    refine q_goto (tgt := 4) C dX8_sumOfSquares_100 (by decide) ?_
    exact q_sub [1, 2, 0] rfl h
  · have h := h.2 z
    refine q_aload_n C dX8_sumOfSquares_38 rfl (j := 0) rfl ?_
    refine q_getR (ci := 8) (k0 := 1) (T := TX8) C inX8_sumOfSquares_X8 rfl (by decide) h.1 (by decide) rfl (by decide +kernel) rfl dX8_sumOfSquares_39 ?_
    obtain ⟨a_6, z, h⟩ := h.2
    refine q_ref z ?_
    refine q_aload C dX8_sumOfSquares_42 (j := 3) rfl ?_
    refine q_iload C dX8_sumOfSquares_44 (j := 4) rfl ?_
    refine q_ci (q_runV (As := [.int i5]) (st := [.ref a_6]) C (c_X5_get l D cA lo h.2) (cwV 1 C.2.2.2.2.1 gX8_sumOfSquares_X5_get rfl rfl rfl (by decide +kernel) ⟨Nat.le_of_ble_eq_true rfl, Nat.le_of_ble_eq_true rfl⟩) h.1 (by decide) rfl rfl rfl (Nat.le_of_ble_eq_true rfl) dX8_sumOfSquares_46 ⟨Nat.le_of_ble_eq_true rfl, Nat.le_of_ble_eq_true rfl⟩) (fun r_7 M_z h => ?_)
    refine q_mem h.1 ?_
    have h := h.2
    refine q_aload C dX8_sumOfSquares_49 (j := 3) rfl ?_
    refine q_iload C dX8_sumOfSquares_51 (j := 4) rfl ?_
    refine q_iconst (v := 1) C dX8_sumOfSquares_53 (by decide) ?_
    refine q_iadd C dX8_sumOfSquares_54 ?_
    refine q_ci (q_runV (As := [.int (i5 + 1)]) (st := [.int r_7, .ref a_6]) C (c_X5_get l D cA lo h.2) (cwV 1 C.2.2.2.2.1 gX8_sumOfSquares_X5_get rfl rfl rfl (by decide +kernel) ⟨Nat.le_of_ble_eq_true rfl, Nat.le_of_ble_eq_true rfl⟩) h.1 (by decide) rfl rfl rfl (Nat.le_of_ble_eq_true rfl) dX8_sumOfSquares_55 ⟨Nat.le_of_ble_eq_true rfl, Nat.le_of_ble_eq_true rfl⟩) (fun r_8 M_z h => ?_)
    refine q_mem h.1 ?_
    have h := h.2
    refine q_ci (q_runV (As := [.int r_7, .int r_8]) (st := []) C (c_X1_isToldBy l D cA lo h.2) (cwV 2 C.2.2.2.2.1 gX8_sumOfSquares_X1_isToldBy rfl rfl rfl (by decide +kernel) ⟨Nat.le_of_ble_eq_true rfl, Nat.le_of_ble_eq_true rfl⟩) h.1 (by decide) rfl rfl rfl (Nat.le_of_ble_eq_true rfl) dX8_sumOfSquares_58 ⟨Nat.le_of_ble_eq_true rfl, Nat.le_of_ble_eq_true rfl⟩) (fun r_9 M_z h => ?_)
    refine q_mem h.1 ?_
    have h := h.2
    refine q_if_eq (tgt := 91) C dX8_sumOfSquares_61 (by decide) (fun z => ?_) (fun z => ?_)
    · have h := h.1 z
      refine q_iinc (v := (i5 + 1)) (lv' := [(5, .int (i5 + 1)), (0, .ref a0), (1, .long l1), (3, .int i3), (4, .ref a4)]) C dX8_sumOfSquares_91 (j := 4) rfl rfl (by decide) rfl ?_
      refine q_goto (tgt := 28) C dX8_sumOfSquares_94 (by decide) ?_
      exact q_sub [1, 2, 3, 4, 0] rfl h
    · have h := h.2 z
      refine q_lload_n C dX8_sumOfSquares_64 rfl (j := 1) rfl ?_
      refine q_aload_n C dX8_sumOfSquares_65 rfl (j := 0) rfl ?_
      refine q_getR (ci := 8) (k0 := 0) (T := TX8) C inX8_sumOfSquares_X8 rfl (by decide) h.1 (by decide) rfl (by decide +kernel) rfl dX8_sumOfSquares_66 ?_
      obtain ⟨a_10, z, h⟩ := h.2
      refine q_ref z ?_
      refine q_aload C dX8_sumOfSquares_69 (j := 3) rfl ?_
      refine q_iload C dX8_sumOfSquares_71 (j := 4) rfl ?_
      refine q_ci (q_runV (As := [.int i5]) (st := [.ref a_10, .long l1]) C (c_X5_get l D cA lo h.2) (cwV 1 C.2.2.2.2.1 gX8_sumOfSquares_X5_get rfl rfl rfl (by decide +kernel) ⟨Nat.le_of_ble_eq_true rfl, Nat.le_of_ble_eq_true rfl⟩) h.1 (by decide) rfl rfl rfl (Nat.le_of_ble_eq_true rfl) dX8_sumOfSquares_73 ⟨Nat.le_of_ble_eq_true rfl, Nat.le_of_ble_eq_true rfl⟩) (fun r_11 M_z h => ?_)
      refine q_mem h.1 ?_
      have h := h.2
      refine q_aload C dX8_sumOfSquares_76 (j := 3) rfl ?_
      refine q_iload C dX8_sumOfSquares_78 (j := 4) rfl ?_
      refine q_iconst (v := 1) C dX8_sumOfSquares_80 (by decide) ?_
      refine q_iadd C dX8_sumOfSquares_81 ?_
      refine q_ci (q_runV (As := [.int (i5 + 1)]) (st := [.int r_11, .ref a_10, .long l1]) C (c_X5_get l D cA lo h.2) (cwV 1 C.2.2.2.2.1 gX8_sumOfSquares_X5_get rfl rfl rfl (by decide +kernel) ⟨Nat.le_of_ble_eq_true rfl, Nat.le_of_ble_eq_true rfl⟩) h.1 (by decide) rfl rfl rfl (Nat.le_of_ble_eq_true rfl) dX8_sumOfSquares_82 ⟨Nat.le_of_ble_eq_true rfl, Nat.le_of_ble_eq_true rfl⟩) (fun r_12 M_z h => ?_)
      refine q_mem h.1 ?_
      have h := h.2
      refine q_ci (q_runV (As := [.int r_11, .int r_12]) (st := [.long l1]) C (c_X3_squaredLength l D cA lo h.2) (cwV 2 C.2.2.2.2.1 gX8_sumOfSquares_X3_squaredLength rfl rfl rfl (by decide +kernel) ⟨Nat.le_of_ble_eq_true rfl, Nat.le_of_ble_eq_true rfl⟩) h.1 (by decide) rfl rfl rfl (Nat.le_of_ble_eq_true rfl) dX8_sumOfSquares_85 ⟨Nat.le_of_ble_eq_true rfl, Nat.le_of_ble_eq_true rfl⟩) (fun r_13 M_z h => ?_)
      refine q_mem h.1 ?_
      have h := h.2
      refine q_i2l C dX8_sumOfSquares_88 ?_
      refine q_ladd C dX8_sumOfSquares_89 ?_
      refine q_lstore_n (lv' := [(1, .long (l1 + r_13.toInt64)), (0, .ref a0), (3, .int i3), (4, .ref a4), (5, .int i5)]) C dX8_sumOfSquares_90 rfl (by decide) rfl ?_
      refine q_iinc (v := (i5 + 1)) (lv' := [(5, .int (i5 + 1)), (1, .long (l1 + r_13.toInt64)), (0, .ref a0), (3, .int i3), (4, .ref a4)]) C dX8_sumOfSquares_91 (j := 4) rfl rfl (by decide) rfl ?_
      refine q_goto (tgt := 28) C dX8_sumOfSquares_94 (by decide) ?_
      exact q_sub [2, 1, 3, 4, 0] rfl h
set_option maxRecDepth 100000 in
set_option maxHeartbeats 4000000 in
theorem c_X8_sumOfSquares (l : Launch) (D : va_G) (cA : Nat → ClassId) (lo : Nat) {M : Mm} {a0 : Nat} {Q : Int64 → Prop} (h : T_X8_sumOfSquares M a0 Q) : Met l yX8_sumOfSquares wsX8_sumOfSquares ({ frames := 3, cells := 0, slots := 0, locals := 67 } : Room) (PcM D cA lo [.ref a0] M) (QlM D cA lo (fun r M1 => M1 = M ∧ Q r)) 0 0 (fun q => lo ≤ q) := by
  refine q_start (cc := cX8_sumOfSquares) (nL := 6) (ret := (some .long)) (by decide) rfl rfl (Nat.le_of_ble_eq_true rfl) ?_
  intro p e s m args below meth c C hr hlk hin
  unfold T_X8_sumOfSquares at h
  have h := h (fun (a0 : Nat) (l1 : Int64) (i3 : Int32) => QW p l e ({ frames := 3, cells := 0, slots := 0, locals := 67 } : Room) s m args below meth c (MQ below (QlM D cA lo (fun r M1 => M1 = M ∧ Q r)) args s 0 0 (fun q => lo ≤ q)) 6 D cA lo 0 0 M 4 [(0, .ref a0), (1, .long l1), (3, .int i3)] []) (fun (a0 : Nat) (l1 : Int64) (i3 : Int32) (a4 : Nat) (i5 : Int32) => QW p l e ({ frames := 3, cells := 0, slots := 0, locals := 67 } : Room) s m args below meth c (MQ below (QlM D cA lo (fun r M1 => M1 = M ∧ Q r)) args s 0 0 (fun q => lo ≤ q)) 6 D cA lo 0 0 M 28 [(0, .ref a0), (1, .long l1), (3, .int i3), (4, .ref a4), (5, .int i5)] []) (fun a0 l1 i3 h => b_X8_sumOfSquares_4 C hr hlk a0 l1 i3 h) (fun a0 l1 i3 a4 i5 h => b_X8_sumOfSquares_28 C hr hlk a0 l1 i3 a4 i5 h)
  refine q_lconst (v := 0) C dX8_sumOfSquares_0 (by decide) ?_
  refine q_lstore_n (lv' := [(1, .long 0), (0, .ref a0)]) C dX8_sumOfSquares_1 rfl (by decide) rfl ?_
  refine q_iconst (v := 0) C dX8_sumOfSquares_2 (by decide) ?_
  refine q_istore_n (lv' := [(3, .int 0), (1, .long 0), (0, .ref a0)]) C dX8_sumOfSquares_3 rfl (by decide) rfl ?_
  exact q_sub [2, 1, 0] rfl h
def T_X8_meanEdge (M : Mm) (a0 : Nat) (Q : UInt64 → Prop) : Prop := kM M a0 = (8, 8) ∧ ∃ a_1 : Nat, rM M a0 1 = some a_1 ∧ kM M a_1 = (1, 5) ∧ T_X1_edgeCount M a_1 (fun r_2 => (¬ r_2 = 0 → kM M a0 = (8, 8) ∧ T_X8_sumOfSquares M a0 (fun r_3 => vf_n64 (FP.ddiv (FP.l2d r_3) (FP.i2d r_2)) ∧ Q (FP.ddiv (FP.l2d r_3) (FP.i2d r_2)))) ∧ (r_2 = 0 → Q FP.dconst0))
theorem inX8_meanEdge_X8 : ∀ w ∈ wsX80, w ∈ wsX8_meanEdge := by decide +kernel
set_option maxRecDepth 100000 in
set_option maxHeartbeats 4000000 in
theorem c_X8_meanEdge (l : Launch) (D : va_G) (cA : Nat → ClassId) (lo : Nat) {M : Mm} {a0 : Nat} {Q : UInt64 → Prop} (h : T_X8_meanEdge M a0 Q) : Met l yX8_meanEdge wsX8_meanEdge ({ frames := 4, cells := 0, slots := 0, locals := 92 } : Room) (PcM D cA lo [.ref a0] M) (QdM D cA lo (fun r M1 => M1 = M ∧ Q r)) 0 0 (fun q => lo ≤ q) := by
  refine q_start (cc := cX8_meanEdge) (nL := 2) (ret := (some .double)) (by decide) rfl rfl (Nat.le_of_ble_eq_true rfl) ?_
  intro p e s m args below meth c C hr hlk hin
  unfold T_X8_meanEdge at h
  refine q_aload_n C dX8_meanEdge_0 rfl (j := 0) rfl ?_
  refine q_getR (ci := 8) (k0 := 1) (T := TX8) C inX8_meanEdge_X8 rfl (by decide) h.1 (by decide) rfl (by decide +kernel) rfl dX8_meanEdge_1 ?_
  obtain ⟨a_1, z, h⟩ := h.2
  refine q_ref z ?_
  refine q_ci (q_runV (As := []) (st := []) C (c_X1_edgeCount l D cA lo h.2) (cwV 0 C.2.2.2.2.1 gX8_meanEdge_X1_edgeCount rfl rfl rfl (by decide +kernel) ⟨Nat.le_of_ble_eq_true rfl, Nat.le_of_ble_eq_true rfl⟩) h.1 (by decide) rfl rfl rfl (Nat.le_of_ble_eq_true rfl) dX8_meanEdge_4 ⟨Nat.le_of_ble_eq_true rfl, Nat.le_of_ble_eq_true rfl⟩) (fun r_2 M_z h => ?_)
  refine q_mem h.1 ?_
  have h := h.2
  refine q_istore_n (lv' := [(1, .int r_2), (0, .ref a0)]) C dX8_meanEdge_7 rfl (by decide) rfl ?_
  refine q_iload_n C dX8_meanEdge_8 rfl (j := 0) rfl ?_
  refine q_if_ne (tgt := 14) C dX8_meanEdge_9 (by decide) (fun z => ?_) (fun z => ?_)
  · have h := h.1 z
    refine q_aload_n C dX8_meanEdge_14 rfl (j := 1) rfl ?_
    refine q_cl (q_runV (As := []) (st := []) C (c_X8_sumOfSquares l D cA lo h.2) (cwV 0 C.2.2.2.2.1 gX8_meanEdge_X8_sumOfSquares rfl rfl rfl (by decide +kernel) ⟨Nat.le_of_ble_eq_true rfl, Nat.le_of_ble_eq_true rfl⟩) h.1 (by decide) rfl rfl rfl (Nat.le_of_ble_eq_true rfl) dX8_meanEdge_15 ⟨Nat.le_of_ble_eq_true rfl, Nat.le_of_ble_eq_true rfl⟩) (fun r_3 M_z h => ?_)
    refine q_mem h.1 ?_
    have h := h.2
    refine q_l2d C dX8_meanEdge_18 ?_
    refine q_iload_n C dX8_meanEdge_19 rfl (j := 0) rfl ?_
    refine q_i2d C dX8_meanEdge_20 ?_
    refine q_ddiv C dX8_meanEdge_21 h.1 ?_
    have h := h.2
    exact q_dret C hr hlk dX8_meanEdge_22 (Nat.le_of_ble_eq_true rfl) (Nat.le_of_ble_eq_true rfl) ⟨rfl, h⟩
  · have h := h.2 z
    refine q_dconst0 C dX8_meanEdge_12 ?_
    exact q_dret C hr hlk dX8_meanEdge_13 (Nat.le_of_ble_eq_true rfl) (Nat.le_of_ble_eq_true rfl) ⟨rfl, h⟩
def T_X8_steps (Cc Zz : Nat) (M : Mm) (a0 : Nat) (i1 : Int32) (i2 : Int32) (Q : Int32 → Mm → Prop) (X : String → Mm → Prop) : Prop := ∃ dc_3 ds_3 : Nat, (0 + dc_3 ≤ Cc ∧ 0 + ds_3 ≤ Zz) ∧ kM M a0 = (8, 8) ∧ T_X8_needPoints dc_3 ds_3 M a0 i1 i2 (fun M_2 => kM M_2 a0 = (8, 8) ∧ ∃ a_4 : Nat, rM M_2 a0 2 = some a_4 ∧ ((0 + dc_3) ≤ Cc ∧ (0 + ds_3) ≤ Zz) ∧ kM M_2 a_4 = (7, 6) ∧ T_X7_wayLength M_2 a_4 i1 i2 (fun r_5 M_6 => (0 + dc_3) ≤ Cc ∧ (0 + ds_3) ≤ Zz ∧ Q r_5 M_6)) X
theorem inX8_steps_X8 : ∀ w ∈ wsX80, w ∈ wsX8_steps := by decide +kernel
set_option maxRecDepth 100000 in
set_option maxHeartbeats 4000000 in
theorem c_X8_steps (l : Launch) (hl : l.stackTraces = false) (D : va_G) (cA : Nat → ClassId) (lo : Nat) {M : Mm} {a0 : Nat} {i1 : Int32} {i2 : Int32} {Cc Zz : Nat} {Q : Int32 → Mm → Prop} {X : String → Mm → Prop} (h : T_X8_steps Cc Zz M a0 i1 i2 Q X) : vx_Met l yX8_steps wsX8_steps ({ frames := 8, cells := Cc, slots := Zz, locals := 133 } : Room) (PcM D cA lo [.ref a0, .int i1, .int i2] M) (QiM D cA lo Q) (XcM D cA lo X) Cc Zz (fun q => lo ≤ q) := by
  refine q_startX (cc := cX8_steps) (nL := 3) (ret := (some .int)) (by decide) rfl rfl (Nat.le_of_ble_eq_true rfl) ?_
  intro p e s m args below meth c C hr hlk hin hex
  unfold T_X8_steps at h
  refine q_aload_n C dX8_steps_0 rfl (j := 0) rfl ?_
  refine q_iload_n C dX8_steps_1 rfl (j := 1) rfl ?_
  refine q_iload_n C dX8_steps_2 rfl (j := 2) rfl ?_
  obtain ⟨dc_3, ds_3, hcz, h⟩ := h
  refine q_xv (qx_runV (As := [.int i1, .int i2]) (st := []) C (c_X8_needPoints l hl D cA lo h.2) (cwV 2 C.2.2.2.2.1 gX8_steps_X8_needPoints rfl rfl rfl (by decide +kernel) ⟨Nat.le_of_ble_eq_true rfl, Nat.le_of_ble_eq_true rfl⟩) h.1 (by decide) rfl rfl rfl (Nat.le_of_ble_eq_true rfl) dX8_steps_3 hcz) (fun E M_x h => ?_) (fun M_2 h => ?_)
  · exact q_xout (fun x hx => hex x hx _) hlk hcz.1 hcz.2 h
  · refine q_aload_n C dX8_steps_6 rfl (j := 0) rfl ?_
    refine q_getR (ci := 8) (k0 := 2) (T := TX8) C inX8_steps_X8 rfl (by decide) h.1 (by decide) rfl (by decide +kernel) rfl dX8_steps_7 ?_
    obtain ⟨a_4, z, h⟩ := h.2
    refine q_ref z ?_
    refine q_iload_n C dX8_steps_10 rfl (j := 1) rfl ?_
    refine q_iload_n C dX8_steps_11 rfl (j := 2) rfl ?_
    have hcz := h.1
    have h := h.2
    refine q_ci (q_runV (As := [.int i1, .int i2]) (st := []) C (c_X7_wayLength l D cA lo h.2) (cwV 2 C.2.2.2.2.1 gX8_steps_X7_wayLength rfl rfl rfl (by decide +kernel) ⟨Nat.le_of_ble_eq_true rfl, Nat.le_of_ble_eq_true rfl⟩) h.1 (by decide) rfl rfl rfl (Nat.le_of_ble_eq_true rfl) dX8_steps_12 ⟨Nat.le_trans (Nat.le_of_eq (Nat.add_zero _)) hcz.1, Nat.le_trans (Nat.le_of_eq (Nat.add_zero _)) hcz.2⟩) (fun r_5 M_6 h => ?_)
    exact q_xret (q_iret C hr hlk dX8_steps_15 h.1 h.2.1 h.2.2)
def T_X8_isAllowed (M : Mm) (a0 : Nat) (i1 : Int32) (i2 : Int32) (i3 : Int32) (Q : Int32 → Mm → Prop) : Prop := (i1 = 0 → kM M a0 = (8, 8) ∧ ∃ a_1 : Nat, rM M a0 3 = some a_1 ∧ kM M a_1 = (0, 3) ∧ T_X0_fits M a_1 i2 i3 (fun r_2 M_3 => (r_2 = 0 ∨ r_2 = 1) ∧ Q r_2 M_3)) ∧ (i1 = 1 → kM M a0 = (8, 8) ∧ T_X8_isBetweenTriangles M a0 i2 i3 (fun r_4 => (r_4 = 0 → Q 0 M) ∧ (¬ r_4 = 0 → kM M a0 = (8, 8) ∧ T_X8_flipFits M a0 i2 i3 (fun r_5 => (r_5 = 0 → Q 0 M) ∧ (¬ r_5 = 0 → Q 1 M))))) ∧ (¬ i1 = 0 ∧ ¬ i1 = 1 → kM M a0 = (8, 8) ∧ ∃ a_6 : Nat, rM M a0 1 = some a_6 ∧ kM M a_6 = (1, 5) ∧ T_X1_isInner M a_6 i2 i3 (fun r_7 => (r_7 = 0 → Q 0 M) ∧ (¬ r_7 = 0 → kM M a0 = (8, 8) ∧ T_X8_joinFits M a0 i2 i3 (fun r_8 => (r_8 = 0 → Q 0 M) ∧ (¬ r_8 = 0 → Q 1 M)))))
theorem inX8_isAllowed_X8 : ∀ w ∈ wsX80, w ∈ wsX8_isAllowed := by decide +kernel
set_option maxRecDepth 100000 in
set_option maxHeartbeats 4000000 in
theorem c_X8_isAllowed (l : Launch) (D : va_G) (cA : Nat → ClassId) (lo : Nat) {M : Mm} {a0 : Nat} {i1 : Int32} {i2 : Int32} {i3 : Int32} {Q : Int32 → Mm → Prop} (h : T_X8_isAllowed M a0 i1 i2 i3 Q) : Met l yX8_isAllowed wsX8_isAllowed ({ frames := 4, cells := 0, slots := 0, locals := 95 } : Room) (PcM D cA lo [.ref a0, .int i1, .int i2, .int i3] M) (QiM D cA lo Q) 0 0 (fun q => lo ≤ q) := by
  refine q_start (cc := cX8_isAllowed) (nL := 4) (ret := (some .boolean)) (by decide) rfl rfl (Nat.le_of_ble_eq_true rfl) ?_
  intro p e s m args below meth c C hr hlk hin
  unfold T_X8_isAllowed at h
  refine q_iload_n C dX8_isAllowed_0 rfl (j := 1) rfl ?_
  rcases Decidable.em (i1 = 0) with z0 | z0
  · have h := h.1 z0
    refine q_lookup (off := 27) (tgt := 28) C dX8_isAllowed_1 rfl (by rw [z0]; rfl) (by decide) ?_
    refine q_aload_n C dX8_isAllowed_28 rfl (j := 0) rfl ?_
    refine q_getR (ci := 8) (k0 := 3) (T := TX8) C inX8_isAllowed_X8 rfl (by decide) h.1 (by decide) rfl (by decide +kernel) rfl dX8_isAllowed_29 ?_
    obtain ⟨a_1, z, h⟩ := h.2
    refine q_ref z ?_
    refine q_iload_n C dX8_isAllowed_32 rfl (j := 2) rfl ?_
    refine q_iload_n C dX8_isAllowed_33 rfl (j := 3) rfl ?_
    refine q_ci (q_runV (As := [.int i2, .int i3]) (st := []) C (c_X0_fits l D cA lo h.2) (cwV 2 C.2.2.2.2.1 gX8_isAllowed_X0_fits rfl rfl rfl (by decide +kernel) ⟨Nat.le_of_ble_eq_true rfl, Nat.le_of_ble_eq_true rfl⟩) h.1 (by decide) rfl rfl rfl (Nat.le_of_ble_eq_true rfl) dX8_isAllowed_34 ⟨Nat.le_of_ble_eq_true rfl, Nat.le_of_ble_eq_true rfl⟩) (fun r_2 M_3 h => ?_)
    exact q_zret C hr hlk dX8_isAllowed_37 (Nat.le_of_ble_eq_true rfl) (Nat.le_of_ble_eq_true rfl) h.1 h.2
  · have h := h.2
    rcases Decidable.em (i1 = 1) with z1 | z1
    · have h := h.1 z1
      refine q_lookup (off := 37) (tgt := 38) C dX8_isAllowed_1 rfl (by rw [z1]; rfl) (by decide) ?_
      refine q_aload_n C dX8_isAllowed_38 rfl (j := 0) rfl ?_
      refine q_iload_n C dX8_isAllowed_39 rfl (j := 2) rfl ?_
      refine q_iload_n C dX8_isAllowed_40 rfl (j := 3) rfl ?_
      refine q_ci (q_runV (As := [.int i2, .int i3]) (st := []) C (c_X8_isBetweenTriangles l D cA lo h.2) (cwV 2 C.2.2.2.2.1 gX8_isAllowed_X8_isBetweenTriangles rfl rfl rfl (by decide +kernel) ⟨Nat.le_of_ble_eq_true rfl, Nat.le_of_ble_eq_true rfl⟩) h.1 (by decide) rfl rfl rfl (Nat.le_of_ble_eq_true rfl) dX8_isAllowed_41 ⟨Nat.le_of_ble_eq_true rfl, Nat.le_of_ble_eq_true rfl⟩) (fun r_4 M_z h => ?_)
      refine q_mem h.1 ?_
      have h := h.2
      refine q_if_eq (tgt := 60) C dX8_isAllowed_44 (by decide) (fun z => ?_) (fun z => ?_)
      · have h := h.1 z
        refine q_iconst (v := 0) C dX8_isAllowed_60 (by decide) ?_
        exact q_zret C hr hlk dX8_isAllowed_61 (Nat.le_of_ble_eq_true rfl) (Nat.le_of_ble_eq_true rfl) (Or.inl rfl) h
      · have h := h.2 z
        refine q_aload_n C dX8_isAllowed_47 rfl (j := 0) rfl ?_
        refine q_iload_n C dX8_isAllowed_48 rfl (j := 2) rfl ?_
        refine q_iload_n C dX8_isAllowed_49 rfl (j := 3) rfl ?_
        refine q_ci (q_runV (As := [.int i2, .int i3]) (st := []) C (c_X8_flipFits l D cA lo h.2) (cwV 2 C.2.2.2.2.1 gX8_isAllowed_X8_flipFits rfl rfl rfl (by decide +kernel) ⟨Nat.le_of_ble_eq_true rfl, Nat.le_of_ble_eq_true rfl⟩) h.1 (by decide) rfl rfl rfl (Nat.le_of_ble_eq_true rfl) dX8_isAllowed_50 ⟨Nat.le_of_ble_eq_true rfl, Nat.le_of_ble_eq_true rfl⟩) (fun r_5 M_z h => ?_)
        refine q_mem h.1 ?_
        have h := h.2
        refine q_if_eq (tgt := 60) C dX8_isAllowed_53 (by decide) (fun z => ?_) (fun z => ?_)
        · have h := h.1 z
          refine q_iconst (v := 0) C dX8_isAllowed_60 (by decide) ?_
          exact q_zret C hr hlk dX8_isAllowed_61 (Nat.le_of_ble_eq_true rfl) (Nat.le_of_ble_eq_true rfl) (Or.inl rfl) h
        · have h := h.2 z
          refine q_iconst (v := 1) C dX8_isAllowed_56 (by decide) ?_
          refine q_goto (tgt := 61) C dX8_isAllowed_57 (by decide) ?_
          exact q_zret C hr hlk dX8_isAllowed_61 (Nat.le_of_ble_eq_true rfl) (Nat.le_of_ble_eq_true rfl) (Or.inr rfl) h
    · have h := h.2
      have h := h ⟨z0, z1⟩
      refine q_lookup (off := 61) (tgt := 62) C dX8_isAllowed_1 rfl (by refine (lv_osw z0 rfl).trans ?_; refine (lv_osw z1 rfl).trans ?_; rfl) (by decide) ?_
      refine q_aload_n C dX8_isAllowed_62 rfl (j := 0) rfl ?_
      refine q_getR (ci := 8) (k0 := 1) (T := TX8) C inX8_isAllowed_X8 rfl (by decide) h.1 (by decide) rfl (by decide +kernel) rfl dX8_isAllowed_63 ?_
      obtain ⟨a_6, z, h⟩ := h.2
      refine q_ref z ?_
      refine q_iload_n C dX8_isAllowed_66 rfl (j := 2) rfl ?_
      refine q_iload_n C dX8_isAllowed_67 rfl (j := 3) rfl ?_
      refine q_ci (q_runV (As := [.int i2, .int i3]) (st := []) C (c_X1_isInner l D cA lo h.2) (cwV 2 C.2.2.2.2.1 gX8_isAllowed_X1_isInner rfl rfl rfl (by decide +kernel) ⟨Nat.le_of_ble_eq_true rfl, Nat.le_of_ble_eq_true rfl⟩) h.1 (by decide) rfl rfl rfl (Nat.le_of_ble_eq_true rfl) dX8_isAllowed_68 ⟨Nat.le_of_ble_eq_true rfl, Nat.le_of_ble_eq_true rfl⟩) (fun r_7 M_z h => ?_)
      refine q_mem h.1 ?_
      have h := h.2
      refine q_if_eq (tgt := 87) C dX8_isAllowed_71 (by decide) (fun z => ?_) (fun z => ?_)
      · have h := h.1 z
        refine q_iconst (v := 0) C dX8_isAllowed_87 (by decide) ?_
        exact q_zret C hr hlk dX8_isAllowed_88 (Nat.le_of_ble_eq_true rfl) (Nat.le_of_ble_eq_true rfl) (Or.inl rfl) h
      · have h := h.2 z
        refine q_aload_n C dX8_isAllowed_74 rfl (j := 0) rfl ?_
        refine q_iload_n C dX8_isAllowed_75 rfl (j := 2) rfl ?_
        refine q_iload_n C dX8_isAllowed_76 rfl (j := 3) rfl ?_
        refine q_ci (q_runV (As := [.int i2, .int i3]) (st := []) C (c_X8_joinFits l D cA lo h.2) (cwV 2 C.2.2.2.2.1 gX8_isAllowed_X8_joinFits rfl rfl rfl (by decide +kernel) ⟨Nat.le_of_ble_eq_true rfl, Nat.le_of_ble_eq_true rfl⟩) h.1 (by decide) rfl rfl rfl (Nat.le_of_ble_eq_true rfl) dX8_isAllowed_77 ⟨Nat.le_of_ble_eq_true rfl, Nat.le_of_ble_eq_true rfl⟩) (fun r_8 M_z h => ?_)
        refine q_mem h.1 ?_
        have h := h.2
        refine q_if_eq (tgt := 87) C dX8_isAllowed_80 (by decide) (fun z => ?_) (fun z => ?_)
        · have h := h.1 z
          refine q_iconst (v := 0) C dX8_isAllowed_87 (by decide) ?_
          exact q_zret C hr hlk dX8_isAllowed_88 (Nat.le_of_ble_eq_true rfl) (Nat.le_of_ble_eq_true rfl) (Or.inl rfl) h
        · have h := h.2 z
          refine q_iconst (v := 1) C dX8_isAllowed_83 (by decide) ?_
          refine q_goto (tgt := 88) C dX8_isAllowed_84 (by decide) ?_
          exact q_zret C hr hlk dX8_isAllowed_88 (Nat.le_of_ble_eq_true rfl) (Nat.le_of_ble_eq_true rfl) (Or.inr rfl) h
def S_X8_countPairs_4 (K4 : Nat → Int32 → Int32 → Int32 → Mm → Prop) (K28 : Nat → Int32 → Int32 → Int32 → Nat → Int32 → Mm → Prop) (K76 : Nat → Int32 → Int32 → Nat → Int32 → Int32 → Int32 → Int32 → Int32 → Mm → Prop) (Q : Int32 → Mm → Prop) (M : Mm) (a0 : Nat) (i1 : Int32) (i2 : Int32) (i3 : Int32) : Prop := kM M a0 = (8, 8) ∧ ∃ a_1 : Nat, rM M a0 1 = some a_1 ∧ kM M a_1 = (1, 5) ∧ T_X1_ever M a_1 (fun r_2 => (r_2 ≤ i3 → Q i2 M) ∧ (¬ r_2 ≤ i3 → kM M a0 = (8, 8) ∧ ∃ a_3 : Nat, rM M a0 1 = some a_3 ∧ kM M a_3 = (1, 5) ∧ T_X1_ring M a_3 i3 (fun r_4 => K28 a0 i1 i2 i3 r_4 0 M)))
def S_X8_countPairs_28 (K4 : Nat → Int32 → Int32 → Int32 → Mm → Prop) (K28 : Nat → Int32 → Int32 → Int32 → Nat → Int32 → Mm → Prop) (K76 : Nat → Int32 → Int32 → Nat → Int32 → Int32 → Int32 → Int32 → Int32 → Mm → Prop) (Q : Int32 → Mm → Prop) (M : Mm) (a0 : Nat) (i1 : Int32) (i2 : Int32) (i3 : Int32) (a4 : Nat) (i5 : Int32) : Prop := kM M a4 = (5, 2) ∧ T_X5_length M a4 (fun r_5 => (r_5 ≤ i5 → K4 a0 i1 i2 (i3 + 1) M) ∧ (¬ r_5 ≤ i5 → kM M a4 = (5, 2) ∧ T_X5_get M a4 i5 (fun r_6 => kM M a4 = (5, 2) ∧ T_X5_get M a4 (i5 + 1) (fun r_7 => kM M a0 = (8, 8) ∧ T_X8_isAllowed M a0 i1 r_6 r_7 (fun r_8 M_9 => (r_8 = 0 → K76 a0 i1 i3 a4 i5 r_6 r_7 i2 0 M_9) ∧ (¬ r_8 = 0 → K76 a0 i1 i3 a4 i5 r_6 r_7 i2 1 M_9))))))
def S_X8_countPairs_76 (K4 : Nat → Int32 → Int32 → Int32 → Mm → Prop) (K28 : Nat → Int32 → Int32 → Int32 → Nat → Int32 → Mm → Prop) (K76 : Nat → Int32 → Int32 → Nat → Int32 → Int32 → Int32 → Int32 → Int32 → Mm → Prop) (Q : Int32 → Mm → Prop) (M : Mm) (a0 : Nat) (i1 : Int32) (i3 : Int32) (a4 : Nat) (i5 : Int32) (i6 : Int32) (i7 : Int32) (is0 : Int32) (is1 : Int32) : Prop := kM M a0 = (8, 8) ∧ ∃ a_10 : Nat, rM M a0 1 = some a_10 ∧ kM M a_10 = (1, 5) ∧ T_X1_isOpen M a_10 i7 i6 (fun r_11 => (r_11 = 0 → K28 a0 i1 ((is0 + is1) + 0) i3 a4 (i5 + 1) M) ∧ (¬ r_11 = 0 → kM M a0 = (8, 8) ∧ T_X8_isAllowed M a0 i1 i7 i6 (fun r_12 M_13 => (r_12 = 0 → K28 a0 i1 ((is0 + is1) + 0) i3 a4 (i5 + 1) M_13) ∧ (¬ r_12 = 0 → K28 a0 i1 ((is0 + is1) + 1) i3 a4 (i5 + 1) M_13))))
def T_X8_countPairs (M : Mm) (a0 : Nat) (i1 : Int32) (Q : Int32 → Mm → Prop) : Prop := ∀ (K4 : Nat → Int32 → Int32 → Int32 → Mm → Prop) (K28 : Nat → Int32 → Int32 → Int32 → Nat → Int32 → Mm → Prop) (K76 : Nat → Int32 → Int32 → Nat → Int32 → Int32 → Int32 → Int32 → Int32 → Mm → Prop), (∀ (a0 : Nat) (i1 : Int32) (i2 : Int32) (i3 : Int32) (M : Mm), S_X8_countPairs_4 K4 K28 K76 Q M a0 i1 i2 i3 → K4 a0 i1 i2 i3 M) → (∀ (a0 : Nat) (i1 : Int32) (i2 : Int32) (i3 : Int32) (a4 : Nat) (i5 : Int32) (M : Mm), S_X8_countPairs_28 K4 K28 K76 Q M a0 i1 i2 i3 a4 i5 → K28 a0 i1 i2 i3 a4 i5 M) → (∀ (a0 : Nat) (i1 : Int32) (i3 : Int32) (a4 : Nat) (i5 : Int32) (i6 : Int32) (i7 : Int32) (is0 : Int32) (is1 : Int32) (M : Mm), S_X8_countPairs_76 K4 K28 K76 Q M a0 i1 i3 a4 i5 i6 i7 is0 is1 → K76 a0 i1 i3 a4 i5 i6 i7 is0 is1 M) → K4 a0 i1 0 0 M
theorem inX8_countPairs_X8 : ∀ w ∈ wsX80, w ∈ wsX8_countPairs := by decide +kernel
set_option maxRecDepth 100000 in
set_option maxHeartbeats 4000000 in
theorem b_X8_countPairs_4 {p : Program} {l : Launch} {e : Env} {s : State} {m : MethodId} {args : Array Value} {below : List Frame} {meth : Method} {c : Code} {D : va_G} {cA : Nat → ClassId} {lo : Nat} (C : Cx p s m args c cX8_countPairs 8 RX8 wsX8_countPairs D cA lo) (hr : meth.sig.returnType = (some .int)) (hlk : meth.locks = false) {Q : Int32 → Mm → Prop} (M : Mm) (a0 : Nat) (i1 : Int32) (i2 : Int32) (i3 : Int32) (h : S_X8_countPairs_4 (fun (a0 : Nat) (i1 : Int32) (i2 : Int32) (i3 : Int32) (M : Mm) => QW p l e ({ frames := 5, cells := 0, slots := 0, locals := 118 } : Room) s m args below meth c (MQ below (QiM D cA lo Q) args s 0 0 (fun q => lo ≤ q)) 8 D cA lo 0 0 M 4 [(0, .ref a0), (1, .int i1), (2, .int i2), (3, .int i3)] []) (fun (a0 : Nat) (i1 : Int32) (i2 : Int32) (i3 : Int32) (a4 : Nat) (i5 : Int32) (M : Mm) => QW p l e ({ frames := 5, cells := 0, slots := 0, locals := 118 } : Room) s m args below meth c (MQ below (QiM D cA lo Q) args s 0 0 (fun q => lo ≤ q)) 8 D cA lo 0 0 M 28 [(0, .ref a0), (1, .int i1), (2, .int i2), (3, .int i3), (4, .ref a4), (5, .int i5)] []) (fun (a0 : Nat) (i1 : Int32) (i3 : Int32) (a4 : Nat) (i5 : Int32) (i6 : Int32) (i7 : Int32) (is0 : Int32) (is1 : Int32) (M : Mm) => QW p l e ({ frames := 5, cells := 0, slots := 0, locals := 118 } : Room) s m args below meth c (MQ below (QiM D cA lo Q) args s 0 0 (fun q => lo ≤ q)) 8 D cA lo 0 0 M 76 [(0, .ref a0), (1, .int i1), (3, .int i3), (4, .ref a4), (5, .int i5), (6, .int i6), (7, .int i7)] [.int is1, .int is0]) Q M a0 i1 i2 i3) : QW p l e ({ frames := 5, cells := 0, slots := 0, locals := 118 } : Room) s m args below meth c (MQ below (QiM D cA lo Q) args s 0 0 (fun q => lo ≤ q)) 8 D cA lo 0 0 M 4 [(0, .ref a0), (1, .int i1), (2, .int i2), (3, .int i3)] [] := by
  unfold S_X8_countPairs_4 at h
  refine q_iload_n C dX8_countPairs_4 rfl (j := 3) rfl ?_
  refine q_aload_n C dX8_countPairs_5 rfl (j := 0) rfl ?_
  refine q_getR (ci := 8) (k0 := 1) (T := TX8) C inX8_countPairs_X8 rfl (by decide) h.1 (by decide) rfl (by decide +kernel) rfl dX8_countPairs_6 ?_
  obtain ⟨a_1, z, h⟩ := h.2
  refine q_ref z ?_
  refine q_ci (q_runV (As := []) (st := [.int i3]) C (c_X1_ever l D cA lo h.2) (cwV 0 C.2.2.2.2.1 gX8_countPairs_X1_ever rfl rfl rfl (by decide +kernel) ⟨Nat.le_of_ble_eq_true rfl, Nat.le_of_ble_eq_true rfl⟩) h.1 (by decide) rfl rfl rfl (Nat.le_of_ble_eq_true rfl) dX8_countPairs_9 ⟨Nat.le_of_ble_eq_true rfl, Nat.le_of_ble_eq_true rfl⟩) (fun r_2 M_z h => ?_)
  refine q_mem h.1 ?_
  have h := h.2
  refine q_icmp_ge (tgt := 124) C dX8_countPairs_12 (by decide) (fun z => ?_) (fun z => ?_)
  · have h := h.1 z
    refine q_iload_n C dX8_countPairs_124 rfl (j := 2) rfl ?_
    exact q_iret C hr hlk dX8_countPairs_125 (Nat.le_of_ble_eq_true rfl) (Nat.le_of_ble_eq_true rfl) h
  · have h := h.2 z
    refine q_aload_n C dX8_countPairs_15 rfl (j := 0) rfl ?_
    refine q_getR (ci := 8) (k0 := 1) (T := TX8) C inX8_countPairs_X8 rfl (by decide) h.1 (by decide) rfl (by decide +kernel) rfl dX8_countPairs_16 ?_
    obtain ⟨a_3, z, h⟩ := h.2
    refine q_ref z ?_
    refine q_iload_n C dX8_countPairs_19 rfl (j := 3) rfl ?_
    refine q_cr (q_runV (As := [.int i3]) (st := []) C (c_X1_ring l D cA lo h.2) (cwV 1 C.2.2.2.2.1 gX8_countPairs_X1_ring rfl rfl rfl (by decide +kernel) ⟨Nat.le_of_ble_eq_true rfl, Nat.le_of_ble_eq_true rfl⟩) h.1 (by decide) rfl rfl rfl (Nat.le_of_ble_eq_true rfl) dX8_countPairs_20 ⟨Nat.le_of_ble_eq_true rfl, Nat.le_of_ble_eq_true rfl⟩) (fun r_4 M_z h => ?_)
    refine q_mem h.1 ?_
    have h := h.2
    refine q_astore (lv' := [(4, .ref r_4), (0, .ref a0), (1, .int i1), (2, .int i2), (3, .int i3)]) C dX8_countPairs_23 (by decide) rfl ?_
    refine q_iconst (v := 0) C dX8_countPairs_25 (by decide) ?_
    refine q_istore (lv' := [(5, .int 0), (4, .ref r_4), (0, .ref a0), (1, .int i1), (2, .int i2), (3, .int i3)]) C dX8_countPairs_26 (by decide) rfl ?_
    exact q_sub [2, 3, 4, 5, 1, 0] rfl h
set_option maxRecDepth 100000 in
set_option maxHeartbeats 4000000 in
theorem b_X8_countPairs_28 {p : Program} {l : Launch} {e : Env} {s : State} {m : MethodId} {args : Array Value} {below : List Frame} {meth : Method} {c : Code} {D : va_G} {cA : Nat → ClassId} {lo : Nat} (C : Cx p s m args c cX8_countPairs 8 RX8 wsX8_countPairs D cA lo) (hr : meth.sig.returnType = (some .int)) (hlk : meth.locks = false) {Q : Int32 → Mm → Prop} (M : Mm) (a0 : Nat) (i1 : Int32) (i2 : Int32) (i3 : Int32) (a4 : Nat) (i5 : Int32) (h : S_X8_countPairs_28 (fun (a0 : Nat) (i1 : Int32) (i2 : Int32) (i3 : Int32) (M : Mm) => QW p l e ({ frames := 5, cells := 0, slots := 0, locals := 118 } : Room) s m args below meth c (MQ below (QiM D cA lo Q) args s 0 0 (fun q => lo ≤ q)) 8 D cA lo 0 0 M 4 [(0, .ref a0), (1, .int i1), (2, .int i2), (3, .int i3)] []) (fun (a0 : Nat) (i1 : Int32) (i2 : Int32) (i3 : Int32) (a4 : Nat) (i5 : Int32) (M : Mm) => QW p l e ({ frames := 5, cells := 0, slots := 0, locals := 118 } : Room) s m args below meth c (MQ below (QiM D cA lo Q) args s 0 0 (fun q => lo ≤ q)) 8 D cA lo 0 0 M 28 [(0, .ref a0), (1, .int i1), (2, .int i2), (3, .int i3), (4, .ref a4), (5, .int i5)] []) (fun (a0 : Nat) (i1 : Int32) (i3 : Int32) (a4 : Nat) (i5 : Int32) (i6 : Int32) (i7 : Int32) (is0 : Int32) (is1 : Int32) (M : Mm) => QW p l e ({ frames := 5, cells := 0, slots := 0, locals := 118 } : Room) s m args below meth c (MQ below (QiM D cA lo Q) args s 0 0 (fun q => lo ≤ q)) 8 D cA lo 0 0 M 76 [(0, .ref a0), (1, .int i1), (3, .int i3), (4, .ref a4), (5, .int i5), (6, .int i6), (7, .int i7)] [.int is1, .int is0]) Q M a0 i1 i2 i3 a4 i5) : QW p l e ({ frames := 5, cells := 0, slots := 0, locals := 118 } : Room) s m args below meth c (MQ below (QiM D cA lo Q) args s 0 0 (fun q => lo ≤ q)) 8 D cA lo 0 0 M 28 [(0, .ref a0), (1, .int i1), (2, .int i2), (3, .int i3), (4, .ref a4), (5, .int i5)] [] := by
  unfold S_X8_countPairs_28 at h
  refine q_iload C dX8_countPairs_28 (j := 5) rfl ?_
  refine q_aload C dX8_countPairs_30 (j := 4) rfl ?_
  refine q_ci (q_runV (As := []) (st := [.int i5]) C (c_X5_length l D cA lo h.2) (cwV 0 C.2.2.2.2.1 gX8_countPairs_X5_length rfl rfl rfl (by decide +kernel) ⟨Nat.le_of_ble_eq_true rfl, Nat.le_of_ble_eq_true rfl⟩) h.1 (by decide) rfl rfl rfl (Nat.le_of_ble_eq_true rfl) dX8_countPairs_32 ⟨Nat.le_of_ble_eq_true rfl, Nat.le_of_ble_eq_true rfl⟩) (fun r_5 M_z h => ?_)
  refine q_mem h.1 ?_
  have h := h.2
  refine q_icmp_ge (tgt := 118) C dX8_countPairs_35 (by decide) (fun z => ?_) (fun z => ?_)
  · have h := h.1 z
    refine q_iinc (v := (i3 + 1)) (lv' := [(3, .int (i3 + 1)), (0, .ref a0), (1, .int i1), (2, .int i2), (4, .ref a4), (5, .int i5)]) C dX8_countPairs_118 (j := 3) rfl rfl (by decide) rfl ?_
    refine q_goto (tgt := 4) C dX8_countPairs_121 (by decide) ?_
    exact q_sub [1, 2, 3, 0] rfl h
  · have h := h.2 z
    refine q_aload C dX8_countPairs_38 (j := 4) rfl ?_
    refine q_iload C dX8_countPairs_40 (j := 5) rfl ?_
    refine q_ci (q_runV (As := [.int i5]) (st := []) C (c_X5_get l D cA lo h.2) (cwV 1 C.2.2.2.2.1 gX8_countPairs_X5_get rfl rfl rfl (by decide +kernel) ⟨Nat.le_of_ble_eq_true rfl, Nat.le_of_ble_eq_true rfl⟩) h.1 (by decide) rfl rfl rfl (Nat.le_of_ble_eq_true rfl) dX8_countPairs_42 ⟨Nat.le_of_ble_eq_true rfl, Nat.le_of_ble_eq_true rfl⟩) (fun r_6 M_z h => ?_)
    refine q_mem h.1 ?_
    have h := h.2
    refine q_istore (lv' := [(6, .int r_6), (0, .ref a0), (1, .int i1), (2, .int i2), (3, .int i3), (4, .ref a4), (5, .int i5)]) C dX8_countPairs_45 (by decide) rfl ?_
    refine q_aload C dX8_countPairs_47 (j := 5) rfl ?_
    refine q_iload C dX8_countPairs_49 (j := 6) rfl ?_
    refine q_iconst (v := 1) C dX8_countPairs_51 (by decide) ?_
    refine q_iadd C dX8_countPairs_52 ?_
    refine q_ci (q_runV (As := [.int (i5 + 1)]) (st := []) C (c_X5_get l D cA lo h.2) (cwV 1 C.2.2.2.2.1 gX8_countPairs_X5_get rfl rfl rfl (by decide +kernel) ⟨Nat.le_of_ble_eq_true rfl, Nat.le_of_ble_eq_true rfl⟩) h.1 (by decide) rfl rfl rfl (Nat.le_of_ble_eq_true rfl) dX8_countPairs_53 ⟨Nat.le_of_ble_eq_true rfl, Nat.le_of_ble_eq_true rfl⟩) (fun r_7 M_z h => ?_)
    refine q_mem h.1 ?_
    have h := h.2
    refine q_istore (lv' := [(7, .int r_7), (6, .int r_6), (0, .ref a0), (1, .int i1), (2, .int i2), (3, .int i3), (4, .ref a4), (5, .int i5)]) C dX8_countPairs_56 (by decide) rfl ?_
    refine q_iload_n C dX8_countPairs_58 rfl (j := 4) rfl ?_
    refine q_aload_n C dX8_countPairs_59 rfl (j := 2) rfl ?_
    refine q_iload_n C dX8_countPairs_60 rfl (j := 3) rfl ?_
    refine q_iload C dX8_countPairs_61 (j := 1) rfl ?_
    refine q_iload C dX8_countPairs_63 (j := 0) rfl ?_
    refine q_ci (q_runV (As := [.int i1, .int r_6, .int r_7]) (st := [.int i2]) C (c_X8_isAllowed l D cA lo h.2) (cwV 3 C.2.2.2.2.1 gX8_countPairs_X8_isAllowed rfl rfl rfl (by decide +kernel) ⟨Nat.le_of_ble_eq_true rfl, Nat.le_of_ble_eq_true rfl⟩) h.1 (by decide) rfl rfl rfl (Nat.le_of_ble_eq_true rfl) dX8_countPairs_65 ⟨Nat.le_of_ble_eq_true rfl, Nat.le_of_ble_eq_true rfl⟩) (fun r_8 M_9 h => ?_)
    refine q_if_eq (tgt := 75) C dX8_countPairs_68 (by decide) (fun z => ?_) (fun z => ?_)
    · have h := h.1 z
      refine q_iconst (v := 0) C dX8_countPairs_75 (by decide) ?_
      exact q_sub [2, 3, 5, 6, 7, 1, 0] rfl h
    · have h := h.2 z
      refine q_iconst (v := 1) C dX8_countPairs_71 (by decide) ?_
      refine q_goto (tgt := 76) C dX8_countPairs_72 (by decide) ?_
      exact q_sub [2, 3, 5, 6, 7, 1, 0] rfl h
set_option maxRecDepth 100000 in
set_option maxHeartbeats 4000000 in
theorem b_X8_countPairs_76 {p : Program} {l : Launch} {e : Env} {s : State} {m : MethodId} {args : Array Value} {below : List Frame} {meth : Method} {c : Code} {D : va_G} {cA : Nat → ClassId} {lo : Nat} (C : Cx p s m args c cX8_countPairs 8 RX8 wsX8_countPairs D cA lo) (hr : meth.sig.returnType = (some .int)) (hlk : meth.locks = false) {Q : Int32 → Mm → Prop} (M : Mm) (a0 : Nat) (i1 : Int32) (i3 : Int32) (a4 : Nat) (i5 : Int32) (i6 : Int32) (i7 : Int32) (is0 : Int32) (is1 : Int32) (h : S_X8_countPairs_76 (fun (a0 : Nat) (i1 : Int32) (i2 : Int32) (i3 : Int32) (M : Mm) => QW p l e ({ frames := 5, cells := 0, slots := 0, locals := 118 } : Room) s m args below meth c (MQ below (QiM D cA lo Q) args s 0 0 (fun q => lo ≤ q)) 8 D cA lo 0 0 M 4 [(0, .ref a0), (1, .int i1), (2, .int i2), (3, .int i3)] []) (fun (a0 : Nat) (i1 : Int32) (i2 : Int32) (i3 : Int32) (a4 : Nat) (i5 : Int32) (M : Mm) => QW p l e ({ frames := 5, cells := 0, slots := 0, locals := 118 } : Room) s m args below meth c (MQ below (QiM D cA lo Q) args s 0 0 (fun q => lo ≤ q)) 8 D cA lo 0 0 M 28 [(0, .ref a0), (1, .int i1), (2, .int i2), (3, .int i3), (4, .ref a4), (5, .int i5)] []) (fun (a0 : Nat) (i1 : Int32) (i3 : Int32) (a4 : Nat) (i5 : Int32) (i6 : Int32) (i7 : Int32) (is0 : Int32) (is1 : Int32) (M : Mm) => QW p l e ({ frames := 5, cells := 0, slots := 0, locals := 118 } : Room) s m args below meth c (MQ below (QiM D cA lo Q) args s 0 0 (fun q => lo ≤ q)) 8 D cA lo 0 0 M 76 [(0, .ref a0), (1, .int i1), (3, .int i3), (4, .ref a4), (5, .int i5), (6, .int i6), (7, .int i7)] [.int is1, .int is0]) Q M a0 i1 i3 a4 i5 i6 i7 is0 is1) : QW p l e ({ frames := 5, cells := 0, slots := 0, locals := 118 } : Room) s m args below meth c (MQ below (QiM D cA lo Q) args s 0 0 (fun q => lo ≤ q)) 8 D cA lo 0 0 M 76 [(0, .ref a0), (1, .int i1), (3, .int i3), (4, .ref a4), (5, .int i5), (6, .int i6), (7, .int i7)] [.int is1, .int is0] := by
  unfold S_X8_countPairs_76 at h
  refine q_iadd C dX8_countPairs_76 ?_
  refine q_istore_n (lv' := [(2, .int (is0 + is1)), (0, .ref a0), (1, .int i1), (3, .int i3), (4, .ref a4), (5, .int i5), (6, .int i6), (7, .int i7)]) C dX8_countPairs_77 rfl (by decide) rfl ?_
  refine q_iload_n C dX8_countPairs_78 rfl (j := 0) rfl ?_
  refine q_aload_n C dX8_countPairs_79 rfl (j := 1) rfl ?_
  refine q_getR (ci := 8) (k0 := 1) (T := TX8) C inX8_countPairs_X8 rfl (by decide) h.1 (by decide) rfl (by decide +kernel) rfl dX8_countPairs_80 ?_
  obtain ⟨a_10, z, h⟩ := h.2
  refine q_ref z ?_
  refine q_iload C dX8_countPairs_83 (j := 7) rfl ?_
  refine q_iload C dX8_countPairs_85 (j := 6) rfl ?_
  refine q_ci (q_runV (As := [.int i7, .int i6]) (st := [.int (is0 + is1)]) C (c_X1_isOpen l D cA lo h.2) (cwV 2 C.2.2.2.2.1 gX8_countPairs_X1_isOpen rfl rfl rfl (by decide +kernel) ⟨Nat.le_of_ble_eq_true rfl, Nat.le_of_ble_eq_true rfl⟩) h.1 (by decide) rfl rfl rfl (Nat.le_of_ble_eq_true rfl) dX8_countPairs_87 ⟨Nat.le_of_ble_eq_true rfl, Nat.le_of_ble_eq_true rfl⟩) (fun r_11 M_z h => ?_)
  refine q_mem h.1 ?_
  have h := h.2
  refine q_if_eq (tgt := 109) C dX8_countPairs_90 (by decide) (fun z => ?_) (fun z => ?_)
  · have h := h.1 z
    refine q_iconst (v := 0) C dX8_countPairs_109 (by decide) ?_
    refine q_iadd C dX8_countPairs_110 ?_
    refine q_istore_n (lv' := [(2, .int ((is0 + is1) + 0)), (0, .ref a0), (1, .int i1), (3, .int i3), (4, .ref a4), (5, .int i5), (6, .int i6), (7, .int i7)]) C dX8_countPairs_111 rfl (by decide) rfl ?_
    refine q_iinc (v := (i5 + 1)) (lv' := [(5, .int (i5 + 1)), (2, .int ((is0 + is1) + 0)), (0, .ref a0), (1, .int i1), (3, .int i3), (4, .ref a4), (6, .int i6), (7, .int i7)]) C dX8_countPairs_112 (j := 5) rfl rfl (by decide) rfl ?_
    refine q_goto (tgt := 28) C dX8_countPairs_115 (by decide) ?_
    exact q_sub [2, 3, 1, 4, 5, 0] rfl h
  · have h := h.2 z
    refine q_aload_n C dX8_countPairs_93 rfl (j := 1) rfl ?_
    refine q_iload_n C dX8_countPairs_94 rfl (j := 2) rfl ?_
    refine q_iload C dX8_countPairs_95 (j := 7) rfl ?_
    refine q_iload C dX8_countPairs_97 (j := 6) rfl ?_
    refine q_ci (q_runV (As := [.int i1, .int i7, .int i6]) (st := [.int (is0 + is1)]) C (c_X8_isAllowed l D cA lo h.2) (cwV 3 C.2.2.2.2.1 gX8_countPairs_X8_isAllowed rfl rfl rfl (by decide +kernel) ⟨Nat.le_of_ble_eq_true rfl, Nat.le_of_ble_eq_true rfl⟩) h.1 (by decide) rfl rfl rfl (Nat.le_of_ble_eq_true rfl) dX8_countPairs_99 ⟨Nat.le_of_ble_eq_true rfl, Nat.le_of_ble_eq_true rfl⟩) (fun r_12 M_13 h => ?_)
    refine q_if_eq (tgt := 109) C dX8_countPairs_102 (by decide) (fun z => ?_) (fun z => ?_)
    · have h := h.1 z
      refine q_iconst (v := 0) C dX8_countPairs_109 (by decide) ?_
      refine q_iadd C dX8_countPairs_110 ?_
      refine q_istore_n (lv' := [(2, .int ((is0 + is1) + 0)), (0, .ref a0), (1, .int i1), (3, .int i3), (4, .ref a4), (5, .int i5), (6, .int i6), (7, .int i7)]) C dX8_countPairs_111 rfl (by decide) rfl ?_
      refine q_iinc (v := (i5 + 1)) (lv' := [(5, .int (i5 + 1)), (2, .int ((is0 + is1) + 0)), (0, .ref a0), (1, .int i1), (3, .int i3), (4, .ref a4), (6, .int i6), (7, .int i7)]) C dX8_countPairs_112 (j := 5) rfl rfl (by decide) rfl ?_
      refine q_goto (tgt := 28) C dX8_countPairs_115 (by decide) ?_
      exact q_sub [2, 3, 1, 4, 5, 0] rfl h
    · have h := h.2 z
      refine q_iconst (v := 1) C dX8_countPairs_105 (by decide) ?_
      refine q_goto (tgt := 110) C dX8_countPairs_106 (by decide) ?_
      refine q_iadd C dX8_countPairs_110 ?_
      refine q_istore_n (lv' := [(2, .int ((is0 + is1) + 1)), (0, .ref a0), (1, .int i1), (3, .int i3), (4, .ref a4), (5, .int i5), (6, .int i6), (7, .int i7)]) C dX8_countPairs_111 rfl (by decide) rfl ?_
      refine q_iinc (v := (i5 + 1)) (lv' := [(5, .int (i5 + 1)), (2, .int ((is0 + is1) + 1)), (0, .ref a0), (1, .int i1), (3, .int i3), (4, .ref a4), (6, .int i6), (7, .int i7)]) C dX8_countPairs_112 (j := 5) rfl rfl (by decide) rfl ?_
      refine q_goto (tgt := 28) C dX8_countPairs_115 (by decide) ?_
      exact q_sub [2, 3, 1, 4, 5, 0] rfl h
set_option maxRecDepth 100000 in
set_option maxHeartbeats 4000000 in
theorem c_X8_countPairs (l : Launch) (D : va_G) (cA : Nat → ClassId) (lo : Nat) {M : Mm} {a0 : Nat} {i1 : Int32} {Q : Int32 → Mm → Prop} (h : T_X8_countPairs M a0 i1 Q) : Met l yX8_countPairs wsX8_countPairs ({ frames := 5, cells := 0, slots := 0, locals := 118 } : Room) (PcM D cA lo [.ref a0, .int i1] M) (QiM D cA lo Q) 0 0 (fun q => lo ≤ q) := by
  refine q_start (cc := cX8_countPairs) (nL := 8) (ret := (some .int)) (by decide) rfl rfl (Nat.le_of_ble_eq_true rfl) ?_
  intro p e s m args below meth c C hr hlk hin
  unfold T_X8_countPairs at h
  have h := h (fun (a0 : Nat) (i1 : Int32) (i2 : Int32) (i3 : Int32) (M : Mm) => QW p l e ({ frames := 5, cells := 0, slots := 0, locals := 118 } : Room) s m args below meth c (MQ below (QiM D cA lo Q) args s 0 0 (fun q => lo ≤ q)) 8 D cA lo 0 0 M 4 [(0, .ref a0), (1, .int i1), (2, .int i2), (3, .int i3)] []) (fun (a0 : Nat) (i1 : Int32) (i2 : Int32) (i3 : Int32) (a4 : Nat) (i5 : Int32) (M : Mm) => QW p l e ({ frames := 5, cells := 0, slots := 0, locals := 118 } : Room) s m args below meth c (MQ below (QiM D cA lo Q) args s 0 0 (fun q => lo ≤ q)) 8 D cA lo 0 0 M 28 [(0, .ref a0), (1, .int i1), (2, .int i2), (3, .int i3), (4, .ref a4), (5, .int i5)] []) (fun (a0 : Nat) (i1 : Int32) (i3 : Int32) (a4 : Nat) (i5 : Int32) (i6 : Int32) (i7 : Int32) (is0 : Int32) (is1 : Int32) (M : Mm) => QW p l e ({ frames := 5, cells := 0, slots := 0, locals := 118 } : Room) s m args below meth c (MQ below (QiM D cA lo Q) args s 0 0 (fun q => lo ≤ q)) 8 D cA lo 0 0 M 76 [(0, .ref a0), (1, .int i1), (3, .int i3), (4, .ref a4), (5, .int i5), (6, .int i6), (7, .int i7)] [.int is1, .int is0]) (fun a0 i1 i2 i3 M h => b_X8_countPairs_4 C hr hlk M a0 i1 i2 i3 h) (fun a0 i1 i2 i3 a4 i5 M h => b_X8_countPairs_28 C hr hlk M a0 i1 i2 i3 a4 i5 h) (fun a0 i1 i3 a4 i5 i6 i7 is0 is1 M h => b_X8_countPairs_76 C hr hlk M a0 i1 i3 a4 i5 i6 i7 is0 is1 h)
  refine q_iconst (v := 0) C dX8_countPairs_0 (by decide) ?_
  refine q_istore_n (lv' := [(2, .int 0), (0, .ref a0), (1, .int i1)]) C dX8_countPairs_1 rfl (by decide) rfl ?_
  refine q_iconst (v := 0) C dX8_countPairs_2 (by decide) ?_
  refine q_istore_n (lv' := [(3, .int 0), (2, .int 0), (0, .ref a0), (1, .int i1)]) C dX8_countPairs_3 rfl (by decide) rfl ?_
  exact q_sub [2, 3, 1, 0] rfl h
def S_X8_may_14 (K14 : Nat → Int32 → Int32 → Mm → Nat → Nat → Prop) (Cc Zz : Nat) (Q : Int32 → Mm → Prop) (X : String → Mm → Prop) (M : Mm) (a0 : Nat) (i1 : Int32) (is0 : Int32) (cc zz : Nat) : Prop := ∃ dc_3 ds_3 : Nat, (cc + dc_3 ≤ Cc ∧ zz + ds_3 ≤ Zz) ∧ T_X8_needArgument dc_3 ds_3 M is0 (fun M_2 => ((cc + dc_3) ≤ Cc ∧ (zz + ds_3) ≤ Zz) ∧ kM M_2 a0 = (8, 8) ∧ T_X8_countPairs M_2 a0 i1 (fun r_4 M_5 => (cc + dc_3) ≤ Cc ∧ (zz + ds_3) ≤ Zz ∧ Q r_4 M_5)) X
def T_X8_may (Cc Zz : Nat) (M : Mm) (a0 : Nat) (i1 : Int32) (Q : Int32 → Mm → Prop) (X : String → Mm → Prop) : Prop := ∀ (K14 : Nat → Int32 → Int32 → Mm → Nat → Nat → Prop), (∀ (a0 : Nat) (i1 : Int32) (is0 : Int32) (M : Mm) (cc zz : Nat), S_X8_may_14 K14 Cc Zz Q X M a0 i1 is0 cc zz → K14 a0 i1 is0 M cc zz) → (i1 < 0 → K14 a0 i1 0 M 0 0) ∧ (¬ i1 < 0 → (2 < i1 → K14 a0 i1 0 M 0 0) ∧ (¬ 2 < i1 → K14 a0 i1 1 M 0 0))
set_option maxRecDepth 100000 in
set_option maxHeartbeats 4000000 in
theorem b_X8_may_14 {p : Program} {l : Launch} {e : Env} {s : State} {m : MethodId} {args : Array Value} {below : List Frame} {meth : Method} {c : Code} {D : va_G} {cA : Nat → ClassId} {lo : Nat} (C : Cx p s m args c cX8_may 2 RX8 wsX8_may D cA lo) (hr : meth.sig.returnType = (some .int)) (hlk : meth.locks = false) (hl : l.stackTraces = false) (hex : ∀ x ∈ c.exceptionTable.toList, ∀ pc, covers x pc = false) {Q : Int32 → Mm → Prop} {Cc Zz : Nat} {X : String → Mm → Prop} (M : Mm) (a0 : Nat) (i1 : Int32) (is0 : Int32) (cc zz : Nat) (h : S_X8_may_14 (fun (a0 : Nat) (i1 : Int32) (is0 : Int32) (M : Mm) (cc zz : Nat) => QW p l e ({ frames := 7, cells := Cc, slots := Zz, locals := 145 } : Room) s m args below meth c (vx_MQ below (QiM D cA lo Q) (XcM D cA lo X) args s Cc Zz (fun q => lo ≤ q)) 2 D cA lo cc zz M 14 [(0, .ref a0), (1, .int i1)] [.int is0]) Cc Zz Q X M a0 i1 is0 cc zz) : QW p l e ({ frames := 7, cells := Cc, slots := Zz, locals := 145 } : Room) s m args below meth c (vx_MQ below (QiM D cA lo Q) (XcM D cA lo X) args s Cc Zz (fun q => lo ≤ q)) 2 D cA lo cc zz M 14 [(0, .ref a0), (1, .int i1)] [.int is0] := by
  unfold S_X8_may_14 at h
  obtain ⟨dc_3, ds_3, hcz, h⟩ := h
  refine q_xv (qx_runS (As := [.int is0]) (st := []) C (c_X8_needArgument l hl D cA lo h) (va_cwS 1 C.2.2.2.2.1 gX8_may_X8_needArgument rfl rfl rfl (by decide +kernel) ⟨Nat.le_of_ble_eq_true rfl, Nat.le_of_ble_eq_true rfl⟩) rfl rfl (Nat.le_of_ble_eq_true rfl) dX8_may_14 hcz) (fun E M_x h => ?_) (fun M_2 h => ?_)
  · exact q_xout (fun x hx => hex x hx _) hlk hcz.1 hcz.2 h
  · refine q_aload_n C dX8_may_17 rfl (j := 0) rfl ?_
    refine q_iload_n C dX8_may_18 rfl (j := 1) rfl ?_
    have hcz := h.1
    have h := h.2
    refine q_ci (q_runV (As := [.int i1]) (st := []) C (c_X8_countPairs l D cA lo h.2) (cwV 1 C.2.2.2.2.1 gX8_may_X8_countPairs rfl rfl rfl (by decide +kernel) ⟨Nat.le_of_ble_eq_true rfl, Nat.le_of_ble_eq_true rfl⟩) h.1 (by decide) rfl rfl rfl (Nat.le_of_ble_eq_true rfl) dX8_may_19 ⟨Nat.le_trans (Nat.le_of_eq (Nat.add_zero _)) hcz.1, Nat.le_trans (Nat.le_of_eq (Nat.add_zero _)) hcz.2⟩) (fun r_4 M_5 h => ?_)
    exact q_xret (q_iret C hr hlk dX8_may_22 h.1 h.2.1 h.2.2)
set_option maxRecDepth 100000 in
set_option maxHeartbeats 4000000 in
theorem c_X8_may (l : Launch) (hl : l.stackTraces = false) (D : va_G) (cA : Nat → ClassId) (lo : Nat) {M : Mm} {a0 : Nat} {i1 : Int32} {Cc Zz : Nat} {Q : Int32 → Mm → Prop} {X : String → Mm → Prop} (h : T_X8_may Cc Zz M a0 i1 Q X) : vx_Met l yX8_may wsX8_may ({ frames := 7, cells := Cc, slots := Zz, locals := 145 } : Room) (PcM D cA lo [.ref a0, .int i1] M) (QiM D cA lo Q) (XcM D cA lo X) Cc Zz (fun q => lo ≤ q) := by
  refine q_startX (cc := cX8_may) (nL := 2) (ret := (some .int)) (by decide) rfl rfl (Nat.le_of_ble_eq_true rfl) ?_
  intro p e s m args below meth c C hr hlk hin hex
  unfold T_X8_may at h
  have h := h (fun (a0 : Nat) (i1 : Int32) (is0 : Int32) (M : Mm) (cc zz : Nat) => QW p l e ({ frames := 7, cells := Cc, slots := Zz, locals := 145 } : Room) s m args below meth c (vx_MQ below (QiM D cA lo Q) (XcM D cA lo X) args s Cc Zz (fun q => lo ≤ q)) 2 D cA lo cc zz M 14 [(0, .ref a0), (1, .int i1)] [.int is0]) (fun a0 i1 is0 M cc zz h => b_X8_may_14 C hr hlk hl hex M a0 i1 is0 cc zz h)
  refine q_iload_n C dX8_may_0 rfl (j := 1) rfl ?_
  refine q_if_lt (tgt := 13) C dX8_may_1 (by decide) (fun z => ?_) (fun z => ?_)
  · have h := h.1 z
    refine q_iconst (v := 0) C dX8_may_13 (by decide) ?_
    exact q_sub [0, 1] rfl h
  · have h := h.2 z
    refine q_iload_n C dX8_may_4 rfl (j := 1) rfl ?_
    refine q_iconst (v := 2) C dX8_may_5 (by decide) ?_
    refine q_icmp_gt (tgt := 13) C dX8_may_6 (by decide) (fun z => ?_) (fun z => ?_)
    · have h := h.1 z
      refine q_iconst (v := 0) C dX8_may_13 (by decide) ?_
      exact q_sub [0, 1] rfl h
    · have h := h.2 z
      refine q_iconst (v := 1) C dX8_may_9 (by decide) ?_
      refine q_goto (tgt := 14) C dX8_may_10 (by decide) ?_
      exact q_sub [0, 1] rfl h
def T_X8_holesWithout (Cc Zz : Nat) (M : Mm) (a0 : Nat) (i1 : Int32) (Q : Int32 → Mm → Prop) (X : String → Mm → Prop) : Prop := ∃ dc_3 ds_3 : Nat, (0 + dc_3 ≤ Cc ∧ 0 + ds_3 ≤ Zz) ∧ kM M a0 = (8, 8) ∧ T_X8_needFace dc_3 ds_3 M a0 i1 (fun M_2 => kM M_2 a0 = (8, 8) ∧ ∃ a_4 : Nat, rM M_2 a0 1 = some a_4 ∧ ((0 + dc_3) ≤ Cc ∧ (0 + ds_3) ≤ Zz) ∧ kM M_2 a_4 = (1, 5) ∧ T_X1_release M_2 a_4 i1 (fun M_6 => kM M_6 a0 = (8, 8) ∧ ∃ a_7 : Nat, rM M_6 a0 2 = some a_7 ∧ ((0 + dc_3) ≤ Cc ∧ (0 + ds_3) ≤ Zz) ∧ kM M_6 a_7 = (7, 6) ∧ T_X7_holeCount M_6 a_7 (fun r_8 M_9 => kM M_9 a0 = (8, 8) ∧ ∃ a_10 : Nat, rM M_9 a0 1 = some a_10 ∧ ((0 + dc_3) ≤ Cc ∧ (0 + ds_3) ≤ Zz) ∧ kM M_9 a_10 = (1, 5) ∧ T_X1_claim M_9 a_10 i1 (fun M_12 => (0 + dc_3) ≤ Cc ∧ (0 + ds_3) ≤ Zz ∧ Q r_8 M_12)))) X
theorem inX8_holesWithout_X8 : ∀ w ∈ wsX80, w ∈ wsX8_holesWithout := by decide +kernel
set_option maxRecDepth 100000 in
set_option maxHeartbeats 4000000 in
theorem c_X8_holesWithout (l : Launch) (hl : l.stackTraces = false) (D : va_G) (cA : Nat → ClassId) (lo : Nat) {M : Mm} {a0 : Nat} {i1 : Int32} {Cc Zz : Nat} {Q : Int32 → Mm → Prop} {X : String → Mm → Prop} (h : T_X8_holesWithout Cc Zz M a0 i1 Q X) : vx_Met l yX8_holesWithout wsX8_holesWithout ({ frames := 7, cells := Cc, slots := Zz, locals := 120 } : Room) (PcM D cA lo [.ref a0, .int i1] M) (QiM D cA lo Q) (XcM D cA lo X) Cc Zz (fun q => lo ≤ q) := by
  refine q_startX (cc := cX8_holesWithout) (nL := 3) (ret := (some .int)) (by decide) rfl rfl (Nat.le_of_ble_eq_true rfl) ?_
  intro p e s m args below meth c C hr hlk hin hex
  unfold T_X8_holesWithout at h
  refine q_aload_n C dX8_holesWithout_0 rfl (j := 0) rfl ?_
  refine q_iload_n C dX8_holesWithout_1 rfl (j := 1) rfl ?_
  obtain ⟨dc_3, ds_3, hcz, h⟩ := h
  refine q_xv (qx_runV (As := [.int i1]) (st := []) C (c_X8_needFace l hl D cA lo h.2) (cwV 1 C.2.2.2.2.1 gX8_holesWithout_X8_needFace rfl rfl rfl (by decide +kernel) ⟨Nat.le_of_ble_eq_true rfl, Nat.le_of_ble_eq_true rfl⟩) h.1 (by decide) rfl rfl rfl (Nat.le_of_ble_eq_true rfl) dX8_holesWithout_2 hcz) (fun E M_x h => ?_) (fun M_2 h => ?_)
  · exact q_xout (fun x hx => hex x hx _) hlk hcz.1 hcz.2 h
  · refine q_aload_n C dX8_holesWithout_5 rfl (j := 0) rfl ?_
    refine q_getR (ci := 8) (k0 := 1) (T := TX8) C inX8_holesWithout_X8 rfl (by decide) h.1 (by decide) rfl (by decide +kernel) rfl dX8_holesWithout_6 ?_
    obtain ⟨a_4, z, h⟩ := h.2
    refine q_ref z ?_
    refine q_iload_n C dX8_holesWithout_9 rfl (j := 1) rfl ?_
    have hcz := h.1
    have h := h.2
    refine q_cv (q_runV (As := [.int i1]) (st := []) C (c_X1_release l D cA lo h.2) (cwV 1 C.2.2.2.2.1 gX8_holesWithout_X1_release rfl rfl rfl (by decide +kernel) ⟨Nat.le_of_ble_eq_true rfl, Nat.le_of_ble_eq_true rfl⟩) h.1 (by decide) rfl rfl rfl (Nat.le_of_ble_eq_true rfl) dX8_holesWithout_10 ⟨Nat.le_trans (Nat.le_of_eq (Nat.add_zero _)) hcz.1, Nat.le_trans (Nat.le_of_eq (Nat.add_zero _)) hcz.2⟩) (fun M_6 h => ?_)
    refine q_aload_n C dX8_holesWithout_13 rfl (j := 0) rfl ?_
    refine q_getR (ci := 8) (k0 := 2) (T := TX8) C inX8_holesWithout_X8 rfl (by decide) h.1 (by decide) rfl (by decide +kernel) rfl dX8_holesWithout_14 ?_
    obtain ⟨a_7, z, h⟩ := h.2
    refine q_ref z ?_
    have hcz := h.1
    have h := h.2
    refine q_ci (q_runV (As := []) (st := []) C (c_X7_holeCount l D cA lo h.2) (cwV 0 C.2.2.2.2.1 gX8_holesWithout_X7_holeCount rfl rfl rfl (by decide +kernel) ⟨Nat.le_of_ble_eq_true rfl, Nat.le_of_ble_eq_true rfl⟩) h.1 (by decide) rfl rfl rfl (Nat.le_of_ble_eq_true rfl) dX8_holesWithout_17 ⟨Nat.le_trans (Nat.le_of_eq (Nat.add_zero _)) hcz.1, Nat.le_trans (Nat.le_of_eq (Nat.add_zero _)) hcz.2⟩) (fun r_8 M_9 h => ?_)
    refine q_istore_n (lv' := [(2, .int r_8), (0, .ref a0), (1, .int i1)]) C dX8_holesWithout_20 rfl (by decide) rfl ?_
    refine q_aload_n C dX8_holesWithout_21 rfl (j := 1) rfl ?_
    refine q_getR (ci := 8) (k0 := 1) (T := TX8) C inX8_holesWithout_X8 rfl (by decide) h.1 (by decide) rfl (by decide +kernel) rfl dX8_holesWithout_22 ?_
    obtain ⟨a_10, z, h⟩ := h.2
    refine q_ref z ?_
    refine q_iload_n C dX8_holesWithout_25 rfl (j := 2) rfl ?_
    have hcz := h.1
    have h := h.2
    refine q_cv (q_runV (As := [.int i1]) (st := []) C (c_X1_claim l D cA lo h.2) (cwV 1 C.2.2.2.2.1 gX8_holesWithout_X1_claim rfl rfl rfl (by decide +kernel) ⟨Nat.le_of_ble_eq_true rfl, Nat.le_of_ble_eq_true rfl⟩) h.1 (by decide) rfl rfl rfl (Nat.le_of_ble_eq_true rfl) dX8_holesWithout_26 ⟨Nat.le_trans (Nat.le_of_eq (Nat.add_zero _)) hcz.1, Nat.le_trans (Nat.le_of_eq (Nat.add_zero _)) hcz.2⟩) (fun M_12 h => ?_)
    refine q_iload_n C dX8_holesWithout_29 rfl (j := 0) rfl ?_
    exact q_xret (q_iret C hr hlk dX8_holesWithout_30 h.1 h.2.1 h.2.2)
def T_X8_mix (M : Mm) (l0 : Int64) (l2 : Int64) (Q : Int64 → Prop) : Prop := Q ((l0 * 31) + l2)
set_option maxRecDepth 100000 in
set_option maxHeartbeats 4000000 in
theorem c_X8_mix (l : Launch) (D : va_G) (cA : Nat → ClassId) (lo : Nat) {M : Mm} {l0 : Int64} {l2 : Int64} {Q : Int64 → Prop} (h : T_X8_mix M l0 l2 Q) : Met l yX8_mix wsX8_mix ({ frames := 0, cells := 0, slots := 0, locals := 0 } : Room) (PcM D cA lo [.long l0, .long l2] M) (QlM D cA lo (fun r M1 => M1 = M ∧ Q r)) 0 0 (fun q => lo ≤ q) := by
  refine q_start (cc := cX8_mix) (nL := 4) (ret := (some .long)) (by decide) rfl rfl (Nat.le_of_ble_eq_true rfl) ?_
  intro p e s m args below meth c C hr hlk hin
  unfold T_X8_mix at h
  refine q_lload_n C dX8_mix_0 rfl (j := 0) rfl ?_
  refine q_ldc2 (v := 31) C (by decide +kernel) dX8_mix_1 ?_
  refine q_lmul C dX8_mix_4 ?_
  refine q_lload_n C dX8_mix_5 rfl (j := 1) rfl ?_
  refine q_ladd C dX8_mix_6 ?_
  exact q_lret C hr hlk dX8_mix_7 (Nat.le_of_ble_eq_true rfl) (Nat.le_of_ble_eq_true rfl) ⟨rfl, h⟩
def S_X8_wholeBulk_4 (K4 : Nat → Int64 → Int32 → Prop) (Q : Int64 → Prop) (M : Mm) (a0 : Nat) (l1 : Int64) (i3 : Int32) : Prop := kM M a0 = (8, 8) ∧ ∃ a_1 : Nat, rM M a0 1 = some a_1 ∧ kM M a_1 = (1, 5) ∧ T_X1_ever M a_1 (fun r_2 => (r_2 ≤ i3 → Q l1) ∧ (¬ r_2 ≤ i3 → kM M a0 = (8, 8) ∧ ∃ a_3 : Nat, rM M a0 0 = some a_3 ∧ kM M a0 = (8, 8) ∧ ∃ a_4 : Nat, rM M a0 1 = some a_4 ∧ kM M a_4 = (1, 5) ∧ T_X1_ring M a_4 i3 (fun r_5 => kM M a_3 = (3, 4) ∧ T_X3_bulkOf M a_3 r_5 (fun r_6 => K4 a0 (l1 + r_6) (i3 + 1)))))
def T_X8_wholeBulk (M : Mm) (a0 : Nat) (Q : Int64 → Prop) : Prop := ∀ (K4 : Nat → Int64 → Int32 → Prop), (∀ (a0 : Nat) (l1 : Int64) (i3 : Int32), S_X8_wholeBulk_4 K4 Q M a0 l1 i3 → K4 a0 l1 i3) → K4 a0 0 0
theorem inX8_wholeBulk_X8 : ∀ w ∈ wsX80, w ∈ wsX8_wholeBulk := by decide +kernel
set_option maxRecDepth 100000 in
set_option maxHeartbeats 4000000 in
theorem b_X8_wholeBulk_4 {p : Program} {l : Launch} {e : Env} {s : State} {m : MethodId} {args : Array Value} {below : List Frame} {meth : Method} {c : Code} {D : va_G} {cA : Nat → ClassId} {lo : Nat} (C : Cx p s m args c cX8_wholeBulk 4 RX8 wsX8_wholeBulk D cA lo) (hr : meth.sig.returnType = (some .long)) (hlk : meth.locks = false) {Q : Int64 → Prop} {M : Mm} (a0 : Nat) (l1 : Int64) (i3 : Int32) (h : S_X8_wholeBulk_4 (fun (a0 : Nat) (l1 : Int64) (i3 : Int32) => QW p l e ({ frames := 4, cells := 0, slots := 0, locals := 96 } : Room) s m args below meth c (MQ below (QlM D cA lo (fun r M1 => M1 = M ∧ Q r)) args s 0 0 (fun q => lo ≤ q)) 4 D cA lo 0 0 M 4 [(0, .ref a0), (1, .long l1), (3, .int i3)] []) Q M a0 l1 i3) : QW p l e ({ frames := 4, cells := 0, slots := 0, locals := 96 } : Room) s m args below meth c (MQ below (QlM D cA lo (fun r M1 => M1 = M ∧ Q r)) args s 0 0 (fun q => lo ≤ q)) 4 D cA lo 0 0 M 4 [(0, .ref a0), (1, .long l1), (3, .int i3)] [] := by
  unfold S_X8_wholeBulk_4 at h
  refine q_iload_n C dX8_wholeBulk_4 rfl (j := 2) rfl ?_
  refine q_aload_n C dX8_wholeBulk_5 rfl (j := 0) rfl ?_
  refine q_getR (ci := 8) (k0 := 1) (T := TX8) C inX8_wholeBulk_X8 rfl (by decide) h.1 (by decide) rfl (by decide +kernel) rfl dX8_wholeBulk_6 ?_
  obtain ⟨a_1, z, h⟩ := h.2
  refine q_ref z ?_
  refine q_ci (q_runV (As := []) (st := [.int i3]) C (c_X1_ever l D cA lo h.2) (cwV 0 C.2.2.2.2.1 gX8_wholeBulk_X1_ever rfl rfl rfl (by decide +kernel) ⟨Nat.le_of_ble_eq_true rfl, Nat.le_of_ble_eq_true rfl⟩) h.1 (by decide) rfl rfl rfl (Nat.le_of_ble_eq_true rfl) dX8_wholeBulk_9 ⟨Nat.le_of_ble_eq_true rfl, Nat.le_of_ble_eq_true rfl⟩) (fun r_2 M_z h => ?_)
  refine q_mem h.1 ?_
  have h := h.2
  refine q_icmp_ge (tgt := 39) C dX8_wholeBulk_12 (by decide) (fun z => ?_) (fun z => ?_)
  · have h := h.1 z
    refine q_lload_n C dX8_wholeBulk_39 rfl (j := 1) rfl ?_
    exact q_lret C hr hlk dX8_wholeBulk_40 (Nat.le_of_ble_eq_true rfl) (Nat.le_of_ble_eq_true rfl) ⟨rfl, h⟩
  · have h := h.2 z
    refine q_lload_n C dX8_wholeBulk_15 rfl (j := 1) rfl ?_
    refine q_aload_n C dX8_wholeBulk_16 rfl (j := 0) rfl ?_
    refine q_getR (ci := 8) (k0 := 0) (T := TX8) C inX8_wholeBulk_X8 rfl (by decide) h.1 (by decide) rfl (by decide +kernel) rfl dX8_wholeBulk_17 ?_
    obtain ⟨a_3, z, h⟩ := h.2
    refine q_ref z ?_
    refine q_aload_n C dX8_wholeBulk_20 rfl (j := 0) rfl ?_
    refine q_getR (ci := 8) (k0 := 1) (T := TX8) C inX8_wholeBulk_X8 rfl (by decide) h.1 (by decide) rfl (by decide +kernel) rfl dX8_wholeBulk_21 ?_
    obtain ⟨a_4, z, h⟩ := h.2
    refine q_ref z ?_
    refine q_iload_n C dX8_wholeBulk_24 rfl (j := 2) rfl ?_
    refine q_cr (q_runV (As := [.int i3]) (st := [.ref a_3, .long l1]) C (c_X1_ring l D cA lo h.2) (cwV 1 C.2.2.2.2.1 gX8_wholeBulk_X1_ring rfl rfl rfl (by decide +kernel) ⟨Nat.le_of_ble_eq_true rfl, Nat.le_of_ble_eq_true rfl⟩) h.1 (by decide) rfl rfl rfl (Nat.le_of_ble_eq_true rfl) dX8_wholeBulk_25 ⟨Nat.le_of_ble_eq_true rfl, Nat.le_of_ble_eq_true rfl⟩) (fun r_5 M_z h => ?_)
    refine q_mem h.1 ?_
    have h := h.2
    refine q_cl (q_runV (As := [.ref r_5]) (st := [.long l1]) C (c_X3_bulkOf l D cA lo h.2) (cwV 1 C.2.2.2.2.1 gX8_wholeBulk_X3_bulkOf rfl rfl rfl (by decide +kernel) ⟨Nat.le_of_ble_eq_true rfl, Nat.le_of_ble_eq_true rfl⟩) h.1 (by decide) rfl rfl rfl (Nat.le_of_ble_eq_true rfl) dX8_wholeBulk_28 ⟨Nat.le_of_ble_eq_true rfl, Nat.le_of_ble_eq_true rfl⟩) (fun r_6 M_z h => ?_)
    refine q_mem h.1 ?_
    have h := h.2
    refine q_ladd C dX8_wholeBulk_31 ?_
    refine q_lstore_n (lv' := [(1, .long (l1 + r_6)), (0, .ref a0), (3, .int i3)]) C dX8_wholeBulk_32 rfl (by decide) rfl ?_
    refine q_iinc (v := (i3 + 1)) (lv' := [(3, .int (i3 + 1)), (1, .long (l1 + r_6)), (0, .ref a0)]) C dX8_wholeBulk_33 (j := 2) rfl rfl (by decide) rfl ?_
    refine q_goto (tgt := 4) C dX8_wholeBulk_36 (by decide) ?_
    exact q_sub [2, 1, 0] rfl h
set_option maxRecDepth 100000 in
set_option maxHeartbeats 4000000 in
theorem c_X8_wholeBulk (l : Launch) (D : va_G) (cA : Nat → ClassId) (lo : Nat) {M : Mm} {a0 : Nat} {Q : Int64 → Prop} (h : T_X8_wholeBulk M a0 Q) : Met l yX8_wholeBulk wsX8_wholeBulk ({ frames := 4, cells := 0, slots := 0, locals := 96 } : Room) (PcM D cA lo [.ref a0] M) (QlM D cA lo (fun r M1 => M1 = M ∧ Q r)) 0 0 (fun q => lo ≤ q) := by
  refine q_start (cc := cX8_wholeBulk) (nL := 4) (ret := (some .long)) (by decide) rfl rfl (Nat.le_of_ble_eq_true rfl) ?_
  intro p e s m args below meth c C hr hlk hin
  unfold T_X8_wholeBulk at h
  have h := h (fun (a0 : Nat) (l1 : Int64) (i3 : Int32) => QW p l e ({ frames := 4, cells := 0, slots := 0, locals := 96 } : Room) s m args below meth c (MQ below (QlM D cA lo (fun r M1 => M1 = M ∧ Q r)) args s 0 0 (fun q => lo ≤ q)) 4 D cA lo 0 0 M 4 [(0, .ref a0), (1, .long l1), (3, .int i3)] []) (fun a0 l1 i3 h => b_X8_wholeBulk_4 C hr hlk a0 l1 i3 h)
  refine q_lconst (v := 0) C dX8_wholeBulk_0 (by decide) ?_
  refine q_lstore_n (lv' := [(1, .long 0), (0, .ref a0)]) C dX8_wholeBulk_1 rfl (by decide) rfl ?_
  refine q_iconst (v := 0) C dX8_wholeBulk_2 (by decide) ?_
  refine q_istore_n (lv' := [(3, .int 0), (1, .long 0), (0, .ref a0)]) C dX8_wholeBulk_3 rfl (by decide) rfl ?_
  exact q_sub [2, 1, 0] rfl h
def T_X8_countAround (M : Mm) (a0 : Nat) (i1 : Int32) (i2 : Int32) (Q : Int32 → Mm → Prop) : Prop := (i2 = 0 → kM M a0 = (8, 8) ∧ ∃ a_1 : Nat, rM M a0 1 = some a_1 ∧ kM M a_1 = (1, 5) ∧ T_X1_neighboursOf M a_1 i1 (fun r_2 => Q r_2 M)) ∧ (i2 = 1 → kM M a0 = (8, 8) ∧ ∃ a_3 : Nat, rM M a0 2 = some a_3 ∧ kM M a_3 = (7, 6) ∧ T_X7_facesAt M a_3 i1 (fun r_4 => Q r_4 M)) ∧ (i2 = 2 → kM M a0 = (8, 8) ∧ ∃ a_5 : Nat, rM M a0 2 = some a_5 ∧ kM M a_5 = (7, 6) ∧ T_X7_openFrom M a_5 i1 (fun r_6 => Q r_6 M)) ∧ (¬ i2 = 0 ∧ ¬ i2 = 1 ∧ ¬ i2 = 2 → kM M a0 = (8, 8) ∧ ∃ a_7 : Nat, rM M a0 2 = some a_7 ∧ kM M a_7 = (7, 6) ∧ T_X7_fanCount M a_7 i1 (fun r_8 M_9 => Q r_8 M_9))
theorem inX8_countAround_X8 : ∀ w ∈ wsX80, w ∈ wsX8_countAround := by decide +kernel
set_option maxRecDepth 100000 in
set_option maxHeartbeats 4000000 in
theorem c_X8_countAround (l : Launch) (D : va_G) (cA : Nat → ClassId) (lo : Nat) {M : Mm} {a0 : Nat} {i1 : Int32} {i2 : Int32} {Q : Int32 → Mm → Prop} (h : T_X8_countAround M a0 i1 i2 Q) : Met l yX8_countAround wsX8_countAround ({ frames := 4, cells := 0, slots := 0, locals := 93 } : Room) (PcM D cA lo [.ref a0, .int i1, .int i2] M) (QiM D cA lo Q) 0 0 (fun q => lo ≤ q) := by
  refine q_start (cc := cX8_countAround) (nL := 3) (ret := (some .int)) (by decide) rfl rfl (Nat.le_of_ble_eq_true rfl) ?_
  intro p e s m args below meth c C hr hlk hin
  unfold T_X8_countAround at h
  refine q_iload_n C dX8_countAround_0 rfl (j := 2) rfl ?_
  rcases Decidable.em (i2 = 0) with z0 | z0
  · have h := h.1 z0
    refine q_tableIn (off := 27) (tgt := 28) C dX8_countAround_1 (by rw [z0]; decide) (by rw [z0]; decide) (by rw [z0]; rfl) (by decide) ?_
    refine q_aload_n C dX8_countAround_28 rfl (j := 0) rfl ?_
    refine q_getR (ci := 8) (k0 := 1) (T := TX8) C inX8_countAround_X8 rfl (by decide) h.1 (by decide) rfl (by decide +kernel) rfl dX8_countAround_29 ?_
    obtain ⟨a_1, z, h⟩ := h.2
    refine q_ref z ?_
    refine q_iload_n C dX8_countAround_32 rfl (j := 1) rfl ?_
    refine q_ci (q_runV (As := [.int i1]) (st := []) C (c_X1_neighboursOf l D cA lo h.2) (cwV 1 C.2.2.2.2.1 gX8_countAround_X1_neighboursOf rfl rfl rfl (by decide +kernel) ⟨Nat.le_of_ble_eq_true rfl, Nat.le_of_ble_eq_true rfl⟩) h.1 (by decide) rfl rfl rfl (Nat.le_of_ble_eq_true rfl) dX8_countAround_33 ⟨Nat.le_of_ble_eq_true rfl, Nat.le_of_ble_eq_true rfl⟩) (fun r_2 M_z h => ?_)
    refine q_mem h.1 ?_
    have h := h.2
    exact q_iret C hr hlk dX8_countAround_36 (Nat.le_of_ble_eq_true rfl) (Nat.le_of_ble_eq_true rfl) h
  · have h := h.2
    rcases Decidable.em (i2 = 1) with z1 | z1
    · have h := h.1 z1
      refine q_tableIn (off := 36) (tgt := 37) C dX8_countAround_1 (by rw [z1]; decide) (by rw [z1]; decide) (by rw [z1]; rfl) (by decide) ?_
      refine q_aload_n C dX8_countAround_37 rfl (j := 0) rfl ?_
      refine q_getR (ci := 8) (k0 := 2) (T := TX8) C inX8_countAround_X8 rfl (by decide) h.1 (by decide) rfl (by decide +kernel) rfl dX8_countAround_38 ?_
      obtain ⟨a_3, z, h⟩ := h.2
      refine q_ref z ?_
      refine q_iload_n C dX8_countAround_41 rfl (j := 1) rfl ?_
      refine q_ci (q_runV (As := [.int i1]) (st := []) C (c_X7_facesAt l D cA lo h.2) (cwV 1 C.2.2.2.2.1 gX8_countAround_X7_facesAt rfl rfl rfl (by decide +kernel) ⟨Nat.le_of_ble_eq_true rfl, Nat.le_of_ble_eq_true rfl⟩) h.1 (by decide) rfl rfl rfl (Nat.le_of_ble_eq_true rfl) dX8_countAround_42 ⟨Nat.le_of_ble_eq_true rfl, Nat.le_of_ble_eq_true rfl⟩) (fun r_4 M_z h => ?_)
      refine q_mem h.1 ?_
      have h := h.2
      exact q_iret C hr hlk dX8_countAround_45 (Nat.le_of_ble_eq_true rfl) (Nat.le_of_ble_eq_true rfl) h
    · have h := h.2
      rcases Decidable.em (i2 = 2) with z2 | z2
      · have h := h.1 z2
        refine q_tableIn (off := 45) (tgt := 46) C dX8_countAround_1 (by rw [z2]; decide) (by rw [z2]; decide) (by rw [z2]; rfl) (by decide) ?_
        refine q_aload_n C dX8_countAround_46 rfl (j := 0) rfl ?_
        refine q_getR (ci := 8) (k0 := 2) (T := TX8) C inX8_countAround_X8 rfl (by decide) h.1 (by decide) rfl (by decide +kernel) rfl dX8_countAround_47 ?_
        obtain ⟨a_5, z, h⟩ := h.2
        refine q_ref z ?_
        refine q_iload_n C dX8_countAround_50 rfl (j := 1) rfl ?_
        refine q_ci (q_runV (As := [.int i1]) (st := []) C (c_X7_openFrom l D cA lo h.2) (cwV 1 C.2.2.2.2.1 gX8_countAround_X7_openFrom rfl rfl rfl (by decide +kernel) ⟨Nat.le_of_ble_eq_true rfl, Nat.le_of_ble_eq_true rfl⟩) h.1 (by decide) rfl rfl rfl (Nat.le_of_ble_eq_true rfl) dX8_countAround_51 ⟨Nat.le_of_ble_eq_true rfl, Nat.le_of_ble_eq_true rfl⟩) (fun r_6 M_z h => ?_)
        refine q_mem h.1 ?_
        have h := h.2
        exact q_iret C hr hlk dX8_countAround_54 (Nat.le_of_ble_eq_true rfl) (Nat.le_of_ble_eq_true rfl) h
      · have h := h.2
        have h := h ⟨z0, z1, z2⟩
        refine q_tableOut (tgt := 55) C dX8_countAround_1 (sw_out_3 z0 z1 z2) (by decide) ?_
        refine q_aload_n C dX8_countAround_55 rfl (j := 0) rfl ?_
        refine q_getR (ci := 8) (k0 := 2) (T := TX8) C inX8_countAround_X8 rfl (by decide) h.1 (by decide) rfl (by decide +kernel) rfl dX8_countAround_56 ?_
        obtain ⟨a_7, z, h⟩ := h.2
        refine q_ref z ?_
        refine q_iload_n C dX8_countAround_59 rfl (j := 1) rfl ?_
        refine q_ci (q_runV (As := [.int i1]) (st := []) C (c_X7_fanCount l D cA lo h.2) (cwV 1 C.2.2.2.2.1 gX8_countAround_X7_fanCount rfl rfl rfl (by decide +kernel) ⟨Nat.le_of_ble_eq_true rfl, Nat.le_of_ble_eq_true rfl⟩) h.1 (by decide) rfl rfl rfl (Nat.le_of_ble_eq_true rfl) dX8_countAround_60 ⟨Nat.le_of_ble_eq_true rfl, Nat.le_of_ble_eq_true rfl⟩) (fun r_8 M_9 h => ?_)
        exact q_iret C hr hlk dX8_countAround_63 (Nat.le_of_ble_eq_true rfl) (Nat.le_of_ble_eq_true rfl) h
def S_X8_mixPoint_11 (K11 : Nat → Int32 → Int64 → Int32 → Mm → Prop) (K44 : Nat → Int32 → Int64 → Int32 → Mm → Prop) (Q : Int64 → Mm → Prop) (M : Mm) (a0 : Nat) (i3 : Int32) (l4 : Int64) (i6 : Int32) : Prop := (3 ≤ i6 → K44 a0 i3 l4 0 M) ∧ (¬ 3 ≤ i6 → kM M a0 = (8, 8) ∧ ∃ a_2 : Nat, rM M a0 0 = some a_2 ∧ kM M a_2 = (3, 4) ∧ T_X3_get M a_2 i3 i6 (fun r_3 => T_X8_mix M l4 r_3.toInt64 (fun r_4 => K11 a0 i3 r_4 (i6 + 1) M)))
def S_X8_mixPoint_44 (K11 : Nat → Int32 → Int64 → Int32 → Mm → Prop) (K44 : Nat → Int32 → Int64 → Int32 → Mm → Prop) (Q : Int64 → Mm → Prop) (M : Mm) (a0 : Nat) (i3 : Int32) (l4 : Int64) (i6 : Int32) : Prop := (3 < i6 → Q l4 M) ∧ (¬ 3 < i6 → kM M a0 = (8, 8) ∧ T_X8_countAround M a0 i3 i6 (fun r_5 M_6 => T_X8_mix M_6 l4 r_5.toInt64 (fun r_7 => K44 a0 i3 r_7 (i6 + 1) M_6)))
def T_X8_mixPoint (M : Mm) (a0 : Nat) (l1 : Int64) (i3 : Int32) (Q : Int64 → Mm → Prop) : Prop := ∀ (K11 : Nat → Int32 → Int64 → Int32 → Mm → Prop) (K44 : Nat → Int32 → Int64 → Int32 → Mm → Prop), (∀ (a0 : Nat) (i3 : Int32) (l4 : Int64) (i6 : Int32) (M : Mm), S_X8_mixPoint_11 K11 K44 Q M a0 i3 l4 i6 → K11 a0 i3 l4 i6 M) → (∀ (a0 : Nat) (i3 : Int32) (l4 : Int64) (i6 : Int32) (M : Mm), S_X8_mixPoint_44 K11 K44 Q M a0 i3 l4 i6 → K44 a0 i3 l4 i6 M) → T_X8_mix M l1 i3.toInt64 (fun r_1 => K11 a0 i3 r_1 0 M)
theorem inX8_mixPoint_X8 : ∀ w ∈ wsX80, w ∈ wsX8_mixPoint := by decide +kernel
set_option maxRecDepth 100000 in
set_option maxHeartbeats 4000000 in
theorem b_X8_mixPoint_11 {p : Program} {l : Launch} {e : Env} {s : State} {m : MethodId} {args : Array Value} {below : List Frame} {meth : Method} {c : Code} {D : va_G} {cA : Nat → ClassId} {lo : Nat} (C : Cx p s m args c cX8_mixPoint 7 RX8 wsX8_mixPoint D cA lo) (hr : meth.sig.returnType = (some .long)) (hlk : meth.locks = false) {Q : Int64 → Mm → Prop} (M : Mm) (a0 : Nat) (i3 : Int32) (l4 : Int64) (i6 : Int32) (h : S_X8_mixPoint_11 (fun (a0 : Nat) (i3 : Int32) (l4 : Int64) (i6 : Int32) (M : Mm) => QW p l e ({ frames := 5, cells := 0, slots := 0, locals := 115 } : Room) s m args below meth c (MQ below (QlM D cA lo Q) args s 0 0 (fun q => lo ≤ q)) 7 D cA lo 0 0 M 11 [(0, .ref a0), (3, .int i3), (4, .long l4), (6, .int i6)] []) (fun (a0 : Nat) (i3 : Int32) (l4 : Int64) (i6 : Int32) (M : Mm) => QW p l e ({ frames := 5, cells := 0, slots := 0, locals := 115 } : Room) s m args below meth c (MQ below (QlM D cA lo Q) args s 0 0 (fun q => lo ≤ q)) 7 D cA lo 0 0 M 44 [(0, .ref a0), (3, .int i3), (4, .long l4), (6, .int i6)] []) Q M a0 i3 l4 i6) : QW p l e ({ frames := 5, cells := 0, slots := 0, locals := 115 } : Room) s m args below meth c (MQ below (QlM D cA lo Q) args s 0 0 (fun q => lo ≤ q)) 7 D cA lo 0 0 M 11 [(0, .ref a0), (3, .int i3), (4, .long l4), (6, .int i6)] [] := by
  unfold S_X8_mixPoint_11 at h
  refine q_iload C dX8_mixPoint_11 (j := 3) rfl ?_
  refine q_iconst (v := 3) C dX8_mixPoint_13 (by decide) ?_
  refine q_icmp_ge (tgt := 41) C dX8_mixPoint_14 (by decide) (fun z => ?_) (fun z => ?_)
  · have h := h.1 z
    refine q_iconst (v := 0) C dX8_mixPoint_41 (by decide) ?_
    refine q_istore (lv' := [(6, .int 0), (0, .ref a0), (3, .int i3), (4, .long l4)]) C dX8_mixPoint_42 (by decide) rfl ?_
    exact q_sub [1, 2, 3, 0] rfl h
  · have h := h.2 z
    refine q_lload C dX8_mixPoint_17 (j := 2) rfl ?_
    refine q_aload_n C dX8_mixPoint_19 rfl (j := 0) rfl ?_
    refine q_getR (ci := 8) (k0 := 0) (T := TX8) C inX8_mixPoint_X8 rfl (by decide) h.1 (by decide) rfl (by decide +kernel) rfl dX8_mixPoint_20 ?_
    obtain ⟨a_2, z, h⟩ := h.2
    refine q_ref z ?_
    refine q_iload_n C dX8_mixPoint_23 rfl (j := 1) rfl ?_
    refine q_iload C dX8_mixPoint_24 (j := 3) rfl ?_
    refine q_ci (q_runV (As := [.int i3, .int i6]) (st := [.long l4]) C (c_X3_get l D cA lo h.2) (cwV 2 C.2.2.2.2.1 gX8_mixPoint_X3_get rfl rfl rfl (by decide +kernel) ⟨Nat.le_of_ble_eq_true rfl, Nat.le_of_ble_eq_true rfl⟩) h.1 (by decide) rfl rfl rfl (Nat.le_of_ble_eq_true rfl) dX8_mixPoint_26 ⟨Nat.le_of_ble_eq_true rfl, Nat.le_of_ble_eq_true rfl⟩) (fun r_3 M_z h => ?_)
    refine q_mem h.1 ?_
    have h := h.2
    refine q_i2l C dX8_mixPoint_29 ?_
    refine q_cl (q_runS (As := [.long l4, .long r_3.toInt64]) (st := []) C (c_X8_mix l D cA lo h) (va_cwS 2 C.2.2.2.2.1 gX8_mixPoint_X8_mix rfl rfl rfl (by decide +kernel) ⟨Nat.le_of_ble_eq_true rfl, Nat.le_of_ble_eq_true rfl⟩) rfl rfl (Nat.le_of_ble_eq_true rfl) dX8_mixPoint_30 ⟨Nat.le_of_ble_eq_true rfl, Nat.le_of_ble_eq_true rfl⟩) (fun r_4 M_z h => ?_)
    refine q_mem h.1 ?_
    have h := h.2
    refine q_lstore (lv' := [(4, .long r_4), (0, .ref a0), (3, .int i3), (6, .int i6)]) C dX8_mixPoint_33 (by decide) rfl ?_
    refine q_iinc (v := (i6 + 1)) (lv' := [(6, .int (i6 + 1)), (4, .long r_4), (0, .ref a0), (3, .int i3)]) C dX8_mixPoint_35 (j := 3) rfl rfl (by decide) rfl ?_
    refine q_goto (tgt := 11) C dX8_mixPoint_38 (by decide) ?_
    exact q_sub [2, 3, 1, 0] rfl h
set_option maxRecDepth 100000 in
set_option maxHeartbeats 4000000 in
theorem b_X8_mixPoint_44 {p : Program} {l : Launch} {e : Env} {s : State} {m : MethodId} {args : Array Value} {below : List Frame} {meth : Method} {c : Code} {D : va_G} {cA : Nat → ClassId} {lo : Nat} (C : Cx p s m args c cX8_mixPoint 7 RX8 wsX8_mixPoint D cA lo) (hr : meth.sig.returnType = (some .long)) (hlk : meth.locks = false) {Q : Int64 → Mm → Prop} (M : Mm) (a0 : Nat) (i3 : Int32) (l4 : Int64) (i6 : Int32) (h : S_X8_mixPoint_44 (fun (a0 : Nat) (i3 : Int32) (l4 : Int64) (i6 : Int32) (M : Mm) => QW p l e ({ frames := 5, cells := 0, slots := 0, locals := 115 } : Room) s m args below meth c (MQ below (QlM D cA lo Q) args s 0 0 (fun q => lo ≤ q)) 7 D cA lo 0 0 M 11 [(0, .ref a0), (3, .int i3), (4, .long l4), (6, .int i6)] []) (fun (a0 : Nat) (i3 : Int32) (l4 : Int64) (i6 : Int32) (M : Mm) => QW p l e ({ frames := 5, cells := 0, slots := 0, locals := 115 } : Room) s m args below meth c (MQ below (QlM D cA lo Q) args s 0 0 (fun q => lo ≤ q)) 7 D cA lo 0 0 M 44 [(0, .ref a0), (3, .int i3), (4, .long l4), (6, .int i6)] []) Q M a0 i3 l4 i6) : QW p l e ({ frames := 5, cells := 0, slots := 0, locals := 115 } : Room) s m args below meth c (MQ below (QlM D cA lo Q) args s 0 0 (fun q => lo ≤ q)) 7 D cA lo 0 0 M 44 [(0, .ref a0), (3, .int i3), (4, .long l4), (6, .int i6)] [] := by
  unfold S_X8_mixPoint_44 at h
  refine q_iload C dX8_mixPoint_44 (j := 3) rfl ?_
  refine q_iconst (v := 3) C dX8_mixPoint_46 (by decide) ?_
  refine q_icmp_gt (tgt := 71) C dX8_mixPoint_47 (by decide) (fun z => ?_) (fun z => ?_)
  · have h := h.1 z
    refine q_lload C dX8_mixPoint_71 (j := 2) rfl ?_
    exact q_lret C hr hlk dX8_mixPoint_73 (Nat.le_of_ble_eq_true rfl) (Nat.le_of_ble_eq_true rfl) h
  · have h := h.2 z
    refine q_lload C dX8_mixPoint_50 (j := 2) rfl ?_
    refine q_aload_n C dX8_mixPoint_52 rfl (j := 0) rfl ?_
    refine q_iload_n C dX8_mixPoint_53 rfl (j := 1) rfl ?_
    refine q_iload C dX8_mixPoint_54 (j := 3) rfl ?_
    refine q_ci (q_runV (As := [.int i3, .int i6]) (st := [.long l4]) C (c_X8_countAround l D cA lo h.2) (cwV 2 C.2.2.2.2.1 gX8_mixPoint_X8_countAround rfl rfl rfl (by decide +kernel) ⟨Nat.le_of_ble_eq_true rfl, Nat.le_of_ble_eq_true rfl⟩) h.1 (by decide) rfl rfl rfl (Nat.le_of_ble_eq_true rfl) dX8_mixPoint_56 ⟨Nat.le_of_ble_eq_true rfl, Nat.le_of_ble_eq_true rfl⟩) (fun r_5 M_6 h => ?_)
    refine q_i2l C dX8_mixPoint_59 ?_
    refine q_cl (q_runS (As := [.long l4, .long r_5.toInt64]) (st := []) C (c_X8_mix l D cA lo h) (va_cwS 2 C.2.2.2.2.1 gX8_mixPoint_X8_mix rfl rfl rfl (by decide +kernel) ⟨Nat.le_of_ble_eq_true rfl, Nat.le_of_ble_eq_true rfl⟩) rfl rfl (Nat.le_of_ble_eq_true rfl) dX8_mixPoint_60 ⟨Nat.le_of_ble_eq_true rfl, Nat.le_of_ble_eq_true rfl⟩) (fun r_7 M_z h => ?_)
    refine q_mem h.1 ?_
    have h := h.2
    refine q_lstore (lv' := [(4, .long r_7), (0, .ref a0), (3, .int i3), (6, .int i6)]) C dX8_mixPoint_63 (by decide) rfl ?_
    refine q_iinc (v := (i6 + 1)) (lv' := [(6, .int (i6 + 1)), (4, .long r_7), (0, .ref a0), (3, .int i3)]) C dX8_mixPoint_65 (j := 3) rfl rfl (by decide) rfl ?_
    refine q_goto (tgt := 44) C dX8_mixPoint_68 (by decide) ?_
    exact q_sub [2, 3, 1, 0] rfl h
set_option maxRecDepth 100000 in
set_option maxHeartbeats 4000000 in
theorem c_X8_mixPoint (l : Launch) (D : va_G) (cA : Nat → ClassId) (lo : Nat) {M : Mm} {a0 : Nat} {l1 : Int64} {i3 : Int32} {Q : Int64 → Mm → Prop} (h : T_X8_mixPoint M a0 l1 i3 Q) : Met l yX8_mixPoint wsX8_mixPoint ({ frames := 5, cells := 0, slots := 0, locals := 115 } : Room) (PcM D cA lo [.ref a0, .long l1, .int i3] M) (QlM D cA lo Q) 0 0 (fun q => lo ≤ q) := by
  refine q_start (cc := cX8_mixPoint) (nL := 7) (ret := (some .long)) (by decide) rfl rfl (Nat.le_of_ble_eq_true rfl) ?_
  intro p e s m args below meth c C hr hlk hin
  unfold T_X8_mixPoint at h
  have h := h (fun (a0 : Nat) (i3 : Int32) (l4 : Int64) (i6 : Int32) (M : Mm) => QW p l e ({ frames := 5, cells := 0, slots := 0, locals := 115 } : Room) s m args below meth c (MQ below (QlM D cA lo Q) args s 0 0 (fun q => lo ≤ q)) 7 D cA lo 0 0 M 11 [(0, .ref a0), (3, .int i3), (4, .long l4), (6, .int i6)] []) (fun (a0 : Nat) (i3 : Int32) (l4 : Int64) (i6 : Int32) (M : Mm) => QW p l e ({ frames := 5, cells := 0, slots := 0, locals := 115 } : Room) s m args below meth c (MQ below (QlM D cA lo Q) args s 0 0 (fun q => lo ≤ q)) 7 D cA lo 0 0 M 44 [(0, .ref a0), (3, .int i3), (4, .long l4), (6, .int i6)] []) (fun a0 i3 l4 i6 M h => b_X8_mixPoint_11 C hr hlk M a0 i3 l4 i6 h) (fun a0 i3 l4 i6 M h => b_X8_mixPoint_44 C hr hlk M a0 i3 l4 i6 h)
  refine q_lload_n C dX8_mixPoint_0 rfl (j := 1) rfl ?_
  refine q_iload_n C dX8_mixPoint_1 rfl (j := 2) rfl ?_
  refine q_i2l C dX8_mixPoint_2 ?_
  refine q_cl (q_runS (As := [.long l1, .long i3.toInt64]) (st := []) C (c_X8_mix l D cA lo h) (va_cwS 2 C.2.2.2.2.1 gX8_mixPoint_X8_mix rfl rfl rfl (by decide +kernel) ⟨Nat.le_of_ble_eq_true rfl, Nat.le_of_ble_eq_true rfl⟩) rfl rfl (Nat.le_of_ble_eq_true rfl) dX8_mixPoint_3 ⟨Nat.le_of_ble_eq_true rfl, Nat.le_of_ble_eq_true rfl⟩) (fun r_1 M_z h => ?_)
  refine q_mem h.1 ?_
  have h := h.2
  refine q_lstore (lv' := [(4, .long r_1), (0, .ref a0), (1, .long l1), (3, .int i3)]) C dX8_mixPoint_6 (by decide) rfl ?_
  refine q_iconst (v := 0) C dX8_mixPoint_8 (by decide) ?_
  refine q_istore (lv' := [(6, .int 0), (4, .long r_1), (0, .ref a0), (1, .long l1), (3, .int i3)]) C dX8_mixPoint_9 (by decide) rfl ?_
  exact q_sub [2, 4, 1, 0] rfl h
