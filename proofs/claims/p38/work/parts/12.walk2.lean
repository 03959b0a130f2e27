def T_X1_after (M : Mm) (a0 : Nat) (i1 : Int32) (i2 : Int32) (Q : Int32 → Prop) : Prop := kM M a0 = (1, 5) ∧ T_X1_ring M a0 i1 (fun r_1 => kM M r_1 = (5, 2) ∧ T_X5_placeOf M r_1 i2 (fun r_2 => kM M r_1 = (5, 2) ∧ T_X5_get M r_1 (r_2 + 1) (fun r_3 => Q r_3)))
set_option maxRecDepth 100000 in
set_option maxHeartbeats 4000000 in
theorem c_X1_after (l : Launch) (D : va_G) (cA : Nat → ClassId) (lo : Nat) {M : Mm} {a0 : Nat} {i1 : Int32} {i2 : Int32} {Q : Int32 → Prop} (h : T_X1_after M a0 i1 i2 Q) : Met l yX1_after wsX1_after ({ frames := 1, cells := 0, slots := 0, locals := 22 } : Room) (PcM D cA lo [.ref a0, .int i1, .int i2] M) (QiM D cA lo (fun r M1 => M1 = M ∧ Q r)) 0 0 (fun q => lo ≤ q) := by
  refine q_start (cc := cX1_after) (nL := 4) (ret := (some .int)) (by decide) rfl rfl (Nat.le_of_ble_eq_true rfl) ?_
  intro p e s m args below meth c C hr hlk hin
  unfold T_X1_after at h
  refine q_aload_n C dX1_after_0 rfl (j := 0) rfl ?_
  refine q_iload_n C dX1_after_1 rfl (j := 1) rfl ?_
  refine q_cr (q_runV (As := [.int i1]) (st := []) C (c_X1_ring l D cA lo h.2) (cwV 1 C.2.2.2.2.1 gX1_after_X1_ring rfl rfl rfl (by decide +kernel) ⟨Nat.le_of_ble_eq_true rfl, Nat.le_of_ble_eq_true rfl⟩) h.1 (by decide) rfl rfl rfl (Nat.le_of_ble_eq_true rfl) dX1_after_2 ⟨Nat.le_of_ble_eq_true rfl, Nat.le_of_ble_eq_true rfl⟩) (fun r_1 M_z h => ?_)
  refine q_mem h.1 ?_
  have h := h.2
  refine q_astore_n (lv' := [(3, .ref r_1), (0, .ref a0), (1, .int i1), (2, .int i2)]) C dX1_after_5 rfl (by decide) rfl ?_
  refine q_aload_n C dX1_after_6 rfl (j := 0) rfl ?_
  refine q_aload_n C dX1_after_7 rfl (j := 0) rfl ?_
  refine q_iload_n C dX1_after_8 rfl (j := 3) rfl ?_
  refine q_ci (q_runV (As := [.int i2]) (st := [.ref r_1]) C (c_X5_placeOf l D cA lo h.2) (cwV 1 C.2.2.2.2.1 gX1_after_X5_placeOf rfl rfl rfl (by decide +kernel) ⟨Nat.le_of_ble_eq_true rfl, Nat.le_of_ble_eq_true rfl⟩) h.1 (by decide) rfl rfl rfl (Nat.le_of_ble_eq_true rfl) dX1_after_9 ⟨Nat.le_of_ble_eq_true rfl, Nat.le_of_ble_eq_true rfl⟩) (fun r_2 M_z h => ?_)
  refine q_mem h.1 ?_
  have h := h.2
  refine q_iconst (v := 1) C dX1_after_12 (by decide) ?_
  refine q_iadd C dX1_after_13 ?_
  refine q_ci (q_runV (As := [.int (r_2 + 1)]) (st := []) C (c_X5_get l D cA lo h.2) (cwV 1 C.2.2.2.2.1 gX1_after_X5_get rfl rfl rfl (by decide +kernel) ⟨Nat.le_of_ble_eq_true rfl, Nat.le_of_ble_eq_true rfl⟩) h.1 (by decide) rfl rfl rfl (Nat.le_of_ble_eq_true rfl) dX1_after_14 ⟨Nat.le_of_ble_eq_true rfl, Nat.le_of_ble_eq_true rfl⟩) (fun r_3 M_z h => ?_)
  refine q_mem h.1 ?_
  have h := h.2
  exact q_iret C hr hlk dX1_after_17 (Nat.le_of_ble_eq_true rfl) (Nat.le_of_ble_eq_true rfl) ⟨rfl, h⟩
def T_X1_before (M : Mm) (a0 : Nat) (i1 : Int32) (i2 : Int32) (Q : Int32 → Prop) : Prop := kM M a0 = (1, 5) ∧ T_X1_ring M a0 i1 (fun r_1 => kM M r_1 = (5, 2) ∧ T_X5_placeOf M r_1 i2 (fun r_2 => kM M r_1 = (5, 2) ∧ T_X5_get M r_1 (r_2 - 1) (fun r_3 => Q r_3)))
set_option maxRecDepth 100000 in
set_option maxHeartbeats 4000000 in
theorem c_X1_before (l : Launch) (D : va_G) (cA : Nat → ClassId) (lo : Nat) {M : Mm} {a0 : Nat} {i1 : Int32} {i2 : Int32} {Q : Int32 → Prop} (h : T_X1_before M a0 i1 i2 Q) : Met l yX1_before wsX1_before ({ frames := 1, cells := 0, slots := 0, locals := 22 } : Room) (PcM D cA lo [.ref a0, .int i1, .int i2] M) (QiM D cA lo (fun r M1 => M1 = M ∧ Q r)) 0 0 (fun q => lo ≤ q) := by
  refine q_start (cc := cX1_before) (nL := 4) (ret := (some .int)) (by decide) rfl rfl (Nat.le_of_ble_eq_true rfl) ?_
  intro p e s m args below meth c C hr hlk hin
  unfold T_X1_before at h
  refine q_aload_n C dX1_before_0 rfl (j := 0) rfl ?_
  refine q_iload_n C dX1_before_1 rfl (j := 1) rfl ?_
  refine q_cr (q_runV (As := [.int i1]) (st := []) C (c_X1_ring l D cA lo h.2) (cwV 1 C.2.2.2.2.1 gX1_before_X1_ring rfl rfl rfl (by decide +kernel) ⟨Nat.le_of_ble_eq_true rfl, Nat.le_of_ble_eq_true rfl⟩) h.1 (by decide) rfl rfl rfl (Nat.le_of_ble_eq_true rfl) dX1_before_2 ⟨Nat.le_of_ble_eq_true rfl, Nat.le_of_ble_eq_true rfl⟩) (fun r_1 M_z h => ?_)
  refine q_mem h.1 ?_
  have h := h.2
  refine q_astore_n (lv' := [(3, .ref r_1), (0, .ref a0), (1, .int i1), (2, .int i2)]) C dX1_before_5 rfl (by decide) rfl ?_
  refine q_aload_n C dX1_before_6 rfl (j := 0) rfl ?_
  refine q_aload_n C dX1_before_7 rfl (j := 0) rfl ?_
  refine q_iload_n C dX1_before_8 rfl (j := 3) rfl ?_
  refine q_ci (q_runV (As := [.int i2]) (st := [.ref r_1]) C (c_X5_placeOf l D cA lo h.2) (cwV 1 C.2.2.2.2.1 gX1_before_X5_placeOf rfl rfl rfl (by decide +kernel) ⟨Nat.le_of_ble_eq_true rfl, Nat.le_of_ble_eq_true rfl⟩) h.1 (by decide) rfl rfl rfl (Nat.le_of_ble_eq_true rfl) dX1_before_9 ⟨Nat.le_of_ble_eq_true rfl, Nat.le_of_ble_eq_true rfl⟩) (fun r_2 M_z h => ?_)
  refine q_mem h.1 ?_
  have h := h.2
  refine q_iconst (v := 1) C dX1_before_12 (by decide) ?_
  refine q_isub C dX1_before_13 ?_
  refine q_ci (q_runV (As := [.int (r_2 - 1)]) (st := []) C (c_X5_get l D cA lo h.2) (cwV 1 C.2.2.2.2.1 gX1_before_X5_get rfl rfl rfl (by decide +kernel) ⟨Nat.le_of_ble_eq_true rfl, Nat.le_of_ble_eq_true rfl⟩) h.1 (by decide) rfl rfl rfl (Nat.le_of_ble_eq_true rfl) dX1_before_14 ⟨Nat.le_of_ble_eq_true rfl, Nat.le_of_ble_eq_true rfl⟩) (fun r_3 M_z h => ?_)
  refine q_mem h.1 ?_
  have h := h.2
  exact q_iret C hr hlk dX1_before_17 (Nat.le_of_ble_eq_true rfl) (Nat.le_of_ble_eq_true rfl) ⟨rfl, h⟩
def S_X1_nextOpen_5 (K5 : Nat → Int32 → Int32 → Int32 → Prop) (Q : Int32 → Prop) (M : Mm) (a0 : Nat) (i2 : Int32) (i3 : Int32) (i4 : Int32) : Prop := (100 ≤ i4 → Q (-1)) ∧ (¬ 100 ≤ i4 → kM M a0 = (1, 5) ∧ T_X1_owner M a0 i2 i3 (fun r_1 => (¬ r_1 = (-1) → kM M a0 = (1, 5) ∧ T_X1_before M a0 r_1 i2 (fun r_2 => K5 a0 i2 r_2 (i4 + 1))) ∧ (r_1 = (-1) → Q i3)))
def T_X1_nextOpen (M : Mm) (a0 : Nat) (i1 : Int32) (i2 : Int32) (Q : Int32 → Prop) : Prop := ∀ (K5 : Nat → Int32 → Int32 → Int32 → Prop), (∀ (a0 : Nat) (i2 : Int32) (i3 : Int32) (i4 : Int32), S_X1_nextOpen_5 K5 Q M a0 i2 i3 i4 → K5 a0 i2 i3 i4) → K5 a0 i2 i1 0
set_option maxRecDepth 100000 in
set_option maxHeartbeats 4000000 in
theorem b_X1_nextOpen_5 {p : Program} {l : Launch} {e : Env} {s : State} {m : MethodId} {args : Array Value} {below : List Frame} {meth : Method} {c : Code} {D : va_G} {cA : Nat → ClassId} {lo : Nat} (C : Cx p s m args c cX1_nextOpen 6 RX1 wsX1_nextOpen D cA lo) (hr : meth.sig.returnType = (some .int)) (hlk : meth.locks = false) {Q : Int32 → Prop} {M : Mm} (a0 : Nat) (i2 : Int32) (i3 : Int32) (i4 : Int32) (h : S_X1_nextOpen_5 (fun (a0 : Nat) (i2 : Int32) (i3 : Int32) (i4 : Int32) => QW p l e ({ frames := 2, cells := 0, slots := 0, locals := 45 } : Room) s m args below meth c (MQ below (QiM D cA lo (fun r M1 => M1 = M ∧ Q r)) args s 0 0 (fun q => lo ≤ q)) 6 D cA lo 0 0 M 5 [(0, .ref a0), (2, .int i2), (3, .int i3), (4, .int i4)] []) Q M a0 i2 i3 i4) : QW p l e ({ frames := 2, cells := 0, slots := 0, locals := 45 } : Room) s m args below meth c (MQ below (QiM D cA lo (fun r M1 => M1 = M ∧ Q r)) args s 0 0 (fun q => lo ≤ q)) 6 D cA lo 0 0 M 5 [(0, .ref a0), (2, .int i2), (3, .int i3), (4, .int i4)] [] := by
  unfold S_X1_nextOpen_5 at h
  refine q_iload C dX1_nextOpen_5 (j := 3) rfl ?_
  refine q_bipush (v := 100) C dX1_nextOpen_7 (by decide) ?_
  refine q_icmp_ge (tgt := 42) C dX1_nextOpen_9 (by decide) (fun z => ?_) (fun z => ?_)
  · have h := h.1 z
    refine q_iconst (v := (-1)) C dX1_nextOpen_42 (by decide) ?_
    exact q_iret C hr hlk dX1_nextOpen_43 (Nat.le_of_ble_eq_true rfl) (Nat.le_of_ble_eq_true rfl) ⟨rfl, h⟩
  · have h := h.2 z
    refine q_aload_n C dX1_nextOpen_12 rfl (j := 0) rfl ?_
    refine q_iload_n C dX1_nextOpen_13 rfl (j := 1) rfl ?_
    refine q_iload_n C dX1_nextOpen_14 rfl (j := 2) rfl ?_
    refine q_ci (q_runV (As := [.int i2, .int i3]) (st := []) C (c_X1_owner l D cA lo h.2) (cwV 2 C.2.2.2.2.1 gX1_nextOpen_X1_owner rfl rfl rfl (by decide +kernel) ⟨Nat.le_of_ble_eq_true rfl, Nat.le_of_ble_eq_true rfl⟩) h.1 (by decide) rfl rfl rfl (Nat.le_of_ble_eq_true rfl) dX1_nextOpen_15 ⟨Nat.le_of_ble_eq_true rfl, Nat.le_of_ble_eq_true rfl⟩) (fun r_1 M_z h => ?_)
    refine q_mem h.1 ?_
    have h := h.2
    refine q_istore (lv' := [(5, .int r_1), (0, .ref a0), (2, .int i2), (3, .int i3), (4, .int i4)]) C dX1_nextOpen_18 (by decide) rfl ?_
    refine q_iload C dX1_nextOpen_20 (j := 0) rfl ?_
    refine q_iconst (v := (-1)) C dX1_nextOpen_22 (by decide) ?_
    refine q_icmp_ne (tgt := 28) C dX1_nextOpen_23 (by decide) (fun z => ?_) (fun z => ?_)
    · have h := h.1 z
      refine q_aload_n C dX1_nextOpen_28 rfl (j := 1) rfl ?_
      refine q_iload C dX1_nextOpen_29 (j := 0) rfl ?_
      refine q_iload_n C dX1_nextOpen_31 rfl (j := 2) rfl ?_
      refine q_ci (q_runV (As := [.int r_1, .int i2]) (st := []) C (c_X1_before l D cA lo h.2) (cwV 2 C.2.2.2.2.1 gX1_nextOpen_X1_before rfl rfl rfl (by decide +kernel) ⟨Nat.le_of_ble_eq_true rfl, Nat.le_of_ble_eq_true rfl⟩) h.1 (by decide) rfl rfl rfl (Nat.le_of_ble_eq_true rfl) dX1_nextOpen_32 ⟨Nat.le_of_ble_eq_true rfl, Nat.le_of_ble_eq_true rfl⟩) (fun r_2 M_z h => ?_)
      refine q_mem h.1 ?_
      have h := h.2
      refine q_istore_n (lv' := [(3, .int r_2), (5, .int r_1), (0, .ref a0), (2, .int i2), (4, .int i4)]) C dX1_nextOpen_35 rfl (by decide) rfl ?_
      refine q_iinc (v := (i4 + 1)) (lv' := [(4, .int (i4 + 1)), (3, .int r_2), (5, .int r_1), (0, .ref a0), (2, .int i2)]) C dX1_nextOpen_36 (j := 4) rfl rfl (by decide) rfl ?_
      refine q_goto (tgt := 5) C dX1_nextOpen_39 (by decide) ?_
      exact q_sub [3, 4, 1, 0] rfl h
    · have h := h.2 z
      refine q_iload_n C dX1_nextOpen_26 rfl (j := 3) rfl ?_
      exact q_iret C hr hlk dX1_nextOpen_27 (Nat.le_of_ble_eq_true rfl) (Nat.le_of_ble_eq_true rfl) ⟨rfl, h⟩
set_option maxRecDepth 100000 in
set_option maxHeartbeats 4000000 in
theorem c_X1_nextOpen (l : Launch) (D : va_G) (cA : Nat → ClassId) (lo : Nat) {M : Mm} {a0 : Nat} {i1 : Int32} {i2 : Int32} {Q : Int32 → Prop} (h : T_X1_nextOpen M a0 i1 i2 Q) : Met l yX1_nextOpen wsX1_nextOpen ({ frames := 2, cells := 0, slots := 0, locals := 45 } : Room) (PcM D cA lo [.ref a0, .int i1, .int i2] M) (QiM D cA lo (fun r M1 => M1 = M ∧ Q r)) 0 0 (fun q => lo ≤ q) := by
  refine q_start (cc := cX1_nextOpen) (nL := 6) (ret := (some .int)) (by decide) rfl rfl (Nat.le_of_ble_eq_true rfl) ?_
  intro p e s m args below meth c C hr hlk hin
  unfold T_X1_nextOpen at h
  have h := h (fun (a0 : Nat) (i2 : Int32) (i3 : Int32) (i4 : Int32) => QW p l e ({ frames := 2, cells := 0, slots := 0, locals := 45 } : Room) s m args below meth c (MQ below (QiM D cA lo (fun r M1 => M1 = M ∧ Q r)) args s 0 0 (fun q => lo ≤ q)) 6 D cA lo 0 0 M 5 [(0, .ref a0), (2, .int i2), (3, .int i3), (4, .int i4)] []) (fun a0 i2 i3 i4 h => b_X1_nextOpen_5 C hr hlk a0 i2 i3 i4 h)
  refine q_iload_n C dX1_nextOpen_0 rfl (j := 1) rfl ?_
  refine q_istore_n (lv' := [(3, .int i1), (0, .ref a0), (1, .int i1), (2, .int i2)]) C dX1_nextOpen_1 rfl (by decide) rfl ?_
  refine q_iconst (v := 0) C dX1_nextOpen_2 (by decide) ?_
  refine q_istore (lv' := [(4, .int 0), (3, .int i1), (0, .ref a0), (1, .int i1), (2, .int i2)]) C dX1_nextOpen_3 (by decide) rfl ?_
  exact q_sub [2, 4, 1, 0] rfl h
def S_X1_edgeCount_4 (K4 : Nat → Int32 → Int32 → Prop) (K21 : Nat → Int32 → Int32 → Nat → Int32 → Prop) (Q : Int32 → Prop) (M : Mm) (a0 : Nat) (i1 : Int32) (i2 : Int32) : Prop := kM M a0 = (1, 5) ∧ ((iM M a0 3) ≤ i2 → Q i1) ∧ (¬ (iM M a0 3) ≤ i2 → kM M a0 = (1, 5) ∧ T_X1_ring M a0 i2 (fun r_1 => K21 a0 i1 i2 r_1 0))
def S_X1_edgeCount_21 (K4 : Nat → Int32 → Int32 → Prop) (K21 : Nat → Int32 → Int32 → Nat → Int32 → Prop) (Q : Int32 → Prop) (M : Mm) (a0 : Nat) (i1 : Int32) (i2 : Int32) (a3 : Nat) (i4 : Int32) : Prop := kM M a3 = (5, 2) ∧ T_X5_length M a3 (fun r_2 => (r_2 ≤ i4 → K4 a0 i1 (i2 + 1)) ∧ (¬ r_2 ≤ i4 → kM M a3 = (5, 2) ∧ T_X5_get M a3 i4 (fun r_3 => kM M a3 = (5, 2) ∧ T_X5_get M a3 (i4 + 1) (fun r_4 => kM M a0 = (1, 5) ∧ T_X1_isToldBy M a0 r_3 r_4 (fun r_5 => (r_5 = 0 → K21 a0 (i1 + 0) i2 a3 (i4 + 1)) ∧ (¬ r_5 = 0 → K21 a0 (i1 + 1) i2 a3 (i4 + 1)))))))
def T_X1_edgeCount (M : Mm) (a0 : Nat) (Q : Int32 → Prop) : Prop := ∀ (K4 : Nat → Int32 → Int32 → Prop) (K21 : Nat → Int32 → Int32 → Nat → Int32 → Prop), (∀ (a0 : Nat) (i1 : Int32) (i2 : Int32), S_X1_edgeCount_4 K4 K21 Q M a0 i1 i2 → K4 a0 i1 i2) → (∀ (a0 : Nat) (i1 : Int32) (i2 : Int32) (a3 : Nat) (i4 : Int32), S_X1_edgeCount_21 K4 K21 Q M a0 i1 i2 a3 i4 → K21 a0 i1 i2 a3 i4) → K4 a0 0 0
theorem inX1_edgeCount_X1 : ∀ w ∈ wsX10, w ∈ wsX1_edgeCount := by decide +kernel
set_option maxRecDepth 100000 in
set_option maxHeartbeats 4000000 in
theorem b_X1_edgeCount_4 {p : Program} {l : Launch} {e : Env} {s : State} {m : MethodId} {args : Array Value} {below : List Frame} {meth : Method} {c : Code} {D : va_G} {cA : Nat → ClassId} {lo : Nat} (C : Cx p s m args c cX1_edgeCount 5 RX1 wsX1_edgeCount D cA lo) (hr : meth.sig.returnType = (some .int)) (hlk : meth.locks = false) {Q : Int32 → Prop} {M : Mm} (a0 : Nat) (i1 : Int32) (i2 : Int32) (h : S_X1_edgeCount_4 (fun (a0 : Nat) (i1 : Int32) (i2 : Int32) => QW p l e ({ frames := 2, cells := 0, slots := 0, locals := 44 } : Room) s m args below meth c (MQ below (QiM D cA lo (fun r M1 => M1 = M ∧ Q r)) args s 0 0 (fun q => lo ≤ q)) 5 D cA lo 0 0 M 4 [(0, .ref a0), (1, .int i1), (2, .int i2)] []) (fun (a0 : Nat) (i1 : Int32) (i2 : Int32) (a3 : Nat) (i4 : Int32) => QW p l e ({ frames := 2, cells := 0, slots := 0, locals := 44 } : Room) s m args below meth c (MQ below (QiM D cA lo (fun r M1 => M1 = M ∧ Q r)) args s 0 0 (fun q => lo ≤ q)) 5 D cA lo 0 0 M 21 [(0, .ref a0), (1, .int i1), (2, .int i2), (3, .ref a3), (4, .int i4)] []) Q M a0 i1 i2) : QW p l e ({ frames := 2, cells := 0, slots := 0, locals := 44 } : Room) s m args below meth c (MQ below (QiM D cA lo (fun r M1 => M1 = M ∧ Q r)) args s 0 0 (fun q => lo ≤ q)) 5 D cA lo 0 0 M 4 [(0, .ref a0), (1, .int i1), (2, .int i2)] [] := by
  unfold S_X1_edgeCount_4 at h
  refine q_iload_n C dX1_edgeCount_4 rfl (j := 2) rfl ?_
  refine q_aload_n C dX1_edgeCount_5 rfl (j := 0) rfl ?_
  refine q_getI (ci := 1) (k0 := 3) (T := TX1) C inX1_edgeCount_X1 rfl (by decide) h.1 (by decide) rfl (by decide +kernel) rfl dX1_edgeCount_6 ?_
  have h := h.2
  refine q_icmp_ge (tgt := 71) C dX1_edgeCount_9 (by decide) (fun z => ?_) (fun z => ?_)
  · have h := h.1 z
    refine q_iload_n C dX1_edgeCount_71 rfl (j := 1) rfl ?_
    exact q_iret C hr hlk dX1_edgeCount_72 (Nat.le_of_ble_eq_true rfl) (Nat.le_of_ble_eq_true rfl) ⟨rfl, h⟩
  · have h := h.2 z
    refine q_aload_n C dX1_edgeCount_12 rfl (j := 0) rfl ?_
    refine q_iload_n C dX1_edgeCount_13 rfl (j := 2) rfl ?_
    refine q_cr (q_runV (As := [.int i2]) (st := []) C (c_X1_ring l D cA lo h.2) (cwV 1 C.2.2.2.2.1 gX1_edgeCount_X1_ring rfl rfl rfl (by decide +kernel) ⟨Nat.le_of_ble_eq_true rfl, Nat.le_of_ble_eq_true rfl⟩) h.1 (by decide) rfl rfl rfl (Nat.le_of_ble_eq_true rfl) dX1_edgeCount_14 ⟨Nat.le_of_ble_eq_true rfl, Nat.le_of_ble_eq_true rfl⟩) (fun r_1 M_z h => ?_)
    refine q_mem h.1 ?_
    have h := h.2
    refine q_astore_n (lv' := [(3, .ref r_1), (0, .ref a0), (1, .int i1), (2, .int i2)]) C dX1_edgeCount_17 rfl (by decide) rfl ?_
    refine q_iconst (v := 0) C dX1_edgeCount_18 (by decide) ?_
    refine q_istore (lv' := [(4, .int 0), (3, .ref r_1), (0, .ref a0), (1, .int i1), (2, .int i2)]) C dX1_edgeCount_19 (by decide) rfl ?_
    exact q_sub [2, 3, 4, 1, 0] rfl h
set_option maxRecDepth 100000 in
set_option maxHeartbeats 4000000 in
theorem b_X1_edgeCount_21 {p : Program} {l : Launch} {e : Env} {s : State} {m : MethodId} {args : Array Value} {below : List Frame} {meth : Method} {c : Code} {D : va_G} {cA : Nat → ClassId} {lo : Nat} (C : Cx p s m args c cX1_edgeCount 5 RX1 wsX1_edgeCount D cA lo) (hr : meth.sig.returnType = (some .int)) (hlk : meth.locks = false) {Q : Int32 → Prop} {M : Mm} (a0 : Nat) (i1 : Int32) (i2 : Int32) (a3 : Nat) (i4 : Int32) (h : S_X1_edgeCount_21 (fun (a0 : Nat) (i1 : Int32) (i2 : Int32) => QW p l e ({ frames := 2, cells := 0, slots := 0, locals := 44 } : Room) s m args below meth c (MQ below (QiM D cA lo (fun r M1 => M1 = M ∧ Q r)) args s 0 0 (fun q => lo ≤ q)) 5 D cA lo 0 0 M 4 [(0, .ref a0), (1, .int i1), (2, .int i2)] []) (fun (a0 : Nat) (i1 : Int32) (i2 : Int32) (a3 : Nat) (i4 : Int32) => QW p l e ({ frames := 2, cells := 0, slots := 0, locals := 44 } : Room) s m args below meth c (MQ below (QiM D cA lo (fun r M1 => M1 = M ∧ Q r)) args s 0 0 (fun q => lo ≤ q)) 5 D cA lo 0 0 M 21 [(0, .ref a0), (1, .int i1), (2, .int i2), (3, .ref a3), (4, .int i4)] []) Q M a0 i1 i2 a3 i4) : QW p l e ({ frames := 2, cells := 0, slots := 0, locals := 44 } : Room) s m args below meth c (MQ below (QiM D cA lo (fun r M1 => M1 = M ∧ Q r)) args s 0 0 (fun q => lo ≤ q)) 5 D cA lo 0 0 M 21 [(0, .ref a0), (1, .int i1), (2, .int i2), (3, .ref a3), (4, .int i4)] [] := by
  unfold S_X1_edgeCount_21 at h
  refine q_iload C dX1_edgeCount_21 (j := 4) rfl ?_
  refine q_aload_n C dX1_edgeCount_23 rfl (j := 3) rfl ?_
  refine q_ci (q_runV (As := []) (st := [.int i4]) C (c_X5_length l D cA lo h.2) (cwV 0 C.2.2.2.2.1 gX1_edgeCount_X5_length rfl rfl rfl (by decide +kernel) ⟨Nat.le_of_ble_eq_true rfl, Nat.le_of_ble_eq_true rfl⟩) h.1 (by decide) rfl rfl rfl (Nat.le_of_ble_eq_true rfl) dX1_edgeCount_24 ⟨Nat.le_of_ble_eq_true rfl, Nat.le_of_ble_eq_true rfl⟩) (fun r_2 M_z h => ?_)
  refine q_mem h.1 ?_
  have h := h.2
  refine q_icmp_ge (tgt := 65) C dX1_edgeCount_27 (by decide) (fun z => ?_) (fun z => ?_)
  · have h := h.1 z
    refine q_iinc (v := (i2 + 1)) (lv' := [(2, .int (i2 + 1)), (0, .ref a0), (1, .int i1), (3, .ref a3), (4, .int i4)]) C dX1_edgeCount_65 (j := 2) rfl rfl (by decide) rfl ?_
    refine q_goto (tgt := 4) C dX1_edgeCount_68 (by decide) ?_
    exact q_sub [1, 2, 0] rfl h
  · have h := h.2 z
    refine q_iload_n C dX1_edgeCount_30 rfl (j := 1) rfl ?_
    refine q_aload_n C dX1_edgeCount_31 rfl (j := 0) rfl ?_
    refine q_aload_n C dX1_edgeCount_32 rfl (j := 3) rfl ?_
    refine q_iload C dX1_edgeCount_33 (j := 4) rfl ?_
    refine q_ci (q_runV (As := [.int i4]) (st := [.ref a0, .int i1]) C (c_X5_get l D cA lo h.2) (cwV 1 C.2.2.2.2.1 gX1_edgeCount_X5_get rfl rfl rfl (by decide +kernel) ⟨Nat.le_of_ble_eq_true rfl, Nat.le_of_ble_eq_true rfl⟩) h.1 (by decide) rfl rfl rfl (Nat.le_of_ble_eq_true rfl) dX1_edgeCount_35 ⟨Nat.le_of_ble_eq_true rfl, Nat.le_of_ble_eq_true rfl⟩) (fun r_3 M_z h => ?_)
    refine q_mem h.1 ?_
    have h := h.2
    refine q_aload_n C dX1_edgeCount_38 rfl (j := 3) rfl ?_
    refine q_iload C dX1_edgeCount_39 (j := 4) rfl ?_
    refine q_iconst (v := 1) C dX1_edgeCount_41 (by decide) ?_
    refine q_iadd C dX1_edgeCount_42 ?_
    refine q_ci (q_runV (As := [.int (i4 + 1)]) (st := [.int r_3, .ref a0, .int i1]) C (c_X5_get l D cA lo h.2) (cwV 1 C.2.2.2.2.1 gX1_edgeCount_X5_get rfl rfl rfl (by decide +kernel) ⟨Nat.le_of_ble_eq_true rfl, Nat.le_of_ble_eq_true rfl⟩) h.1 (by decide) rfl rfl rfl (Nat.le_of_ble_eq_true rfl) dX1_edgeCount_43 ⟨Nat.le_of_ble_eq_true rfl, Nat.le_of_ble_eq_true rfl⟩) (fun r_4 M_z h => ?_)
    refine q_mem h.1 ?_
    have h := h.2
    refine q_ci (q_runV (As := [.int r_3, .int r_4]) (st := [.int i1]) C (c_X1_isToldBy l D cA lo h.2) (cwV 2 C.2.2.2.2.1 gX1_edgeCount_X1_isToldBy rfl rfl rfl (by decide +kernel) ⟨Nat.le_of_ble_eq_true rfl, Nat.le_of_ble_eq_true rfl⟩) h.1 (by decide) rfl rfl rfl (Nat.le_of_ble_eq_true rfl) dX1_edgeCount_46 ⟨Nat.le_of_ble_eq_true rfl, Nat.le_of_ble_eq_true rfl⟩) (fun r_5 M_z h => ?_)
    refine q_mem h.1 ?_
    have h := h.2
    refine q_if_eq (tgt := 56) C dX1_edgeCount_49 (by decide) (fun z => ?_) (fun z => ?_)
    · have h := h.1 z
      refine q_iconst (v := 0) C dX1_edgeCount_56 (by decide) ?_
      refine q_iadd C dX1_edgeCount_57 ?_
      refine q_istore_n (lv' := [(1, .int (i1 + 0)), (0, .ref a0), (2, .int i2), (3, .ref a3), (4, .int i4)]) C dX1_edgeCount_58 rfl (by decide) rfl ?_
      refine q_iinc (v := (i4 + 1)) (lv' := [(4, .int (i4 + 1)), (1, .int (i1 + 0)), (0, .ref a0), (2, .int i2), (3, .ref a3)]) C dX1_edgeCount_59 (j := 4) rfl rfl (by decide) rfl ?_
      refine q_goto (tgt := 21) C dX1_edgeCount_62 (by decide) ?_
      exact q_sub [2, 1, 3, 4, 0] rfl h
    · have h := h.2 z
      refine q_iconst (v := 1) C dX1_edgeCount_52 (by decide) ?_
      refine q_goto (tgt := 57) C dX1_edgeCount_53 (by decide) ?_
      refine q_iadd C dX1_edgeCount_57 ?_
      refine q_istore_n (lv' := [(1, .int (i1 + 1)), (0, .ref a0), (2, .int i2), (3, .ref a3), (4, .int i4)]) C dX1_edgeCount_58 rfl (by decide) rfl ?_
      refine q_iinc (v := (i4 + 1)) (lv' := [(4, .int (i4 + 1)), (1, .int (i1 + 1)), (0, .ref a0), (2, .int i2), (3, .ref a3)]) C dX1_edgeCount_59 (j := 4) rfl rfl (by decide) rfl ?_
      refine q_goto (tgt := 21) C dX1_edgeCount_62 (by decide) ?_
      exact q_sub [2, 1, 3, 4, 0] rfl h
set_option maxRecDepth 100000 in
set_option maxHeartbeats 4000000 in
theorem c_X1_edgeCount (l : Launch) (D : va_G) (cA : Nat → ClassId) (lo : Nat) {M : Mm} {a0 : Nat} {Q : Int32 → Prop} (h : T_X1_edgeCount M a0 Q) : Met l yX1_edgeCount wsX1_edgeCount ({ frames := 2, cells := 0, slots := 0, locals := 44 } : Room) (PcM D cA lo [.ref a0] M) (QiM D cA lo (fun r M1 => M1 = M ∧ Q r)) 0 0 (fun q => lo ≤ q) := by
  refine q_start (cc := cX1_edgeCount) (nL := 5) (ret := (some .int)) (by decide) rfl rfl (Nat.le_of_ble_eq_true rfl) ?_
  intro p e s m args below meth c C hr hlk hin
  unfold T_X1_edgeCount at h
  have h := h (fun (a0 : Nat) (i1 : Int32) (i2 : Int32) => QW p l e ({ frames := 2, cells := 0, slots := 0, locals := 44 } : Room) s m args below meth c (MQ below (QiM D cA lo (fun r M1 => M1 = M ∧ Q r)) args s 0 0 (fun q => lo ≤ q)) 5 D cA lo 0 0 M 4 [(0, .ref a0), (1, .int i1), (2, .int i2)] []) (fun (a0 : Nat) (i1 : Int32) (i2 : Int32) (a3 : Nat) (i4 : Int32) => QW p l e ({ frames := 2, cells := 0, slots := 0, locals := 44 } : Room) s m args below meth c (MQ below (QiM D cA lo (fun r M1 => M1 = M ∧ Q r)) args s 0 0 (fun q => lo ≤ q)) 5 D cA lo 0 0 M 21 [(0, .ref a0), (1, .int i1), (2, .int i2), (3, .ref a3), (4, .int i4)] []) (fun a0 i1 i2 h => b_X1_edgeCount_4 C hr hlk a0 i1 i2 h) (fun a0 i1 i2 a3 i4 h => b_X1_edgeCount_21 C hr hlk a0 i1 i2 a3 i4 h)
  refine q_iconst (v := 0) C dX1_edgeCount_0 (by decide) ?_
  refine q_istore_n (lv' := [(1, .int 0), (0, .ref a0)]) C dX1_edgeCount_1 rfl (by decide) rfl ?_
  refine q_iconst (v := 0) C dX1_edgeCount_2 (by decide) ?_
  refine q_istore_n (lv' := [(2, .int 0), (1, .int 0), (0, .ref a0)]) C dX1_edgeCount_3 rfl (by decide) rfl ?_
  exact q_sub [2, 1, 0] rfl h
def S_X1_halfCount_4 (K4 : Nat → Int32 → Int32 → Prop) (Q : Int32 → Prop) (M : Mm) (a0 : Nat) (i1 : Int32) (i2 : Int32) : Prop := kM M a0 = (1, 5) ∧ ((iM M a0 3) ≤ i2 → Q i1) ∧ (¬ (iM M a0 3) ≤ i2 → kM M a0 = (1, 5) ∧ T_X1_ring M a0 i2 (fun r_1 => kM M r_1 = (5, 2) ∧ T_X5_length M r_1 (fun r_2 => K4 a0 (i1 + r_2) (i2 + 1))))
def T_X1_halfCount (M : Mm) (a0 : Nat) (Q : Int32 → Prop) : Prop := ∀ (K4 : Nat → Int32 → Int32 → Prop), (∀ (a0 : Nat) (i1 : Int32) (i2 : Int32), S_X1_halfCount_4 K4 Q M a0 i1 i2 → K4 a0 i1 i2) → K4 a0 0 0
theorem inX1_halfCount_X1 : ∀ w ∈ wsX10, w ∈ wsX1_halfCount := by decide +kernel
set_option maxRecDepth 100000 in
set_option maxHeartbeats 4000000 in
theorem b_X1_halfCount_4 {p : Program} {l : Launch} {e : Env} {s : State} {m : MethodId} {args : Array Value} {below : List Frame} {meth : Method} {c : Code} {D : va_G} {cA : Nat → ClassId} {lo : Nat} (C : Cx p s m args c cX1_halfCount 3 RX1 wsX1_halfCount D cA lo) (hr : meth.sig.returnType = (some .int)) (hlk : meth.locks = false) {Q : Int32 → Prop} {M : Mm} (a0 : Nat) (i1 : Int32) (i2 : Int32) (h : S_X1_halfCount_4 (fun (a0 : Nat) (i1 : Int32) (i2 : Int32) => QW p l e ({ frames := 1, cells := 0, slots := 0, locals := 21 } : Room) s m args below meth c (MQ below (QiM D cA lo (fun r M1 => M1 = M ∧ Q r)) args s 0 0 (fun q => lo ≤ q)) 3 D cA lo 0 0 M 4 [(0, .ref a0), (1, .int i1), (2, .int i2)] []) Q M a0 i1 i2) : QW p l e ({ frames := 1, cells := 0, slots := 0, locals := 21 } : Room) s m args below meth c (MQ below (QiM D cA lo (fun r M1 => M1 = M ∧ Q r)) args s 0 0 (fun q => lo ≤ q)) 3 D cA lo 0 0 M 4 [(0, .ref a0), (1, .int i1), (2, .int i2)] [] := by
  unfold S_X1_halfCount_4 at h
  refine q_iload_n C dX1_halfCount_4 rfl (j := 2) rfl ?_
  refine q_aload_n C dX1_halfCount_5 rfl (j := 0) rfl ?_
  refine q_getI (ci := 1) (k0 := 3) (T := TX1) C inX1_halfCount_X1 rfl (by decide) h.1 (by decide) rfl (by decide +kernel) rfl dX1_halfCount_6 ?_
  have h := h.2
  refine q_icmp_ge (tgt := 29) C dX1_halfCount_9 (by decide) (fun z => ?_) (fun z => ?_)
  · have h := h.1 z
    refine q_iload_n C dX1_halfCount_29 rfl (j := 1) rfl ?_
    exact q_iret C hr hlk dX1_halfCount_30 (Nat.le_of_ble_eq_true rfl) (Nat.le_of_ble_eq_true rfl) ⟨rfl, h⟩
  · have h := h.2 z
    refine q_iload_n C dX1_halfCount_12 rfl (j := 1) rfl ?_
    refine q_aload_n C dX1_halfCount_13 rfl (j := 0) rfl ?_
    refine q_iload_n C dX1_halfCount_14 rfl (j := 2) rfl ?_
    refine q_cr (q_runV (As := [.int i2]) (st := [.int i1]) C (c_X1_ring l D cA lo h.2) (cwV 1 C.2.2.2.2.1 gX1_halfCount_X1_ring rfl rfl rfl (by decide +kernel) ⟨Nat.le_of_ble_eq_true rfl, Nat.le_of_ble_eq_true rfl⟩) h.1 (by decide) rfl rfl rfl (Nat.le_of_ble_eq_true rfl) dX1_halfCount_15 ⟨Nat.le_of_ble_eq_true rfl, Nat.le_of_ble_eq_true rfl⟩) (fun r_1 M_z h => ?_)
    refine q_mem h.1 ?_
    have h := h.2
    refine q_ci (q_runV (As := []) (st := [.int i1]) C (c_X5_length l D cA lo h.2) (cwV 0 C.2.2.2.2.1 gX1_halfCount_X5_length rfl rfl rfl (by decide +kernel) ⟨Nat.le_of_ble_eq_true rfl, Nat.le_of_ble_eq_true rfl⟩) h.1 (by decide) rfl rfl rfl (Nat.le_of_ble_eq_true rfl) dX1_halfCount_18 ⟨Nat.le_of_ble_eq_true rfl, Nat.le_of_ble_eq_true rfl⟩) (fun r_2 M_z h => ?_)
    refine q_mem h.1 ?_
    have h := h.2
    refine q_iadd C dX1_halfCount_21 ?_
    refine q_istore_n (lv' := [(1, .int (i1 + r_2)), (0, .ref a0), (2, .int i2)]) C dX1_halfCount_22 rfl (by decide) rfl ?_
    refine q_iinc (v := (i2 + 1)) (lv' := [(2, .int (i2 + 1)), (1, .int (i1 + r_2)), (0, .ref a0)]) C dX1_halfCount_23 (j := 2) rfl rfl (by decide) rfl ?_
    refine q_goto (tgt := 4) C dX1_halfCount_26 (by decide) ?_
    exact q_sub [2, 1, 0] rfl h
set_option maxRecDepth 100000 in
set_option maxHeartbeats 4000000 in
theorem c_X1_halfCount (l : Launch) (D : va_G) (cA : Nat → ClassId) (lo : Nat) {M : Mm} {a0 : Nat} {Q : Int32 → Prop} (h : T_X1_halfCount M a0 Q) : Met l yX1_halfCount wsX1_halfCount ({ frames := 1, cells := 0, slots := 0, locals := 21 } : Room) (PcM D cA lo [.ref a0] M) (QiM D cA lo (fun r M1 => M1 = M ∧ Q r)) 0 0 (fun q => lo ≤ q) := by
  refine q_start (cc := cX1_halfCount) (nL := 3) (ret := (some .int)) (by decide) rfl rfl (Nat.le_of_ble_eq_true rfl) ?_
  intro p e s m args below meth c C hr hlk hin
  unfold T_X1_halfCount at h
  have h := h (fun (a0 : Nat) (i1 : Int32) (i2 : Int32) => QW p l e ({ frames := 1, cells := 0, slots := 0, locals := 21 } : Room) s m args below meth c (MQ below (QiM D cA lo (fun r M1 => M1 = M ∧ Q r)) args s 0 0 (fun q => lo ≤ q)) 3 D cA lo 0 0 M 4 [(0, .ref a0), (1, .int i1), (2, .int i2)] []) (fun a0 i1 i2 h => b_X1_halfCount_4 C hr hlk a0 i1 i2 h)
  refine q_iconst (v := 0) C dX1_halfCount_0 (by decide) ?_
  refine q_istore_n (lv' := [(1, .int 0), (0, .ref a0)]) C dX1_halfCount_1 rfl (by decide) rfl ?_
  refine q_iconst (v := 0) C dX1_halfCount_2 (by decide) ?_
  refine q_istore_n (lv' := [(2, .int 0), (1, .int 0), (0, .ref a0)]) C dX1_halfCount_3 rfl (by decide) rfl ?_
  exact q_sub [2, 1, 0] rfl h
def S_X1_neighboursOf_4 (K4 : Nat → Int32 → Int32 → Int32 → Prop) (Q : Int32 → Prop) (M : Mm) (a0 : Nat) (i1 : Int32) (i2 : Int32) (i3 : Int32) : Prop := (100 ≤ i3 → Q i2) ∧ (¬ 100 ≤ i3 → kM M a0 = (1, 5) ∧ T_X1_isEdge M a0 i1 i3 (fun r_1 => (r_1 = 0 → K4 a0 i1 (i2 + 0) (i3 + 1)) ∧ (¬ r_1 = 0 → K4 a0 i1 (i2 + 1) (i3 + 1))))
def T_X1_neighboursOf (M : Mm) (a0 : Nat) (i1 : Int32) (Q : Int32 → Prop) : Prop := ∀ (K4 : Nat → Int32 → Int32 → Int32 → Prop), (∀ (a0 : Nat) (i1 : Int32) (i2 : Int32) (i3 : Int32), S_X1_neighboursOf_4 K4 Q M a0 i1 i2 i3 → K4 a0 i1 i2 i3) → K4 a0 i1 0 0
set_option maxRecDepth 100000 in
set_option maxHeartbeats 4000000 in
theorem b_X1_neighboursOf_4 {p : Program} {l : Launch} {e : Env} {s : State} {m : MethodId} {args : Array Value} {below : List Frame} {meth : Method} {c : Code} {D : va_G} {cA : Nat → ClassId} {lo : Nat} (C : Cx p s m args c cX1_neighboursOf 4 RX1 wsX1_neighboursOf D cA lo) (hr : meth.sig.returnType = (some .int)) (hlk : meth.locks = false) {Q : Int32 → Prop} {M : Mm} (a0 : Nat) (i1 : Int32) (i2 : Int32) (i3 : Int32) (h : S_X1_neighboursOf_4 (fun (a0 : Nat) (i1 : Int32) (i2 : Int32) (i3 : Int32) => QW p l e ({ frames := 2, cells := 0, slots := 0, locals := 44 } : Room) s m args below meth c (MQ below (QiM D cA lo (fun r M1 => M1 = M ∧ Q r)) args s 0 0 (fun q => lo ≤ q)) 4 D cA lo 0 0 M 4 [(0, .ref a0), (1, .int i1), (2, .int i2), (3, .int i3)] []) Q M a0 i1 i2 i3) : QW p l e ({ frames := 2, cells := 0, slots := 0, locals := 44 } : Room) s m args below meth c (MQ below (QiM D cA lo (fun r M1 => M1 = M ∧ Q r)) args s 0 0 (fun q => lo ≤ q)) 4 D cA lo 0 0 M 4 [(0, .ref a0), (1, .int i1), (2, .int i2), (3, .int i3)] [] := by
  unfold S_X1_neighboursOf_4 at h
  refine q_iload_n C dX1_neighboursOf_4 rfl (j := 3) rfl ?_
  refine q_bipush (v := 100) C dX1_neighboursOf_5 (by decide) ?_
  refine q_icmp_ge (tgt := 33) C dX1_neighboursOf_7 (by decide) (fun z => ?_) (fun z => ?_)
  · have h := h.1 z
    refine q_iload_n C dX1_neighboursOf_33 rfl (j := 2) rfl ?_
    exact q_iret C hr hlk dX1_neighboursOf_34 (Nat.le_of_ble_eq_true rfl) (Nat.le_of_ble_eq_true rfl) ⟨rfl, h⟩
  · have h := h.2 z
    refine q_iload_n C dX1_neighboursOf_10 rfl (j := 2) rfl ?_
    refine q_aload_n C dX1_neighboursOf_11 rfl (j := 0) rfl ?_
    refine q_iload_n C dX1_neighboursOf_12 rfl (j := 1) rfl ?_
    refine q_iload_n C dX1_neighboursOf_13 rfl (j := 3) rfl ?_
    refine q_ci (q_runV (As := [.int i1, .int i3]) (st := [.int i2]) C (c_X1_isEdge l D cA lo h.2) (cwV 2 C.2.2.2.2.1 gX1_neighboursOf_X1_isEdge rfl rfl rfl (by decide +kernel) ⟨Nat.le_of_ble_eq_true rfl, Nat.le_of_ble_eq_true rfl⟩) h.1 (by decide) rfl rfl rfl (Nat.le_of_ble_eq_true rfl) dX1_neighboursOf_14 ⟨Nat.le_of_ble_eq_true rfl, Nat.le_of_ble_eq_true rfl⟩) (fun r_1 M_z h => ?_)
    refine q_mem h.1 ?_
    have h := h.2
    refine q_if_eq (tgt := 24) C dX1_neighboursOf_17 (by decide) (fun z => ?_) (fun z => ?_)
    · have h := h.1 z
      refine q_iconst (v := 0) C dX1_neighboursOf_24 (by decide) ?_
      refine q_iadd C dX1_neighboursOf_25 ?_
      refine q_istore_n (lv' := [(2, .int (i2 + 0)), (0, .ref a0), (1, .int i1), (3, .int i3)]) C dX1_neighboursOf_26 rfl (by decide) rfl ?_
      refine q_iinc (v := (i3 + 1)) (lv' := [(3, .int (i3 + 1)), (2, .int (i2 + 0)), (0, .ref a0), (1, .int i1)]) C dX1_neighboursOf_27 (j := 3) rfl rfl (by decide) rfl ?_
      refine q_goto (tgt := 4) C dX1_neighboursOf_30 (by decide) ?_
      exact q_sub [2, 3, 1, 0] rfl h
    · have h := h.2 z
      refine q_iconst (v := 1) C dX1_neighboursOf_20 (by decide) ?_
      refine q_goto (tgt := 25) C dX1_neighboursOf_21 (by decide) ?_
      refine q_iadd C dX1_neighboursOf_25 ?_
      refine q_istore_n (lv' := [(2, .int (i2 + 1)), (0, .ref a0), (1, .int i1), (3, .int i3)]) C dX1_neighboursOf_26 rfl (by decide) rfl ?_
      refine q_iinc (v := (i3 + 1)) (lv' := [(3, .int (i3 + 1)), (2, .int (i2 + 1)), (0, .ref a0), (1, .int i1)]) C dX1_neighboursOf_27 (j := 3) rfl rfl (by decide) rfl ?_
      refine q_goto (tgt := 4) C dX1_neighboursOf_30 (by decide) ?_
      exact q_sub [2, 3, 1, 0] rfl h
set_option maxRecDepth 100000 in
set_option maxHeartbeats 4000000 in
theorem c_X1_neighboursOf (l : Launch) (D : va_G) (cA : Nat → ClassId) (lo : Nat) {M : Mm} {a0 : Nat} {i1 : Int32} {Q : Int32 → Prop} (h : T_X1_neighboursOf M a0 i1 Q) : Met l yX1_neighboursOf wsX1_neighboursOf ({ frames := 2, cells := 0, slots := 0, locals := 44 } : Room) (PcM D cA lo [.ref a0, .int i1] M) (QiM D cA lo (fun r M1 => M1 = M ∧ Q r)) 0 0 (fun q => lo ≤ q) := by
  refine q_start (cc := cX1_neighboursOf) (nL := 4) (ret := (some .int)) (by decide) rfl rfl (Nat.le_of_ble_eq_true rfl) ?_
  intro p e s m args below meth c C hr hlk hin
  unfold T_X1_neighboursOf at h
  have h := h (fun (a0 : Nat) (i1 : Int32) (i2 : Int32) (i3 : Int32) => QW p l e ({ frames := 2, cells := 0, slots := 0, locals := 44 } : Room) s m args below meth c (MQ below (QiM D cA lo (fun r M1 => M1 = M ∧ Q r)) args s 0 0 (fun q => lo ≤ q)) 4 D cA lo 0 0 M 4 [(0, .ref a0), (1, .int i1), (2, .int i2), (3, .int i3)] []) (fun a0 i1 i2 i3 h => b_X1_neighboursOf_4 C hr hlk a0 i1 i2 i3 h)
  refine q_iconst (v := 0) C dX1_neighboursOf_0 (by decide) ?_
  refine q_istore_n (lv' := [(2, .int 0), (0, .ref a0), (1, .int i1)]) C dX1_neighboursOf_1 rfl (by decide) rfl ?_
  refine q_iconst (v := 0) C dX1_neighboursOf_2 (by decide) ?_
  refine q_istore_n (lv' := [(3, .int 0), (2, .int 0), (0, .ref a0), (1, .int i1)]) C dX1_neighboursOf_3 rfl (by decide) rfl ?_
  exact q_sub [2, 3, 1, 0] rfl h
def T_X8_isFaceNumber (M : Mm) (i0 : Int32) (Q : Int32 → Prop) : Prop := (i0 < 0 → Q 0) ∧ (¬ i0 < 0 → (160 ≤ i0 → Q 0) ∧ (¬ 160 ≤ i0 → Q 1))
set_option maxRecDepth 100000 in
set_option maxHeartbeats 4000000 in
theorem c_X8_isFaceNumber (l : Launch) (D : va_G) (cA : Nat → ClassId) (lo : Nat) {M : Mm} {i0 : Int32} {Q : Int32 → Prop} (h : T_X8_isFaceNumber M i0 Q) : Met l yX8_isFaceNumber wsX8_isFaceNumber ({ frames := 0, cells := 0, slots := 0, locals := 0 } : Room) (PcM D cA lo [.int i0] M) (QiM D cA lo (fun r M1 => M1 = M ∧ Q r)) 0 0 (fun q => lo ≤ q) := by
  refine q_start (cc := cX8_isFaceNumber) (nL := 1) (ret := (some .boolean)) (by decide) rfl rfl (Nat.le_of_ble_eq_true rfl) ?_
  intro p e s m args below meth c C hr hlk hin
  unfold T_X8_isFaceNumber at h
  refine q_iload_n C dX8_isFaceNumber_0 rfl (j := 0) rfl ?_
  refine q_if_lt (tgt := 15) C dX8_isFaceNumber_1 (by decide) (fun z => ?_) (fun z => ?_)
  · have h := h.1 z
    refine q_iconst (v := 0) C dX8_isFaceNumber_15 (by decide) ?_
    exact q_zret C hr hlk dX8_isFaceNumber_16 (Nat.le_of_ble_eq_true rfl) (Nat.le_of_ble_eq_true rfl) (Or.inl rfl) ⟨rfl, h⟩
  · have h := h.2 z
    refine q_iload_n C dX8_isFaceNumber_4 rfl (j := 0) rfl ?_
    refine q_sipush (v := 160) C dX8_isFaceNumber_5 (by decide) ?_
    refine q_icmp_ge (tgt := 15) C dX8_isFaceNumber_8 (by decide) (fun z => ?_) (fun z => ?_)
    · have h := h.1 z
      refine q_iconst (v := 0) C dX8_isFaceNumber_15 (by decide) ?_
      exact q_zret C hr hlk dX8_isFaceNumber_16 (Nat.le_of_ble_eq_true rfl) (Nat.le_of_ble_eq_true rfl) (Or.inl rfl) ⟨rfl, h⟩
    · have h := h.2 z
      refine q_iconst (v := 1) C dX8_isFaceNumber_11 (by decide) ?_
      refine q_goto (tgt := 16) C dX8_isFaceNumber_12 (by decide) ?_
      exact q_zret C hr hlk dX8_isFaceNumber_16 (Nat.le_of_ble_eq_true rfl) (Nat.le_of_ble_eq_true rfl) (Or.inr rfl) ⟨rfl, h⟩
def T_X1_add (M : Mm) (a0 : Nat) (a1 : Nat) (Q : Int32 → Mm → Prop) : Prop := kM M a0 = (1, 5) ∧ T_X8_isFaceNumber M (iM M a0 3) (fun r_1 => (¬ r_1 = 0 → kM M a0 = (1, 5) ∧ kM M a0 = (1, 5) ∧ kM (wI M a0 3 ((iM M a0 3) + 1)) a0 = (1, 5) ∧ kM (wI M a0 3 ((iM M a0 3) + 1)) a0 = (1, 5) ∧ kM (wI (wI M a0 3 ((iM M a0 3) + 1)) a0 4 ((iM (wI M a0 3 ((iM M a0 3) + 1)) a0 4) + 1)) a0 = (1, 5) ∧ T_X1_reshape (wI (wI M a0 3 ((iM M a0 3) + 1)) a0 4 ((iM (wI M a0 3 ((iM M a0 3) + 1)) a0 4) + 1)) a0 (iM M a0 3) a1 (fun M_3 => Q (iM M a0 3) M_3)) ∧ (r_1 = 0 → Q (-1) M))
theorem inX1_add_X1 : ∀ w ∈ wsX10, w ∈ wsX1_add := by decide +kernel
set_option maxRecDepth 100000 in
set_option maxHeartbeats 4000000 in
theorem c_X1_add (l : Launch) (D : va_G) (cA : Nat → ClassId) (lo : Nat) {M : Mm} {a0 : Nat} {a1 : Nat} {Q : Int32 → Mm → Prop} (h : T_X1_add M a0 a1 Q) : Met l yX1_add wsX1_add ({ frames := 3, cells := 0, slots := 0, locals := 68 } : Room) (PcM D cA lo [.ref a0, .ref a1] M) (QiM D cA lo Q) 0 0 (fun q => lo ≤ q) := by
  refine q_start (cc := cX1_add) (nL := 3) (ret := (some .int)) (by decide) rfl rfl (Nat.le_of_ble_eq_true rfl) ?_
  intro p e s m args below meth c C hr hlk hin
  unfold T_X1_add at h
  refine q_aload_n C dX1_add_0 rfl (j := 0) rfl ?_
  refine q_getI (ci := 1) (k0 := 3) (T := TX1) C inX1_add_X1 rfl (by decide) h.1 (by decide) rfl (by decide +kernel) rfl dX1_add_1 ?_
  have h := h.2
  refine q_istore_n (lv' := [(2, .int (iM M a0 3)), (0, .ref a0), (1, .ref a1)]) C dX1_add_4 rfl (by decide) rfl ?_
  refine q_iload_n C dX1_add_5 rfl (j := 0) rfl ?_
  refine q_ci (q_runSN (As := [.int (iM M a0 3)]) (st := []) C (c_X8_isFaceNumber l D cA lo h) ⟨va_cnB (host := "QuarryMesh") 1 C.2.2.2.2.1 gX1_add_X8_isFaceNumber_n62 rfl rfl rfl (C.2.2.2.2.2.2.2.1 (RX1, 62, yX8_isFaceNumber, "QuarryMesh") (List.mem_of_getElem? (i := 9) rfl)) (C.2.2.2.2.1 _ (by decide +kernel)) (by decide +kernel) ⟨Nat.le_of_ble_eq_true rfl, Nat.le_of_ble_eq_true rfl⟩, C.2.2.2.2.1 _ (by decide +kernel), trivial⟩ rfl rfl (Nat.le_of_ble_eq_true rfl) dX1_add_6 ⟨Nat.le_of_ble_eq_true rfl, Nat.le_of_ble_eq_true rfl⟩) (fun r_1 M_z h => ?_)
  refine q_mem h.1 ?_
  have h := h.2
  refine q_if_ne (tgt := 14) C dX1_add_9 (by decide) (fun z => ?_) (fun z => ?_)
  · have h := h.1 z
    refine q_aload_n C dX1_add_14 rfl (j := 1) rfl ?_
    refine q_dup C dX1_add_15 rfl ?_
    refine q_getI (ci := 1) (k0 := 3) (T := TX1) C inX1_add_X1 rfl (by decide) h.1 (by decide) rfl (by decide +kernel) rfl dX1_add_16 ?_
    have h := h.2
    refine q_iconst (v := 1) C dX1_add_19 (by decide) ?_
    refine q_iadd C dX1_add_20 ?_
    refine q_putI (ci := 1) (k0 := 3) (T := TX1) (v := ((iM M a0 3) + 1)) (ty := .int) C inX1_add_X1 tyX1 tyX1_ok nmX1 rfl (by decide) h.1 (by decide) rfl (by decide +kernel) rfl (by decide +kernel) rfl rfl rfl dX1_add_21 ?_
    have h := h.2
    refine q_aload_n C dX1_add_24 rfl (j := 1) rfl ?_
    refine q_dup C dX1_add_25 rfl ?_
    refine q_getI (ci := 1) (k0 := 4) (T := TX1) C inX1_add_X1 rfl (by decide) h.1 (by decide) rfl (by decide +kernel) rfl dX1_add_26 ?_
    have h := h.2
    refine q_iconst (v := 1) C dX1_add_29 (by decide) ?_
    refine q_iadd C dX1_add_30 ?_
    refine q_putI (ci := 1) (k0 := 4) (T := TX1) (v := ((iM (wI M a0 3 ((iM M a0 3) + 1)) a0 4) + 1)) (ty := .int) C inX1_add_X1 tyX1 tyX1_ok nmX1 rfl (by decide) h.1 (by decide) rfl (by decide +kernel) rfl (by decide +kernel) rfl rfl rfl dX1_add_31 ?_
    have h := h.2
    refine q_aload_n C dX1_add_34 rfl (j := 1) rfl ?_
    refine q_iload_n C dX1_add_35 rfl (j := 0) rfl ?_
    refine q_aload_n C dX1_add_36 rfl (j := 2) rfl ?_
    refine q_cv (q_runV (As := [.int (iM M a0 3), .ref a1]) (st := []) C (c_X1_reshape l D cA lo h.2) (cwV 2 C.2.2.2.2.1 gX1_add_X1_reshape rfl rfl rfl (by decide +kernel) ⟨Nat.le_of_ble_eq_true rfl, Nat.le_of_ble_eq_true rfl⟩) h.1 (by decide) rfl rfl rfl (Nat.le_of_ble_eq_true rfl) dX1_add_37 ⟨Nat.le_of_ble_eq_true rfl, Nat.le_of_ble_eq_true rfl⟩) (fun M_3 h => ?_)
    refine q_iload_n C dX1_add_40 rfl (j := 0) rfl ?_
    exact q_iret C hr hlk dX1_add_41 (Nat.le_of_ble_eq_true rfl) (Nat.le_of_ble_eq_true rfl) h
  · have h := h.2 z
    refine q_iconst (v := (-1)) C dX1_add_12 (by decide) ?_
    exact q_iret C hr hlk dX1_add_13 (Nat.le_of_ble_eq_true rfl) (Nat.le_of_ble_eq_true rfl) h
def T_X2_init (Cc Zz : Nat) (M : Mm) (a0 : Nat) (Q : Mm → Prop) : Prop := 0 + 1 ≤ Cc ∧ 0 + 10000 ≤ Zz ∧ ∀ q_1 : Nat, frs M q_1 → kM (wN M q_1 100 10000) a0 = (2, 2) ∧ (0 + 1) ≤ Cc ∧ (0 + 10000) ≤ Zz ∧ Q (wR (wN M q_1 100 10000) a0 0 (some q_1))
theorem inX2_init_X2 : ∀ w ∈ wsX20, w ∈ wsX2_init := by decide +kernel
set_option maxRecDepth 100000 in
set_option maxHeartbeats 4000000 in
theorem c_X2_init (l : Launch) (D : va_G) (cA : Nat → ClassId) (lo : Nat) {M : Mm} {a0 : Nat} {Cc Zz : Nat} {Q : Mm → Prop} (h : T_X2_init Cc Zz M a0 Q) : Met l yX2_init wsX2_init ({ frames := 1, cells := Cc, slots := Zz, locals := 20 } : Room) (PcM D cA lo [.ref a0] M) (QvM D cA lo Q) Cc Zz (fun q => lo ≤ q) := by
  refine q_start (cc := cX2_init) (nL := 1) (ret := none) (by decide) rfl rfl (Nat.le_of_ble_eq_true rfl) ?_
  intro p e s m args below meth c C hr hlk hin
  unfold T_X2_init at h
  refine q_aload_n C dX2_init_0 rfl (j := 0) rfl ?_
  refine q_objInit C (by decide +kernel) (by decide +kernel) (by decide +kernel) dX2_init_1 ⟨Nat.le_of_ble_eq_true rfl, Nat.le_of_ble_eq_true rfl⟩ ?_
  refine q_aload_n C dX2_init_4 rfl (j := 0) rfl ?_
  refine q_sipush (v := 10000) C dX2_init_5 (by decide) ?_
  refine q_newI (N := 10000) C (by decide +kernel) (by decide) (by decide) (by decide) ⟨h.1, h.2.1⟩ dX2_init_8 (fun q_1 hq _ => ?_)
  have h := h.2.2 q_1 hq
  refine q_putFR (ci := 2) (k0 := 0) (T := TX2) (v := (some q_1)) (ty := .array .int) C inX2_init_X2 tyX2 tyX2_ok nmX2 rfl (by decide) h.1 (by decide) rfl (by decide +kernel) rfl hin rfl (by decide +kernel) rfl rfl rfl dX2_init_10 ?_
  have h := h.2
  exact q_vret C hr hlk dX2_init_13 h.1 h.2.1 h.2.2
def T_X3_init (Cc Zz : Nat) (M : Mm) (a0 : Nat) (Q : Mm → Prop) : Prop := 0 + 4 ≤ Cc ∧ 0 + 303 ≤ Zz ∧ ∀ q_1 : Nat, frs M q_1 → kM (wG M q_1 121 100 3 100) a0 = (3, 4) ∧ (0 + 1 + 3) + 1 ≤ Cc ∧ (0 + 3 + 300) + 100 ≤ Zz ∧ ∀ q_2 : Nat, frs (wR (wG M q_1 121 100 3 100) a0 0 (some q_1)) q_2 → kM (wN (wR (wG M q_1 121 100 3 100) a0 0 (some q_1)) q_2 101 100) a0 = (3, 4) ∧ ((0 + 1 + 3) + 1) ≤ Cc ∧ ((0 + 3 + 300) + 100) ≤ Zz ∧ Q (wR (wN (wR (wG M q_1 121 100 3 100) a0 0 (some q_1)) q_2 101 100) a0 1 (some q_2))
theorem inX3_init_X3 : ∀ w ∈ wsX30, w ∈ wsX3_init := by decide +kernel
set_option maxRecDepth 100000 in
set_option maxHeartbeats 4000000 in
theorem c_X3_init (l : Launch) (D : va_G) (cA : Nat → ClassId) (lo : Nat) {M : Mm} {a0 : Nat} {Cc Zz : Nat} {Q : Mm → Prop} (h : T_X3_init Cc Zz M a0 Q) : Met l yX3_init wsX3_init ({ frames := 1, cells := Cc, slots := Zz, locals := 20 } : Room) (PcM D cA lo [.ref a0] M) (QvM D cA lo Q) Cc Zz (fun q => lo ≤ q) := by
  refine q_start (cc := cX3_init) (nL := 1) (ret := none) (by decide) rfl rfl (Nat.le_of_ble_eq_true rfl) ?_
  intro p e s m args below meth c C hr hlk hin
  unfold T_X3_init at h
  refine q_aload_n C dX3_init_0 rfl (j := 0) rfl ?_
  refine q_objInit C (by decide +kernel) (by decide +kernel) (by decide +kernel) dX3_init_1 ⟨Nat.le_of_ble_eq_true rfl, Nat.le_of_ble_eq_true rfl⟩ ?_
  refine q_aload_n C dX3_init_4 rfl (j := 0) rfl ?_
  refine q_iconst (v := 3) C dX3_init_5 (by decide) ?_
  refine q_bipush (v := 100) C dX3_init_6 (by decide) ?_
  refine q_mnaI (N := 3) (K := 100) C (by decide +kernel) (C.2.2.2.2.2.2.2.2.2.2.2.2.2.2.2.2.1.use) (by decide +kernel) (by decide) (by decide) (by decide) (by decide) (by decide) (by decide) (by decide) ⟨h.1, h.2.1⟩ dX3_init_8 (fun q_1 hq _ => ?_)
  have h := h.2.2 q_1 hq
  refine q_putFR (ci := 3) (k0 := 0) (T := TX3) (v := (some q_1)) (ty := .array (.array .int)) C inX3_init_X3 tyX3 tyX3_ok nmX3 rfl (by decide) h.1 (by decide) rfl (by decide +kernel) rfl hin rfl (by decide +kernel) rfl rfl rfl dX3_init_12 ?_
  have h := h.2
  refine q_aload_n C dX3_init_15 rfl (j := 0) rfl ?_
  refine q_bipush (v := 100) C dX3_init_16 (by decide) ?_
  refine q_newZ (N := 100) C (by decide +kernel) (by decide) (by decide) (by decide) ⟨h.1, h.2.1⟩ dX3_init_18 (fun q_2 hq _ => ?_)
  have h := h.2.2 q_2 hq
  refine q_putFR (ci := 3) (k0 := 1) (T := TX3) (v := (some q_2)) (ty := .array .boolean) C inX3_init_X3 tyX3 tyX3_ok nmX3 rfl (by decide) h.1 (by decide) rfl (by decide +kernel) rfl hin rfl (by decide +kernel) rfl rfl rfl dX3_init_20 ?_
  have h := h.2
  exact q_vret C hr hlk dX3_init_23 h.1 h.2.1 h.2.2
def T_X3_ever (M : Mm) (a0 : Nat) (Q : Int32 → Prop) : Prop := kM M a0 = (3, 4) ∧ Q (iM M a0 2)
theorem inX3_ever_X3 : ∀ w ∈ wsX30, w ∈ wsX3_ever := by decide +kernel
set_option maxRecDepth 100000 in
set_option maxHeartbeats 4000000 in
theorem c_X3_ever (l : Launch) (D : va_G) (cA : Nat → ClassId) (lo : Nat) {M : Mm} {a0 : Nat} {Q : Int32 → Prop} (h : T_X3_ever M a0 Q) : Met l yX3_ever wsX3_ever ({ frames := 0, cells := 0, slots := 0, locals := 0 } : Room) (PcM D cA lo [.ref a0] M) (QiM D cA lo (fun r M1 => M1 = M ∧ Q r)) 0 0 (fun q => lo ≤ q) := by
  refine q_start (cc := cX3_ever) (nL := 1) (ret := (some .int)) (by decide) rfl rfl (Nat.le_of_ble_eq_true rfl) ?_
  intro p e s m args below meth c C hr hlk hin
  unfold T_X3_ever at h
  refine q_aload_n C dX3_ever_0 rfl (j := 0) rfl ?_
  refine q_getI (ci := 3) (k0 := 2) (T := TX3) C inX3_ever_X3 rfl (by decide) h.1 (by decide) rfl (by decide +kernel) rfl dX3_ever_1 ?_
  have h := h.2
  exact q_iret C hr hlk dX3_ever_4 (Nat.le_of_ble_eq_true rfl) (Nat.le_of_ble_eq_true rfl) ⟨rfl, h⟩
def T_X3_left (M : Mm) (a0 : Nat) (Q : Int32 → Prop) : Prop := kM M a0 = (3, 4) ∧ Q (iM M a0 3)
theorem inX3_left_X3 : ∀ w ∈ wsX30, w ∈ wsX3_left := by decide +kernel
set_option maxRecDepth 100000 in
set_option maxHeartbeats 4000000 in
theorem c_X3_left (l : Launch) (D : va_G) (cA : Nat → ClassId) (lo : Nat) {M : Mm} {a0 : Nat} {Q : Int32 → Prop} (h : T_X3_left M a0 Q) : Met l yX3_left wsX3_left ({ frames := 0, cells := 0, slots := 0, locals := 0 } : Room) (PcM D cA lo [.ref a0] M) (QiM D cA lo (fun r M1 => M1 = M ∧ Q r)) 0 0 (fun q => lo ≤ q) := by
  refine q_start (cc := cX3_left) (nL := 1) (ret := (some .int)) (by decide) rfl rfl (Nat.le_of_ble_eq_true rfl) ?_
  intro p e s m args below meth c C hr hlk hin
  unfold T_X3_left at h
  refine q_aload_n C dX3_left_0 rfl (j := 0) rfl ?_
  refine q_getI (ci := 3) (k0 := 3) (T := TX3) C inX3_left_X3 rfl (by decide) h.1 (by decide) rfl (by decide +kernel) rfl dX3_left_1 ?_
  have h := h.2
  exact q_iret C hr hlk dX3_left_4 (Nat.le_of_ble_eq_true rfl) (Nat.le_of_ble_eq_true rfl) ⟨rfl, h⟩
def T_X3_has (M : Mm) (a0 : Nat) (i1 : Int32) (Q : Int32 → Prop) : Prop := T_X8_isPointNumber M i1 (fun r_1 => (r_1 = 0 → Q 0) ∧ (¬ r_1 = 0 → kM M a0 = (3, 4) ∧ ∃ a_2 : Nat, rM M a0 1 = some a_2 ∧ ∃ n_3 : Nat, kM M a_2 = (101, n_3) ∧ vp_in i1 n_3 ∧ ((iM M a_2 i1.toNatClampNeg) = 0 → Q 0) ∧ (¬ (iM M a_2 i1.toNatClampNeg) = 0 → Q 1)))
theorem inX3_has_X3 : ∀ w ∈ wsX30, w ∈ wsX3_has := by decide +kernel
set_option maxRecDepth 100000 in
set_option maxHeartbeats 4000000 in
theorem c_X3_has (l : Launch) (D : va_G) (cA : Nat → ClassId) (lo : Nat) {M : Mm} {a0 : Nat} {i1 : Int32} {Q : Int32 → Prop} (h : T_X3_has M a0 i1 Q) : Met l yX3_has wsX3_has ({ frames := 1, cells := 0, slots := 0, locals := 20 } : Room) (PcM D cA lo [.ref a0, .int i1] M) (QiM D cA lo (fun r M1 => M1 = M ∧ Q r)) 0 0 (fun q => lo ≤ q) := by
  refine q_start (cc := cX3_has) (nL := 2) (ret := (some .boolean)) (by decide) rfl rfl (Nat.le_of_ble_eq_true rfl) ?_
  intro p e s m args below meth c C hr hlk hin
  unfold T_X3_has at h
  refine q_iload_n C dX3_has_0 rfl (j := 1) rfl ?_
  refine q_ci (q_runSN (As := [.int i1]) (st := []) C (c_X8_isPointNumber l D cA lo h) ⟨va_cnB (host := "QuarryMesh") 1 C.2.2.2.2.1 gX3_has_X8_isPointNumber_n27 rfl rfl rfl (C.2.2.2.2.2.2.2.1 (RX3, 27, yX8_isPointNumber, "QuarryMesh") (List.mem_of_getElem? (i := 6) rfl)) (C.2.2.2.2.1 _ (by decide +kernel)) (by decide +kernel) ⟨Nat.le_of_ble_eq_true rfl, Nat.le_of_ble_eq_true rfl⟩, C.2.2.2.2.1 _ (by decide +kernel), trivial⟩ rfl rfl (Nat.le_of_ble_eq_true rfl) dX3_has_1 ⟨Nat.le_of_ble_eq_true rfl, Nat.le_of_ble_eq_true rfl⟩) (fun r_1 M_z h => ?_)
  refine q_mem h.1 ?_
  have h := h.2
  refine q_if_eq (tgt := 20) C dX3_has_4 (by decide) (fun z => ?_) (fun z => ?_)
  · have h := h.1 z
    refine q_iconst (v := 0) C dX3_has_20 (by decide) ?_
    exact q_zret C hr hlk dX3_has_21 (Nat.le_of_ble_eq_true rfl) (Nat.le_of_ble_eq_true rfl) (Or.inl rfl) ⟨rfl, h⟩
  · have h := h.2 z
    refine q_aload_n C dX3_has_7 rfl (j := 0) rfl ?_
    refine q_getR (ci := 3) (k0 := 1) (T := TX3) C inX3_has_X3 rfl (by decide) h.1 (by decide) rfl (by decide +kernel) rfl dX3_has_8 ?_
    obtain ⟨a_2, z, h⟩ := h.2
    refine q_ref z ?_
    refine q_iload_n C dX3_has_11 rfl (j := 1) rfl ?_
    obtain ⟨n_3, z1, z2, h⟩ := h
    refine q_zald C z1 z2 dX3_has_12 ?_
    refine q_if_eq (tgt := 20) C dX3_has_13 (by decide) (fun z => ?_) (fun z => ?_)
    · have h := h.1 z
      refine q_iconst (v := 0) C dX3_has_20 (by decide) ?_
      exact q_zret C hr hlk dX3_has_21 (Nat.le_of_ble_eq_true rfl) (Nat.le_of_ble_eq_true rfl) (Or.inl rfl) ⟨rfl, h⟩
    · have h := h.2 z
      refine q_iconst (v := 1) C dX3_has_16 (by decide) ?_
      refine q_goto (tgt := 21) C dX3_has_17 (by decide) ?_
      exact q_zret C hr hlk dX3_has_21 (Nat.le_of_ble_eq_true rfl) (Nat.le_of_ble_eq_true rfl) (Or.inr rfl) ⟨rfl, h⟩
def T_X3_hasRoom (M : Mm) (a0 : Nat) (i1 : Int32) (Q : Int32 → Prop) : Prop := kM M a0 = (3, 4) ∧ ((100 - (iM M a0 2)) < i1 → Q 0) ∧ (¬ (100 - (iM M a0 2)) < i1 → Q 1)
theorem inX3_hasRoom_X3 : ∀ w ∈ wsX30, w ∈ wsX3_hasRoom := by decide +kernel
set_option maxRecDepth 100000 in
set_option maxHeartbeats 4000000 in
theorem c_X3_hasRoom (l : Launch) (D : va_G) (cA : Nat → ClassId) (lo : Nat) {M : Mm} {a0 : Nat} {i1 : Int32} {Q : Int32 → Prop} (h : T_X3_hasRoom M a0 i1 Q) : Met l yX3_hasRoom wsX3_hasRoom ({ frames := 0, cells := 0, slots := 0, locals := 0 } : Room) (PcM D cA lo [.ref a0, .int i1] M) (QiM D cA lo (fun r M1 => M1 = M ∧ Q r)) 0 0 (fun q => lo ≤ q) := by
  refine q_start (cc := cX3_hasRoom) (nL := 2) (ret := (some .boolean)) (by decide) rfl rfl (Nat.le_of_ble_eq_true rfl) ?_
  intro p e s m args below meth c C hr hlk hin
  unfold T_X3_hasRoom at h
  refine q_iload_n C dX3_hasRoom_0 rfl (j := 1) rfl ?_
  refine q_bipush (v := 100) C dX3_hasRoom_1 (by decide) ?_
  refine q_aload_n C dX3_hasRoom_3 rfl (j := 0) rfl ?_
  refine q_getI (ci := 3) (k0 := 2) (T := TX3) C inX3_hasRoom_X3 rfl (by decide) h.1 (by decide) rfl (by decide +kernel) rfl dX3_hasRoom_4 ?_
  have h := h.2
  refine q_isub C dX3_hasRoom_7 ?_
  refine q_icmp_gt (tgt := 15) C dX3_hasRoom_8 (by decide) (fun z => ?_) (fun z => ?_)
  · have h := h.1 z
    refine q_iconst (v := 0) C dX3_hasRoom_15 (by decide) ?_
    exact q_zret C hr hlk dX3_hasRoom_16 (Nat.le_of_ble_eq_true rfl) (Nat.le_of_ble_eq_true rfl) (Or.inl rfl) ⟨rfl, h⟩
  · have h := h.2 z
    refine q_iconst (v := 1) C dX3_hasRoom_11 (by decide) ?_
    refine q_goto (tgt := 16) C dX3_hasRoom_12 (by decide) ?_
    exact q_zret C hr hlk dX3_hasRoom_16 (Nat.le_of_ble_eq_true rfl) (Nat.le_of_ble_eq_true rfl) (Or.inr rfl) ⟨rfl, h⟩
def T_X3_get (M : Mm) (a0 : Nat) (i1 : Int32) (i2 : Int32) (Q : Int32 → Prop) : Prop := T_X8_isPointNumber M i1 (fun r_1 => (r_1 = 0 → Q 0) ∧ (¬ r_1 = 0 → (i2 < 0 → Q 0) ∧ (¬ i2 < 0 → (i2 < 3 → kM M a0 = (3, 4) ∧ ∃ a_2 : Nat, rM M a0 0 = some a_2 ∧ ∃ n_3 : Nat, kM M a_2 = (121, n_3) ∧ vp_in i2 n_3 ∧ ∃ a_4 : Nat, rM M a_2 i2.toNatClampNeg = some a_4 ∧ ∃ n_5 : Nat, kM M a_4 = (100, n_5) ∧ vp_in i1 n_5 ∧ Q (iM M a_4 i1.toNatClampNeg)) ∧ (¬ i2 < 3 → Q 0))))
theorem inX3_get_X3 : ∀ w ∈ wsX30, w ∈ wsX3_get := by decide +kernel
set_option maxRecDepth 100000 in
set_option maxHeartbeats 4000000 in
theorem c_X3_get (l : Launch) (D : va_G) (cA : Nat → ClassId) (lo : Nat) {M : Mm} {a0 : Nat} {i1 : Int32} {i2 : Int32} {Q : Int32 → Prop} (h : T_X3_get M a0 i1 i2 Q) : Met l yX3_get wsX3_get ({ frames := 1, cells := 0, slots := 0, locals := 20 } : Room) (PcM D cA lo [.ref a0, .int i1, .int i2] M) (QiM D cA lo (fun r M1 => M1 = M ∧ Q r)) 0 0 (fun q => lo ≤ q) := by
  refine q_start (cc := cX3_get) (nL := 3) (ret := (some .int)) (by decide) rfl rfl (Nat.le_of_ble_eq_true rfl) ?_
  intro p e s m args below meth c C hr hlk hin
  unfold T_X3_get at h
  refine q_iload_n C dX3_get_0 rfl (j := 1) rfl ?_
  refine q_ci (q_runSN (As := [.int i1]) (st := []) C (c_X8_isPointNumber l D cA lo h) ⟨va_cnB (host := "QuarryMesh") 1 C.2.2.2.2.1 gX3_get_X8_isPointNumber_n27 rfl rfl rfl (C.2.2.2.2.2.2.2.1 (RX3, 27, yX8_isPointNumber, "QuarryMesh") (List.mem_of_getElem? (i := 6) rfl)) (C.2.2.2.2.1 _ (by decide +kernel)) (by decide +kernel) ⟨Nat.le_of_ble_eq_true rfl, Nat.le_of_ble_eq_true rfl⟩, C.2.2.2.2.1 _ (by decide +kernel), trivial⟩ rfl rfl (Nat.le_of_ble_eq_true rfl) dX3_get_1 ⟨Nat.le_of_ble_eq_true rfl, Nat.le_of_ble_eq_true rfl⟩) (fun r_1 M_z h => ?_)
  refine q_mem h.1 ?_
  have h := h.2
  refine q_if_eq (tgt := 16) C dX3_get_4 (by decide) (fun z => ?_) (fun z => ?_)
  · have h := h.1 z
    refine q_iconst (v := 0) C dX3_get_16 (by decide) ?_
    exact q_iret C hr hlk dX3_get_17 (Nat.le_of_ble_eq_true rfl) (Nat.le_of_ble_eq_true rfl) ⟨rfl, h⟩
  · have h := h.2 z
    refine q_iload_n C dX3_get_7 rfl (j := 2) rfl ?_
    refine q_if_lt (tgt := 16) C dX3_get_8 (by decide) (fun z => ?_) (fun z => ?_)
    · have h := h.1 z
      refine q_iconst (v := 0) C dX3_get_16 (by decide) ?_
      exact q_iret C hr hlk dX3_get_17 (Nat.le_of_ble_eq_true rfl) (Nat.le_of_ble_eq_true rfl) ⟨rfl, h⟩
    · have h := h.2 z
      refine q_iload_n C dX3_get_11 rfl (j := 2) rfl ?_
      refine q_iconst (v := 3) C dX3_get_12 (by decide) ?_
      refine q_icmp_lt (tgt := 18) C dX3_get_13 (by decide) (fun z => ?_) (fun z => ?_)
      · have h := h.1 z
        refine q_aload_n C dX3_get_18 rfl (j := 0) rfl ?_
        refine q_getR (ci := 3) (k0 := 0) (T := TX3) C inX3_get_X3 rfl (by decide) h.1 (by decide) rfl (by decide +kernel) rfl dX3_get_19 ?_
        obtain ⟨a_2, z, h⟩ := h.2
        refine q_ref z ?_
        refine q_iload_n C dX3_get_22 rfl (j := 2) rfl ?_
        obtain ⟨n_3, z1, z2, h⟩ := h
        refine q_gald C z1 z2 dX3_get_23 ?_
        obtain ⟨a_4, z, h⟩ := h
        refine q_ref z ?_
        refine q_iload_n C dX3_get_24 rfl (j := 1) rfl ?_
        obtain ⟨n_5, z1, z2, h⟩ := h
        refine q_iald C z1 z2 dX3_get_25 ?_
        exact q_iret C hr hlk dX3_get_26 (Nat.le_of_ble_eq_true rfl) (Nat.le_of_ble_eq_true rfl) ⟨rfl, h⟩
      · have h := h.2 z
        refine q_iconst (v := 0) C dX3_get_16 (by decide) ?_
        exact q_iret C hr hlk dX3_get_17 (Nat.le_of_ble_eq_true rfl) (Nat.le_of_ble_eq_true rfl) ⟨rfl, h⟩
def T_X3_put (M : Mm) (a0 : Nat) (i1 : Int32) (i2 : Int32) (i3 : Int32) (i4 : Int32) (Q : Mm → Prop) : Prop := T_X8_isPointNumber M i1 (fun r_1 => (r_1 = 0 → Q M) ∧ (¬ r_1 = 0 → kM M a0 = (3, 4) ∧ ∃ a_2 : Nat, rM M a0 0 = some a_2 ∧ ∃ n_3 : Nat, kM M a_2 = (121, n_3) ∧ vp_in 0 n_3 ∧ ∃ a_4 : Nat, rM M a_2 (0 : Int32).toNatClampNeg = some a_4 ∧ ∃ n_5 : Nat, kM M a_4 = (100, n_5) ∧ vp_in i1 n_5 ∧ kM (wI M a_4 i1.toNatClampNeg i2) a0 = (3, 4) ∧ ∃ a_6 : Nat, rM (wI M a_4 i1.toNatClampNeg i2) a0 0 = some a_6 ∧ ∃ n_7 : Nat, kM (wI M a_4 i1.toNatClampNeg i2) a_6 = (121, n_7) ∧ vp_in 1 n_7 ∧ ∃ a_8 : Nat, rM (wI M a_4 i1.toNatClampNeg i2) a_6 (1 : Int32).toNatClampNeg = some a_8 ∧ ∃ n_9 : Nat, kM (wI M a_4 i1.toNatClampNeg i2) a_8 = (100, n_9) ∧ vp_in i1 n_9 ∧ kM (wI (wI M a_4 i1.toNatClampNeg i2) a_8 i1.toNatClampNeg i3) a0 = (3, 4) ∧ ∃ a_10 : Nat, rM (wI (wI M a_4 i1.toNatClampNeg i2) a_8 i1.toNatClampNeg i3) a0 0 = some a_10 ∧ ∃ n_11 : Nat, kM (wI (wI M a_4 i1.toNatClampNeg i2) a_8 i1.toNatClampNeg i3) a_10 = (121, n_11) ∧ vp_in 2 n_11 ∧ ∃ a_12 : Nat, rM (wI (wI M a_4 i1.toNatClampNeg i2) a_8 i1.toNatClampNeg i3) a_10 (2 : Int32).toNatClampNeg = some a_12 ∧ ∃ n_13 : Nat, kM (wI (wI M a_4 i1.toNatClampNeg i2) a_8 i1.toNatClampNeg i3) a_12 = (100, n_13) ∧ vp_in i1 n_13 ∧ Q (wI (wI (wI M a_4 i1.toNatClampNeg i2) a_8 i1.toNatClampNeg i3) a_12 i1.toNatClampNeg i4)))
theorem inX3_put_X3 : ∀ w ∈ wsX30, w ∈ wsX3_put := by decide +kernel
set_option maxRecDepth 100000 in
set_option maxHeartbeats 4000000 in
theorem c_X3_put (l : Launch) (D : va_G) (cA : Nat → ClassId) (lo : Nat) {M : Mm} {a0 : Nat} {i1 : Int32} {i2 : Int32} {i3 : Int32} {i4 : Int32} {Q : Mm → Prop} (h : T_X3_put M a0 i1 i2 i3 i4 Q) : Met l yX3_put wsX3_put ({ frames := 1, cells := 0, slots := 0, locals := 20 } : Room) (PcM D cA lo [.ref a0, .int i1, .int i2, .int i3, .int i4] M) (QvM D cA lo Q) 0 0 (fun q => lo ≤ q) := by
  refine q_start (cc := cX3_put) (nL := 5) (ret := none) (by decide) rfl rfl (Nat.le_of_ble_eq_true rfl) ?_
  intro p e s m args below meth c C hr hlk hin
  unfold T_X3_put at h
  refine q_iload_n C dX3_put_0 rfl (j := 1) rfl ?_
  refine q_ci (q_runSN (As := [.int i1]) (st := []) C (c_X8_isPointNumber l D cA lo h) ⟨va_cnB (host := "QuarryMesh") 1 C.2.2.2.2.1 gX3_put_X8_isPointNumber_n27 rfl rfl rfl (C.2.2.2.2.2.2.2.1 (RX3, 27, yX8_isPointNumber, "QuarryMesh") (List.mem_of_getElem? (i := 6) rfl)) (C.2.2.2.2.1 _ (by decide +kernel)) (by decide +kernel) ⟨Nat.le_of_ble_eq_true rfl, Nat.le_of_ble_eq_true rfl⟩, C.2.2.2.2.1 _ (by decide +kernel), trivial⟩ rfl rfl (Nat.le_of_ble_eq_true rfl) dX3_put_1 ⟨Nat.le_of_ble_eq_true rfl, Nat.le_of_ble_eq_true rfl⟩) (fun r_1 M_z h => ?_)
  refine q_mem h.1 ?_
  have h := h.2
  refine q_if_eq (tgt := 35) C dX3_put_4 (by decide) (fun z => ?_) (fun z => ?_)
  · have h := h.1 z
    exact q_vret C hr hlk dX3_put_35 (Nat.le_of_ble_eq_true rfl) (Nat.le_of_ble_eq_true rfl) h
  · have h := h.2 z
    refine q_aload_n C dX3_put_7 rfl (j := 0) rfl ?_
    refine q_getR (ci := 3) (k0 := 0) (T := TX3) C inX3_put_X3 rfl (by decide) h.1 (by decide) rfl (by decide +kernel) rfl dX3_put_8 ?_
    obtain ⟨a_2, z, h⟩ := h.2
    refine q_ref z ?_
    refine q_iconst (v := 0) C dX3_put_11 (by decide) ?_
    obtain ⟨n_3, z1, z2, h⟩ := h
    refine q_gald C z1 z2 dX3_put_12 ?_
    obtain ⟨a_4, z, h⟩ := h
    refine q_ref z ?_
    refine q_iload_n C dX3_put_13 rfl (j := 1) rfl ?_
    refine q_iload_n C dX3_put_14 rfl (j := 2) rfl ?_
    obtain ⟨n_5, z1, z2, h⟩ := h
    refine q_iast C z1 z2 dX3_put_15 ?_
    refine q_aload_n C dX3_put_16 rfl (j := 0) rfl ?_
    refine q_getR (ci := 3) (k0 := 0) (T := TX3) C inX3_put_X3 rfl (by decide) h.1 (by decide) rfl (by decide +kernel) rfl dX3_put_17 ?_
    obtain ⟨a_6, z, h⟩ := h.2
    refine q_ref z ?_
    refine q_iconst (v := 1) C dX3_put_20 (by decide) ?_
    obtain ⟨n_7, z1, z2, h⟩ := h
    refine q_gald C z1 z2 dX3_put_21 ?_
    obtain ⟨a_8, z, h⟩ := h
    refine q_ref z ?_
    refine q_iload_n C dX3_put_22 rfl (j := 1) rfl ?_
    refine q_iload_n C dX3_put_23 rfl (j := 3) rfl ?_
    obtain ⟨n_9, z1, z2, h⟩ := h
    refine q_iast C z1 z2 dX3_put_24 ?_
    refine q_aload_n C dX3_put_25 rfl (j := 0) rfl ?_
    refine q_getR (ci := 3) (k0 := 0) (T := TX3) C inX3_put_X3 rfl (by decide) h.1 (by decide) rfl (by decide +kernel) rfl dX3_put_26 ?_
    obtain ⟨a_10, z, h⟩ := h.2
    refine q_ref z ?_
    refine q_iconst (v := 2) C dX3_put_29 (by decide) ?_
    obtain ⟨n_11, z1, z2, h⟩ := h
    refine q_gald C z1 z2 dX3_put_30 ?_
    obtain ⟨a_12, z, h⟩ := h
    refine q_ref z ?_
    refine q_iload_n C dX3_put_31 rfl (j := 1) rfl ?_
    refine q_iload C dX3_put_32 (j := 4) rfl ?_
    obtain ⟨n_13, z1, z2, h⟩ := h
    refine q_iast C z1 z2 dX3_put_34 ?_
    exact q_vret C hr hlk dX3_put_35 (Nat.le_of_ble_eq_true rfl) (Nat.le_of_ble_eq_true rfl) h
