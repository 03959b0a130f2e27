def S_X8_countPairs_4 (K4 : Nat → Int32 → Int32 → Int32 → Mm → Prop) (K28 : Nat → Int32 → Int32 → Int32 → Nat → Int32 → Mm → Prop) (K76 : Nat → Int32 → Int32 → Nat → Int32 → Int32 → Int32 → Int32 → Int32 → Mm → Prop) (Q : Int32 → Mm → Prop) (M : Mm) (a0 : Nat) (i1 : Int32) (i2 : Int32) (i3 : Int32) : Prop := kM M a0 = (8, 8) ∧ ∃ a_1 : Nat, rM M a0 1 = some a_1 ∧ kM M a_1 = (1, 5) ∧ T_X1_ever M a_1 (fun r_2 => (r_2 ≤ i3 → Q i2 M) ∧ (¬ r_2 ≤ i3 → kM M a0 = (8, 8) ∧ ∃ a_3 : Nat, rM M a0 1 = some a_3 ∧ kM M a_3 = (1, 5) ∧ T_X1_ring M a_3 i3 (fun r_4 => K28 a0 i1 i2 i3 r_4 0 M)))
def S_X8_countPairs_28 (K4 : Nat → Int32 → Int32 → Int32 → Mm → Prop) (K28 : Nat → Int32 → Int32 → Int32 → Nat → Int32 → Mm → Prop) (K76 : Nat → Int32 → Int32 → Nat → Int32 → Int32 → Int32 → Int32 → Int32 → Mm → Prop) (Q : Int32 → Mm → Prop) (M : Mm) (a0 : Nat) (i1 : Int32) (i2 : Int32) (i3 : Int32) (a4 : Nat) (i5 : Int32) : Prop := kM M a4 = (5, 2) ∧ T_X5_length M a4 (fun r_5 => (r_5 ≤ i5 → K4 a0 i1 i2 (i3 + 1) M) ∧ (¬ r_5 ≤ i5 → kM M a4 = (5, 2) ∧ T_X5_get M a4 i5 (fun r_6 => kM M a4 = (5, 2) ∧ T_X5_get M a4 (i5 + 1) (fun r_7 => kM M a0 = (8, 8) ∧ T_X8_isAllowed M a0 i1 r_6 r_7 (fun r_8 M_9 => (r_8 = 0 → K76 a0 i1 i3 a4 i5 r_6 r_7 i2 0 M_9) ∧ (¬ r_8 = 0 → K76 a0 i1 i3 a4 i5 r_6 r_7 i2 1 M_9))))))
def S_X8_countPairs_76 (K4 : Nat → Int32 → Int32 → Int32 → Mm → Prop) (K28 : Nat → Int32 → Int32 → Int32 → Nat → Int32 → Mm → Prop) (K76 : Nat → Int32 → Int32 → Nat → Int32 → Int32 → Int32 → Int32 → Int32 → Mm → Prop) (Q : Int32 → Mm → Prop) (M : Mm) (a0 : Nat) (i1 : Int32) (i3 : Int32) (a4 : Nat) (i5 : Int32) (i6 : Int32) (i7 : Int32) (is0 : Int32) (is1 : Int32) : Prop := kM M a0 = (8, 8) ∧ ∃ a_10 : Nat, rM M a0 1 = some a_10 ∧ kM M a_10 = (1, 5) ∧ T_X1_isOpen M a_10 i7 i6 (fun r_11 => (r_11 = 0 → K28 a0 i1 ((is0 + is1) + 0) i3 a4 (i5 + 1) M) ∧ (¬ r_11 = 0 → kM M a0 = (8, 8) ∧ T_X8_isAllowed M a0 i1 i7 i6 (fun r_12 M_13 => (r_12 = 0 → K28 a0 i1 ((is0 + is1) + 0) i3 a4 (i5 + 1) M_13) ∧ (¬ r_12 = 0 → K28 a0 i1 ((is0 + is1) + 1) i3 a4 (i5 + 1) M_13))))
def T_X8_countPairs (M : Mm) (a0 : Nat) (i1 : Int32) (Q : Int32 → Mm → Prop) : Prop := ∀ (K4 : Nat → Int32 → Int32 → Int32 → Mm → Prop) (K28 : Nat → Int32 → Int32 → Int32 → Nat → Int32 → Mm → Prop) (K76 : Nat → Int32 → Int32 → Nat → Int32 → Int32 → Int32 → Int32 → Int32 → Mm → Prop), (∀ (a0 : Nat) (i1 : Int32) (i2 : Int32) (i3 : Int32) (M : Mm), S_X8_countPairs_4 K4 K28 K76 Q M a0 i1 i2 i3 → K4 a0 i1 i2 i3 M) → (∀ (a0 : Nat) (i1 : Int32) (i2 : Int32) (i3 : Int32) (a4 : Nat) (i5 : Int32) (M : Mm), S_X8_countPairs_28 K4 K28 K76 Q M a0 i1 i2 i3 a4 i5 → K28 a0 i1 i2 i3 a4 i5 M) → (∀ (a0 : Nat) (i1 : Int32) (i3 : Int32) (a4 : Nat) (i5 : Int32) (i6 : Int32) (i7 : Int32) (is0 : Int32) (is1 : Int32) (M : Mm), S_X8_countPairs_76 K4 K28 K76 Q M a0 i1 i3 a4 i5 i6 i7 is0 is1 → K76 a0 i1 i3 a4 i5 i6 i7 is0 is1 M) → K4 a0 i1 0 0 M
theorem inX8_countPairs_X8 : ∀ w ∈ wsX80, w ∈ wsX8_countPairs := by decide +kernel
set_option maxRecDepth 100000 in
set_option maxHeartbeats 4000000 in
theorem b_X8_countPairs_4 {p : Program} {l : Launch} {e : Env} {s : State} {m : MethodId} {args : Array Value} {below : List Frame} {meth : Method} {c : Code} {D : va_G} {cA : Nat → ClassId} {lo : Nat} (C : Cx p s m args c cX8_countPairs 8 RX8 wsX8_countPairs D cA lo) (hr : meth.sig.returnType = (some .int)) (hlk : meth.locks = false) {Q : Int32 → Mm → Prop} (M : Mm) (a0 : Nat) (i1 : Int32) (i2 : Int32) (i3 : Int32) (h : S_X8_countPairs_4 (fun (a0 : Nat) (i1 : Int32) (i2 : Int32) (i3 : Int32) (M : Mm) => QW p l e ({ frames := 5, cells := 0, slots := 0, locals := 118 } : Room) s m args below meth c (MQ below (QiM D cA lo Q) args s 0 0 (fun q => lo ≤ q)) 8 D cA lo 0 0 M 4 [(0, .ref a0), (1, .int i1), (2, .int i2), (3, .int i3)] []) (fun (a0 : Nat) (i1 : Int32) (i2 : Int32) (i3 : Int32) (a4 : Nat) (i5 : Int32) (M : Mm) => QW p l e ({ frames := 5, cells := 0, slots := 0, locals := 118 } : Room) s m args below meth c (MQ below (QiM D cA lo Q) args s 0 0 (fun q => lo ≤ q)) 8 D cA lo 0 0 M 28 [(0, .ref a0), (1, .int i1), (2, .int i2), (3, .int i3), (4, .ref a4), (5, .int i5)] []) (fun (a0 : Nat) (i1 : Int32) (i3 : Int32) (a4 : Nat) (i5 : Int32) (i6 : Int32) (i7 : Int32) (is0 : Int32) (is1 : Int32) (M : Mm) => QW p l e ({ frames := 5, cells := 0, slots := 0, locals := 118 } : Room) s m args below meth c (MQ below (QiM D cA lo Q) args s 0 0 (fun q => lo ≤ q)) 8 D cA lo 0 0 M 76 [(0, .ref a0), (1, .int i1), (3, .int i3), (4, .ref a4), (5, .int i5), (6, .int i6), (7, .int i7)] [.int is1, .int is0]) Q M a0 i1 i2 i3) : QW p l e ({ frames := 5, cells := 0, slots := 0, locals := 118 } : Room) s m args below meth c (MQ below (QiM D cA lo Q) args s 0 0 (fun q => lo ≤ q)) 8 D cA lo 0 0 M 4 [(0, .ref a0), (1, .int i1), (2, .int i2), (3, .int i3)] [] := by
  unfold S_X8_countPairs_4 at h
  refine q_iload_n C dX8_countPairs_4 rfl (j := 3) rfl ?_
  refine q_aload_n C dX8_countPairs_5 rfl (j := 0) rfl ?_
  refine q_getR (ci := 8) (k0 := 1) (T := TX8) C inX8_countPairs_X8 rfl (by decide) h.1 (by decide) rfl (by decide +kernel) rfl dX8_countPairs_6 ?_
  obtain ⟨a_1, z, h⟩ := h.2
  refine q_ref z ?_
  refine q_ci (q_runV (As := []) (st := [.int i3]) C (c_X1_ever l D cA lo h.2) (cwV 0 C.2.2.2.2.1 gX8_countPairs_X1_ever rfl rfl rfl (by decide +kernel) ⟨Nat.le_of_ble_eq_true rfl, Nat.le_of_ble_eq_true rfl⟩) h.1 (by decide) rfl rfl rfl (Nat.le_of_ble_eq_true rfl) dX8_countPairs_9 ⟨Nat.le_of_ble_eq_true rfl, Nat.le_of_ble_eq_true rfl⟩) (fun r_2 M_z h => ?_)
  refine q_mem h.1 ?_
  have h := h.2
  refine q_icmp_ge (tgt := 124) C dX8_countPairs_12 (by decide) (fun z => ?_) (fun z => ?_)
  · have h := h.1 z
    refine q_iload_n C dX8_countPairs_124 rfl (j := 2) rfl ?_
    exact q_iret C hr hlk dX8_countPairs_125 (Nat.le_of_ble_eq_true rfl) (Nat.le_of_ble_eq_true rfl) h
  · have h := h.2 z
    refine q_aload_n C dX8_countPairs_15 rfl (j := 0) rfl ?_
    refine q_getR (ci := 8) (k0 := 1) (T := TX8) C inX8_countPairs_X8 rfl (by decide) h.1 (by decide) rfl (by decide +kernel) rfl dX8_countPairs_16 ?_
    obtain ⟨a_3, z, h⟩ := h.2
    refine q_ref z ?_
    refine q_iload_n C dX8_countPairs_19 rfl (j := 3) rfl ?_
    refine q_cr (q_runV (As := [.int i3]) (st := []) C (c_X1_ring l D cA lo h.2) (cwV 1 C.2.2.2.2.1 gX8_countPairs_X1_ring rfl rfl rfl (by decide +kernel) ⟨Nat.le_of_ble_eq_true rfl, Nat.le_of_ble_eq_true rfl⟩) h.1 (by decide) rfl rfl rfl (Nat.le_of_ble_eq_true rfl) dX8_countPairs_20 ⟨Nat.le_of_ble_eq_true rfl, Nat.le_of_ble_eq_true rfl⟩) (fun r_4 M_z h => ?_)
    refine q_mem h.1 ?_
    have h := h.2
    refine q_astore (lv' := [(4, .ref r_4), (0, .ref a0), (1, .int i1), (2, .int i2), (3, .int i3)]) C dX8_countPairs_23 (by decide) rfl ?_
    refine q_iconst (v := 0) C dX8_countPairs_25 (by decide) ?_
    refine q_istore (lv' := [(5, .int 0), (4, .ref r_4), (0, .ref a0), (1, .int i1), (2, .int i2), (3, .int i3)]) C dX8_countPairs_26 (by decide) rfl ?_
    exact q_sub [2, 3, 4, 5, 1, 0] rfl h
set_option maxRecDepth 100000 in
set_option maxHeartbeats 4000000 in
theorem b_X8_countPairs_28 {p : Program} {l : Launch} {e : Env} {s : State} {m : MethodId} {args : Array Value} {below : List Frame} {meth : Method} {c : Code} {D : va_G} {cA : Nat → ClassId} {lo : Nat} (C : Cx p s m args c cX8_countPairs 8 RX8 wsX8_countPairs D cA lo) (hr : meth.sig.returnType = (some .int)) (hlk : meth.locks = false) {Q : Int32 → Mm → Prop} (M : Mm) (a0 : Nat) (i1 : Int32) (i2 : Int32) (i3 : Int32) (a4 : Nat) (i5 : Int32) (h : S_X8_countPairs_28 (fun (a0 : Nat) (i1 : Int32) (i2 : Int32) (i3 : Int32) (M : Mm) => QW p l e ({ frames := 5, cells := 0, slots := 0, locals := 118 } : Room) s m args below meth c (MQ below (QiM D cA lo Q) args s 0 0 (fun q => lo ≤ q)) 8 D cA lo 0 0 M 4 [(0, .ref a0), (1, .int i1), (2, .int i2), (3, .int i3)] []) (fun (a0 : Nat) (i1 : Int32) (i2 : Int32) (i3 : Int32) (a4 : Nat) (i5 : Int32) (M : Mm) => QW p l e ({ frames := 5, cells := 0, slots := 0, locals := 118 } : Room) s m args below meth c (MQ below (QiM D cA lo Q) args s 0 0 (fun q => lo ≤ q)) 8 D cA lo 0 0 M 28 [(0, .ref a0), (1, .int i1), (2, .int i2), (3, .int i3), (4, .ref a4), (5, .int i5)] []) (fun (a0 : Nat) (i1 : Int32) (i3 : Int32) (a4 : Nat) (i5 : Int32) (i6 : Int32) (i7 : Int32) (is0 : Int32) (is1 : Int32) (M : Mm) => QW p l e ({ frames := 5, cells := 0, slots := 0, locals := 118 } : Room) s m args below meth c (MQ below (QiM D cA lo Q) args s 0 0 (fun q => lo ≤ q)) 8 D cA lo 0 0 M 76 [(0, .ref a0), (1, .int i1), (3, .int i3), (4, .ref a4), (5, .int i5), (6, .int i6), (7, .int i7)] [.int is1, .int is0]) Q M a0 i1 i2 i3 a4 i5) : QW p l e ({ frames := 5, cells := 0, slots := 0, locals := 118 } : Room) s m args below meth c (MQ below (QiM D cA lo Q) args s 0 0 (fun q => lo ≤ q)) 8 D cA lo 0 0 M 28 [(0, .ref a0), (1, .int i1), (2, .int i2), (3, .int i3), (4, .ref a4), (5, .int i5)] [] := by
  unfold S_X8_countPairs_28 at h
  refine q_iload C dX8_countPairs_28 (j := 5) rfl ?_
  refine q_aload C dX8_countPairs_30 (j := 4) rfl ?_
  refine q_ci (q_runV (As := []) (st := [.int i5]) C (c_X5_length l D cA lo h.2) (cwV 0 C.2.2.2.2.1 gX8_countPairs_X5_length rfl rfl rfl (by decide +kernel) ⟨Nat.le_of_ble_eq_true rfl, Nat.le_of_ble_eq_true rfl⟩) h.1 (by decide) rfl rfl rfl (Nat.le_of_ble_eq_true rfl) dX8_countPairs_32 ⟨Nat.le_of_ble_eq_true rfl, Nat.le_of_ble_eq_true rfl⟩) (fun r_5 M_z h => ?_)
  refine q_mem h.1 ?_
  have h := h.2
  refine q_icmp_ge (tgt := 118) C dX8_countPairs_35 (by decide) (fun z => ?_) (fun z => ?_)
  · have h := h.1 z
    refine q_iinc (v := (i3 + 1)) (lv' := [(3, .int (i3 + 1)), (0, .ref a0), (1, .int i1), (2, .int i2), (4, .ref a4), (5, .int i5)]) C dX8_countPairs_118 (j := 3) rfl rfl (by decide) rfl ?_
    refine q_goto (tgt := 4) C dX8_countPairs_121 (by decide) ?_
    exact q_sub [1, 2, 3, 0] rfl h
  · have h := h.2 z
    refine q_aload C dX8_countPairs_38 (j := 4) rfl ?_
    refine q_iload C dX8_countPairs_40 (j := 5) rfl ?_
    refine q_ci (q_runV (As := [.int i5]) (st := []) C (c_X5_get l D cA lo h.2) (cwV 1 C.2.2.2.2.1 gX8_countPairs_X5_get rfl rfl rfl (by decide +kernel) ⟨Nat.le_of_ble_eq_true rfl, Nat.le_of_ble_eq_true rfl⟩) h.1 (by decide) rfl rfl rfl (Nat.le_of_ble_eq_true rfl) dX8_countPairs_42 ⟨Nat.le_of_ble_eq_true rfl, Nat.le_of_ble_eq_true rfl⟩) (fun r_6 M_z h => ?_)
    refine q_mem h.1 ?_
    have h := h.2
    refine q_istore (lv' := [(6, .int r_6), (0, .ref a0), (1, .int i1), (2, .int i2), (3, .int i3), (4, .ref a4), (5, .int i5)]) C dX8_countPairs_45 (by decide) rfl ?_
    refine q_aload C dX8_countPairs_47 (j := 5) rfl ?_
    refine q_iload C dX8_countPairs_49 (j := 6) rfl ?_
    refine q_iconst (v := 1) C dX8_countPairs_51 (by decide) ?_
    refine q_iadd C dX8_countPairs_52 ?_
    refine q_ci (q_runV (As := [.int (i5 + 1)]) (st := []) C (c_X5_get l D cA lo h.2) (cwV 1 C.2.2.2.2.1 gX8_countPairs_X5_get rfl rfl rfl (by decide +kernel) ⟨Nat.le_of_ble_eq_true rfl, Nat.le_of_ble_eq_true rfl⟩) h.1 (by decide) rfl rfl rfl (Nat.le_of_ble_eq_true rfl) dX8_countPairs_53 ⟨Nat.le_of_ble_eq_true rfl, Nat.le_of_ble_eq_true rfl⟩) (fun r_7 M_z h => ?_)
    refine q_mem h.1 ?_
    have h := h.2
    refine q_istore (lv' := [(7, .int r_7), (6, .int r_6), (0, .ref a0), (1, .int i1), (2, .int i2), (3, .int i3), (4, .ref a4), (5, .int i5)]) C dX8_countPairs_56 (by decide) rfl ?_
    refine q_iload_n C dX8_countPairs_58 rfl (j := 4) rfl ?_
    refine q_aload_n C dX8_countPairs_59 rfl (j := 2) rfl ?_
    refine q_iload_n C dX8_countPairs_60 rfl (j := 3) rfl ?_
    refine q_iload C dX8_countPairs_61 (j := 1) rfl ?_
    refine q_iload C dX8_countPairs_63 (j := 0) rfl ?_
    refine q_ci (q_runV (As := [.int i1, .int r_6, .int r_7]) (st := [.int i2]) C (c_X8_isAllowed l D cA lo h.2) (cwV 3 C.2.2.2.2.1 gX8_countPairs_X8_isAllowed rfl rfl rfl (by decide +kernel) ⟨Nat.le_of_ble_eq_true rfl, Nat.le_of_ble_eq_true rfl⟩) h.1 (by decide) rfl rfl rfl (Nat.le_of_ble_eq_true rfl) dX8_countPairs_65 ⟨Nat.le_of_ble_eq_true rfl, Nat.le_of_ble_eq_true rfl⟩) (fun r_8 M_9 h => ?_)
    refine q_if_eq (tgt := 75) C dX8_countPairs_68 (by decide) (fun z => ?_) (fun z => ?_)
    · have h := h.1 z
      refine q_iconst (v := 0) C dX8_countPairs_75 (by decide) ?_
      exact q_sub [2, 3, 5, 6, 7, 1, 0] rfl h
    · have h := h.2 z
      refine q_iconst (v := 1) C dX8_countPairs_71 (by decide) ?_
      refine q_goto (tgt := 76) C dX8_countPairs_72 (by decide) ?_
      exact q_sub [2, 3, 5, 6, 7, 1, 0] rfl h
set_option maxRecDepth 100000 in
set_option maxHeartbeats 4000000 in
theorem b_X8_countPairs_76 {p : Program} {l : Launch} {e : Env} {s : State} {m : MethodId} {args : Array Value} {below : List Frame} {meth : Method} {c : Code} {D : va_G} {cA : Nat → ClassId} {lo : Nat} (C : Cx p s m args c cX8_countPairs 8 RX8 wsX8_countPairs D cA lo) (hr : meth.sig.returnType = (some .int)) (hlk : meth.locks = false) {Q : Int32 → Mm → Prop} (M : Mm) (a0 : Nat) (i1 : Int32) (i3 : Int32) (a4 : Nat) (i5 : Int32) (i6 : Int32) (i7 : Int32) (is0 : Int32) (is1 : Int32) (h : S_X8_countPairs_76 (fun (a0 : Nat) (i1 : Int32) (i2 : Int32) (i3 : Int32) (M : Mm) => QW p l e ({ frames := 5, cells := 0, slots := 0, locals := 118 } : Room) s m args below meth c (MQ below (QiM D cA lo Q) args s 0 0 (fun q => lo ≤ q)) 8 D cA lo 0 0 M 4 [(0, .ref a0), (1, .int i1), (2, .int i2), (3, .int i3)] []) (fun (a0 : Nat) (i1 : Int32) (i2 : Int32) (i3 : Int32) (a4 : Nat) (i5 : Int32) (M : Mm) => QW p l e ({ frames := 5, cells := 0, slots := 0, locals := 118 } : Room) s m args below meth c (MQ below (QiM D cA lo Q) args s 0 0 (fun q => lo ≤ q)) 8 D cA lo 0 0 M 28 [(0, .ref a0), (1, .int i1), (2, .int i2), (3, .int i3), (4, .ref a4), (5, .int i5)] []) (fun (a0 : Nat) (i1 : Int32) (i3 : Int32) (a4 : Nat) (i5 : Int32) (i6 : Int32) (i7 : Int32) (is0 : Int32) (is1 : Int32) (M : Mm) => QW p l e ({ frames := 5, cells := 0, slots := 0, locals := 118 } : Room) s m args below meth c (MQ below (QiM D cA lo Q) args s 0 0 (fun q => lo ≤ q)) 8 D cA lo 0 0 M 76 [(0, .ref a0), (1, .int i1), (3, .int i3), (4, .ref a4), (5, .int i5), (6, .int i6), (7, .int i7)] [.int is1, .int is0]) Q M a0 i1 i3 a4 i5 i6 i7 is0 is1) : QW p l e ({ frames := 5, cells := 0, slots := 0, locals := 118 } : Room) s m args below meth c (MQ below (QiM D cA lo Q) args s 0 0 (fun q => lo ≤ q)) 8 D cA lo 0 0 M 76 [(0, .ref a0), (1, .int i1), (3, .int i3), (4, .ref a4), (5, .int i5), (6, .int i6), (7, .int i7)] [.int is1, .int is0] := by
  unfold S_X8_countPairs_76 at h
  refine q_iadd C dX8_countPairs_76 ?_
  refine q_istore_n (lv' := [(2, .int (is0 + is1)), (0, .ref a0), (1, .int i1), (3, .int i3), (4, .ref a4), (5, .int i5), (6, .int i6), (7, .int i7)]) C dX8_countPairs_77 rfl (by decide) rfl ?_
  refine q_iload_n C dX8_countPairs_78 rfl (j := 0) rfl ?_
  refine q_aload_n C dX8_countPairs_79 rfl (j := 1) rfl ?_
  refine q_getR (ci := 8) (k0 := 1) (T := TX8) C inX8_countPairs_X8 rfl (by decide) h.1 (by decide) rfl (by decide +kernel) rfl dX8_countPairs_80 ?_
  obtain ⟨a_10, z, h⟩ := h.2
  refine q_ref z ?_
  refine q_iload C dX8_countPairs_83 (j := 7) rfl ?_
  refine q_iload C dX8_countPairs_85 (j := 6) rfl ?_
  refine q_ci (q_runV (As := [.int i7, .int i6]) (st := [.int (is0 + is1)]) C (c_X1_isOpen l D cA lo h.2) (cwV 2 C.2.2.2.2.1 gX8_countPairs_X1_isOpen rfl rfl rfl (by decide +kernel) ⟨Nat.le_of_ble_eq_true rfl, Nat.le_of_ble_eq_true rfl⟩) h.1 (by decide) rfl rfl rfl (Nat.le_of_ble_eq_true rfl) dX8_countPairs_87 ⟨Nat.le_of_ble_eq_true rfl, Nat.le_of_ble_eq_true rfl⟩) (fun r_11 M_z h => ?_)
  refine q_mem h.1 ?_
  have h := h.2
  refine q_if_eq (tgt := 109) C dX8_countPairs_90 (by decide) (fun z => ?_) (fun z => ?_)
  · have h := h.1 z
    refine q_iconst (v := 0) C dX8_countPairs_109 (by decide) ?_
    refine q_iadd C dX8_countPairs_110 ?_
    refine q_istore_n (lv' := [(2, .int ((is0 + is1) + 0)), (0, .ref a0), (1, .int i1), (3, .int i3), (4, .ref a4), (5, .int i5), (6, .int i6), (7, .int i7)]) C dX8_countPairs_111 rfl (by decide) rfl ?_
    refine q_iinc (v := (i5 + 1)) (lv' := [(5, .int (i5 + 1)), (2, .int ((is0 + is1) + 0)), (0, .ref a0), (1, .int i1), (3, .int i3), (4, .ref a4), (6, .int i6), (7, .int i7)]) C dX8_countPairs_112 (j := 5) rfl rfl (by decide) rfl ?_
    refine q_goto (tgt := 28) C dX8_countPairs_115 (by decide) ?_
    exact q_sub [2, 3, 1, 4, 5, 0] rfl h
  · have h := h.2 z
    refine q_aload_n C dX8_countPairs_93 rfl (j := 1) rfl ?_
    refine q_iload_n C dX8_countPairs_94 rfl (j := 2) rfl ?_
    refine q_iload C dX8_countPairs_95 (j := 7) rfl ?_
    refine q_iload C dX8_countPairs_97 (j := 6) rfl ?_
    refine q_ci (q_runV (As := [.int i1, .int i7, .int i6]) (st := [.int (is0 + is1)]) C (c_X8_isAllowed l D cA lo h.2) (cwV 3 C.2.2.2.2.1 gX8_countPairs_X8_isAllowed rfl rfl rfl (by decide +kernel) ⟨Nat.le_of_ble_eq_true rfl, Nat.le_of_ble_eq_true rfl⟩) h.1 (by decide) rfl rfl rfl (Nat.le_of_ble_eq_true rfl) dX8_countPairs_99 ⟨Nat.le_of_ble_eq_true rfl, Nat.le_of_ble_eq_true rfl⟩) (fun r_12 M_13 h => ?_)
    refine q_if_eq (tgt := 109) C dX8_countPairs_102 (by decide) (fun z => ?_) (fun z => ?_)
    · have h := h.1 z
      refine q_iconst (v := 0) C dX8_countPairs_109 (by decide) ?_
      refine q_iadd C dX8_countPairs_110 ?_
      refine q_istore_n (lv' := [(2, .int ((is0 + is1) + 0)), (0, .ref a0), (1, .int i1), (3, .int i3), (4, .ref a4), (5, .int i5), (6, .int i6), (7, .int i7)]) C dX8_countPairs_111 rfl (by decide) rfl ?_
      refine q_iinc (v := (i5 + 1)) (lv' := [(5, .int (i5 + 1)), (2, .int ((is0 + is1) + 0)), (0, .ref a0), (1, .int i1), (3, .int i3), (4, .ref a4), (6, .int i6), (7, .int i7)]) C dX8_countPairs_112 (j := 5) rfl rfl (by decide) rfl ?_
      refine q_goto (tgt := 28) C dX8_countPairs_115 (by decide) ?_
      exact q_sub [2, 3, 1, 4, 5, 0] rfl h
    · have h := h.2 z
      refine q_iconst (v := 1) C dX8_countPairs_105 (by decide) ?_
      refine q_goto (tgt := 110) C dX8_countPairs_106 (by decide) ?_
      refine q_iadd C dX8_countPairs_110 ?_
      refine q_istore_n (lv' := [(2, .int ((is0 + is1) + 1)), (0, .ref a0), (1, .int i1), (3, .int i3), (4, .ref a4), (5, .int i5), (6, .int i6), (7, .int i7)]) C dX8_countPairs_111 rfl (by decide) rfl ?_
      refine q_iinc (v := (i5 + 1)) (lv' := [(5, .int (i5 + 1)), (2, .int ((is0 + is1) + 1)), (0, .ref a0), (1, .int i1), (3, .int i3), (4, .ref a4), (6, .int i6), (7, .int i7)]) C dX8_countPairs_112 (j := 5) rfl rfl (by decide) rfl ?_
      refine q_goto (tgt := 28) C dX8_countPairs_115 (by decide) ?_
      exact q_sub [2, 3, 1, 4, 5, 0] rfl h
set_option maxRecDepth 100000 in
set_option maxHeartbeats 4000000 in
theorem c_X8_countPairs (l : Launch) (D : va_G) (cA : Nat → ClassId) (lo : Nat) {M : Mm} {a0 : Nat} {i1 : Int32} {Q : Int32 → Mm → Prop} (h : T_X8_countPairs M a0 i1 Q) : Met l yX8_countPairs wsX8_countPairs ({ frames := 5, cells := 0, slots := 0, locals := 118 } : Room) (PcM D cA lo [.ref a0, .int i1] M) (QiM D cA lo Q) 0 0 (fun q => lo ≤ q) := by
  refine q_start (cc := cX8_countPairs) (nL := 8) (ret := (some .int)) (by decide) rfl rfl (Nat.le_of_ble_eq_true rfl) ?_
  intro p e s m args below meth c C hr hlk hin
  unfold T_X8_countPairs at h
  have h := h (fun (a0 : Nat) (i1 : Int32) (i2 : Int32) (i3 : Int32) (M : Mm) => QW p l e ({ frames := 5, cells := 0, slots := 0, locals := 118 } : Room) s m args below meth c (MQ below (QiM D cA lo Q) args s 0 0 (fun q => lo ≤ q)) 8 D cA lo 0 0 M 4 [(0, .ref a0), (1, .int i1), (2, .int i2), (3, .int i3)] []) (fun (a0 : Nat) (i1 : Int32) (i2 : Int32) (i3 : Int32) (a4 : Nat) (i5 : Int32) (M : Mm) => QW p l e ({ frames := 5, cells := 0, slots := 0, locals := 118 } : Room) s m args below meth c (MQ below (QiM D cA lo Q) args s 0 0 (fun q => lo ≤ q)) 8 D cA lo 0 0 M 28 [(0, .ref a0), (1, .int i1), (2, .int i2), (3, .int i3), (4, .ref a4), (5, .int i5)] []) (fun (a0 : Nat) (i1 : Int32) (i3 : Int32) (a4 : Nat) (i5 : Int32) (i6 : Int32) (i7 : Int32) (is0 : Int32) (is1 : Int32) (M : Mm) => QW p l e ({ frames := 5, cells := 0, slots := 0, locals := 118 } : Room) s m args below meth c (MQ below (QiM D cA lo Q) args s 0 0 (fun q => lo ≤ q)) 8 D cA lo 0 0 M 76 [(0, .ref a0), (1, .int i1), (3, .int i3), (4, .ref a4), (5, .int i5), (6, .int i6), (7, .int i7)] [.int is1, .int is0]) (fun a0 i1 i2 i3 M h => b_X8_countPairs_4 C hr hlk M a0 i1 i2 i3 h) (fun a0 i1 i2 i3 a4 i5 M h => b_X8_countPairs_28 C hr hlk M a0 i1 i2 i3 a4 i5 h) (fun a0 i1 i3 a4 i5 i6 i7 is0 is1 M h => b_X8_countPairs_76 C hr hlk M a0 i1 i3 a4 i5 i6 i7 is0 is1 h)
  refine q_iconst (v := 0) C dX8_countPairs_0 (by decide) ?_
  refine q_istore_n (lv' := [(2, .int 0), (0, .ref a0), (1, .int i1)]) C dX8_countPairs_1 rfl (by decide) rfl ?_
  refine q_iconst (v := 0) C dX8_countPairs_2 (by decide) ?_
  refine q_istore_n (lv' := [(3, .int 0), (2, .int 0), (0, .ref a0), (1, .int i1)]) C dX8_countPairs_3 rfl (by decide) rfl ?_
  exact q_sub [2, 3, 1, 0] rfl h
def S_X8_may_14 (K14 : Nat → Int32 → Int32 → Mm → Nat → Nat → Prop) (Cc Zz : Nat) (Q : Int32 → Mm → Prop) (X : String → Mm → Prop) (M : Mm) (a0 : Nat) (i1 : Int32) (is0 : Int32) (cc zz : Nat) : Prop := ∃ dc_3 ds_3 : Nat, (cc + dc_3 ≤ Cc ∧ zz + ds_3 ≤ Zz) ∧ T_X8_needArgument dc_3 ds_3 M is0 (fun M_2 => ((cc + dc_3) ≤ Cc ∧ (zz + ds_3) ≤ Zz) ∧ kM M_2 a0 = (8, 8) ∧ T_X8_countPairs M_2 a0 i1 (fun r_4 M_5 => (cc + dc_3) ≤ Cc ∧ (zz + ds_3) ≤ Zz ∧ Q r_4 M_5)) X
def T_X8_may (Cc Zz : Nat) (M : Mm) (a0 : Nat) (i1 : Int32) (Q : Int32 → Mm → Prop) (X : String → Mm → Prop) : Prop := ∀ (K14 : Nat → Int32 → Int32 → Mm → Nat → Nat → Prop), (∀ (a0 : Nat) (i1 : Int32) (is0 : Int32) (M : Mm) (cc zz : Nat), S_X8_may_14 K14 Cc Zz Q X M a0 i1 is0 cc zz → K14 a0 i1 is0 M cc zz) → (i1 < 0 → K14 a0 i1 0 M 0 0) ∧ (¬ i1 < 0 → (2 < i1 → K14 a0 i1 0 M 0 0) ∧ (¬ 2 < i1 → K14 a0 i1 1 M 0 0))
set_option maxRecDepth 100000 in
set_option maxHeartbeats 4000000 in
theorem b_X8_may_14 {p : Program} {l : Launch} {e : Env} {s : State} {m : MethodId} {args : Array Value} {below : List Frame} {meth : Method} {c : Code} {D : va_G} {cA : Nat → ClassId} {lo : Nat} (C : Cx p s m args c cX8_may 2 RX8 wsX8_may D cA lo) (hr : meth.sig.returnType = (some .int)) (hlk : meth.locks = false) (hl : l.stackTraces = false) (hex : ∀ x ∈ c.exceptionTable.toList, ∀ pc, covers x pc = false) {Q : Int32 → Mm → Prop} {Cc Zz : Nat} {X : String → Mm → Prop} (M : Mm) (a0 : Nat) (i1 : Int32) (is0 : Int32) (cc zz : Nat) (h : S_X8_may_14 (fun (a0 : Nat) (i1 : Int32) (is0 : Int32) (M : Mm) (cc zz : Nat) => QW p l e ({ frames := 7, cells := Cc, slots := Zz, locals := 145 } : Room) s m args below meth c (vx_MQ below (QiM D cA lo Q) (XcM D cA lo X) args s Cc Zz (fun q => lo ≤ q)) 2 D cA lo cc zz M 14 [(0, .ref a0), (1, .int i1)] [.int is0]) Cc Zz Q X M a0 i1 is0 cc zz) : QW p l e ({ frames := 7, cells := Cc, slots := Zz, locals := 145 } : Room) s m args below meth c (vx_MQ below (QiM D cA lo Q) (XcM D cA lo X) args s Cc Zz (fun q => lo ≤ q)) 2 D cA lo cc zz M 14 [(0, .ref a0), (1, .int i1)] [.int is0] := by
  unfold S_X8_may_14 at h
  obtain ⟨dc_3, ds_3, hcz, h⟩ := h
  refine q_xv (qx_runS (As := [.int is0]) (st := []) C (c_X8_needArgument l hl D cA lo h) (va_cwS 1 C.2.2.2.2.1 gX8_may_X8_needArgument rfl rfl rfl (by decide +kernel) ⟨Nat.le_of_ble_eq_true rfl, Nat.le_of_ble_eq_true rfl⟩) rfl rfl (Nat.le_of_ble_eq_true rfl) dX8_may_14 hcz) (fun E M_x h => ?_) (fun M_2 h => ?_)
  · exact q_xout (fun x hx => hex x hx _) hlk hcz.1 hcz.2 h
  · refine q_aload_n C dX8_may_17 rfl (j := 0) rfl ?_
    refine q_iload_n C dX8_may_18 rfl (j := 1) rfl ?_
    have hcz := h.1
    have h := h.2
    refine q_ci (q_runV (As := [.int i1]) (st := []) C (c_X8_countPairs l D cA lo h.2) (cwV 1 C.2.2.2.2.1 gX8_may_X8_countPairs rfl rfl rfl (by decide +kernel) ⟨Nat.le_of_ble_eq_true rfl, Nat.le_of_ble_eq_true rfl⟩) h.1 (by decide) rfl rfl rfl (Nat.le_of_ble_eq_true rfl) dX8_may_19 ⟨Nat.le_trans (Nat.le_of_eq (Nat.add_zero _)) hcz.1, Nat.le_trans (Nat.le_of_eq (Nat.add_zero _)) hcz.2⟩) (fun r_4 M_5 h => ?_)
    exact q_xret (q_iret C hr hlk dX8_may_22 h.1 h.2.1 h.2.2)
set_option maxRecDepth 100000 in
set_option maxHeartbeats 4000000 in
theorem c_X8_may (l : Launch) (hl : l.stackTraces = false) (D : va_G) (cA : Nat → ClassId) (lo : Nat) {M : Mm} {a0 : Nat} {i1 : Int32} {Cc Zz : Nat} {Q : Int32 → Mm → Prop} {X : String → Mm → Prop} (h : T_X8_may Cc Zz M a0 i1 Q X) : vx_Met l yX8_may wsX8_may ({ frames := 7, cells := Cc, slots := Zz, locals := 145 } : Room) (PcM D cA lo [.ref a0, .int i1] M) (QiM D cA lo Q) (XcM D cA lo X) Cc Zz (fun q => lo ≤ q) := by
  refine q_startX (cc := cX8_may) (nL := 2) (ret := (some .int)) (by decide) rfl rfl (Nat.le_of_ble_eq_true rfl) ?_
  intro p e s m args below meth c C hr hlk hin hex
  unfold T_X8_may at h
  have h := h (fun (a0 : Nat) (i1 : Int32) (is0 : Int32) (M : Mm) (cc zz : Nat) => QW p l e ({ frames := 7, cells := Cc, slots := Zz, locals := 145 } : Room) s m args below meth c (vx_MQ below (QiM D cA lo Q) (XcM D cA lo X) args s Cc Zz (fun q => lo ≤ q)) 2 D cA lo cc zz M 14 [(0, .ref a0), (1, .int i1)] [.int is0]) (fun a0 i1 is0 M cc zz h => b_X8_may_14 C hr hlk hl hex M a0 i1 is0 cc zz h)
  refine q_iload_n C dX8_may_0 rfl (j := 1) rfl ?_
  refine q_if_lt (tgt := 13) C dX8_may_1 (by decide) (fun z => ?_) (fun z => ?_)
  · have h := h.1 z
    refine q_iconst (v := 0) C dX8_may_13 (by decide) ?_
    exact q_sub [0, 1] rfl h
  · have h := h.2 z
    refine q_iload_n C dX8_may_4 rfl (j := 1) rfl ?_
    refine q_iconst (v := 2) C dX8_may_5 (by decide) ?_
    refine q_icmp_gt (tgt := 13) C dX8_may_6 (by decide) (fun z => ?_) (fun z => ?_)
    · have h := h.1 z
      refine q_iconst (v := 0) C dX8_may_13 (by decide) ?_
      exact q_sub [0, 1] rfl h
    · have h := h.2 z
      refine q_iconst (v := 1) C dX8_may_9 (by decide) ?_
      refine q_goto (tgt := 14) C dX8_may_10 (by decide) ?_
      exact q_sub [0, 1] rfl h
def S_X8_volumeWith_35 (K35 : Nat → Int32 → Int32 → Int64 → Int32 → Mm → Nat → Nat → Prop) (Cc Zz : Nat) (Q : Int64 → Mm → Prop) (X : String → Mm → Prop) (M : Mm) (a0 : Nat) (i1 : Int32) (i2 : Int32) (l3 : Int64) (i5 : Int32) (cc zz : Nat) : Prop := kM M a0 = (8, 8) ∧ ∃ a_15 : Nat, rM M a0 1 = some a_15 ∧ (cc ≤ Cc ∧ zz ≤ Zz) ∧ kM M a_15 = (1, 5) ∧ T_X1_ever M a_15 (fun r_16 => (r_16 ≤ i5 → cc ≤ Cc ∧ zz ≤ Zz ∧ Q l3 M) ∧ (¬ r_16 ≤ i5 → kM M a0 = (8, 8) ∧ ∃ a_17 : Nat, rM M a0 0 = some a_17 ∧ kM M a0 = (8, 8) ∧ ∃ a_18 : Nat, rM M a0 3 = some a_18 ∧ (cc ≤ Cc ∧ zz ≤ Zz) ∧ kM M a_18 = (0, 3) ∧ T_X0_shape M a_18 i5 i1 i2 (fun r_19 M_20 => (cc ≤ Cc ∧ zz ≤ Zz) ∧ kM M_20 a_17 = (3, 4) ∧ T_X3_bulkOf M_20 a_17 r_19 (fun r_21 => K35 a0 i1 i2 (l3 + r_21) (i5 + 1) M_20 cc zz))))
def T_X8_volumeWith (Cc Zz : Nat) (M : Mm) (a0 : Nat) (i1 : Int32) (i2 : Int32) (Q : Int64 → Mm → Prop) (X : String → Mm → Prop) : Prop := ∀ (K35 : Nat → Int32 → Int32 → Int64 → Int32 → Mm → Nat → Nat → Prop), (∀ (a0 : Nat) (i1 : Int32) (i2 : Int32) (l3 : Int64) (i5 : Int32) (M : Mm) (cc zz : Nat), S_X8_volumeWith_35 K35 Cc Zz Q X M a0 i1 i2 l3 i5 cc zz → K35 a0 i1 i2 l3 i5 M cc zz) → ∃ dc_3 ds_3 : Nat, (0 + dc_3 ≤ Cc ∧ 0 + ds_3 ≤ Zz) ∧ kM M a0 = (8, 8) ∧ T_X8_needPoints dc_3 ds_3 M a0 i1 i2 (fun M_2 => kM M_2 a0 = (8, 8) ∧ ∃ a_4 : Nat, rM M_2 a0 1 = some a_4 ∧ ((0 + dc_3) ≤ Cc ∧ (0 + ds_3) ≤ Zz) ∧ kM M_2 a_4 = (1, 5) ∧ T_X1_isEdge M_2 a_4 i1 i2 (fun r_5 => ∃ dc_8 ds_8 : Nat, ((0 + dc_3) + dc_8 ≤ Cc ∧ (0 + ds_3) + ds_8 ≤ Zz) ∧ T_X8_needArgument dc_8 ds_8 M_2 r_5 (fun M_7 => kM M_7 a0 = (8, 8) ∧ ∃ a_9 : Nat, rM M_7 a0 3 = some a_9 ∧ (((0 + dc_3) + dc_8) ≤ Cc ∧ ((0 + ds_3) + ds_8) ≤ Zz) ∧ kM M_7 a_9 = (0, 3) ∧ T_X0_fits M_7 a_9 i1 i2 (fun r_10 M_11 => ∃ dc_14 ds_14 : Nat, (((0 + dc_3) + dc_8) + dc_14 ≤ Cc ∧ ((0 + ds_3) + ds_8) + ds_14 ≤ Zz) ∧ T_X8_needState dc_14 ds_14 M_11 r_10 (fun M_13 => K35 a0 i1 i2 0 0 M_13 (((0 + dc_3) + dc_8) + dc_14) (((0 + ds_3) + ds_8) + ds_14)) X)) X)) X
theorem inX8_volumeWith_X8 : ∀ w ∈ wsX80, w ∈ wsX8_volumeWith := by decide +kernel
set_option maxRecDepth 100000 in
set_option maxHeartbeats 4000000 in
theorem b_X8_volumeWith_35 {p : Program} {l : Launch} {e : Env} {s : State} {m : MethodId} {args : Array Value} {below : List Frame} {meth : Method} {c : Code} {D : va_G} {cA : Nat → ClassId} {lo : Nat} (C : Cx p s m args c cX8_volumeWith 6 RX8 wsX8_volumeWith D cA lo) (hr : meth.sig.returnType = (some .long)) (hlk : meth.locks = false) (hl : l.stackTraces = false) (hex : ∀ x ∈ c.exceptionTable.toList, ∀ pc, covers x pc = false) {Q : Int64 → Mm → Prop} {Cc Zz : Nat} {X : String → Mm → Prop} (M : Mm) (a0 : Nat) (i1 : Int32) (i2 : Int32) (l3 : Int64) (i5 : Int32) (cc zz : Nat) (h : S_X8_volumeWith_35 (fun (a0 : Nat) (i1 : Int32) (i2 : Int32) (l3 : Int64) (i5 : Int32) (M : Mm) (cc zz : Nat) => QW p l e ({ frames := 8, cells := Cc, slots := Zz, locals := 133 } : Room) s m args below meth c (vx_MQ below (QlM D cA lo Q) (XcM D cA lo X) args s Cc Zz (fun q => lo ≤ q)) 6 D cA lo cc zz M 35 [(0, .ref a0), (1, .int i1), (2, .int i2), (3, .long l3), (5, .int i5)] []) Cc Zz Q X M a0 i1 i2 l3 i5 cc zz) : QW p l e ({ frames := 8, cells := Cc, slots := Zz, locals := 133 } : Room) s m args below meth c (vx_MQ below (QlM D cA lo Q) (XcM D cA lo X) args s Cc Zz (fun q => lo ≤ q)) 6 D cA lo cc zz M 35 [(0, .ref a0), (1, .int i1), (2, .int i2), (3, .long l3), (5, .int i5)] [] := by
  unfold S_X8_volumeWith_35 at h
  refine q_iload C dX8_volumeWith_35 (j := 4) rfl ?_
  refine q_aload_n C dX8_volumeWith_37 rfl (j := 0) rfl ?_
  refine q_getR (ci := 8) (k0 := 1) (T := TX8) C inX8_volumeWith_X8 rfl (by decide) h.1 (by decide) rfl (by decide +kernel) rfl dX8_volumeWith_38 ?_
  obtain ⟨a_15, z, h⟩ := h.2
  refine q_ref z ?_
  have hcz := h.1
  have h := h.2
  refine q_ci (q_runV (As := []) (st := [.int i5]) C (c_X1_ever l D cA lo h.2) (cwV 0 C.2.2.2.2.1 gX8_volumeWith_X1_ever rfl rfl rfl (by decide +kernel) ⟨Nat.le_of_ble_eq_true rfl, Nat.le_of_ble_eq_true rfl⟩) h.1 (by decide) rfl rfl rfl (Nat.le_of_ble_eq_true rfl) dX8_volumeWith_41 ⟨Nat.le_trans (Nat.le_of_eq (Nat.add_zero _)) hcz.1, Nat.le_trans (Nat.le_of_eq (Nat.add_zero _)) hcz.2⟩) (fun r_16 M_z h => ?_)
  refine q_mem h.1 ?_
  have h := h.2
  refine q_icmp_ge (tgt := 74) C dX8_volumeWith_44 (by decide) (fun z => ?_) (fun z => ?_)
  · have h := h.1 z
    refine q_lload_n C dX8_volumeWith_74 rfl (j := 3) rfl ?_
    exact q_xret (q_lret C hr hlk dX8_volumeWith_75 h.1 h.2.1 h.2.2)
  · have h := h.2 z
    refine q_lload_n C dX8_volumeWith_47 rfl (j := 3) rfl ?_
    refine q_aload_n C dX8_volumeWith_48 rfl (j := 0) rfl ?_
    refine q_getR (ci := 8) (k0 := 0) (T := TX8) C inX8_volumeWith_X8 rfl (by decide) h.1 (by decide) rfl (by decide +kernel) rfl dX8_volumeWith_49 ?_
    obtain ⟨a_17, z, h⟩ := h.2
    refine q_ref z ?_
    refine q_aload_n C dX8_volumeWith_52 rfl (j := 0) rfl ?_
    refine q_getR (ci := 8) (k0 := 3) (T := TX8) C inX8_volumeWith_X8 rfl (by decide) h.1 (by decide) rfl (by decide +kernel) rfl dX8_volumeWith_53 ?_
    obtain ⟨a_18, z, h⟩ := h.2
    refine q_ref z ?_
    refine q_iload C dX8_volumeWith_56 (j := 4) rfl ?_
    refine q_iload_n C dX8_volumeWith_58 rfl (j := 1) rfl ?_
    refine q_iload_n C dX8_volumeWith_59 rfl (j := 2) rfl ?_
    have hcz := h.1
    have h := h.2
    refine q_cr (q_runV (As := [.int i5, .int i1, .int i2]) (st := [.ref a_17, .long l3]) C (c_X0_shape l D cA lo h.2) (cwV 3 C.2.2.2.2.1 gX8_volumeWith_X0_shape rfl rfl rfl (by decide +kernel) ⟨Nat.le_of_ble_eq_true rfl, Nat.le_of_ble_eq_true rfl⟩) h.1 (by decide) rfl rfl rfl (Nat.le_of_ble_eq_true rfl) dX8_volumeWith_60 ⟨Nat.le_trans (Nat.le_of_eq (Nat.add_zero _)) hcz.1, Nat.le_trans (Nat.le_of_eq (Nat.add_zero _)) hcz.2⟩) (fun r_19 M_20 h => ?_)
    have hcz := h.1
    have h := h.2
    refine q_cl (q_runV (As := [.ref r_19]) (st := [.long l3]) C (c_X3_bulkOf l D cA lo h.2) (cwV 1 C.2.2.2.2.1 gX8_volumeWith_X3_bulkOf rfl rfl rfl (by decide +kernel) ⟨Nat.le_of_ble_eq_true rfl, Nat.le_of_ble_eq_true rfl⟩) h.1 (by decide) rfl rfl rfl (Nat.le_of_ble_eq_true rfl) dX8_volumeWith_63 ⟨Nat.le_trans (Nat.le_of_eq (Nat.add_zero _)) hcz.1, Nat.le_trans (Nat.le_of_eq (Nat.add_zero _)) hcz.2⟩) (fun r_21 M_z h => ?_)
    refine q_mem h.1 ?_
    have h := h.2
    refine q_ladd C dX8_volumeWith_66 ?_
    refine q_lstore_n (lv' := [(3, .long (l3 + r_21)), (0, .ref a0), (1, .int i1), (2, .int i2), (5, .int i5)]) C dX8_volumeWith_67 rfl (by decide) rfl ?_
    refine q_iinc (v := (i5 + 1)) (lv' := [(5, .int (i5 + 1)), (3, .long (l3 + r_21)), (0, .ref a0), (1, .int i1), (2, .int i2)]) C dX8_volumeWith_68 (j := 4) rfl rfl (by decide) rfl ?_
    refine q_goto (tgt := 35) C dX8_volumeWith_71 (by decide) ?_
    exact q_sub [2, 3, 4, 1, 0] rfl h
set_option maxRecDepth 100000 in
set_option maxHeartbeats 4000000 in
theorem c_X8_volumeWith (l : Launch) (hl : l.stackTraces = false) (D : va_G) (cA : Nat → ClassId) (lo : Nat) {M : Mm} {a0 : Nat} {i1 : Int32} {i2 : Int32} {Cc Zz : Nat} {Q : Int64 → Mm → Prop} {X : String → Mm → Prop} (h : T_X8_volumeWith Cc Zz M a0 i1 i2 Q X) : vx_Met l yX8_volumeWith wsX8_volumeWith ({ frames := 8, cells := Cc, slots := Zz, locals := 133 } : Room) (PcM D cA lo [.ref a0, .int i1, .int i2] M) (QlM D cA lo Q) (XcM D cA lo X) Cc Zz (fun q => lo ≤ q) := by
  refine q_startX (cc := cX8_volumeWith) (nL := 6) (ret := (some .long)) (by decide) rfl rfl (Nat.le_of_ble_eq_true rfl) ?_
  intro p e s m args below meth c C hr hlk hin hex
  unfold T_X8_volumeWith at h
  have h := h (fun (a0 : Nat) (i1 : Int32) (i2 : Int32) (l3 : Int64) (i5 : Int32) (M : Mm) (cc zz : Nat) => QW p l e ({ frames := 8, cells := Cc, slots := Zz, locals := 133 } : Room) s m args below meth c (vx_MQ below (QlM D cA lo Q) (XcM D cA lo X) args s Cc Zz (fun q => lo ≤ q)) 6 D cA lo cc zz M 35 [(0, .ref a0), (1, .int i1), (2, .int i2), (3, .long l3), (5, .int i5)] []) (fun a0 i1 i2 l3 i5 M cc zz h => b_X8_volumeWith_35 C hr hlk hl hex M a0 i1 i2 l3 i5 cc zz h)
  refine q_aload_n C dX8_volumeWith_0 rfl (j := 0) rfl ?_
  refine q_iload_n C dX8_volumeWith_1 rfl (j := 1) rfl ?_
  refine q_iload_n C dX8_volumeWith_2 rfl (j := 2) rfl ?_
  obtain ⟨dc_3, ds_3, hcz, h⟩ := h
  refine q_xv (qx_runV (As := [.int i1, .int i2]) (st := []) C (c_X8_needPoints l hl D cA lo h.2) (cwV 2 C.2.2.2.2.1 gX8_volumeWith_X8_needPoints rfl rfl rfl (by decide +kernel) ⟨Nat.le_of_ble_eq_true rfl, Nat.le_of_ble_eq_true rfl⟩) h.1 (by decide) rfl rfl rfl (Nat.le_of_ble_eq_true rfl) dX8_volumeWith_3 hcz) (fun E M_x h => ?_) (fun M_2 h => ?_)
  · exact q_xout (fun x hx => hex x hx _) hlk hcz.1 hcz.2 h
  · refine q_aload_n C dX8_volumeWith_6 rfl (j := 0) rfl ?_
    refine q_getR (ci := 8) (k0 := 1) (T := TX8) C inX8_volumeWith_X8 rfl (by decide) h.1 (by decide) rfl (by decide +kernel) rfl dX8_volumeWith_7 ?_
    obtain ⟨a_4, z, h⟩ := h.2
    refine q_ref z ?_
    refine q_iload_n C dX8_volumeWith_10 rfl (j := 1) rfl ?_
    refine q_iload_n C dX8_volumeWith_11 rfl (j := 2) rfl ?_
    have hcz := h.1
    have h := h.2
    refine q_ci (q_runV (As := [.int i1, .int i2]) (st := []) C (c_X1_isEdge l D cA lo h.2) (cwV 2 C.2.2.2.2.1 gX8_volumeWith_X1_isEdge rfl rfl rfl (by decide +kernel) ⟨Nat.le_of_ble_eq_true rfl, Nat.le_of_ble_eq_true rfl⟩) h.1 (by decide) rfl rfl rfl (Nat.le_of_ble_eq_true rfl) dX8_volumeWith_12 ⟨Nat.le_trans (Nat.le_of_eq (Nat.add_zero _)) hcz.1, Nat.le_trans (Nat.le_of_eq (Nat.add_zero _)) hcz.2⟩) (fun r_5 M_z h => ?_)
    refine q_mem h.1 ?_
    have h := h.2
    obtain ⟨dc_8, ds_8, hcz, h⟩ := h
    refine q_xv (qx_runS (As := [.int r_5]) (st := []) C (c_X8_needArgument l hl D cA lo h) (va_cwS 1 C.2.2.2.2.1 gX8_volumeWith_X8_needArgument rfl rfl rfl (by decide +kernel) ⟨Nat.le_of_ble_eq_true rfl, Nat.le_of_ble_eq_true rfl⟩) rfl rfl (Nat.le_of_ble_eq_true rfl) dX8_volumeWith_15 hcz) (fun E M_x h => ?_) (fun M_7 h => ?_)
    · exact q_xout (fun x hx => hex x hx _) hlk hcz.1 hcz.2 h
    · refine q_aload_n C dX8_volumeWith_18 rfl (j := 0) rfl ?_
      refine q_getR (ci := 8) (k0 := 3) (T := TX8) C inX8_volumeWith_X8 rfl (by decide) h.1 (by decide) rfl (by decide +kernel) rfl dX8_volumeWith_19 ?_
      obtain ⟨a_9, z, h⟩ := h.2
      refine q_ref z ?_
      refine q_iload_n C dX8_volumeWith_22 rfl (j := 1) rfl ?_
      refine q_iload_n C dX8_volumeWith_23 rfl (j := 2) rfl ?_
      have hcz := h.1
      have h := h.2
      refine q_ci (q_runV (As := [.int i1, .int i2]) (st := []) C (c_X0_fits l D cA lo h.2) (cwV 2 C.2.2.2.2.1 gX8_volumeWith_X0_fits rfl rfl rfl (by decide +kernel) ⟨Nat.le_of_ble_eq_true rfl, Nat.le_of_ble_eq_true rfl⟩) h.1 (by decide) rfl rfl rfl (Nat.le_of_ble_eq_true rfl) dX8_volumeWith_24 ⟨Nat.le_trans (Nat.le_of_eq (Nat.add_zero _)) hcz.1, Nat.le_trans (Nat.le_of_eq (Nat.add_zero _)) hcz.2⟩) (fun r_10 M_11 h => ?_)
      obtain ⟨dc_14, ds_14, hcz, h⟩ := h
      refine q_xv (qx_runS (As := [.int r_10]) (st := []) C (c_X8_needState l hl D cA lo h) (va_cwS 1 C.2.2.2.2.1 gX8_volumeWith_X8_needState rfl rfl rfl (by decide +kernel) ⟨Nat.le_of_ble_eq_true rfl, Nat.le_of_ble_eq_true rfl⟩) rfl rfl (Nat.le_of_ble_eq_true rfl) dX8_volumeWith_27 hcz) (fun E M_x h => ?_) (fun M_13 h => ?_)
      · exact q_xout (fun x hx => hex x hx _) hlk hcz.1 hcz.2 h
      · refine q_lconst (v := 0) C dX8_volumeWith_30 (by decide) ?_
        refine q_lstore_n (lv' := [(3, .long 0), (0, .ref a0), (1, .int i1), (2, .int i2)]) C dX8_volumeWith_31 rfl (by decide) rfl ?_
        refine q_iconst (v := 0) C dX8_volumeWith_32 (by decide) ?_
        refine q_istore (lv' := [(5, .int 0), (3, .long 0), (0, .ref a0), (1, .int i1), (2, .int i2)]) C dX8_volumeWith_33 (by decide) rfl ?_
        exact q_sub [2, 3, 4, 1, 0] rfl h
def T_X8_holesWithout (Cc Zz : Nat) (M : Mm) (a0 : Nat) (i1 : Int32) (Q : Int32 → Mm → Prop) (X : String → Mm → Prop) : Prop := ∃ dc_3 ds_3 : Nat, (0 + dc_3 ≤ Cc ∧ 0 + ds_3 ≤ Zz) ∧ kM M a0 = (8, 8) ∧ T_X8_needFace dc_3 ds_3 M a0 i1 (fun M_2 => kM M_2 a0 = (8, 8) ∧ ∃ a_4 : Nat, rM M_2 a0 1 = some a_4 ∧ ((0 + dc_3) ≤ Cc ∧ (0 + ds_3) ≤ Zz) ∧ kM M_2 a_4 = (1, 5) ∧ T_X1_release M_2 a_4 i1 (fun M_6 => kM M_6 a0 = (8, 8) ∧ ∃ a_7 : Nat, rM M_6 a0 2 = some a_7 ∧ ((0 + dc_3) ≤ Cc ∧ (0 + ds_3) ≤ Zz) ∧ kM M_6 a_7 = (7, 6) ∧ T_X7_holeCount M_6 a_7 (fun r_8 M_9 => kM M_9 a0 = (8, 8) ∧ ∃ a_10 : Nat, rM M_9 a0 1 = some a_10 ∧ ((0 + dc_3) ≤ Cc ∧ (0 + ds_3) ≤ Zz) ∧ kM M_9 a_10 = (1, 5) ∧ T_X1_claim M_9 a_10 i1 (fun M_12 => (0 + dc_3) ≤ Cc ∧ (0 + ds_3) ≤ Zz ∧ Q r_8 M_12)))) X
theorem inX8_holesWithout_X8 : ∀ w ∈ wsX80, w ∈ wsX8_holesWithout := by decide +kernel
set_option maxRecDepth 100000 in
set_option maxHeartbeats 4000000 in
theorem c_X8_holesWithout (l : Launch) (hl : l.stackTraces = false) (D : va_G) (cA : Nat → ClassId) (lo : Nat) {M : Mm} {a0 : Nat} {i1 : Int32} {Cc Zz : Nat} {Q : Int32 → Mm → Prop} {X : String → Mm → Prop} (h : T_X8_holesWithout Cc Zz M a0 i1 Q X) : vx_Met l yX8_holesWithout wsX8_holesWithout ({ frames := 7, cells := Cc, slots := Zz, locals := 120 } : Room) (PcM D cA lo [.ref a0, .int i1] M) (QiM D cA lo Q) (XcM D cA lo X) Cc Zz (fun q => lo ≤ q) := by
  refine q_startX (cc := cX8_holesWithout) (nL := 3) (ret := (some .int)) (by decide) rfl rfl (Nat.le_of_ble_eq_true rfl) ?_
  intro p e s m args below meth c C hr hlk hin hex
  unfold T_X8_holesWithout at h
  refine q_aload_n C dX8_holesWithout_0 rfl (j := 0) rfl ?_
  refine q_iload_n C dX8_holesWithout_1 rfl (j := 1) rfl ?_
  obtain ⟨dc_3, ds_3, hcz, h⟩ := h
  refine q_xv (qx_runV (As := [.int i1]) (st := []) C (c_X8_needFace l hl D cA lo h.2) (cwV 1 C.2.2.2.2.1 gX8_holesWithout_X8_needFace rfl rfl rfl (by decide +kernel) ⟨Nat.le_of_ble_eq_true rfl, Nat.le_of_ble_eq_true rfl⟩) h.1 (by decide) rfl rfl rfl (Nat.le_of_ble_eq_true rfl) dX8_holesWithout_2 hcz) (fun E M_x h => ?_) (fun M_2 h => ?_)
  · exact q_xout (fun x hx => hex x hx _) hlk hcz.1 hcz.2 h
  · refine q_aload_n C dX8_holesWithout_5 rfl (j := 0) rfl ?_
    refine q_getR (ci := 8) (k0 := 1) (T := TX8) C inX8_holesWithout_X8 rfl (by decide) h.1 (by decide) rfl (by decide +kernel) rfl dX8_holesWithout_6 ?_
    obtain ⟨a_4, z, h⟩ := h.2
    refine q_ref z ?_
    refine q_iload_n C dX8_holesWithout_9 rfl (j := 1) rfl ?_
    have hcz := h.1
    have h := h.2
    refine q_cv (q_runV (As := [.int i1]) (st := []) C (c_X1_release l D cA lo h.2) (cwV 1 C.2.2.2.2.1 gX8_holesWithout_X1_release rfl rfl rfl (by decide +kernel) ⟨Nat.le_of_ble_eq_true rfl, Nat.le_of_ble_eq_true rfl⟩) h.1 (by decide) rfl rfl rfl (Nat.le_of_ble_eq_true rfl) dX8_holesWithout_10 ⟨Nat.le_trans (Nat.le_of_eq (Nat.add_zero _)) hcz.1, Nat.le_trans (Nat.le_of_eq (Nat.add_zero _)) hcz.2⟩) (fun M_6 h => ?_)
    refine q_aload_n C dX8_holesWithout_13 rfl (j := 0) rfl ?_
    refine q_getR (ci := 8) (k0 := 2) (T := TX8) C inX8_holesWithout_X8 rfl (by decide) h.1 (by decide) rfl (by decide +kernel) rfl dX8_holesWithout_14 ?_
    obtain ⟨a_7, z, h⟩ := h.2
    refine q_ref z ?_
    have hcz := h.1
    have h := h.2
    refine q_ci (q_runV (As := []) (st := []) C (c_X7_holeCount l D cA lo h.2) (cwV 0 C.2.2.2.2.1 gX8_holesWithout_X7_holeCount rfl rfl rfl (by decide +kernel) ⟨Nat.le_of_ble_eq_true rfl, Nat.le_of_ble_eq_true rfl⟩) h.1 (by decide) rfl rfl rfl (Nat.le_of_ble_eq_true rfl) dX8_holesWithout_17 ⟨Nat.le_trans (Nat.le_of_eq (Nat.add_zero _)) hcz.1, Nat.le_trans (Nat.le_of_eq (Nat.add_zero _)) hcz.2⟩) (fun r_8 M_9 h => ?_)
    refine q_istore_n (lv' := [(2, .int r_8), (0, .ref a0), (1, .int i1)]) C dX8_holesWithout_20 rfl (by decide) rfl ?_
    refine q_aload_n C dX8_holesWithout_21 rfl (j := 1) rfl ?_
    refine q_getR (ci := 8) (k0 := 1) (T := TX8) C inX8_holesWithout_X8 rfl (by decide) h.1 (by decide) rfl (by decide +kernel) rfl dX8_holesWithout_22 ?_
    obtain ⟨a_10, z, h⟩ := h.2
    refine q_ref z ?_
    refine q_iload_n C dX8_holesWithout_25 rfl (j := 2) rfl ?_
    have hcz := h.1
    have h := h.2
    refine q_cv (q_runV (As := [.int i1]) (st := []) C (c_X1_claim l D cA lo h.2) (cwV 1 C.2.2.2.2.1 gX8_holesWithout_X1_claim rfl rfl rfl (by decide +kernel) ⟨Nat.le_of_ble_eq_true rfl, Nat.le_of_ble_eq_true rfl⟩) h.1 (by decide) rfl rfl rfl (Nat.le_of_ble_eq_true rfl) dX8_holesWithout_26 ⟨Nat.le_trans (Nat.le_of_eq (Nat.add_zero _)) hcz.1, Nat.le_trans (Nat.le_of_eq (Nat.add_zero _)) hcz.2⟩) (fun M_12 h => ?_)
    refine q_iload_n C dX8_holesWithout_29 rfl (j := 0) rfl ?_
    exact q_xret (q_iret C hr hlk dX8_holesWithout_30 h.1 h.2.1 h.2.2)
def T_X8_mix (M : Mm) (l0 : Int64) (l2 : Int64) (Q : Int64 → Prop) : Prop := Q ((l0 * 31) + l2)
set_option maxRecDepth 100000 in
set_option maxHeartbeats 4000000 in
theorem c_X8_mix (l : Launch) (D : va_G) (cA : Nat → ClassId) (lo : Nat) {M : Mm} {l0 : Int64} {l2 : Int64} {Q : Int64 → Prop} (h : T_X8_mix M l0 l2 Q) : Met l yX8_mix wsX8_mix ({ frames := 0, cells := 0, slots := 0, locals := 0 } : Room) (PcM D cA lo [.long l0, .long l2] M) (QlM D cA lo (fun r M1 => M1 = M ∧ Q r)) 0 0 (fun q => lo ≤ q) := by
  refine q_start (cc := cX8_mix) (nL := 4) (ret := (some .long)) (by decide) rfl rfl (Nat.le_of_ble_eq_true rfl) ?_
  intro p e s m args below meth c C hr hlk hin
  unfold T_X8_mix at h
  refine q_lload_n C dX8_mix_0 rfl (j := 0) rfl ?_
  refine q_ldc2 (v := 31) C (by decide +kernel) dX8_mix_1 ?_
  refine q_lmul C dX8_mix_4 ?_
  refine q_lload_n C dX8_mix_5 rfl (j := 1) rfl ?_
  refine q_ladd C dX8_mix_6 ?_
  exact q_lret C hr hlk dX8_mix_7 (Nat.le_of_ble_eq_true rfl) (Nat.le_of_ble_eq_true rfl) ⟨rfl, h⟩
def S_X8_mixPoint_11 (K11 : Nat → Int32 → Int64 → Int32 → Mm → Prop) (K44 : Nat → Int32 → Int64 → Int32 → Mm → Prop) (Q : Int64 → Mm → Prop) (M : Mm) (a0 : Nat) (i3 : Int32) (l4 : Int64) (i6 : Int32) : Prop := (3 ≤ i6 → K44 a0 i3 l4 0 M) ∧ (¬ 3 ≤ i6 → kM M a0 = (8, 8) ∧ ∃ a_2 : Nat, rM M a0 0 = some a_2 ∧ kM M a_2 = (3, 4) ∧ T_X3_get M a_2 i3 i6 (fun r_3 => T_X8_mix M l4 r_3.toInt64 (fun r_4 => K11 a0 i3 r_4 (i6 + 1) M)))
def S_X8_mixPoint_44 (K11 : Nat → Int32 → Int64 → Int32 → Mm → Prop) (K44 : Nat → Int32 → Int64 → Int32 → Mm → Prop) (Q : Int64 → Mm → Prop) (M : Mm) (a0 : Nat) (i3 : Int32) (l4 : Int64) (i6 : Int32) : Prop := (3 < i6 → Q l4 M) ∧ (¬ 3 < i6 → kM M a0 = (8, 8) ∧ T_X8_countAround M a0 i3 i6 (fun r_5 M_6 => T_X8_mix M_6 l4 r_5.toInt64 (fun r_7 => K44 a0 i3 r_7 (i6 + 1) M_6)))
def T_X8_mixPoint (M : Mm) (a0 : Nat) (l1 : Int64) (i3 : Int32) (Q : Int64 → Mm → Prop) : Prop := ∀ (K11 : Nat → Int32 → Int64 → Int32 → Mm → Prop) (K44 : Nat → Int32 → Int64 → Int32 → Mm → Prop), (∀ (a0 : Nat) (i3 : Int32) (l4 : Int64) (i6 : Int32) (M : Mm), S_X8_mixPoint_11 K11 K44 Q M a0 i3 l4 i6 → K11 a0 i3 l4 i6 M) → (∀ (a0 : Nat) (i3 : Int32) (l4 : Int64) (i6 : Int32) (M : Mm), S_X8_mixPoint_44 K11 K44 Q M a0 i3 l4 i6 → K44 a0 i3 l4 i6 M) → T_X8_mix M l1 i3.toInt64 (fun r_1 => K11 a0 i3 r_1 0 M)
theorem inX8_mixPoint_X8 : ∀ w ∈ wsX80, w ∈ wsX8_mixPoint := by decide +kernel
set_option maxRecDepth 100000 in
set_option maxHeartbeats 4000000 in
theorem b_X8_mixPoint_11 {p : Program} {l : Launch} {e : Env} {s : State} {m : MethodId} {args : Array Value} {below : List Frame} {meth : Method} {c : Code} {D : va_G} {cA : Nat → ClassId} {lo : Nat} (C : Cx p s m args c cX8_mixPoint 7 RX8 wsX8_mixPoint D cA lo) (hr : meth.sig.returnType = (some .long)) (hlk : meth.locks = false) {Q : Int64 → Mm → Prop} (M : Mm) (a0 : Nat) (i3 : Int32) (l4 : Int64) (i6 : Int32) (h : S_X8_mixPoint_11 (fun (a0 : Nat) (i3 : Int32) (l4 : Int64) (i6 : Int32) (M : Mm) => QW p l e ({ frames := 5, cells := 0, slots := 0, locals := 115 } : Room) s m args below meth c (MQ below (QlM D cA lo Q) args s 0 0 (fun q => lo ≤ q)) 7 D cA lo 0 0 M 11 [(0, .ref a0), (3, .int i3), (4, .long l4), (6, .int i6)] []) (fun (a0 : Nat) (i3 : Int32) (l4 : Int64) (i6 : Int32) (M : Mm) => QW p l e ({ frames := 5, cells := 0, slots := 0, locals := 115 } : Room) s m args below meth c (MQ below (QlM D cA lo Q) args s 0 0 (fun q => lo ≤ q)) 7 D cA lo 0 0 M 44 [(0, .ref a0), (3, .int i3), (4, .long l4), (6, .int i6)] []) Q M a0 i3 l4 i6) : QW p l e ({ frames := 5, cells := 0, slots := 0, locals := 115 } : Room) s m args below meth c (MQ below (QlM D cA lo Q) args s 0 0 (fun q => lo ≤ q)) 7 D cA lo 0 0 M 11 [(0, .ref a0), (3, .int i3), (4, .long l4), (6, .int i6)] [] := by
  unfold S_X8_mixPoint_11 at h
  refine q_iload C dX8_mixPoint_11 (j := 3) rfl ?_
  refine q_iconst (v := 3) C dX8_mixPoint_13 (by decide) ?_
  refine q_icmp_ge (tgt := 41) C dX8_mixPoint_14 (by decide) (fun z => ?_) (fun z => ?_)
  · have h := h.1 z
    refine q_iconst (v := 0) C dX8_mixPoint_41 (by decide) ?_
    refine q_istore (lv' := [(6, .int 0), (0, .ref a0), (3, .int i3), (4, .long l4)]) C dX8_mixPoint_42 (by decide) rfl ?_
    exact q_sub [1, 2, 3, 0] rfl h
  · have h := h.2 z
    refine q_lload C dX8_mixPoint_17 (j := 2) rfl ?_
    refine q_aload_n C dX8_mixPoint_19 rfl (j := 0) rfl ?_
    refine q_getR (ci := 8) (k0 := 0) (T := TX8) C inX8_mixPoint_X8 rfl (by decide) h.1 (by decide) rfl (by decide +kernel) rfl dX8_mixPoint_20 ?_
    obtain ⟨a_2, z, h⟩ := h.2
    refine q_ref z ?_
    refine q_iload_n C dX8_mixPoint_23 rfl (j := 1) rfl ?_
    refine q_iload C dX8_mixPoint_24 (j := 3) rfl ?_
    refine q_ci (q_runV (As := [.int i3, .int i6]) (st := [.long l4]) C (c_X3_get l D cA lo h.2) (cwV 2 C.2.2.2.2.1 gX8_mixPoint_X3_get rfl rfl rfl (by decide +kernel) ⟨Nat.le_of_ble_eq_true rfl, Nat.le_of_ble_eq_true rfl⟩) h.1 (by decide) rfl rfl rfl (Nat.le_of_ble_eq_true rfl) dX8_mixPoint_26 ⟨Nat.le_of_ble_eq_true rfl, Nat.le_of_ble_eq_true rfl⟩) (fun r_3 M_z h => ?_)
    refine q_mem h.1 ?_
    have h := h.2
    refine q_i2l C dX8_mixPoint_29 ?_
    refine q_cl (q_runS (As := [.long l4, .long r_3.toInt64]) (st := []) C (c_X8_mix l D cA lo h) (va_cwS 2 C.2.2.2.2.1 gX8_mixPoint_X8_mix rfl rfl rfl (by decide +kernel) ⟨Nat.le_of_ble_eq_true rfl, Nat.le_of_ble_eq_true rfl⟩) rfl rfl (Nat.le_of_ble_eq_true rfl) dX8_mixPoint_30 ⟨Nat.le_of_ble_eq_true rfl, Nat.le_of_ble_eq_true rfl⟩) (fun r_4 M_z h => ?_)
    refine q_mem h.1 ?_
    have h := h.2
    refine q_lstore (lv' := [(4, .long r_4), (0, .ref a0), (3, .int i3), (6, .int i6)]) C dX8_mixPoint_33 (by decide) rfl ?_
    refine q_iinc (v := (i6 + 1)) (lv' := [(6, .int (i6 + 1)), (4, .long r_4), (0, .ref a0), (3, .int i3)]) C dX8_mixPoint_35 (j := 3) rfl rfl (by decide) rfl ?_
    refine q_goto (tgt := 11) C dX8_mixPoint_38 (by decide) ?_
    exact q_sub [2, 3, 1, 0] rfl h
set_option maxRecDepth 100000 in
set_option maxHeartbeats 4000000 in
theorem b_X8_mixPoint_44 {p : Program} {l : Launch} {e : Env} {s : State} {m : MethodId} {args : Array Value} {below : List Frame} {meth : Method} {c : Code} {D : va_G} {cA : Nat → ClassId} {lo : Nat} (C : Cx p s m args c cX8_mixPoint 7 RX8 wsX8_mixPoint D cA lo) (hr : meth.sig.returnType = (some .long)) (hlk : meth.locks = false) {Q : Int64 → Mm → Prop} (M : Mm) (a0 : Nat) (i3 : Int32) (l4 : Int64) (i6 : Int32) (h : S_X8_mixPoint_44 (fun (a0 : Nat) (i3 : Int32) (l4 : Int64) (i6 : Int32) (M : Mm) => QW p l e ({ frames := 5, cells := 0, slots := 0, locals := 115 } : Room) s m args below meth c (MQ below (QlM D cA lo Q) args s 0 0 (fun q => lo ≤ q)) 7 D cA lo 0 0 M 11 [(0, .ref a0), (3, .int i3), (4, .long l4), (6, .int i6)] []) (fun (a0 : Nat) (i3 : Int32) (l4 : Int64) (i6 : Int32) (M : Mm) => QW p l e ({ frames := 5, cells := 0, slots := 0, locals := 115 } : Room) s m args below meth c (MQ below (QlM D cA lo Q) args s 0 0 (fun q => lo ≤ q)) 7 D cA lo 0 0 M 44 [(0, .ref a0), (3, .int i3), (4, .long l4), (6, .int i6)] []) Q M a0 i3 l4 i6) : QW p l e ({ frames := 5, cells := 0, slots := 0, locals := 115 } : Room) s m args below meth c (MQ below (QlM D cA lo Q) args s 0 0 (fun q => lo ≤ q)) 7 D cA lo 0 0 M 44 [(0, .ref a0), (3, .int i3), (4, .long l4), (6, .int i6)] [] := by
  unfold S_X8_mixPoint_44 at h
  refine q_iload C dX8_mixPoint_44 (j := 3) rfl ?_
  refine q_iconst (v := 3) C dX8_mixPoint_46 (by decide) ?_
  refine q_icmp_gt (tgt := 71) C dX8_mixPoint_47 (by decide) (fun z => ?_) (fun z => ?_)
  · have h := h.1 z
    refine q_lload C dX8_mixPoint_71 (j := 2) rfl ?_
    exact q_lret C hr hlk dX8_mixPoint_73 (Nat.le_of_ble_eq_true rfl) (Nat.le_of_ble_eq_true rfl) h
  · have h := h.2 z
    refine q_lload C dX8_mixPoint_50 (j := 2) rfl ?_
    refine q_aload_n C dX8_mixPoint_52 rfl (j := 0) rfl ?_
    refine q_iload_n C dX8_mixPoint_53 rfl (j := 1) rfl ?_
    refine q_iload C dX8_mixPoint_54 (j := 3) rfl ?_
    refine q_ci (q_runV (As := [.int i3, .int i6]) (st := [.long l4]) C (c_X8_countAround l D cA lo h.2) (cwV 2 C.2.2.2.2.1 gX8_mixPoint_X8_countAround rfl rfl rfl (by decide +kernel) ⟨Nat.le_of_ble_eq_true rfl, Nat.le_of_ble_eq_true rfl⟩) h.1 (by decide) rfl rfl rfl (Nat.le_of_ble_eq_true rfl) dX8_mixPoint_56 ⟨Nat.le_of_ble_eq_true rfl, Nat.le_of_ble_eq_true rfl⟩) (fun r_5 M_6 h => ?_)
    refine q_i2l C dX8_mixPoint_59 ?_
    refine q_cl (q_runS (As := [.long l4, .long r_5.toInt64]) (st := []) C (c_X8_mix l D cA lo h) (va_cwS 2 C.2.2.2.2.1 gX8_mixPoint_X8_mix rfl rfl rfl (by decide +kernel) ⟨Nat.le_of_ble_eq_true rfl, Nat.le_of_ble_eq_true rfl⟩) rfl rfl (Nat.le_of_ble_eq_true rfl) dX8_mixPoint_60 ⟨Nat.le_of_ble_eq_true rfl, Nat.le_of_ble_eq_true rfl⟩) (fun r_7 M_z h => ?_)
    refine q_mem h.1 ?_
    have h := h.2
    refine q_lstore (lv' := [(4, .long r_7), (0, .ref a0), (3, .int i3), (6, .int i6)]) C dX8_mixPoint_63 (by decide) rfl ?_
    refine q_iinc (v := (i6 + 1)) (lv' := [(6, .int (i6 + 1)), (4, .long r_7), (0, .ref a0), (3, .int i3)]) C dX8_mixPoint_65 (j := 3) rfl rfl (by decide) rfl ?_
    refine q_goto (tgt := 44) C dX8_mixPoint_68 (by decide) ?_
    exact q_sub [2, 3, 1, 0] rfl h
set_option maxRecDepth 100000 in
set_option maxHeartbeats 4000000 in
theorem c_X8_mixPoint (l : Launch) (D : va_G) (cA : Nat → ClassId) (lo : Nat) {M : Mm} {a0 : Nat} {l1 : Int64} {i3 : Int32} {Q : Int64 → Mm → Prop} (h : T_X8_mixPoint M a0 l1 i3 Q) : Met l yX8_mixPoint wsX8_mixPoint ({ frames := 5, cells := 0, slots := 0, locals := 115 } : Room) (PcM D cA lo [.ref a0, .long l1, .int i3] M) (QlM D cA lo Q) 0 0 (fun q => lo ≤ q) := by
  refine q_start (cc := cX8_mixPoint) (nL := 7) (ret := (some .long)) (by decide) rfl rfl (Nat.le_of_ble_eq_true rfl) ?_
  intro p e s m args below meth c C hr hlk hin
  unfold T_X8_mixPoint at h
  have h := h (fun (a0 : Nat) (i3 : Int32) (l4 : Int64) (i6 : Int32) (M : Mm) => QW p l e ({ frames := 5, cells := 0, slots := 0, locals := 115 } : Room) s m args below meth c (MQ below (QlM D cA lo Q) args s 0 0 (fun q => lo ≤ q)) 7 D cA lo 0 0 M 11 [(0, .ref a0), (3, .int i3), (4, .long l4), (6, .int i6)] []) (fun (a0 : Nat) (i3 : Int32) (l4 : Int64) (i6 : Int32) (M : Mm) => QW p l e ({ frames := 5, cells := 0, slots := 0, locals := 115 } : Room) s m args below meth c (MQ below (QlM D cA lo Q) args s 0 0 (fun q => lo ≤ q)) 7 D cA lo 0 0 M 44 [(0, .ref a0), (3, .int i3), (4, .long l4), (6, .int i6)] []) (fun a0 i3 l4 i6 M h => b_X8_mixPoint_11 C hr hlk M a0 i3 l4 i6 h) (fun a0 i3 l4 i6 M h => b_X8_mixPoint_44 C hr hlk M a0 i3 l4 i6 h)
  refine q_lload_n C dX8_mixPoint_0 rfl (j := 1) rfl ?_
  refine q_iload_n C dX8_mixPoint_1 rfl (j := 2) rfl ?_
  refine q_i2l C dX8_mixPoint_2 ?_
  refine q_cl (q_runS (As := [.long l1, .long i3.toInt64]) (st := []) C (c_X8_mix l D cA lo h) (va_cwS 2 C.2.2.2.2.1 gX8_mixPoint_X8_mix rfl rfl rfl (by decide +kernel) ⟨Nat.le_of_ble_eq_true rfl, Nat.le_of_ble_eq_true rfl⟩) rfl rfl (Nat.le_of_ble_eq_true rfl) dX8_mixPoint_3 ⟨Nat.le_of_ble_eq_true rfl, Nat.le_of_ble_eq_true rfl⟩) (fun r_1 M_z h => ?_)
  refine q_mem h.1 ?_
  have h := h.2
  refine q_lstore (lv' := [(4, .long r_1), (0, .ref a0), (1, .long l1), (3, .int i3)]) C dX8_mixPoint_6 (by decide) rfl ?_
  refine q_iconst (v := 0) C dX8_mixPoint_8 (by decide) ?_
  refine q_istore (lv' := [(6, .int 0), (4, .long r_1), (0, .ref a0), (1, .long l1), (3, .int i3)]) C dX8_mixPoint_9 (by decide) rfl ?_
  exact q_sub [2, 4, 1, 0] rfl h
def S_X8_mixFace_30 (K30 : Nat → Nat → Int64 → Int32 → Prop) (K64 : Nat → Nat → Int64 → Int32 → Prop) (Q : Int64 → Prop) (M : Mm) (a0 : Nat) (a4 : Nat) (l5 : Int64) (i7 : Int32) : Prop := kM M a4 = (5, 2) ∧ T_X5_length M a4 (fun r_6 => (r_6 ≤ i7 → K64 a0 a4 l5 0) ∧ (¬ r_6 ≤ i7 → kM M a4 = (5, 2) ∧ T_X5_get M a4 i7 (fun r_7 => T_X8_mix M l5 r_7.toInt64 (fun r_8 => K30 a0 a4 r_8 (i7 + 1)))))
def S_X8_mixFace_64 (K30 : Nat → Nat → Int64 → Int32 → Prop) (K64 : Nat → Nat → Int64 → Int32 → Prop) (Q : Int64 → Prop) (M : Mm) (a0 : Nat) (a4 : Nat) (l5 : Int64) (i7 : Int32) : Prop := (3 ≤ i7 → Q l5) ∧ (¬ 3 ≤ i7 → kM M a0 = (8, 8) ∧ ∃ a_9 : Nat, rM M a0 0 = some a_9 ∧ kM M a_9 = (3, 4) ∧ T_X3_normalOf M a_9 a4 i7 (fun r_10 => T_X8_mix M l5 r_10.toInt64 (fun r_11 => K64 a0 a4 r_11 (i7 + 1))))
def T_X8_mixFace (M : Mm) (a0 : Nat) (l1 : Int64) (i3 : Int32) (Q : Int64 → Prop) : Prop := ∀ (K30 : Nat → Nat → Int64 → Int32 → Prop) (K64 : Nat → Nat → Int64 → Int32 → Prop), (∀ (a0 : Nat) (a4 : Nat) (l5 : Int64) (i7 : Int32), S_X8_mixFace_30 K30 K64 Q M a0 a4 l5 i7 → K30 a0 a4 l5 i7) → (∀ (a0 : Nat) (a4 : Nat) (l5 : Int64) (i7 : Int32), S_X8_mixFace_64 K30 K64 Q M a0 a4 l5 i7 → K64 a0 a4 l5 i7) → kM M a0 = (8, 8) ∧ ∃ a_1 : Nat, rM M a0 1 = some a_1 ∧ kM M a_1 = (1, 5) ∧ T_X1_ring M a_1 i3 (fun r_2 => T_X8_mix M l1 i3.toInt64 (fun r_3 => kM M r_2 = (5, 2) ∧ T_X5_length M r_2 (fun r_4 => T_X8_mix M r_3 r_4.toInt64 (fun r_5 => K30 a0 r_2 r_5 0))))
theorem inX8_mixFace_X8 : ∀ w ∈ wsX80, w ∈ wsX8_mixFace := by decide +kernel
set_option maxRecDepth 100000 in
set_option maxHeartbeats 4000000 in
theorem b_X8_mixFace_30 {p : Program} {l : Launch} {e : Env} {s : State} {m : MethodId} {args : Array Value} {below : List Frame} {meth : Method} {c : Code} {D : va_G} {cA : Nat → ClassId} {lo : Nat} (C : Cx p s m args c cX8_mixFace 8 RX8 wsX8_mixFace D cA lo) (hr : meth.sig.returnType = (some .long)) (hlk : meth.locks = false) {Q : Int64 → Prop} {M : Mm} (a0 : Nat) (a4 : Nat) (l5 : Int64) (i7 : Int32) (h : S_X8_mixFace_30 (fun (a0 : Nat) (a4 : Nat) (l5 : Int64) (i7 : Int32) => QW p l e ({ frames := 3, cells := 0, slots := 0, locals := 70 } : Room) s m args below meth c (MQ below (QlM D cA lo (fun r M1 => M1 = M ∧ Q r)) args s 0 0 (fun q => lo ≤ q)) 8 D cA lo 0 0 M 30 [(0, .ref a0), (4, .ref a4), (5, .long l5), (7, .int i7)] []) (fun (a0 : Nat) (a4 : Nat) (l5 : Int64) (i7 : Int32) => QW p l e ({ frames := 3, cells := 0, slots := 0, locals := 70 } : Room) s m args below meth c (MQ below (QlM D cA lo (fun r M1 => M1 = M ∧ Q r)) args s 0 0 (fun q => lo ≤ q)) 8 D cA lo 0 0 M 64 [(0, .ref a0), (4, .ref a4), (5, .long l5), (7, .int i7)] []) Q M a0 a4 l5 i7) : QW p l e ({ frames := 3, cells := 0, slots := 0, locals := 70 } : Room) s m args below meth c (MQ below (QlM D cA lo (fun r M1 => M1 = M ∧ Q r)) args s 0 0 (fun q => lo ≤ q)) 8 D cA lo 0 0 M 30 [(0, .ref a0), (4, .ref a4), (5, .long l5), (7, .int i7)] [] := by
  unfold S_X8_mixFace_30 at h
  refine q_iload C dX8_mixFace_30 (j := 3) rfl ?_
  refine q_aload C dX8_mixFace_32 (j := 1) rfl ?_
  refine q_ci (q_runV (As := []) (st := [.int i7]) C (c_X5_length l D cA lo h.2) (cwV 0 C.2.2.2.2.1 gX8_mixFace_X5_length rfl rfl rfl (by decide +kernel) ⟨Nat.le_of_ble_eq_true rfl, Nat.le_of_ble_eq_true rfl⟩) h.1 (by decide) rfl rfl rfl (Nat.le_of_ble_eq_true rfl) dX8_mixFace_34 ⟨Nat.le_of_ble_eq_true rfl, Nat.le_of_ble_eq_true rfl⟩) (fun r_6 M_z h => ?_)
  refine q_mem h.1 ?_
  have h := h.2
  refine q_icmp_ge (tgt := 61) C dX8_mixFace_37 (by decide) (fun z => ?_) (fun z => ?_)
  · have h := h.1 z
    refine q_iconst (v := 0) C dX8_mixFace_61 (by decide) ?_
    refine q_istore (lv' := [(7, .int 0), (0, .ref a0), (4, .ref a4), (5, .long l5)]) C dX8_mixFace_62 (by decide) rfl ?_
    exact q_sub [1, 2, 3, 0] rfl h
  · have h := h.2 z
    refine q_lload C dX8_mixFace_40 (j := 2) rfl ?_
    refine q_aload C dX8_mixFace_42 (j := 1) rfl ?_
    refine q_iload C dX8_mixFace_44 (j := 3) rfl ?_
    refine q_ci (q_runV (As := [.int i7]) (st := [.long l5]) C (c_X5_get l D cA lo h.2) (cwV 1 C.2.2.2.2.1 gX8_mixFace_X5_get rfl rfl rfl (by decide +kernel) ⟨Nat.le_of_ble_eq_true rfl, Nat.le_of_ble_eq_true rfl⟩) h.1 (by decide) rfl rfl rfl (Nat.le_of_ble_eq_true rfl) dX8_mixFace_46 ⟨Nat.le_of_ble_eq_true rfl, Nat.le_of_ble_eq_true rfl⟩) (fun r_7 M_z h => ?_)
    refine q_mem h.1 ?_
    have h := h.2
    refine q_i2l C dX8_mixFace_49 ?_
    refine q_cl (q_runS (As := [.long l5, .long r_7.toInt64]) (st := []) C (c_X8_mix l D cA lo h) (va_cwS 2 C.2.2.2.2.1 gX8_mixFace_X8_mix rfl rfl rfl (by decide +kernel) ⟨Nat.le_of_ble_eq_true rfl, Nat.le_of_ble_eq_true rfl⟩) rfl rfl (Nat.le_of_ble_eq_true rfl) dX8_mixFace_50 ⟨Nat.le_of_ble_eq_true rfl, Nat.le_of_ble_eq_true rfl⟩) (fun r_8 M_z h => ?_)
    refine q_mem h.1 ?_
    have h := h.2
    refine q_lstore (lv' := [(5, .long r_8), (0, .ref a0), (4, .ref a4), (7, .int i7)]) C dX8_mixFace_53 (by decide) rfl ?_
    refine q_iinc (v := (i7 + 1)) (lv' := [(7, .int (i7 + 1)), (5, .long r_8), (0, .ref a0), (4, .ref a4)]) C dX8_mixFace_55 (j := 3) rfl rfl (by decide) rfl ?_
    refine q_goto (tgt := 30) C dX8_mixFace_58 (by decide) ?_
    exact q_sub [2, 3, 1, 0] rfl h
set_option maxRecDepth 100000 in
set_option maxHeartbeats 4000000 in
theorem b_X8_mixFace_64 {p : Program} {l : Launch} {e : Env} {s : State} {m : MethodId} {args : Array Value} {below : List Frame} {meth : Method} {c : Code} {D : va_G} {cA : Nat → ClassId} {lo : Nat} (C : Cx p s m args c cX8_mixFace 8 RX8 wsX8_mixFace D cA lo) (hr : meth.sig.returnType = (some .long)) (hlk : meth.locks = false) {Q : Int64 → Prop} {M : Mm} (a0 : Nat) (a4 : Nat) (l5 : Int64) (i7 : Int32) (h : S_X8_mixFace_64 (fun (a0 : Nat) (a4 : Nat) (l5 : Int64) (i7 : Int32) => QW p l e ({ frames := 3, cells := 0, slots := 0, locals := 70 } : Room) s m args below meth c (MQ below (QlM D cA lo (fun r M1 => M1 = M ∧ Q r)) args s 0 0 (fun q => lo ≤ q)) 8 D cA lo 0 0 M 30 [(0, .ref a0), (4, .ref a4), (5, .long l5), (7, .int i7)] []) (fun (a0 : Nat) (a4 : Nat) (l5 : Int64) (i7 : Int32) => QW p l e ({ frames := 3, cells := 0, slots := 0, locals := 70 } : Room) s m args below meth c (MQ below (QlM D cA lo (fun r M1 => M1 = M ∧ Q r)) args s 0 0 (fun q => lo ≤ q)) 8 D cA lo 0 0 M 64 [(0, .ref a0), (4, .ref a4), (5, .long l5), (7, .int i7)] []) Q M a0 a4 l5 i7) : QW p l e ({ frames := 3, cells := 0, slots := 0, locals := 70 } : Room) s m args below meth c (MQ below (QlM D cA lo (fun r M1 => M1 = M ∧ Q r)) args s 0 0 (fun q => lo ≤ q)) 8 D cA lo 0 0 M 64 [(0, .ref a0), (4, .ref a4), (5, .long l5), (7, .int i7)] [] := by
  unfold S_X8_mixFace_64 at h
  refine q_iload C dX8_mixFace_64 (j := 3) rfl ?_
  refine q_iconst (v := 3) C dX8_mixFace_66 (by decide) ?_
  refine q_icmp_ge (tgt := 95) C dX8_mixFace_67 (by decide) (fun z => ?_) (fun z => ?_)
  · have h := h.1 z
    refine q_lload C dX8_mixFace_95 (j := 2) rfl ?_
    exact q_lret C hr hlk dX8_mixFace_97 (Nat.le_of_ble_eq_true rfl) (Nat.le_of_ble_eq_true rfl) ⟨rfl, h⟩
  · have h := h.2 z
    refine q_lload C dX8_mixFace_70 (j := 2) rfl ?_
    refine q_aload_n C dX8_mixFace_72 rfl (j := 0) rfl ?_
    refine q_getR (ci := 8) (k0 := 0) (T := TX8) C inX8_mixFace_X8 rfl (by decide) h.1 (by decide) rfl (by decide +kernel) rfl dX8_mixFace_73 ?_
    obtain ⟨a_9, z, h⟩ := h.2
    refine q_ref z ?_
    refine q_aload C dX8_mixFace_76 (j := 1) rfl ?_
    refine q_iload C dX8_mixFace_78 (j := 3) rfl ?_
    refine q_ci (q_runV (As := [.ref a4, .int i7]) (st := [.long l5]) C (c_X3_normalOf l D cA lo h.2) (cwV 2 C.2.2.2.2.1 gX8_mixFace_X3_normalOf rfl rfl rfl (by decide +kernel) ⟨Nat.le_of_ble_eq_true rfl, Nat.le_of_ble_eq_true rfl⟩) h.1 (by decide) rfl rfl rfl (Nat.le_of_ble_eq_true rfl) dX8_mixFace_80 ⟨Nat.le_of_ble_eq_true rfl, Nat.le_of_ble_eq_true rfl⟩) (fun r_10 M_z h => ?_)
    refine q_mem h.1 ?_
    have h := h.2
    refine q_i2l C dX8_mixFace_83 ?_
    refine q_cl (q_runS (As := [.long l5, .long r_10.toInt64]) (st := []) C (c_X8_mix l D cA lo h) (va_cwS 2 C.2.2.2.2.1 gX8_mixFace_X8_mix rfl rfl rfl (by decide +kernel) ⟨Nat.le_of_ble_eq_true rfl, Nat.le_of_ble_eq_true rfl⟩) rfl rfl (Nat.le_of_ble_eq_true rfl) dX8_mixFace_84 ⟨Nat.le_of_ble_eq_true rfl, Nat.le_of_ble_eq_true rfl⟩) (fun r_11 M_z h => ?_)
    refine q_mem h.1 ?_
    have h := h.2
    refine q_lstore (lv' := [(5, .long r_11), (0, .ref a0), (4, .ref a4), (7, .int i7)]) C dX8_mixFace_87 (by decide) rfl ?_
    refine q_iinc (v := (i7 + 1)) (lv' := [(7, .int (i7 + 1)), (5, .long r_11), (0, .ref a0), (4, .ref a4)]) C dX8_mixFace_89 (j := 3) rfl rfl (by decide) rfl ?_
    refine q_goto (tgt := 64) C dX8_mixFace_92 (by decide) ?_
    exact q_sub [2, 3, 1, 0] rfl h
set_option maxRecDepth 100000 in
set_option maxHeartbeats 4000000 in
theorem c_X8_mixFace (l : Launch) (D : va_G) (cA : Nat → ClassId) (lo : Nat) {M : Mm} {a0 : Nat} {l1 : Int64} {i3 : Int32} {Q : Int64 → Prop} (h : T_X8_mixFace M a0 l1 i3 Q) : Met l yX8_mixFace wsX8_mixFace ({ frames := 3, cells := 0, slots := 0, locals := 70 } : Room) (PcM D cA lo [.ref a0, .long l1, .int i3] M) (QlM D cA lo (fun r M1 => M1 = M ∧ Q r)) 0 0 (fun q => lo ≤ q) := by
  refine q_start (cc := cX8_mixFace) (nL := 8) (ret := (some .long)) (by decide) rfl rfl (Nat.le_of_ble_eq_true rfl) ?_
  intro p e s m args below meth c C hr hlk hin
  unfold T_X8_mixFace at h
  have h := h (fun (a0 : Nat) (a4 : Nat) (l5 : Int64) (i7 : Int32) => QW p l e ({ frames := 3, cells := 0, slots := 0, locals := 70 } : Room) s m args below meth c (MQ below (QlM D cA lo (fun r M1 => M1 = M ∧ Q r)) args s 0 0 (fun q => lo ≤ q)) 8 D cA lo 0 0 M 30 [(0, .ref a0), (4, .ref a4), (5, .long l5), (7, .int i7)] []) (fun (a0 : Nat) (a4 : Nat) (l5 : Int64) (i7 : Int32) => QW p l e ({ frames := 3, cells := 0, slots := 0, locals := 70 } : Room) s m args below meth c (MQ below (QlM D cA lo (fun r M1 => M1 = M ∧ Q r)) args s 0 0 (fun q => lo ≤ q)) 8 D cA lo 0 0 M 64 [(0, .ref a0), (4, .ref a4), (5, .long l5), (7, .int i7)] []) (fun a0 a4 l5 i7 h => b_X8_mixFace_30 C hr hlk a0 a4 l5 i7 h) (fun a0 a4 l5 i7 h => b_X8_mixFace_64 C hr hlk a0 a4 l5 i7 h)
  refine q_aload_n C dX8_mixFace_0 rfl (j := 0) rfl ?_
  refine q_getR (ci := 8) (k0 := 1) (T := TX8) C inX8_mixFace_X8 rfl (by decide) h.1 (by decide) rfl (by decide +kernel) rfl dX8_mixFace_1 ?_
  obtain ⟨a_1, z, h⟩ := h.2
  refine q_ref z ?_
  refine q_iload_n C dX8_mixFace_4 rfl (j := 2) rfl ?_
  refine q_cr (q_runV (As := [.int i3]) (st := []) C (c_X1_ring l D cA lo h.2) (cwV 1 C.2.2.2.2.1 gX8_mixFace_X1_ring rfl rfl rfl (by decide +kernel) ⟨Nat.le_of_ble_eq_true rfl, Nat.le_of_ble_eq_true rfl⟩) h.1 (by decide) rfl rfl rfl (Nat.le_of_ble_eq_true rfl) dX8_mixFace_5 ⟨Nat.le_of_ble_eq_true rfl, Nat.le_of_ble_eq_true rfl⟩) (fun r_2 M_z h => ?_)
  refine q_mem h.1 ?_
  have h := h.2
  refine q_astore (lv' := [(4, .ref r_2), (0, .ref a0), (1, .long l1), (3, .int i3)]) C dX8_mixFace_8 (by decide) rfl ?_
  refine q_lload_n C dX8_mixFace_10 rfl (j := 2) rfl ?_
  refine q_iload_n C dX8_mixFace_11 rfl (j := 3) rfl ?_
  refine q_i2l C dX8_mixFace_12 ?_
  refine q_cl (q_runS (As := [.long l1, .long i3.toInt64]) (st := []) C (c_X8_mix l D cA lo h) (va_cwS 2 C.2.2.2.2.1 gX8_mixFace_X8_mix rfl rfl rfl (by decide +kernel) ⟨Nat.le_of_ble_eq_true rfl, Nat.le_of_ble_eq_true rfl⟩) rfl rfl (Nat.le_of_ble_eq_true rfl) dX8_mixFace_13 ⟨Nat.le_of_ble_eq_true rfl, Nat.le_of_ble_eq_true rfl⟩) (fun r_3 M_z h => ?_)
  refine q_mem h.1 ?_
  have h := h.2
  refine q_aload C dX8_mixFace_16 (j := 0) rfl ?_
  refine q_ci (q_runV (As := []) (st := [.long r_3]) C (c_X5_length l D cA lo h.2) (cwV 0 C.2.2.2.2.1 gX8_mixFace_X5_length rfl rfl rfl (by decide +kernel) ⟨Nat.le_of_ble_eq_true rfl, Nat.le_of_ble_eq_true rfl⟩) h.1 (by decide) rfl rfl rfl (Nat.le_of_ble_eq_true rfl) dX8_mixFace_18 ⟨Nat.le_of_ble_eq_true rfl, Nat.le_of_ble_eq_true rfl⟩) (fun r_4 M_z h => ?_)
  refine q_mem h.1 ?_
  have h := h.2
  refine q_i2l C dX8_mixFace_21 ?_
  refine q_cl (q_runS (As := [.long r_3, .long r_4.toInt64]) (st := []) C (c_X8_mix l D cA lo h) (va_cwS 2 C.2.2.2.2.1 gX8_mixFace_X8_mix rfl rfl rfl (by decide +kernel) ⟨Nat.le_of_ble_eq_true rfl, Nat.le_of_ble_eq_true rfl⟩) rfl rfl (Nat.le_of_ble_eq_true rfl) dX8_mixFace_22 ⟨Nat.le_of_ble_eq_true rfl, Nat.le_of_ble_eq_true rfl⟩) (fun r_5 M_z h => ?_)
  refine q_mem h.1 ?_
  have h := h.2
  refine q_lstore (lv' := [(5, .long r_5), (4, .ref r_2), (0, .ref a0), (1, .long l1), (3, .int i3)]) C dX8_mixFace_25 (by decide) rfl ?_
  refine q_iconst (v := 0) C dX8_mixFace_27 (by decide) ?_
  refine q_istore (lv' := [(7, .int 0), (5, .long r_5), (4, .ref r_2), (0, .ref a0), (1, .long l1), (3, .int i3)]) C dX8_mixFace_28 (by decide) rfl ?_
  exact q_sub [3, 2, 1, 0] rfl h
def S_X8_digest_80 (K80 : Nat → Int64 → Int32 → Mm → Prop) (K117 : Nat → Int64 → Int32 → Mm → Prop) (Q : Int64 → Mm → Prop) (M : Mm) (a0 : Nat) (l1 : Int64) (i3 : Int32) : Prop := kM M a0 = (8, 8) ∧ ∃ a_20 : Nat, rM M a0 0 = some a_20 ∧ kM M a_20 = (3, 4) ∧ T_X3_ever M a_20 (fun r_21 => (r_21 ≤ i3 → K117 a0 l1 0 M) ∧ (¬ r_21 ≤ i3 → kM M a0 = (8, 8) ∧ ∃ a_22 : Nat, rM M a0 0 = some a_22 ∧ kM M a_22 = (3, 4) ∧ T_X3_has M a_22 i3 (fun r_23 => (r_23 = 0 → K80 a0 l1 (i3 + 1) M) ∧ (¬ r_23 = 0 → kM M a0 = (8, 8) ∧ T_X8_mixPoint M a0 l1 i3 (fun r_24 M_25 => K80 a0 r_24 (i3 + 1) M_25)))))
def S_X8_digest_117 (K80 : Nat → Int64 → Int32 → Mm → Prop) (K117 : Nat → Int64 → Int32 → Mm → Prop) (Q : Int64 → Mm → Prop) (M : Mm) (a0 : Nat) (l1 : Int64) (i3 : Int32) : Prop := kM M a0 = (8, 8) ∧ ∃ a_26 : Nat, rM M a0 1 = some a_26 ∧ kM M a_26 = (1, 5) ∧ T_X1_ever M a_26 (fun r_27 => (r_27 ≤ i3 → kM M a0 = (8, 8) ∧ T_X8_countPairs M a0 1 (fun r_28 M_29 => T_X8_mix M_29 l1 r_28.toInt64 (fun r_30 => kM M_29 a0 = (8, 8) ∧ T_X8_countPairs M_29 a0 2 (fun r_31 M_32 => T_X8_mix M_32 r_30 r_31.toInt64 (fun r_33 => Q r_33 M_32))))) ∧ (¬ r_27 ≤ i3 → kM M a0 = (8, 8) ∧ ∃ a_34 : Nat, rM M a0 1 = some a_34 ∧ kM M a_34 = (1, 5) ∧ T_X1_has M a_34 i3 (fun r_35 => (r_35 = 0 → K117 a0 l1 (i3 + 1) M) ∧ (¬ r_35 = 0 → kM M a0 = (8, 8) ∧ T_X8_mixFace M a0 l1 i3 (fun r_36 => K117 a0 r_36 (i3 + 1) M)))))
def T_X8_digest (M : Mm) (a0 : Nat) (Q : Int64 → Mm → Prop) : Prop := ∀ (K80 : Nat → Int64 → Int32 → Mm → Prop) (K117 : Nat → Int64 → Int32 → Mm → Prop), (∀ (a0 : Nat) (l1 : Int64) (i3 : Int32) (M : Mm), S_X8_digest_80 K80 K117 Q M a0 l1 i3 → K80 a0 l1 i3 M) → (∀ (a0 : Nat) (l1 : Int64) (i3 : Int32) (M : Mm), S_X8_digest_117 K80 K117 Q M a0 l1 i3 → K117 a0 l1 i3 M) → kM M a0 = (8, 8) ∧ ∃ a_1 : Nat, rM M a0 0 = some a_1 ∧ kM M a_1 = (3, 4) ∧ T_X3_left M a_1 (fun r_2 => T_X8_mix M 58071 r_2.toInt64 (fun r_3 => kM M a0 = (8, 8) ∧ ∃ a_4 : Nat, rM M a0 1 = some a_4 ∧ kM M a_4 = (1, 5) ∧ T_X1_edgeCount M a_4 (fun r_5 => T_X8_mix M r_3 r_5.toInt64 (fun r_6 => kM M a0 = (8, 8) ∧ ∃ a_7 : Nat, rM M a0 1 = some a_7 ∧ kM M a_7 = (1, 5) ∧ T_X1_left M a_7 (fun r_8 => T_X8_mix M r_6 r_8.toInt64 (fun r_9 => kM M a0 = (8, 8) ∧ ∃ a_10 : Nat, rM M a0 2 = some a_10 ∧ kM M a_10 = (7, 6) ∧ T_X7_holeCount M a_10 (fun r_11 M_12 => T_X8_mix M_12 r_9 r_11.toInt64 (fun r_13 => kM M_12 a0 = (8, 8) ∧ ∃ a_14 : Nat, rM M_12 a0 2 = some a_14 ∧ kM M_12 a_14 = (7, 6) ∧ T_X7_shellCount M_12 a_14 (fun r_15 M_16 => T_X8_mix M_16 r_13 r_15.toInt64 (fun r_17 => kM M_16 a0 = (8, 8) ∧ T_X8_wholeBulk M_16 a0 (fun r_18 => T_X8_mix M_16 r_17 r_18 (fun r_19 => K80 a0 r_19 0 M_16))))))))))))
theorem inX8_digest_X8 : ∀ w ∈ wsX80, w ∈ wsX8_digest := by decide +kernel
set_option maxRecDepth 100000 in
set_option maxHeartbeats 4000000 in
theorem b_X8_digest_80 {p : Program} {l : Launch} {e : Env} {s : State} {m : MethodId} {args : Array Value} {below : List Frame} {meth : Method} {c : Code} {D : va_G} {cA : Nat → ClassId} {lo : Nat} (C : Cx p s m args c cX8_digest 4 RX8 wsX8_digest D cA lo) (hr : meth.sig.returnType = (some .long)) (hlk : meth.locks = false) {Q : Int64 → Mm → Prop} (M : Mm) (a0 : Nat) (l1 : Int64) (i3 : Int32) (h : S_X8_digest_80 (fun (a0 : Nat) (l1 : Int64) (i3 : Int32) (M : Mm) => QW p l e ({ frames := 6, cells := 0, slots := 0, locals := 145 } : Room) s m args below meth c (MQ below (QlM D cA lo Q) args s 0 0 (fun q => lo ≤ q)) 4 D cA lo 0 0 M 80 [(0, .ref a0), (1, .long l1), (3, .int i3)] []) (fun (a0 : Nat) (l1 : Int64) (i3 : Int32) (M : Mm) => QW p l e ({ frames := 6, cells := 0, slots := 0, locals := 145 } : Room) s m args below meth c (MQ below (QlM D cA lo Q) args s 0 0 (fun q => lo ≤ q)) 4 D cA lo 0 0 M 117 [(0, .ref a0), (1, .long l1), (3, .int i3)] []) Q M a0 l1 i3) : QW p l e ({ frames := 6, cells := 0, slots := 0, locals := 145 } : Room) s m args below meth c (MQ below (QlM D cA lo Q) args s 0 0 (fun q => lo ≤ q)) 4 D cA lo 0 0 M 80 [(0, .ref a0), (1, .long l1), (3, .int i3)] [] := by
  unfold S_X8_digest_80 at h
  refine q_iload_n C dX8_digest_80 rfl (j := 2) rfl ?_
  refine q_aload_n C dX8_digest_81 rfl (j := 0) rfl ?_
  refine q_getR (ci := 8) (k0 := 0) (T := TX8) C inX8_digest_X8 rfl (by decide) h.1 (by decide) rfl (by decide +kernel) rfl dX8_digest_82 ?_
  obtain ⟨a_20, z, h⟩ := h.2
  refine q_ref z ?_
  refine q_ci (q_runV (As := []) (st := [.int i3]) C (c_X3_ever l D cA lo h.2) (cwV 0 C.2.2.2.2.1 gX8_digest_X3_ever rfl rfl rfl (by decide +kernel) ⟨Nat.le_of_ble_eq_true rfl, Nat.le_of_ble_eq_true rfl⟩) h.1 (by decide) rfl rfl rfl (Nat.le_of_ble_eq_true rfl) dX8_digest_85 ⟨Nat.le_of_ble_eq_true rfl, Nat.le_of_ble_eq_true rfl⟩) (fun r_21 M_z h => ?_)
  refine q_mem h.1 ?_
  have h := h.2
  refine q_icmp_ge (tgt := 115) C dX8_digest_88 (by decide) (fun z => ?_) (fun z => ?_)
  · have h := h.1 z
    refine q_iconst (v := 0) C dX8_digest_115 (by decide) ?_
    refine q_istore_n (lv' := [(3, .int 0), (0, .ref a0), (1, .long l1)]) C dX8_digest_116 rfl (by decide) rfl ?_
    exact q_sub [1, 2, 0] rfl h
  · have h := h.2 z
    refine q_aload_n C dX8_digest_91 rfl (j := 0) rfl ?_
    refine q_getR (ci := 8) (k0 := 0) (T := TX8) C inX8_digest_X8 rfl (by decide) h.1 (by decide) rfl (by decide +kernel) rfl dX8_digest_92 ?_
    obtain ⟨a_22, z, h⟩ := h.2
    refine q_ref z ?_
    refine q_iload_n C dX8_digest_95 rfl (j := 2) rfl ?_
    refine q_ci (q_runV (As := [.int i3]) (st := []) C (c_X3_has l D cA lo h.2) (cwV 1 C.2.2.2.2.1 gX8_digest_X3_has rfl rfl rfl (by decide +kernel) ⟨Nat.le_of_ble_eq_true rfl, Nat.le_of_ble_eq_true rfl⟩) h.1 (by decide) rfl rfl rfl (Nat.le_of_ble_eq_true rfl) dX8_digest_96 ⟨Nat.le_of_ble_eq_true rfl, Nat.le_of_ble_eq_true rfl⟩) (fun r_23 M_z h => ?_)
    refine q_mem h.1 ?_
    have h := h.2
    refine q_if_eq (tgt := 109) C dX8_digest_99 (by decide) (fun z => ?_) (fun z => ?_)
    · have h := h.1 z
      refine q_iinc (v := (i3 + 1)) (lv' := [(3, .int (i3 + 1)), (0, .ref a0), (1, .long l1)]) C dX8_digest_109 (j := 2) rfl rfl (by decide) rfl ?_
      refine q_goto (tgt := 80) C dX8_digest_112 (by decide) ?_
      exact q_sub [1, 2, 0] rfl h
    · have h := h.2 z
      refine q_aload_n C dX8_digest_102 rfl (j := 0) rfl ?_
      refine q_lload_n C dX8_digest_103 rfl (j := 1) rfl ?_
      refine q_iload_n C dX8_digest_104 rfl (j := 2) rfl ?_
      refine q_cl (q_runV (As := [.long l1, .int i3]) (st := []) C (c_X8_mixPoint l D cA lo h.2) (cwV 2 C.2.2.2.2.1 gX8_digest_X8_mixPoint rfl rfl rfl (by decide +kernel) ⟨Nat.le_of_ble_eq_true rfl, Nat.le_of_ble_eq_true rfl⟩) h.1 (by decide) rfl rfl rfl (Nat.le_of_ble_eq_true rfl) dX8_digest_105 ⟨Nat.le_of_ble_eq_true rfl, Nat.le_of_ble_eq_true rfl⟩) (fun r_24 M_25 h => ?_)
      refine q_lstore_n (lv' := [(1, .long r_24), (0, .ref a0), (3, .int i3)]) C dX8_digest_108 rfl (by decide) rfl ?_
      refine q_iinc (v := (i3 + 1)) (lv' := [(3, .int (i3 + 1)), (1, .long r_24), (0, .ref a0)]) C dX8_digest_109 (j := 2) rfl rfl (by decide) rfl ?_
      refine q_goto (tgt := 80) C dX8_digest_112 (by decide) ?_
      exact q_sub [2, 1, 0] rfl h
set_option maxRecDepth 100000 in
set_option maxHeartbeats 4000000 in
theorem b_X8_digest_117 {p : Program} {l : Launch} {e : Env} {s : State} {m : MethodId} {args : Array Value} {below : List Frame} {meth : Method} {c : Code} {D : va_G} {cA : Nat → ClassId} {lo : Nat} (C : Cx p s m args c cX8_digest 4 RX8 wsX8_digest D cA lo) (hr : meth.sig.returnType = (some .long)) (hlk : meth.locks = false) {Q : Int64 → Mm → Prop} (M : Mm) (a0 : Nat) (l1 : Int64) (i3 : Int32) (h : S_X8_digest_117 (fun (a0 : Nat) (l1 : Int64) (i3 : Int32) (M : Mm) => QW p l e ({ frames := 6, cells := 0, slots := 0, locals := 145 } : Room) s m args below meth c (MQ below (QlM D cA lo Q) args s 0 0 (fun q => lo ≤ q)) 4 D cA lo 0 0 M 80 [(0, .ref a0), (1, .long l1), (3, .int i3)] []) (fun (a0 : Nat) (l1 : Int64) (i3 : Int32) (M : Mm) => QW p l e ({ frames := 6, cells := 0, slots := 0, locals := 145 } : Room) s m args below meth c (MQ below (QlM D cA lo Q) args s 0 0 (fun q => lo ≤ q)) 4 D cA lo 0 0 M 117 [(0, .ref a0), (1, .long l1), (3, .int i3)] []) Q M a0 l1 i3) : QW p l e ({ frames := 6, cells := 0, slots := 0, locals := 145 } : Room) s m args below meth c (MQ below (QlM D cA lo Q) args s 0 0 (fun q => lo ≤ q)) 4 D cA lo 0 0 M 117 [(0, .ref a0), (1, .long l1), (3, .int i3)] [] := by
  unfold S_X8_digest_117 at h
  refine q_iload_n C dX8_digest_117 rfl (j := 2) rfl ?_
  refine q_aload_n C dX8_digest_118 rfl (j := 0) rfl ?_
  refine q_getR (ci := 8) (k0 := 1) (T := TX8) C inX8_digest_X8 rfl (by decide) h.1 (by decide) rfl (by decide +kernel) rfl dX8_digest_119 ?_
  obtain ⟨a_26, z, h⟩ := h.2
  refine q_ref z ?_
  refine q_ci (q_runV (As := []) (st := [.int i3]) C (c_X1_ever l D cA lo h.2) (cwV 0 C.2.2.2.2.1 gX8_digest_X1_ever rfl rfl rfl (by decide +kernel) ⟨Nat.le_of_ble_eq_true rfl, Nat.le_of_ble_eq_true rfl⟩) h.1 (by decide) rfl rfl rfl (Nat.le_of_ble_eq_true rfl) dX8_digest_122 ⟨Nat.le_of_ble_eq_true rfl, Nat.le_of_ble_eq_true rfl⟩) (fun r_27 M_z h => ?_)
  refine q_mem h.1 ?_
  have h := h.2
  refine q_icmp_ge (tgt := 152) C dX8_digest_125 (by decide) (fun z => ?_) (fun z => ?_)
  · have h := h.1 z
    refine q_lload_n C dX8_digest_152 rfl (j := 1) rfl ?_
    refine q_aload_n C dX8_digest_153 rfl (j := 0) rfl ?_
    refine q_iconst (v := 1) C dX8_digest_154 (by decide) ?_
    refine q_ci (q_runV (As := [.int 1]) (st := [.long l1]) C (c_X8_countPairs l D cA lo h.2) (cwV 1 C.2.2.2.2.1 gX8_digest_X8_countPairs rfl rfl rfl (by decide +kernel) ⟨Nat.le_of_ble_eq_true rfl, Nat.le_of_ble_eq_true rfl⟩) h.1 (by decide) rfl rfl rfl (Nat.le_of_ble_eq_true rfl) dX8_digest_155 ⟨Nat.le_of_ble_eq_true rfl, Nat.le_of_ble_eq_true rfl⟩) (fun r_28 M_29 h => ?_)
    refine q_i2l C dX8_digest_158 ?_
    refine q_cl (q_runS (As := [.long l1, .long r_28.toInt64]) (st := []) C (c_X8_mix l D cA lo h) (va_cwS 2 C.2.2.2.2.1 gX8_digest_X8_mix rfl rfl rfl (by decide +kernel) ⟨Nat.le_of_ble_eq_true rfl, Nat.le_of_ble_eq_true rfl⟩) rfl rfl (Nat.le_of_ble_eq_true rfl) dX8_digest_159 ⟨Nat.le_of_ble_eq_true rfl, Nat.le_of_ble_eq_true rfl⟩) (fun r_30 M_z h => ?_)
    refine q_mem h.1 ?_
    have h := h.2
    refine q_lstore_n (lv' := [(1, .long r_30), (0, .ref a0), (3, .int i3)]) C dX8_digest_162 rfl (by decide) rfl ?_
    refine q_lload_n C dX8_digest_163 rfl (j := 0) rfl ?_
    refine q_aload_n C dX8_digest_164 rfl (j := 1) rfl ?_
    refine q_iconst (v := 2) C dX8_digest_165 (by decide) ?_
    refine q_ci (q_runV (As := [.int 2]) (st := [.long r_30]) C (c_X8_countPairs l D cA lo h.2) (cwV 1 C.2.2.2.2.1 gX8_digest_X8_countPairs rfl rfl rfl (by decide +kernel) ⟨Nat.le_of_ble_eq_true rfl, Nat.le_of_ble_eq_true rfl⟩) h.1 (by decide) rfl rfl rfl (Nat.le_of_ble_eq_true rfl) dX8_digest_166 ⟨Nat.le_of_ble_eq_true rfl, Nat.le_of_ble_eq_true rfl⟩) (fun r_31 M_32 h => ?_)
    refine q_i2l C dX8_digest_169 ?_
    refine q_cl (q_runS (As := [.long r_30, .long r_31.toInt64]) (st := []) C (c_X8_mix l D cA lo h) (va_cwS 2 C.2.2.2.2.1 gX8_digest_X8_mix rfl rfl rfl (by decide +kernel) ⟨Nat.le_of_ble_eq_true rfl, Nat.le_of_ble_eq_true rfl⟩) rfl rfl (Nat.le_of_ble_eq_true rfl) dX8_digest_170 ⟨Nat.le_of_ble_eq_true rfl, Nat.le_of_ble_eq_true rfl⟩) (fun r_33 M_z h => ?_)
    refine q_mem h.1 ?_
    have h := h.2
    exact q_lret C hr hlk dX8_digest_173 (Nat.le_of_ble_eq_true rfl) (Nat.le_of_ble_eq_true rfl) h
  · have h := h.2 z
    refine q_aload_n C dX8_digest_128 rfl (j := 0) rfl ?_
    refine q_getR (ci := 8) (k0 := 1) (T := TX8) C inX8_digest_X8 rfl (by decide) h.1 (by decide) rfl (by decide +kernel) rfl dX8_digest_129 ?_
    obtain ⟨a_34, z, h⟩ := h.2
    refine q_ref z ?_
    refine q_iload_n C dX8_digest_132 rfl (j := 2) rfl ?_
    refine q_ci (q_runV (As := [.int i3]) (st := []) C (c_X1_has l D cA lo h.2) (cwV 1 C.2.2.2.2.1 gX8_digest_X1_has rfl rfl rfl (by decide +kernel) ⟨Nat.le_of_ble_eq_true rfl, Nat.le_of_ble_eq_true rfl⟩) h.1 (by decide) rfl rfl rfl (Nat.le_of_ble_eq_true rfl) dX8_digest_133 ⟨Nat.le_of_ble_eq_true rfl, Nat.le_of_ble_eq_true rfl⟩) (fun r_35 M_z h => ?_)
    refine q_mem h.1 ?_
    have h := h.2
    refine q_if_eq (tgt := 146) C dX8_digest_136 (by decide) (fun z => ?_) (fun z => ?_)
    · have h := h.1 z
      refine q_iinc (v := (i3 + 1)) (lv' := [(3, .int (i3 + 1)), (0, .ref a0), (1, .long l1)]) C dX8_digest_146 (j := 2) rfl rfl (by decide) rfl ?_
      refine q_goto (tgt := 117) C dX8_digest_149 (by decide) ?_
      exact q_sub [1, 2, 0] rfl h
    · have h := h.2 z
      refine q_aload_n C dX8_digest_139 rfl (j := 0) rfl ?_
      refine q_lload_n C dX8_digest_140 rfl (j := 1) rfl ?_
      refine q_iload_n C dX8_digest_141 rfl (j := 2) rfl ?_
      refine q_cl (q_runV (As := [.long l1, .int i3]) (st := []) C (c_X8_mixFace l D cA lo h.2) (cwV 2 C.2.2.2.2.1 gX8_digest_X8_mixFace rfl rfl rfl (by decide +kernel) ⟨Nat.le_of_ble_eq_true rfl, Nat.le_of_ble_eq_true rfl⟩) h.1 (by decide) rfl rfl rfl (Nat.le_of_ble_eq_true rfl) dX8_digest_142 ⟨Nat.le_of_ble_eq_true rfl, Nat.le_of_ble_eq_true rfl⟩) (fun r_36 M_z h => ?_)
      refine q_mem h.1 ?_
      have h := h.2
      refine q_lstore_n (lv' := [(1, .long r_36), (0, .ref a0), (3, .int i3)]) C dX8_digest_145 rfl (by decide) rfl ?_
      refine q_iinc (v := (i3 + 1)) (lv' := [(3, .int (i3 + 1)), (1, .long r_36), (0, .ref a0)]) C dX8_digest_146 (j := 2) rfl rfl (by decide) rfl ?_
      refine q_goto (tgt := 117) C dX8_digest_149 (by decide) ?_
      exact q_sub [2, 1, 0] rfl h
set_option maxRecDepth 100000 in
set_option maxHeartbeats 4000000 in
theorem c_X8_digest (l : Launch) (D : va_G) (cA : Nat → ClassId) (lo : Nat) {M : Mm} {a0 : Nat} {Q : Int64 → Mm → Prop} (h : T_X8_digest M a0 Q) : Met l yX8_digest wsX8_digest ({ frames := 6, cells := 0, slots := 0, locals := 145 } : Room) (PcM D cA lo [.ref a0] M) (QlM D cA lo Q) 0 0 (fun q => lo ≤ q) := by
  refine q_start (cc := cX8_digest) (nL := 4) (ret := (some .long)) (by decide) rfl rfl (Nat.le_of_ble_eq_true rfl) ?_
  intro p e s m args below meth c C hr hlk hin
  unfold T_X8_digest at h
  have h := h (fun (a0 : Nat) (l1 : Int64) (i3 : Int32) (M : Mm) => QW p l e ({ frames := 6, cells := 0, slots := 0, locals := 145 } : Room) s m args below meth c (MQ below (QlM D cA lo Q) args s 0 0 (fun q => lo ≤ q)) 4 D cA lo 0 0 M 80 [(0, .ref a0), (1, .long l1), (3, .int i3)] []) (fun (a0 : Nat) (l1 : Int64) (i3 : Int32) (M : Mm) => QW p l e ({ frames := 6, cells := 0, slots := 0, locals := 145 } : Room) s m args below meth c (MQ below (QlM D cA lo Q) args s 0 0 (fun q => lo ≤ q)) 4 D cA lo 0 0 M 117 [(0, .ref a0), (1, .long l1), (3, .int i3)] []) (fun a0 l1 i3 M h => b_X8_digest_80 C hr hlk M a0 l1 i3 h) (fun a0 l1 i3 M h => b_X8_digest_117 C hr hlk M a0 l1 i3 h)
  refine q_ldc2 (v := 58071) C (by decide +kernel) dX8_digest_0 ?_
  refine q_lstore_n (lv' := [(1, .long 58071), (0, .ref a0)]) C dX8_digest_3 rfl (by decide) rfl ?_
  refine q_lload_n C dX8_digest_4 rfl (j := 0) rfl ?_
  refine q_aload_n C dX8_digest_5 rfl (j := 1) rfl ?_
  refine q_getR (ci := 8) (k0 := 0) (T := TX8) C inX8_digest_X8 rfl (by decide) h.1 (by decide) rfl (by decide +kernel) rfl dX8_digest_6 ?_
  obtain ⟨a_1, z, h⟩ := h.2
  refine q_ref z ?_
  refine q_ci (q_runV (As := []) (st := [.long 58071]) C (c_X3_left l D cA lo h.2) (cwV 0 C.2.2.2.2.1 gX8_digest_X3_left rfl rfl rfl (by decide +kernel) ⟨Nat.le_of_ble_eq_true rfl, Nat.le_of_ble_eq_true rfl⟩) h.1 (by decide) rfl rfl rfl (Nat.le_of_ble_eq_true rfl) dX8_digest_9 ⟨Nat.le_of_ble_eq_true rfl, Nat.le_of_ble_eq_true rfl⟩) (fun r_2 M_z h => ?_)
  refine q_mem h.1 ?_
  have h := h.2
  refine q_i2l C dX8_digest_12 ?_
  refine q_cl (q_runS (As := [.long 58071, .long r_2.toInt64]) (st := []) C (c_X8_mix l D cA lo h) (va_cwS 2 C.2.2.2.2.1 gX8_digest_X8_mix rfl rfl rfl (by decide +kernel) ⟨Nat.le_of_ble_eq_true rfl, Nat.le_of_ble_eq_true rfl⟩) rfl rfl (Nat.le_of_ble_eq_true rfl) dX8_digest_13 ⟨Nat.le_of_ble_eq_true rfl, Nat.le_of_ble_eq_true rfl⟩) (fun r_3 M_z h => ?_)
  refine q_mem h.1 ?_
  have h := h.2
  refine q_lstore_n (lv' := [(1, .long r_3), (0, .ref a0)]) C dX8_digest_16 rfl (by decide) rfl ?_
  refine q_lload_n C dX8_digest_17 rfl (j := 0) rfl ?_
  refine q_aload_n C dX8_digest_18 rfl (j := 1) rfl ?_
  refine q_getR (ci := 8) (k0 := 1) (T := TX8) C inX8_digest_X8 rfl (by decide) h.1 (by decide) rfl (by decide +kernel) rfl dX8_digest_19 ?_
  obtain ⟨a_4, z, h⟩ := h.2
  refine q_ref z ?_
  refine q_ci (q_runV (As := []) (st := [.long r_3]) C (c_X1_edgeCount l D cA lo h.2) (cwV 0 C.2.2.2.2.1 gX8_digest_X1_edgeCount rfl rfl rfl (by decide +kernel) ⟨Nat.le_of_ble_eq_true rfl, Nat.le_of_ble_eq_true rfl⟩) h.1 (by decide) rfl rfl rfl (Nat.le_of_ble_eq_true rfl) dX8_digest_22 ⟨Nat.le_of_ble_eq_true rfl, Nat.le_of_ble_eq_true rfl⟩) (fun r_5 M_z h => ?_)
  refine q_mem h.1 ?_
  have h := h.2
  refine q_i2l C dX8_digest_25 ?_
  refine q_cl (q_runS (As := [.long r_3, .long r_5.toInt64]) (st := []) C (c_X8_mix l D cA lo h) (va_cwS 2 C.2.2.2.2.1 gX8_digest_X8_mix rfl rfl rfl (by decide +kernel) ⟨Nat.le_of_ble_eq_true rfl, Nat.le_of_ble_eq_true rfl⟩) rfl rfl (Nat.le_of_ble_eq_true rfl) dX8_digest_26 ⟨Nat.le_of_ble_eq_true rfl, Nat.le_of_ble_eq_true rfl⟩) (fun r_6 M_z h => ?_)
  refine q_mem h.1 ?_
  have h := h.2
  refine q_lstore_n (lv' := [(1, .long r_6), (0, .ref a0)]) C dX8_digest_29 rfl (by decide) rfl ?_
  refine q_lload_n C dX8_digest_30 rfl (j := 0) rfl ?_
  refine q_aload_n C dX8_digest_31 rfl (j := 1) rfl ?_
  refine q_getR (ci := 8) (k0 := 1) (T := TX8) C inX8_digest_X8 rfl (by decide) h.1 (by decide) rfl (by decide +kernel) rfl dX8_digest_32 ?_
  obtain ⟨a_7, z, h⟩ := h.2
  refine q_ref z ?_
  refine q_ci (q_runV (As := []) (st := [.long r_6]) C (c_X1_left l D cA lo h.2) (cwV 0 C.2.2.2.2.1 gX8_digest_X1_left rfl rfl rfl (by decide +kernel) ⟨Nat.le_of_ble_eq_true rfl, Nat.le_of_ble_eq_true rfl⟩) h.1 (by decide) rfl rfl rfl (Nat.le_of_ble_eq_true rfl) dX8_digest_35 ⟨Nat.le_of_ble_eq_true rfl, Nat.le_of_ble_eq_true rfl⟩) (fun r_8 M_z h => ?_)
  refine q_mem h.1 ?_
  have h := h.2
  refine q_i2l C dX8_digest_38 ?_
  refine q_cl (q_runS (As := [.long r_6, .long r_8.toInt64]) (st := []) C (c_X8_mix l D cA lo h) (va_cwS 2 C.2.2.2.2.1 gX8_digest_X8_mix rfl rfl rfl (by decide +kernel) ⟨Nat.le_of_ble_eq_true rfl, Nat.le_of_ble_eq_true rfl⟩) rfl rfl (Nat.le_of_ble_eq_true rfl) dX8_digest_39 ⟨Nat.le_of_ble_eq_true rfl, Nat.le_of_ble_eq_true rfl⟩) (fun r_9 M_z h => ?_)
  refine q_mem h.1 ?_
  have h := h.2
  refine q_lstore_n (lv' := [(1, .long r_9), (0, .ref a0)]) C dX8_digest_42 rfl (by decide) rfl ?_
  refine q_lload_n C dX8_digest_43 rfl (j := 0) rfl ?_
  refine q_aload_n C dX8_digest_44 rfl (j := 1) rfl ?_
  refine q_getR (ci := 8) (k0 := 2) (T := TX8) C inX8_digest_X8 rfl (by decide) h.1 (by decide) rfl (by decide +kernel) rfl dX8_digest_45 ?_
  obtain ⟨a_10, z, h⟩ := h.2
  refine q_ref z ?_
  refine q_ci (q_runV (As := []) (st := [.long r_9]) C (c_X7_holeCount l D cA lo h.2) (cwV 0 C.2.2.2.2.1 gX8_digest_X7_holeCount rfl rfl rfl (by decide +kernel) ⟨Nat.le_of_ble_eq_true rfl, Nat.le_of_ble_eq_true rfl⟩) h.1 (by decide) rfl rfl rfl (Nat.le_of_ble_eq_true rfl) dX8_digest_48 ⟨Nat.le_of_ble_eq_true rfl, Nat.le_of_ble_eq_true rfl⟩) (fun r_11 M_12 h => ?_)
  refine q_i2l C dX8_digest_51 ?_
  refine q_cl (q_runS (As := [.long r_9, .long r_11.toInt64]) (st := []) C (c_X8_mix l D cA lo h) (va_cwS 2 C.2.2.2.2.1 gX8_digest_X8_mix rfl rfl rfl (by decide +kernel) ⟨Nat.le_of_ble_eq_true rfl, Nat.le_of_ble_eq_true rfl⟩) rfl rfl (Nat.le_of_ble_eq_true rfl) dX8_digest_52 ⟨Nat.le_of_ble_eq_true rfl, Nat.le_of_ble_eq_true rfl⟩) (fun r_13 M_z h => ?_)
  refine q_mem h.1 ?_
  have h := h.2
  refine q_lstore_n (lv' := [(1, .long r_13), (0, .ref a0)]) C dX8_digest_55 rfl (by decide) rfl ?_
  refine q_lload_n C dX8_digest_56 rfl (j := 0) rfl ?_
  refine q_aload_n C dX8_digest_57 rfl (j := 1) rfl ?_
  refine q_getR (ci := 8) (k0 := 2) (T := TX8) C inX8_digest_X8 rfl (by decide) h.1 (by decide) rfl (by decide +kernel) rfl dX8_digest_58 ?_
  obtain ⟨a_14, z, h⟩ := h.2
  refine q_ref z ?_
  refine q_ci (q_runV (As := []) (st := [.long r_13]) C (c_X7_shellCount l D cA lo h.2) (cwV 0 C.2.2.2.2.1 gX8_digest_X7_shellCount rfl rfl rfl (by decide +kernel) ⟨Nat.le_of_ble_eq_true rfl, Nat.le_of_ble_eq_true rfl⟩) h.1 (by decide) rfl rfl rfl (Nat.le_of_ble_eq_true rfl) dX8_digest_61 ⟨Nat.le_of_ble_eq_true rfl, Nat.le_of_ble_eq_true rfl⟩) (fun r_15 M_16 h => ?_)
  refine q_i2l C dX8_digest_64 ?_
  refine q_cl (q_runS (As := [.long r_13, .long r_15.toInt64]) (st := []) C (c_X8_mix l D cA lo h) (va_cwS 2 C.2.2.2.2.1 gX8_digest_X8_mix rfl rfl rfl (by decide +kernel) ⟨Nat.le_of_ble_eq_true rfl, Nat.le_of_ble_eq_true rfl⟩) rfl rfl (Nat.le_of_ble_eq_true rfl) dX8_digest_65 ⟨Nat.le_of_ble_eq_true rfl, Nat.le_of_ble_eq_true rfl⟩) (fun r_17 M_z h => ?_)
  refine q_mem h.1 ?_
  have h := h.2
  refine q_lstore_n (lv' := [(1, .long r_17), (0, .ref a0)]) C dX8_digest_68 rfl (by decide) rfl ?_
  refine q_lload_n C dX8_digest_69 rfl (j := 0) rfl ?_
  refine q_aload_n C dX8_digest_70 rfl (j := 1) rfl ?_
  refine q_cl (q_runV (As := []) (st := [.long r_17]) C (c_X8_wholeBulk l D cA lo h.2) (cwV 0 C.2.2.2.2.1 gX8_digest_X8_wholeBulk rfl rfl rfl (by decide +kernel) ⟨Nat.le_of_ble_eq_true rfl, Nat.le_of_ble_eq_true rfl⟩) h.1 (by decide) rfl rfl rfl (Nat.le_of_ble_eq_true rfl) dX8_digest_71 ⟨Nat.le_of_ble_eq_true rfl, Nat.le_of_ble_eq_true rfl⟩) (fun r_18 M_z h => ?_)
  refine q_mem h.1 ?_
  have h := h.2
  refine q_cl (q_runS (As := [.long r_17, .long r_18]) (st := []) C (c_X8_mix l D cA lo h) (va_cwS 2 C.2.2.2.2.1 gX8_digest_X8_mix rfl rfl rfl (by decide +kernel) ⟨Nat.le_of_ble_eq_true rfl, Nat.le_of_ble_eq_true rfl⟩) rfl rfl (Nat.le_of_ble_eq_true rfl) dX8_digest_74 ⟨Nat.le_of_ble_eq_true rfl, Nat.le_of_ble_eq_true rfl⟩) (fun r_19 M_z h => ?_)
  refine q_mem h.1 ?_
  have h := h.2
  refine q_lstore_n (lv' := [(1, .long r_19), (0, .ref a0)]) C dX8_digest_77 rfl (by decide) rfl ?_
  refine q_iconst (v := 0) C dX8_digest_78 (by decide) ?_
  refine q_istore_n (lv' := [(3, .int 0), (1, .long r_19), (0, .ref a0)]) C dX8_digest_79 rfl (by decide) rfl ?_
  exact q_sub [2, 1, 0] rfl h
