def S_X4_addQuarters_2 (K2 : Nat → Nat → Int32 → Int32 → Mm → Prop) (Q : Mm → Prop) (M : Mm) (a0 : Nat) (a1 : Nat) (i2 : Int32) (i3 : Int32) : Prop := kM M a1 = (5, 2) ∧ T_X5_length M a1 (fun r_1 => (r_1 ≤ i3 → Q M) ∧ (¬ r_1 ≤ i3 → kM M a1 = (5, 2) ∧ T_X5_get M a1 i3 (fun r_2 => kM M a0 = (4, 5) ∧ ∃ a_3 : Nat, rM M a0 4 = some a_3 ∧ kM M a1 = (5, 2) ∧ T_X5_get M a1 (i3 + 1) (fun r_4 => kM M a0 = (4, 5) ∧ T_X4_middle M a0 r_2 r_4 (fun r_5 => kM M a1 = (5, 2) ∧ T_X5_get M a1 (i3 - 1) (fun r_6 => kM M a0 = (4, 5) ∧ T_X4_middle M a0 r_6 r_2 (fun r_7 => kM M a_3 = (5, 2) ∧ T_X5_set M a_3 r_2 r_5 i2 r_7 (fun M_9 => kM M_9 a0 = (4, 5) ∧ ∃ a_10 : Nat, rM M_9 a0 1 = some a_10 ∧ kM M_9 a0 = (4, 5) ∧ ∃ a_11 : Nat, rM M_9 a0 4 = some a_11 ∧ kM M_9 a_10 = (1, 5) ∧ T_X1_add M_9 a_10 a_11 (fun r_12 M_13 => K2 a0 a1 i2 (i3 + 1) M_13)))))))))
def T_X4_addQuarters (M : Mm) (a0 : Nat) (a1 : Nat) (i2 : Int32) (Q : Mm → Prop) : Prop := ∀ (K2 : Nat → Nat → Int32 → Int32 → Mm → Prop), (∀ (a0 : Nat) (a1 : Nat) (i2 : Int32) (i3 : Int32) (M : Mm), S_X4_addQuarters_2 K2 Q M a0 a1 i2 i3 → K2 a0 a1 i2 i3 M) → K2 a0 a1 i2 0 M
theorem inX4_addQuarters_X4 : ∀ w ∈ wsX40, w ∈ wsX4_addQuarters := by decide +kernel
set_option maxRecDepth 100000 in
set_option maxHeartbeats 4000000 in
theorem b_X4_addQuarters_2 {p : Program} {l : Launch} {e : Env} {s : State} {m : MethodId} {args : Array Value} {below : List Frame} {meth : Method} {c : Code} {D : va_G} {cA : Nat → ClassId} {lo : Nat} (C : Cx p s m args c cX4_addQuarters 5 RX4 wsX4_addQuarters D cA lo) (hr : meth.sig.returnType = none) (hlk : meth.locks = false) {Q : Mm → Prop} (M : Mm) (a0 : Nat) (a1 : Nat) (i2 : Int32) (i3 : Int32) (h : S_X4_addQuarters_2 (fun (a0 : Nat) (a1 : Nat) (i2 : Int32) (i3 : Int32) (M : Mm) => QW p l e ({ frames := 4, cells := 0, slots := 0, locals := 90 } : Room) s m args below meth c (MQ below (QvM D cA lo Q) args s 0 0 (fun q => lo ≤ q)) 5 D cA lo 0 0 M 2 [(0, .ref a0), (1, .ref a1), (2, .int i2), (3, .int i3)] []) Q M a0 a1 i2 i3) : QW p l e ({ frames := 4, cells := 0, slots := 0, locals := 90 } : Room) s m args below meth c (MQ below (QvM D cA lo Q) args s 0 0 (fun q => lo ≤ q)) 5 D cA lo 0 0 M 2 [(0, .ref a0), (1, .ref a1), (2, .int i2), (3, .int i3)] [] := by
  unfold S_X4_addQuarters_2 at h
  refine q_iload_n C dX4_addQuarters_2 rfl (j := 3) rfl ?_
  refine q_aload_n C dX4_addQuarters_3 rfl (j := 1) rfl ?_
  refine q_ci (q_runV (As := []) (st := [.int i3]) C (c_X5_length l D cA lo h.2) (cwV 0 C.2.2.2.2.1 gX4_addQuarters_X5_length rfl rfl rfl (by decide +kernel) ⟨Nat.le_of_ble_eq_true rfl, Nat.le_of_ble_eq_true rfl⟩) h.1 (by decide) rfl rfl rfl (Nat.le_of_ble_eq_true rfl) dX4_addQuarters_4 ⟨Nat.le_of_ble_eq_true rfl, Nat.le_of_ble_eq_true rfl⟩) (fun r_1 M_z h => ?_)
  refine q_mem h.1 ?_
  have h := h.2
  refine q_icmp_ge (tgt := 71) C dX4_addQuarters_7 (by decide) (fun z => ?_) (fun z => ?_)
  · have h := h.1 z
    exact q_vret C hr hlk dX4_addQuarters_71 (Nat.le_of_ble_eq_true rfl) (Nat.le_of_ble_eq_true rfl) h
  · have h := h.2 z
    refine q_aload_n C dX4_addQuarters_10 rfl (j := 1) rfl ?_
    refine q_iload_n C dX4_addQuarters_11 rfl (j := 3) rfl ?_
    refine q_ci (q_runV (As := [.int i3]) (st := []) C (c_X5_get l D cA lo h.2) (cwV 1 C.2.2.2.2.1 gX4_addQuarters_X5_get rfl rfl rfl (by decide +kernel) ⟨Nat.le_of_ble_eq_true rfl, Nat.le_of_ble_eq_true rfl⟩) h.1 (by decide) rfl rfl rfl (Nat.le_of_ble_eq_true rfl) dX4_addQuarters_12 ⟨Nat.le_of_ble_eq_true rfl, Nat.le_of_ble_eq_true rfl⟩) (fun r_2 M_z h => ?_)
    refine q_mem h.1 ?_
    have h := h.2
    refine q_istore (lv' := [(4, .int r_2), (0, .ref a0), (1, .ref a1), (2, .int i2), (3, .int i3)]) C dX4_addQuarters_15 (by decide) rfl ?_
    refine q_aload_n C dX4_addQuarters_17 rfl (j := 1) rfl ?_
    refine q_getR (ci := 4) (k0 := 4) (T := TX4) C inX4_addQuarters_X4 rfl (by decide) h.1 (by decide) rfl (by decide +kernel) rfl dX4_addQuarters_18 ?_
    obtain ⟨a_3, z, h⟩ := h.2
    refine q_ref z ?_
    refine q_iload C dX4_addQuarters_21 (j := 0) rfl ?_
    refine q_aload_n C dX4_addQuarters_23 rfl (j := 1) rfl ?_
    refine q_iload C dX4_addQuarters_24 (j := 0) rfl ?_
    refine q_aload_n C dX4_addQuarters_26 rfl (j := 2) rfl ?_
    refine q_iload_n C dX4_addQuarters_27 rfl (j := 4) rfl ?_
    refine q_iconst (v := 1) C dX4_addQuarters_28 (by decide) ?_
    refine q_iadd C dX4_addQuarters_29 ?_
    refine q_ci (q_runV (As := [.int (i3 + 1)]) (st := [.int r_2, .ref a0, .int r_2, .ref a_3]) C (c_X5_get l D cA lo h.2) (cwV 1 C.2.2.2.2.1 gX4_addQuarters_X5_get rfl rfl rfl (by decide +kernel) ⟨Nat.le_of_ble_eq_true rfl, Nat.le_of_ble_eq_true rfl⟩) h.1 (by decide) rfl rfl rfl (Nat.le_of_ble_eq_true rfl) dX4_addQuarters_30 ⟨Nat.le_of_ble_eq_true rfl, Nat.le_of_ble_eq_true rfl⟩) (fun r_4 M_z h => ?_)
    refine q_mem h.1 ?_
    have h := h.2
    refine q_ci (q_runV (As := [.int r_2, .int r_4]) (st := [.int r_2, .ref a_3]) C (c_X4_middle l D cA lo h.2) (cwV 2 C.2.2.2.2.1 gX4_addQuarters_X4_middle rfl rfl rfl (by decide +kernel) ⟨Nat.le_of_ble_eq_true rfl, Nat.le_of_ble_eq_true rfl⟩) h.1 (by decide) rfl rfl rfl (Nat.le_of_ble_eq_true rfl) dX4_addQuarters_33 ⟨Nat.le_of_ble_eq_true rfl, Nat.le_of_ble_eq_true rfl⟩) (fun r_5 M_z h => ?_)
    refine q_mem h.1 ?_
    have h := h.2
    refine q_iload_n C dX4_addQuarters_36 rfl (j := 3) rfl ?_
    refine q_aload_n C dX4_addQuarters_37 rfl (j := 1) rfl ?_
    refine q_aload_n C dX4_addQuarters_38 rfl (j := 2) rfl ?_
    refine q_iload_n C dX4_addQuarters_39 rfl (j := 4) rfl ?_
    refine q_iconst (v := 1) C dX4_addQuarters_40 (by decide) ?_
    refine q_isub C dX4_addQuarters_41 ?_
    refine q_ci (q_runV (As := [.int (i3 - 1)]) (st := [.ref a0, .int i2, .int r_5, .int r_2, .ref a_3]) C (c_X5_get l D cA lo h.2) (cwV 1 C.2.2.2.2.1 gX4_addQuarters_X5_get rfl rfl rfl (by decide +kernel) ⟨Nat.le_of_ble_eq_true rfl, Nat.le_of_ble_eq_true rfl⟩) h.1 (by decide) rfl rfl rfl (Nat.le_of_ble_eq_true rfl) dX4_addQuarters_42 ⟨Nat.le_of_ble_eq_true rfl, Nat.le_of_ble_eq_true rfl⟩) (fun r_6 M_z h => ?_)
    refine q_mem h.1 ?_
    have h := h.2
    refine q_iload C dX4_addQuarters_45 (j := 0) rfl ?_
    refine q_ci (q_runV (As := [.int r_6, .int r_2]) (st := [.int i2, .int r_5, .int r_2, .ref a_3]) C (c_X4_middle l D cA lo h.2) (cwV 2 C.2.2.2.2.1 gX4_addQuarters_X4_middle rfl rfl rfl (by decide +kernel) ⟨Nat.le_of_ble_eq_true rfl, Nat.le_of_ble_eq_true rfl⟩) h.1 (by decide) rfl rfl rfl (Nat.le_of_ble_eq_true rfl) dX4_addQuarters_47 ⟨Nat.le_of_ble_eq_true rfl, Nat.le_of_ble_eq_true rfl⟩) (fun r_7 M_z h => ?_)
    refine q_mem h.1 ?_
    have h := h.2
    refine q_cv (q_runV (As := [.int r_2, .int r_5, .int i2, .int r_7]) (st := []) C (c_X5_set l D cA lo h.2) (cwV 4 C.2.2.2.2.1 gX4_addQuarters_X5_set rfl rfl rfl (by decide +kernel) ⟨Nat.le_of_ble_eq_true rfl, Nat.le_of_ble_eq_true rfl⟩) h.1 (by decide) rfl rfl rfl (Nat.le_of_ble_eq_true rfl) dX4_addQuarters_50 ⟨Nat.le_of_ble_eq_true rfl, Nat.le_of_ble_eq_true rfl⟩) (fun M_9 h => ?_)
    refine q_aload_n C dX4_addQuarters_53 rfl (j := 1) rfl ?_
    refine q_getR (ci := 4) (k0 := 1) (T := TX4) C inX4_addQuarters_X4 rfl (by decide) h.1 (by decide) rfl (by decide +kernel) rfl dX4_addQuarters_54 ?_
    obtain ⟨a_10, z, h⟩ := h.2
    refine q_ref z ?_
    refine q_aload_n C dX4_addQuarters_57 rfl (j := 1) rfl ?_
    refine q_getR (ci := 4) (k0 := 4) (T := TX4) C inX4_addQuarters_X4 rfl (by decide) h.1 (by decide) rfl (by decide +kernel) rfl dX4_addQuarters_58 ?_
    obtain ⟨a_11, z, h⟩ := h.2
    refine q_ref z ?_
    refine q_ci (q_runV (As := [.ref a_11]) (st := []) C (c_X1_add l D cA lo h.2) (cwV 1 C.2.2.2.2.1 gX4_addQuarters_X1_add rfl rfl rfl (by decide +kernel) ⟨Nat.le_of_ble_eq_true rfl, Nat.le_of_ble_eq_true rfl⟩) h.1 (by decide) rfl rfl rfl (Nat.le_of_ble_eq_true rfl) dX4_addQuarters_61 ⟨Nat.le_of_ble_eq_true rfl, Nat.le_of_ble_eq_true rfl⟩) (fun r_12 M_13 h => ?_)
    refine q_pop C dX4_addQuarters_64 rfl ?_
    refine q_iinc (v := (i3 + 1)) (lv' := [(3, .int (i3 + 1)), (4, .int r_2), (0, .ref a0), (1, .ref a1), (2, .int i2)]) C dX4_addQuarters_65 (j := 4) rfl rfl (by decide) rfl ?_
    refine q_goto (tgt := 2) C dX4_addQuarters_68 (by decide) ?_
    exact q_sub [2, 3, 4, 0] rfl h
set_option maxRecDepth 100000 in
set_option maxHeartbeats 4000000 in
theorem c_X4_addQuarters (l : Launch) (D : va_G) (cA : Nat → ClassId) (lo : Nat) {M : Mm} {a0 : Nat} {a1 : Nat} {i2 : Int32} {Q : Mm → Prop} (h : T_X4_addQuarters M a0 a1 i2 Q) : Met l yX4_addQuarters wsX4_addQuarters ({ frames := 4, cells := 0, slots := 0, locals := 90 } : Room) (PcM D cA lo [.ref a0, .ref a1, .int i2] M) (QvM D cA lo Q) 0 0 (fun q => lo ≤ q) := by
  refine q_start (cc := cX4_addQuarters) (nL := 5) (ret := none) (by decide) rfl rfl (Nat.le_of_ble_eq_true rfl) ?_
  intro p e s m args below meth c C hr hlk hin
  unfold T_X4_addQuarters at h
  have h := h (fun (a0 : Nat) (a1 : Nat) (i2 : Int32) (i3 : Int32) (M : Mm) => QW p l e ({ frames := 4, cells := 0, slots := 0, locals := 90 } : Room) s m args below meth c (MQ below (QvM D cA lo Q) args s 0 0 (fun q => lo ≤ q)) 5 D cA lo 0 0 M 2 [(0, .ref a0), (1, .ref a1), (2, .int i2), (3, .int i3)] []) (fun a0 a1 i2 i3 M h => b_X4_addQuarters_2 C hr hlk M a0 a1 i2 i3 h)
  refine q_iconst (v := 0) C dX4_addQuarters_0 (by decide) ?_
  refine q_istore_n (lv' := [(3, .int 0), (0, .ref a0), (1, .ref a1), (2, .int i2)]) C dX4_addQuarters_1 rfl (by decide) rfl ?_
  exact q_sub [1, 2, 3, 0] rfl h
def S_X4_apply_18 (K18 : Nat → Int32 → Int32 → Mm → Prop) (Q : Mm → Prop) (M : Mm) (a0 : Nat) (i1 : Int32) (i2 : Int32) : Prop := (i1 ≤ i2 → Q M) ∧ (¬ i1 ≤ i2 → (160 ≤ i2 → Q M) ∧ (¬ 160 ≤ i2 → kM M a0 = (4, 5) ∧ ∃ a_7 : Nat, rM M a0 1 = some a_7 ∧ kM M a_7 = (1, 5) ∧ T_X1_has M a_7 i2 (fun r_8 => (r_8 = 0 → K18 a0 i1 (i2 + 1) M) ∧ (¬ r_8 = 0 → kM M a0 = (4, 5) ∧ ∃ a_9 : Nat, rM M a0 1 = some a_9 ∧ kM M a_9 = (1, 5) ∧ T_X1_ring M a_9 i2 (fun r_10 => kM M a0 = (4, 5) ∧ ∃ a_11 : Nat, rM M a0 3 = some a_11 ∧ ∃ n_12 : Nat, kM M a_11 = (100, n_12) ∧ vp_in i2 n_12 ∧ kM M a0 = (4, 5) ∧ T_X4_addQuarters M a0 r_10 (iM M a_11 i2.toNatClampNeg) (fun M_14 => kM M_14 a0 = (4, 5) ∧ ∃ a_15 : Nat, rM M_14 a0 1 = some a_15 ∧ kM M_14 a_15 = (1, 5) ∧ T_X1_drop M_14 a_15 i2 (fun M_17 => K18 a0 i1 (i2 + 1) M_17)))))))
def T_X4_apply (M : Mm) (a0 : Nat) (Q : Mm → Prop) : Prop := ∀ (K18 : Nat → Int32 → Int32 → Mm → Prop), (∀ (a0 : Nat) (i1 : Int32) (i2 : Int32) (M : Mm), S_X4_apply_18 K18 Q M a0 i1 i2 → K18 a0 i1 i2 M) → kM M a0 = (4, 5) ∧ ∃ a_1 : Nat, rM M a0 1 = some a_1 ∧ kM M a_1 = (1, 5) ∧ T_X1_ever M a_1 (fun r_2 => kM M a0 = (4, 5) ∧ T_X4_addMiddles M a0 (fun M_4 => kM M_4 a0 = (4, 5) ∧ T_X4_addCentres M_4 a0 (fun M_6 => K18 a0 r_2 0 M_6)))
theorem inX4_apply_X4 : ∀ w ∈ wsX40, w ∈ wsX4_apply := by decide +kernel
set_option maxRecDepth 100000 in
set_option maxHeartbeats 4000000 in
theorem b_X4_apply_18 {p : Program} {l : Launch} {e : Env} {s : State} {m : MethodId} {args : Array Value} {below : List Frame} {meth : Method} {c : Code} {D : va_G} {cA : Nat → ClassId} {lo : Nat} (C : Cx p s m args c cX4_apply 3 RX4 wsX4_apply D cA lo) (hr : meth.sig.returnType = none) (hlk : meth.locks = false) {Q : Mm → Prop} (M : Mm) (a0 : Nat) (i1 : Int32) (i2 : Int32) (h : S_X4_apply_18 (fun (a0 : Nat) (i1 : Int32) (i2 : Int32) (M : Mm) => QW p l e ({ frames := 5, cells := 0, slots := 0, locals := 114 } : Room) s m args below meth c (MQ below (QvM D cA lo Q) args s 0 0 (fun q => lo ≤ q)) 3 D cA lo 0 0 M 18 [(0, .ref a0), (1, .int i1), (2, .int i2)] []) Q M a0 i1 i2) : QW p l e ({ frames := 5, cells := 0, slots := 0, locals := 114 } : Room) s m args below meth c (MQ below (QvM D cA lo Q) args s 0 0 (fun q => lo ≤ q)) 3 D cA lo 0 0 M 18 [(0, .ref a0), (1, .int i1), (2, .int i2)] [] := by
  unfold S_X4_apply_18 at h
  refine q_iload_n C dX4_apply_18 rfl (j := 2) rfl ?_
  refine q_iload_n C dX4_apply_19 rfl (j := 1) rfl ?_
  refine q_icmp_ge (tgt := 73) C dX4_apply_20 (by decide) (fun z => ?_) (fun z => ?_)
  · have h := h.1 z
    exact q_vret C hr hlk dX4_apply_73 (Nat.le_of_ble_eq_true rfl) (Nat.le_of_ble_eq_true rfl) h
  · have h := h.2 z
    refine q_iload_n C dX4_apply_23 rfl (j := 2) rfl ?_
    refine q_sipush (v := 160) C dX4_apply_24 (by decide) ?_
    refine q_icmp_ge (tgt := 73) C dX4_apply_27 (by decide) (fun z => ?_) (fun z => ?_)
    · have h := h.1 z
      exact q_vret C hr hlk dX4_apply_73 (Nat.le_of_ble_eq_true rfl) (Nat.le_of_ble_eq_true rfl) h
    · have h := h.2 z
      refine q_aload_n C dX4_apply_30 rfl (j := 0) rfl ?_
      refine q_getR (ci := 4) (k0 := 1) (T := TX4) C inX4_apply_X4 rfl (by decide) h.1 (by decide) rfl (by decide +kernel) rfl dX4_apply_31 ?_
      obtain ⟨a_7, z, h⟩ := h.2
      refine q_ref z ?_
      refine q_iload_n C dX4_apply_34 rfl (j := 2) rfl ?_
      refine q_ci (q_runV (As := [.int i2]) (st := []) C (c_X1_has l D cA lo h.2) (cwV 1 C.2.2.2.2.1 gX4_apply_X1_has rfl rfl rfl (by decide +kernel) ⟨Nat.le_of_ble_eq_true rfl, Nat.le_of_ble_eq_true rfl⟩) h.1 (by decide) rfl rfl rfl (Nat.le_of_ble_eq_true rfl) dX4_apply_35 ⟨Nat.le_of_ble_eq_true rfl, Nat.le_of_ble_eq_true rfl⟩) (fun r_8 M_z h => ?_)
      refine q_mem h.1 ?_
      have h := h.2
      refine q_if_eq (tgt := 67) C dX4_apply_38 (by decide) (fun z => ?_) (fun z => ?_)
      · have h := h.1 z
        refine q_iinc (v := (i2 + 1)) (lv' := [(2, .int (i2 + 1)), (0, .ref a0), (1, .int i1)]) C dX4_apply_67 (j := 2) rfl rfl (by decide) rfl ?_
        refine q_goto (tgt := 18) C dX4_apply_70 (by decide) ?_
        exact q_sub [1, 2, 0] rfl h
      · have h := h.2 z
        refine q_aload_n C dX4_apply_41 rfl (j := 0) rfl ?_
        refine q_aload_n C dX4_apply_42 rfl (j := 0) rfl ?_
        refine q_getR (ci := 4) (k0 := 1) (T := TX4) C inX4_apply_X4 rfl (by decide) h.1 (by decide) rfl (by decide +kernel) rfl dX4_apply_43 ?_
        obtain ⟨a_9, z, h⟩ := h.2
        refine q_ref z ?_
        refine q_iload_n C dX4_apply_46 rfl (j := 2) rfl ?_
        refine q_cr (q_runV (As := [.int i2]) (st := [.ref a0]) C (c_X1_ring l D cA lo h.2) (cwV 1 C.2.2.2.2.1 gX4_apply_X1_ring rfl rfl rfl (by decide +kernel) ⟨Nat.le_of_ble_eq_true rfl, Nat.le_of_ble_eq_true rfl⟩) h.1 (by decide) rfl rfl rfl (Nat.le_of_ble_eq_true rfl) dX4_apply_47 ⟨Nat.le_of_ble_eq_true rfl, Nat.le_of_ble_eq_true rfl⟩) (fun r_10 M_z h => ?_)
        refine q_mem h.1 ?_
        have h := h.2
        refine q_aload_n C dX4_apply_50 rfl (j := 0) rfl ?_
        refine q_getR (ci := 4) (k0 := 3) (T := TX4) C inX4_apply_X4 rfl (by decide) h.1 (by decide) rfl (by decide +kernel) rfl dX4_apply_51 ?_
        obtain ⟨a_11, z, h⟩ := h.2
        refine q_ref z ?_
        refine q_iload_n C dX4_apply_54 rfl (j := 2) rfl ?_
        obtain ⟨n_12, z1, z2, h⟩ := h
        refine q_iald C z1 z2 dX4_apply_55 ?_
        refine q_cv (q_runV (As := [.ref r_10, .int (iM M a_11 i2.toNatClampNeg)]) (st := []) C (c_X4_addQuarters l D cA lo h.2) (cwV 2 C.2.2.2.2.1 gX4_apply_X4_addQuarters rfl rfl rfl (by decide +kernel) ⟨Nat.le_of_ble_eq_true rfl, Nat.le_of_ble_eq_true rfl⟩) h.1 (by decide) rfl rfl rfl (Nat.le_of_ble_eq_true rfl) dX4_apply_56 ⟨Nat.le_of_ble_eq_true rfl, Nat.le_of_ble_eq_true rfl⟩) (fun M_14 h => ?_)
        refine q_aload_n C dX4_apply_59 rfl (j := 0) rfl ?_
        refine q_getR (ci := 4) (k0 := 1) (T := TX4) C inX4_apply_X4 rfl (by decide) h.1 (by decide) rfl (by decide +kernel) rfl dX4_apply_60 ?_
        obtain ⟨a_15, z, h⟩ := h.2
        refine q_ref z ?_
        refine q_iload_n C dX4_apply_63 rfl (j := 2) rfl ?_
        refine q_cv (q_runV (As := [.int i2]) (st := []) C (c_X1_drop l D cA lo h.2) (cwV 1 C.2.2.2.2.1 gX4_apply_X1_drop rfl rfl rfl (by decide +kernel) ⟨Nat.le_of_ble_eq_true rfl, Nat.le_of_ble_eq_true rfl⟩) h.1 (by decide) rfl rfl rfl (Nat.le_of_ble_eq_true rfl) dX4_apply_64 ⟨Nat.le_of_ble_eq_true rfl, Nat.le_of_ble_eq_true rfl⟩) (fun M_17 h => ?_)
        refine q_iinc (v := (i2 + 1)) (lv' := [(2, .int (i2 + 1)), (0, .ref a0), (1, .int i1)]) C dX4_apply_67 (j := 2) rfl rfl (by decide) rfl ?_
        refine q_goto (tgt := 18) C dX4_apply_70 (by decide) ?_
        exact q_sub [1, 2, 0] rfl h
set_option maxRecDepth 100000 in
set_option maxHeartbeats 4000000 in
theorem c_X4_apply (l : Launch) (D : va_G) (cA : Nat → ClassId) (lo : Nat) {M : Mm} {a0 : Nat} {Q : Mm → Prop} (h : T_X4_apply M a0 Q) : Met l yX4_apply wsX4_apply ({ frames := 5, cells := 0, slots := 0, locals := 114 } : Room) (PcM D cA lo [.ref a0] M) (QvM D cA lo Q) 0 0 (fun q => lo ≤ q) := by
  refine q_start (cc := cX4_apply) (nL := 3) (ret := none) (by decide) rfl rfl (Nat.le_of_ble_eq_true rfl) ?_
  intro p e s m args below meth c C hr hlk hin
  unfold T_X4_apply at h
  have h := h (fun (a0 : Nat) (i1 : Int32) (i2 : Int32) (M : Mm) => QW p l e ({ frames := 5, cells := 0, slots := 0, locals := 114 } : Room) s m args below meth c (MQ below (QvM D cA lo Q) args s 0 0 (fun q => lo ≤ q)) 3 D cA lo 0 0 M 18 [(0, .ref a0), (1, .int i1), (2, .int i2)] []) (fun a0 i1 i2 M h => b_X4_apply_18 C hr hlk M a0 i1 i2 h)
  refine q_aload_n C dX4_apply_0 rfl (j := 0) rfl ?_
  refine q_getR (ci := 4) (k0 := 1) (T := TX4) C inX4_apply_X4 rfl (by decide) h.1 (by decide) rfl (by decide +kernel) rfl dX4_apply_1 ?_
  obtain ⟨a_1, z, h⟩ := h.2
  refine q_ref z ?_
  refine q_ci (q_runV (As := []) (st := []) C (c_X1_ever l D cA lo h.2) (cwV 0 C.2.2.2.2.1 gX4_apply_X1_ever rfl rfl rfl (by decide +kernel) ⟨Nat.le_of_ble_eq_true rfl, Nat.le_of_ble_eq_true rfl⟩) h.1 (by decide) rfl rfl rfl (Nat.le_of_ble_eq_true rfl) dX4_apply_4 ⟨Nat.le_of_ble_eq_true rfl, Nat.le_of_ble_eq_true rfl⟩) (fun r_2 M_z h => ?_)
  refine q_mem h.1 ?_
  have h := h.2
  refine q_istore_n (lv' := [(1, .int r_2), (0, .ref a0)]) C dX4_apply_7 rfl (by decide) rfl ?_
  refine q_aload_n C dX4_apply_8 rfl (j := 1) rfl ?_
  refine q_cv (q_runV (As := []) (st := []) C (c_X4_addMiddles l D cA lo h.2) (cwV 0 C.2.2.2.2.1 gX4_apply_X4_addMiddles rfl rfl rfl (by decide +kernel) ⟨Nat.le_of_ble_eq_true rfl, Nat.le_of_ble_eq_true rfl⟩) h.1 (by decide) rfl rfl rfl (Nat.le_of_ble_eq_true rfl) dX4_apply_9 ⟨Nat.le_of_ble_eq_true rfl, Nat.le_of_ble_eq_true rfl⟩) (fun M_4 h => ?_)
  refine q_aload_n C dX4_apply_12 rfl (j := 1) rfl ?_
  refine q_cv (q_runV (As := []) (st := []) C (c_X4_addCentres l D cA lo h.2) (cwV 0 C.2.2.2.2.1 gX4_apply_X4_addCentres rfl rfl rfl (by decide +kernel) ⟨Nat.le_of_ble_eq_true rfl, Nat.le_of_ble_eq_true rfl⟩) h.1 (by decide) rfl rfl rfl (Nat.le_of_ble_eq_true rfl) dX4_apply_13 ⟨Nat.le_of_ble_eq_true rfl, Nat.le_of_ble_eq_true rfl⟩) (fun M_6 h => ?_)
  refine q_iconst (v := 0) C dX4_apply_16 (by decide) ?_
  refine q_istore_n (lv' := [(2, .int 0), (1, .int r_2), (0, .ref a0)]) C dX4_apply_17 rfl (by decide) rfl ?_
  exact q_sub [2, 1, 0] rfl h
def S_X5_hasTwice_2 (K2 : Nat → Int32 → Prop) (Q : Int32 → Prop) (M : Mm) (a0 : Nat) (i1 : Int32) : Prop := kM M a0 = (5, 2) ∧ ((iM M a0 1) ≤ i1 → Q 0) ∧ (¬ (iM M a0 1) ≤ i1 → kM M a0 = (5, 2) ∧ ∃ a_1 : Nat, rM M a0 0 = some a_1 ∧ ∃ n_2 : Nat, kM M a_1 = (100, n_2) ∧ vp_in i1 n_2 ∧ kM M a0 = (5, 2) ∧ T_X5_placeOf M a0 (iM M a_1 i1.toNatClampNeg) (fun r_3 => (r_3 = i1 → K2 a0 (i1 + 1)) ∧ (¬ r_3 = i1 → Q 1)))
def T_X5_hasTwice (M : Mm) (a0 : Nat) (Q : Int32 → Prop) : Prop := ∀ (K2 : Nat → Int32 → Prop), (∀ (a0 : Nat) (i1 : Int32), S_X5_hasTwice_2 K2 Q M a0 i1 → K2 a0 i1) → K2 a0 0
theorem inX5_hasTwice_X5 : ∀ w ∈ wsX50, w ∈ wsX5_hasTwice := by decide +kernel
set_option maxRecDepth 100000 in
set_option maxHeartbeats 4000000 in
theorem b_X5_hasTwice_2 {p : Program} {l : Launch} {e : Env} {s : State} {m : MethodId} {args : Array Value} {below : List Frame} {meth : Method} {c : Code} {D : va_G} {cA : Nat → ClassId} {lo : Nat} (C : Cx p s m args c cX5_hasTwice 2 RX5 wsX5_hasTwice D cA lo) (hr : meth.sig.returnType = (some .boolean)) (hlk : meth.locks = false) {Q : Int32 → Prop} {M : Mm} (a0 : Nat) (i1 : Int32) (h : S_X5_hasTwice_2 (fun (a0 : Nat) (i1 : Int32) => QW p l e ({ frames := 1, cells := 0, slots := 0, locals := 22 } : Room) s m args below meth c (MQ below (QiM D cA lo (fun r M1 => M1 = M ∧ Q r)) args s 0 0 (fun q => lo ≤ q)) 2 D cA lo 0 0 M 2 [(0, .ref a0), (1, .int i1)] []) Q M a0 i1) : QW p l e ({ frames := 1, cells := 0, slots := 0, locals := 22 } : Room) s m args below meth c (MQ below (QiM D cA lo (fun r M1 => M1 = M ∧ Q r)) args s 0 0 (fun q => lo ≤ q)) 2 D cA lo 0 0 M 2 [(0, .ref a0), (1, .int i1)] [] := by
  unfold S_X5_hasTwice_2 at h
  refine q_iload_n C dX5_hasTwice_2 rfl (j := 1) rfl ?_
  refine q_aload_n C dX5_hasTwice_3 rfl (j := 0) rfl ?_
  refine q_getI (ci := 5) (k0 := 1) (T := TX5) C inX5_hasTwice_X5 rfl (by decide) h.1 (by decide) rfl (by decide +kernel) rfl dX5_hasTwice_4 ?_
  have h := h.2
  refine q_icmp_ge (tgt := 32) C dX5_hasTwice_7 (by decide) (fun z => ?_) (fun z => ?_)
  · have h := h.1 z
    refine q_iconst (v := 0) C dX5_hasTwice_32 (by decide) ?_
    exact q_zret C hr hlk dX5_hasTwice_33 (Nat.le_of_ble_eq_true rfl) (Nat.le_of_ble_eq_true rfl) (Or.inl rfl) ⟨rfl, h⟩
  · have h := h.2 z
    refine q_aload_n C dX5_hasTwice_10 rfl (j := 0) rfl ?_
    refine q_aload_n C dX5_hasTwice_11 rfl (j := 0) rfl ?_
    refine q_getR (ci := 5) (k0 := 0) (T := TX5) C inX5_hasTwice_X5 rfl (by decide) h.1 (by decide) rfl (by decide +kernel) rfl dX5_hasTwice_12 ?_
    obtain ⟨a_1, z, h⟩ := h.2
    refine q_ref z ?_
    refine q_iload_n C dX5_hasTwice_15 rfl (j := 1) rfl ?_
    obtain ⟨n_2, z1, z2, h⟩ := h
    refine q_iald C z1 z2 dX5_hasTwice_16 ?_
    refine q_ci (q_runV (As := [.int (iM M a_1 i1.toNatClampNeg)]) (st := []) C (c_X5_placeOf l D cA lo h.2) (cwV 1 C.2.2.2.2.1 gX5_hasTwice_X5_placeOf rfl rfl rfl (by decide +kernel) ⟨Nat.le_of_ble_eq_true rfl, Nat.le_of_ble_eq_true rfl⟩) h.1 (by decide) rfl rfl rfl (Nat.le_of_ble_eq_true rfl) dX5_hasTwice_17 ⟨Nat.le_of_ble_eq_true rfl, Nat.le_of_ble_eq_true rfl⟩) (fun r_3 M_z h => ?_)
    refine q_mem h.1 ?_
    have h := h.2
    refine q_iload_n C dX5_hasTwice_20 rfl (j := 1) rfl ?_
    refine q_icmp_eq (tgt := 26) C dX5_hasTwice_21 (by decide) (fun z => ?_) (fun z => ?_)
    · have h := h.1 z
      refine q_iinc (v := (i1 + 1)) (lv' := [(1, .int (i1 + 1)), (0, .ref a0)]) C dX5_hasTwice_26 (j := 1) rfl rfl (by decide) rfl ?_
      refine q_goto (tgt := 2) C dX5_hasTwice_29 (by decide) ?_
      exact q_sub [1, 0] rfl h
    · have h := h.2 z
      refine q_iconst (v := 1) C dX5_hasTwice_24 (by decide) ?_
      exact q_zret C hr hlk dX5_hasTwice_25 (Nat.le_of_ble_eq_true rfl) (Nat.le_of_ble_eq_true rfl) (Or.inr rfl) ⟨rfl, h⟩
set_option maxRecDepth 100000 in
set_option maxHeartbeats 4000000 in
theorem c_X5_hasTwice (l : Launch) (D : va_G) (cA : Nat → ClassId) (lo : Nat) {M : Mm} {a0 : Nat} {Q : Int32 → Prop} (h : T_X5_hasTwice M a0 Q) : Met l yX5_hasTwice wsX5_hasTwice ({ frames := 1, cells := 0, slots := 0, locals := 22 } : Room) (PcM D cA lo [.ref a0] M) (QiM D cA lo (fun r M1 => M1 = M ∧ Q r)) 0 0 (fun q => lo ≤ q) := by
  refine q_start (cc := cX5_hasTwice) (nL := 2) (ret := (some .boolean)) (by decide) rfl rfl (Nat.le_of_ble_eq_true rfl) ?_
  intro p e s m args below meth c C hr hlk hin
  unfold T_X5_hasTwice at h
  have h := h (fun (a0 : Nat) (i1 : Int32) => QW p l e ({ frames := 1, cells := 0, slots := 0, locals := 22 } : Room) s m args below meth c (MQ below (QiM D cA lo (fun r M1 => M1 = M ∧ Q r)) args s 0 0 (fun q => lo ≤ q)) 2 D cA lo 0 0 M 2 [(0, .ref a0), (1, .int i1)] []) (fun a0 i1 h => b_X5_hasTwice_2 C hr hlk a0 i1 h)
  refine q_iconst (v := 0) C dX5_hasTwice_0 (by decide) ?_
  refine q_istore_n (lv' := [(1, .int 0), (0, .ref a0)]) C dX5_hasTwice_1 rfl (by decide) rfl ?_
  exact q_sub [1, 0] rfl h
def S_X5_addStretch_3 (K3 : Nat → Nat → Int32 → Int32 → Int32 → Mm → Prop) (Q : Mm → Prop) (M : Mm) (a0 : Nat) (a1 : Nat) (i2 : Int32) (i3 : Int32) (i4 : Int32) : Prop := (i3 ≤ i4 → Q M) ∧ (¬ i3 ≤ i4 → kM M a1 = (5, 2) ∧ T_X5_get M a1 (i2 + i4) (fun r_1 => kM M a0 = (5, 2) ∧ T_X5_add M a0 r_1 (fun M_3 => K3 a0 a1 i2 i3 (i4 + 1) M_3)))
def T_X5_addStretch (M : Mm) (a0 : Nat) (a1 : Nat) (i2 : Int32) (i3 : Int32) (Q : Mm → Prop) : Prop := ∀ (K3 : Nat → Nat → Int32 → Int32 → Int32 → Mm → Prop), (∀ (a0 : Nat) (a1 : Nat) (i2 : Int32) (i3 : Int32) (i4 : Int32) (M : Mm), S_X5_addStretch_3 K3 Q M a0 a1 i2 i3 i4 → K3 a0 a1 i2 i3 i4 M) → K3 a0 a1 i2 i3 0 M
set_option maxRecDepth 100000 in
set_option maxHeartbeats 4000000 in
theorem b_X5_addStretch_3 {p : Program} {l : Launch} {e : Env} {s : State} {m : MethodId} {args : Array Value} {below : List Frame} {meth : Method} {c : Code} {D : va_G} {cA : Nat → ClassId} {lo : Nat} (C : Cx p s m args c cX5_addStretch 5 RX5 wsX5_addStretch D cA lo) (hr : meth.sig.returnType = none) (hlk : meth.locks = false) {Q : Mm → Prop} (M : Mm) (a0 : Nat) (a1 : Nat) (i2 : Int32) (i3 : Int32) (i4 : Int32) (h : S_X5_addStretch_3 (fun (a0 : Nat) (a1 : Nat) (i2 : Int32) (i3 : Int32) (i4 : Int32) (M : Mm) => QW p l e ({ frames := 1, cells := 0, slots := 0, locals := 22 } : Room) s m args below meth c (MQ below (QvM D cA lo Q) args s 0 0 (fun q => lo ≤ q)) 5 D cA lo 0 0 M 3 [(0, .ref a0), (1, .ref a1), (2, .int i2), (3, .int i3), (4, .int i4)] []) Q M a0 a1 i2 i3 i4) : QW p l e ({ frames := 1, cells := 0, slots := 0, locals := 22 } : Room) s m args below meth c (MQ below (QvM D cA lo Q) args s 0 0 (fun q => lo ≤ q)) 5 D cA lo 0 0 M 3 [(0, .ref a0), (1, .ref a1), (2, .int i2), (3, .int i3), (4, .int i4)] [] := by
  unfold S_X5_addStretch_3 at h
  refine q_iload C dX5_addStretch_3 (j := 4) rfl ?_
  refine q_iload_n C dX5_addStretch_5 rfl (j := 3) rfl ?_
  refine q_icmp_ge (tgt := 27) C dX5_addStretch_6 (by decide) (fun z => ?_) (fun z => ?_)
  · have h := h.1 z
    exact q_vret C hr hlk dX5_addStretch_27 (Nat.le_of_ble_eq_true rfl) (Nat.le_of_ble_eq_true rfl) h
  · have h := h.2 z
    refine q_aload_n C dX5_addStretch_9 rfl (j := 0) rfl ?_
    refine q_aload_n C dX5_addStretch_10 rfl (j := 1) rfl ?_
    refine q_iload_n C dX5_addStretch_11 rfl (j := 2) rfl ?_
    refine q_iload C dX5_addStretch_12 (j := 4) rfl ?_
    refine q_iadd C dX5_addStretch_14 ?_
    refine q_ci (q_runV (As := [.int (i2 + i4)]) (st := [.ref a0]) C (c_X5_get l D cA lo h.2) (cwV 1 C.2.2.2.2.1 gX5_addStretch_X5_get rfl rfl rfl (by decide +kernel) ⟨Nat.le_of_ble_eq_true rfl, Nat.le_of_ble_eq_true rfl⟩) h.1 (by decide) rfl rfl rfl (Nat.le_of_ble_eq_true rfl) dX5_addStretch_15 ⟨Nat.le_of_ble_eq_true rfl, Nat.le_of_ble_eq_true rfl⟩) (fun r_1 M_z h => ?_)
    refine q_mem h.1 ?_
    have h := h.2
    refine q_cv (q_runV (As := [.int r_1]) (st := []) C (c_X5_add l D cA lo h.2) (cwV 1 C.2.2.2.2.1 gX5_addStretch_X5_add rfl rfl rfl (by decide +kernel) ⟨Nat.le_of_ble_eq_true rfl, Nat.le_of_ble_eq_true rfl⟩) h.1 (by decide) rfl rfl rfl (Nat.le_of_ble_eq_true rfl) dX5_addStretch_18 ⟨Nat.le_of_ble_eq_true rfl, Nat.le_of_ble_eq_true rfl⟩) (fun M_3 h => ?_)
    refine q_iinc (v := (i4 + 1)) (lv' := [(4, .int (i4 + 1)), (0, .ref a0), (1, .ref a1), (2, .int i2), (3, .int i3)]) C dX5_addStretch_21 (j := 4) rfl rfl (by decide) rfl ?_
    refine q_goto (tgt := 3) C dX5_addStretch_24 (by decide) ?_
    exact q_sub [1, 2, 3, 4, 0] rfl h
set_option maxRecDepth 100000 in
set_option maxHeartbeats 4000000 in
theorem c_X5_addStretch (l : Launch) (D : va_G) (cA : Nat → ClassId) (lo : Nat) {M : Mm} {a0 : Nat} {a1 : Nat} {i2 : Int32} {i3 : Int32} {Q : Mm → Prop} (h : T_X5_addStretch M a0 a1 i2 i3 Q) : Met l yX5_addStretch wsX5_addStretch ({ frames := 1, cells := 0, slots := 0, locals := 22 } : Room) (PcM D cA lo [.ref a0, .ref a1, .int i2, .int i3] M) (QvM D cA lo Q) 0 0 (fun q => lo ≤ q) := by
  refine q_start (cc := cX5_addStretch) (nL := 5) (ret := none) (by decide) rfl rfl (Nat.le_of_ble_eq_true rfl) ?_
  intro p e s m args below meth c C hr hlk hin
  unfold T_X5_addStretch at h
  have h := h (fun (a0 : Nat) (a1 : Nat) (i2 : Int32) (i3 : Int32) (i4 : Int32) (M : Mm) => QW p l e ({ frames := 1, cells := 0, slots := 0, locals := 22 } : Room) s m args below meth c (MQ below (QvM D cA lo Q) args s 0 0 (fun q => lo ≤ q)) 5 D cA lo 0 0 M 3 [(0, .ref a0), (1, .ref a1), (2, .int i2), (3, .int i3), (4, .int i4)] []) (fun a0 a1 i2 i3 i4 M h => b_X5_addStretch_3 C hr hlk M a0 a1 i2 i3 i4 h)
  refine q_iconst (v := 0) C dX5_addStretch_0 (by decide) ?_
  refine q_istore (lv' := [(4, .int 0), (0, .ref a0), (1, .ref a1), (2, .int i2), (3, .int i3)]) C dX5_addStretch_1 (by decide) rfl ?_
  exact q_sub [1, 2, 3, 4, 0] rfl h
def S_X5_copyBackwards_6 (K6 : Nat → Nat → Int32 → Mm → Prop) (Q : Mm → Prop) (M : Mm) (a0 : Nat) (a1 : Nat) (i2 : Int32) : Prop := kM M a1 = (5, 2) ∧ T_X5_length M a1 (fun r_3 => (r_3 ≤ i2 → Q M) ∧ (¬ r_3 ≤ i2 → kM M a1 = (5, 2) ∧ T_X5_get M a1 (-i2) (fun r_4 => kM M a0 = (5, 2) ∧ T_X5_add M a0 r_4 (fun M_6 => K6 a0 a1 (i2 + 1) M_6))))
def T_X5_copyBackwards (M : Mm) (a0 : Nat) (a1 : Nat) (Q : Mm → Prop) : Prop := ∀ (K6 : Nat → Nat → Int32 → Mm → Prop), (∀ (a0 : Nat) (a1 : Nat) (i2 : Int32) (M : Mm), S_X5_copyBackwards_6 K6 Q M a0 a1 i2 → K6 a0 a1 i2 M) → kM M a0 = (5, 2) ∧ T_X5_clear M a0 (fun M_2 => K6 a0 a1 0 M_2)
set_option maxRecDepth 100000 in
set_option maxHeartbeats 4000000 in
theorem b_X5_copyBackwards_6 {p : Program} {l : Launch} {e : Env} {s : State} {m : MethodId} {args : Array Value} {below : List Frame} {meth : Method} {c : Code} {D : va_G} {cA : Nat → ClassId} {lo : Nat} (C : Cx p s m args c cX5_copyBackwards 3 RX5 wsX5_copyBackwards D cA lo) (hr : meth.sig.returnType = none) (hlk : meth.locks = false) {Q : Mm → Prop} (M : Mm) (a0 : Nat) (a1 : Nat) (i2 : Int32) (h : S_X5_copyBackwards_6 (fun (a0 : Nat) (a1 : Nat) (i2 : Int32) (M : Mm) => QW p l e ({ frames := 1, cells := 0, slots := 0, locals := 22 } : Room) s m args below meth c (MQ below (QvM D cA lo Q) args s 0 0 (fun q => lo ≤ q)) 3 D cA lo 0 0 M 6 [(0, .ref a0), (1, .ref a1), (2, .int i2)] []) Q M a0 a1 i2) : QW p l e ({ frames := 1, cells := 0, slots := 0, locals := 22 } : Room) s m args below meth c (MQ below (QvM D cA lo Q) args s 0 0 (fun q => lo ≤ q)) 3 D cA lo 0 0 M 6 [(0, .ref a0), (1, .ref a1), (2, .int i2)] [] := by
  unfold S_X5_copyBackwards_6 at h
  refine q_iload_n C dX5_copyBackwards_6 rfl (j := 2) rfl ?_
  refine q_aload_n C dX5_copyBackwards_7 rfl (j := 1) rfl ?_
  refine q_ci (q_runV (As := []) (st := [.int i2]) C (c_X5_length l D cA lo h.2) (cwV 0 C.2.2.2.2.1 gX5_copyBackwards_X5_length rfl rfl rfl (by decide +kernel) ⟨Nat.le_of_ble_eq_true rfl, Nat.le_of_ble_eq_true rfl⟩) h.1 (by decide) rfl rfl rfl (Nat.le_of_ble_eq_true rfl) dX5_copyBackwards_8 ⟨Nat.le_of_ble_eq_true rfl, Nat.le_of_ble_eq_true rfl⟩) (fun r_3 M_z h => ?_)
  refine q_mem h.1 ?_
  have h := h.2
  refine q_icmp_ge (tgt := 30) C dX5_copyBackwards_11 (by decide) (fun z => ?_) (fun z => ?_)
  · have h := h.1 z
    exact q_vret C hr hlk dX5_copyBackwards_30 (Nat.le_of_ble_eq_true rfl) (Nat.le_of_ble_eq_true rfl) h
  · have h := h.2 z
    refine q_aload_n C dX5_copyBackwards_14 rfl (j := 0) rfl ?_
    refine q_aload_n C dX5_copyBackwards_15 rfl (j := 1) rfl ?_
    refine q_iload_n C dX5_copyBackwards_16 rfl (j := 2) rfl ?_
    refine q_ineg C dX5_copyBackwards_17 ?_
    refine q_ci (q_runV (As := [.int (-i2)]) (st := [.ref a0]) C (c_X5_get l D cA lo h.2) (cwV 1 C.2.2.2.2.1 gX5_copyBackwards_X5_get rfl rfl rfl (by decide +kernel) ⟨Nat.le_of_ble_eq_true rfl, Nat.le_of_ble_eq_true rfl⟩) h.1 (by decide) rfl rfl rfl (Nat.le_of_ble_eq_true rfl) dX5_copyBackwards_18 ⟨Nat.le_of_ble_eq_true rfl, Nat.le_of_ble_eq_true rfl⟩) (fun r_4 M_z h => ?_)
    refine q_mem h.1 ?_
    have h := h.2
    refine q_cv (q_runV (As := [.int r_4]) (st := []) C (c_X5_add l D cA lo h.2) (cwV 1 C.2.2.2.2.1 gX5_copyBackwards_X5_add rfl rfl rfl (by decide +kernel) ⟨Nat.le_of_ble_eq_true rfl, Nat.le_of_ble_eq_true rfl⟩) h.1 (by decide) rfl rfl rfl (Nat.le_of_ble_eq_true rfl) dX5_copyBackwards_21 ⟨Nat.le_of_ble_eq_true rfl, Nat.le_of_ble_eq_true rfl⟩) (fun M_6 h => ?_)
    refine q_iinc (v := (i2 + 1)) (lv' := [(2, .int (i2 + 1)), (0, .ref a0), (1, .ref a1)]) C dX5_copyBackwards_24 (j := 2) rfl rfl (by decide) rfl ?_
    refine q_goto (tgt := 6) C dX5_copyBackwards_27 (by decide) ?_
    exact q_sub [1, 2, 0] rfl h
set_option maxRecDepth 100000 in
set_option maxHeartbeats 4000000 in
theorem c_X5_copyBackwards (l : Launch) (D : va_G) (cA : Nat → ClassId) (lo : Nat) {M : Mm} {a0 : Nat} {a1 : Nat} {Q : Mm → Prop} (h : T_X5_copyBackwards M a0 a1 Q) : Met l yX5_copyBackwards wsX5_copyBackwards ({ frames := 1, cells := 0, slots := 0, locals := 22 } : Room) (PcM D cA lo [.ref a0, .ref a1] M) (QvM D cA lo Q) 0 0 (fun q => lo ≤ q) := by
  refine q_start (cc := cX5_copyBackwards) (nL := 3) (ret := none) (by decide) rfl rfl (Nat.le_of_ble_eq_true rfl) ?_
  intro p e s m args below meth c C hr hlk hin
  unfold T_X5_copyBackwards at h
  have h := h (fun (a0 : Nat) (a1 : Nat) (i2 : Int32) (M : Mm) => QW p l e ({ frames := 1, cells := 0, slots := 0, locals := 22 } : Room) s m args below meth c (MQ below (QvM D cA lo Q) args s 0 0 (fun q => lo ≤ q)) 3 D cA lo 0 0 M 6 [(0, .ref a0), (1, .ref a1), (2, .int i2)] []) (fun a0 a1 i2 M h => b_X5_copyBackwards_6 C hr hlk M a0 a1 i2 h)
  refine q_aload_n C dX5_copyBackwards_0 rfl (j := 0) rfl ?_
  refine q_cv (q_runV (As := []) (st := []) C (c_X5_clear l D cA lo h.2) (cwV 0 C.2.2.2.2.1 gX5_copyBackwards_X5_clear rfl rfl rfl (by decide +kernel) ⟨Nat.le_of_ble_eq_true rfl, Nat.le_of_ble_eq_true rfl⟩) h.1 (by decide) rfl rfl rfl (Nat.le_of_ble_eq_true rfl) dX5_copyBackwards_1 ⟨Nat.le_of_ble_eq_true rfl, Nat.le_of_ble_eq_true rfl⟩) (fun M_2 h => ?_)
  refine q_iconst (v := 0) C dX5_copyBackwards_4 (by decide) ?_
  refine q_istore_n (lv' := [(2, .int 0), (0, .ref a0), (1, .ref a1)]) C dX5_copyBackwards_5 rfl (by decide) rfl ?_
  exact q_sub [1, 2, 0] rfl h
def T_X6_init (Cc Zz : Nat) (M : Mm) (a0 : Nat) (a1 : Nat) (a2 : Nat) (Q : Mm → Prop) : Prop := 0 + 4 ≤ Cc ∧ 0 + 303 ≤ Zz ∧ ∀ q_1 : Nat, frs M q_1 → kM (wG M q_1 121 100 3 100) a0 = (6, 3) ∧ kM (wR (wG M q_1 121 100 3 100) a0 2 (some q_1)) a0 = (6, 3) ∧ kM (wR (wR (wG M q_1 121 100 3 100) a0 2 (some q_1)) a0 0 (some a1)) a0 = (6, 3) ∧ (0 + 1 + 3) ≤ Cc ∧ (0 + 3 + 300) ≤ Zz ∧ Q (wR (wR (wR (wG M q_1 121 100 3 100) a0 2 (some q_1)) a0 0 (some a1)) a0 1 (some a2))
theorem inX6_init_X6 : ∀ w ∈ wsX60, w ∈ wsX6_init := by decide +kernel
set_option maxRecDepth 100000 in
set_option maxHeartbeats 4000000 in
theorem c_X6_init (l : Launch) (D : va_G) (cA : Nat → ClassId) (lo : Nat) {M : Mm} {a0 : Nat} {a1 : Nat} {a2 : Nat} {Cc Zz : Nat} {Q : Mm → Prop} (h : T_X6_init Cc Zz M a0 a1 a2 Q) : Met l yX6_init wsX6_init ({ frames := 1, cells := Cc, slots := Zz, locals := 20 } : Room) (PcM D cA lo [.ref a0, .ref a1, .ref a2] M) (QvM D cA lo Q) Cc Zz (fun q => lo ≤ q) := by
  refine q_start (cc := cX6_init) (nL := 3) (ret := none) (by decide) rfl rfl (Nat.le_of_ble_eq_true rfl) ?_
  intro p e s m args below meth c C hr hlk hin
  unfold T_X6_init at h
  refine q_aload_n C dX6_init_0 rfl (j := 0) rfl ?_
  refine q_objInit C (by decide +kernel) (by decide +kernel) (by decide +kernel) dX6_init_1 ⟨Nat.le_of_ble_eq_true rfl, Nat.le_of_ble_eq_true rfl⟩ ?_
  refine q_aload_n C dX6_init_4 rfl (j := 0) rfl ?_
  refine q_iconst (v := 3) C dX6_init_5 (by decide) ?_
  refine q_bipush (v := 100) C dX6_init_6 (by decide) ?_
  refine q_mnaI (N := 3) (K := 100) C (by decide +kernel) (C.2.2.2.2.2.2.2.2.2.2.2.2.2.2.2.2.1.use) (by decide +kernel) (by decide) (by decide) (by decide) (by decide) (by decide) (by decide) (by decide) ⟨h.1, h.2.1⟩ dX6_init_8 (fun q_1 hq _ => ?_)
  have h := h.2.2 q_1 hq
  refine q_putFR (ci := 6) (k0 := 2) (T := TX6) (v := (some q_1)) (ty := .array (.array .int)) C inX6_init_X6 tyX6 tyX6_ok nmX6 rfl (by decide) h.1 (by decide) rfl (by decide +kernel) rfl hin rfl (by decide +kernel) rfl rfl rfl dX6_init_12 ?_
  have h := h.2
  refine q_aload_n C dX6_init_15 rfl (j := 0) rfl ?_
  refine q_aload_n C dX6_init_16 rfl (j := 1) rfl ?_
  refine q_putFR (ci := 6) (k0 := 0) (T := TX6) (v := (some a1)) (ty := .object "QuarryMesh$Points") C inX6_init_X6 tyX6 tyX6_ok nmX6 rfl (by decide) h.1 (by decide) rfl (by decide +kernel) rfl hin rfl (by decide +kernel) rfl rfl rfl dX6_init_17 ?_
  have h := h.2
  refine q_aload_n C dX6_init_20 rfl (j := 0) rfl ?_
  refine q_aload_n C dX6_init_21 rfl (j := 2) rfl ?_
  refine q_putFR (ci := 6) (k0 := 1) (T := TX6) (v := (some a2)) (ty := .object "QuarryMesh$Faces") C inX6_init_X6 tyX6 tyX6_ok nmX6 rfl (by decide) h.1 (by decide) rfl (by decide +kernel) rfl hin rfl (by decide +kernel) rfl rfl rfl dX6_init_22 ?_
  have h := h.2
  exact q_vret C hr hlk dX6_init_25 h.1 h.2.1 h.2.2
def S_X6_isAtOpenHalf_2 (K2 : Nat → Int32 → Int32 → Prop) (Q : Int32 → Prop) (M : Mm) (a0 : Nat) (i1 : Int32) (i2 : Int32) : Prop := (100 ≤ i2 → Q 0) ∧ (¬ 100 ≤ i2 → kM M a0 = (6, 3) ∧ ∃ a_1 : Nat, rM M a0 1 = some a_1 ∧ kM M a_1 = (1, 5) ∧ T_X1_isOpen M a_1 i1 i2 (fun r_2 => (¬ r_2 = 0 → Q 1) ∧ (r_2 = 0 → kM M a0 = (6, 3) ∧ ∃ a_3 : Nat, rM M a0 1 = some a_3 ∧ kM M a_3 = (1, 5) ∧ T_X1_isOpen M a_3 i2 i1 (fun r_4 => (r_4 = 0 → K2 a0 i1 (i2 + 1)) ∧ (¬ r_4 = 0 → Q 1)))))
def T_X6_isAtOpenHalf (M : Mm) (a0 : Nat) (i1 : Int32) (Q : Int32 → Prop) : Prop := ∀ (K2 : Nat → Int32 → Int32 → Prop), (∀ (a0 : Nat) (i1 : Int32) (i2 : Int32), S_X6_isAtOpenHalf_2 K2 Q M a0 i1 i2 → K2 a0 i1 i2) → K2 a0 i1 0
theorem inX6_isAtOpenHalf_X6 : ∀ w ∈ wsX60, w ∈ wsX6_isAtOpenHalf := by decide +kernel
set_option maxRecDepth 100000 in
set_option maxHeartbeats 4000000 in
theorem b_X6_isAtOpenHalf_2 {p : Program} {l : Launch} {e : Env} {s : State} {m : MethodId} {args : Array Value} {below : List Frame} {meth : Method} {c : Code} {D : va_G} {cA : Nat → ClassId} {lo : Nat} (C : Cx p s m args c cX6_isAtOpenHalf 3 RX6 wsX6_isAtOpenHalf D cA lo) (hr : meth.sig.returnType = (some .boolean)) (hlk : meth.locks = false) {Q : Int32 → Prop} {M : Mm} (a0 : Nat) (i1 : Int32) (i2 : Int32) (h : S_X6_isAtOpenHalf_2 (fun (a0 : Nat) (i1 : Int32) (i2 : Int32) => QW p l e ({ frames := 2, cells := 0, slots := 0, locals := 44 } : Room) s m args below meth c (MQ below (QiM D cA lo (fun r M1 => M1 = M ∧ Q r)) args s 0 0 (fun q => lo ≤ q)) 3 D cA lo 0 0 M 2 [(0, .ref a0), (1, .int i1), (2, .int i2)] []) Q M a0 i1 i2) : QW p l e ({ frames := 2, cells := 0, slots := 0, locals := 44 } : Room) s m args below meth c (MQ below (QiM D cA lo (fun r M1 => M1 = M ∧ Q r)) args s 0 0 (fun q => lo ≤ q)) 3 D cA lo 0 0 M 2 [(0, .ref a0), (1, .int i1), (2, .int i2)] [] := by
  unfold S_X6_isAtOpenHalf_2 at h
  refine q_iload_n C dX6_isAtOpenHalf_2 rfl (j := 2) rfl ?_
  refine q_bipush (v := 100) C dX6_isAtOpenHalf_3 (by decide) ?_
  refine q_icmp_ge (tgt := 40) C dX6_isAtOpenHalf_5 (by decide) (fun z => ?_) (fun z => ?_)
  · have h := h.1 z
    refine q_iconst (v := 0) C dX6_isAtOpenHalf_40 (by decide) ?_
    exact q_zret C hr hlk dX6_isAtOpenHalf_41 (Nat.le_of_ble_eq_true rfl) (Nat.le_of_ble_eq_true rfl) (Or.inl rfl) ⟨rfl, h⟩
  · have h := h.2 z
    refine q_aload_n C dX6_isAtOpenHalf_8 rfl (j := 0) rfl ?_
    refine q_getR (ci := 6) (k0 := 1) (T := TX6) C inX6_isAtOpenHalf_X6 rfl (by decide) h.1 (by decide) rfl (by decide +kernel) rfl dX6_isAtOpenHalf_9 ?_
    obtain ⟨a_1, z, h⟩ := h.2
    refine q_ref z ?_
    refine q_iload_n C dX6_isAtOpenHalf_12 rfl (j := 1) rfl ?_
    refine q_iload_n C dX6_isAtOpenHalf_13 rfl (j := 2) rfl ?_
    refine q_ci (q_runV (As := [.int i1, .int i2]) (st := []) C (c_X1_isOpen l D cA lo h.2) (cwV 2 C.2.2.2.2.1 gX6_isAtOpenHalf_X1_isOpen rfl rfl rfl (by decide +kernel) ⟨Nat.le_of_ble_eq_true rfl, Nat.le_of_ble_eq_true rfl⟩) h.1 (by decide) rfl rfl rfl (Nat.le_of_ble_eq_true rfl) dX6_isAtOpenHalf_14 ⟨Nat.le_of_ble_eq_true rfl, Nat.le_of_ble_eq_true rfl⟩) (fun r_2 M_z h => ?_)
    refine q_mem h.1 ?_
    have h := h.2
    refine q_if_ne (tgt := 32) C dX6_isAtOpenHalf_17 (by decide) (fun z => ?_) (fun z => ?_)
    · have h := h.1 z
      refine q_iconst (v := 1) C dX6_isAtOpenHalf_32 (by decide) ?_
      exact q_zret C hr hlk dX6_isAtOpenHalf_33 (Nat.le_of_ble_eq_true rfl) (Nat.le_of_ble_eq_true rfl) (Or.inr rfl) ⟨rfl, h⟩
    · have h := h.2 z
      refine q_aload_n C dX6_isAtOpenHalf_20 rfl (j := 0) rfl ?_
      refine q_getR (ci := 6) (k0 := 1) (T := TX6) C inX6_isAtOpenHalf_X6 rfl (by decide) h.1 (by decide) rfl (by decide +kernel) rfl dX6_isAtOpenHalf_21 ?_
      obtain ⟨a_3, z, h⟩ := h.2
      refine q_ref z ?_
      refine q_iload_n C dX6_isAtOpenHalf_24 rfl (j := 2) rfl ?_
      refine q_iload_n C dX6_isAtOpenHalf_25 rfl (j := 1) rfl ?_
      refine q_ci (q_runV (As := [.int i2, .int i1]) (st := []) C (c_X1_isOpen l D cA lo h.2) (cwV 2 C.2.2.2.2.1 gX6_isAtOpenHalf_X1_isOpen rfl rfl rfl (by decide +kernel) ⟨Nat.le_of_ble_eq_true rfl, Nat.le_of_ble_eq_true rfl⟩) h.1 (by decide) rfl rfl rfl (Nat.le_of_ble_eq_true rfl) dX6_isAtOpenHalf_26 ⟨Nat.le_of_ble_eq_true rfl, Nat.le_of_ble_eq_true rfl⟩) (fun r_4 M_z h => ?_)
      refine q_mem h.1 ?_
      have h := h.2
      refine q_if_eq (tgt := 34) C dX6_isAtOpenHalf_29 (by decide) (fun z => ?_) (fun z => ?_)
      · have h := h.1 z
        refine q_iinc (v := (i2 + 1)) (lv' := [(2, .int (i2 + 1)), (0, .ref a0), (1, .int i1)]) C dX6_isAtOpenHalf_34 (j := 2) rfl rfl (by decide) rfl ?_
        refine q_goto (tgt := 2) C dX6_isAtOpenHalf_37 (by decide) ?_
        exact q_sub [1, 2, 0] rfl h
      · have h := h.2 z
        refine q_iconst (v := 1) C dX6_isAtOpenHalf_32 (by decide) ?_
        exact q_zret C hr hlk dX6_isAtOpenHalf_33 (Nat.le_of_ble_eq_true rfl) (Nat.le_of_ble_eq_true rfl) (Or.inr rfl) ⟨rfl, h⟩
set_option maxRecDepth 100000 in
set_option maxHeartbeats 4000000 in
theorem c_X6_isAtOpenHalf (l : Launch) (D : va_G) (cA : Nat → ClassId) (lo : Nat) {M : Mm} {a0 : Nat} {i1 : Int32} {Q : Int32 → Prop} (h : T_X6_isAtOpenHalf M a0 i1 Q) : Met l yX6_isAtOpenHalf wsX6_isAtOpenHalf ({ frames := 2, cells := 0, slots := 0, locals := 44 } : Room) (PcM D cA lo [.ref a0, .int i1] M) (QiM D cA lo (fun r M1 => M1 = M ∧ Q r)) 0 0 (fun q => lo ≤ q) := by
  refine q_start (cc := cX6_isAtOpenHalf) (nL := 3) (ret := (some .boolean)) (by decide) rfl rfl (Nat.le_of_ble_eq_true rfl) ?_
  intro p e s m args below meth c C hr hlk hin
  unfold T_X6_isAtOpenHalf at h
  have h := h (fun (a0 : Nat) (i1 : Int32) (i2 : Int32) => QW p l e ({ frames := 2, cells := 0, slots := 0, locals := 44 } : Room) s m args below meth c (MQ below (QiM D cA lo (fun r M1 => M1 = M ∧ Q r)) args s 0 0 (fun q => lo ≤ q)) 3 D cA lo 0 0 M 2 [(0, .ref a0), (1, .int i1), (2, .int i2)] []) (fun a0 i1 i2 h => b_X6_isAtOpenHalf_2 C hr hlk a0 i1 i2 h)
  refine q_iconst (v := 0) C dX6_isAtOpenHalf_0 (by decide) ?_
  refine q_istore_n (lv' := [(2, .int 0), (0, .ref a0), (1, .int i1)]) C dX6_isAtOpenHalf_1 rfl (by decide) rfl ?_
  exact q_sub [1, 2, 0] rfl h
def S_X6_findPlace_23 (K23 : Nat → Int32 → Int32 → Int32 → Mm → Prop) (K34 : Nat → Int32 → Int32 → Int32 → Int32 → Int32 → Mm → Prop) (Q : Mm → Prop) (M : Mm) (a0 : Nat) (i1 : Int32) (i2 : Int32) (i3 : Int32) : Prop := (3 ≤ i3 → Q M) ∧ (¬ 3 ≤ i3 → K34 a0 i1 i2 i3 0 0 M)
def S_X6_findPlace_34 (K23 : Nat → Int32 → Int32 → Int32 → Mm → Prop) (K34 : Nat → Int32 → Int32 → Int32 → Int32 → Int32 → Mm → Prop) (Q : Mm → Prop) (M : Mm) (a0 : Nat) (i1 : Int32) (i2 : Int32) (i3 : Int32) (i4 : Int32) (i5 : Int32) : Prop := (100 ≤ i5 → kM M a0 = (6, 3) ∧ ∃ a_4 : Nat, rM M a0 2 = some a_4 ∧ ∃ n_5 : Nat, kM M a_4 = (121, n_5) ∧ vp_in i3 n_5 ∧ ∃ a_6 : Nat, rM M a_4 i3.toNatClampNeg = some a_6 ∧ (¬ i2 = 0) ∧ ∃ n_7 : Nat, kM M a_6 = (100, n_7) ∧ vp_in i1 n_7 ∧ K23 a0 i1 i2 (i3 + 1) (wI M a_6 i1.toNatClampNeg (i4 / i2))) ∧ (¬ 100 ≤ i5 → kM M a0 = (6, 3) ∧ ∃ a_8 : Nat, rM M a0 1 = some a_8 ∧ kM M a_8 = (1, 5) ∧ T_X1_isEdge M a_8 i1 i5 (fun r_9 => (r_9 = 0 → K34 a0 i1 i2 i3 (i4 + 0) (i5 + 1) M) ∧ (¬ r_9 = 0 → kM M a0 = (6, 3) ∧ ∃ a_10 : Nat, rM M a0 0 = some a_10 ∧ kM M a_10 = (3, 4) ∧ T_X3_get M a_10 i5 i3 (fun r_11 => K34 a0 i1 i2 i3 (i4 + r_11) (i5 + 1) M))))
def T_X6_findPlace (M : Mm) (a0 : Nat) (i1 : Int32) (Q : Mm → Prop) : Prop := ∀ (K23 : Nat → Int32 → Int32 → Int32 → Mm → Prop) (K34 : Nat → Int32 → Int32 → Int32 → Int32 → Int32 → Mm → Prop), (∀ (a0 : Nat) (i1 : Int32) (i2 : Int32) (i3 : Int32) (M : Mm), S_X6_findPlace_23 K23 K34 Q M a0 i1 i2 i3 → K23 a0 i1 i2 i3 M) → (∀ (a0 : Nat) (i1 : Int32) (i2 : Int32) (i3 : Int32) (i4 : Int32) (i5 : Int32) (M : Mm), S_X6_findPlace_34 K23 K34 Q M a0 i1 i2 i3 i4 i5 → K34 a0 i1 i2 i3 i4 i5 M) → kM M a0 = (6, 3) ∧ ∃ a_1 : Nat, rM M a0 1 = some a_1 ∧ kM M a_1 = (1, 5) ∧ T_X1_neighboursOf M a_1 i1 (fun r_2 => (r_2 = 0 → Q M) ∧ (¬ r_2 = 0 → T_X8_isPointNumber M i1 (fun r_3 => (¬ r_3 = 0 → K23 a0 i1 r_2 0 M) ∧ (r_3 = 0 → Q M))))
theorem inX6_findPlace_X6 : ∀ w ∈ wsX60, w ∈ wsX6_findPlace := by decide +kernel
set_option maxRecDepth 100000 in
set_option maxHeartbeats 4000000 in
theorem b_X6_findPlace_23 {p : Program} {l : Launch} {e : Env} {s : State} {m : MethodId} {args : Array Value} {below : List Frame} {meth : Method} {c : Code} {D : va_G} {cA : Nat → ClassId} {lo : Nat} (C : Cx p s m args c cX6_findPlace 6 RX6 wsX6_findPlace D cA lo) (hr : meth.sig.returnType = none) (hlk : meth.locks = false) {Q : Mm → Prop} (M : Mm) (a0 : Nat) (i1 : Int32) (i2 : Int32) (i3 : Int32) (h : S_X6_findPlace_23 (fun (a0 : Nat) (i1 : Int32) (i2 : Int32) (i3 : Int32) (M : Mm) => QW p l e ({ frames := 3, cells := 0, slots := 0, locals := 67 } : Room) s m args below meth c (MQ below (QvM D cA lo Q) args s 0 0 (fun q => lo ≤ q)) 6 D cA lo 0 0 M 23 [(0, .ref a0), (1, .int i1), (2, .int i2), (3, .int i3)] []) (fun (a0 : Nat) (i1 : Int32) (i2 : Int32) (i3 : Int32) (i4 : Int32) (i5 : Int32) (M : Mm) => QW p l e ({ frames := 3, cells := 0, slots := 0, locals := 67 } : Room) s m args below meth c (MQ below (QvM D cA lo Q) args s 0 0 (fun q => lo ≤ q)) 6 D cA lo 0 0 M 34 [(0, .ref a0), (1, .int i1), (2, .int i2), (3, .int i3), (4, .int i4), (5, .int i5)] []) Q M a0 i1 i2 i3) : QW p l e ({ frames := 3, cells := 0, slots := 0, locals := 67 } : Room) s m args below meth c (MQ below (QvM D cA lo Q) args s 0 0 (fun q => lo ≤ q)) 6 D cA lo 0 0 M 23 [(0, .ref a0), (1, .int i1), (2, .int i2), (3, .int i3)] [] := by
  unfold S_X6_findPlace_23 at h
  refine q_iload_n C dX6_findPlace_23 rfl (j := 3) rfl ?_
  refine q_iconst (v := 3) C dX6_findPlace_24 (by decide) ?_
  refine q_icmp_ge (tgt := 97) C dX6_findPlace_25 (by decide) (fun z => ?_) (fun z => ?_)
  · have h := h.1 z
    exact q_vret C hr hlk dX6_findPlace_97 (Nat.le_of_ble_eq_true rfl) (Nat.le_of_ble_eq_true rfl) h
  · have h := h.2 z
    refine q_iconst (v := 0) C dX6_findPlace_28 (by decide) ?_
    refine q_istore (lv' := [(4, .int 0), (0, .ref a0), (1, .int i1), (2, .int i2), (3, .int i3)]) C dX6_findPlace_29 (by decide) rfl ?_
    refine q_iconst (v := 0) C dX6_findPlace_31 (by decide) ?_
    refine q_istore (lv' := [(5, .int 0), (4, .int 0), (0, .ref a0), (1, .int i1), (2, .int i2), (3, .int i3)]) C dX6_findPlace_32 (by decide) rfl ?_
    exact q_sub [2, 3, 4, 5, 1, 0] rfl h
set_option maxRecDepth 100000 in
set_option maxHeartbeats 4000000 in
theorem b_X6_findPlace_34 {p : Program} {l : Launch} {e : Env} {s : State} {m : MethodId} {args : Array Value} {below : List Frame} {meth : Method} {c : Code} {D : va_G} {cA : Nat → ClassId} {lo : Nat} (C : Cx p s m args c cX6_findPlace 6 RX6 wsX6_findPlace D cA lo) (hr : meth.sig.returnType = none) (hlk : meth.locks = false) {Q : Mm → Prop} (M : Mm) (a0 : Nat) (i1 : Int32) (i2 : Int32) (i3 : Int32) (i4 : Int32) (i5 : Int32) (h : S_X6_findPlace_34 (fun (a0 : Nat) (i1 : Int32) (i2 : Int32) (i3 : Int32) (M : Mm) => QW p l e ({ frames := 3, cells := 0, slots := 0, locals := 67 } : Room) s m args below meth c (MQ below (QvM D cA lo Q) args s 0 0 (fun q => lo ≤ q)) 6 D cA lo 0 0 M 23 [(0, .ref a0), (1, .int i1), (2, .int i2), (3, .int i3)] []) (fun (a0 : Nat) (i1 : Int32) (i2 : Int32) (i3 : Int32) (i4 : Int32) (i5 : Int32) (M : Mm) => QW p l e ({ frames := 3, cells := 0, slots := 0, locals := 67 } : Room) s m args below meth c (MQ below (QvM D cA lo Q) args s 0 0 (fun q => lo ≤ q)) 6 D cA lo 0 0 M 34 [(0, .ref a0), (1, .int i1), (2, .int i2), (3, .int i3), (4, .int i4), (5, .int i5)] []) Q M a0 i1 i2 i3 i4 i5) : QW p l e ({ frames := 3, cells := 0, slots := 0, locals := 67 } : Room) s m args below meth c (MQ below (QvM D cA lo Q) args s 0 0 (fun q => lo ≤ q)) 6 D cA lo 0 0 M 34 [(0, .ref a0), (1, .int i1), (2, .int i2), (3, .int i3), (4, .int i4), (5, .int i5)] [] := by
  unfold S_X6_findPlace_34 at h
  refine q_iload C dX6_findPlace_34 (j := 5) rfl ?_
  refine q_bipush (v := 100) C dX6_findPlace_36 (by decide) ?_
  refine q_icmp_ge (tgt := 79) C dX6_findPlace_38 (by decide) (fun z => ?_) (fun z => ?_)
  · have h := h.1 z
    refine q_aload_n C dX6_findPlace_79 rfl (j := 0) rfl ?_
    refine q_getR (ci := 6) (k0 := 2) (T := TX6) C inX6_findPlace_X6 rfl (by decide) h.1 (by decide) rfl (by decide +kernel) rfl dX6_findPlace_80 ?_
    obtain ⟨a_4, z, h⟩ := h.2
    refine q_ref z ?_
    refine q_iload_n C dX6_findPlace_83 rfl (j := 3) rfl ?_
    obtain ⟨n_5, z1, z2, h⟩ := h
    refine q_gald C z1 z2 dX6_findPlace_84 ?_
    obtain ⟨a_6, z, h⟩ := h
    refine q_ref z ?_
    refine q_iload_n C dX6_findPlace_85 rfl (j := 1) rfl ?_
    refine q_iload C dX6_findPlace_86 (j := 4) rfl ?_
    refine q_iload_n C dX6_findPlace_88 rfl (j := 2) rfl ?_
    refine q_idiv C dX6_findPlace_89 h.1 ?_
    have h := h.2
    obtain ⟨n_7, z1, z2, h⟩ := h
    refine q_iast C z1 z2 dX6_findPlace_90 ?_
    refine q_iinc (v := (i3 + 1)) (lv' := [(3, .int (i3 + 1)), (0, .ref a0), (1, .int i1), (2, .int i2), (4, .int i4), (5, .int i5)]) C dX6_findPlace_91 (j := 3) rfl rfl (by decide) rfl ?_
    refine q_goto (tgt := 23) C dX6_findPlace_94 (by decide) ?_
    exact q_sub [1, 2, 3, 0] rfl h
  · have h := h.2 z
    refine q_iload C dX6_findPlace_41 (j := 4) rfl ?_
    refine q_aload_n C dX6_findPlace_43 rfl (j := 0) rfl ?_
    refine q_getR (ci := 6) (k0 := 1) (T := TX6) C inX6_findPlace_X6 rfl (by decide) h.1 (by decide) rfl (by decide +kernel) rfl dX6_findPlace_44 ?_
    obtain ⟨a_8, z, h⟩ := h.2
    refine q_ref z ?_
    refine q_iload_n C dX6_findPlace_47 rfl (j := 1) rfl ?_
    refine q_iload C dX6_findPlace_48 (j := 5) rfl ?_
    refine q_ci (q_runV (As := [.int i1, .int i5]) (st := [.int i4]) C (c_X1_isEdge l D cA lo h.2) (cwV 2 C.2.2.2.2.1 gX6_findPlace_X1_isEdge rfl rfl rfl (by decide +kernel) ⟨Nat.le_of_ble_eq_true rfl, Nat.le_of_ble_eq_true rfl⟩) h.1 (by decide) rfl rfl rfl (Nat.le_of_ble_eq_true rfl) dX6_findPlace_50 ⟨Nat.le_of_ble_eq_true rfl, Nat.le_of_ble_eq_true rfl⟩) (fun r_9 M_z h => ?_)
    refine q_mem h.1 ?_
    have h := h.2
    refine q_if_eq (tgt := 69) C dX6_findPlace_53 (by decide) (fun z => ?_) (fun z => ?_)
    · have h := h.1 z
      refine q_iconst (v := 0) C dX6_findPlace_69 (by decide) ?_
      refine q_iadd C dX6_findPlace_70 ?_
      refine q_istore (lv' := [(4, .int (i4 + 0)), (0, .ref a0), (1, .int i1), (2, .int i2), (3, .int i3), (5, .int i5)]) C dX6_findPlace_71 (by decide) rfl ?_
      refine q_iinc (v := (i5 + 1)) (lv' := [(5, .int (i5 + 1)), (4, .int (i4 + 0)), (0, .ref a0), (1, .int i1), (2, .int i2), (3, .int i3)]) C dX6_findPlace_73 (j := 5) rfl rfl (by decide) rfl ?_
      refine q_goto (tgt := 34) C dX6_findPlace_76 (by decide) ?_
      exact q_sub [2, 3, 4, 5, 1, 0] rfl h
    · have h := h.2 z
      refine q_aload_n C dX6_findPlace_56 rfl (j := 0) rfl ?_
      refine q_getR (ci := 6) (k0 := 0) (T := TX6) C inX6_findPlace_X6 rfl (by decide) h.1 (by decide) rfl (by decide +kernel) rfl dX6_findPlace_57 ?_
      obtain ⟨a_10, z, h⟩ := h.2
      refine q_ref z ?_
      refine q_iload C dX6_findPlace_60 (j := 5) rfl ?_
      refine q_iload_n C dX6_findPlace_62 rfl (j := 3) rfl ?_
      refine q_ci (q_runV (As := [.int i5, .int i3]) (st := [.int i4]) C (c_X3_get l D cA lo h.2) (cwV 2 C.2.2.2.2.1 gX6_findPlace_X3_get rfl rfl rfl (by decide +kernel) ⟨Nat.le_of_ble_eq_true rfl, Nat.le_of_ble_eq_true rfl⟩) h.1 (by decide) rfl rfl rfl (Nat.le_of_ble_eq_true rfl) dX6_findPlace_63 ⟨Nat.le_of_ble_eq_true rfl, Nat.le_of_ble_eq_true rfl⟩) (fun r_11 M_z h => ?_)
      refine q_mem h.1 ?_
      have h := h.2
      refine q_goto (tgt := 70) C dX6_findPlace_66 (by decide) ?_
      refine q_iadd C dX6_findPlace_70 ?_
      refine q_istore (lv' := [(4, .int (i4 + r_11)), (0, .ref a0), (1, .int i1), (2, .int i2), (3, .int i3), (5, .int i5)]) C dX6_findPlace_71 (by decide) rfl ?_
      refine q_iinc (v := (i5 + 1)) (lv' := [(5, .int (i5 + 1)), (4, .int (i4 + r_11)), (0, .ref a0), (1, .int i1), (2, .int i2), (3, .int i3)]) C dX6_findPlace_73 (j := 5) rfl rfl (by decide) rfl ?_
      refine q_goto (tgt := 34) C dX6_findPlace_76 (by decide) ?_
      exact q_sub [2, 3, 4, 5, 1, 0] rfl h
set_option maxRecDepth 100000 in
set_option maxHeartbeats 4000000 in
theorem c_X6_findPlace (l : Launch) (D : va_G) (cA : Nat → ClassId) (lo : Nat) {M : Mm} {a0 : Nat} {i1 : Int32} {Q : Mm → Prop} (h : T_X6_findPlace M a0 i1 Q) : Met l yX6_findPlace wsX6_findPlace ({ frames := 3, cells := 0, slots := 0, locals := 67 } : Room) (PcM D cA lo [.ref a0, .int i1] M) (QvM D cA lo Q) 0 0 (fun q => lo ≤ q) := by
  refine q_start (cc := cX6_findPlace) (nL := 6) (ret := none) (by decide) rfl rfl (Nat.le_of_ble_eq_true rfl) ?_
  intro p e s m args below meth c C hr hlk hin
  unfold T_X6_findPlace at h
  have h := h (fun (a0 : Nat) (i1 : Int32) (i2 : Int32) (i3 : Int32) (M : Mm) => QW p l e ({ frames := 3, cells := 0, slots := 0, locals := 67 } : Room) s m args below meth c (MQ below (QvM D cA lo Q) args s 0 0 (fun q => lo ≤ q)) 6 D cA lo 0 0 M 23 [(0, .ref a0), (1, .int i1), (2, .int i2), (3, .int i3)] []) (fun (a0 : Nat) (i1 : Int32) (i2 : Int32) (i3 : Int32) (i4 : Int32) (i5 : Int32) (M : Mm) => QW p l e ({ frames := 3, cells := 0, slots := 0, locals := 67 } : Room) s m args below meth c (MQ below (QvM D cA lo Q) args s 0 0 (fun q => lo ≤ q)) 6 D cA lo 0 0 M 34 [(0, .ref a0), (1, .int i1), (2, .int i2), (3, .int i3), (4, .int i4), (5, .int i5)] []) (fun a0 i1 i2 i3 M h => b_X6_findPlace_23 C hr hlk M a0 i1 i2 i3 h) (fun a0 i1 i2 i3 i4 i5 M h => b_X6_findPlace_34 C hr hlk M a0 i1 i2 i3 i4 i5 h)
  refine q_aload_n C dX6_findPlace_0 rfl (j := 0) rfl ?_
  refine q_getR (ci := 6) (k0 := 1) (T := TX6) C inX6_findPlace_X6 rfl (by decide) h.1 (by decide) rfl (by decide +kernel) rfl dX6_findPlace_1 ?_
  obtain ⟨a_1, z, h⟩ := h.2
  refine q_ref z ?_
  refine q_iload_n C dX6_findPlace_4 rfl (j := 1) rfl ?_
  refine q_ci (q_runV (As := [.int i1]) (st := []) C (c_X1_neighboursOf l D cA lo h.2) (cwV 1 C.2.2.2.2.1 gX6_findPlace_X1_neighboursOf rfl rfl rfl (by decide +kernel) ⟨Nat.le_of_ble_eq_true rfl, Nat.le_of_ble_eq_true rfl⟩) h.1 (by decide) rfl rfl rfl (Nat.le_of_ble_eq_true rfl) dX6_findPlace_5 ⟨Nat.le_of_ble_eq_true rfl, Nat.le_of_ble_eq_true rfl⟩) (fun r_2 M_z h => ?_)
  refine q_mem h.1 ?_
  have h := h.2
  refine q_istore_n (lv' := [(2, .int r_2), (0, .ref a0), (1, .int i1)]) C dX6_findPlace_8 rfl (by decide) rfl ?_
  refine q_iload_n C dX6_findPlace_9 rfl (j := 0) rfl ?_
  refine q_if_eq (tgt := 20) C dX6_findPlace_10 (by decide) (fun z => ?_) (fun z => ?_)
  · have h := h.1 z
    exact q_vret C hr hlk dX6_findPlace_20 (Nat.le_of_ble_eq_true rfl) (Nat.le_of_ble_eq_true rfl) h
  · have h := h.2 z
    refine q_iload_n C dX6_findPlace_13 rfl (j := 2) rfl ?_
    refine q_ci (q_runSN (As := [.int i1]) (st := []) C (c_X8_isPointNumber l D cA lo h) ⟨va_cnB (host := "QuarryMesh") 1 C.2.2.2.2.1 gX6_findPlace_X8_isPointNumber_n51 rfl rfl rfl (C.2.2.2.2.2.2.2.1 (RX6, 51, yX8_isPointNumber, "QuarryMesh") (List.mem_of_getElem? (i := 10) rfl)) (C.2.2.2.2.1 _ (by decide +kernel)) (by decide +kernel) ⟨Nat.le_of_ble_eq_true rfl, Nat.le_of_ble_eq_true rfl⟩, C.2.2.2.2.1 _ (by decide +kernel), trivial⟩ rfl rfl (Nat.le_of_ble_eq_true rfl) dX6_findPlace_14 ⟨Nat.le_of_ble_eq_true rfl, Nat.le_of_ble_eq_true rfl⟩) (fun r_3 M_z h => ?_)
    refine q_mem h.1 ?_
    have h := h.2
    refine q_if_ne (tgt := 21) C dX6_findPlace_17 (by decide) (fun z => ?_) (fun z => ?_)
    · have h := h.1 z
      refine q_iconst (v := 0) C dX6_findPlace_21 (by decide) ?_
      refine q_istore_n (lv' := [(3, .int 0), (2, .int r_2), (0, .ref a0), (1, .int i1)]) C dX6_findPlace_22 rfl (by decide) rfl ?_
      exact q_sub [2, 3, 1, 0] rfl h
    · have h := h.2 z
      exact q_vret C hr hlk dX6_findPlace_20 (Nat.le_of_ble_eq_true rfl) (Nat.le_of_ble_eq_true rfl) h
def S_X6_settle_86 (K86 : Nat → Int32 → Int32 → Int32 → Int32 → Int32 → Mm → Prop) (Q : Int32 → Mm → Prop) (M : Mm) (a0 : Nat) (i1 : Int32) (i2 : Int32) (i3 : Int32) (i4 : Int32) (is0 : Int32) : Prop := kM M a0 = (6, 3) ∧ ∃ a_21 : Nat, rM M a0 0 = some a_21 ∧ kM M a_21 = (3, 4) ∧ T_X3_put M a_21 i1 i2 i3 i4 (fun M_23 => (is0 = 0 ∨ is0 = 1) ∧ Q is0 M_23)
def T_X6_settle (M : Mm) (a0 : Nat) (i1 : Int32) (Q : Int32 → Mm → Prop) : Prop := ∀ (K86 : Nat → Int32 → Int32 → Int32 → Int32 → Int32 → Mm → Prop), (∀ (a0 : Nat) (i1 : Int32) (i2 : Int32) (i3 : Int32) (i4 : Int32) (is0 : Int32) (M : Mm), S_X6_settle_86 K86 Q M a0 i1 i2 i3 i4 is0 → K86 a0 i1 i2 i3 i4 is0 M) → kM M a0 = (6, 3) ∧ ∃ a_1 : Nat, rM M a0 0 = some a_1 ∧ kM M a_1 = (3, 4) ∧ T_X3_has M a_1 i1 (fun r_2 => (¬ r_2 = 0 → kM M a0 = (6, 3) ∧ ∃ a_3 : Nat, rM M a0 2 = some a_3 ∧ ∃ n_4 : Nat, kM M a_3 = (121, n_4) ∧ vp_in 0 n_4 ∧ ∃ a_5 : Nat, rM M a_3 (0 : Int32).toNatClampNeg = some a_5 ∧ ∃ n_6 : Nat, kM M a_5 = (100, n_6) ∧ vp_in i1 n_6 ∧ kM M a0 = (6, 3) ∧ ∃ a_7 : Nat, rM M a0 2 = some a_7 ∧ ∃ n_8 : Nat, kM M a_7 = (121, n_8) ∧ vp_in 1 n_8 ∧ ∃ a_9 : Nat, rM M a_7 (1 : Int32).toNatClampNeg = some a_9 ∧ ∃ n_10 : Nat, kM M a_9 = (100, n_10) ∧ vp_in i1 n_10 ∧ kM M a0 = (6, 3) ∧ ∃ a_11 : Nat, rM M a0 2 = some a_11 ∧ ∃ n_12 : Nat, kM M a_11 = (121, n_12) ∧ vp_in 2 n_12 ∧ ∃ a_13 : Nat, rM M a_11 (2 : Int32).toNatClampNeg = some a_13 ∧ ∃ n_14 : Nat, kM M a_13 = (100, n_14) ∧ vp_in i1 n_14 ∧ kM M a0 = (6, 3) ∧ ∃ a_15 : Nat, rM M a0 0 = some a_15 ∧ kM M a_15 = (3, 4) ∧ T_X3_get M a_15 i1 0 (fun r_16 => (¬ (iM M a_5 i1.toNatClampNeg) = r_16 → K86 a0 i1 (iM M a_5 i1.toNatClampNeg) (iM M a_9 i1.toNatClampNeg) (iM M a_13 i1.toNatClampNeg) 1 M) ∧ ((iM M a_5 i1.toNatClampNeg) = r_16 → kM M a0 = (6, 3) ∧ ∃ a_17 : Nat, rM M a0 0 = some a_17 ∧ kM M a_17 = (3, 4) ∧ T_X3_get M a_17 i1 1 (fun r_18 => (¬ (iM M a_9 i1.toNatClampNeg) = r_18 → K86 a0 i1 (iM M a_5 i1.toNatClampNeg) (iM M a_9 i1.toNatClampNeg) (iM M a_13 i1.toNatClampNeg) 1 M) ∧ ((iM M a_9 i1.toNatClampNeg) = r_18 → kM M a0 = (6, 3) ∧ ∃ a_19 : Nat, rM M a0 0 = some a_19 ∧ kM M a_19 = (3, 4) ∧ T_X3_get M a_19 i1 2 (fun r_20 => ((iM M a_13 i1.toNatClampNeg) = r_20 → K86 a0 i1 (iM M a_5 i1.toNatClampNeg) (iM M a_9 i1.toNatClampNeg) (iM M a_13 i1.toNatClampNeg) 0 M) ∧ (¬ (iM M a_13 i1.toNatClampNeg) = r_20 → K86 a0 i1 (iM M a_5 i1.toNatClampNeg) (iM M a_9 i1.toNatClampNeg) (iM M a_13 i1.toNatClampNeg) 1 M))))))) ∧ (r_2 = 0 → Q 0 M))
theorem inX6_settle_X6 : ∀ w ∈ wsX60, w ∈ wsX6_settle := by decide +kernel
set_option maxRecDepth 100000 in
set_option maxHeartbeats 4000000 in
theorem b_X6_settle_86 {p : Program} {l : Launch} {e : Env} {s : State} {m : MethodId} {args : Array Value} {below : List Frame} {meth : Method} {c : Code} {D : va_G} {cA : Nat → ClassId} {lo : Nat} (C : Cx p s m args c cX6_settle 6 RX6 wsX6_settle D cA lo) (hr : meth.sig.returnType = (some .boolean)) (hlk : meth.locks = false) {Q : Int32 → Mm → Prop} (M : Mm) (a0 : Nat) (i1 : Int32) (i2 : Int32) (i3 : Int32) (i4 : Int32) (is0 : Int32) (h : S_X6_settle_86 (fun (a0 : Nat) (i1 : Int32) (i2 : Int32) (i3 : Int32) (i4 : Int32) (is0 : Int32) (M : Mm) => QW p l e ({ frames := 2, cells := 0, slots := 0, locals := 44 } : Room) s m args below meth c (MQ below (QiM D cA lo Q) args s 0 0 (fun q => lo ≤ q)) 6 D cA lo 0 0 M 86 [(0, .ref a0), (1, .int i1), (2, .int i2), (3, .int i3), (4, .int i4)] [.int is0]) Q M a0 i1 i2 i3 i4 is0) : QW p l e ({ frames := 2, cells := 0, slots := 0, locals := 44 } : Room) s m args below meth c (MQ below (QiM D cA lo Q) args s 0 0 (fun q => lo ≤ q)) 6 D cA lo 0 0 M 86 [(0, .ref a0), (1, .int i1), (2, .int i2), (3, .int i3), (4, .int i4)] [.int is0] := by
  unfold S_X6_settle_86 at h
  refine q_istore (lv' := [(5, .int is0), (0, .ref a0), (1, .int i1), (2, .int i2), (3, .int i3), (4, .int i4)]) C dX6_settle_86 (by decide) rfl ?_
  refine q_aload_n C dX6_settle_88 rfl (j := 1) rfl ?_
  refine q_getR (ci := 6) (k0 := 0) (T := TX6) C inX6_settle_X6 rfl (by decide) h.1 (by decide) rfl (by decide +kernel) rfl dX6_settle_89 ?_
  obtain ⟨a_21, z, h⟩ := h.2
  refine q_ref z ?_
  refine q_iload_n C dX6_settle_92 rfl (j := 2) rfl ?_
  refine q_iload_n C dX6_settle_93 rfl (j := 3) rfl ?_
  refine q_iload_n C dX6_settle_94 rfl (j := 4) rfl ?_
  refine q_iload C dX6_settle_95 (j := 5) rfl ?_
  refine q_cv (q_runV (As := [.int i1, .int i2, .int i3, .int i4]) (st := []) C (c_X3_put l D cA lo h.2) (cwV 4 C.2.2.2.2.1 gX6_settle_X3_put rfl rfl rfl (by decide +kernel) ⟨Nat.le_of_ble_eq_true rfl, Nat.le_of_ble_eq_true rfl⟩) h.1 (by decide) rfl rfl rfl (Nat.le_of_ble_eq_true rfl) dX6_settle_97 ⟨Nat.le_of_ble_eq_true rfl, Nat.le_of_ble_eq_true rfl⟩) (fun M_23 h => ?_)
  refine q_iload C dX6_settle_100 (j := 0) rfl ?_
  exact q_zret C hr hlk dX6_settle_102 (Nat.le_of_ble_eq_true rfl) (Nat.le_of_ble_eq_true rfl) h.1 h.2
set_option maxRecDepth 100000 in
set_option maxHeartbeats 4000000 in
theorem c_X6_settle (l : Launch) (D : va_G) (cA : Nat → ClassId) (lo : Nat) {M : Mm} {a0 : Nat} {i1 : Int32} {Q : Int32 → Mm → Prop} (h : T_X6_settle M a0 i1 Q) : Met l yX6_settle wsX6_settle ({ frames := 2, cells := 0, slots := 0, locals := 44 } : Room) (PcM D cA lo [.ref a0, .int i1] M) (QiM D cA lo Q) 0 0 (fun q => lo ≤ q) := by
  refine q_start (cc := cX6_settle) (nL := 6) (ret := (some .boolean)) (by decide) rfl rfl (Nat.le_of_ble_eq_true rfl) ?_
  intro p e s m args below meth c C hr hlk hin
  unfold T_X6_settle at h
  have h := h (fun (a0 : Nat) (i1 : Int32) (i2 : Int32) (i3 : Int32) (i4 : Int32) (is0 : Int32) (M : Mm) => QW p l e ({ frames := 2, cells := 0, slots := 0, locals := 44 } : Room) s m args below meth c (MQ below (QiM D cA lo Q) args s 0 0 (fun q => lo ≤ q)) 6 D cA lo 0 0 M 86 [(0, .ref a0), (1, .int i1), (2, .int i2), (3, .int i3), (4, .int i4)] [.int is0]) (fun a0 i1 i2 i3 i4 is0 M h => b_X6_settle_86 C hr hlk M a0 i1 i2 i3 i4 is0 h)
  refine q_aload_n C dX6_settle_0 rfl (j := 0) rfl ?_
  refine q_getR (ci := 6) (k0 := 0) (T := TX6) C inX6_settle_X6 rfl (by decide) h.1 (by decide) rfl (by decide +kernel) rfl dX6_settle_1 ?_
  obtain ⟨a_1, z, h⟩ := h.2
  refine q_ref z ?_
  refine q_iload_n C dX6_settle_4 rfl (j := 1) rfl ?_
  refine q_ci (q_runV (As := [.int i1]) (st := []) C (c_X3_has l D cA lo h.2) (cwV 1 C.2.2.2.2.1 gX6_settle_X3_has rfl rfl rfl (by decide +kernel) ⟨Nat.le_of_ble_eq_true rfl, Nat.le_of_ble_eq_true rfl⟩) h.1 (by decide) rfl rfl rfl (Nat.le_of_ble_eq_true rfl) dX6_settle_5 ⟨Nat.le_of_ble_eq_true rfl, Nat.le_of_ble_eq_true rfl⟩) (fun r_2 M_z h => ?_)
  refine q_mem h.1 ?_
  have h := h.2
  refine q_if_ne (tgt := 13) C dX6_settle_8 (by decide) (fun z => ?_) (fun z => ?_)
  · have h := h.1 z
    refine q_aload_n C dX6_settle_13 rfl (j := 0) rfl ?_
    refine q_getR (ci := 6) (k0 := 2) (T := TX6) C inX6_settle_X6 rfl (by decide) h.1 (by decide) rfl (by decide +kernel) rfl dX6_settle_14 ?_
    obtain ⟨a_3, z, h⟩ := h.2
    refine q_ref z ?_
    refine q_iconst (v := 0) C dX6_settle_17 (by decide) ?_
    obtain ⟨n_4, z1, z2, h⟩ := h
    refine q_gald C z1 z2 dX6_settle_18 ?_
    obtain ⟨a_5, z, h⟩ := h
    refine q_ref z ?_
    refine q_iload_n C dX6_settle_19 rfl (j := 1) rfl ?_
    obtain ⟨n_6, z1, z2, h⟩ := h
    refine q_iald C z1 z2 dX6_settle_20 ?_
    refine q_istore_n (lv' := [(2, .int (iM M a_5 i1.toNatClampNeg)), (0, .ref a0), (1, .int i1)]) C dX6_settle_21 rfl (by decide) rfl ?_
    refine q_aload_n C dX6_settle_22 rfl (j := 1) rfl ?_
    refine q_getR (ci := 6) (k0 := 2) (T := TX6) C inX6_settle_X6 rfl (by decide) h.1 (by decide) rfl (by decide +kernel) rfl dX6_settle_23 ?_
    obtain ⟨a_7, z, h⟩ := h.2
    refine q_ref z ?_
    refine q_iconst (v := 1) C dX6_settle_26 (by decide) ?_
    obtain ⟨n_8, z1, z2, h⟩ := h
    refine q_gald C z1 z2 dX6_settle_27 ?_
    obtain ⟨a_9, z, h⟩ := h
    refine q_ref z ?_
    refine q_iload_n C dX6_settle_28 rfl (j := 2) rfl ?_
    obtain ⟨n_10, z1, z2, h⟩ := h
    refine q_iald C z1 z2 dX6_settle_29 ?_
    refine q_istore_n (lv' := [(3, .int (iM M a_9 i1.toNatClampNeg)), (2, .int (iM M a_5 i1.toNatClampNeg)), (0, .ref a0), (1, .int i1)]) C dX6_settle_30 rfl (by decide) rfl ?_
    refine q_aload_n C dX6_settle_31 rfl (j := 2) rfl ?_
    refine q_getR (ci := 6) (k0 := 2) (T := TX6) C inX6_settle_X6 rfl (by decide) h.1 (by decide) rfl (by decide +kernel) rfl dX6_settle_32 ?_
    obtain ⟨a_11, z, h⟩ := h.2
    refine q_ref z ?_
    refine q_iconst (v := 2) C dX6_settle_35 (by decide) ?_
    obtain ⟨n_12, z1, z2, h⟩ := h
    refine q_gald C z1 z2 dX6_settle_36 ?_
    obtain ⟨a_13, z, h⟩ := h
    refine q_ref z ?_
    refine q_iload_n C dX6_settle_37 rfl (j := 3) rfl ?_
    obtain ⟨n_14, z1, z2, h⟩ := h
    refine q_iald C z1 z2 dX6_settle_38 ?_
    refine q_istore (lv' := [(4, .int (iM M a_13 i1.toNatClampNeg)), (3, .int (iM M a_9 i1.toNatClampNeg)), (2, .int (iM M a_5 i1.toNatClampNeg)), (0, .ref a0), (1, .int i1)]) C dX6_settle_39 (by decide) rfl ?_
    refine q_iload_n C dX6_settle_41 rfl (j := 2) rfl ?_
    refine q_aload_n C dX6_settle_42 rfl (j := 3) rfl ?_
    refine q_getR (ci := 6) (k0 := 0) (T := TX6) C inX6_settle_X6 rfl (by decide) h.1 (by decide) rfl (by decide +kernel) rfl dX6_settle_43 ?_
    obtain ⟨a_15, z, h⟩ := h.2
    refine q_ref z ?_
    refine q_iload_n C dX6_settle_46 rfl (j := 4) rfl ?_
    refine q_iconst (v := 0) C dX6_settle_47 (by decide) ?_
    refine q_ci (q_runV (As := [.int i1, .int 0]) (st := [.int (iM M a_5 i1.toNatClampNeg)]) C (c_X3_get l D cA lo h.2) (cwV 2 C.2.2.2.2.1 gX6_settle_X3_get rfl rfl rfl (by decide +kernel) ⟨Nat.le_of_ble_eq_true rfl, Nat.le_of_ble_eq_true rfl⟩) h.1 (by decide) rfl rfl rfl (Nat.le_of_ble_eq_true rfl) dX6_settle_48 ⟨Nat.le_of_ble_eq_true rfl, Nat.le_of_ble_eq_true rfl⟩) (fun r_16 M_z h => ?_)
    refine q_mem h.1 ?_
    have h := h.2
    refine q_icmp_ne (tgt := 81) C dX6_settle_51 (by decide) (fun z => ?_) (fun z => ?_)
    · have h := h.1 z
      refine q_iconst (v := 1) C dX6_settle_81 (by decide) ?_
      refine q_goto (tgt := 86) C dX6_settle_82 (by decide) ?_
      exact q_sub [3, 4, 2, 1, 0] rfl h
    · have h := h.2 z
      refine q_iload_n C dX6_settle_54 rfl (j := 1) rfl ?_
      refine q_aload_n C dX6_settle_55 rfl (j := 3) rfl ?_
      refine q_getR (ci := 6) (k0 := 0) (T := TX6) C inX6_settle_X6 rfl (by decide) h.1 (by decide) rfl (by decide +kernel) rfl dX6_settle_56 ?_
      obtain ⟨a_17, z, h⟩ := h.2
      refine q_ref z ?_
      refine q_iload_n C dX6_settle_59 rfl (j := 4) rfl ?_
      refine q_iconst (v := 1) C dX6_settle_60 (by decide) ?_
      refine q_ci (q_runV (As := [.int i1, .int 1]) (st := [.int (iM M a_9 i1.toNatClampNeg)]) C (c_X3_get l D cA lo h.2) (cwV 2 C.2.2.2.2.1 gX6_settle_X3_get rfl rfl rfl (by decide +kernel) ⟨Nat.le_of_ble_eq_true rfl, Nat.le_of_ble_eq_true rfl⟩) h.1 (by decide) rfl rfl rfl (Nat.le_of_ble_eq_true rfl) dX6_settle_61 ⟨Nat.le_of_ble_eq_true rfl, Nat.le_of_ble_eq_true rfl⟩) (fun r_18 M_z h => ?_)
      refine q_mem h.1 ?_
      have h := h.2
      refine q_icmp_ne (tgt := 81) C dX6_settle_64 (by decide) (fun z => ?_) (fun z => ?_)
      · have h := h.1 z
        refine q_iconst (v := 1) C dX6_settle_81 (by decide) ?_
        refine q_goto (tgt := 86) C dX6_settle_82 (by decide) ?_
        exact q_sub [3, 4, 2, 1, 0] rfl h
      · have h := h.2 z
        refine q_iload C dX6_settle_67 (j := 0) rfl ?_
        refine q_aload_n C dX6_settle_69 rfl (j := 3) rfl ?_
        refine q_getR (ci := 6) (k0 := 0) (T := TX6) C inX6_settle_X6 rfl (by decide) h.1 (by decide) rfl (by decide +kernel) rfl dX6_settle_70 ?_
        obtain ⟨a_19, z, h⟩ := h.2
        refine q_ref z ?_
        refine q_iload_n C dX6_settle_73 rfl (j := 4) rfl ?_
        refine q_iconst (v := 2) C dX6_settle_74 (by decide) ?_
        refine q_ci (q_runV (As := [.int i1, .int 2]) (st := [.int (iM M a_13 i1.toNatClampNeg)]) C (c_X3_get l D cA lo h.2) (cwV 2 C.2.2.2.2.1 gX6_settle_X3_get rfl rfl rfl (by decide +kernel) ⟨Nat.le_of_ble_eq_true rfl, Nat.le_of_ble_eq_true rfl⟩) h.1 (by decide) rfl rfl rfl (Nat.le_of_ble_eq_true rfl) dX6_settle_75 ⟨Nat.le_of_ble_eq_true rfl, Nat.le_of_ble_eq_true rfl⟩) (fun r_20 M_z h => ?_)
        refine q_mem h.1 ?_
        have h := h.2
        refine q_icmp_eq (tgt := 85) C dX6_settle_78 (by decide) (fun z => ?_) (fun z => ?_)
        · have h := h.1 z
          refine q_iconst (v := 0) C dX6_settle_85 (by decide) ?_
          exact q_sub [3, 4, 2, 1, 0] rfl h
        · have h := h.2 z
          refine q_iconst (v := 1) C dX6_settle_81 (by decide) ?_
          refine q_goto (tgt := 86) C dX6_settle_82 (by decide) ?_
          exact q_sub [3, 4, 2, 1, 0] rfl h
  · have h := h.2 z
    refine q_iconst (v := 0) C dX6_settle_11 (by decide) ?_
    exact q_zret C hr hlk dX6_settle_12 (Nat.le_of_ble_eq_true rfl) (Nat.le_of_ble_eq_true rfl) (Or.inl rfl) h
def S_X6_apply_2 (K2 : Nat → Int32 → Mm → Prop) (K61 : Nat → Int32 → Int32 → Mm → Prop) (K10 : Nat → Int32 → Int32 → Mm → Prop) (Q : Int32 → Mm → Prop) (M : Mm) (a0 : Nat) (i1 : Int32) : Prop := (100 ≤ i1 → K61 a0 0 0 M) ∧ (¬ 100 ≤ i1 → K10 a0 i1 0 M)
def S_X6_apply_61 (K2 : Nat → Int32 → Mm → Prop) (K61 : Nat → Int32 → Int32 → Mm → Prop) (K10 : Nat → Int32 → Int32 → Mm → Prop) (Q : Int32 → Mm → Prop) (M : Mm) (a0 : Nat) (i1 : Int32) (i2 : Int32) : Prop := (100 ≤ i2 → Q i1 M) ∧ (¬ 100 ≤ i2 → kM M a0 = (6, 3) ∧ T_X6_settle M a0 i2 (fun r_1 M_2 => (r_1 = 0 → K61 a0 (i1 + 0) (i2 + 1) M_2) ∧ (¬ r_1 = 0 → K61 a0 (i1 + 1) (i2 + 1) M_2)))
def S_X6_apply_10 (K2 : Nat → Int32 → Mm → Prop) (K61 : Nat → Int32 → Int32 → Mm → Prop) (K10 : Nat → Int32 → Int32 → Mm → Prop) (Q : Int32 → Mm → Prop) (M : Mm) (a0 : Nat) (i1 : Int32) (i2 : Int32) : Prop := (3 ≤ i2 → kM M a0 = (6, 3) ∧ T_X6_isAtOpenHalf M a0 i1 (fun r_3 => (¬ r_3 = 0 → K2 a0 (i1 + 1) M) ∧ (r_3 = 0 → kM M a0 = (6, 3) ∧ T_X6_findPlace M a0 i1 (fun M_5 => K2 a0 (i1 + 1) M_5)))) ∧ (¬ 3 ≤ i2 → kM M a0 = (6, 3) ∧ ∃ a_6 : Nat, rM M a0 2 = some a_6 ∧ ∃ n_7 : Nat, kM M a_6 = (121, n_7) ∧ vp_in i2 n_7 ∧ ∃ a_8 : Nat, rM M a_6 i2.toNatClampNeg = some a_8 ∧ kM M a0 = (6, 3) ∧ ∃ a_9 : Nat, rM M a0 0 = some a_9 ∧ kM M a_9 = (3, 4) ∧ T_X3_get M a_9 i1 i2 (fun r_10 => ∃ n_11 : Nat, kM M a_8 = (100, n_11) ∧ vp_in i1 n_11 ∧ K10 a0 i1 (i2 + 1) (wI M a_8 i1.toNatClampNeg r_10)))
def T_X6_apply (M : Mm) (a0 : Nat) (Q : Int32 → Mm → Prop) : Prop := ∀ (K2 : Nat → Int32 → Mm → Prop) (K61 : Nat → Int32 → Int32 → Mm → Prop) (K10 : Nat → Int32 → Int32 → Mm → Prop), (∀ (a0 : Nat) (i1 : Int32) (M : Mm), S_X6_apply_2 K2 K61 K10 Q M a0 i1 → K2 a0 i1 M) → (∀ (a0 : Nat) (i1 : Int32) (i2 : Int32) (M : Mm), S_X6_apply_61 K2 K61 K10 Q M a0 i1 i2 → K61 a0 i1 i2 M) → (∀ (a0 : Nat) (i1 : Int32) (i2 : Int32) (M : Mm), S_X6_apply_10 K2 K61 K10 Q M a0 i1 i2 → K10 a0 i1 i2 M) → K2 a0 0 M
theorem inX6_apply_X6 : ∀ w ∈ wsX60, w ∈ wsX6_apply := by decide +kernel
set_option maxRecDepth 100000 in
set_option maxHeartbeats 4000000 in
theorem b_X6_apply_2 {p : Program} {l : Launch} {e : Env} {s : State} {m : MethodId} {args : Array Value} {below : List Frame} {meth : Method} {c : Code} {D : va_G} {cA : Nat → ClassId} {lo : Nat} (C : Cx p s m args c cX6_apply 3 RX6 wsX6_apply D cA lo) (hr : meth.sig.returnType = (some .int)) (hlk : meth.locks = false) {Q : Int32 → Mm → Prop} (M : Mm) (a0 : Nat) (i1 : Int32) (h : S_X6_apply_2 (fun (a0 : Nat) (i1 : Int32) (M : Mm) => QW p l e ({ frames := 4, cells := 0, slots := 0, locals := 92 } : Room) s m args below meth c (MQ below (QiM D cA lo Q) args s 0 0 (fun q => lo ≤ q)) 3 D cA lo 0 0 M 2 [(0, .ref a0), (1, .int i1)] []) (fun (a0 : Nat) (i1 : Int32) (i2 : Int32) (M : Mm) => QW p l e ({ frames := 4, cells := 0, slots := 0, locals := 92 } : Room) s m args below meth c (MQ below (QiM D cA lo Q) args s 0 0 (fun q => lo ≤ q)) 3 D cA lo 0 0 M 61 [(0, .ref a0), (1, .int i1), (2, .int i2)] []) (fun (a0 : Nat) (i1 : Int32) (i2 : Int32) (M : Mm) => QW p l e ({ frames := 4, cells := 0, slots := 0, locals := 92 } : Room) s m args below meth c (MQ below (QiM D cA lo Q) args s 0 0 (fun q => lo ≤ q)) 3 D cA lo 0 0 M 10 [(0, .ref a0), (1, .int i1), (2, .int i2)] []) Q M a0 i1) : QW p l e ({ frames := 4, cells := 0, slots := 0, locals := 92 } : Room) s m args below meth c (MQ below (QiM D cA lo Q) args s 0 0 (fun q => lo ≤ q)) 3 D cA lo 0 0 M 2 [(0, .ref a0), (1, .int i1)] [] := by
  unfold S_X6_apply_2 at h
  refine q_iload_n C dX6_apply_2 rfl (j := 1) rfl ?_
  refine q_bipush (v := 100) C dX6_apply_3 (by decide) ?_
  refine q_icmp_ge (tgt := 57) C dX6_apply_5 (by decide) (fun z => ?_) (fun z => ?_)
  · have h := h.1 z
    refine q_iconst (v := 0) C dX6_apply_57 (by decide) ?_
    refine q_istore_n (lv' := [(1, .int 0), (0, .ref a0)]) C dX6_apply_58 rfl (by decide) rfl ?_
    refine q_iconst (v := 0) C dX6_apply_59 (by decide) ?_
    refine q_istore_n (lv' := [(2, .int 0), (1, .int 0), (0, .ref a0)]) C dX6_apply_60 rfl (by decide) rfl ?_
    exact q_sub [2, 1, 0] rfl h
  · have h := h.2 z
    refine q_iconst (v := 0) C dX6_apply_8 (by decide) ?_
    refine q_istore_n (lv' := [(2, .int 0), (0, .ref a0), (1, .int i1)]) C dX6_apply_9 rfl (by decide) rfl ?_
    exact q_sub [1, 2, 0] rfl h
set_option maxRecDepth 100000 in
set_option maxHeartbeats 4000000 in
theorem b_X6_apply_61 {p : Program} {l : Launch} {e : Env} {s : State} {m : MethodId} {args : Array Value} {below : List Frame} {meth : Method} {c : Code} {D : va_G} {cA : Nat → ClassId} {lo : Nat} (C : Cx p s m args c cX6_apply 3 RX6 wsX6_apply D cA lo) (hr : meth.sig.returnType = (some .int)) (hlk : meth.locks = false) {Q : Int32 → Mm → Prop} (M : Mm) (a0 : Nat) (i1 : Int32) (i2 : Int32) (h : S_X6_apply_61 (fun (a0 : Nat) (i1 : Int32) (M : Mm) => QW p l e ({ frames := 4, cells := 0, slots := 0, locals := 92 } : Room) s m args below meth c (MQ below (QiM D cA lo Q) args s 0 0 (fun q => lo ≤ q)) 3 D cA lo 0 0 M 2 [(0, .ref a0), (1, .int i1)] []) (fun (a0 : Nat) (i1 : Int32) (i2 : Int32) (M : Mm) => QW p l e ({ frames := 4, cells := 0, slots := 0, locals := 92 } : Room) s m args below meth c (MQ below (QiM D cA lo Q) args s 0 0 (fun q => lo ≤ q)) 3 D cA lo 0 0 M 61 [(0, .ref a0), (1, .int i1), (2, .int i2)] []) (fun (a0 : Nat) (i1 : Int32) (i2 : Int32) (M : Mm) => QW p l e ({ frames := 4, cells := 0, slots := 0, locals := 92 } : Room) s m args below meth c (MQ below (QiM D cA lo Q) args s 0 0 (fun q => lo ≤ q)) 3 D cA lo 0 0 M 10 [(0, .ref a0), (1, .int i1), (2, .int i2)] []) Q M a0 i1 i2) : QW p l e ({ frames := 4, cells := 0, slots := 0, locals := 92 } : Room) s m args below meth c (MQ below (QiM D cA lo Q) args s 0 0 (fun q => lo ≤ q)) 3 D cA lo 0 0 M 61 [(0, .ref a0), (1, .int i1), (2, .int i2)] [] := by
  unfold S_X6_apply_61 at h
  refine q_iload_n C dX6_apply_61 rfl (j := 2) rfl ?_
  refine q_bipush (v := 100) C dX6_apply_62 (by decide) ?_
  refine q_icmp_ge (tgt := 89) C dX6_apply_64 (by decide) (fun z => ?_) (fun z => ?_)
  · have h := h.1 z
    refine q_iload_n C dX6_apply_89 rfl (j := 1) rfl ?_
    exact q_iret C hr hlk dX6_apply_90 (Nat.le_of_ble_eq_true rfl) (Nat.le_of_ble_eq_true rfl) h
  · have h := h.2 z
    refine q_iload_n C dX6_apply_67 rfl (j := 1) rfl ?_
    refine q_aload_n C dX6_apply_68 rfl (j := 0) rfl ?_
    refine q_iload_n C dX6_apply_69 rfl (j := 2) rfl ?_
    refine q_ci (q_runV (As := [.int i2]) (st := [.int i1]) C (c_X6_settle l D cA lo h.2) (cwV 1 C.2.2.2.2.1 gX6_apply_X6_settle rfl rfl rfl (by decide +kernel) ⟨Nat.le_of_ble_eq_true rfl, Nat.le_of_ble_eq_true rfl⟩) h.1 (by decide) rfl rfl rfl (Nat.le_of_ble_eq_true rfl) dX6_apply_70 ⟨Nat.le_of_ble_eq_true rfl, Nat.le_of_ble_eq_true rfl⟩) (fun r_1 M_2 h => ?_)
    refine q_if_eq (tgt := 80) C dX6_apply_73 (by decide) (fun z => ?_) (fun z => ?_)
    · have h := h.1 z
      refine q_iconst (v := 0) C dX6_apply_80 (by decide) ?_
      refine q_iadd C dX6_apply_81 ?_
      refine q_istore_n (lv' := [(1, .int (i1 + 0)), (0, .ref a0), (2, .int i2)]) C dX6_apply_82 rfl (by decide) rfl ?_
      refine q_iinc (v := (i2 + 1)) (lv' := [(2, .int (i2 + 1)), (1, .int (i1 + 0)), (0, .ref a0)]) C dX6_apply_83 (j := 2) rfl rfl (by decide) rfl ?_
      refine q_goto (tgt := 61) C dX6_apply_86 (by decide) ?_
      exact q_sub [2, 1, 0] rfl h
    · have h := h.2 z
      refine q_iconst (v := 1) C dX6_apply_76 (by decide) ?_
      refine q_goto (tgt := 81) C dX6_apply_77 (by decide) ?_
      refine q_iadd C dX6_apply_81 ?_
      refine q_istore_n (lv' := [(1, .int (i1 + 1)), (0, .ref a0), (2, .int i2)]) C dX6_apply_82 rfl (by decide) rfl ?_
      refine q_iinc (v := (i2 + 1)) (lv' := [(2, .int (i2 + 1)), (1, .int (i1 + 1)), (0, .ref a0)]) C dX6_apply_83 (j := 2) rfl rfl (by decide) rfl ?_
      refine q_goto (tgt := 61) C dX6_apply_86 (by decide) ?_
      exact q_sub [2, 1, 0] rfl h
set_option maxRecDepth 100000 in
set_option maxHeartbeats 4000000 in
theorem b_X6_apply_10 {p : Program} {l : Launch} {e : Env} {s : State} {m : MethodId} {args : Array Value} {below : List Frame} {meth : Method} {c : Code} {D : va_G} {cA : Nat → ClassId} {lo : Nat} (C : Cx p s m args c cX6_apply 3 RX6 wsX6_apply D cA lo) (hr : meth.sig.returnType = (some .int)) (hlk : meth.locks = false) {Q : Int32 → Mm → Prop} (M : Mm) (a0 : Nat) (i1 : Int32) (i2 : Int32) (h : S_X6_apply_10 (fun (a0 : Nat) (i1 : Int32) (M : Mm) => QW p l e ({ frames := 4, cells := 0, slots := 0, locals := 92 } : Room) s m args below meth c (MQ below (QiM D cA lo Q) args s 0 0 (fun q => lo ≤ q)) 3 D cA lo 0 0 M 2 [(0, .ref a0), (1, .int i1)] []) (fun (a0 : Nat) (i1 : Int32) (i2 : Int32) (M : Mm) => QW p l e ({ frames := 4, cells := 0, slots := 0, locals := 92 } : Room) s m args below meth c (MQ below (QiM D cA lo Q) args s 0 0 (fun q => lo ≤ q)) 3 D cA lo 0 0 M 61 [(0, .ref a0), (1, .int i1), (2, .int i2)] []) (fun (a0 : Nat) (i1 : Int32) (i2 : Int32) (M : Mm) => QW p l e ({ frames := 4, cells := 0, slots := 0, locals := 92 } : Room) s m args below meth c (MQ below (QiM D cA lo Q) args s 0 0 (fun q => lo ≤ q)) 3 D cA lo 0 0 M 10 [(0, .ref a0), (1, .int i1), (2, .int i2)] []) Q M a0 i1 i2) : QW p l e ({ frames := 4, cells := 0, slots := 0, locals := 92 } : Room) s m args below meth c (MQ below (QiM D cA lo Q) args s 0 0 (fun q => lo ≤ q)) 3 D cA lo 0 0 M 10 [(0, .ref a0), (1, .int i1), (2, .int i2)] [] := by
  unfold S_X6_apply_10 at h
  refine q_iload_n C dX6_apply_10 rfl (j := 2) rfl ?_
  refine q_iconst (v := 3) C dX6_apply_11 (by decide) ?_
  refine q_icmp_ge (tgt := 38) C dX6_apply_12 (by decide) (fun z => ?_) (fun z => ?_)
  · have h := h.1 z
    refine q_aload_n C dX6_apply_38 rfl (j := 0) rfl ?_
    refine q_iload_n C dX6_apply_39 rfl (j := 1) rfl ?_
    refine q_ci (q_runV (As := [.int i1]) (st := []) C (c_X6_isAtOpenHalf l D cA lo h.2) (cwV 1 C.2.2.2.2.1 gX6_apply_X6_isAtOpenHalf rfl rfl rfl (by decide +kernel) ⟨Nat.le_of_ble_eq_true rfl, Nat.le_of_ble_eq_true rfl⟩) h.1 (by decide) rfl rfl rfl (Nat.le_of_ble_eq_true rfl) dX6_apply_40 ⟨Nat.le_of_ble_eq_true rfl, Nat.le_of_ble_eq_true rfl⟩) (fun r_3 M_z h => ?_)
    refine q_mem h.1 ?_
    have h := h.2
    refine q_if_ne (tgt := 51) C dX6_apply_43 (by decide) (fun z => ?_) (fun z => ?_)
    · have h := h.1 z
      refine q_iinc (v := (i1 + 1)) (lv' := [(1, .int (i1 + 1)), (0, .ref a0), (2, .int i2)]) C dX6_apply_51 (j := 1) rfl rfl (by decide) rfl ?_
      refine q_goto (tgt := 2) C dX6_apply_54 (by decide) ?_
      exact q_sub [1, 0] rfl h
    · have h := h.2 z
      refine q_aload_n C dX6_apply_46 rfl (j := 0) rfl ?_
      refine q_iload_n C dX6_apply_47 rfl (j := 1) rfl ?_
      refine q_cv (q_runV (As := [.int i1]) (st := []) C (c_X6_findPlace l D cA lo h.2) (cwV 1 C.2.2.2.2.1 gX6_apply_X6_findPlace rfl rfl rfl (by decide +kernel) ⟨Nat.le_of_ble_eq_true rfl, Nat.le_of_ble_eq_true rfl⟩) h.1 (by decide) rfl rfl rfl (Nat.le_of_ble_eq_true rfl) dX6_apply_48 ⟨Nat.le_of_ble_eq_true rfl, Nat.le_of_ble_eq_true rfl⟩) (fun M_5 h => ?_)
      refine q_iinc (v := (i1 + 1)) (lv' := [(1, .int (i1 + 1)), (0, .ref a0), (2, .int i2)]) C dX6_apply_51 (j := 1) rfl rfl (by decide) rfl ?_
      refine q_goto (tgt := 2) C dX6_apply_54 (by decide) ?_
      exact q_sub [1, 0] rfl h
  · have h := h.2 z
    refine q_aload_n C dX6_apply_15 rfl (j := 0) rfl ?_
    refine q_getR (ci := 6) (k0 := 2) (T := TX6) C inX6_apply_X6 rfl (by decide) h.1 (by decide) rfl (by decide +kernel) rfl dX6_apply_16 ?_
    obtain ⟨a_6, z, h⟩ := h.2
    refine q_ref z ?_
    refine q_iload_n C dX6_apply_19 rfl (j := 2) rfl ?_
    obtain ⟨n_7, z1, z2, h⟩ := h
    refine q_gald C z1 z2 dX6_apply_20 ?_
    obtain ⟨a_8, z, h⟩ := h
    refine q_ref z ?_
    refine q_iload_n C dX6_apply_21 rfl (j := 1) rfl ?_
    refine q_aload_n C dX6_apply_22 rfl (j := 0) rfl ?_
    refine q_getR (ci := 6) (k0 := 0) (T := TX6) C inX6_apply_X6 rfl (by decide) h.1 (by decide) rfl (by decide +kernel) rfl dX6_apply_23 ?_
    obtain ⟨a_9, z, h⟩ := h.2
    refine q_ref z ?_
    refine q_iload_n C dX6_apply_26 rfl (j := 1) rfl ?_
    refine q_iload_n C dX6_apply_27 rfl (j := 2) rfl ?_
    refine q_ci (q_runV (As := [.int i1, .int i2]) (st := [.int i1, .ref a_8]) C (c_X3_get l D cA lo h.2) (cwV 2 C.2.2.2.2.1 gX6_apply_X3_get rfl rfl rfl (by decide +kernel) ⟨Nat.le_of_ble_eq_true rfl, Nat.le_of_ble_eq_true rfl⟩) h.1 (by decide) rfl rfl rfl (Nat.le_of_ble_eq_true rfl) dX6_apply_28 ⟨Nat.le_of_ble_eq_true rfl, Nat.le_of_ble_eq_true rfl⟩) (fun r_10 M_z h => ?_)
    refine q_mem h.1 ?_
    have h := h.2
    obtain ⟨n_11, z1, z2, h⟩ := h
    refine q_iast C z1 z2 dX6_apply_31 ?_
    refine q_iinc (v := (i2 + 1)) (lv' := [(2, .int (i2 + 1)), (0, .ref a0), (1, .int i1)]) C dX6_apply_32 (j := 2) rfl rfl (by decide) rfl ?_
    refine q_goto (tgt := 10) C dX6_apply_35 (by decide) ?_
    exact q_sub [1, 2, 0] rfl h
set_option maxRecDepth 100000 in
set_option maxHeartbeats 4000000 in
theorem c_X6_apply (l : Launch) (D : va_G) (cA : Nat → ClassId) (lo : Nat) {M : Mm} {a0 : Nat} {Q : Int32 → Mm → Prop} (h : T_X6_apply M a0 Q) : Met l yX6_apply wsX6_apply ({ frames := 4, cells := 0, slots := 0, locals := 92 } : Room) (PcM D cA lo [.ref a0] M) (QiM D cA lo Q) 0 0 (fun q => lo ≤ q) := by
  refine q_start (cc := cX6_apply) (nL := 3) (ret := (some .int)) (by decide) rfl rfl (Nat.le_of_ble_eq_true rfl) ?_
  intro p e s m args below meth c C hr hlk hin
  unfold T_X6_apply at h
  have h := h (fun (a0 : Nat) (i1 : Int32) (M : Mm) => QW p l e ({ frames := 4, cells := 0, slots := 0, locals := 92 } : Room) s m args below meth c (MQ below (QiM D cA lo Q) args s 0 0 (fun q => lo ≤ q)) 3 D cA lo 0 0 M 2 [(0, .ref a0), (1, .int i1)] []) (fun (a0 : Nat) (i1 : Int32) (i2 : Int32) (M : Mm) => QW p l e ({ frames := 4, cells := 0, slots := 0, locals := 92 } : Room) s m args below meth c (MQ below (QiM D cA lo Q) args s 0 0 (fun q => lo ≤ q)) 3 D cA lo 0 0 M 61 [(0, .ref a0), (1, .int i1), (2, .int i2)] []) (fun (a0 : Nat) (i1 : Int32) (i2 : Int32) (M : Mm) => QW p l e ({ frames := 4, cells := 0, slots := 0, locals := 92 } : Room) s m args below meth c (MQ below (QiM D cA lo Q) args s 0 0 (fun q => lo ≤ q)) 3 D cA lo 0 0 M 10 [(0, .ref a0), (1, .int i1), (2, .int i2)] []) (fun a0 i1 M h => b_X6_apply_2 C hr hlk M a0 i1 h) (fun a0 i1 i2 M h => b_X6_apply_61 C hr hlk M a0 i1 i2 h) (fun a0 i1 i2 M h => b_X6_apply_10 C hr hlk M a0 i1 i2 h)
  refine q_iconst (v := 0) C dX6_apply_0 (by decide) ?_
  refine q_istore_n (lv' := [(1, .int 0), (0, .ref a0)]) C dX6_apply_1 rfl (by decide) rfl ?_
  exact q_sub [1, 0] rfl h
def T_X7_init (Cc Zz : Nat) (M : Mm) (a0 : Nat) (a1 : Nat) (a2 : Nat) (Q : Mm → Prop) : Prop := 0 + 1 ≤ Cc ∧ 0 + 160 ≤ Zz ∧ ∀ q_1 : Nat, frs M q_1 → kM (wN M q_1 101 160) a0 = (7, 6) ∧ (0 + 1) + 1 ≤ Cc ∧ (0 + 160) + 160 ≤ Zz ∧ ∀ q_2 : Nat, frs (wR (wN M q_1 101 160) a0 2 (some q_1)) q_2 → kM (wN (wR (wN M q_1 101 160) a0 2 (some q_1)) q_2 100 160) a0 = (7, 6) ∧ ((0 + 1) + 1) + 1 ≤ Cc ∧ ((0 + 160) + 160) + 100 ≤ Zz ∧ ∀ q_3 : Nat, frs (wR (wN (wR (wN M q_1 101 160) a0 2 (some q_1)) q_2 100 160) a0 3 (some q_2)) q_3 → kM (wN (wR (wN (wR (wN M q_1 101 160) a0 2 (some q_1)) q_2 100 160) a0 3 (some q_2)) q_3 100 100) a0 = (7, 6) ∧ kM (wR (wN (wR (wN (wR (wN M q_1 101 160) a0 2 (some q_1)) q_2 100 160) a0 3 (some q_2)) q_3 100 100) a0 4 (some q_3)) a0 = (7, 6) ∧ kM (wR (wR (wN (wR (wN (wR (wN M q_1 101 160) a0 2 (some q_1)) q_2 100 160) a0 3 (some q_2)) q_3 100 100) a0 4 (some q_3)) a0 0 (some a1)) a0 = (7, 6) ∧ (((0 + 1) + 1) + 1) ≤ Cc ∧ (((0 + 160) + 160) + 100) ≤ Zz ∧ Q (wR (wR (wR (wN (wR (wN (wR (wN M q_1 101 160) a0 2 (some q_1)) q_2 100 160) a0 3 (some q_2)) q_3 100 100) a0 4 (some q_3)) a0 0 (some a1)) a0 1 (some a2))
theorem inX7_init_X7 : ∀ w ∈ wsX70, w ∈ wsX7_init := by decide +kernel
set_option maxRecDepth 100000 in
set_option maxHeartbeats 4000000 in
theorem c_X7_init (l : Launch) (D : va_G) (cA : Nat → ClassId) (lo : Nat) {M : Mm} {a0 : Nat} {a1 : Nat} {a2 : Nat} {Cc Zz : Nat} {Q : Mm → Prop} (h : T_X7_init Cc Zz M a0 a1 a2 Q) : Met l yX7_init wsX7_init ({ frames := 1, cells := Cc, slots := Zz, locals := 20 } : Room) (PcM D cA lo [.ref a0, .ref a1, .ref a2] M) (QvM D cA lo Q) Cc Zz (fun q => lo ≤ q) := by
  refine q_start (cc := cX7_init) (nL := 3) (ret := none) (by decide) rfl rfl (Nat.le_of_ble_eq_true rfl) ?_
  intro p e s m args below meth c C hr hlk hin
  unfold T_X7_init at h
  refine q_aload_n C dX7_init_0 rfl (j := 0) rfl ?_
  refine q_objInit C (by decide +kernel) (by decide +kernel) (by decide +kernel) dX7_init_1 ⟨Nat.le_of_ble_eq_true rfl, Nat.le_of_ble_eq_true rfl⟩ ?_
  refine q_aload_n C dX7_init_4 rfl (j := 0) rfl ?_
  refine q_sipush (v := 160) C dX7_init_5 (by decide) ?_
  refine q_newZ (N := 160) C (by decide +kernel) (by decide) (by decide) (by decide) ⟨h.1, h.2.1⟩ dX7_init_8 (fun q_1 hq _ => ?_)
  have h := h.2.2 q_1 hq
  refine q_putFR (ci := 7) (k0 := 2) (T := TX7) (v := (some q_1)) (ty := .array .boolean) C inX7_init_X7 tyX7 tyX7_ok nmX7 rfl (by decide) h.1 (by decide) rfl (by decide +kernel) rfl hin rfl (by decide +kernel) rfl rfl rfl dX7_init_10 ?_
  have h := h.2
  refine q_aload_n C dX7_init_13 rfl (j := 0) rfl ?_
  refine q_sipush (v := 160) C dX7_init_14 (by decide) ?_
  refine q_newI (N := 160) C (by decide +kernel) (by decide) (by decide) (by decide) ⟨h.1, h.2.1⟩ dX7_init_17 (fun q_2 hq _ => ?_)
  have h := h.2.2 q_2 hq
  refine q_putFR (ci := 7) (k0 := 3) (T := TX7) (v := (some q_2)) (ty := .array .int) C inX7_init_X7 tyX7 tyX7_ok nmX7 rfl (by decide) h.1 (by decide) rfl (by decide +kernel) rfl hin rfl (by decide +kernel) rfl rfl rfl dX7_init_19 ?_
  have h := h.2
  refine q_aload_n C dX7_init_22 rfl (j := 0) rfl ?_
  refine q_bipush (v := 100) C dX7_init_23 (by decide) ?_
  refine q_newI (N := 100) C (by decide +kernel) (by decide) (by decide) (by decide) ⟨h.1, h.2.1⟩ dX7_init_25 (fun q_3 hq _ => ?_)
  have h := h.2.2 q_3 hq
  refine q_putFR (ci := 7) (k0 := 4) (T := TX7) (v := (some q_3)) (ty := .array .int) C inX7_init_X7 tyX7 tyX7_ok nmX7 rfl (by decide) h.1 (by decide) rfl (by decide +kernel) rfl hin rfl (by decide +kernel) rfl rfl rfl dX7_init_27 ?_
  have h := h.2
  refine q_aload_n C dX7_init_30 rfl (j := 0) rfl ?_
  refine q_aload_n C dX7_init_31 rfl (j := 1) rfl ?_
  refine q_putFR (ci := 7) (k0 := 0) (T := TX7) (v := (some a1)) (ty := .object "QuarryMesh$Faces") C inX7_init_X7 tyX7 tyX7_ok nmX7 rfl (by decide) h.1 (by decide) rfl (by decide +kernel) rfl hin rfl (by decide +kernel) rfl rfl rfl dX7_init_32 ?_
  have h := h.2
  refine q_aload_n C dX7_init_35 rfl (j := 0) rfl ?_
  refine q_aload_n C dX7_init_36 rfl (j := 2) rfl ?_
  refine q_putFR (ci := 7) (k0 := 1) (T := TX7) (v := (some a2)) (ty := .object "QuarryMesh$HalfMarks") C inX7_init_X7 tyX7 tyX7_ok nmX7 rfl (by decide) h.1 (by decide) rfl (by decide +kernel) rfl hin rfl (by decide +kernel) rfl rfl rfl dX7_init_37 ?_
  have h := h.2
  exact q_vret C hr hlk dX7_init_40 h.1 h.2.1 h.2.2
def S_X7_facesAt_4 (K4 : Nat → Int32 → Int32 → Int32 → Prop) (Q : Int32 → Prop) (M : Mm) (a0 : Nat) (i1 : Int32) (i2 : Int32) (i3 : Int32) : Prop := (100 ≤ i3 → Q i2) ∧ (¬ 100 ≤ i3 → kM M a0 = (7, 6) ∧ ∃ a_1 : Nat, rM M a0 0 = some a_1 ∧ kM M a_1 = (1, 5) ∧ T_X1_owner M a_1 i1 i3 (fun r_2 => (r_2 = (-1) → K4 a0 i1 (i2 + 0) (i3 + 1)) ∧ (¬ r_2 = (-1) → K4 a0 i1 (i2 + 1) (i3 + 1))))
def T_X7_facesAt (M : Mm) (a0 : Nat) (i1 : Int32) (Q : Int32 → Prop) : Prop := ∀ (K4 : Nat → Int32 → Int32 → Int32 → Prop), (∀ (a0 : Nat) (i1 : Int32) (i2 : Int32) (i3 : Int32), S_X7_facesAt_4 K4 Q M a0 i1 i2 i3 → K4 a0 i1 i2 i3) → K4 a0 i1 0 0
theorem inX7_facesAt_X7 : ∀ w ∈ wsX70, w ∈ wsX7_facesAt := by decide +kernel
set_option maxRecDepth 100000 in
set_option maxHeartbeats 4000000 in
theorem b_X7_facesAt_4 {p : Program} {l : Launch} {e : Env} {s : State} {m : MethodId} {args : Array Value} {below : List Frame} {meth : Method} {c : Code} {D : va_G} {cA : Nat → ClassId} {lo : Nat} (C : Cx p s m args c cX7_facesAt 4 RX7 wsX7_facesAt D cA lo) (hr : meth.sig.returnType = (some .int)) (hlk : meth.locks = false) {Q : Int32 → Prop} {M : Mm} (a0 : Nat) (i1 : Int32) (i2 : Int32) (i3 : Int32) (h : S_X7_facesAt_4 (fun (a0 : Nat) (i1 : Int32) (i2 : Int32) (i3 : Int32) => QW p l e ({ frames := 1, cells := 0, slots := 0, locals := 22 } : Room) s m args below meth c (MQ below (QiM D cA lo (fun r M1 => M1 = M ∧ Q r)) args s 0 0 (fun q => lo ≤ q)) 4 D cA lo 0 0 M 4 [(0, .ref a0), (1, .int i1), (2, .int i2), (3, .int i3)] []) Q M a0 i1 i2 i3) : QW p l e ({ frames := 1, cells := 0, slots := 0, locals := 22 } : Room) s m args below meth c (MQ below (QiM D cA lo (fun r M1 => M1 = M ∧ Q r)) args s 0 0 (fun q => lo ≤ q)) 4 D cA lo 0 0 M 4 [(0, .ref a0), (1, .int i1), (2, .int i2), (3, .int i3)] [] := by
  unfold S_X7_facesAt_4 at h
  refine q_iload_n C dX7_facesAt_4 rfl (j := 3) rfl ?_
  refine q_bipush (v := 100) C dX7_facesAt_5 (by decide) ?_
  refine q_icmp_ge (tgt := 37) C dX7_facesAt_7 (by decide) (fun z => ?_) (fun z => ?_)
  · have h := h.1 z
    refine q_iload_n C dX7_facesAt_37 rfl (j := 2) rfl ?_
    exact q_iret C hr hlk dX7_facesAt_38 (Nat.le_of_ble_eq_true rfl) (Nat.le_of_ble_eq_true rfl) ⟨rfl, h⟩
  · have h := h.2 z
    refine q_iload_n C dX7_facesAt_10 rfl (j := 2) rfl ?_
    refine q_aload_n C dX7_facesAt_11 rfl (j := 0) rfl ?_
    refine q_getR (ci := 7) (k0 := 0) (T := TX7) C inX7_facesAt_X7 rfl (by decide) h.1 (by decide) rfl (by decide +kernel) rfl dX7_facesAt_12 ?_
    obtain ⟨a_1, z, h⟩ := h.2
    refine q_ref z ?_
    refine q_iload_n C dX7_facesAt_15 rfl (j := 1) rfl ?_
    refine q_iload_n C dX7_facesAt_16 rfl (j := 3) rfl ?_
    refine q_ci (q_runV (As := [.int i1, .int i3]) (st := [.int i2]) C (c_X1_owner l D cA lo h.2) (cwV 2 C.2.2.2.2.1 gX7_facesAt_X1_owner rfl rfl rfl (by decide +kernel) ⟨Nat.le_of_ble_eq_true rfl, Nat.le_of_ble_eq_true rfl⟩) h.1 (by decide) rfl rfl rfl (Nat.le_of_ble_eq_true rfl) dX7_facesAt_17 ⟨Nat.le_of_ble_eq_true rfl, Nat.le_of_ble_eq_true rfl⟩) (fun r_2 M_z h => ?_)
    refine q_mem h.1 ?_
    have h := h.2
    refine q_iconst (v := (-1)) C dX7_facesAt_20 (by decide) ?_
    refine q_icmp_eq (tgt := 28) C dX7_facesAt_21 (by decide) (fun z => ?_) (fun z => ?_)
    · have h := h.1 z
      refine q_iconst (v := 0) C dX7_facesAt_28 (by decide) ?_
      refine q_iadd C dX7_facesAt_29 ?_
      refine q_istore_n (lv' := [(2, .int (i2 + 0)), (0, .ref a0), (1, .int i1), (3, .int i3)]) C dX7_facesAt_30 rfl (by decide) rfl ?_
      refine q_iinc (v := (i3 + 1)) (lv' := [(3, .int (i3 + 1)), (2, .int (i2 + 0)), (0, .ref a0), (1, .int i1)]) C dX7_facesAt_31 (j := 3) rfl rfl (by decide) rfl ?_
      refine q_goto (tgt := 4) C dX7_facesAt_34 (by decide) ?_
      exact q_sub [2, 3, 1, 0] rfl h
    · have h := h.2 z
      refine q_iconst (v := 1) C dX7_facesAt_24 (by decide) ?_
      refine q_goto (tgt := 29) C dX7_facesAt_25 (by decide) ?_
      refine q_iadd C dX7_facesAt_29 ?_
      refine q_istore_n (lv' := [(2, .int (i2 + 1)), (0, .ref a0), (1, .int i1), (3, .int i3)]) C dX7_facesAt_30 rfl (by decide) rfl ?_
      refine q_iinc (v := (i3 + 1)) (lv' := [(3, .int (i3 + 1)), (2, .int (i2 + 1)), (0, .ref a0), (1, .int i1)]) C dX7_facesAt_31 (j := 3) rfl rfl (by decide) rfl ?_
      refine q_goto (tgt := 4) C dX7_facesAt_34 (by decide) ?_
      exact q_sub [2, 3, 1, 0] rfl h
set_option maxRecDepth 100000 in
set_option maxHeartbeats 4000000 in
theorem c_X7_facesAt (l : Launch) (D : va_G) (cA : Nat → ClassId) (lo : Nat) {M : Mm} {a0 : Nat} {i1 : Int32} {Q : Int32 → Prop} (h : T_X7_facesAt M a0 i1 Q) : Met l yX7_facesAt wsX7_facesAt ({ frames := 1, cells := 0, slots := 0, locals := 22 } : Room) (PcM D cA lo [.ref a0, .int i1] M) (QiM D cA lo (fun r M1 => M1 = M ∧ Q r)) 0 0 (fun q => lo ≤ q) := by
  refine q_start (cc := cX7_facesAt) (nL := 4) (ret := (some .int)) (by decide) rfl rfl (Nat.le_of_ble_eq_true rfl) ?_
  intro p e s m args below meth c C hr hlk hin
  unfold T_X7_facesAt at h
  have h := h (fun (a0 : Nat) (i1 : Int32) (i2 : Int32) (i3 : Int32) => QW p l e ({ frames := 1, cells := 0, slots := 0, locals := 22 } : Room) s m args below meth c (MQ below (QiM D cA lo (fun r M1 => M1 = M ∧ Q r)) args s 0 0 (fun q => lo ≤ q)) 4 D cA lo 0 0 M 4 [(0, .ref a0), (1, .int i1), (2, .int i2), (3, .int i3)] []) (fun a0 i1 i2 i3 h => b_X7_facesAt_4 C hr hlk a0 i1 i2 i3 h)
  refine q_iconst (v := 0) C dX7_facesAt_0 (by decide) ?_
  refine q_istore_n (lv' := [(2, .int 0), (0, .ref a0), (1, .int i1)]) C dX7_facesAt_1 rfl (by decide) rfl ?_
  refine q_iconst (v := 0) C dX7_facesAt_2 (by decide) ?_
  refine q_istore_n (lv' := [(3, .int 0), (2, .int 0), (0, .ref a0), (1, .int i1)]) C dX7_facesAt_3 rfl (by decide) rfl ?_
  exact q_sub [2, 3, 1, 0] rfl h
def S_X7_openFrom_4 (K4 : Nat → Int32 → Int32 → Int32 → Prop) (Q : Int32 → Prop) (M : Mm) (a0 : Nat) (i1 : Int32) (i2 : Int32) (i3 : Int32) : Prop := (100 ≤ i3 → Q i2) ∧ (¬ 100 ≤ i3 → kM M a0 = (7, 6) ∧ ∃ a_1 : Nat, rM M a0 0 = some a_1 ∧ kM M a_1 = (1, 5) ∧ T_X1_isOpen M a_1 i1 i3 (fun r_2 => (r_2 = 0 → K4 a0 i1 (i2 + 0) (i3 + 1)) ∧ (¬ r_2 = 0 → K4 a0 i1 (i2 + 1) (i3 + 1))))
def T_X7_openFrom (M : Mm) (a0 : Nat) (i1 : Int32) (Q : Int32 → Prop) : Prop := ∀ (K4 : Nat → Int32 → Int32 → Int32 → Prop), (∀ (a0 : Nat) (i1 : Int32) (i2 : Int32) (i3 : Int32), S_X7_openFrom_4 K4 Q M a0 i1 i2 i3 → K4 a0 i1 i2 i3) → K4 a0 i1 0 0
theorem inX7_openFrom_X7 : ∀ w ∈ wsX70, w ∈ wsX7_openFrom := by decide +kernel
set_option maxRecDepth 100000 in
set_option maxHeartbeats 4000000 in
theorem b_X7_openFrom_4 {p : Program} {l : Launch} {e : Env} {s : State} {m : MethodId} {args : Array Value} {below : List Frame} {meth : Method} {c : Code} {D : va_G} {cA : Nat → ClassId} {lo : Nat} (C : Cx p s m args c cX7_openFrom 4 RX7 wsX7_openFrom D cA lo) (hr : meth.sig.returnType = (some .int)) (hlk : meth.locks = false) {Q : Int32 → Prop} {M : Mm} (a0 : Nat) (i1 : Int32) (i2 : Int32) (i3 : Int32) (h : S_X7_openFrom_4 (fun (a0 : Nat) (i1 : Int32) (i2 : Int32) (i3 : Int32) => QW p l e ({ frames := 2, cells := 0, slots := 0, locals := 44 } : Room) s m args below meth c (MQ below (QiM D cA lo (fun r M1 => M1 = M ∧ Q r)) args s 0 0 (fun q => lo ≤ q)) 4 D cA lo 0 0 M 4 [(0, .ref a0), (1, .int i1), (2, .int i2), (3, .int i3)] []) Q M a0 i1 i2 i3) : QW p l e ({ frames := 2, cells := 0, slots := 0, locals := 44 } : Room) s m args below meth c (MQ below (QiM D cA lo (fun r M1 => M1 = M ∧ Q r)) args s 0 0 (fun q => lo ≤ q)) 4 D cA lo 0 0 M 4 [(0, .ref a0), (1, .int i1), (2, .int i2), (3, .int i3)] [] := by
  unfold S_X7_openFrom_4 at h
  refine q_iload_n C dX7_openFrom_4 rfl (j := 3) rfl ?_
  refine q_bipush (v := 100) C dX7_openFrom_5 (by decide) ?_
  refine q_icmp_ge (tgt := 36) C dX7_openFrom_7 (by decide) (fun z => ?_) (fun z => ?_)
  · have h := h.1 z
    refine q_iload_n C dX7_openFrom_36 rfl (j := 2) rfl ?_
    exact q_iret C hr hlk dX7_openFrom_37 (Nat.le_of_ble_eq_true rfl) (Nat.le_of_ble_eq_true rfl) ⟨rfl, h⟩
  · have h := h.2 z
    refine q_iload_n C dX7_openFrom_10 rfl (j := 2) rfl ?_
    refine q_aload_n C dX7_openFrom_11 rfl (j := 0) rfl ?_
    refine q_getR (ci := 7) (k0 := 0) (T := TX7) C inX7_openFrom_X7 rfl (by decide) h.1 (by decide) rfl (by decide +kernel) rfl dX7_openFrom_12 ?_
    obtain ⟨a_1, z, h⟩ := h.2
    refine q_ref z ?_
    refine q_iload_n C dX7_openFrom_15 rfl (j := 1) rfl ?_
    refine q_iload_n C dX7_openFrom_16 rfl (j := 3) rfl ?_
    refine q_ci (q_runV (As := [.int i1, .int i3]) (st := [.int i2]) C (c_X1_isOpen l D cA lo h.2) (cwV 2 C.2.2.2.2.1 gX7_openFrom_X1_isOpen rfl rfl rfl (by decide +kernel) ⟨Nat.le_of_ble_eq_true rfl, Nat.le_of_ble_eq_true rfl⟩) h.1 (by decide) rfl rfl rfl (Nat.le_of_ble_eq_true rfl) dX7_openFrom_17 ⟨Nat.le_of_ble_eq_true rfl, Nat.le_of_ble_eq_true rfl⟩) (fun r_2 M_z h => ?_)
    refine q_mem h.1 ?_
    have h := h.2
    refine q_if_eq (tgt := 27) C dX7_openFrom_20 (by decide) (fun z => ?_) (fun z => ?_)
    · have h := h.1 z
      refine q_iconst (v := 0) C dX7_openFrom_27 (by decide) ?_
      refine q_iadd C dX7_openFrom_28 ?_
      refine q_istore_n (lv' := [(2, .int (i2 + 0)), (0, .ref a0), (1, .int i1), (3, .int i3)]) C dX7_openFrom_29 rfl (by decide) rfl ?_
      refine q_iinc (v := (i3 + 1)) (lv' := [(3, .int (i3 + 1)), (2, .int (i2 + 0)), (0, .ref a0), (1, .int i1)]) C dX7_openFrom_30 (j := 3) rfl rfl (by decide) rfl ?_
      refine q_goto (tgt := 4) C dX7_openFrom_33 (by decide) ?_
      exact q_sub [2, 3, 1, 0] rfl h
    · have h := h.2 z
      refine q_iconst (v := 1) C dX7_openFrom_23 (by decide) ?_
      refine q_goto (tgt := 28) C dX7_openFrom_24 (by decide) ?_
      refine q_iadd C dX7_openFrom_28 ?_
      refine q_istore_n (lv' := [(2, .int (i2 + 1)), (0, .ref a0), (1, .int i1), (3, .int i3)]) C dX7_openFrom_29 rfl (by decide) rfl ?_
      refine q_iinc (v := (i3 + 1)) (lv' := [(3, .int (i3 + 1)), (2, .int (i2 + 1)), (0, .ref a0), (1, .int i1)]) C dX7_openFrom_30 (j := 3) rfl rfl (by decide) rfl ?_
      refine q_goto (tgt := 4) C dX7_openFrom_33 (by decide) ?_
      exact q_sub [2, 3, 1, 0] rfl h
set_option maxRecDepth 100000 in
set_option maxHeartbeats 4000000 in
theorem c_X7_openFrom (l : Launch) (D : va_G) (cA : Nat → ClassId) (lo : Nat) {M : Mm} {a0 : Nat} {i1 : Int32} {Q : Int32 → Prop} (h : T_X7_openFrom M a0 i1 Q) : Met l yX7_openFrom wsX7_openFrom ({ frames := 2, cells := 0, slots := 0, locals := 44 } : Room) (PcM D cA lo [.ref a0, .int i1] M) (QiM D cA lo (fun r M1 => M1 = M ∧ Q r)) 0 0 (fun q => lo ≤ q) := by
  refine q_start (cc := cX7_openFrom) (nL := 4) (ret := (some .int)) (by decide) rfl rfl (Nat.le_of_ble_eq_true rfl) ?_
  intro p e s m args below meth c C hr hlk hin
  unfold T_X7_openFrom at h
  have h := h (fun (a0 : Nat) (i1 : Int32) (i2 : Int32) (i3 : Int32) => QW p l e ({ frames := 2, cells := 0, slots := 0, locals := 44 } : Room) s m args below meth c (MQ below (QiM D cA lo (fun r M1 => M1 = M ∧ Q r)) args s 0 0 (fun q => lo ≤ q)) 4 D cA lo 0 0 M 4 [(0, .ref a0), (1, .int i1), (2, .int i2), (3, .int i3)] []) (fun a0 i1 i2 i3 h => b_X7_openFrom_4 C hr hlk a0 i1 i2 i3 h)
  refine q_iconst (v := 0) C dX7_openFrom_0 (by decide) ?_
  refine q_istore_n (lv' := [(2, .int 0), (0, .ref a0), (1, .int i1)]) C dX7_openFrom_1 rfl (by decide) rfl ?_
  refine q_iconst (v := 0) C dX7_openFrom_2 (by decide) ?_
  refine q_istore_n (lv' := [(3, .int 0), (2, .int 0), (0, .ref a0), (1, .int i1)]) C dX7_openFrom_3 rfl (by decide) rfl ?_
  exact q_sub [2, 3, 1, 0] rfl h
def S_X7_markHole_22 (K22 : Nat → Int32 → Int32 → Int32 → Mm → Prop) (Q : Int32 → Mm → Prop) (M : Mm) (a0 : Nat) (i3 : Int32) (i4 : Int32) (i5 : Int32) : Prop := (1920 ≤ i5 → Q i5 M) ∧ (¬ 1920 ≤ i5 → kM M a0 = (7, 6) ∧ ∃ a_3 : Nat, rM M a0 1 = some a_3 ∧ kM M a_3 = (2, 2) ∧ T_X2_mark M a_3 i3 i4 (fun r_4 M_5 => (r_4 = 0 → Q i5 M_5) ∧ (¬ r_4 = 0 → kM M_5 a0 = (7, 6) ∧ ∃ a_6 : Nat, rM M_5 a0 0 = some a_6 ∧ kM M_5 a_6 = (1, 5) ∧ T_X1_nextOpen M_5 a_6 i3 i4 (fun r_7 => K22 a0 i4 r_7 (i5 + 1) M_5))))
def T_X7_markHole (M : Mm) (a0 : Nat) (i1 : Int32) (i2 : Int32) (Q : Int32 → Mm → Prop) : Prop := ∀ (K22 : Nat → Int32 → Int32 → Int32 → Mm → Prop), (∀ (a0 : Nat) (i3 : Int32) (i4 : Int32) (i5 : Int32) (M : Mm), S_X7_markHole_22 K22 Q M a0 i3 i4 i5 → K22 a0 i3 i4 i5 M) → kM M a0 = (7, 6) ∧ ∃ a_1 : Nat, rM M a0 0 = some a_1 ∧ kM M a_1 = (1, 5) ∧ T_X1_isOpen M a_1 i1 i2 (fun r_2 => (¬ r_2 = 0 → K22 a0 i1 i2 0 M) ∧ (r_2 = 0 → Q 0 M))
theorem inX7_markHole_X7 : ∀ w ∈ wsX70, w ∈ wsX7_markHole := by decide +kernel
set_option maxRecDepth 100000 in
set_option maxHeartbeats 4000000 in
theorem b_X7_markHole_22 {p : Program} {l : Launch} {e : Env} {s : State} {m : MethodId} {args : Array Value} {below : List Frame} {meth : Method} {c : Code} {D : va_G} {cA : Nat → ClassId} {lo : Nat} (C : Cx p s m args c cX7_markHole 7 RX7 wsX7_markHole D cA lo) (hr : meth.sig.returnType = (some .int)) (hlk : meth.locks = false) {Q : Int32 → Mm → Prop} (M : Mm) (a0 : Nat) (i3 : Int32) (i4 : Int32) (i5 : Int32) (h : S_X7_markHole_22 (fun (a0 : Nat) (i3 : Int32) (i4 : Int32) (i5 : Int32) (M : Mm) => QW p l e ({ frames := 3, cells := 0, slots := 0, locals := 70 } : Room) s m args below meth c (MQ below (QiM D cA lo Q) args s 0 0 (fun q => lo ≤ q)) 7 D cA lo 0 0 M 22 [(0, .ref a0), (3, .int i3), (4, .int i4), (5, .int i5)] []) Q M a0 i3 i4 i5) : QW p l e ({ frames := 3, cells := 0, slots := 0, locals := 70 } : Room) s m args below meth c (MQ below (QiM D cA lo Q) args s 0 0 (fun q => lo ≤ q)) 7 D cA lo 0 0 M 22 [(0, .ref a0), (3, .int i3), (4, .int i4), (5, .int i5)] [] := by
  unfold S_X7_markHole_22 at h
  refine q_iload C dX7_markHole_22 (j := 3) rfl ?_
  refine q_sipush (v := 1920) C dX7_markHole_24 (by decide) ?_
  refine q_icmp_ge (tgt := 68) C dX7_markHole_27 (by decide) (fun z => ?_) (fun z => ?_)
  · have h := h.1 z
    refine q_iload C dX7_markHole_68 (j := 3) rfl ?_
    exact q_iret C hr hlk dX7_markHole_70 (Nat.le_of_ble_eq_true rfl) (Nat.le_of_ble_eq_true rfl) h
  · have h := h.2 z
    refine q_aload_n C dX7_markHole_30 rfl (j := 0) rfl ?_
    refine q_getR (ci := 7) (k0 := 1) (T := TX7) C inX7_markHole_X7 rfl (by decide) h.1 (by decide) rfl (by decide +kernel) rfl dX7_markHole_31 ?_
    obtain ⟨a_3, z, h⟩ := h.2
    refine q_ref z ?_
    refine q_iload_n C dX7_markHole_34 rfl (j := 1) rfl ?_
    refine q_iload C dX7_markHole_35 (j := 2) rfl ?_
    refine q_ci (q_runV (As := [.int i3, .int i4]) (st := []) C (c_X2_mark l D cA lo h.2) (cwV 2 C.2.2.2.2.1 gX7_markHole_X2_mark rfl rfl rfl (by decide +kernel) ⟨Nat.le_of_ble_eq_true rfl, Nat.le_of_ble_eq_true rfl⟩) h.1 (by decide) rfl rfl rfl (Nat.le_of_ble_eq_true rfl) dX7_markHole_37 ⟨Nat.le_of_ble_eq_true rfl, Nat.le_of_ble_eq_true rfl⟩) (fun r_4 M_5 h => ?_)
    refine q_if_eq (tgt := 68) C dX7_markHole_40 (by decide) (fun z => ?_) (fun z => ?_)
    · have h := h.1 z
      refine q_iload C dX7_markHole_68 (j := 3) rfl ?_
      exact q_iret C hr hlk dX7_markHole_70 (Nat.le_of_ble_eq_true rfl) (Nat.le_of_ble_eq_true rfl) h
    · have h := h.2 z
      refine q_aload_n C dX7_markHole_43 rfl (j := 0) rfl ?_
      refine q_getR (ci := 7) (k0 := 0) (T := TX7) C inX7_markHole_X7 rfl (by decide) h.1 (by decide) rfl (by decide +kernel) rfl dX7_markHole_44 ?_
      obtain ⟨a_6, z, h⟩ := h.2
      refine q_ref z ?_
      refine q_iload_n C dX7_markHole_47 rfl (j := 1) rfl ?_
      refine q_iload C dX7_markHole_48 (j := 2) rfl ?_
      refine q_ci (q_runV (As := [.int i3, .int i4]) (st := []) C (c_X1_nextOpen l D cA lo h.2) (cwV 2 C.2.2.2.2.1 gX7_markHole_X1_nextOpen rfl rfl rfl (by decide +kernel) ⟨Nat.le_of_ble_eq_true rfl, Nat.le_of_ble_eq_true rfl⟩) h.1 (by decide) rfl rfl rfl (Nat.le_of_ble_eq_true rfl) dX7_markHole_50 ⟨Nat.le_of_ble_eq_true rfl, Nat.le_of_ble_eq_true rfl⟩) (fun r_7 M_z h => ?_)
      refine q_mem h.1 ?_
      have h := h.2
      refine q_istore (lv' := [(6, .int r_7), (0, .ref a0), (3, .int i3), (4, .int i4), (5, .int i5)]) C dX7_markHole_53 (by decide) rfl ?_
      refine q_iload C dX7_markHole_55 (j := 3) rfl ?_
      refine q_istore_n (lv' := [(3, .int i4), (6, .int r_7), (0, .ref a0), (4, .int i4), (5, .int i5)]) C dX7_markHole_57 rfl (by decide) rfl ?_
      refine q_iload C dX7_markHole_58 (j := 1) rfl ?_
      refine q_istore (lv' := [(4, .int r_7), (3, .int i4), (6, .int r_7), (0, .ref a0), (5, .int i5)]) C dX7_markHole_60 (by decide) rfl ?_
      refine q_iinc (v := (i5 + 1)) (lv' := [(5, .int (i5 + 1)), (4, .int r_7), (3, .int i4), (6, .int r_7), (0, .ref a0)]) C dX7_markHole_62 (j := 4) rfl rfl (by decide) rfl ?_
      refine q_goto (tgt := 22) C dX7_markHole_65 (by decide) ?_
      exact q_sub [4, 2, 1, 0] rfl h
set_option maxRecDepth 100000 in
set_option maxHeartbeats 4000000 in
theorem c_X7_markHole (l : Launch) (D : va_G) (cA : Nat → ClassId) (lo : Nat) {M : Mm} {a0 : Nat} {i1 : Int32} {i2 : Int32} {Q : Int32 → Mm → Prop} (h : T_X7_markHole M a0 i1 i2 Q) : Met l yX7_markHole wsX7_markHole ({ frames := 3, cells := 0, slots := 0, locals := 70 } : Room) (PcM D cA lo [.ref a0, .int i1, .int i2] M) (QiM D cA lo Q) 0 0 (fun q => lo ≤ q) := by
  refine q_start (cc := cX7_markHole) (nL := 7) (ret := (some .int)) (by decide) rfl rfl (Nat.le_of_ble_eq_true rfl) ?_
  intro p e s m args below meth c C hr hlk hin
  unfold T_X7_markHole at h
  have h := h (fun (a0 : Nat) (i3 : Int32) (i4 : Int32) (i5 : Int32) (M : Mm) => QW p l e ({ frames := 3, cells := 0, slots := 0, locals := 70 } : Room) s m args below meth c (MQ below (QiM D cA lo Q) args s 0 0 (fun q => lo ≤ q)) 7 D cA lo 0 0 M 22 [(0, .ref a0), (3, .int i3), (4, .int i4), (5, .int i5)] []) (fun a0 i3 i4 i5 M h => b_X7_markHole_22 C hr hlk M a0 i3 i4 i5 h)
  refine q_aload_n C dX7_markHole_0 rfl (j := 0) rfl ?_
  refine q_getR (ci := 7) (k0 := 0) (T := TX7) C inX7_markHole_X7 rfl (by decide) h.1 (by decide) rfl (by decide +kernel) rfl dX7_markHole_1 ?_
  obtain ⟨a_1, z, h⟩ := h.2
  refine q_ref z ?_
  refine q_iload_n C dX7_markHole_4 rfl (j := 1) rfl ?_
  refine q_iload_n C dX7_markHole_5 rfl (j := 2) rfl ?_
  refine q_ci (q_runV (As := [.int i1, .int i2]) (st := []) C (c_X1_isOpen l D cA lo h.2) (cwV 2 C.2.2.2.2.1 gX7_markHole_X1_isOpen rfl rfl rfl (by decide +kernel) ⟨Nat.le_of_ble_eq_true rfl, Nat.le_of_ble_eq_true rfl⟩) h.1 (by decide) rfl rfl rfl (Nat.le_of_ble_eq_true rfl) dX7_markHole_6 ⟨Nat.le_of_ble_eq_true rfl, Nat.le_of_ble_eq_true rfl⟩) (fun r_2 M_z h => ?_)
  refine q_mem h.1 ?_
  have h := h.2
  refine q_if_ne (tgt := 14) C dX7_markHole_9 (by decide) (fun z => ?_) (fun z => ?_)
  · have h := h.1 z
    refine q_iload_n C dX7_markHole_14 rfl (j := 1) rfl ?_
    refine q_istore_n (lv' := [(3, .int i1), (0, .ref a0), (1, .int i1), (2, .int i2)]) C dX7_markHole_15 rfl (by decide) rfl ?_
    refine q_iload_n C dX7_markHole_16 rfl (j := 3) rfl ?_
    refine q_istore (lv' := [(4, .int i2), (3, .int i1), (0, .ref a0), (1, .int i1), (2, .int i2)]) C dX7_markHole_17 (by decide) rfl ?_
    refine q_iconst (v := 0) C dX7_markHole_19 (by decide) ?_
    refine q_istore (lv' := [(5, .int 0), (4, .int i2), (3, .int i1), (0, .ref a0), (1, .int i1), (2, .int i2)]) C dX7_markHole_20 (by decide) rfl ?_
    exact q_sub [3, 2, 1, 0] rfl h
  · have h := h.2 z
    refine q_iconst (v := 0) C dX7_markHole_12 (by decide) ?_
    exact q_iret C hr hlk dX7_markHole_13 (Nat.le_of_ble_eq_true rfl) (Nat.le_of_ble_eq_true rfl) h
def S_X7_holeCount_11 (K11 : Nat → Int32 → Int32 → Mm → Prop) (K34 : Nat → Int32 → Int32 → Nat → Int32 → Mm → Prop) (Q : Int32 → Mm → Prop) (M : Mm) (a0 : Nat) (i1 : Int32) (i2 : Int32) : Prop := kM M a0 = (7, 6) ∧ ∃ a_4 : Nat, rM M a0 0 = some a_4 ∧ kM M a_4 = (1, 5) ∧ T_X1_ever M a_4 (fun r_5 => (r_5 ≤ i2 → Q i1 M) ∧ (¬ r_5 ≤ i2 → kM M a0 = (7, 6) ∧ ∃ a_6 : Nat, rM M a0 0 = some a_6 ∧ kM M a_6 = (1, 5) ∧ T_X1_ring M a_6 i2 (fun r_7 => K34 a0 i1 i2 r_7 0 M)))
def S_X7_holeCount_34 (K11 : Nat → Int32 → Int32 → Mm → Prop) (K34 : Nat → Int32 → Int32 → Nat → Int32 → Mm → Prop) (Q : Int32 → Mm → Prop) (M : Mm) (a0 : Nat) (i1 : Int32) (i2 : Int32) (a3 : Nat) (i4 : Int32) : Prop := kM M a3 = (5, 2) ∧ T_X5_length M a3 (fun r_8 => (r_8 ≤ i4 → K11 a0 i1 (i2 + 1) M) ∧ (¬ r_8 ≤ i4 → kM M a3 = (5, 2) ∧ T_X5_get M a3 (i4 + 1) (fun r_9 => kM M a3 = (5, 2) ∧ T_X5_get M a3 i4 (fun r_10 => kM M a0 = (7, 6) ∧ T_X7_markHole M a0 r_9 r_10 (fun r_11 M_12 => (r_11 ≤ 0 → K34 a0 (i1 + 0) i2 a3 (i4 + 1) M_12) ∧ (¬ r_11 ≤ 0 → K34 a0 (i1 + 1) i2 a3 (i4 + 1) M_12))))))
def T_X7_holeCount (M : Mm) (a0 : Nat) (Q : Int32 → Mm → Prop) : Prop := ∀ (K11 : Nat → Int32 → Int32 → Mm → Prop) (K34 : Nat → Int32 → Int32 → Nat → Int32 → Mm → Prop), (∀ (a0 : Nat) (i1 : Int32) (i2 : Int32) (M : Mm), S_X7_holeCount_11 K11 K34 Q M a0 i1 i2 → K11 a0 i1 i2 M) → (∀ (a0 : Nat) (i1 : Int32) (i2 : Int32) (a3 : Nat) (i4 : Int32) (M : Mm), S_X7_holeCount_34 K11 K34 Q M a0 i1 i2 a3 i4 → K34 a0 i1 i2 a3 i4 M) → kM M a0 = (7, 6) ∧ ∃ a_1 : Nat, rM M a0 1 = some a_1 ∧ kM M a_1 = (2, 2) ∧ T_X2_takeOff M a_1 (fun M_3 => K11 a0 0 0 M_3)
theorem inX7_holeCount_X7 : ∀ w ∈ wsX70, w ∈ wsX7_holeCount := by decide +kernel
set_option maxRecDepth 100000 in
set_option maxHeartbeats 4000000 in
theorem b_X7_holeCount_11 {p : Program} {l : Launch} {e : Env} {s : State} {m : MethodId} {args : Array Value} {below : List Frame} {meth : Method} {c : Code} {D : va_G} {cA : Nat → ClassId} {lo : Nat} (C : Cx p s m args c cX7_holeCount 5 RX7 wsX7_holeCount D cA lo) (hr : meth.sig.returnType = (some .int)) (hlk : meth.locks = false) {Q : Int32 → Mm → Prop} (M : Mm) (a0 : Nat) (i1 : Int32) (i2 : Int32) (h : S_X7_holeCount_11 (fun (a0 : Nat) (i1 : Int32) (i2 : Int32) (M : Mm) => QW p l e ({ frames := 4, cells := 0, slots := 0, locals := 96 } : Room) s m args below meth c (MQ below (QiM D cA lo Q) args s 0 0 (fun q => lo ≤ q)) 5 D cA lo 0 0 M 11 [(0, .ref a0), (1, .int i1), (2, .int i2)] []) (fun (a0 : Nat) (i1 : Int32) (i2 : Int32) (a3 : Nat) (i4 : Int32) (M : Mm) => QW p l e ({ frames := 4, cells := 0, slots := 0, locals := 96 } : Room) s m args below meth c (MQ below (QiM D cA lo Q) args s 0 0 (fun q => lo ≤ q)) 5 D cA lo 0 0 M 34 [(0, .ref a0), (1, .int i1), (2, .int i2), (3, .ref a3), (4, .int i4)] []) Q M a0 i1 i2) : QW p l e ({ frames := 4, cells := 0, slots := 0, locals := 96 } : Room) s m args below meth c (MQ below (QiM D cA lo Q) args s 0 0 (fun q => lo ≤ q)) 5 D cA lo 0 0 M 11 [(0, .ref a0), (1, .int i1), (2, .int i2)] [] := by
  unfold S_X7_holeCount_11 at h
  refine q_iload_n C dX7_holeCount_11 rfl (j := 2) rfl ?_
  refine q_aload_n C dX7_holeCount_12 rfl (j := 0) rfl ?_
  refine q_getR (ci := 7) (k0 := 0) (T := TX7) C inX7_holeCount_X7 rfl (by decide) h.1 (by decide) rfl (by decide +kernel) rfl dX7_holeCount_13 ?_
  obtain ⟨a_4, z, h⟩ := h.2
  refine q_ref z ?_
  refine q_ci (q_runV (As := []) (st := [.int i2]) C (c_X1_ever l D cA lo h.2) (cwV 0 C.2.2.2.2.1 gX7_holeCount_X1_ever rfl rfl rfl (by decide +kernel) ⟨Nat.le_of_ble_eq_true rfl, Nat.le_of_ble_eq_true rfl⟩) h.1 (by decide) rfl rfl rfl (Nat.le_of_ble_eq_true rfl) dX7_holeCount_16 ⟨Nat.le_of_ble_eq_true rfl, Nat.le_of_ble_eq_true rfl⟩) (fun r_5 M_z h => ?_)
  refine q_mem h.1 ?_
  have h := h.2
  refine q_icmp_ge (tgt := 84) C dX7_holeCount_19 (by decide) (fun z => ?_) (fun z => ?_)
  · have h := h.1 z
    refine q_iload_n C dX7_holeCount_84 rfl (j := 1) rfl ?_
    exact q_iret C hr hlk dX7_holeCount_85 (Nat.le_of_ble_eq_true rfl) (Nat.le_of_ble_eq_true rfl) h
  · have h := h.2 z
    refine q_aload_n C dX7_holeCount_22 rfl (j := 0) rfl ?_
    refine q_getR (ci := 7) (k0 := 0) (T := TX7) C inX7_holeCount_X7 rfl (by decide) h.1 (by decide) rfl (by decide +kernel) rfl dX7_holeCount_23 ?_
    obtain ⟨a_6, z, h⟩ := h.2
    refine q_ref z ?_
    refine q_iload_n C dX7_holeCount_26 rfl (j := 2) rfl ?_
    refine q_cr (q_runV (As := [.int i2]) (st := []) C (c_X1_ring l D cA lo h.2) (cwV 1 C.2.2.2.2.1 gX7_holeCount_X1_ring rfl rfl rfl (by decide +kernel) ⟨Nat.le_of_ble_eq_true rfl, Nat.le_of_ble_eq_true rfl⟩) h.1 (by decide) rfl rfl rfl (Nat.le_of_ble_eq_true rfl) dX7_holeCount_27 ⟨Nat.le_of_ble_eq_true rfl, Nat.le_of_ble_eq_true rfl⟩) (fun r_7 M_z h => ?_)
    refine q_mem h.1 ?_
    have h := h.2
    refine q_astore_n (lv' := [(3, .ref r_7), (0, .ref a0), (1, .int i1), (2, .int i2)]) C dX7_holeCount_30 rfl (by decide) rfl ?_
    refine q_iconst (v := 0) C dX7_holeCount_31 (by decide) ?_
    refine q_istore (lv' := [(4, .int 0), (3, .ref r_7), (0, .ref a0), (1, .int i1), (2, .int i2)]) C dX7_holeCount_32 (by decide) rfl ?_
    exact q_sub [2, 3, 4, 1, 0] rfl h
set_option maxRecDepth 100000 in
set_option maxHeartbeats 4000000 in
theorem b_X7_holeCount_34 {p : Program} {l : Launch} {e : Env} {s : State} {m : MethodId} {args : Array Value} {below : List Frame} {meth : Method} {c : Code} {D : va_G} {cA : Nat → ClassId} {lo : Nat} (C : Cx p s m args c cX7_holeCount 5 RX7 wsX7_holeCount D cA lo) (hr : meth.sig.returnType = (some .int)) (hlk : meth.locks = false) {Q : Int32 → Mm → Prop} (M : Mm) (a0 : Nat) (i1 : Int32) (i2 : Int32) (a3 : Nat) (i4 : Int32) (h : S_X7_holeCount_34 (fun (a0 : Nat) (i1 : Int32) (i2 : Int32) (M : Mm) => QW p l e ({ frames := 4, cells := 0, slots := 0, locals := 96 } : Room) s m args below meth c (MQ below (QiM D cA lo Q) args s 0 0 (fun q => lo ≤ q)) 5 D cA lo 0 0 M 11 [(0, .ref a0), (1, .int i1), (2, .int i2)] []) (fun (a0 : Nat) (i1 : Int32) (i2 : Int32) (a3 : Nat) (i4 : Int32) (M : Mm) => QW p l e ({ frames := 4, cells := 0, slots := 0, locals := 96 } : Room) s m args below meth c (MQ below (QiM D cA lo Q) args s 0 0 (fun q => lo ≤ q)) 5 D cA lo 0 0 M 34 [(0, .ref a0), (1, .int i1), (2, .int i2), (3, .ref a3), (4, .int i4)] []) Q M a0 i1 i2 a3 i4) : QW p l e ({ frames := 4, cells := 0, slots := 0, locals := 96 } : Room) s m args below meth c (MQ below (QiM D cA lo Q) args s 0 0 (fun q => lo ≤ q)) 5 D cA lo 0 0 M 34 [(0, .ref a0), (1, .int i1), (2, .int i2), (3, .ref a3), (4, .int i4)] [] := by
  unfold S_X7_holeCount_34 at h
  refine q_iload C dX7_holeCount_34 (j := 4) rfl ?_
  refine q_aload_n C dX7_holeCount_36 rfl (j := 3) rfl ?_
  refine q_ci (q_runV (As := []) (st := [.int i4]) C (c_X5_length l D cA lo h.2) (cwV 0 C.2.2.2.2.1 gX7_holeCount_X5_length rfl rfl rfl (by decide +kernel) ⟨Nat.le_of_ble_eq_true rfl, Nat.le_of_ble_eq_true rfl⟩) h.1 (by decide) rfl rfl rfl (Nat.le_of_ble_eq_true rfl) dX7_holeCount_37 ⟨Nat.le_of_ble_eq_true rfl, Nat.le_of_ble_eq_true rfl⟩) (fun r_8 M_z h => ?_)
  refine q_mem h.1 ?_
  have h := h.2
  refine q_icmp_ge (tgt := 78) C dX7_holeCount_40 (by decide) (fun z => ?_) (fun z => ?_)
  · have h := h.1 z
    refine q_iinc (v := (i2 + 1)) (lv' := [(2, .int (i2 + 1)), (0, .ref a0), (1, .int i1), (3, .ref a3), (4, .int i4)]) C dX7_holeCount_78 (j := 2) rfl rfl (by decide) rfl ?_
    refine q_goto (tgt := 11) C dX7_holeCount_81 (by decide) ?_
    exact q_sub [1, 2, 0] rfl h
  · have h := h.2 z
    refine q_iload_n C dX7_holeCount_43 rfl (j := 1) rfl ?_
    refine q_aload_n C dX7_holeCount_44 rfl (j := 0) rfl ?_
    refine q_aload_n C dX7_holeCount_45 rfl (j := 3) rfl ?_
    refine q_iload C dX7_holeCount_46 (j := 4) rfl ?_
    refine q_iconst (v := 1) C dX7_holeCount_48 (by decide) ?_
    refine q_iadd C dX7_holeCount_49 ?_
    refine q_ci (q_runV (As := [.int (i4 + 1)]) (st := [.ref a0, .int i1]) C (c_X5_get l D cA lo h.2) (cwV 1 C.2.2.2.2.1 gX7_holeCount_X5_get rfl rfl rfl (by decide +kernel) ⟨Nat.le_of_ble_eq_true rfl, Nat.le_of_ble_eq_true rfl⟩) h.1 (by decide) rfl rfl rfl (Nat.le_of_ble_eq_true rfl) dX7_holeCount_50 ⟨Nat.le_of_ble_eq_true rfl, Nat.le_of_ble_eq_true rfl⟩) (fun r_9 M_z h => ?_)
    refine q_mem h.1 ?_
    have h := h.2
    refine q_aload_n C dX7_holeCount_53 rfl (j := 3) rfl ?_
    refine q_iload C dX7_holeCount_54 (j := 4) rfl ?_
    refine q_ci (q_runV (As := [.int i4]) (st := [.int r_9, .ref a0, .int i1]) C (c_X5_get l D cA lo h.2) (cwV 1 C.2.2.2.2.1 gX7_holeCount_X5_get rfl rfl rfl (by decide +kernel) ⟨Nat.le_of_ble_eq_true rfl, Nat.le_of_ble_eq_true rfl⟩) h.1 (by decide) rfl rfl rfl (Nat.le_of_ble_eq_true rfl) dX7_holeCount_56 ⟨Nat.le_of_ble_eq_true rfl, Nat.le_of_ble_eq_true rfl⟩) (fun r_10 M_z h => ?_)
    refine q_mem h.1 ?_
    have h := h.2
    refine q_ci (q_runV (As := [.int r_9, .int r_10]) (st := [.int i1]) C (c_X7_markHole l D cA lo h.2) (cwV 2 C.2.2.2.2.1 gX7_holeCount_X7_markHole rfl rfl rfl (by decide +kernel) ⟨Nat.le_of_ble_eq_true rfl, Nat.le_of_ble_eq_true rfl⟩) h.1 (by decide) rfl rfl rfl (Nat.le_of_ble_eq_true rfl) dX7_holeCount_59 ⟨Nat.le_of_ble_eq_true rfl, Nat.le_of_ble_eq_true rfl⟩) (fun r_11 M_12 h => ?_)
    refine q_if_le (tgt := 69) C dX7_holeCount_62 (by decide) (fun z => ?_) (fun z => ?_)
    · have h := h.1 z
      refine q_iconst (v := 0) C dX7_holeCount_69 (by decide) ?_
      refine q_iadd C dX7_holeCount_70 ?_
      refine q_istore_n (lv' := [(1, .int (i1 + 0)), (0, .ref a0), (2, .int i2), (3, .ref a3), (4, .int i4)]) C dX7_holeCount_71 rfl (by decide) rfl ?_
      refine q_iinc (v := (i4 + 1)) (lv' := [(4, .int (i4 + 1)), (1, .int (i1 + 0)), (0, .ref a0), (2, .int i2), (3, .ref a3)]) C dX7_holeCount_72 (j := 4) rfl rfl (by decide) rfl ?_
      refine q_goto (tgt := 34) C dX7_holeCount_75 (by decide) ?_
      exact q_sub [2, 1, 3, 4, 0] rfl h
    · have h := h.2 z
      refine q_iconst (v := 1) C dX7_holeCount_65 (by decide) ?_
      refine q_goto (tgt := 70) C dX7_holeCount_66 (by decide) ?_
      refine q_iadd C dX7_holeCount_70 ?_
      refine q_istore_n (lv' := [(1, .int (i1 + 1)), (0, .ref a0), (2, .int i2), (3, .ref a3), (4, .int i4)]) C dX7_holeCount_71 rfl (by decide) rfl ?_
      refine q_iinc (v := (i4 + 1)) (lv' := [(4, .int (i4 + 1)), (1, .int (i1 + 1)), (0, .ref a0), (2, .int i2), (3, .ref a3)]) C dX7_holeCount_72 (j := 4) rfl rfl (by decide) rfl ?_
      refine q_goto (tgt := 34) C dX7_holeCount_75 (by decide) ?_
      exact q_sub [2, 1, 3, 4, 0] rfl h
set_option maxRecDepth 100000 in
set_option maxHeartbeats 4000000 in
theorem c_X7_holeCount (l : Launch) (D : va_G) (cA : Nat → ClassId) (lo : Nat) {M : Mm} {a0 : Nat} {Q : Int32 → Mm → Prop} (h : T_X7_holeCount M a0 Q) : Met l yX7_holeCount wsX7_holeCount ({ frames := 4, cells := 0, slots := 0, locals := 96 } : Room) (PcM D cA lo [.ref a0] M) (QiM D cA lo Q) 0 0 (fun q => lo ≤ q) := by
  refine q_start (cc := cX7_holeCount) (nL := 5) (ret := (some .int)) (by decide) rfl rfl (Nat.le_of_ble_eq_true rfl) ?_
  intro p e s m args below meth c C hr hlk hin
  unfold T_X7_holeCount at h
  have h := h (fun (a0 : Nat) (i1 : Int32) (i2 : Int32) (M : Mm) => QW p l e ({ frames := 4, cells := 0, slots := 0, locals := 96 } : Room) s m args below meth c (MQ below (QiM D cA lo Q) args s 0 0 (fun q => lo ≤ q)) 5 D cA lo 0 0 M 11 [(0, .ref a0), (1, .int i1), (2, .int i2)] []) (fun (a0 : Nat) (i1 : Int32) (i2 : Int32) (a3 : Nat) (i4 : Int32) (M : Mm) => QW p l e ({ frames := 4, cells := 0, slots := 0, locals := 96 } : Room) s m args below meth c (MQ below (QiM D cA lo Q) args s 0 0 (fun q => lo ≤ q)) 5 D cA lo 0 0 M 34 [(0, .ref a0), (1, .int i1), (2, .int i2), (3, .ref a3), (4, .int i4)] []) (fun a0 i1 i2 M h => b_X7_holeCount_11 C hr hlk M a0 i1 i2 h) (fun a0 i1 i2 a3 i4 M h => b_X7_holeCount_34 C hr hlk M a0 i1 i2 a3 i4 h)
  refine q_aload_n C dX7_holeCount_0 rfl (j := 0) rfl ?_
  refine q_getR (ci := 7) (k0 := 1) (T := TX7) C inX7_holeCount_X7 rfl (by decide) h.1 (by decide) rfl (by decide +kernel) rfl dX7_holeCount_1 ?_
  obtain ⟨a_1, z, h⟩ := h.2
  refine q_ref z ?_
  refine q_cv (q_runV (As := []) (st := []) C (c_X2_takeOff l D cA lo h.2) (cwV 0 C.2.2.2.2.1 gX7_holeCount_X2_takeOff rfl rfl rfl (by decide +kernel) ⟨Nat.le_of_ble_eq_true rfl, Nat.le_of_ble_eq_true rfl⟩) h.1 (by decide) rfl rfl rfl (Nat.le_of_ble_eq_true rfl) dX7_holeCount_4 ⟨Nat.le_of_ble_eq_true rfl, Nat.le_of_ble_eq_true rfl⟩) (fun M_3 h => ?_)
  refine q_iconst (v := 0) C dX7_holeCount_7 (by decide) ?_
  refine q_istore_n (lv' := [(1, .int 0), (0, .ref a0)]) C dX7_holeCount_8 rfl (by decide) rfl ?_
  refine q_iconst (v := 0) C dX7_holeCount_9 (by decide) ?_
  refine q_istore_n (lv' := [(2, .int 0), (1, .int 0), (0, .ref a0)]) C dX7_holeCount_10 rfl (by decide) rfl ?_
  exact q_sub [2, 1, 0] rfl h
def T_X7_holeLength (M : Mm) (a0 : Nat) (i1 : Int32) (i2 : Int32) (Q : Int32 → Mm → Prop) : Prop := kM M a0 = (7, 6) ∧ ∃ a_1 : Nat, rM M a0 1 = some a_1 ∧ kM M a_1 = (2, 2) ∧ T_X2_takeOff M a_1 (fun M_3 => kM M_3 a0 = (7, 6) ∧ T_X7_markHole M_3 a0 i1 i2 (fun r_4 M_5 => Q r_4 M_5))
theorem inX7_holeLength_X7 : ∀ w ∈ wsX70, w ∈ wsX7_holeLength := by decide +kernel
set_option maxRecDepth 100000 in
set_option maxHeartbeats 4000000 in
theorem c_X7_holeLength (l : Launch) (D : va_G) (cA : Nat → ClassId) (lo : Nat) {M : Mm} {a0 : Nat} {i1 : Int32} {i2 : Int32} {Q : Int32 → Mm → Prop} (h : T_X7_holeLength M a0 i1 i2 Q) : Met l yX7_holeLength wsX7_holeLength ({ frames := 4, cells := 0, slots := 0, locals := 96 } : Room) (PcM D cA lo [.ref a0, .int i1, .int i2] M) (QiM D cA lo Q) 0 0 (fun q => lo ≤ q) := by
  refine q_start (cc := cX7_holeLength) (nL := 3) (ret := (some .int)) (by decide) rfl rfl (Nat.le_of_ble_eq_true rfl) ?_
  intro p e s m args below meth c C hr hlk hin
  unfold T_X7_holeLength at h
  refine q_aload_n C dX7_holeLength_0 rfl (j := 0) rfl ?_
  refine q_getR (ci := 7) (k0 := 1) (T := TX7) C inX7_holeLength_X7 rfl (by decide) h.1 (by decide) rfl (by decide +kernel) rfl dX7_holeLength_1 ?_
  obtain ⟨a_1, z, h⟩ := h.2
  refine q_ref z ?_
  refine q_cv (q_runV (As := []) (st := []) C (c_X2_takeOff l D cA lo h.2) (cwV 0 C.2.2.2.2.1 gX7_holeLength_X2_takeOff rfl rfl rfl (by decide +kernel) ⟨Nat.le_of_ble_eq_true rfl, Nat.le_of_ble_eq_true rfl⟩) h.1 (by decide) rfl rfl rfl (Nat.le_of_ble_eq_true rfl) dX7_holeLength_4 ⟨Nat.le_of_ble_eq_true rfl, Nat.le_of_ble_eq_true rfl⟩) (fun M_3 h => ?_)
  refine q_aload_n C dX7_holeLength_7 rfl (j := 0) rfl ?_
  refine q_iload_n C dX7_holeLength_8 rfl (j := 1) rfl ?_
  refine q_iload_n C dX7_holeLength_9 rfl (j := 2) rfl ?_
  refine q_ci (q_runV (As := [.int i1, .int i2]) (st := []) C (c_X7_markHole l D cA lo h.2) (cwV 2 C.2.2.2.2.1 gX7_holeLength_X7_markHole rfl rfl rfl (by decide +kernel) ⟨Nat.le_of_ble_eq_true rfl, Nat.le_of_ble_eq_true rfl⟩) h.1 (by decide) rfl rfl rfl (Nat.le_of_ble_eq_true rfl) dX7_holeLength_10 ⟨Nat.le_of_ble_eq_true rfl, Nat.le_of_ble_eq_true rfl⟩) (fun r_4 M_5 h => ?_)
  exact q_iret C hr hlk dX7_holeLength_13 (Nat.le_of_ble_eq_true rfl) (Nat.le_of_ble_eq_true rfl) h
