def T_X1_has (M : Mm) (a0 : Nat) (i1 : Int32) (Q : Int32 → Prop) : Prop := kM M a0 = (1, 5) ∧ T_X1_ring M a0 i1 (fun r_1 => kM M r_1 = (5, 2) ∧ T_X5_length M r_1 (fun r_2 => (r_2 ≤ 0 → Q 0) ∧ (¬ r_2 ≤ 0 → Q 1)))
set_option maxRecDepth 100000 in
set_option maxHeartbeats 4000000 in
theorem c_X1_has (l : Launch) (D : va_G) (cA : Nat → ClassId) (lo : Nat) {M : Mm} {a0 : Nat} {i1 : Int32} {Q : Int32 → Prop} (h : T_X1_has M a0 i1 Q) : Met l yX1_has wsX1_has ({ frames := 1, cells := 0, slots := 0, locals := 21 } : Room) (PcM D cA lo [.ref a0, .int i1] M) (QiM D cA lo (fun r M1 => M1 = M ∧ Q r)) 0 0 (fun q => lo ≤ q) := by
  refine q_start (cc := cX1_has) (nL := 2) (ret := (some .boolean)) (by decide) rfl rfl (Nat.le_of_ble_eq_true rfl) ?_
  intro p e s m args below meth c C hr hlk hin
  unfold T_X1_has at h
  refine q_aload_n C dX1_has_0 rfl (j := 0) rfl ?_
  refine q_iload_n C dX1_has_1 rfl (j := 1) rfl ?_
  refine q_cr (q_runV (As := [.int i1]) (st := []) C (c_X1_ring l D cA lo h.2) (cwV 1 C.2.2.2.2.1 gX1_has_X1_ring rfl rfl rfl (by decide +kernel) ⟨Nat.le_of_ble_eq_true rfl, Nat.le_of_ble_eq_true rfl⟩) h.1 (by decide) rfl rfl rfl (Nat.le_of_ble_eq_true rfl) dX1_has_2 ⟨Nat.le_of_ble_eq_true rfl, Nat.le_of_ble_eq_true rfl⟩) (fun r_1 M_z h => ?_)
  refine q_mem h.1 ?_
  have h := h.2
  refine q_ci (q_runV (As := []) (st := []) C (c_X5_length l D cA lo h.2) (cwV 0 C.2.2.2.2.1 gX1_has_X5_length rfl rfl rfl (by decide +kernel) ⟨Nat.le_of_ble_eq_true rfl, Nat.le_of_ble_eq_true rfl⟩) h.1 (by decide) rfl rfl rfl (Nat.le_of_ble_eq_true rfl) dX1_has_5 ⟨Nat.le_of_ble_eq_true rfl, Nat.le_of_ble_eq_true rfl⟩) (fun r_2 M_z h => ?_)
  refine q_mem h.1 ?_
  have h := h.2
  refine q_if_le (tgt := 15) C dX1_has_8 (by decide) (fun z => ?_) (fun z => ?_)
  · have h := h.1 z
    refine q_iconst (v := 0) C dX1_has_15 (by decide) ?_
    exact q_zret C hr hlk dX1_has_16 (Nat.le_of_ble_eq_true rfl) (Nat.le_of_ble_eq_true rfl) (Or.inl rfl) ⟨rfl, h⟩
  · have h := h.2 z
    refine q_iconst (v := 1) C dX1_has_11 (by decide) ?_
    refine q_goto (tgt := 16) C dX1_has_12 (by decide) ?_
    exact q_zret C hr hlk dX1_has_16 (Nat.le_of_ble_eq_true rfl) (Nat.le_of_ble_eq_true rfl) (Or.inr rfl) ⟨rfl, h⟩
def T_X1_setOwner (M : Mm) (a0 : Nat) (i1 : Int32) (i2 : Int32) (i3 : Int32) (Q : Mm → Prop) : Prop := (i1 < 0 → Q M) ∧ (¬ i1 < 0 → (100 ≤ i1 → Q M) ∧ (¬ 100 ≤ i1 → (i2 < 0 → Q M) ∧ (¬ i2 < 0 → (100 ≤ i2 → Q M) ∧ (¬ 100 ≤ i2 → kM M a0 = (1, 5) ∧ ∃ a_1 : Nat, rM M a0 2 = some a_1 ∧ ∃ n_2 : Nat, kM M a_1 = (100, n_2) ∧ vp_in ((i1 * 100) + i2) n_2 ∧ Q (wI M a_1 ((i1 * 100) + i2).toNatClampNeg (i3 + 1))))))
theorem inX1_setOwner_X1 : ∀ w ∈ wsX10, w ∈ wsX1_setOwner := by decide +kernel
set_option maxRecDepth 100000 in
set_option maxHeartbeats 4000000 in
theorem c_X1_setOwner (l : Launch) (D : va_G) (cA : Nat → ClassId) (lo : Nat) {M : Mm} {a0 : Nat} {i1 : Int32} {i2 : Int32} {i3 : Int32} {Q : Mm → Prop} (h : T_X1_setOwner M a0 i1 i2 i3 Q) : Met l yX1_setOwner wsX1_setOwner ({ frames := 0, cells := 0, slots := 0, locals := 0 } : Room) (PcM D cA lo [.ref a0, .int i1, .int i2, .int i3] M) (QvM D cA lo Q) 0 0 (fun q => lo ≤ q) := by
  refine q_start (cc := cX1_setOwner) (nL := 4) (ret := none) (by decide) rfl rfl (Nat.le_of_ble_eq_true rfl) ?_
  intro p e s m args below meth c C hr hlk hin
  unfold T_X1_setOwner at h
  refine q_iload_n C dX1_setOwner_0 rfl (j := 1) rfl ?_
  refine q_if_lt (tgt := 34) C dX1_setOwner_1 (by decide) (fun z => ?_) (fun z => ?_)
  · have h := h.1 z
    exact q_vret C hr hlk dX1_setOwner_34 (Nat.le_of_ble_eq_true rfl) (Nat.le_of_ble_eq_true rfl) h
  · have h := h.2 z
    refine q_iload_n C dX1_setOwner_4 rfl (j := 1) rfl ?_
    refine q_bipush (v := 100) C dX1_setOwner_5 (by decide) ?_
    refine q_icmp_ge (tgt := 34) C dX1_setOwner_7 (by decide) (fun z => ?_) (fun z => ?_)
    · have h := h.1 z
      exact q_vret C hr hlk dX1_setOwner_34 (Nat.le_of_ble_eq_true rfl) (Nat.le_of_ble_eq_true rfl) h
    · have h := h.2 z
      refine q_iload_n C dX1_setOwner_10 rfl (j := 2) rfl ?_
      refine q_if_lt (tgt := 34) C dX1_setOwner_11 (by decide) (fun z => ?_) (fun z => ?_)
      · have h := h.1 z
        exact q_vret C hr hlk dX1_setOwner_34 (Nat.le_of_ble_eq_true rfl) (Nat.le_of_ble_eq_true rfl) h
      · have h := h.2 z
        refine q_iload_n C dX1_setOwner_14 rfl (j := 2) rfl ?_
        refine q_bipush (v := 100) C dX1_setOwner_15 (by decide) ?_
        refine q_icmp_ge (tgt := 34) C dX1_setOwner_17 (by decide) (fun z => ?_) (fun z => ?_)
        · have h := h.1 z
          exact q_vret C hr hlk dX1_setOwner_34 (Nat.le_of_ble_eq_true rfl) (Nat.le_of_ble_eq_true rfl) h
        · have h := h.2 z
          refine q_aload_n C dX1_setOwner_20 rfl (j := 0) rfl ?_
          refine q_getR (ci := 1) (k0 := 2) (T := TX1) C inX1_setOwner_X1 rfl (by decide) h.1 (by decide) rfl (by decide +kernel) rfl dX1_setOwner_21 ?_
          obtain ⟨a_1, z, h⟩ := h.2
          refine q_ref z ?_
          refine q_iload_n C dX1_setOwner_24 rfl (j := 1) rfl ?_
          refine q_bipush (v := 100) C dX1_setOwner_25 (by decide) ?_
          refine q_imul C dX1_setOwner_27 ?_
          refine q_iload_n C dX1_setOwner_28 rfl (j := 2) rfl ?_
          refine q_iadd C dX1_setOwner_29 ?_
          refine q_iload_n C dX1_setOwner_30 rfl (j := 3) rfl ?_
          refine q_iconst (v := 1) C dX1_setOwner_31 (by decide) ?_
          refine q_iadd C dX1_setOwner_32 ?_
          obtain ⟨n_2, z1, z2, h⟩ := h
          refine q_iast C z1 z2 dX1_setOwner_33 ?_
          exact q_vret C hr hlk dX1_setOwner_34 (Nat.le_of_ble_eq_true rfl) (Nat.le_of_ble_eq_true rfl) h
def S_X1_release_8 (K8 : Nat → Int32 → Nat → Int32 → Mm → Prop) (Q : Mm → Prop) (M : Mm) (a0 : Nat) (i1 : Int32) (a2 : Nat) (i3 : Int32) : Prop := kM M a2 = (5, 2) ∧ T_X5_length M a2 (fun r_2 => (r_2 ≤ i3 → Q M) ∧ (¬ r_2 ≤ i3 → kM M a2 = (5, 2) ∧ T_X5_get M a2 i3 (fun r_3 => kM M a2 = (5, 2) ∧ T_X5_get M a2 (i3 + 1) (fun r_4 => kM M a0 = (1, 5) ∧ T_X1_owner M a0 r_3 r_4 (fun r_5 => (¬ r_5 = i1 → K8 a0 i1 a2 (i3 + 1) M) ∧ (r_5 = i1 → kM M a2 = (5, 2) ∧ T_X5_get M a2 i3 (fun r_6 => kM M a2 = (5, 2) ∧ T_X5_get M a2 (i3 + 1) (fun r_7 => kM M a0 = (1, 5) ∧ T_X1_setOwner M a0 r_6 r_7 (-1) (fun M_9 => K8 a0 i1 a2 (i3 + 1) M_9)))))))))
def T_X1_release (M : Mm) (a0 : Nat) (i1 : Int32) (Q : Mm → Prop) : Prop := ∀ (K8 : Nat → Int32 → Nat → Int32 → Mm → Prop), (∀ (a0 : Nat) (i1 : Int32) (a2 : Nat) (i3 : Int32) (M : Mm), S_X1_release_8 K8 Q M a0 i1 a2 i3 → K8 a0 i1 a2 i3 M) → kM M a0 = (1, 5) ∧ T_X1_ring M a0 i1 (fun r_1 => K8 a0 i1 r_1 0 M)
set_option maxRecDepth 100000 in
set_option maxHeartbeats 4000000 in
theorem b_X1_release_8 {p : Program} {l : Launch} {e : Env} {s : State} {m : MethodId} {args : Array Value} {below : List Frame} {meth : Method} {c : Code} {D : va_G} {cA : Nat → ClassId} {lo : Nat} (C : Cx p s m args c cX1_release 4 RX1 wsX1_release D cA lo) (hr : meth.sig.returnType = none) (hlk : meth.locks = false) {Q : Mm → Prop} (M : Mm) (a0 : Nat) (i1 : Int32) (a2 : Nat) (i3 : Int32) (h : S_X1_release_8 (fun (a0 : Nat) (i1 : Int32) (a2 : Nat) (i3 : Int32) (M : Mm) => QW p l e ({ frames := 1, cells := 0, slots := 0, locals := 23 } : Room) s m args below meth c (MQ below (QvM D cA lo Q) args s 0 0 (fun q => lo ≤ q)) 4 D cA lo 0 0 M 8 [(0, .ref a0), (1, .int i1), (2, .ref a2), (3, .int i3)] []) Q M a0 i1 a2 i3) : QW p l e ({ frames := 1, cells := 0, slots := 0, locals := 23 } : Room) s m args below meth c (MQ below (QvM D cA lo Q) args s 0 0 (fun q => lo ≤ q)) 4 D cA lo 0 0 M 8 [(0, .ref a0), (1, .int i1), (2, .ref a2), (3, .int i3)] [] := by
  unfold S_X1_release_8 at h
  refine q_iload_n C dX1_release_8 rfl (j := 3) rfl ?_
  refine q_aload_n C dX1_release_9 rfl (j := 2) rfl ?_
  refine q_ci (q_runV (As := []) (st := [.int i3]) C (c_X5_length l D cA lo h.2) (cwV 0 C.2.2.2.2.1 gX1_release_X5_length rfl rfl rfl (by decide +kernel) ⟨Nat.le_of_ble_eq_true rfl, Nat.le_of_ble_eq_true rfl⟩) h.1 (by decide) rfl rfl rfl (Nat.le_of_ble_eq_true rfl) dX1_release_10 ⟨Nat.le_of_ble_eq_true rfl, Nat.le_of_ble_eq_true rfl⟩) (fun r_2 M_z h => ?_)
  refine q_mem h.1 ?_
  have h := h.2
  refine q_icmp_ge (tgt := 59) C dX1_release_13 (by decide) (fun z => ?_) (fun z => ?_)
  · have h := h.1 z
    exact q_vret C hr hlk dX1_release_59 (Nat.le_of_ble_eq_true rfl) (Nat.le_of_ble_eq_true rfl) h
  · have h := h.2 z
    refine q_aload_n C dX1_release_16 rfl (j := 0) rfl ?_
    refine q_aload_n C dX1_release_17 rfl (j := 2) rfl ?_
    refine q_iload_n C dX1_release_18 rfl (j := 3) rfl ?_
    refine q_ci (q_runV (As := [.int i3]) (st := [.ref a0]) C (c_X5_get l D cA lo h.2) (cwV 1 C.2.2.2.2.1 gX1_release_X5_get rfl rfl rfl (by decide +kernel) ⟨Nat.le_of_ble_eq_true rfl, Nat.le_of_ble_eq_true rfl⟩) h.1 (by decide) rfl rfl rfl (Nat.le_of_ble_eq_true rfl) dX1_release_19 ⟨Nat.le_of_ble_eq_true rfl, Nat.le_of_ble_eq_true rfl⟩) (fun r_3 M_z h => ?_)
    refine q_mem h.1 ?_
    have h := h.2
    refine q_aload_n C dX1_release_22 rfl (j := 2) rfl ?_
    refine q_iload_n C dX1_release_23 rfl (j := 3) rfl ?_
    refine q_iconst (v := 1) C dX1_release_24 (by decide) ?_
    refine q_iadd C dX1_release_25 ?_
    refine q_ci (q_runV (As := [.int (i3 + 1)]) (st := [.int r_3, .ref a0]) C (c_X5_get l D cA lo h.2) (cwV 1 C.2.2.2.2.1 gX1_release_X5_get rfl rfl rfl (by decide +kernel) ⟨Nat.le_of_ble_eq_true rfl, Nat.le_of_ble_eq_true rfl⟩) h.1 (by decide) rfl rfl rfl (Nat.le_of_ble_eq_true rfl) dX1_release_26 ⟨Nat.le_of_ble_eq_true rfl, Nat.le_of_ble_eq_true rfl⟩) (fun r_4 M_z h => ?_)
    refine q_mem h.1 ?_
    have h := h.2
    refine q_ci (q_runV (As := [.int r_3, .int r_4]) (st := []) C (c_X1_owner l D cA lo h.2) (cwV 2 C.2.2.2.2.1 gX1_release_X1_owner rfl rfl rfl (by decide +kernel) ⟨Nat.le_of_ble_eq_true rfl, Nat.le_of_ble_eq_true rfl⟩) h.1 (by decide) rfl rfl rfl (Nat.le_of_ble_eq_true rfl) dX1_release_29 ⟨Nat.le_of_ble_eq_true rfl, Nat.le_of_ble_eq_true rfl⟩) (fun r_5 M_z h => ?_)
    refine q_mem h.1 ?_
    have h := h.2
    refine q_iload_n C dX1_release_32 rfl (j := 1) rfl ?_
    refine q_icmp_ne (tgt := 53) C dX1_release_33 (by decide) (fun z => ?_) (fun z => ?_)
    · have h := h.1 z
      refine q_iinc (v := (i3 + 1)) (lv' := [(3, .int (i3 + 1)), (0, .ref a0), (1, .int i1), (2, .ref a2)]) C dX1_release_53 (j := 3) rfl rfl (by decide) rfl ?_
      refine q_goto (tgt := 8) C dX1_release_56 (by decide) ?_
      exact q_sub [1, 2, 3, 0] rfl h
    · have h := h.2 z
      refine q_aload_n C dX1_release_36 rfl (j := 0) rfl ?_
      refine q_aload_n C dX1_release_37 rfl (j := 2) rfl ?_
      refine q_iload_n C dX1_release_38 rfl (j := 3) rfl ?_
      refine q_ci (q_runV (As := [.int i3]) (st := [.ref a0]) C (c_X5_get l D cA lo h.2) (cwV 1 C.2.2.2.2.1 gX1_release_X5_get rfl rfl rfl (by decide +kernel) ⟨Nat.le_of_ble_eq_true rfl, Nat.le_of_ble_eq_true rfl⟩) h.1 (by decide) rfl rfl rfl (Nat.le_of_ble_eq_true rfl) dX1_release_39 ⟨Nat.le_of_ble_eq_true rfl, Nat.le_of_ble_eq_true rfl⟩) (fun r_6 M_z h => ?_)
      refine q_mem h.1 ?_
      have h := h.2
      refine q_aload_n C dX1_release_42 rfl (j := 2) rfl ?_
      refine q_iload_n C dX1_release_43 rfl (j := 3) rfl ?_
      refine q_iconst (v := 1) C dX1_release_44 (by decide) ?_
      refine q_iadd C dX1_release_45 ?_
      refine q_ci (q_runV (As := [.int (i3 + 1)]) (st := [.int r_6, .ref a0]) C (c_X5_get l D cA lo h.2) (cwV 1 C.2.2.2.2.1 gX1_release_X5_get rfl rfl rfl (by decide +kernel) ⟨Nat.le_of_ble_eq_true rfl, Nat.le_of_ble_eq_true rfl⟩) h.1 (by decide) rfl rfl rfl (Nat.le_of_ble_eq_true rfl) dX1_release_46 ⟨Nat.le_of_ble_eq_true rfl, Nat.le_of_ble_eq_true rfl⟩) (fun r_7 M_z h => ?_)
      refine q_mem h.1 ?_
      have h := h.2
      refine q_iconst (v := (-1)) C dX1_release_49 (by decide) ?_
      refine q_cv (q_runV (As := [.int r_6, .int r_7, .int (-1)]) (st := []) C (c_X1_setOwner l D cA lo h.2) (cwV 3 C.2.2.2.2.1 gX1_release_X1_setOwner rfl rfl rfl (by decide +kernel) ⟨Nat.le_of_ble_eq_true rfl, Nat.le_of_ble_eq_true rfl⟩) h.1 (by decide) rfl rfl rfl (Nat.le_of_ble_eq_true rfl) dX1_release_50 ⟨Nat.le_of_ble_eq_true rfl, Nat.le_of_ble_eq_true rfl⟩) (fun M_9 h => ?_)
      refine q_iinc (v := (i3 + 1)) (lv' := [(3, .int (i3 + 1)), (0, .ref a0), (1, .int i1), (2, .ref a2)]) C dX1_release_53 (j := 3) rfl rfl (by decide) rfl ?_
      refine q_goto (tgt := 8) C dX1_release_56 (by decide) ?_
      exact q_sub [1, 2, 3, 0] rfl h
set_option maxRecDepth 100000 in
set_option maxHeartbeats 4000000 in
theorem c_X1_release (l : Launch) (D : va_G) (cA : Nat → ClassId) (lo : Nat) {M : Mm} {a0 : Nat} {i1 : Int32} {Q : Mm → Prop} (h : T_X1_release M a0 i1 Q) : Met l yX1_release wsX1_release ({ frames := 1, cells := 0, slots := 0, locals := 23 } : Room) (PcM D cA lo [.ref a0, .int i1] M) (QvM D cA lo Q) 0 0 (fun q => lo ≤ q) := by
  refine q_start (cc := cX1_release) (nL := 4) (ret := none) (by decide) rfl rfl (Nat.le_of_ble_eq_true rfl) ?_
  intro p e s m args below meth c C hr hlk hin
  unfold T_X1_release at h
  have h := h (fun (a0 : Nat) (i1 : Int32) (a2 : Nat) (i3 : Int32) (M : Mm) => QW p l e ({ frames := 1, cells := 0, slots := 0, locals := 23 } : Room) s m args below meth c (MQ below (QvM D cA lo Q) args s 0 0 (fun q => lo ≤ q)) 4 D cA lo 0 0 M 8 [(0, .ref a0), (1, .int i1), (2, .ref a2), (3, .int i3)] []) (fun a0 i1 a2 i3 M h => b_X1_release_8 C hr hlk M a0 i1 a2 i3 h)
  refine q_aload_n C dX1_release_0 rfl (j := 0) rfl ?_
  refine q_iload_n C dX1_release_1 rfl (j := 1) rfl ?_
  refine q_cr (q_runV (As := [.int i1]) (st := []) C (c_X1_ring l D cA lo h.2) (cwV 1 C.2.2.2.2.1 gX1_release_X1_ring rfl rfl rfl (by decide +kernel) ⟨Nat.le_of_ble_eq_true rfl, Nat.le_of_ble_eq_true rfl⟩) h.1 (by decide) rfl rfl rfl (Nat.le_of_ble_eq_true rfl) dX1_release_2 ⟨Nat.le_of_ble_eq_true rfl, Nat.le_of_ble_eq_true rfl⟩) (fun r_1 M_z h => ?_)
  refine q_mem h.1 ?_
  have h := h.2
  refine q_astore_n (lv' := [(2, .ref r_1), (0, .ref a0), (1, .int i1)]) C dX1_release_5 rfl (by decide) rfl ?_
  refine q_iconst (v := 0) C dX1_release_6 (by decide) ?_
  refine q_istore_n (lv' := [(3, .int 0), (2, .ref r_1), (0, .ref a0), (1, .int i1)]) C dX1_release_7 rfl (by decide) rfl ?_
  exact q_sub [2, 3, 1, 0] rfl h
def T_X1_drop (M : Mm) (a0 : Nat) (i1 : Int32) (Q : Mm → Prop) : Prop := kM M a0 = (1, 5) ∧ T_X1_has M a0 i1 (fun r_1 => (r_1 = 0 → Q M) ∧ (¬ r_1 = 0 → kM M a0 = (1, 5) ∧ T_X1_release M a0 i1 (fun M_3 => kM M_3 a0 = (1, 5) ∧ T_X1_ring M_3 a0 i1 (fun r_4 => kM M_3 r_4 = (5, 2) ∧ T_X5_clear M_3 r_4 (fun M_6 => kM M_6 a0 = (1, 5) ∧ kM M_6 a0 = (1, 5) ∧ Q (wI M_6 a0 4 ((iM M_6 a0 4) - 1)))))))
theorem inX1_drop_X1 : ∀ w ∈ wsX10, w ∈ wsX1_drop := by decide +kernel
set_option maxRecDepth 100000 in
set_option maxHeartbeats 4000000 in
theorem c_X1_drop (l : Launch) (D : va_G) (cA : Nat → ClassId) (lo : Nat) {M : Mm} {a0 : Nat} {i1 : Int32} {Q : Mm → Prop} (h : T_X1_drop M a0 i1 Q) : Met l yX1_drop wsX1_drop ({ frames := 2, cells := 0, slots := 0, locals := 46 } : Room) (PcM D cA lo [.ref a0, .int i1] M) (QvM D cA lo Q) 0 0 (fun q => lo ≤ q) := by
  refine q_start (cc := cX1_drop) (nL := 2) (ret := none) (by decide) rfl rfl (Nat.le_of_ble_eq_true rfl) ?_
  intro p e s m args below meth c C hr hlk hin
  unfold T_X1_drop at h
  refine q_aload_n C dX1_drop_0 rfl (j := 0) rfl ?_
  refine q_iload_n C dX1_drop_1 rfl (j := 1) rfl ?_
  refine q_ci (q_runV (As := [.int i1]) (st := []) C (c_X1_has l D cA lo h.2) (cwV 1 C.2.2.2.2.1 gX1_drop_X1_has rfl rfl rfl (by decide +kernel) ⟨Nat.le_of_ble_eq_true rfl, Nat.le_of_ble_eq_true rfl⟩) h.1 (by decide) rfl rfl rfl (Nat.le_of_ble_eq_true rfl) dX1_drop_2 ⟨Nat.le_of_ble_eq_true rfl, Nat.le_of_ble_eq_true rfl⟩) (fun r_1 M_z h => ?_)
  refine q_mem h.1 ?_
  have h := h.2
  refine q_if_eq (tgt := 31) C dX1_drop_5 (by decide) (fun z => ?_) (fun z => ?_)
  · have h := h.1 z
    exact q_vret C hr hlk dX1_drop_31 (Nat.le_of_ble_eq_true rfl) (Nat.le_of_ble_eq_true rfl) h
  · have h := h.2 z
    refine q_aload_n C dX1_drop_8 rfl (j := 0) rfl ?_
    refine q_iload_n C dX1_drop_9 rfl (j := 1) rfl ?_
    refine q_cv (q_runV (As := [.int i1]) (st := []) C (c_X1_release l D cA lo h.2) (cwV 1 C.2.2.2.2.1 gX1_drop_X1_release rfl rfl rfl (by decide +kernel) ⟨Nat.le_of_ble_eq_true rfl, Nat.le_of_ble_eq_true rfl⟩) h.1 (by decide) rfl rfl rfl (Nat.le_of_ble_eq_true rfl) dX1_drop_10 ⟨Nat.le_of_ble_eq_true rfl, Nat.le_of_ble_eq_true rfl⟩) (fun M_3 h => ?_)
    refine q_aload_n C dX1_drop_13 rfl (j := 0) rfl ?_
    refine q_iload_n C dX1_drop_14 rfl (j := 1) rfl ?_
    refine q_cr (q_runV (As := [.int i1]) (st := []) C (c_X1_ring l D cA lo h.2) (cwV 1 C.2.2.2.2.1 gX1_drop_X1_ring rfl rfl rfl (by decide +kernel) ⟨Nat.le_of_ble_eq_true rfl, Nat.le_of_ble_eq_true rfl⟩) h.1 (by decide) rfl rfl rfl (Nat.le_of_ble_eq_true rfl) dX1_drop_15 ⟨Nat.le_of_ble_eq_true rfl, Nat.le_of_ble_eq_true rfl⟩) (fun r_4 M_z h => ?_)
    refine q_mem h.1 ?_
    have h := h.2
    refine q_cv (q_runV (As := []) (st := []) C (c_X5_clear l D cA lo h.2) (cwV 0 C.2.2.2.2.1 gX1_drop_X5_clear rfl rfl rfl (by decide +kernel) ⟨Nat.le_of_ble_eq_true rfl, Nat.le_of_ble_eq_true rfl⟩) h.1 (by decide) rfl rfl rfl (Nat.le_of_ble_eq_true rfl) dX1_drop_18 ⟨Nat.le_of_ble_eq_true rfl, Nat.le_of_ble_eq_true rfl⟩) (fun M_6 h => ?_)
    refine q_aload_n C dX1_drop_21 rfl (j := 0) rfl ?_
    refine q_dup C dX1_drop_22 rfl ?_
    refine q_getI (ci := 1) (k0 := 4) (T := TX1) C inX1_drop_X1 rfl (by decide) h.1 (by decide) rfl (by decide +kernel) rfl dX1_drop_23 ?_
    have h := h.2
    refine q_iconst (v := 1) C dX1_drop_26 (by decide) ?_
    refine q_isub C dX1_drop_27 ?_
    refine q_putI (ci := 1) (k0 := 4) (T := TX1) (v := ((iM M_6 a0 4) - 1)) (ty := .int) C inX1_drop_X1 tyX1 tyX1_ok nmX1 rfl (by decide) h.1 (by decide) rfl (by decide +kernel) rfl (by decide +kernel) rfl rfl rfl dX1_drop_28 ?_
    have h := h.2
    exact q_vret C hr hlk dX1_drop_31 (Nat.le_of_ble_eq_true rfl) (Nat.le_of_ble_eq_true rfl) h
def S_X5_copyFrom_10 (K10 : Nat → Nat → Int32 → Mm → Prop) (Q : Mm → Prop) (M : Mm) (a0 : Nat) (a1 : Nat) (i2 : Int32) : Prop := kM M a0 = (5, 2) ∧ ((iM M a0 1) ≤ i2 → Q M) ∧ (¬ (iM M a0 1) ≤ i2 → (12 ≤ i2 → Q M) ∧ (¬ 12 ≤ i2 → kM M a0 = (5, 2) ∧ ∃ a_1 : Nat, rM M a0 0 = some a_1 ∧ kM M a1 = (5, 2) ∧ ∃ a_2 : Nat, rM M a1 0 = some a_2 ∧ ∃ n_3 : Nat, kM M a_2 = (100, n_3) ∧ vp_in i2 n_3 ∧ ∃ n_4 : Nat, kM M a_1 = (100, n_4) ∧ vp_in i2 n_4 ∧ K10 a0 a1 (i2 + 1) (wI M a_1 i2.toNatClampNeg (iM M a_2 i2.toNatClampNeg))))
def T_X5_copyFrom (M : Mm) (a0 : Nat) (a1 : Nat) (Q : Mm → Prop) : Prop := ∀ (K10 : Nat → Nat → Int32 → Mm → Prop), (∀ (a0 : Nat) (a1 : Nat) (i2 : Int32) (M : Mm), S_X5_copyFrom_10 K10 Q M a0 a1 i2 → K10 a0 a1 i2 M) → kM M a1 = (5, 2) ∧ kM M a0 = (5, 2) ∧ K10 a0 a1 0 (wI M a0 1 (iM M a1 1))
theorem inX5_copyFrom_X5 : ∀ w ∈ wsX50, w ∈ wsX5_copyFrom := by decide +kernel
set_option maxRecDepth 100000 in
set_option maxHeartbeats 4000000 in
theorem b_X5_copyFrom_10 {p : Program} {l : Launch} {e : Env} {s : State} {m : MethodId} {args : Array Value} {below : List Frame} {meth : Method} {c : Code} {D : va_G} {cA : Nat → ClassId} {lo : Nat} (C : Cx p s m args c cX5_copyFrom 3 RX5 wsX5_copyFrom D cA lo) (hr : meth.sig.returnType = none) (hlk : meth.locks = false) {Q : Mm → Prop} (M : Mm) (a0 : Nat) (a1 : Nat) (i2 : Int32) (h : S_X5_copyFrom_10 (fun (a0 : Nat) (a1 : Nat) (i2 : Int32) (M : Mm) => QW p l e ({ frames := 0, cells := 0, slots := 0, locals := 0 } : Room) s m args below meth c (MQ below (QvM D cA lo Q) args s 0 0 (fun q => lo ≤ q)) 3 D cA lo 0 0 M 10 [(0, .ref a0), (1, .ref a1), (2, .int i2)] []) Q M a0 a1 i2) : QW p l e ({ frames := 0, cells := 0, slots := 0, locals := 0 } : Room) s m args below meth c (MQ below (QvM D cA lo Q) args s 0 0 (fun q => lo ≤ q)) 3 D cA lo 0 0 M 10 [(0, .ref a0), (1, .ref a1), (2, .int i2)] [] := by
  unfold S_X5_copyFrom_10 at h
  refine q_iload_n C dX5_copyFrom_10 rfl (j := 2) rfl ?_
  refine q_aload_n C dX5_copyFrom_11 rfl (j := 0) rfl ?_
  refine q_getI (ci := 5) (k0 := 1) (T := TX5) C inX5_copyFrom_X5 rfl (by decide) h.1 (by decide) rfl (by decide +kernel) rfl dX5_copyFrom_12 ?_
  have h := h.2
  refine q_icmp_ge (tgt := 42) C dX5_copyFrom_15 (by decide) (fun z => ?_) (fun z => ?_)
  · have h := h.1 z
    exact q_vret C hr hlk dX5_copyFrom_42 (Nat.le_of_ble_eq_true rfl) (Nat.le_of_ble_eq_true rfl) h
  · have h := h.2 z
    refine q_iload_n C dX5_copyFrom_18 rfl (j := 2) rfl ?_
    refine q_bipush (v := 12) C dX5_copyFrom_19 (by decide) ?_
    refine q_icmp_ge (tgt := 42) C dX5_copyFrom_21 (by decide) (fun z => ?_) (fun z => ?_)
    · have h := h.1 z
      exact q_vret C hr hlk dX5_copyFrom_42 (Nat.le_of_ble_eq_true rfl) (Nat.le_of_ble_eq_true rfl) h
    · have h := h.2 z
      refine q_aload_n C dX5_copyFrom_24 rfl (j := 0) rfl ?_
      refine q_getR (ci := 5) (k0 := 0) (T := TX5) C inX5_copyFrom_X5 rfl (by decide) h.1 (by decide) rfl (by decide +kernel) rfl dX5_copyFrom_25 ?_
      obtain ⟨a_1, z, h⟩ := h.2
      refine q_ref z ?_
      refine q_iload_n C dX5_copyFrom_28 rfl (j := 2) rfl ?_
      refine q_aload_n C dX5_copyFrom_29 rfl (j := 1) rfl ?_
      refine q_getR (ci := 5) (k0 := 0) (T := TX5) C inX5_copyFrom_X5 rfl (by decide) h.1 (by decide) rfl (by decide +kernel) rfl dX5_copyFrom_30 ?_
      obtain ⟨a_2, z, h⟩ := h.2
      refine q_ref z ?_
      refine q_iload_n C dX5_copyFrom_33 rfl (j := 2) rfl ?_
      obtain ⟨n_3, z1, z2, h⟩ := h
      refine q_iald C z1 z2 dX5_copyFrom_34 ?_
      obtain ⟨n_4, z1, z2, h⟩ := h
      refine q_iast C z1 z2 dX5_copyFrom_35 ?_
      refine q_iinc (v := (i2 + 1)) (lv' := [(2, .int (i2 + 1)), (0, .ref a0), (1, .ref a1)]) C dX5_copyFrom_36 (j := 2) rfl rfl (by decide) rfl ?_
      refine q_goto (tgt := 10) C dX5_copyFrom_39 (by decide) ?_
      exact q_sub [1, 2, 0] rfl h
set_option maxRecDepth 100000 in
set_option maxHeartbeats 4000000 in
theorem c_X5_copyFrom (l : Launch) (D : va_G) (cA : Nat → ClassId) (lo : Nat) {M : Mm} {a0 : Nat} {a1 : Nat} {Q : Mm → Prop} (h : T_X5_copyFrom M a0 a1 Q) : Met l yX5_copyFrom wsX5_copyFrom ({ frames := 0, cells := 0, slots := 0, locals := 0 } : Room) (PcM D cA lo [.ref a0, .ref a1] M) (QvM D cA lo Q) 0 0 (fun q => lo ≤ q) := by
  refine q_start (cc := cX5_copyFrom) (nL := 3) (ret := none) (by decide) rfl rfl (Nat.le_of_ble_eq_true rfl) ?_
  intro p e s m args below meth c C hr hlk hin
  unfold T_X5_copyFrom at h
  have h := h (fun (a0 : Nat) (a1 : Nat) (i2 : Int32) (M : Mm) => QW p l e ({ frames := 0, cells := 0, slots := 0, locals := 0 } : Room) s m args below meth c (MQ below (QvM D cA lo Q) args s 0 0 (fun q => lo ≤ q)) 3 D cA lo 0 0 M 10 [(0, .ref a0), (1, .ref a1), (2, .int i2)] []) (fun a0 a1 i2 M h => b_X5_copyFrom_10 C hr hlk M a0 a1 i2 h)
  refine q_aload_n C dX5_copyFrom_0 rfl (j := 0) rfl ?_
  refine q_aload_n C dX5_copyFrom_1 rfl (j := 1) rfl ?_
  refine q_getI (ci := 5) (k0 := 1) (T := TX5) C inX5_copyFrom_X5 rfl (by decide) h.1 (by decide) rfl (by decide +kernel) rfl dX5_copyFrom_2 ?_
  have h := h.2
  refine q_putI (ci := 5) (k0 := 1) (T := TX5) (v := (iM M a1 1)) (ty := .int) C inX5_copyFrom_X5 tyX5 tyX5_ok nmX5 rfl (by decide) h.1 (by decide) rfl (by decide +kernel) rfl (by decide +kernel) rfl rfl rfl dX5_copyFrom_5 ?_
  have h := h.2
  refine q_iconst (v := 0) C dX5_copyFrom_8 (by decide) ?_
  refine q_istore_n (lv' := [(2, .int 0), (0, .ref a0), (1, .ref a1)]) C dX5_copyFrom_9 rfl (by decide) rfl ?_
  exact q_sub [1, 2, 0] rfl h
def S_X1_claim_8 (K8 : Nat → Int32 → Nat → Int32 → Mm → Prop) (Q : Mm → Prop) (M : Mm) (a0 : Nat) (i1 : Int32) (a2 : Nat) (i3 : Int32) : Prop := kM M a2 = (5, 2) ∧ T_X5_length M a2 (fun r_2 => (r_2 ≤ i3 → Q M) ∧ (¬ r_2 ≤ i3 → kM M a2 = (5, 2) ∧ T_X5_get M a2 i3 (fun r_3 => kM M a2 = (5, 2) ∧ T_X5_get M a2 (i3 + 1) (fun r_4 => kM M a0 = (1, 5) ∧ T_X1_setOwner M a0 r_3 r_4 i1 (fun M_6 => K8 a0 i1 a2 (i3 + 1) M_6)))))
def T_X1_claim (M : Mm) (a0 : Nat) (i1 : Int32) (Q : Mm → Prop) : Prop := ∀ (K8 : Nat → Int32 → Nat → Int32 → Mm → Prop), (∀ (a0 : Nat) (i1 : Int32) (a2 : Nat) (i3 : Int32) (M : Mm), S_X1_claim_8 K8 Q M a0 i1 a2 i3 → K8 a0 i1 a2 i3 M) → kM M a0 = (1, 5) ∧ T_X1_ring M a0 i1 (fun r_1 => K8 a0 i1 r_1 0 M)
set_option maxRecDepth 100000 in
set_option maxHeartbeats 4000000 in
theorem b_X1_claim_8 {p : Program} {l : Launch} {e : Env} {s : State} {m : MethodId} {args : Array Value} {below : List Frame} {meth : Method} {c : Code} {D : va_G} {cA : Nat → ClassId} {lo : Nat} (C : Cx p s m args c cX1_claim 4 RX1 wsX1_claim D cA lo) (hr : meth.sig.returnType = none) (hlk : meth.locks = false) {Q : Mm → Prop} (M : Mm) (a0 : Nat) (i1 : Int32) (a2 : Nat) (i3 : Int32) (h : S_X1_claim_8 (fun (a0 : Nat) (i1 : Int32) (a2 : Nat) (i3 : Int32) (M : Mm) => QW p l e ({ frames := 1, cells := 0, slots := 0, locals := 23 } : Room) s m args below meth c (MQ below (QvM D cA lo Q) args s 0 0 (fun q => lo ≤ q)) 4 D cA lo 0 0 M 8 [(0, .ref a0), (1, .int i1), (2, .ref a2), (3, .int i3)] []) Q M a0 i1 a2 i3) : QW p l e ({ frames := 1, cells := 0, slots := 0, locals := 23 } : Room) s m args below meth c (MQ below (QvM D cA lo Q) args s 0 0 (fun q => lo ≤ q)) 4 D cA lo 0 0 M 8 [(0, .ref a0), (1, .int i1), (2, .ref a2), (3, .int i3)] [] := by
  unfold S_X1_claim_8 at h
  refine q_iload_n C dX1_claim_8 rfl (j := 3) rfl ?_
  refine q_aload_n C dX1_claim_9 rfl (j := 2) rfl ?_
  refine q_ci (q_runV (As := []) (st := [.int i3]) C (c_X5_length l D cA lo h.2) (cwV 0 C.2.2.2.2.1 gX1_claim_X5_length rfl rfl rfl (by decide +kernel) ⟨Nat.le_of_ble_eq_true rfl, Nat.le_of_ble_eq_true rfl⟩) h.1 (by decide) rfl rfl rfl (Nat.le_of_ble_eq_true rfl) dX1_claim_10 ⟨Nat.le_of_ble_eq_true rfl, Nat.le_of_ble_eq_true rfl⟩) (fun r_2 M_z h => ?_)
  refine q_mem h.1 ?_
  have h := h.2
  refine q_icmp_ge (tgt := 39) C dX1_claim_13 (by decide) (fun z => ?_) (fun z => ?_)
  · have h := h.1 z
    exact q_vret C hr hlk dX1_claim_39 (Nat.le_of_ble_eq_true rfl) (Nat.le_of_ble_eq_true rfl) h
  · have h := h.2 z
    refine q_aload_n C dX1_claim_16 rfl (j := 0) rfl ?_
    refine q_aload_n C dX1_claim_17 rfl (j := 2) rfl ?_
    refine q_iload_n C dX1_claim_18 rfl (j := 3) rfl ?_
    refine q_ci (q_runV (As := [.int i3]) (st := [.ref a0]) C (c_X5_get l D cA lo h.2) (cwV 1 C.2.2.2.2.1 gX1_claim_X5_get rfl rfl rfl (by decide +kernel) ⟨Nat.le_of_ble_eq_true rfl, Nat.le_of_ble_eq_true rfl⟩) h.1 (by decide) rfl rfl rfl (Nat.le_of_ble_eq_true rfl) dX1_claim_19 ⟨Nat.le_of_ble_eq_true rfl, Nat.le_of_ble_eq_true rfl⟩) (fun r_3 M_z h => ?_)
    refine q_mem h.1 ?_
    have h := h.2
    refine q_aload_n C dX1_claim_22 rfl (j := 2) rfl ?_
    refine q_iload_n C dX1_claim_23 rfl (j := 3) rfl ?_
    refine q_iconst (v := 1) C dX1_claim_24 (by decide) ?_
    refine q_iadd C dX1_claim_25 ?_
    refine q_ci (q_runV (As := [.int (i3 + 1)]) (st := [.int r_3, .ref a0]) C (c_X5_get l D cA lo h.2) (cwV 1 C.2.2.2.2.1 gX1_claim_X5_get rfl rfl rfl (by decide +kernel) ⟨Nat.le_of_ble_eq_true rfl, Nat.le_of_ble_eq_true rfl⟩) h.1 (by decide) rfl rfl rfl (Nat.le_of_ble_eq_true rfl) dX1_claim_26 ⟨Nat.le_of_ble_eq_true rfl, Nat.le_of_ble_eq_true rfl⟩) (fun r_4 M_z h => ?_)
    refine q_mem h.1 ?_
    have h := h.2
    refine q_iload_n C dX1_claim_29 rfl (j := 1) rfl ?_
    refine q_cv (q_runV (As := [.int r_3, .int r_4, .int i1]) (st := []) C (c_X1_setOwner l D cA lo h.2) (cwV 3 C.2.2.2.2.1 gX1_claim_X1_setOwner rfl rfl rfl (by decide +kernel) ⟨Nat.le_of_ble_eq_true rfl, Nat.le_of_ble_eq_true rfl⟩) h.1 (by decide) rfl rfl rfl (Nat.le_of_ble_eq_true rfl) dX1_claim_30 ⟨Nat.le_of_ble_eq_true rfl, Nat.le_of_ble_eq_true rfl⟩) (fun M_6 h => ?_)
    refine q_iinc (v := (i3 + 1)) (lv' := [(3, .int (i3 + 1)), (0, .ref a0), (1, .int i1), (2, .ref a2)]) C dX1_claim_33 (j := 3) rfl rfl (by decide) rfl ?_
    refine q_goto (tgt := 8) C dX1_claim_36 (by decide) ?_
    exact q_sub [1, 2, 3, 0] rfl h
set_option maxRecDepth 100000 in
set_option maxHeartbeats 4000000 in
theorem c_X1_claim (l : Launch) (D : va_G) (cA : Nat → ClassId) (lo : Nat) {M : Mm} {a0 : Nat} {i1 : Int32} {Q : Mm → Prop} (h : T_X1_claim M a0 i1 Q) : Met l yX1_claim wsX1_claim ({ frames := 1, cells := 0, slots := 0, locals := 23 } : Room) (PcM D cA lo [.ref a0, .int i1] M) (QvM D cA lo Q) 0 0 (fun q => lo ≤ q) := by
  refine q_start (cc := cX1_claim) (nL := 4) (ret := none) (by decide) rfl rfl (Nat.le_of_ble_eq_true rfl) ?_
  intro p e s m args below meth c C hr hlk hin
  unfold T_X1_claim at h
  have h := h (fun (a0 : Nat) (i1 : Int32) (a2 : Nat) (i3 : Int32) (M : Mm) => QW p l e ({ frames := 1, cells := 0, slots := 0, locals := 23 } : Room) s m args below meth c (MQ below (QvM D cA lo Q) args s 0 0 (fun q => lo ≤ q)) 4 D cA lo 0 0 M 8 [(0, .ref a0), (1, .int i1), (2, .ref a2), (3, .int i3)] []) (fun a0 i1 a2 i3 M h => b_X1_claim_8 C hr hlk M a0 i1 a2 i3 h)
  refine q_aload_n C dX1_claim_0 rfl (j := 0) rfl ?_
  refine q_iload_n C dX1_claim_1 rfl (j := 1) rfl ?_
  refine q_cr (q_runV (As := [.int i1]) (st := []) C (c_X1_ring l D cA lo h.2) (cwV 1 C.2.2.2.2.1 gX1_claim_X1_ring rfl rfl rfl (by decide +kernel) ⟨Nat.le_of_ble_eq_true rfl, Nat.le_of_ble_eq_true rfl⟩) h.1 (by decide) rfl rfl rfl (Nat.le_of_ble_eq_true rfl) dX1_claim_2 ⟨Nat.le_of_ble_eq_true rfl, Nat.le_of_ble_eq_true rfl⟩) (fun r_1 M_z h => ?_)
  refine q_mem h.1 ?_
  have h := h.2
  refine q_astore_n (lv' := [(2, .ref r_1), (0, .ref a0), (1, .int i1)]) C dX1_claim_5 rfl (by decide) rfl ?_
  refine q_iconst (v := 0) C dX1_claim_6 (by decide) ?_
  refine q_istore_n (lv' := [(3, .int 0), (2, .ref r_1), (0, .ref a0), (1, .int i1)]) C dX1_claim_7 rfl (by decide) rfl ?_
  exact q_sub [2, 3, 1, 0] rfl h
def T_X1_reshape (M : Mm) (a0 : Nat) (i1 : Int32) (a2 : Nat) (Q : Mm → Prop) : Prop := kM M a0 = (1, 5) ∧ T_X1_release M a0 i1 (fun M_2 => kM M_2 a0 = (1, 5) ∧ T_X1_ring M_2 a0 i1 (fun r_3 => kM M_2 r_3 = (5, 2) ∧ T_X5_copyFrom M_2 r_3 a2 (fun M_5 => kM M_5 a0 = (1, 5) ∧ T_X1_claim M_5 a0 i1 (fun M_7 => Q M_7))))
set_option maxRecDepth 100000 in
set_option maxHeartbeats 4000000 in
theorem c_X1_reshape (l : Launch) (D : va_G) (cA : Nat → ClassId) (lo : Nat) {M : Mm} {a0 : Nat} {i1 : Int32} {a2 : Nat} {Q : Mm → Prop} (h : T_X1_reshape M a0 i1 a2 Q) : Met l yX1_reshape wsX1_reshape ({ frames := 2, cells := 0, slots := 0, locals := 46 } : Room) (PcM D cA lo [.ref a0, .int i1, .ref a2] M) (QvM D cA lo Q) 0 0 (fun q => lo ≤ q) := by
  refine q_start (cc := cX1_reshape) (nL := 3) (ret := none) (by decide) rfl rfl (Nat.le_of_ble_eq_true rfl) ?_
  intro p e s m args below meth c C hr hlk hin
  unfold T_X1_reshape at h
  refine q_aload_n C dX1_reshape_0 rfl (j := 0) rfl ?_
  refine q_iload_n C dX1_reshape_1 rfl (j := 1) rfl ?_
  refine q_cv (q_runV (As := [.int i1]) (st := []) C (c_X1_release l D cA lo h.2) (cwV 1 C.2.2.2.2.1 gX1_reshape_X1_release rfl rfl rfl (by decide +kernel) ⟨Nat.le_of_ble_eq_true rfl, Nat.le_of_ble_eq_true rfl⟩) h.1 (by decide) rfl rfl rfl (Nat.le_of_ble_eq_true rfl) dX1_reshape_2 ⟨Nat.le_of_ble_eq_true rfl, Nat.le_of_ble_eq_true rfl⟩) (fun M_2 h => ?_)
  refine q_aload_n C dX1_reshape_5 rfl (j := 0) rfl ?_
  refine q_iload_n C dX1_reshape_6 rfl (j := 1) rfl ?_
  refine q_cr (q_runV (As := [.int i1]) (st := []) C (c_X1_ring l D cA lo h.2) (cwV 1 C.2.2.2.2.1 gX1_reshape_X1_ring rfl rfl rfl (by decide +kernel) ⟨Nat.le_of_ble_eq_true rfl, Nat.le_of_ble_eq_true rfl⟩) h.1 (by decide) rfl rfl rfl (Nat.le_of_ble_eq_true rfl) dX1_reshape_7 ⟨Nat.le_of_ble_eq_true rfl, Nat.le_of_ble_eq_true rfl⟩) (fun r_3 M_z h => ?_)
  refine q_mem h.1 ?_
  have h := h.2
  refine q_aload_n C dX1_reshape_10 rfl (j := 2) rfl ?_
  refine q_cv (q_runV (As := [.ref a2]) (st := []) C (c_X5_copyFrom l D cA lo h.2) (cwV 1 C.2.2.2.2.1 gX1_reshape_X5_copyFrom rfl rfl rfl (by decide +kernel) ⟨Nat.le_of_ble_eq_true rfl, Nat.le_of_ble_eq_true rfl⟩) h.1 (by decide) rfl rfl rfl (Nat.le_of_ble_eq_true rfl) dX1_reshape_11 ⟨Nat.le_of_ble_eq_true rfl, Nat.le_of_ble_eq_true rfl⟩) (fun M_5 h => ?_)
  refine q_aload_n C dX1_reshape_14 rfl (j := 0) rfl ?_
  refine q_iload_n C dX1_reshape_15 rfl (j := 1) rfl ?_
  refine q_cv (q_runV (As := [.int i1]) (st := []) C (c_X1_claim l D cA lo h.2) (cwV 1 C.2.2.2.2.1 gX1_reshape_X1_claim rfl rfl rfl (by decide +kernel) ⟨Nat.le_of_ble_eq_true rfl, Nat.le_of_ble_eq_true rfl⟩) h.1 (by decide) rfl rfl rfl (Nat.le_of_ble_eq_true rfl) dX1_reshape_16 ⟨Nat.le_of_ble_eq_true rfl, Nat.le_of_ble_eq_true rfl⟩) (fun M_7 h => ?_)
  exact q_vret C hr hlk dX1_reshape_19 (Nat.le_of_ble_eq_true rfl) (Nat.le_of_ble_eq_true rfl) h
def S_X0_apply_5 (K5 : Nat → Int32 → Int32 → Int32 → Int32 → Mm → Prop) (Q : Int32 → Mm → Prop) (M : Mm) (a0 : Nat) (i1 : Int32) (i2 : Int32) (i3 : Int32) (i4 : Int32) : Prop := (100 ≤ i4 → Q i3 M) ∧ (¬ 100 ≤ i4 → kM M a0 = (0, 3) ∧ ∃ a_1 : Nat, rM M a0 0 = some a_1 ∧ kM M a_1 = (1, 5) ∧ T_X1_owner M a_1 i2 i4 (fun r_2 => (r_2 = (-1) → K5 a0 i1 i2 i3 (i4 + 1) M) ∧ (¬ r_2 = (-1) → kM M a0 = (0, 3) ∧ T_X0_shape M a0 r_2 i1 i2 (fun r_3 M_4 => kM M_4 r_3 = (5, 2) ∧ T_X5_length M_4 r_3 (fun r_5 => (3 ≤ r_5 → kM M_4 a0 = (0, 3) ∧ ∃ a_6 : Nat, rM M_4 a0 0 = some a_6 ∧ kM M_4 a_6 = (1, 5) ∧ T_X1_reshape M_4 a_6 r_2 r_3 (fun M_8 => K5 a0 i1 i2 i3 (i4 + 1) M_8)) ∧ (¬ 3 ≤ r_5 → kM M_4 a0 = (0, 3) ∧ ∃ a_9 : Nat, rM M_4 a0 0 = some a_9 ∧ kM M_4 a_9 = (1, 5) ∧ T_X1_drop M_4 a_9 r_2 (fun M_11 => K5 a0 i1 i2 (i3 + 1) (i4 + 1) M_11)))))))
def T_X0_apply (M : Mm) (a0 : Nat) (i1 : Int32) (i2 : Int32) (Q : Int32 → Mm → Prop) : Prop := ∀ (K5 : Nat → Int32 → Int32 → Int32 → Int32 → Mm → Prop), (∀ (a0 : Nat) (i1 : Int32) (i2 : Int32) (i3 : Int32) (i4 : Int32) (M : Mm), S_X0_apply_5 K5 Q M a0 i1 i2 i3 i4 → K5 a0 i1 i2 i3 i4 M) → K5 a0 i1 i2 0 0 M
theorem inX0_apply_X0 : ∀ w ∈ wsX00, w ∈ wsX0_apply := by decide +kernel
set_option maxRecDepth 100000 in
set_option maxHeartbeats 4000000 in
theorem b_X0_apply_5 {p : Program} {l : Launch} {e : Env} {s : State} {m : MethodId} {args : Array Value} {below : List Frame} {meth : Method} {c : Code} {D : va_G} {cA : Nat → ClassId} {lo : Nat} (C : Cx p s m args c cX0_apply 7 RX0 wsX0_apply D cA lo) (hr : meth.sig.returnType = (some .int)) (hlk : meth.locks = false) {Q : Int32 → Mm → Prop} (M : Mm) (a0 : Nat) (i1 : Int32) (i2 : Int32) (i3 : Int32) (i4 : Int32) (h : S_X0_apply_5 (fun (a0 : Nat) (i1 : Int32) (i2 : Int32) (i3 : Int32) (i4 : Int32) (M : Mm) => QW p l e ({ frames := 3, cells := 0, slots := 0, locals := 68 } : Room) s m args below meth c (MQ below (QiM D cA lo Q) args s 0 0 (fun q => lo ≤ q)) 7 D cA lo 0 0 M 5 [(0, .ref a0), (1, .int i1), (2, .int i2), (3, .int i3), (4, .int i4)] []) Q M a0 i1 i2 i3 i4) : QW p l e ({ frames := 3, cells := 0, slots := 0, locals := 68 } : Room) s m args below meth c (MQ below (QiM D cA lo Q) args s 0 0 (fun q => lo ≤ q)) 7 D cA lo 0 0 M 5 [(0, .ref a0), (1, .int i1), (2, .int i2), (3, .int i3), (4, .int i4)] [] := by
  unfold S_X0_apply_5 at h
  refine q_iload C dX0_apply_5 (j := 4) rfl ?_
  refine q_bipush (v := 100) C dX0_apply_7 (by decide) ?_
  refine q_icmp_ge (tgt := 81) C dX0_apply_9 (by decide) (fun z => ?_) (fun z => ?_)
  · have h := h.1 z
    refine q_iload_n C dX0_apply_81 rfl (j := 3) rfl ?_
    exact q_iret C hr hlk dX0_apply_82 (Nat.le_of_ble_eq_true rfl) (Nat.le_of_ble_eq_true rfl) h
  · have h := h.2 z
    refine q_aload_n C dX0_apply_12 rfl (j := 0) rfl ?_
    refine q_getR (ci := 0) (k0 := 0) (T := TX0) C inX0_apply_X0 rfl (by decide) h.1 (by decide) rfl (by decide +kernel) rfl dX0_apply_13 ?_
    obtain ⟨a_1, z, h⟩ := h.2
    refine q_ref z ?_
    refine q_iload_n C dX0_apply_16 rfl (j := 2) rfl ?_
    refine q_iload C dX0_apply_17 (j := 4) rfl ?_
    refine q_ci (q_runV (As := [.int i2, .int i4]) (st := []) C (c_X1_owner l D cA lo h.2) (cwV 2 C.2.2.2.2.1 gX0_apply_X1_owner rfl rfl rfl (by decide +kernel) ⟨Nat.le_of_ble_eq_true rfl, Nat.le_of_ble_eq_true rfl⟩) h.1 (by decide) rfl rfl rfl (Nat.le_of_ble_eq_true rfl) dX0_apply_19 ⟨Nat.le_of_ble_eq_true rfl, Nat.le_of_ble_eq_true rfl⟩) (fun r_2 M_z h => ?_)
    refine q_mem h.1 ?_
    have h := h.2
    refine q_istore (lv' := [(5, .int r_2), (0, .ref a0), (1, .int i1), (2, .int i2), (3, .int i3), (4, .int i4)]) C dX0_apply_22 (by decide) rfl ?_
    refine q_iload C dX0_apply_24 (j := 0) rfl ?_
    refine q_iconst (v := (-1)) C dX0_apply_26 (by decide) ?_
    refine q_icmp_eq (tgt := 75) C dX0_apply_27 (by decide) (fun z => ?_) (fun z => ?_)
    · have h := h.1 z
      refine q_iinc (v := (i4 + 1)) (lv' := [(4, .int (i4 + 1)), (5, .int r_2), (0, .ref a0), (1, .int i1), (2, .int i2), (3, .int i3)]) C dX0_apply_75 (j := 5) rfl rfl (by decide) rfl ?_
      refine q_goto (tgt := 5) C dX0_apply_78 (by decide) ?_
      exact q_sub [2, 3, 4, 5, 0] rfl h
    · have h := h.2 z
      refine q_aload_n C dX0_apply_30 rfl (j := 1) rfl ?_
      refine q_iload C dX0_apply_31 (j := 0) rfl ?_
      refine q_iload_n C dX0_apply_33 rfl (j := 2) rfl ?_
      refine q_iload_n C dX0_apply_34 rfl (j := 3) rfl ?_
      refine q_cr (q_runV (As := [.int r_2, .int i1, .int i2]) (st := []) C (c_X0_shape l D cA lo h.2) (cwV 3 C.2.2.2.2.1 gX0_apply_X0_shape rfl rfl rfl (by decide +kernel) ⟨Nat.le_of_ble_eq_true rfl, Nat.le_of_ble_eq_true rfl⟩) h.1 (by decide) rfl rfl rfl (Nat.le_of_ble_eq_true rfl) dX0_apply_35 ⟨Nat.le_of_ble_eq_true rfl, Nat.le_of_ble_eq_true rfl⟩) (fun r_3 M_4 h => ?_)
      refine q_astore (lv' := [(6, .ref r_3), (5, .int r_2), (0, .ref a0), (1, .int i1), (2, .int i2), (3, .int i3), (4, .int i4)]) C dX0_apply_38 (by decide) rfl ?_
      refine q_aload C dX0_apply_40 (j := 0) rfl ?_
      refine q_ci (q_runV (As := []) (st := []) C (c_X5_length l D cA lo h.2) (cwV 0 C.2.2.2.2.1 gX0_apply_X5_length rfl rfl rfl (by decide +kernel) ⟨Nat.le_of_ble_eq_true rfl, Nat.le_of_ble_eq_true rfl⟩) h.1 (by decide) rfl rfl rfl (Nat.le_of_ble_eq_true rfl) dX0_apply_42 ⟨Nat.le_of_ble_eq_true rfl, Nat.le_of_ble_eq_true rfl⟩) (fun r_5 M_z h => ?_)
      refine q_mem h.1 ?_
      have h := h.2
      refine q_iconst (v := 3) C dX0_apply_45 (by decide) ?_
      refine q_icmp_ge (tgt := 64) C dX0_apply_46 (by decide) (fun z => ?_) (fun z => ?_)
      · have h := h.1 z
        refine q_aload_n C dX0_apply_64 rfl (j := 2) rfl ?_
        refine q_getR (ci := 0) (k0 := 0) (T := TX0) C inX0_apply_X0 rfl (by decide) h.1 (by decide) rfl (by decide +kernel) rfl dX0_apply_65 ?_
        obtain ⟨a_6, z, h⟩ := h.2
        refine q_ref z ?_
        refine q_iload C dX0_apply_68 (j := 1) rfl ?_
        refine q_aload C dX0_apply_70 (j := 0) rfl ?_
        refine q_cv (q_runV (As := [.int r_2, .ref r_3]) (st := []) C (c_X1_reshape l D cA lo h.2) (cwV 2 C.2.2.2.2.1 gX0_apply_X1_reshape rfl rfl rfl (by decide +kernel) ⟨Nat.le_of_ble_eq_true rfl, Nat.le_of_ble_eq_true rfl⟩) h.1 (by decide) rfl rfl rfl (Nat.le_of_ble_eq_true rfl) dX0_apply_72 ⟨Nat.le_of_ble_eq_true rfl, Nat.le_of_ble_eq_true rfl⟩) (fun M_8 h => ?_)
        refine q_iinc (v := (i4 + 1)) (lv' := [(4, .int (i4 + 1)), (6, .ref r_3), (5, .int r_2), (0, .ref a0), (1, .int i1), (2, .int i2), (3, .int i3)]) C dX0_apply_75 (j := 6) rfl rfl (by decide) rfl ?_
        refine q_goto (tgt := 5) C dX0_apply_78 (by decide) ?_
        exact q_sub [3, 4, 5, 6, 0] rfl h
      · have h := h.2 z
        refine q_aload_n C dX0_apply_49 rfl (j := 2) rfl ?_
        refine q_getR (ci := 0) (k0 := 0) (T := TX0) C inX0_apply_X0 rfl (by decide) h.1 (by decide) rfl (by decide +kernel) rfl dX0_apply_50 ?_
        obtain ⟨a_9, z, h⟩ := h.2
        refine q_ref z ?_
        refine q_iload C dX0_apply_53 (j := 1) rfl ?_
        refine q_cv (q_runV (As := [.int r_2]) (st := []) C (c_X1_drop l D cA lo h.2) (cwV 1 C.2.2.2.2.1 gX0_apply_X1_drop rfl rfl rfl (by decide +kernel) ⟨Nat.le_of_ble_eq_true rfl, Nat.le_of_ble_eq_true rfl⟩) h.1 (by decide) rfl rfl rfl (Nat.le_of_ble_eq_true rfl) dX0_apply_55 ⟨Nat.le_of_ble_eq_true rfl, Nat.le_of_ble_eq_true rfl⟩) (fun M_11 h => ?_)
        refine q_iinc (v := (i3 + 1)) (lv' := [(3, .int (i3 + 1)), (6, .ref r_3), (5, .int r_2), (0, .ref a0), (1, .int i1), (2, .int i2), (4, .int i4)]) C dX0_apply_58 (j := 5) rfl rfl (by decide) rfl ?_
        refine q_goto (tgt := 75) C dX0_apply_61 (by decide) ?_
        refine q_iinc (v := (i4 + 1)) (lv' := [(4, .int (i4 + 1)), (3, .int (i3 + 1)), (6, .ref r_3), (5, .int r_2), (0, .ref a0), (1, .int i1), (2, .int i2)]) C dX0_apply_75 (j := 6) rfl rfl (by decide) rfl ?_
        refine q_goto (tgt := 5) C dX0_apply_78 (by decide) ?_
        exact q_sub [4, 5, 6, 1, 0] rfl h
set_option maxRecDepth 100000 in
set_option maxHeartbeats 4000000 in
theorem c_X0_apply (l : Launch) (D : va_G) (cA : Nat → ClassId) (lo : Nat) {M : Mm} {a0 : Nat} {i1 : Int32} {i2 : Int32} {Q : Int32 → Mm → Prop} (h : T_X0_apply M a0 i1 i2 Q) : Met l yX0_apply wsX0_apply ({ frames := 3, cells := 0, slots := 0, locals := 68 } : Room) (PcM D cA lo [.ref a0, .int i1, .int i2] M) (QiM D cA lo Q) 0 0 (fun q => lo ≤ q) := by
  refine q_start (cc := cX0_apply) (nL := 7) (ret := (some .int)) (by decide) rfl rfl (Nat.le_of_ble_eq_true rfl) ?_
  intro p e s m args below meth c C hr hlk hin
  unfold T_X0_apply at h
  have h := h (fun (a0 : Nat) (i1 : Int32) (i2 : Int32) (i3 : Int32) (i4 : Int32) (M : Mm) => QW p l e ({ frames := 3, cells := 0, slots := 0, locals := 68 } : Room) s m args below meth c (MQ below (QiM D cA lo Q) args s 0 0 (fun q => lo ≤ q)) 7 D cA lo 0 0 M 5 [(0, .ref a0), (1, .int i1), (2, .int i2), (3, .int i3), (4, .int i4)] []) (fun a0 i1 i2 i3 i4 M h => b_X0_apply_5 C hr hlk M a0 i1 i2 i3 i4 h)
  refine q_iconst (v := 0) C dX0_apply_0 (by decide) ?_
  refine q_istore_n (lv' := [(3, .int 0), (0, .ref a0), (1, .int i1), (2, .int i2)]) C dX0_apply_1 rfl (by decide) rfl ?_
  refine q_iconst (v := 0) C dX0_apply_2 (by decide) ?_
  refine q_istore (lv' := [(4, .int 0), (3, .int 0), (0, .ref a0), (1, .int i1), (2, .int i2)]) C dX0_apply_3 (by decide) rfl ?_
  exact q_sub [2, 3, 4, 1, 0] rfl h
def S_X1_init_36 (K36 : Nat → Int32 → Mm → Nat → Nat → Prop) (Cc Zz : Nat) (Q : Mm → Prop) (M : Mm) (a0 : Nat) (i1 : Int32) (cc zz : Nat) : Prop := (160 ≤ i1 → cc ≤ Cc ∧ zz ≤ Zz ∧ Q M) ∧ (¬ 160 ≤ i1 → kM M a0 = (1, 5) ∧ ∃ a_7 : Nat, rM M a0 0 = some a_7 ∧ cc + 1 ≤ Cc ∧ zz + 2 ≤ Zz ∧ ∀ q_8 : Nat, frs M q_8 → ∃ dc_11 ds_11 : Nat, ((cc + 1) + dc_11 ≤ Cc ∧ (zz + 2) + ds_11 ≤ Zz) ∧ T_X5_init dc_11 ds_11 (wN M q_8 5 2) q_8 (fun M_10 => ∃ n_12 : Nat, kM M_10 a_7 = (120, n_12) ∧ vp_in i1 n_12 ∧ kM M_10 q_8 = (5, 2) ∧ K36 a0 (i1 + 1) (wR M_10 a_7 i1.toNatClampNeg (some q_8)) ((cc + 1) + dc_11) ((zz + 2) + ds_11)))
def T_X1_init (Cc Zz : Nat) (M : Mm) (a0 : Nat) (Q : Mm → Prop) : Prop := ∀ (K36 : Nat → Int32 → Mm → Nat → Nat → Prop), (∀ (a0 : Nat) (i1 : Int32) (M : Mm) (cc zz : Nat), S_X1_init_36 K36 Cc Zz Q M a0 i1 cc zz → K36 a0 i1 M cc zz) → 0 + 1 ≤ Cc ∧ 0 + 160 ≤ Zz ∧ ∀ q_1 : Nat, frs M q_1 → kM (wN M q_1 120 160) a0 = (1, 5) ∧ (0 + 1) + 1 ≤ Cc ∧ (0 + 160) + 2 ≤ Zz ∧ ∀ q_2 : Nat, frs (wR (wN M q_1 120 160) a0 0 (some q_1)) q_2 → ∃ dc_5 ds_5 : Nat, (((0 + 1) + 1) + dc_5 ≤ Cc ∧ ((0 + 160) + 2) + ds_5 ≤ Zz) ∧ T_X5_init dc_5 ds_5 (wN (wR (wN M q_1 120 160) a0 0 (some q_1)) q_2 5 2) q_2 (fun M_4 => kM M_4 a0 = (1, 5) ∧ (((0 + 1) + 1) + dc_5) + 1 ≤ Cc ∧ (((0 + 160) + 2) + ds_5) + 10000 ≤ Zz ∧ ∀ q_6 : Nat, frs (wR M_4 a0 1 (some q_2)) q_6 → kM (wN (wR M_4 a0 1 (some q_2)) q_6 100 10000) a0 = (1, 5) ∧ K36 a0 0 (wR (wN (wR M_4 a0 1 (some q_2)) q_6 100 10000) a0 2 (some q_6)) ((((0 + 1) + 1) + dc_5) + 1) ((((0 + 160) + 2) + ds_5) + 10000))
theorem inX1_init_X1 : ∀ w ∈ wsX10, w ∈ wsX1_init := by decide +kernel
theorem inX1_init_X5 : ∀ w ∈ wsX50, w ∈ wsX1_init := by decide +kernel
set_option maxRecDepth 100000 in
set_option maxHeartbeats 4000000 in
theorem b_X1_init_36 {p : Program} {l : Launch} {e : Env} {s : State} {m : MethodId} {args : Array Value} {below : List Frame} {meth : Method} {c : Code} {D : va_G} {cA : Nat → ClassId} {lo : Nat} (C : Cx p s m args c cX1_init 2 RX1 wsX1_init D cA lo) (hr : meth.sig.returnType = none) (hlk : meth.locks = false) (hin : meth.name = "<init>") {Q : Mm → Prop} {Cc Zz : Nat} (M : Mm) (a0 : Nat) (i1 : Int32) (cc zz : Nat) (h : S_X1_init_36 (fun (a0 : Nat) (i1 : Int32) (M : Mm) (cc zz : Nat) => QW p l e ({ frames := 2, cells := Cc, slots := Zz, locals := 40 } : Room) s m args below meth c (MQ below (QvM D cA lo Q) args s Cc Zz (fun q => lo ≤ q)) 2 D cA lo cc zz M 36 [(0, .ref a0), (1, .int i1)] []) Cc Zz Q M a0 i1 cc zz) : QW p l e ({ frames := 2, cells := Cc, slots := Zz, locals := 40 } : Room) s m args below meth c (MQ below (QvM D cA lo Q) args s Cc Zz (fun q => lo ≤ q)) 2 D cA lo cc zz M 36 [(0, .ref a0), (1, .int i1)] [] := by
  unfold S_X1_init_36 at h
  refine q_iload_n C dX1_init_36 rfl (j := 1) rfl ?_
  refine q_sipush (v := 160) C dX1_init_37 (by decide) ?_
  refine q_icmp_ge (tgt := 62) C dX1_init_40 (by decide) (fun z => ?_) (fun z => ?_)
  · have h := h.1 z
    exact q_vret C hr hlk dX1_init_62 h.1 h.2.1 h.2.2
  · have h := h.2 z
    refine q_aload_n C dX1_init_43 rfl (j := 0) rfl ?_
    refine q_getR (ci := 1) (k0 := 0) (T := TX1) C inX1_init_X1 rfl (by decide) h.1 (by decide) rfl (by decide +kernel) rfl dX1_init_44 ?_
    obtain ⟨a_7, z, h⟩ := h.2
    refine q_ref z ?_
    refine q_iload_n C dX1_init_47 rfl (j := 1) rfl ?_
    refine q_new (ci := 5) (T := TX5) C inX1_init_X5 tyX5 tyX5_ok (by decide +kernel) (by decide +kernel) (by decide +kernel) rfl (by decide) (by decide +kernel) ⟨h.1, h.2.1⟩ dX1_init_48 (fun q_8 hq _ => ?_)
    have h := h.2.2 q_8 hq
    refine q_dup C dX1_init_51 rfl ?_
    obtain ⟨dc_11, ds_11, hcz, h⟩ := h
    refine q_cv (q_runIN (As := []) (st := [.ref q_8, .int i1, .ref a_7]) C (c_X5_init l D cA lo h) ⟨va_cnB (host := "QuarryMesh") 0 C.2.2.2.2.1 gX1_init_X5_init_n17 rfl rfl rfl (C.2.2.2.2.2.2.2.1 (RX1, 17, yX5_init, "QuarryMesh") (List.mem_of_getElem? (i := 1) rfl)) (C.2.2.2.2.1 _ (by decide +kernel)) (by decide +kernel) ⟨Nat.le_of_ble_eq_true rfl, Nat.le_of_ble_eq_true rfl⟩, rfl, C.2.2.2.2.1 _ (by decide +kernel)⟩ rfl rfl (Nat.le_of_ble_eq_true rfl) dX1_init_52 hcz) (fun M_10 h => ?_)
    obtain ⟨n_12, z1, z2, z3, h⟩ := h
    refine q_rast C z1 z2 z3 dX1_init_55 ?_
    refine q_iinc (v := (i1 + 1)) (lv' := [(1, .int (i1 + 1)), (0, .ref a0)]) C dX1_init_56 (j := 1) rfl rfl (by decide) rfl ?_
    refine q_goto (tgt := 36) C dX1_init_59 (by decide) ?_
    exact q_sub [1, 0] rfl h
set_option maxRecDepth 100000 in
set_option maxHeartbeats 4000000 in
theorem c_X1_init (l : Launch) (D : va_G) (cA : Nat → ClassId) (lo : Nat) {M : Mm} {a0 : Nat} {Cc Zz : Nat} {Q : Mm → Prop} (h : T_X1_init Cc Zz M a0 Q) : Met l yX1_init wsX1_init ({ frames := 2, cells := Cc, slots := Zz, locals := 40 } : Room) (PcM D cA lo [.ref a0] M) (QvM D cA lo Q) Cc Zz (fun q => lo ≤ q) := by
  refine q_start (cc := cX1_init) (nL := 2) (ret := none) (by decide) rfl rfl (Nat.le_of_ble_eq_true rfl) ?_
  intro p e s m args below meth c C hr hlk hin
  unfold T_X1_init at h
  have h := h (fun (a0 : Nat) (i1 : Int32) (M : Mm) (cc zz : Nat) => QW p l e ({ frames := 2, cells := Cc, slots := Zz, locals := 40 } : Room) s m args below meth c (MQ below (QvM D cA lo Q) args s Cc Zz (fun q => lo ≤ q)) 2 D cA lo cc zz M 36 [(0, .ref a0), (1, .int i1)] []) (fun a0 i1 M cc zz h => b_X1_init_36 C hr hlk hin M a0 i1 cc zz h)
  refine q_aload_n C dX1_init_0 rfl (j := 0) rfl ?_
  refine q_objInit C (by decide +kernel) (by decide +kernel) (by decide +kernel) dX1_init_1 ⟨Nat.le_of_ble_eq_true rfl, Nat.le_of_ble_eq_true rfl⟩ ?_
  refine q_aload_n C dX1_init_4 rfl (j := 0) rfl ?_
  refine q_sipush (v := 160) C dX1_init_5 (by decide) ?_
  refine q_newR (N := 160) C (by decide +kernel) (by decide) (by decide) (by decide) ⟨h.1, h.2.1⟩ dX1_init_8 (fun q_1 hq _ => ?_)
  have h := h.2.2 q_1 hq
  refine q_putFR (ci := 1) (k0 := 0) (T := TX1) (v := (some q_1)) (ty := .array (.object "QuarryMesh$Ring")) C inX1_init_X1 tyX1 tyX1_ok nmX1 rfl (by decide) h.1 (by decide) rfl (by decide +kernel) rfl hin rfl (by decide +kernel) rfl rfl rfl dX1_init_11 ?_
  have h := h.2
  refine q_aload_n C dX1_init_14 rfl (j := 0) rfl ?_
  refine q_new (ci := 5) (T := TX5) C inX1_init_X5 tyX5 tyX5_ok (by decide +kernel) (by decide +kernel) (by decide +kernel) rfl (by decide) (by decide +kernel) ⟨h.1, h.2.1⟩ dX1_init_15 (fun q_2 hq _ => ?_)
  have h := h.2.2 q_2 hq
  refine q_dup C dX1_init_18 rfl ?_
  obtain ⟨dc_5, ds_5, hcz, h⟩ := h
  refine q_cv (q_runIN (As := []) (st := [.ref q_2, .ref a0]) C (c_X5_init l D cA lo h) ⟨va_cnB (host := "QuarryMesh") 0 C.2.2.2.2.1 gX1_init_X5_init_n17 rfl rfl rfl (C.2.2.2.2.2.2.2.1 (RX1, 17, yX5_init, "QuarryMesh") (List.mem_of_getElem? (i := 1) rfl)) (C.2.2.2.2.1 _ (by decide +kernel)) (by decide +kernel) ⟨Nat.le_of_ble_eq_true rfl, Nat.le_of_ble_eq_true rfl⟩, rfl, C.2.2.2.2.1 _ (by decide +kernel)⟩ rfl rfl (Nat.le_of_ble_eq_true rfl) dX1_init_19 hcz) (fun M_4 h => ?_)
  refine q_putFR (ci := 1) (k0 := 1) (T := TX1) (v := (some q_2)) (ty := .object "QuarryMesh$Ring") C inX1_init_X1 tyX1 tyX1_ok nmX1 rfl (by decide) h.1 (by decide) rfl (by decide +kernel) rfl hin rfl (by decide +kernel) rfl rfl rfl dX1_init_22 ?_
  have h := h.2
  refine q_aload_n C dX1_init_25 rfl (j := 0) rfl ?_
  refine q_sipush (v := 10000) C dX1_init_26 (by decide) ?_
  refine q_newI (N := 10000) C (by decide +kernel) (by decide) (by decide) (by decide) ⟨h.1, h.2.1⟩ dX1_init_29 (fun q_6 hq _ => ?_)
  have h := h.2.2 q_6 hq
  refine q_putFR (ci := 1) (k0 := 2) (T := TX1) (v := (some q_6)) (ty := .array .int) C inX1_init_X1 tyX1 tyX1_ok nmX1 rfl (by decide) h.1 (by decide) rfl (by decide +kernel) rfl hin rfl (by decide +kernel) rfl rfl rfl dX1_init_31 ?_
  have h := h.2
  refine q_iconst (v := 0) C dX1_init_34 (by decide) ?_
  refine q_istore_n (lv' := [(1, .int 0), (0, .ref a0)]) C dX1_init_35 rfl (by decide) rfl ?_
  exact q_sub [1, 0] rfl h
def T_X1_ever (M : Mm) (a0 : Nat) (Q : Int32 → Prop) : Prop := kM M a0 = (1, 5) ∧ Q (iM M a0 3)
theorem inX1_ever_X1 : ∀ w ∈ wsX10, w ∈ wsX1_ever := by decide +kernel
set_option maxRecDepth 100000 in
set_option maxHeartbeats 4000000 in
theorem c_X1_ever (l : Launch) (D : va_G) (cA : Nat → ClassId) (lo : Nat) {M : Mm} {a0 : Nat} {Q : Int32 → Prop} (h : T_X1_ever M a0 Q) : Met l yX1_ever wsX1_ever ({ frames := 0, cells := 0, slots := 0, locals := 0 } : Room) (PcM D cA lo [.ref a0] M) (QiM D cA lo (fun r M1 => M1 = M ∧ Q r)) 0 0 (fun q => lo ≤ q) := by
  refine q_start (cc := cX1_ever) (nL := 1) (ret := (some .int)) (by decide) rfl rfl (Nat.le_of_ble_eq_true rfl) ?_
  intro p e s m args below meth c C hr hlk hin
  unfold T_X1_ever at h
  refine q_aload_n C dX1_ever_0 rfl (j := 0) rfl ?_
  refine q_getI (ci := 1) (k0 := 3) (T := TX1) C inX1_ever_X1 rfl (by decide) h.1 (by decide) rfl (by decide +kernel) rfl dX1_ever_1 ?_
  have h := h.2
  exact q_iret C hr hlk dX1_ever_4 (Nat.le_of_ble_eq_true rfl) (Nat.le_of_ble_eq_true rfl) ⟨rfl, h⟩
def T_X1_hasRoom (M : Mm) (a0 : Nat) (i1 : Int32) (Q : Int32 → Prop) : Prop := kM M a0 = (1, 5) ∧ ((160 - (iM M a0 3)) < i1 → Q 0) ∧ (¬ (160 - (iM M a0 3)) < i1 → Q 1)
theorem inX1_hasRoom_X1 : ∀ w ∈ wsX10, w ∈ wsX1_hasRoom := by decide +kernel
set_option maxRecDepth 100000 in
set_option maxHeartbeats 4000000 in
theorem c_X1_hasRoom (l : Launch) (D : va_G) (cA : Nat → ClassId) (lo : Nat) {M : Mm} {a0 : Nat} {i1 : Int32} {Q : Int32 → Prop} (h : T_X1_hasRoom M a0 i1 Q) : Met l yX1_hasRoom wsX1_hasRoom ({ frames := 0, cells := 0, slots := 0, locals := 0 } : Room) (PcM D cA lo [.ref a0, .int i1] M) (QiM D cA lo (fun r M1 => M1 = M ∧ Q r)) 0 0 (fun q => lo ≤ q) := by
  refine q_start (cc := cX1_hasRoom) (nL := 2) (ret := (some .boolean)) (by decide) rfl rfl (Nat.le_of_ble_eq_true rfl) ?_
  intro p e s m args below meth c C hr hlk hin
  unfold T_X1_hasRoom at h
  refine q_iload_n C dX1_hasRoom_0 rfl (j := 1) rfl ?_
  refine q_sipush (v := 160) C dX1_hasRoom_1 (by decide) ?_
  refine q_aload_n C dX1_hasRoom_4 rfl (j := 0) rfl ?_
  refine q_getI (ci := 1) (k0 := 3) (T := TX1) C inX1_hasRoom_X1 rfl (by decide) h.1 (by decide) rfl (by decide +kernel) rfl dX1_hasRoom_5 ?_
  have h := h.2
  refine q_isub C dX1_hasRoom_8 ?_
  refine q_icmp_gt (tgt := 16) C dX1_hasRoom_9 (by decide) (fun z => ?_) (fun z => ?_)
  · have h := h.1 z
    refine q_iconst (v := 0) C dX1_hasRoom_16 (by decide) ?_
    exact q_zret C hr hlk dX1_hasRoom_17 (Nat.le_of_ble_eq_true rfl) (Nat.le_of_ble_eq_true rfl) (Or.inl rfl) ⟨rfl, h⟩
  · have h := h.2 z
    refine q_iconst (v := 1) C dX1_hasRoom_12 (by decide) ?_
    refine q_goto (tgt := 17) C dX1_hasRoom_13 (by decide) ?_
    exact q_zret C hr hlk dX1_hasRoom_17 (Nat.le_of_ble_eq_true rfl) (Nat.le_of_ble_eq_true rfl) (Or.inr rfl) ⟨rfl, h⟩
def T_X1_isOpen (M : Mm) (a0 : Nat) (i1 : Int32) (i2 : Int32) (Q : Int32 → Prop) : Prop := kM M a0 = (1, 5) ∧ T_X1_owner M a0 i1 i2 (fun r_1 => (¬ r_1 = (-1) → Q 0) ∧ (r_1 = (-1) → kM M a0 = (1, 5) ∧ T_X1_owner M a0 i2 i1 (fun r_2 => (r_2 = (-1) → Q 0) ∧ (¬ r_2 = (-1) → Q 1))))
set_option maxRecDepth 100000 in
set_option maxHeartbeats 4000000 in
theorem c_X1_isOpen (l : Launch) (D : va_G) (cA : Nat → ClassId) (lo : Nat) {M : Mm} {a0 : Nat} {i1 : Int32} {i2 : Int32} {Q : Int32 → Prop} (h : T_X1_isOpen M a0 i1 i2 Q) : Met l yX1_isOpen wsX1_isOpen ({ frames := 1, cells := 0, slots := 0, locals := 22 } : Room) (PcM D cA lo [.ref a0, .int i1, .int i2] M) (QiM D cA lo (fun r M1 => M1 = M ∧ Q r)) 0 0 (fun q => lo ≤ q) := by
  refine q_start (cc := cX1_isOpen) (nL := 3) (ret := (some .boolean)) (by decide) rfl rfl (Nat.le_of_ble_eq_true rfl) ?_
  intro p e s m args below meth c C hr hlk hin
  unfold T_X1_isOpen at h
  refine q_aload_n C dX1_isOpen_0 rfl (j := 0) rfl ?_
  refine q_iload_n C dX1_isOpen_1 rfl (j := 1) rfl ?_
  refine q_iload_n C dX1_isOpen_2 rfl (j := 2) rfl ?_
  refine q_ci (q_runV (As := [.int i1, .int i2]) (st := []) C (c_X1_owner l D cA lo h.2) (cwV 2 C.2.2.2.2.1 gX1_isOpen_X1_owner rfl rfl rfl (by decide +kernel) ⟨Nat.le_of_ble_eq_true rfl, Nat.le_of_ble_eq_true rfl⟩) h.1 (by decide) rfl rfl rfl (Nat.le_of_ble_eq_true rfl) dX1_isOpen_3 ⟨Nat.le_of_ble_eq_true rfl, Nat.le_of_ble_eq_true rfl⟩) (fun r_1 M_z h => ?_)
  refine q_mem h.1 ?_
  have h := h.2
  refine q_iconst (v := (-1)) C dX1_isOpen_6 (by decide) ?_
  refine q_icmp_ne (tgt := 24) C dX1_isOpen_7 (by decide) (fun z => ?_) (fun z => ?_)
  · have h := h.1 z
    refine q_iconst (v := 0) C dX1_isOpen_24 (by decide) ?_
    exact q_zret C hr hlk dX1_isOpen_25 (Nat.le_of_ble_eq_true rfl) (Nat.le_of_ble_eq_true rfl) (Or.inl rfl) ⟨rfl, h⟩
  · have h := h.2 z
    refine q_aload_n C dX1_isOpen_10 rfl (j := 0) rfl ?_
    refine q_iload_n C dX1_isOpen_11 rfl (j := 2) rfl ?_
    refine q_iload_n C dX1_isOpen_12 rfl (j := 1) rfl ?_
    refine q_ci (q_runV (As := [.int i2, .int i1]) (st := []) C (c_X1_owner l D cA lo h.2) (cwV 2 C.2.2.2.2.1 gX1_isOpen_X1_owner rfl rfl rfl (by decide +kernel) ⟨Nat.le_of_ble_eq_true rfl, Nat.le_of_ble_eq_true rfl⟩) h.1 (by decide) rfl rfl rfl (Nat.le_of_ble_eq_true rfl) dX1_isOpen_13 ⟨Nat.le_of_ble_eq_true rfl, Nat.le_of_ble_eq_true rfl⟩) (fun r_2 M_z h => ?_)
    refine q_mem h.1 ?_
    have h := h.2
    refine q_iconst (v := (-1)) C dX1_isOpen_16 (by decide) ?_
    refine q_icmp_eq (tgt := 24) C dX1_isOpen_17 (by decide) (fun z => ?_) (fun z => ?_)
    · have h := h.1 z
      refine q_iconst (v := 0) C dX1_isOpen_24 (by decide) ?_
      exact q_zret C hr hlk dX1_isOpen_25 (Nat.le_of_ble_eq_true rfl) (Nat.le_of_ble_eq_true rfl) (Or.inl rfl) ⟨rfl, h⟩
    · have h := h.2 z
      refine q_iconst (v := 1) C dX1_isOpen_20 (by decide) ?_
      refine q_goto (tgt := 25) C dX1_isOpen_21 (by decide) ?_
      exact q_zret C hr hlk dX1_isOpen_25 (Nat.le_of_ble_eq_true rfl) (Nat.le_of_ble_eq_true rfl) (Or.inr rfl) ⟨rfl, h⟩
def T_X1_isEdge (M : Mm) (a0 : Nat) (i1 : Int32) (i2 : Int32) (Q : Int32 → Prop) : Prop := kM M a0 = (1, 5) ∧ T_X1_owner M a0 i1 i2 (fun r_1 => (¬ r_1 = (-1) → Q 1) ∧ (r_1 = (-1) → kM M a0 = (1, 5) ∧ T_X1_owner M a0 i2 i1 (fun r_2 => (r_2 = (-1) → Q 0) ∧ (¬ r_2 = (-1) → Q 1))))
set_option maxRecDepth 100000 in
set_option maxHeartbeats 4000000 in
theorem c_X1_isEdge (l : Launch) (D : va_G) (cA : Nat → ClassId) (lo : Nat) {M : Mm} {a0 : Nat} {i1 : Int32} {i2 : Int32} {Q : Int32 → Prop} (h : T_X1_isEdge M a0 i1 i2 Q) : Met l yX1_isEdge wsX1_isEdge ({ frames := 1, cells := 0, slots := 0, locals := 22 } : Room) (PcM D cA lo [.ref a0, .int i1, .int i2] M) (QiM D cA lo (fun r M1 => M1 = M ∧ Q r)) 0 0 (fun q => lo ≤ q) := by
  refine q_start (cc := cX1_isEdge) (nL := 3) (ret := (some .boolean)) (by decide) rfl rfl (Nat.le_of_ble_eq_true rfl) ?_
  intro p e s m args below meth c C hr hlk hin
  unfold T_X1_isEdge at h
  refine q_aload_n C dX1_isEdge_0 rfl (j := 0) rfl ?_
  refine q_iload_n C dX1_isEdge_1 rfl (j := 1) rfl ?_
  refine q_iload_n C dX1_isEdge_2 rfl (j := 2) rfl ?_
  refine q_ci (q_runV (As := [.int i1, .int i2]) (st := []) C (c_X1_owner l D cA lo h.2) (cwV 2 C.2.2.2.2.1 gX1_isEdge_X1_owner rfl rfl rfl (by decide +kernel) ⟨Nat.le_of_ble_eq_true rfl, Nat.le_of_ble_eq_true rfl⟩) h.1 (by decide) rfl rfl rfl (Nat.le_of_ble_eq_true rfl) dX1_isEdge_3 ⟨Nat.le_of_ble_eq_true rfl, Nat.le_of_ble_eq_true rfl⟩) (fun r_1 M_z h => ?_)
  refine q_mem h.1 ?_
  have h := h.2
  refine q_iconst (v := (-1)) C dX1_isEdge_6 (by decide) ?_
  refine q_icmp_ne (tgt := 20) C dX1_isEdge_7 (by decide) (fun z => ?_) (fun z => ?_)
  · have h := h.1 z
    refine q_iconst (v := 1) C dX1_isEdge_20 (by decide) ?_
    refine q_goto (tgt := 25) C dX1_isEdge_21 (by decide) ?_
    exact q_zret C hr hlk dX1_isEdge_25 (Nat.le_of_ble_eq_true rfl) (Nat.le_of_ble_eq_true rfl) (Or.inr rfl) ⟨rfl, h⟩
  · have h := h.2 z
    refine q_aload_n C dX1_isEdge_10 rfl (j := 0) rfl ?_
    refine q_iload_n C dX1_isEdge_11 rfl (j := 2) rfl ?_
    refine q_iload_n C dX1_isEdge_12 rfl (j := 1) rfl ?_
    refine q_ci (q_runV (As := [.int i2, .int i1]) (st := []) C (c_X1_owner l D cA lo h.2) (cwV 2 C.2.2.2.2.1 gX1_isEdge_X1_owner rfl rfl rfl (by decide +kernel) ⟨Nat.le_of_ble_eq_true rfl, Nat.le_of_ble_eq_true rfl⟩) h.1 (by decide) rfl rfl rfl (Nat.le_of_ble_eq_true rfl) dX1_isEdge_13 ⟨Nat.le_of_ble_eq_true rfl, Nat.le_of_ble_eq_true rfl⟩) (fun r_2 M_z h => ?_)
    refine q_mem h.1 ?_
    have h := h.2
    refine q_iconst (v := (-1)) C dX1_isEdge_16 (by decide) ?_
    refine q_icmp_eq (tgt := 24) C dX1_isEdge_17 (by decide) (fun z => ?_) (fun z => ?_)
    · have h := h.1 z
      refine q_iconst (v := 0) C dX1_isEdge_24 (by decide) ?_
      exact q_zret C hr hlk dX1_isEdge_25 (Nat.le_of_ble_eq_true rfl) (Nat.le_of_ble_eq_true rfl) (Or.inl rfl) ⟨rfl, h⟩
    · have h := h.2 z
      refine q_iconst (v := 1) C dX1_isEdge_20 (by decide) ?_
      refine q_goto (tgt := 25) C dX1_isEdge_21 (by decide) ?_
      exact q_zret C hr hlk dX1_isEdge_25 (Nat.le_of_ble_eq_true rfl) (Nat.le_of_ble_eq_true rfl) (Or.inr rfl) ⟨rfl, h⟩
def T_X1_isInner (M : Mm) (a0 : Nat) (i1 : Int32) (i2 : Int32) (Q : Int32 → Prop) : Prop := kM M a0 = (1, 5) ∧ T_X1_owner M a0 i1 i2 (fun r_1 => (r_1 = (-1) → Q 0) ∧ (¬ r_1 = (-1) → kM M a0 = (1, 5) ∧ T_X1_owner M a0 i2 i1 (fun r_2 => (r_2 = (-1) → Q 0) ∧ (¬ r_2 = (-1) → Q 1))))
set_option maxRecDepth 100000 in
set_option maxHeartbeats 4000000 in
theorem c_X1_isInner (l : Launch) (D : va_G) (cA : Nat → ClassId) (lo : Nat) {M : Mm} {a0 : Nat} {i1 : Int32} {i2 : Int32} {Q : Int32 → Prop} (h : T_X1_isInner M a0 i1 i2 Q) : Met l yX1_isInner wsX1_isInner ({ frames := 1, cells := 0, slots := 0, locals := 22 } : Room) (PcM D cA lo [.ref a0, .int i1, .int i2] M) (QiM D cA lo (fun r M1 => M1 = M ∧ Q r)) 0 0 (fun q => lo ≤ q) := by
  refine q_start (cc := cX1_isInner) (nL := 3) (ret := (some .boolean)) (by decide) rfl rfl (Nat.le_of_ble_eq_true rfl) ?_
  intro p e s m args below meth c C hr hlk hin
  unfold T_X1_isInner at h
  refine q_aload_n C dX1_isInner_0 rfl (j := 0) rfl ?_
  refine q_iload_n C dX1_isInner_1 rfl (j := 1) rfl ?_
  refine q_iload_n C dX1_isInner_2 rfl (j := 2) rfl ?_
  refine q_ci (q_runV (As := [.int i1, .int i2]) (st := []) C (c_X1_owner l D cA lo h.2) (cwV 2 C.2.2.2.2.1 gX1_isInner_X1_owner rfl rfl rfl (by decide +kernel) ⟨Nat.le_of_ble_eq_true rfl, Nat.le_of_ble_eq_true rfl⟩) h.1 (by decide) rfl rfl rfl (Nat.le_of_ble_eq_true rfl) dX1_isInner_3 ⟨Nat.le_of_ble_eq_true rfl, Nat.le_of_ble_eq_true rfl⟩) (fun r_1 M_z h => ?_)
  refine q_mem h.1 ?_
  have h := h.2
  refine q_iconst (v := (-1)) C dX1_isInner_6 (by decide) ?_
  refine q_icmp_eq (tgt := 24) C dX1_isInner_7 (by decide) (fun z => ?_) (fun z => ?_)
  · have h := h.1 z
    refine q_iconst (v := 0) C dX1_isInner_24 (by decide) ?_
    exact q_zret C hr hlk dX1_isInner_25 (Nat.le_of_ble_eq_true rfl) (Nat.le_of_ble_eq_true rfl) (Or.inl rfl) ⟨rfl, h⟩
  · have h := h.2 z
    refine q_aload_n C dX1_isInner_10 rfl (j := 0) rfl ?_
    refine q_iload_n C dX1_isInner_11 rfl (j := 2) rfl ?_
    refine q_iload_n C dX1_isInner_12 rfl (j := 1) rfl ?_
    refine q_ci (q_runV (As := [.int i2, .int i1]) (st := []) C (c_X1_owner l D cA lo h.2) (cwV 2 C.2.2.2.2.1 gX1_isInner_X1_owner rfl rfl rfl (by decide +kernel) ⟨Nat.le_of_ble_eq_true rfl, Nat.le_of_ble_eq_true rfl⟩) h.1 (by decide) rfl rfl rfl (Nat.le_of_ble_eq_true rfl) dX1_isInner_13 ⟨Nat.le_of_ble_eq_true rfl, Nat.le_of_ble_eq_true rfl⟩) (fun r_2 M_z h => ?_)
    refine q_mem h.1 ?_
    have h := h.2
    refine q_iconst (v := (-1)) C dX1_isInner_16 (by decide) ?_
    refine q_icmp_eq (tgt := 24) C dX1_isInner_17 (by decide) (fun z => ?_) (fun z => ?_)
    · have h := h.1 z
      refine q_iconst (v := 0) C dX1_isInner_24 (by decide) ?_
      exact q_zret C hr hlk dX1_isInner_25 (Nat.le_of_ble_eq_true rfl) (Nat.le_of_ble_eq_true rfl) (Or.inl rfl) ⟨rfl, h⟩
    · have h := h.2 z
      refine q_iconst (v := 1) C dX1_isInner_20 (by decide) ?_
      refine q_goto (tgt := 25) C dX1_isInner_21 (by decide) ?_
      exact q_zret C hr hlk dX1_isInner_25 (Nat.le_of_ble_eq_true rfl) (Nat.le_of_ble_eq_true rfl) (Or.inr rfl) ⟨rfl, h⟩
def T_X1_isToldBy (M : Mm) (a0 : Nat) (i1 : Int32) (i2 : Int32) (Q : Int32 → Prop) : Prop := (i1 < i2 → Q 1) ∧ (¬ i1 < i2 → kM M a0 = (1, 5) ∧ T_X1_owner M a0 i2 i1 (fun r_1 => (¬ r_1 = (-1) → Q 0) ∧ (r_1 = (-1) → Q 1)))
set_option maxRecDepth 100000 in
set_option maxHeartbeats 4000000 in
theorem c_X1_isToldBy (l : Launch) (D : va_G) (cA : Nat → ClassId) (lo : Nat) {M : Mm} {a0 : Nat} {i1 : Int32} {i2 : Int32} {Q : Int32 → Prop} (h : T_X1_isToldBy M a0 i1 i2 Q) : Met l yX1_isToldBy wsX1_isToldBy ({ frames := 1, cells := 0, slots := 0, locals := 22 } : Room) (PcM D cA lo [.ref a0, .int i1, .int i2] M) (QiM D cA lo (fun r M1 => M1 = M ∧ Q r)) 0 0 (fun q => lo ≤ q) := by
  refine q_start (cc := cX1_isToldBy) (nL := 3) (ret := (some .boolean)) (by decide) rfl rfl (Nat.le_of_ble_eq_true rfl) ?_
  intro p e s m args below meth c C hr hlk hin
  unfold T_X1_isToldBy at h
  refine q_iload_n C dX1_isToldBy_0 rfl (j := 1) rfl ?_
  refine q_iload_n C dX1_isToldBy_1 rfl (j := 2) rfl ?_
  refine q_icmp_lt (tgt := 15) C dX1_isToldBy_2 (by decide) (fun z => ?_) (fun z => ?_)
  · have h := h.1 z
    refine q_iconst (v := 1) C dX1_isToldBy_15 (by decide) ?_
    refine q_goto (tgt := 20) C dX1_isToldBy_16 (by decide) ?_
    exact q_zret C hr hlk dX1_isToldBy_20 (Nat.le_of_ble_eq_true rfl) (Nat.le_of_ble_eq_true rfl) (Or.inr rfl) ⟨rfl, h⟩
  · have h := h.2 z
    refine q_aload_n C dX1_isToldBy_5 rfl (j := 0) rfl ?_
    refine q_iload_n C dX1_isToldBy_6 rfl (j := 2) rfl ?_
    refine q_iload_n C dX1_isToldBy_7 rfl (j := 1) rfl ?_
    refine q_ci (q_runV (As := [.int i2, .int i1]) (st := []) C (c_X1_owner l D cA lo h.2) (cwV 2 C.2.2.2.2.1 gX1_isToldBy_X1_owner rfl rfl rfl (by decide +kernel) ⟨Nat.le_of_ble_eq_true rfl, Nat.le_of_ble_eq_true rfl⟩) h.1 (by decide) rfl rfl rfl (Nat.le_of_ble_eq_true rfl) dX1_isToldBy_8 ⟨Nat.le_of_ble_eq_true rfl, Nat.le_of_ble_eq_true rfl⟩) (fun r_1 M_z h => ?_)
    refine q_mem h.1 ?_
    have h := h.2
    refine q_iconst (v := (-1)) C dX1_isToldBy_11 (by decide) ?_
    refine q_icmp_ne (tgt := 19) C dX1_isToldBy_12 (by decide) (fun z => ?_) (fun z => ?_)
    · have h := h.1 z
      refine q_iconst (v := 0) C dX1_isToldBy_19 (by decide) ?_
      exact q_zret C hr hlk dX1_isToldBy_20 (Nat.le_of_ble_eq_true rfl) (Nat.le_of_ble_eq_true rfl) (Or.inl rfl) ⟨rfl, h⟩
    · have h := h.2 z
      refine q_iconst (v := 1) C dX1_isToldBy_15 (by decide) ?_
      refine q_goto (tgt := 20) C dX1_isToldBy_16 (by decide) ?_
      exact q_zret C hr hlk dX1_isToldBy_20 (Nat.le_of_ble_eq_true rfl) (Nat.le_of_ble_eq_true rfl) (Or.inr rfl) ⟨rfl, h⟩
def S_X1_isFree_2 (K2 : Nat → Nat → Int32 → Prop) (Q : Int32 → Prop) (M : Mm) (a0 : Nat) (a1 : Nat) (i2 : Int32) : Prop := kM M a1 = (5, 2) ∧ T_X5_length M a1 (fun r_1 => (r_1 ≤ i2 → Q 1) ∧ (¬ r_1 ≤ i2 → kM M a1 = (5, 2) ∧ T_X5_get M a1 i2 (fun r_2 => kM M a1 = (5, 2) ∧ T_X5_get M a1 (i2 + 1) (fun r_3 => kM M a0 = (1, 5) ∧ T_X1_owner M a0 r_2 r_3 (fun r_4 => (r_4 = (-1) → K2 a0 a1 (i2 + 1)) ∧ (¬ r_4 = (-1) → Q 0))))))
def T_X1_isFree (M : Mm) (a0 : Nat) (a1 : Nat) (Q : Int32 → Prop) : Prop := ∀ (K2 : Nat → Nat → Int32 → Prop), (∀ (a0 : Nat) (a1 : Nat) (i2 : Int32), S_X1_isFree_2 K2 Q M a0 a1 i2 → K2 a0 a1 i2) → K2 a0 a1 0
set_option maxRecDepth 100000 in
set_option maxHeartbeats 4000000 in
theorem b_X1_isFree_2 {p : Program} {l : Launch} {e : Env} {s : State} {m : MethodId} {args : Array Value} {below : List Frame} {meth : Method} {c : Code} {D : va_G} {cA : Nat → ClassId} {lo : Nat} (C : Cx p s m args c cX1_isFree 3 RX1 wsX1_isFree D cA lo) (hr : meth.sig.returnType = (some .boolean)) (hlk : meth.locks = false) {Q : Int32 → Prop} {M : Mm} (a0 : Nat) (a1 : Nat) (i2 : Int32) (h : S_X1_isFree_2 (fun (a0 : Nat) (a1 : Nat) (i2 : Int32) => QW p l e ({ frames := 1, cells := 0, slots := 0, locals := 22 } : Room) s m args below meth c (MQ below (QiM D cA lo (fun r M1 => M1 = M ∧ Q r)) args s 0 0 (fun q => lo ≤ q)) 3 D cA lo 0 0 M 2 [(0, .ref a0), (1, .ref a1), (2, .int i2)] []) Q M a0 a1 i2) : QW p l e ({ frames := 1, cells := 0, slots := 0, locals := 22 } : Room) s m args below meth c (MQ below (QiM D cA lo (fun r M1 => M1 = M ∧ Q r)) args s 0 0 (fun q => lo ≤ q)) 3 D cA lo 0 0 M 2 [(0, .ref a0), (1, .ref a1), (2, .int i2)] [] := by
  unfold S_X1_isFree_2 at h
  refine q_iload_n C dX1_isFree_2 rfl (j := 2) rfl ?_
  refine q_aload_n C dX1_isFree_3 rfl (j := 1) rfl ?_
  refine q_ci (q_runV (As := []) (st := [.int i2]) C (c_X5_length l D cA lo h.2) (cwV 0 C.2.2.2.2.1 gX1_isFree_X5_length rfl rfl rfl (by decide +kernel) ⟨Nat.le_of_ble_eq_true rfl, Nat.le_of_ble_eq_true rfl⟩) h.1 (by decide) rfl rfl rfl (Nat.le_of_ble_eq_true rfl) dX1_isFree_4 ⟨Nat.le_of_ble_eq_true rfl, Nat.le_of_ble_eq_true rfl⟩) (fun r_1 M_z h => ?_)
  refine q_mem h.1 ?_
  have h := h.2
  refine q_icmp_ge (tgt := 38) C dX1_isFree_7 (by decide) (fun z => ?_) (fun z => ?_)
  · have h := h.1 z
    refine q_iconst (v := 1) C dX1_isFree_38 (by decide) ?_
    exact q_zret C hr hlk dX1_isFree_39 (Nat.le_of_ble_eq_true rfl) (Nat.le_of_ble_eq_true rfl) (Or.inr rfl) ⟨rfl, h⟩
  · have h := h.2 z
    refine q_aload_n C dX1_isFree_10 rfl (j := 0) rfl ?_
    refine q_aload_n C dX1_isFree_11 rfl (j := 1) rfl ?_
    refine q_iload_n C dX1_isFree_12 rfl (j := 2) rfl ?_
    refine q_ci (q_runV (As := [.int i2]) (st := [.ref a0]) C (c_X5_get l D cA lo h.2) (cwV 1 C.2.2.2.2.1 gX1_isFree_X5_get rfl rfl rfl (by decide +kernel) ⟨Nat.le_of_ble_eq_true rfl, Nat.le_of_ble_eq_true rfl⟩) h.1 (by decide) rfl rfl rfl (Nat.le_of_ble_eq_true rfl) dX1_isFree_13 ⟨Nat.le_of_ble_eq_true rfl, Nat.le_of_ble_eq_true rfl⟩) (fun r_2 M_z h => ?_)
    refine q_mem h.1 ?_
    have h := h.2
    refine q_aload_n C dX1_isFree_16 rfl (j := 1) rfl ?_
    refine q_iload_n C dX1_isFree_17 rfl (j := 2) rfl ?_
    refine q_iconst (v := 1) C dX1_isFree_18 (by decide) ?_
    refine q_iadd C dX1_isFree_19 ?_
    refine q_ci (q_runV (As := [.int (i2 + 1)]) (st := [.int r_2, .ref a0]) C (c_X5_get l D cA lo h.2) (cwV 1 C.2.2.2.2.1 gX1_isFree_X5_get rfl rfl rfl (by decide +kernel) ⟨Nat.le_of_ble_eq_true rfl, Nat.le_of_ble_eq_true rfl⟩) h.1 (by decide) rfl rfl rfl (Nat.le_of_ble_eq_true rfl) dX1_isFree_20 ⟨Nat.le_of_ble_eq_true rfl, Nat.le_of_ble_eq_true rfl⟩) (fun r_3 M_z h => ?_)
    refine q_mem h.1 ?_
    have h := h.2
    refine q_ci (q_runV (As := [.int r_2, .int r_3]) (st := []) C (c_X1_owner l D cA lo h.2) (cwV 2 C.2.2.2.2.1 gX1_isFree_X1_owner rfl rfl rfl (by decide +kernel) ⟨Nat.le_of_ble_eq_true rfl, Nat.le_of_ble_eq_true rfl⟩) h.1 (by decide) rfl rfl rfl (Nat.le_of_ble_eq_true rfl) dX1_isFree_23 ⟨Nat.le_of_ble_eq_true rfl, Nat.le_of_ble_eq_true rfl⟩) (fun r_4 M_z h => ?_)
    refine q_mem h.1 ?_
    have h := h.2
    refine q_iconst (v := (-1)) C dX1_isFree_26 (by decide) ?_
    refine q_icmp_eq (tgt := 32) C dX1_isFree_27 (by decide) (fun z => ?_) (fun z => ?_)
    · have h := h.1 z
      refine q_iinc (v := (i2 + 1)) (lv' := [(2, .int (i2 + 1)), (0, .ref a0), (1, .ref a1)]) C dX1_isFree_32 (j := 2) rfl rfl (by decide) rfl ?_
      refine q_goto (tgt := 2) C dX1_isFree_35 (by decide) ?_
      exact q_sub [1, 2, 0] rfl h
    · have h := h.2 z
      refine q_iconst (v := 0) C dX1_isFree_30 (by decide) ?_
      exact q_zret C hr hlk dX1_isFree_31 (Nat.le_of_ble_eq_true rfl) (Nat.le_of_ble_eq_true rfl) (Or.inl rfl) ⟨rfl, h⟩
set_option maxRecDepth 100000 in
set_option maxHeartbeats 4000000 in
theorem c_X1_isFree (l : Launch) (D : va_G) (cA : Nat → ClassId) (lo : Nat) {M : Mm} {a0 : Nat} {a1 : Nat} {Q : Int32 → Prop} (h : T_X1_isFree M a0 a1 Q) : Met l yX1_isFree wsX1_isFree ({ frames := 1, cells := 0, slots := 0, locals := 22 } : Room) (PcM D cA lo [.ref a0, .ref a1] M) (QiM D cA lo (fun r M1 => M1 = M ∧ Q r)) 0 0 (fun q => lo ≤ q) := by
  refine q_start (cc := cX1_isFree) (nL := 3) (ret := (some .boolean)) (by decide) rfl rfl (Nat.le_of_ble_eq_true rfl) ?_
  intro p e s m args below meth c C hr hlk hin
  unfold T_X1_isFree at h
  have h := h (fun (a0 : Nat) (a1 : Nat) (i2 : Int32) => QW p l e ({ frames := 1, cells := 0, slots := 0, locals := 22 } : Room) s m args below meth c (MQ below (QiM D cA lo (fun r M1 => M1 = M ∧ Q r)) args s 0 0 (fun q => lo ≤ q)) 3 D cA lo 0 0 M 2 [(0, .ref a0), (1, .ref a1), (2, .int i2)] []) (fun a0 a1 i2 h => b_X1_isFree_2 C hr hlk a0 a1 i2 h)
  refine q_iconst (v := 0) C dX1_isFree_0 (by decide) ?_
  refine q_istore_n (lv' := [(2, .int 0), (0, .ref a0), (1, .ref a1)]) C dX1_isFree_1 rfl (by decide) rfl ?_
  exact q_sub [1, 2, 0] rfl h
