def T_X7_distanceOf (M : Mm) (a0 : Nat) (i1 : Int32) (Q : Int32 → Prop) : Prop := T_X8_isPointNumber M i1 (fun r_1 => (r_1 = 0 → Q (-1)) ∧ (¬ r_1 = 0 → kM M a0 = (7, 6) ∧ ∃ a_2 : Nat, rM M a0 4 = some a_2 ∧ ∃ n_3 : Nat, kM M a_2 = (100, n_3) ∧ vp_in i1 n_3 ∧ Q (iM M a_2 i1.toNatClampNeg)))
theorem inX7_distanceOf_X7 : ∀ w ∈ wsX70, w ∈ wsX7_distanceOf := by decide +kernel
set_option maxRecDepth 100000 in
set_option maxHeartbeats 4000000 in
theorem c_X7_distanceOf (l : Launch) (D : va_G) (cA : Nat → ClassId) (lo : Nat) {M : Mm} {a0 : Nat} {i1 : Int32} {Q : Int32 → Prop} (h : T_X7_distanceOf M a0 i1 Q) : Met l yX7_distanceOf wsX7_distanceOf ({ frames := 1, cells := 0, slots := 0, locals := 20 } : Room) (PcM D cA lo [.ref a0, .int i1] M) (QiM D cA lo (fun r M1 => M1 = M ∧ Q r)) 0 0 (fun q => lo ≤ q) := by
  refine q_start (cc := cX7_distanceOf) (nL := 2) (ret := (some .int)) (by decide) rfl rfl (Nat.le_of_ble_eq_true rfl) ?_
  intro p e s m args below meth c C hr hlk hin
  unfold T_X7_distanceOf at h
  refine q_iload_n C dX7_distanceOf_0 rfl (j := 1) rfl ?_
  refine q_ci (q_runSN (As := [.int i1]) (st := []) C (c_X8_isPointNumber l D cA lo h) ⟨va_cnB (host := "QuarryMesh") 1 C.2.2.2.2.1 gX7_distanceOf_X8_isPointNumber_n111 rfl rfl rfl (C.2.2.2.2.2.2.2.1 (RX7, 111, yX8_isPointNumber, "QuarryMesh") (List.mem_of_getElem? (i := 12) rfl)) (C.2.2.2.2.1 _ (by decide +kernel)) (by decide +kernel) ⟨Nat.le_of_ble_eq_true rfl, Nat.le_of_ble_eq_true rfl⟩, C.2.2.2.2.1 _ (by decide +kernel), trivial⟩ rfl rfl (Nat.le_of_ble_eq_true rfl) dX7_distanceOf_1 ⟨Nat.le_of_ble_eq_true rfl, Nat.le_of_ble_eq_true rfl⟩) (fun r_1 M_z h => ?_)
  refine q_mem h.1 ?_
  have h := h.2
  refine q_if_eq (tgt := 16) C dX7_distanceOf_4 (by decide) (fun z => ?_) (fun z => ?_)
  · have h := h.1 z
    refine q_iconst (v := (-1)) C dX7_distanceOf_16 (by decide) ?_
    exact q_iret C hr hlk dX7_distanceOf_17 (Nat.le_of_ble_eq_true rfl) (Nat.le_of_ble_eq_true rfl) ⟨rfl, h⟩
  · have h := h.2 z
    refine q_aload_n C dX7_distanceOf_7 rfl (j := 0) rfl ?_
    refine q_getR (ci := 7) (k0 := 4) (T := TX7) C inX7_distanceOf_X7 rfl (by decide) h.1 (by decide) rfl (by decide +kernel) rfl dX7_distanceOf_8 ?_
    obtain ⟨a_2, z, h⟩ := h.2
    refine q_ref z ?_
    refine q_iload_n C dX7_distanceOf_11 rfl (j := 1) rfl ?_
    obtain ⟨n_3, z1, z2, h⟩ := h
    refine q_iald C z1 z2 dX7_distanceOf_12 ?_
    refine q_goto (tgt := 17) C dX7_distanceOf_13 (by decide) ?_
    exact q_iret C hr hlk dX7_distanceOf_17 (Nat.le_of_ble_eq_true rfl) (Nat.le_of_ble_eq_true rfl) ⟨rfl, h⟩
def S_X7_wayLength_2 (K2 : Nat → Int32 → Int32 → Int32 → Mm → Prop) (K34 : Nat → Int32 → Int32 → Mm → Prop) (K72 : Nat → Int32 → Int32 → Int32 → Int32 → Mm → Prop) (Q : Int32 → Mm → Prop) (M : Mm) (a0 : Nat) (i1 : Int32) (i2 : Int32) (i3 : Int32) : Prop := (100 ≤ i3 → kM M a0 = (7, 6) ∧ kM (wI M a0 5 0) a0 = (7, 6) ∧ T_X7_reach (wI M a0 5 0) a0 i1 0 (fun M_2 => K34 a0 i2 0 M_2)) ∧ (¬ 100 ≤ i3 → kM M a0 = (7, 6) ∧ ∃ a_3 : Nat, rM M a0 4 = some a_3 ∧ ∃ n_4 : Nat, kM M a_3 = (100, n_4) ∧ vp_in i3 n_4 ∧ K2 a0 i1 i2 (i3 + 1) (wI M a_3 i3.toNatClampNeg (-1)))
def S_X7_wayLength_34 (K2 : Nat → Int32 → Int32 → Int32 → Mm → Prop) (K34 : Nat → Int32 → Int32 → Mm → Prop) (K72 : Nat → Int32 → Int32 → Int32 → Int32 → Mm → Prop) (Q : Int32 → Mm → Prop) (M : Mm) (a0 : Nat) (i2 : Int32) (i3 : Int32) : Prop := kM M a0 = (7, 6) ∧ ((iM M a0 5) ≤ i3 → Q (-1) M) ∧ (¬ (iM M a0 5) ≤ i3 → (100 ≤ i3 → Q (-1) M) ∧ (¬ 100 ≤ i3 → kM M a0 = (7, 6) ∧ ∃ a_5 : Nat, rM M a0 3 = some a_5 ∧ ∃ n_6 : Nat, kM M a_5 = (100, n_6) ∧ vp_in i3 n_6 ∧ (¬ (iM M a_5 i3.toNatClampNeg) = i2 → K72 a0 i2 i3 (iM M a_5 i3.toNatClampNeg) 0 M) ∧ ((iM M a_5 i3.toNatClampNeg) = i2 → kM M a0 = (7, 6) ∧ T_X7_distanceOf M a0 (iM M a_5 i3.toNatClampNeg) (fun r_7 => Q r_7 M))))
def S_X7_wayLength_72 (K2 : Nat → Int32 → Int32 → Int32 → Mm → Prop) (K34 : Nat → Int32 → Int32 → Mm → Prop) (K72 : Nat → Int32 → Int32 → Int32 → Int32 → Mm → Prop) (Q : Int32 → Mm → Prop) (M : Mm) (a0 : Nat) (i2 : Int32) (i3 : Int32) (i4 : Int32) (i5 : Int32) : Prop := (100 ≤ i5 → K34 a0 i2 (i3 + 1) M) ∧ (¬ 100 ≤ i5 → kM M a0 = (7, 6) ∧ ∃ a_8 : Nat, rM M a0 4 = some a_8 ∧ ∃ n_9 : Nat, kM M a_8 = (100, n_9) ∧ vp_in i5 n_9 ∧ (¬ (iM M a_8 i5.toNatClampNeg) = (-1) → K72 a0 i2 i3 i4 (i5 + 1) M) ∧ ((iM M a_8 i5.toNatClampNeg) = (-1) → kM M a0 = (7, 6) ∧ ∃ a_10 : Nat, rM M a0 0 = some a_10 ∧ kM M a_10 = (1, 5) ∧ T_X1_isEdge M a_10 i4 i5 (fun r_11 => (r_11 = 0 → K72 a0 i2 i3 i4 (i5 + 1) M) ∧ (¬ r_11 = 0 → kM M a0 = (7, 6) ∧ T_X7_distanceOf M a0 i4 (fun r_12 => kM M a0 = (7, 6) ∧ T_X7_reach M a0 i5 (r_12 + 1) (fun M_14 => K72 a0 i2 i3 i4 (i5 + 1) M_14))))))
def T_X7_wayLength (M : Mm) (a0 : Nat) (i1 : Int32) (i2 : Int32) (Q : Int32 → Mm → Prop) : Prop := ∀ (K2 : Nat → Int32 → Int32 → Int32 → Mm → Prop) (K34 : Nat → Int32 → Int32 → Mm → Prop) (K72 : Nat → Int32 → Int32 → Int32 → Int32 → Mm → Prop), (∀ (a0 : Nat) (i1 : Int32) (i2 : Int32) (i3 : Int32) (M : Mm), S_X7_wayLength_2 K2 K34 K72 Q M a0 i1 i2 i3 → K2 a0 i1 i2 i3 M) → (∀ (a0 : Nat) (i2 : Int32) (i3 : Int32) (M : Mm), S_X7_wayLength_34 K2 K34 K72 Q M a0 i2 i3 → K34 a0 i2 i3 M) → (∀ (a0 : Nat) (i2 : Int32) (i3 : Int32) (i4 : Int32) (i5 : Int32) (M : Mm), S_X7_wayLength_72 K2 K34 K72 Q M a0 i2 i3 i4 i5 → K72 a0 i2 i3 i4 i5 M) → K2 a0 i1 i2 0 M
theorem inX7_wayLength_X7 : ∀ w ∈ wsX70, w ∈ wsX7_wayLength := by decide +kernel
set_option maxRecDepth 100000 in
set_option maxHeartbeats 4000000 in
theorem b_X7_wayLength_2 {p : Program} {l : Launch} {e : Env} {s : State} {m : MethodId} {args : Array Value} {below : List Frame} {meth : Method} {c : Code} {D : va_G} {cA : Nat → ClassId} {lo : Nat} (C : Cx p s m args c cX7_wayLength 6 RX7 wsX7_wayLength D cA lo) (hr : meth.sig.returnType = (some .int)) (hlk : meth.locks = false) {Q : Int32 → Mm → Prop} (M : Mm) (a0 : Nat) (i1 : Int32) (i2 : Int32) (i3 : Int32) (h : S_X7_wayLength_2 (fun (a0 : Nat) (i1 : Int32) (i2 : Int32) (i3 : Int32) (M : Mm) => QW p l e ({ frames := 2, cells := 0, slots := 0, locals := 44 } : Room) s m args below meth c (MQ below (QiM D cA lo Q) args s 0 0 (fun q => lo ≤ q)) 6 D cA lo 0 0 M 2 [(0, .ref a0), (1, .int i1), (2, .int i2), (3, .int i3)] []) (fun (a0 : Nat) (i2 : Int32) (i3 : Int32) (M : Mm) => QW p l e ({ frames := 2, cells := 0, slots := 0, locals := 44 } : Room) s m args below meth c (MQ below (QiM D cA lo Q) args s 0 0 (fun q => lo ≤ q)) 6 D cA lo 0 0 M 34 [(0, .ref a0), (2, .int i2), (3, .int i3)] []) (fun (a0 : Nat) (i2 : Int32) (i3 : Int32) (i4 : Int32) (i5 : Int32) (M : Mm) => QW p l e ({ frames := 2, cells := 0, slots := 0, locals := 44 } : Room) s m args below meth c (MQ below (QiM D cA lo Q) args s 0 0 (fun q => lo ≤ q)) 6 D cA lo 0 0 M 72 [(0, .ref a0), (2, .int i2), (3, .int i3), (4, .int i4), (5, .int i5)] []) Q M a0 i1 i2 i3) : QW p l e ({ frames := 2, cells := 0, slots := 0, locals := 44 } : Room) s m args below meth c (MQ below (QiM D cA lo Q) args s 0 0 (fun q => lo ≤ q)) 6 D cA lo 0 0 M 2 [(0, .ref a0), (1, .int i1), (2, .int i2), (3, .int i3)] [] := by
  unfold S_X7_wayLength_2 at h
  refine q_iload_n C dX7_wayLength_2 rfl (j := 3) rfl ?_
  refine q_bipush (v := 100) C dX7_wayLength_3 (by decide) ?_
  refine q_icmp_ge (tgt := 21) C dX7_wayLength_5 (by decide) (fun z => ?_) (fun z => ?_)
  · have h := h.1 z
    refine q_aload_n C dX7_wayLength_21 rfl (j := 0) rfl ?_
    refine q_iconst (v := 0) C dX7_wayLength_22 (by decide) ?_
    refine q_putI (ci := 7) (k0 := 5) (T := TX7) (v := 0) (ty := .int) C inX7_wayLength_X7 tyX7 tyX7_ok nmX7 rfl (by decide) h.1 (by decide) rfl (by decide +kernel) rfl (by decide +kernel) rfl rfl rfl dX7_wayLength_23 ?_
    have h := h.2
    refine q_aload_n C dX7_wayLength_26 rfl (j := 0) rfl ?_
    refine q_iload_n C dX7_wayLength_27 rfl (j := 1) rfl ?_
    refine q_iconst (v := 0) C dX7_wayLength_28 (by decide) ?_
    refine q_cv (q_runV (As := [.int i1, .int 0]) (st := []) C (c_X7_reach l D cA lo h.2) (cwV 2 C.2.2.2.2.1 gX7_wayLength_X7_reach rfl rfl rfl (by decide +kernel) ⟨Nat.le_of_ble_eq_true rfl, Nat.le_of_ble_eq_true rfl⟩) h.1 (by decide) rfl rfl rfl (Nat.le_of_ble_eq_true rfl) dX7_wayLength_29 ⟨Nat.le_of_ble_eq_true rfl, Nat.le_of_ble_eq_true rfl⟩) (fun M_2 h => ?_)
    refine q_iconst (v := 0) C dX7_wayLength_32 (by decide) ?_
    refine q_istore_n (lv' := [(3, .int 0), (0, .ref a0), (1, .int i1), (2, .int i2)]) C dX7_wayLength_33 rfl (by decide) rfl ?_
    exact q_sub [1, 3, 0] rfl h
  · have h := h.2 z
    refine q_aload_n C dX7_wayLength_8 rfl (j := 0) rfl ?_
    refine q_getR (ci := 7) (k0 := 4) (T := TX7) C inX7_wayLength_X7 rfl (by decide) h.1 (by decide) rfl (by decide +kernel) rfl dX7_wayLength_9 ?_
    obtain ⟨a_3, z, h⟩ := h.2
    refine q_ref z ?_
    refine q_iload_n C dX7_wayLength_12 rfl (j := 3) rfl ?_
    refine q_iconst (v := (-1)) C dX7_wayLength_13 (by decide) ?_
    obtain ⟨n_4, z1, z2, h⟩ := h
    refine q_iast C z1 z2 dX7_wayLength_14 ?_
    refine q_iinc (v := (i3 + 1)) (lv' := [(3, .int (i3 + 1)), (0, .ref a0), (1, .int i1), (2, .int i2)]) C dX7_wayLength_15 (j := 3) rfl rfl (by decide) rfl ?_
    refine q_goto (tgt := 2) C dX7_wayLength_18 (by decide) ?_
    exact q_sub [1, 2, 3, 0] rfl h
set_option maxRecDepth 100000 in
set_option maxHeartbeats 4000000 in
theorem b_X7_wayLength_34 {p : Program} {l : Launch} {e : Env} {s : State} {m : MethodId} {args : Array Value} {below : List Frame} {meth : Method} {c : Code} {D : va_G} {cA : Nat → ClassId} {lo : Nat} (C : Cx p s m args c cX7_wayLength 6 RX7 wsX7_wayLength D cA lo) (hr : meth.sig.returnType = (some .int)) (hlk : meth.locks = false) {Q : Int32 → Mm → Prop} (M : Mm) (a0 : Nat) (i2 : Int32) (i3 : Int32) (h : S_X7_wayLength_34 (fun (a0 : Nat) (i1 : Int32) (i2 : Int32) (i3 : Int32) (M : Mm) => QW p l e ({ frames := 2, cells := 0, slots := 0, locals := 44 } : Room) s m args below meth c (MQ below (QiM D cA lo Q) args s 0 0 (fun q => lo ≤ q)) 6 D cA lo 0 0 M 2 [(0, .ref a0), (1, .int i1), (2, .int i2), (3, .int i3)] []) (fun (a0 : Nat) (i2 : Int32) (i3 : Int32) (M : Mm) => QW p l e ({ frames := 2, cells := 0, slots := 0, locals := 44 } : Room) s m args below meth c (MQ below (QiM D cA lo Q) args s 0 0 (fun q => lo ≤ q)) 6 D cA lo 0 0 M 34 [(0, .ref a0), (2, .int i2), (3, .int i3)] []) (fun (a0 : Nat) (i2 : Int32) (i3 : Int32) (i4 : Int32) (i5 : Int32) (M : Mm) => QW p l e ({ frames := 2, cells := 0, slots := 0, locals := 44 } : Room) s m args below meth c (MQ below (QiM D cA lo Q) args s 0 0 (fun q => lo ≤ q)) 6 D cA lo 0 0 M 72 [(0, .ref a0), (2, .int i2), (3, .int i3), (4, .int i4), (5, .int i5)] []) Q M a0 i2 i3) : QW p l e ({ frames := 2, cells := 0, slots := 0, locals := 44 } : Room) s m args below meth c (MQ below (QiM D cA lo Q) args s 0 0 (fun q => lo ≤ q)) 6 D cA lo 0 0 M 34 [(0, .ref a0), (2, .int i2), (3, .int i3)] [] := by
  unfold S_X7_wayLength_34 at h
  refine q_iload_n C dX7_wayLength_34 rfl (j := 2) rfl ?_
  refine q_aload_n C dX7_wayLength_35 rfl (j := 0) rfl ?_
  refine q_getI (ci := 7) (k0 := 5) (T := TX7) C inX7_wayLength_X7 rfl (by decide) h.1 (by decide) rfl (by decide +kernel) rfl dX7_wayLength_36 ?_
  have h := h.2
  refine q_icmp_ge (tgt := 130) C dX7_wayLength_39 (by decide) (fun z => ?_) (fun z => ?_)
  · have h := h.1 z
    refine q_iconst (v := (-1)) C dX7_wayLength_130 (by decide) ?_
    exact q_iret C hr hlk dX7_wayLength_131 (Nat.le_of_ble_eq_true rfl) (Nat.le_of_ble_eq_true rfl) h
  · have h := h.2 z
    refine q_iload_n C dX7_wayLength_42 rfl (j := 2) rfl ?_
    refine q_bipush (v := 100) C dX7_wayLength_43 (by decide) ?_
    refine q_icmp_ge (tgt := 130) C dX7_wayLength_45 (by decide) (fun z => ?_) (fun z => ?_)
    · have h := h.1 z
      refine q_iconst (v := (-1)) C dX7_wayLength_130 (by decide) ?_
      exact q_iret C hr hlk dX7_wayLength_131 (Nat.le_of_ble_eq_true rfl) (Nat.le_of_ble_eq_true rfl) h
    · have h := h.2 z
      refine q_aload_n C dX7_wayLength_48 rfl (j := 0) rfl ?_
      refine q_getR (ci := 7) (k0 := 3) (T := TX7) C inX7_wayLength_X7 rfl (by decide) h.1 (by decide) rfl (by decide +kernel) rfl dX7_wayLength_49 ?_
      obtain ⟨a_5, z, h⟩ := h.2
      refine q_ref z ?_
      refine q_iload_n C dX7_wayLength_52 rfl (j := 2) rfl ?_
      obtain ⟨n_6, z1, z2, h⟩ := h
      refine q_iald C z1 z2 dX7_wayLength_53 ?_
      refine q_istore (lv' := [(4, .int (iM M a_5 i3.toNatClampNeg)), (0, .ref a0), (2, .int i2), (3, .int i3)]) C dX7_wayLength_54 (by decide) rfl ?_
      refine q_iload C dX7_wayLength_56 (j := 0) rfl ?_
      refine q_iload_n C dX7_wayLength_58 rfl (j := 2) rfl ?_
      refine q_icmp_ne (tgt := 69) C dX7_wayLength_59 (by decide) (fun z => ?_) (fun z => ?_)
      · have h := h.1 z
        refine q_iconst (v := 0) C dX7_wayLength_69 (by decide) ?_
        refine q_istore (lv' := [(5, .int 0), (4, .int (iM M a_5 i3.toNatClampNeg)), (0, .ref a0), (2, .int i2), (3, .int i3)]) C dX7_wayLength_70 (by decide) rfl ?_
        exact q_sub [2, 3, 4, 1, 0] rfl h
      · have h := h.2 z
        refine q_aload_n C dX7_wayLength_62 rfl (j := 1) rfl ?_
        refine q_iload C dX7_wayLength_63 (j := 0) rfl ?_
        refine q_ci (q_runV (As := [.int (iM M a_5 i3.toNatClampNeg)]) (st := []) C (c_X7_distanceOf l D cA lo h.2) (cwV 1 C.2.2.2.2.1 gX7_wayLength_X7_distanceOf rfl rfl rfl (by decide +kernel) ⟨Nat.le_of_ble_eq_true rfl, Nat.le_of_ble_eq_true rfl⟩) h.1 (by decide) rfl rfl rfl (Nat.le_of_ble_eq_true rfl) dX7_wayLength_65 ⟨Nat.le_of_ble_eq_true rfl, Nat.le_of_ble_eq_true rfl⟩) (fun r_7 M_z h => ?_)
        refine q_mem h.1 ?_
        have h := h.2
        exact q_iret C hr hlk dX7_wayLength_68 (Nat.le_of_ble_eq_true rfl) (Nat.le_of_ble_eq_true rfl) h
set_option maxRecDepth 100000 in
set_option maxHeartbeats 4000000 in
theorem b_X7_wayLength_72 {p : Program} {l : Launch} {e : Env} {s : State} {m : MethodId} {args : Array Value} {below : List Frame} {meth : Method} {c : Code} {D : va_G} {cA : Nat → ClassId} {lo : Nat} (C : Cx p s m args c cX7_wayLength 6 RX7 wsX7_wayLength D cA lo) (hr : meth.sig.returnType = (some .int)) (hlk : meth.locks = false) {Q : Int32 → Mm → Prop} (M : Mm) (a0 : Nat) (i2 : Int32) (i3 : Int32) (i4 : Int32) (i5 : Int32) (h : S_X7_wayLength_72 (fun (a0 : Nat) (i1 : Int32) (i2 : Int32) (i3 : Int32) (M : Mm) => QW p l e ({ frames := 2, cells := 0, slots := 0, locals := 44 } : Room) s m args below meth c (MQ below (QiM D cA lo Q) args s 0 0 (fun q => lo ≤ q)) 6 D cA lo 0 0 M 2 [(0, .ref a0), (1, .int i1), (2, .int i2), (3, .int i3)] []) (fun (a0 : Nat) (i2 : Int32) (i3 : Int32) (M : Mm) => QW p l e ({ frames := 2, cells := 0, slots := 0, locals := 44 } : Room) s m args below meth c (MQ below (QiM D cA lo Q) args s 0 0 (fun q => lo ≤ q)) 6 D cA lo 0 0 M 34 [(0, .ref a0), (2, .int i2), (3, .int i3)] []) (fun (a0 : Nat) (i2 : Int32) (i3 : Int32) (i4 : Int32) (i5 : Int32) (M : Mm) => QW p l e ({ frames := 2, cells := 0, slots := 0, locals := 44 } : Room) s m args below meth c (MQ below (QiM D cA lo Q) args s 0 0 (fun q => lo ≤ q)) 6 D cA lo 0 0 M 72 [(0, .ref a0), (2, .int i2), (3, .int i3), (4, .int i4), (5, .int i5)] []) Q M a0 i2 i3 i4 i5) : QW p l e ({ frames := 2, cells := 0, slots := 0, locals := 44 } : Room) s m args below meth c (MQ below (QiM D cA lo Q) args s 0 0 (fun q => lo ≤ q)) 6 D cA lo 0 0 M 72 [(0, .ref a0), (2, .int i2), (3, .int i3), (4, .int i4), (5, .int i5)] [] := by
  unfold S_X7_wayLength_72 at h
  refine q_iload C dX7_wayLength_72 (j := 4) rfl ?_
  refine q_bipush (v := 100) C dX7_wayLength_74 (by decide) ?_
  refine q_icmp_ge (tgt := 124) C dX7_wayLength_76 (by decide) (fun z => ?_) (fun z => ?_)
  · have h := h.1 z
    refine q_iinc (v := (i3 + 1)) (lv' := [(3, .int (i3 + 1)), (0, .ref a0), (2, .int i2), (4, .int i4), (5, .int i5)]) C dX7_wayLength_124 (j := 2) rfl rfl (by decide) rfl ?_
    refine q_goto (tgt := 34) C dX7_wayLength_127 (by decide) ?_
    exact q_sub [1, 2, 0] rfl h
  · have h := h.2 z
    refine q_aload_n C dX7_wayLength_79 rfl (j := 0) rfl ?_
    refine q_getR (ci := 7) (k0 := 4) (T := TX7) C inX7_wayLength_X7 rfl (by decide) h.1 (by decide) rfl (by decide +kernel) rfl dX7_wayLength_80 ?_
    obtain ⟨a_8, z, h⟩ := h.2
    refine q_ref z ?_
    refine q_iload C dX7_wayLength_83 (j := 4) rfl ?_
    obtain ⟨n_9, z1, z2, h⟩ := h
    refine q_iald C z1 z2 dX7_wayLength_85 ?_
    refine q_iconst (v := (-1)) C dX7_wayLength_86 (by decide) ?_
    refine q_icmp_ne (tgt := 118) C dX7_wayLength_87 (by decide) (fun z => ?_) (fun z => ?_)
    · have h := h.1 z
      refine q_iinc (v := (i5 + 1)) (lv' := [(5, .int (i5 + 1)), (0, .ref a0), (2, .int i2), (3, .int i3), (4, .int i4)]) C dX7_wayLength_118 (j := 4) rfl rfl (by decide) rfl ?_
      refine q_goto (tgt := 72) C dX7_wayLength_121 (by decide) ?_
      exact q_sub [1, 2, 3, 4, 0] rfl h
    · have h := h.2 z
      refine q_aload_n C dX7_wayLength_90 rfl (j := 0) rfl ?_
      refine q_getR (ci := 7) (k0 := 0) (T := TX7) C inX7_wayLength_X7 rfl (by decide) h.1 (by decide) rfl (by decide +kernel) rfl dX7_wayLength_91 ?_
      obtain ⟨a_10, z, h⟩ := h.2
      refine q_ref z ?_
      refine q_iload C dX7_wayLength_94 (j := 3) rfl ?_
      refine q_iload C dX7_wayLength_96 (j := 4) rfl ?_
      refine q_ci (q_runV (As := [.int i4, .int i5]) (st := []) C (c_X1_isEdge l D cA lo h.2) (cwV 2 C.2.2.2.2.1 gX7_wayLength_X1_isEdge rfl rfl rfl (by decide +kernel) ⟨Nat.le_of_ble_eq_true rfl, Nat.le_of_ble_eq_true rfl⟩) h.1 (by decide) rfl rfl rfl (Nat.le_of_ble_eq_true rfl) dX7_wayLength_98 ⟨Nat.le_of_ble_eq_true rfl, Nat.le_of_ble_eq_true rfl⟩) (fun r_11 M_z h => ?_)
      refine q_mem h.1 ?_
      have h := h.2
      refine q_if_eq (tgt := 118) C dX7_wayLength_101 (by decide) (fun z => ?_) (fun z => ?_)
      · have h := h.1 z
        refine q_iinc (v := (i5 + 1)) (lv' := [(5, .int (i5 + 1)), (0, .ref a0), (2, .int i2), (3, .int i3), (4, .int i4)]) C dX7_wayLength_118 (j := 4) rfl rfl (by decide) rfl ?_
        refine q_goto (tgt := 72) C dX7_wayLength_121 (by decide) ?_
        exact q_sub [1, 2, 3, 4, 0] rfl h
      · have h := h.2 z
        refine q_aload_n C dX7_wayLength_104 rfl (j := 0) rfl ?_
        refine q_iload C dX7_wayLength_105 (j := 4) rfl ?_
        refine q_aload_n C dX7_wayLength_107 rfl (j := 0) rfl ?_
        refine q_iload C dX7_wayLength_108 (j := 3) rfl ?_
        refine q_ci (q_runV (As := [.int i4]) (st := [.int i5, .ref a0]) C (c_X7_distanceOf l D cA lo h.2) (cwV 1 C.2.2.2.2.1 gX7_wayLength_X7_distanceOf rfl rfl rfl (by decide +kernel) ⟨Nat.le_of_ble_eq_true rfl, Nat.le_of_ble_eq_true rfl⟩) h.1 (by decide) rfl rfl rfl (Nat.le_of_ble_eq_true rfl) dX7_wayLength_110 ⟨Nat.le_of_ble_eq_true rfl, Nat.le_of_ble_eq_true rfl⟩) (fun r_12 M_z h => ?_)
        refine q_mem h.1 ?_
        have h := h.2
        refine q_iconst (v := 1) C dX7_wayLength_113 (by decide) ?_
        refine q_iadd C dX7_wayLength_114 ?_
        refine q_cv (q_runV (As := [.int i5, .int (r_12 + 1)]) (st := []) C (c_X7_reach l D cA lo h.2) (cwV 2 C.2.2.2.2.1 gX7_wayLength_X7_reach rfl rfl rfl (by decide +kernel) ⟨Nat.le_of_ble_eq_true rfl, Nat.le_of_ble_eq_true rfl⟩) h.1 (by decide) rfl rfl rfl (Nat.le_of_ble_eq_true rfl) dX7_wayLength_115 ⟨Nat.le_of_ble_eq_true rfl, Nat.le_of_ble_eq_true rfl⟩) (fun M_14 h => ?_)
        refine q_iinc (v := (i5 + 1)) (lv' := [(5, .int (i5 + 1)), (0, .ref a0), (2, .int i2), (3, .int i3), (4, .int i4)]) C dX7_wayLength_118 (j := 4) rfl rfl (by decide) rfl ?_
        refine q_goto (tgt := 72) C dX7_wayLength_121 (by decide) ?_
        exact q_sub [1, 2, 3, 4, 0] rfl h
set_option maxRecDepth 100000 in
set_option maxHeartbeats 4000000 in
theorem c_X7_wayLength (l : Launch) (D : va_G) (cA : Nat → ClassId) (lo : Nat) {M : Mm} {a0 : Nat} {i1 : Int32} {i2 : Int32} {Q : Int32 → Mm → Prop} (h : T_X7_wayLength M a0 i1 i2 Q) : Met l yX7_wayLength wsX7_wayLength ({ frames := 2, cells := 0, slots := 0, locals := 44 } : Room) (PcM D cA lo [.ref a0, .int i1, .int i2] M) (QiM D cA lo Q) 0 0 (fun q => lo ≤ q) := by
  refine q_start (cc := cX7_wayLength) (nL := 6) (ret := (some .int)) (by decide) rfl rfl (Nat.le_of_ble_eq_true rfl) ?_
  intro p e s m args below meth c C hr hlk hin
  unfold T_X7_wayLength at h
  have h := h (fun (a0 : Nat) (i1 : Int32) (i2 : Int32) (i3 : Int32) (M : Mm) => QW p l e ({ frames := 2, cells := 0, slots := 0, locals := 44 } : Room) s m args below meth c (MQ below (QiM D cA lo Q) args s 0 0 (fun q => lo ≤ q)) 6 D cA lo 0 0 M 2 [(0, .ref a0), (1, .int i1), (2, .int i2), (3, .int i3)] []) (fun (a0 : Nat) (i2 : Int32) (i3 : Int32) (M : Mm) => QW p l e ({ frames := 2, cells := 0, slots := 0, locals := 44 } : Room) s m args below meth c (MQ below (QiM D cA lo Q) args s 0 0 (fun q => lo ≤ q)) 6 D cA lo 0 0 M 34 [(0, .ref a0), (2, .int i2), (3, .int i3)] []) (fun (a0 : Nat) (i2 : Int32) (i3 : Int32) (i4 : Int32) (i5 : Int32) (M : Mm) => QW p l e ({ frames := 2, cells := 0, slots := 0, locals := 44 } : Room) s m args below meth c (MQ below (QiM D cA lo Q) args s 0 0 (fun q => lo ≤ q)) 6 D cA lo 0 0 M 72 [(0, .ref a0), (2, .int i2), (3, .int i3), (4, .int i4), (5, .int i5)] []) (fun a0 i1 i2 i3 M h => b_X7_wayLength_2 C hr hlk M a0 i1 i2 i3 h) (fun a0 i2 i3 M h => b_X7_wayLength_34 C hr hlk M a0 i2 i3 h) (fun a0 i2 i3 i4 i5 M h => b_X7_wayLength_72 C hr hlk M a0 i2 i3 i4 i5 h)
  refine q_iconst (v := 0) C dX7_wayLength_0 (by decide) ?_
  refine q_istore_n (lv' := [(3, .int 0), (0, .ref a0), (1, .int i1), (2, .int i2)]) C dX7_wayLength_1 rfl (by decide) rfl ?_
  exact q_sub [1, 2, 3, 0] rfl h
def T_X8_isInReach (M : Mm) (l0 : Int64) (Q : Int32 → Prop) : Prop := ((lg_cmp l0 (-500)) < 0 → Q 0) ∧ (¬ (lg_cmp l0 (-500)) < 0 → (0 < (lg_cmp l0 500) → Q 0) ∧ (¬ 0 < (lg_cmp l0 500) → Q 1))
set_option maxRecDepth 100000 in
set_option maxHeartbeats 4000000 in
theorem c_X8_isInReach (l : Launch) (D : va_G) (cA : Nat → ClassId) (lo : Nat) {M : Mm} {l0 : Int64} {Q : Int32 → Prop} (h : T_X8_isInReach M l0 Q) : Met l yX8_isInReach wsX8_isInReach ({ frames := 0, cells := 0, slots := 0, locals := 0 } : Room) (PcM D cA lo [.long l0] M) (QiM D cA lo (fun r M1 => M1 = M ∧ Q r)) 0 0 (fun q => lo ≤ q) := by
  refine q_start (cc := cX8_isInReach) (nL := 2) (ret := (some .boolean)) (by decide) rfl rfl (Nat.le_of_ble_eq_true rfl) ?_
  intro p e s m args below meth c C hr hlk hin
  unfold T_X8_isInReach at h
  refine q_lload_n C dX8_isInReach_0 rfl (j := 0) rfl ?_
  refine q_ldc2 (v := (-500)) C (by decide +kernel) dX8_isInReach_1 ?_
  refine q_lcmp C dX8_isInReach_4 ?_
  refine q_if_lt (tgt := 20) C dX8_isInReach_5 (by decide) (fun z => ?_) (fun z => ?_)
  · have h := h.1 z
    refine q_iconst (v := 0) C dX8_isInReach_20 (by decide) ?_
    exact q_zret C hr hlk dX8_isInReach_21 (Nat.le_of_ble_eq_true rfl) (Nat.le_of_ble_eq_true rfl) (Or.inl rfl) ⟨rfl, h⟩
  · have h := h.2 z
    refine q_lload_n C dX8_isInReach_8 rfl (j := 0) rfl ?_
    refine q_ldc2 (v := 500) C (by decide +kernel) dX8_isInReach_9 ?_
    refine q_lcmp C dX8_isInReach_12 ?_
    refine q_if_gt (tgt := 20) C dX8_isInReach_13 (by decide) (fun z => ?_) (fun z => ?_)
    · have h := h.1 z
      refine q_iconst (v := 0) C dX8_isInReach_20 (by decide) ?_
      exact q_zret C hr hlk dX8_isInReach_21 (Nat.le_of_ble_eq_true rfl) (Nat.le_of_ble_eq_true rfl) (Or.inl rfl) ⟨rfl, h⟩
    · have h := h.2 z
      refine q_iconst (v := 1) C dX8_isInReach_16 (by decide) ?_
      refine q_goto (tgt := 21) C dX8_isInReach_17 (by decide) ?_
      exact q_zret C hr hlk dX8_isInReach_21 (Nat.le_of_ble_eq_true rfl) (Nat.le_of_ble_eq_true rfl) (Or.inr rfl) ⟨rfl, h⟩
def T_X8_addSquare (M : Mm) (a0 : Nat) (i1 : Int32) (i2 : Int32) (i3 : Int32) (i4 : Int32) (Q : Int32 → Mm → Prop) : Prop := kM M a0 = (8, 8) ∧ ∃ a_1 : Nat, rM M a0 0 = some a_1 ∧ kM M a_1 = (3, 4) ∧ T_X3_add M a_1 i1 i2 i3 (fun r_2 M_3 => kM M_3 a0 = (8, 8) ∧ ∃ a_4 : Nat, rM M_3 a0 0 = some a_4 ∧ kM M_3 a_4 = (3, 4) ∧ T_X3_add M_3 a_4 (i1 + i4) i2 i3 (fun r_5 M_6 => kM M_6 a0 = (8, 8) ∧ ∃ a_7 : Nat, rM M_6 a0 0 = some a_7 ∧ kM M_6 a_7 = (3, 4) ∧ T_X3_add M_6 a_7 (i1 + i4) (i2 + i4) i3 (fun r_8 M_9 => kM M_9 a0 = (8, 8) ∧ ∃ a_10 : Nat, rM M_9 a0 0 = some a_10 ∧ kM M_9 a_10 = (3, 4) ∧ T_X3_add M_9 a_10 i1 (i2 + i4) i3 (fun r_11 M_12 => Q r_2 M_12))))
theorem inX8_addSquare_X8 : ∀ w ∈ wsX80, w ∈ wsX8_addSquare := by decide +kernel
set_option maxRecDepth 100000 in
set_option maxHeartbeats 4000000 in
theorem c_X8_addSquare (l : Launch) (D : va_G) (cA : Nat → ClassId) (lo : Nat) {M : Mm} {a0 : Nat} {i1 : Int32} {i2 : Int32} {i3 : Int32} {i4 : Int32} {Q : Int32 → Mm → Prop} (h : T_X8_addSquare M a0 i1 i2 i3 i4 Q) : Met l yX8_addSquare wsX8_addSquare ({ frames := 3, cells := 0, slots := 0, locals := 68 } : Room) (PcM D cA lo [.ref a0, .int i1, .int i2, .int i3, .int i4] M) (QiM D cA lo Q) 0 0 (fun q => lo ≤ q) := by
  refine q_start (cc := cX8_addSquare) (nL := 6) (ret := (some .int)) (by decide) rfl rfl (Nat.le_of_ble_eq_true rfl) ?_
  intro p e s m args below meth c C hr hlk hin
  unfold T_X8_addSquare at h
  refine q_aload_n C dX8_addSquare_0 rfl (j := 0) rfl ?_
  refine q_getR (ci := 8) (k0 := 0) (T := TX8) C inX8_addSquare_X8 rfl (by decide) h.1 (by decide) rfl (by decide +kernel) rfl dX8_addSquare_1 ?_
  obtain ⟨a_1, z, h⟩ := h.2
  refine q_ref z ?_
  refine q_iload_n C dX8_addSquare_4 rfl (j := 1) rfl ?_
  refine q_iload_n C dX8_addSquare_5 rfl (j := 2) rfl ?_
  refine q_iload_n C dX8_addSquare_6 rfl (j := 3) rfl ?_
  refine q_ci (q_runV (As := [.int i1, .int i2, .int i3]) (st := []) C (c_X3_add l D cA lo h.2) (cwV 3 C.2.2.2.2.1 gX8_addSquare_X3_add rfl rfl rfl (by decide +kernel) ⟨Nat.le_of_ble_eq_true rfl, Nat.le_of_ble_eq_true rfl⟩) h.1 (by decide) rfl rfl rfl (Nat.le_of_ble_eq_true rfl) dX8_addSquare_7 ⟨Nat.le_of_ble_eq_true rfl, Nat.le_of_ble_eq_true rfl⟩) (fun r_2 M_3 h => ?_)
  refine q_istore (lv' := [(5, .int r_2), (0, .ref a0), (1, .int i1), (2, .int i2), (3, .int i3), (4, .int i4)]) C dX8_addSquare_10 (by decide) rfl ?_
  refine q_aload_n C dX8_addSquare_12 rfl (j := 1) rfl ?_
  refine q_getR (ci := 8) (k0 := 0) (T := TX8) C inX8_addSquare_X8 rfl (by decide) h.1 (by decide) rfl (by decide +kernel) rfl dX8_addSquare_13 ?_
  obtain ⟨a_4, z, h⟩ := h.2
  refine q_ref z ?_
  refine q_iload_n C dX8_addSquare_16 rfl (j := 2) rfl ?_
  refine q_iload C dX8_addSquare_17 (j := 5) rfl ?_
  refine q_iadd C dX8_addSquare_19 ?_
  refine q_iload_n C dX8_addSquare_20 rfl (j := 3) rfl ?_
  refine q_iload_n C dX8_addSquare_21 rfl (j := 4) rfl ?_
  refine q_ci (q_runV (As := [.int (i1 + i4), .int i2, .int i3]) (st := []) C (c_X3_add l D cA lo h.2) (cwV 3 C.2.2.2.2.1 gX8_addSquare_X3_add rfl rfl rfl (by decide +kernel) ⟨Nat.le_of_ble_eq_true rfl, Nat.le_of_ble_eq_true rfl⟩) h.1 (by decide) rfl rfl rfl (Nat.le_of_ble_eq_true rfl) dX8_addSquare_22 ⟨Nat.le_of_ble_eq_true rfl, Nat.le_of_ble_eq_true rfl⟩) (fun r_5 M_6 h => ?_)
  refine q_pop C dX8_addSquare_25 rfl ?_
  refine q_aload_n C dX8_addSquare_26 rfl (j := 1) rfl ?_
  refine q_getR (ci := 8) (k0 := 0) (T := TX8) C inX8_addSquare_X8 rfl (by decide) h.1 (by decide) rfl (by decide +kernel) rfl dX8_addSquare_27 ?_
  obtain ⟨a_7, z, h⟩ := h.2
  refine q_ref z ?_
  refine q_iload_n C dX8_addSquare_30 rfl (j := 2) rfl ?_
  refine q_iload C dX8_addSquare_31 (j := 5) rfl ?_
  refine q_iadd C dX8_addSquare_33 ?_
  refine q_iload_n C dX8_addSquare_34 rfl (j := 3) rfl ?_
  refine q_iload C dX8_addSquare_35 (j := 5) rfl ?_
  refine q_iadd C dX8_addSquare_37 ?_
  refine q_iload_n C dX8_addSquare_38 rfl (j := 4) rfl ?_
  refine q_ci (q_runV (As := [.int (i1 + i4), .int (i2 + i4), .int i3]) (st := []) C (c_X3_add l D cA lo h.2) (cwV 3 C.2.2.2.2.1 gX8_addSquare_X3_add rfl rfl rfl (by decide +kernel) ⟨Nat.le_of_ble_eq_true rfl, Nat.le_of_ble_eq_true rfl⟩) h.1 (by decide) rfl rfl rfl (Nat.le_of_ble_eq_true rfl) dX8_addSquare_39 ⟨Nat.le_of_ble_eq_true rfl, Nat.le_of_ble_eq_true rfl⟩) (fun r_8 M_9 h => ?_)
  refine q_pop C dX8_addSquare_42 rfl ?_
  refine q_aload_n C dX8_addSquare_43 rfl (j := 1) rfl ?_
  refine q_getR (ci := 8) (k0 := 0) (T := TX8) C inX8_addSquare_X8 rfl (by decide) h.1 (by decide) rfl (by decide +kernel) rfl dX8_addSquare_44 ?_
  obtain ⟨a_10, z, h⟩ := h.2
  refine q_ref z ?_
  refine q_iload_n C dX8_addSquare_47 rfl (j := 2) rfl ?_
  refine q_iload_n C dX8_addSquare_48 rfl (j := 3) rfl ?_
  refine q_iload C dX8_addSquare_49 (j := 5) rfl ?_
  refine q_iadd C dX8_addSquare_51 ?_
  refine q_iload_n C dX8_addSquare_52 rfl (j := 4) rfl ?_
  refine q_ci (q_runV (As := [.int i1, .int (i2 + i4), .int i3]) (st := []) C (c_X3_add l D cA lo h.2) (cwV 3 C.2.2.2.2.1 gX8_addSquare_X3_add rfl rfl rfl (by decide +kernel) ⟨Nat.le_of_ble_eq_true rfl, Nat.le_of_ble_eq_true rfl⟩) h.1 (by decide) rfl rfl rfl (Nat.le_of_ble_eq_true rfl) dX8_addSquare_53 ⟨Nat.le_of_ble_eq_true rfl, Nat.le_of_ble_eq_true rfl⟩) (fun r_11 M_12 h => ?_)
  refine q_pop C dX8_addSquare_56 rfl ?_
  refine q_iload C dX8_addSquare_57 (j := 0) rfl ?_
  exact q_iret C hr hlk dX8_addSquare_59 (Nat.le_of_ble_eq_true rfl) (Nat.le_of_ble_eq_true rfl) h
def S_X8_addBoxFaces_2 (K2 : Nat → Int32 → Int32 → Mm → Prop) (Q : Mm → Prop) (M : Mm) (a0 : Nat) (i1 : Int32) (i2 : Int32) : Prop := (24 < (i2 + 4) → Q M) ∧ (¬ 24 < (i2 + 4) → kM M a0 = (8, 8) ∧ ∃ a_1 : Nat, rM M a0 6 = some a_1 ∧ vp_in i2 24 ∧ vp_in (i2 + 1) 24 ∧ vp_in (i2 + 2) 24 ∧ vp_in (i2 + 3) 24 ∧ kM M a_1 = (5, 2) ∧ T_X5_set M a_1 (i1 + (boxL.getD i2.toNatClampNeg 0)) (i1 + (boxL.getD (i2 + 1).toNatClampNeg 0)) (i1 + (boxL.getD (i2 + 2).toNatClampNeg 0)) (i1 + (boxL.getD (i2 + 3).toNatClampNeg 0)) (fun M_3 => kM M_3 a0 = (8, 8) ∧ ∃ a_4 : Nat, rM M_3 a0 1 = some a_4 ∧ kM M_3 a0 = (8, 8) ∧ ∃ a_5 : Nat, rM M_3 a0 6 = some a_5 ∧ kM M_3 a_4 = (1, 5) ∧ T_X1_add M_3 a_4 a_5 (fun r_6 M_7 => K2 a0 i1 (i2 + 4) M_7)))
def T_X8_addBoxFaces (M : Mm) (a0 : Nat) (i1 : Int32) (Q : Mm → Prop) : Prop := ∀ (K2 : Nat → Int32 → Int32 → Mm → Prop), (∀ (a0 : Nat) (i1 : Int32) (i2 : Int32) (M : Mm), S_X8_addBoxFaces_2 K2 Q M a0 i1 i2 → K2 a0 i1 i2 M) → K2 a0 i1 0 M
theorem inX8_addBoxFaces_X8 : ∀ w ∈ wsX80, w ∈ wsX8_addBoxFaces := by decide +kernel
set_option maxRecDepth 100000 in
set_option maxHeartbeats 4000000 in
theorem b_X8_addBoxFaces_2 {p : Program} {l : Launch} {e : Env} {s : State} {m : MethodId} {args : Array Value} {below : List Frame} {meth : Method} {c : Code} {D : va_G} {cA : Nat → ClassId} {lo : Nat} (C : Cx p s m args c cX8_addBoxFaces 3 RX8 wsX8_addBoxFaces D cA lo) (hr : meth.sig.returnType = none) (hlk : meth.locks = false) {Q : Mm → Prop} (M : Mm) (a0 : Nat) (i1 : Int32) (i2 : Int32) (h : S_X8_addBoxFaces_2 (fun (a0 : Nat) (i1 : Int32) (i2 : Int32) (M : Mm) => QW p l e ({ frames := 4, cells := 0, slots := 0, locals := 90 } : Room) s m args below meth c (MQ below (QvM D cA lo Q) args s 0 0 (fun q => lo ≤ q)) 3 D cA lo 0 0 M 2 [(0, .ref a0), (1, .int i1), (2, .int i2)] []) Q M a0 i1 i2) : QW p l e ({ frames := 4, cells := 0, slots := 0, locals := 90 } : Room) s m args below meth c (MQ below (QvM D cA lo Q) args s 0 0 (fun q => lo ≤ q)) 3 D cA lo 0 0 M 2 [(0, .ref a0), (1, .int i1), (2, .int i2)] [] := by
  unfold S_X8_addBoxFaces_2 at h
  refine q_iload_n C dX8_addBoxFaces_2 rfl (j := 2) rfl ?_
  refine q_iconst (v := 4) C dX8_addBoxFaces_3 (by decide) ?_
  refine q_iadd C dX8_addBoxFaces_4 ?_
  refine q_getbox C (by decide +kernel) dX8_addBoxFaces_5 (fun box_5 hbox => ?_)
  refine q_boxlen hbox C dX8_addBoxFaces_8 ?_
  refine q_icmp_gt (tgt := 71) C dX8_addBoxFaces_9 (by decide) (fun z => ?_) (fun z => ?_)
  · have h := h.1 z
    exact q_vret C hr hlk dX8_addBoxFaces_71 (Nat.le_of_ble_eq_true rfl) (Nat.le_of_ble_eq_true rfl) h
  · have h := h.2 z
    refine q_aload_n C dX8_addBoxFaces_12 rfl (j := 0) rfl ?_
    refine q_getR (ci := 8) (k0 := 6) (T := TX8) C inX8_addBoxFaces_X8 rfl (by decide) h.1 (by decide) rfl (by decide +kernel) rfl dX8_addBoxFaces_13 ?_
    obtain ⟨a_1, z, h⟩ := h.2
    refine q_ref z ?_
    refine q_iload_n C dX8_addBoxFaces_16 rfl (j := 1) rfl ?_
    refine q_getbox C (by decide +kernel) dX8_addBoxFaces_17 (fun box_17 hbox => ?_)
    refine q_iload_n C dX8_addBoxFaces_20 rfl (j := 2) rfl ?_
    refine q_boxld hbox C dX8_addBoxFaces_21 h.1 ?_
    have h := h.2
    refine q_iadd C dX8_addBoxFaces_22 ?_
    refine q_iload_n C dX8_addBoxFaces_23 rfl (j := 1) rfl ?_
    refine q_getbox C (by decide +kernel) dX8_addBoxFaces_24 (fun box_24 hbox => ?_)
    refine q_iload_n C dX8_addBoxFaces_27 rfl (j := 2) rfl ?_
    refine q_iconst (v := 1) C dX8_addBoxFaces_28 (by decide) ?_
    refine q_iadd C dX8_addBoxFaces_29 ?_
    refine q_boxld hbox C dX8_addBoxFaces_30 h.1 ?_
    have h := h.2
    refine q_iadd C dX8_addBoxFaces_31 ?_
    refine q_iload_n C dX8_addBoxFaces_32 rfl (j := 1) rfl ?_
    refine q_getbox C (by decide +kernel) dX8_addBoxFaces_33 (fun box_33 hbox => ?_)
    refine q_iload_n C dX8_addBoxFaces_36 rfl (j := 2) rfl ?_
    refine q_iconst (v := 2) C dX8_addBoxFaces_37 (by decide) ?_
    refine q_iadd C dX8_addBoxFaces_38 ?_
    refine q_boxld hbox C dX8_addBoxFaces_39 h.1 ?_
    have h := h.2
    refine q_iadd C dX8_addBoxFaces_40 ?_
    refine q_iload_n C dX8_addBoxFaces_41 rfl (j := 1) rfl ?_
    refine q_getbox C (by decide +kernel) dX8_addBoxFaces_42 (fun box_42 hbox => ?_)
    refine q_iload_n C dX8_addBoxFaces_45 rfl (j := 2) rfl ?_
    refine q_iconst (v := 3) C dX8_addBoxFaces_46 (by decide) ?_
    refine q_iadd C dX8_addBoxFaces_47 ?_
    refine q_boxld hbox C dX8_addBoxFaces_48 h.1 ?_
    have h := h.2
    refine q_iadd C dX8_addBoxFaces_49 ?_
    refine q_cv (q_runV (As := [.int (i1 + (boxL.getD i2.toNatClampNeg 0)), .int (i1 + (boxL.getD (i2 + 1).toNatClampNeg 0)), .int (i1 + (boxL.getD (i2 + 2).toNatClampNeg 0)), .int (i1 + (boxL.getD (i2 + 3).toNatClampNeg 0))]) (st := []) C (c_X5_set l D cA lo h.2) (cwV 4 C.2.2.2.2.1 gX8_addBoxFaces_X5_set rfl rfl rfl (by decide +kernel) ⟨Nat.le_of_ble_eq_true rfl, Nat.le_of_ble_eq_true rfl⟩) h.1 (by decide) rfl rfl rfl (Nat.le_of_ble_eq_true rfl) dX8_addBoxFaces_50 ⟨Nat.le_of_ble_eq_true rfl, Nat.le_of_ble_eq_true rfl⟩) (fun M_3 h => ?_)
    refine q_aload_n C dX8_addBoxFaces_53 rfl (j := 0) rfl ?_
    refine q_getR (ci := 8) (k0 := 1) (T := TX8) C inX8_addBoxFaces_X8 rfl (by decide) h.1 (by decide) rfl (by decide +kernel) rfl dX8_addBoxFaces_54 ?_
    obtain ⟨a_4, z, h⟩ := h.2
    refine q_ref z ?_
    refine q_aload_n C dX8_addBoxFaces_57 rfl (j := 0) rfl ?_
    refine q_getR (ci := 8) (k0 := 6) (T := TX8) C inX8_addBoxFaces_X8 rfl (by decide) h.1 (by decide) rfl (by decide +kernel) rfl dX8_addBoxFaces_58 ?_
    obtain ⟨a_5, z, h⟩ := h.2
    refine q_ref z ?_
    refine q_ci (q_runV (As := [.ref a_5]) (st := []) C (c_X1_add l D cA lo h.2) (cwV 1 C.2.2.2.2.1 gX8_addBoxFaces_X1_add rfl rfl rfl (by decide +kernel) ⟨Nat.le_of_ble_eq_true rfl, Nat.le_of_ble_eq_true rfl⟩) h.1 (by decide) rfl rfl rfl (Nat.le_of_ble_eq_true rfl) dX8_addBoxFaces_61 ⟨Nat.le_of_ble_eq_true rfl, Nat.le_of_ble_eq_true rfl⟩) (fun r_6 M_7 h => ?_)
    refine q_pop C dX8_addBoxFaces_64 rfl ?_
    refine q_iinc (v := (i2 + 4)) (lv' := [(2, .int (i2 + 4)), (0, .ref a0), (1, .int i1)]) C dX8_addBoxFaces_65 (j := 2) rfl rfl (by decide) rfl ?_
    refine q_goto (tgt := 2) C dX8_addBoxFaces_68 (by decide) ?_
    exact q_sub [1, 2, 0] rfl h
set_option maxRecDepth 100000 in
set_option maxHeartbeats 4000000 in
theorem c_X8_addBoxFaces (l : Launch) (D : va_G) (cA : Nat → ClassId) (lo : Nat) {M : Mm} {a0 : Nat} {i1 : Int32} {Q : Mm → Prop} (h : T_X8_addBoxFaces M a0 i1 Q) : Met l yX8_addBoxFaces wsX8_addBoxFaces ({ frames := 4, cells := 0, slots := 0, locals := 90 } : Room) (PcM D cA lo [.ref a0, .int i1] M) (QvM D cA lo Q) 0 0 (fun q => lo ≤ q) := by
  refine q_start (cc := cX8_addBoxFaces) (nL := 3) (ret := none) (by decide) rfl rfl (Nat.le_of_ble_eq_true rfl) ?_
  intro p e s m args below meth c C hr hlk hin
  unfold T_X8_addBoxFaces at h
  have h := h (fun (a0 : Nat) (i1 : Int32) (i2 : Int32) (M : Mm) => QW p l e ({ frames := 4, cells := 0, slots := 0, locals := 90 } : Room) s m args below meth c (MQ below (QvM D cA lo Q) args s 0 0 (fun q => lo ≤ q)) 3 D cA lo 0 0 M 2 [(0, .ref a0), (1, .int i1), (2, .int i2)] []) (fun a0 i1 i2 M h => b_X8_addBoxFaces_2 C hr hlk M a0 i1 i2 h)
  refine q_iconst (v := 0) C dX8_addBoxFaces_0 (by decide) ?_
  refine q_istore_n (lv' := [(2, .int 0), (0, .ref a0), (1, .int i1)]) C dX8_addBoxFaces_1 rfl (by decide) rfl ?_
  exact q_sub [1, 2, 0] rfl h
def T_X8_hasRoomInRing (M : Mm) (a0 : Nat) (i1 : Int32) (Q : Int32 → Prop) : Prop := kM M a0 = (8, 8) ∧ ∃ a_1 : Nat, rM M a0 1 = some a_1 ∧ kM M a_1 = (1, 5) ∧ T_X1_ring M a_1 i1 (fun r_2 => kM M r_2 = (5, 2) ∧ T_X5_length M r_2 (fun r_3 => (12 ≤ r_3 → Q 0) ∧ (¬ 12 ≤ r_3 → Q 1)))
theorem inX8_hasRoomInRing_X8 : ∀ w ∈ wsX80, w ∈ wsX8_hasRoomInRing := by decide +kernel
set_option maxRecDepth 100000 in
set_option maxHeartbeats 4000000 in
theorem c_X8_hasRoomInRing (l : Launch) (D : va_G) (cA : Nat → ClassId) (lo : Nat) {M : Mm} {a0 : Nat} {i1 : Int32} {Q : Int32 → Prop} (h : T_X8_hasRoomInRing M a0 i1 Q) : Met l yX8_hasRoomInRing wsX8_hasRoomInRing ({ frames := 1, cells := 0, slots := 0, locals := 21 } : Room) (PcM D cA lo [.ref a0, .int i1] M) (QiM D cA lo (fun r M1 => M1 = M ∧ Q r)) 0 0 (fun q => lo ≤ q) := by
  refine q_start (cc := cX8_hasRoomInRing) (nL := 2) (ret := (some .boolean)) (by decide) rfl rfl (Nat.le_of_ble_eq_true rfl) ?_
  intro p e s m args below meth c C hr hlk hin
  unfold T_X8_hasRoomInRing at h
  refine q_aload_n C dX8_hasRoomInRing_0 rfl (j := 0) rfl ?_
  refine q_getR (ci := 8) (k0 := 1) (T := TX8) C inX8_hasRoomInRing_X8 rfl (by decide) h.1 (by decide) rfl (by decide +kernel) rfl dX8_hasRoomInRing_1 ?_
  obtain ⟨a_1, z, h⟩ := h.2
  refine q_ref z ?_
  refine q_iload_n C dX8_hasRoomInRing_4 rfl (j := 1) rfl ?_
  refine q_cr (q_runV (As := [.int i1]) (st := []) C (c_X1_ring l D cA lo h.2) (cwV 1 C.2.2.2.2.1 gX8_hasRoomInRing_X1_ring rfl rfl rfl (by decide +kernel) ⟨Nat.le_of_ble_eq_true rfl, Nat.le_of_ble_eq_true rfl⟩) h.1 (by decide) rfl rfl rfl (Nat.le_of_ble_eq_true rfl) dX8_hasRoomInRing_5 ⟨Nat.le_of_ble_eq_true rfl, Nat.le_of_ble_eq_true rfl⟩) (fun r_2 M_z h => ?_)
  refine q_mem h.1 ?_
  have h := h.2
  refine q_ci (q_runV (As := []) (st := []) C (c_X5_length l D cA lo h.2) (cwV 0 C.2.2.2.2.1 gX8_hasRoomInRing_X5_length rfl rfl rfl (by decide +kernel) ⟨Nat.le_of_ble_eq_true rfl, Nat.le_of_ble_eq_true rfl⟩) h.1 (by decide) rfl rfl rfl (Nat.le_of_ble_eq_true rfl) dX8_hasRoomInRing_8 ⟨Nat.le_of_ble_eq_true rfl, Nat.le_of_ble_eq_true rfl⟩) (fun r_3 M_z h => ?_)
  refine q_mem h.1 ?_
  have h := h.2
  refine q_bipush (v := 12) C dX8_hasRoomInRing_11 (by decide) ?_
  refine q_icmp_ge (tgt := 20) C dX8_hasRoomInRing_13 (by decide) (fun z => ?_) (fun z => ?_)
  · have h := h.1 z
    refine q_iconst (v := 0) C dX8_hasRoomInRing_20 (by decide) ?_
    exact q_zret C hr hlk dX8_hasRoomInRing_21 (Nat.le_of_ble_eq_true rfl) (Nat.le_of_ble_eq_true rfl) (Or.inl rfl) ⟨rfl, h⟩
  · have h := h.2 z
    refine q_iconst (v := 1) C dX8_hasRoomInRing_16 (by decide) ?_
    refine q_goto (tgt := 21) C dX8_hasRoomInRing_17 (by decide) ?_
    exact q_zret C hr hlk dX8_hasRoomInRing_21 (Nat.le_of_ble_eq_true rfl) (Nat.le_of_ble_eq_true rfl) (Or.inr rfl) ⟨rfl, h⟩
def S_X8_putAfter_32 (K32 : Nat → Int32 → Int32 → Int32 → Nat → Int32 → Mm → Prop) (Q : Mm → Prop) (M : Mm) (a0 : Nat) (i1 : Int32) (i2 : Int32) (i3 : Int32) (a4 : Nat) (i5 : Int32) : Prop := kM M a4 = (5, 2) ∧ T_X5_length M a4 (fun r_8 => (r_8 ≤ i5 → kM M a0 = (8, 8) ∧ ∃ a_9 : Nat, rM M a0 1 = some a_9 ∧ kM M a0 = (8, 8) ∧ ∃ a_10 : Nat, rM M a0 6 = some a_10 ∧ kM M a_9 = (1, 5) ∧ T_X1_reshape M a_9 i1 a_10 (fun M_12 => Q M_12)) ∧ (¬ r_8 ≤ i5 → kM M a0 = (8, 8) ∧ ∃ a_13 : Nat, rM M a0 6 = some a_13 ∧ kM M a4 = (5, 2) ∧ T_X5_get M a4 i5 (fun r_14 => kM M a_13 = (5, 2) ∧ T_X5_add M a_13 r_14 (fun M_16 => kM M_16 a4 = (5, 2) ∧ T_X5_get M_16 a4 i5 (fun r_17 => (¬ r_17 = i2 → K32 a0 i1 i2 i3 a4 (i5 + 1) M_16) ∧ (r_17 = i2 → kM M_16 a0 = (8, 8) ∧ ∃ a_18 : Nat, rM M_16 a0 6 = some a_18 ∧ kM M_16 a_18 = (5, 2) ∧ T_X5_add M_16 a_18 i3 (fun M_20 => K32 a0 i1 i2 i3 a4 (i5 + 1) M_20)))))))
def T_X8_putAfter (M : Mm) (a0 : Nat) (i1 : Int32) (i2 : Int32) (i3 : Int32) (Q : Mm → Prop) : Prop := ∀ (K32 : Nat → Int32 → Int32 → Int32 → Nat → Int32 → Mm → Prop), (∀ (a0 : Nat) (i1 : Int32) (i2 : Int32) (i3 : Int32) (a4 : Nat) (i5 : Int32) (M : Mm), S_X8_putAfter_32 K32 Q M a0 i1 i2 i3 a4 i5 → K32 a0 i1 i2 i3 a4 i5 M) → kM M a0 = (8, 8) ∧ ∃ a_1 : Nat, rM M a0 1 = some a_1 ∧ kM M a_1 = (1, 5) ∧ T_X1_has M a_1 i1 (fun r_2 => (¬ r_2 = 0 → kM M a0 = (8, 8) ∧ ∃ a_3 : Nat, rM M a0 1 = some a_3 ∧ kM M a_3 = (1, 5) ∧ T_X1_ring M a_3 i1 (fun r_4 => kM M a0 = (8, 8) ∧ ∃ a_5 : Nat, rM M a0 6 = some a_5 ∧ kM M a_5 = (5, 2) ∧ T_X5_clear M a_5 (fun M_7 => K32 a0 i1 i2 i3 r_4 0 M_7))) ∧ (r_2 = 0 → Q M))
theorem inX8_putAfter_X8 : ∀ w ∈ wsX80, w ∈ wsX8_putAfter := by decide +kernel
set_option maxRecDepth 100000 in
set_option maxHeartbeats 4000000 in
theorem b_X8_putAfter_32 {p : Program} {l : Launch} {e : Env} {s : State} {m : MethodId} {args : Array Value} {below : List Frame} {meth : Method} {c : Code} {D : va_G} {cA : Nat → ClassId} {lo : Nat} (C : Cx p s m args c cX8_putAfter 6 RX8 wsX8_putAfter D cA lo) (hr : meth.sig.returnType = none) (hlk : meth.locks = false) {Q : Mm → Prop} (M : Mm) (a0 : Nat) (i1 : Int32) (i2 : Int32) (i3 : Int32) (a4 : Nat) (i5 : Int32) (h : S_X8_putAfter_32 (fun (a0 : Nat) (i1 : Int32) (i2 : Int32) (i3 : Int32) (a4 : Nat) (i5 : Int32) (M : Mm) => QW p l e ({ frames := 3, cells := 0, slots := 0, locals := 68 } : Room) s m args below meth c (MQ below (QvM D cA lo Q) args s 0 0 (fun q => lo ≤ q)) 6 D cA lo 0 0 M 32 [(0, .ref a0), (1, .int i1), (2, .int i2), (3, .int i3), (4, .ref a4), (5, .int i5)] []) Q M a0 i1 i2 i3 a4 i5) : QW p l e ({ frames := 3, cells := 0, slots := 0, locals := 68 } : Room) s m args below meth c (MQ below (QvM D cA lo Q) args s 0 0 (fun q => lo ≤ q)) 6 D cA lo 0 0 M 32 [(0, .ref a0), (1, .int i1), (2, .int i2), (3, .int i3), (4, .ref a4), (5, .int i5)] [] := by
  unfold S_X8_putAfter_32 at h
  refine q_iload C dX8_putAfter_32 (j := 5) rfl ?_
  refine q_aload C dX8_putAfter_34 (j := 4) rfl ?_
  refine q_ci (q_runV (As := []) (st := [.int i5]) C (c_X5_length l D cA lo h.2) (cwV 0 C.2.2.2.2.1 gX8_putAfter_X5_length rfl rfl rfl (by decide +kernel) ⟨Nat.le_of_ble_eq_true rfl, Nat.le_of_ble_eq_true rfl⟩) h.1 (by decide) rfl rfl rfl (Nat.le_of_ble_eq_true rfl) dX8_putAfter_36 ⟨Nat.le_of_ble_eq_true rfl, Nat.le_of_ble_eq_true rfl⟩) (fun r_8 M_z h => ?_)
  refine q_mem h.1 ?_
  have h := h.2
  refine q_icmp_ge (tgt := 81) C dX8_putAfter_39 (by decide) (fun z => ?_) (fun z => ?_)
  · have h := h.1 z
    refine q_aload_n C dX8_putAfter_81 rfl (j := 0) rfl ?_
    refine q_getR (ci := 8) (k0 := 1) (T := TX8) C inX8_putAfter_X8 rfl (by decide) h.1 (by decide) rfl (by decide +kernel) rfl dX8_putAfter_82 ?_
    obtain ⟨a_9, z, h⟩ := h.2
    refine q_ref z ?_
    refine q_iload_n C dX8_putAfter_85 rfl (j := 1) rfl ?_
    refine q_aload_n C dX8_putAfter_86 rfl (j := 0) rfl ?_
    refine q_getR (ci := 8) (k0 := 6) (T := TX8) C inX8_putAfter_X8 rfl (by decide) h.1 (by decide) rfl (by decide +kernel) rfl dX8_putAfter_87 ?_
    obtain ⟨a_10, z, h⟩ := h.2
    refine q_ref z ?_
    refine q_cv (q_runV (As := [.int i1, .ref a_10]) (st := []) C (c_X1_reshape l D cA lo h.2) (cwV 2 C.2.2.2.2.1 gX8_putAfter_X1_reshape rfl rfl rfl (by decide +kernel) ⟨Nat.le_of_ble_eq_true rfl, Nat.le_of_ble_eq_true rfl⟩) h.1 (by decide) rfl rfl rfl (Nat.le_of_ble_eq_true rfl) dX8_putAfter_90 ⟨Nat.le_of_ble_eq_true rfl, Nat.le_of_ble_eq_true rfl⟩) (fun M_12 h => ?_)
    exact q_vret C hr hlk dX8_putAfter_93 (Nat.le_of_ble_eq_true rfl) (Nat.le_of_ble_eq_true rfl) h
  · have h := h.2 z
    refine q_aload_n C dX8_putAfter_42 rfl (j := 0) rfl ?_
    refine q_getR (ci := 8) (k0 := 6) (T := TX8) C inX8_putAfter_X8 rfl (by decide) h.1 (by decide) rfl (by decide +kernel) rfl dX8_putAfter_43 ?_
    obtain ⟨a_13, z, h⟩ := h.2
    refine q_ref z ?_
    refine q_aload C dX8_putAfter_46 (j := 4) rfl ?_
    refine q_iload C dX8_putAfter_48 (j := 5) rfl ?_
    refine q_ci (q_runV (As := [.int i5]) (st := [.ref a_13]) C (c_X5_get l D cA lo h.2) (cwV 1 C.2.2.2.2.1 gX8_putAfter_X5_get rfl rfl rfl (by decide +kernel) ⟨Nat.le_of_ble_eq_true rfl, Nat.le_of_ble_eq_true rfl⟩) h.1 (by decide) rfl rfl rfl (Nat.le_of_ble_eq_true rfl) dX8_putAfter_50 ⟨Nat.le_of_ble_eq_true rfl, Nat.le_of_ble_eq_true rfl⟩) (fun r_14 M_z h => ?_)
    refine q_mem h.1 ?_
    have h := h.2
    refine q_cv (q_runV (As := [.int r_14]) (st := []) C (c_X5_add l D cA lo h.2) (cwV 1 C.2.2.2.2.1 gX8_putAfter_X5_add rfl rfl rfl (by decide +kernel) ⟨Nat.le_of_ble_eq_true rfl, Nat.le_of_ble_eq_true rfl⟩) h.1 (by decide) rfl rfl rfl (Nat.le_of_ble_eq_true rfl) dX8_putAfter_53 ⟨Nat.le_of_ble_eq_true rfl, Nat.le_of_ble_eq_true rfl⟩) (fun M_16 h => ?_)
    refine q_aload C dX8_putAfter_56 (j := 4) rfl ?_
    refine q_iload C dX8_putAfter_58 (j := 5) rfl ?_
    refine q_ci (q_runV (As := [.int i5]) (st := []) C (c_X5_get l D cA lo h.2) (cwV 1 C.2.2.2.2.1 gX8_putAfter_X5_get rfl rfl rfl (by decide +kernel) ⟨Nat.le_of_ble_eq_true rfl, Nat.le_of_ble_eq_true rfl⟩) h.1 (by decide) rfl rfl rfl (Nat.le_of_ble_eq_true rfl) dX8_putAfter_60 ⟨Nat.le_of_ble_eq_true rfl, Nat.le_of_ble_eq_true rfl⟩) (fun r_17 M_z h => ?_)
    refine q_mem h.1 ?_
    have h := h.2
    refine q_iload_n C dX8_putAfter_63 rfl (j := 2) rfl ?_
    refine q_icmp_ne (tgt := 75) C dX8_putAfter_64 (by decide) (fun z => ?_) (fun z => ?_)
    · have h := h.1 z
      refine q_iinc (v := (i5 + 1)) (lv' := [(5, .int (i5 + 1)), (0, .ref a0), (1, .int i1), (2, .int i2), (3, .int i3), (4, .ref a4)]) C dX8_putAfter_75 (j := 5) rfl rfl (by decide) rfl ?_
      refine q_goto (tgt := 32) C dX8_putAfter_78 (by decide) ?_
      exact q_sub [1, 2, 3, 4, 5, 0] rfl h
    · have h := h.2 z
      refine q_aload_n C dX8_putAfter_67 rfl (j := 0) rfl ?_
      refine q_getR (ci := 8) (k0 := 6) (T := TX8) C inX8_putAfter_X8 rfl (by decide) h.1 (by decide) rfl (by decide +kernel) rfl dX8_putAfter_68 ?_
      obtain ⟨a_18, z, h⟩ := h.2
      refine q_ref z ?_
      refine q_iload_n C dX8_putAfter_71 rfl (j := 3) rfl ?_
      refine q_cv (q_runV (As := [.int i3]) (st := []) C (c_X5_add l D cA lo h.2) (cwV 1 C.2.2.2.2.1 gX8_putAfter_X5_add rfl rfl rfl (by decide +kernel) ⟨Nat.le_of_ble_eq_true rfl, Nat.le_of_ble_eq_true rfl⟩) h.1 (by decide) rfl rfl rfl (Nat.le_of_ble_eq_true rfl) dX8_putAfter_72 ⟨Nat.le_of_ble_eq_true rfl, Nat.le_of_ble_eq_true rfl⟩) (fun M_20 h => ?_)
      refine q_iinc (v := (i5 + 1)) (lv' := [(5, .int (i5 + 1)), (0, .ref a0), (1, .int i1), (2, .int i2), (3, .int i3), (4, .ref a4)]) C dX8_putAfter_75 (j := 5) rfl rfl (by decide) rfl ?_
      refine q_goto (tgt := 32) C dX8_putAfter_78 (by decide) ?_
      exact q_sub [1, 2, 3, 4, 5, 0] rfl h
set_option maxRecDepth 100000 in
set_option maxHeartbeats 4000000 in
theorem c_X8_putAfter (l : Launch) (D : va_G) (cA : Nat → ClassId) (lo : Nat) {M : Mm} {a0 : Nat} {i1 : Int32} {i2 : Int32} {i3 : Int32} {Q : Mm → Prop} (h : T_X8_putAfter M a0 i1 i2 i3 Q) : Met l yX8_putAfter wsX8_putAfter ({ frames := 3, cells := 0, slots := 0, locals := 68 } : Room) (PcM D cA lo [.ref a0, .int i1, .int i2, .int i3] M) (QvM D cA lo Q) 0 0 (fun q => lo ≤ q) := by
  refine q_start (cc := cX8_putAfter) (nL := 6) (ret := none) (by decide) rfl rfl (Nat.le_of_ble_eq_true rfl) ?_
  intro p e s m args below meth c C hr hlk hin
  unfold T_X8_putAfter at h
  have h := h (fun (a0 : Nat) (i1 : Int32) (i2 : Int32) (i3 : Int32) (a4 : Nat) (i5 : Int32) (M : Mm) => QW p l e ({ frames := 3, cells := 0, slots := 0, locals := 68 } : Room) s m args below meth c (MQ below (QvM D cA lo Q) args s 0 0 (fun q => lo ≤ q)) 6 D cA lo 0 0 M 32 [(0, .ref a0), (1, .int i1), (2, .int i2), (3, .int i3), (4, .ref a4), (5, .int i5)] []) (fun a0 i1 i2 i3 a4 i5 M h => b_X8_putAfter_32 C hr hlk M a0 i1 i2 i3 a4 i5 h)
  refine q_aload_n C dX8_putAfter_0 rfl (j := 0) rfl ?_
  refine q_getR (ci := 8) (k0 := 1) (T := TX8) C inX8_putAfter_X8 rfl (by decide) h.1 (by decide) rfl (by decide +kernel) rfl dX8_putAfter_1 ?_
  obtain ⟨a_1, z, h⟩ := h.2
  refine q_ref z ?_
  refine q_iload_n C dX8_putAfter_4 rfl (j := 1) rfl ?_
  refine q_ci (q_runV (As := [.int i1]) (st := []) C (c_X1_has l D cA lo h.2) (cwV 1 C.2.2.2.2.1 gX8_putAfter_X1_has rfl rfl rfl (by decide +kernel) ⟨Nat.le_of_ble_eq_true rfl, Nat.le_of_ble_eq_true rfl⟩) h.1 (by decide) rfl rfl rfl (Nat.le_of_ble_eq_true rfl) dX8_putAfter_5 ⟨Nat.le_of_ble_eq_true rfl, Nat.le_of_ble_eq_true rfl⟩) (fun r_2 M_z h => ?_)
  refine q_mem h.1 ?_
  have h := h.2
  refine q_if_ne (tgt := 12) C dX8_putAfter_8 (by decide) (fun z => ?_) (fun z => ?_)
  · have h := h.1 z
    refine q_aload_n C dX8_putAfter_12 rfl (j := 0) rfl ?_
    refine q_getR (ci := 8) (k0 := 1) (T := TX8) C inX8_putAfter_X8 rfl (by decide) h.1 (by decide) rfl (by decide +kernel) rfl dX8_putAfter_13 ?_
    obtain ⟨a_3, z, h⟩ := h.2
    refine q_ref z ?_
    refine q_iload_n C dX8_putAfter_16 rfl (j := 1) rfl ?_
    refine q_cr (q_runV (As := [.int i1]) (st := []) C (c_X1_ring l D cA lo h.2) (cwV 1 C.2.2.2.2.1 gX8_putAfter_X1_ring rfl rfl rfl (by decide +kernel) ⟨Nat.le_of_ble_eq_true rfl, Nat.le_of_ble_eq_true rfl⟩) h.1 (by decide) rfl rfl rfl (Nat.le_of_ble_eq_true rfl) dX8_putAfter_17 ⟨Nat.le_of_ble_eq_true rfl, Nat.le_of_ble_eq_true rfl⟩) (fun r_4 M_z h => ?_)
    refine q_mem h.1 ?_
    have h := h.2
    refine q_astore (lv' := [(4, .ref r_4), (0, .ref a0), (1, .int i1), (2, .int i2), (3, .int i3)]) C dX8_putAfter_20 (by decide) rfl ?_
    refine q_aload_n C dX8_putAfter_22 rfl (j := 1) rfl ?_
    refine q_getR (ci := 8) (k0 := 6) (T := TX8) C inX8_putAfter_X8 rfl (by decide) h.1 (by decide) rfl (by decide +kernel) rfl dX8_putAfter_23 ?_
    obtain ⟨a_5, z, h⟩ := h.2
    refine q_ref z ?_
    refine q_cv (q_runV (As := []) (st := []) C (c_X5_clear l D cA lo h.2) (cwV 0 C.2.2.2.2.1 gX8_putAfter_X5_clear rfl rfl rfl (by decide +kernel) ⟨Nat.le_of_ble_eq_true rfl, Nat.le_of_ble_eq_true rfl⟩) h.1 (by decide) rfl rfl rfl (Nat.le_of_ble_eq_true rfl) dX8_putAfter_26 ⟨Nat.le_of_ble_eq_true rfl, Nat.le_of_ble_eq_true rfl⟩) (fun M_7 h => ?_)
    refine q_iconst (v := 0) C dX8_putAfter_29 (by decide) ?_
    refine q_istore (lv' := [(5, .int 0), (4, .ref r_4), (0, .ref a0), (1, .int i1), (2, .int i2), (3, .int i3)]) C dX8_putAfter_30 (by decide) rfl ?_
    exact q_sub [2, 3, 4, 5, 1, 0] rfl h
  · have h := h.2 z
    exact q_vret C hr hlk dX8_putAfter_11 (Nat.le_of_ble_eq_true rfl) (Nat.le_of_ble_eq_true rfl) h
def S_X8_joinFits_57 (K57 : Int32 → Int32 → Nat → Nat → Int32 → Prop) (Q : Int32 → Prop) (M : Mm) (i1 : Int32) (i2 : Int32) (a3 : Nat) (a4 : Nat) (i5 : Int32) : Prop := kM M a4 = (5, 2) ∧ T_X5_length M a4 (fun r_11 => (r_11 ≤ i5 → Q 1) ∧ (¬ r_11 ≤ i5 → kM M a4 = (5, 2) ∧ T_X5_get M a4 i5 (fun r_12 => (r_12 = i1 → K57 i1 i2 a3 a4 (i5 + 1)) ∧ (¬ r_12 = i1 → (r_12 = i2 → K57 i1 i2 a3 a4 (i5 + 1)) ∧ (¬ r_12 = i2 → kM M a3 = (5, 2) ∧ T_X5_placeOf M a3 r_12 (fun r_13 => (r_13 = (-1) → K57 i1 i2 a3 a4 (i5 + 1)) ∧ (¬ r_13 = (-1) → Q 0)))))))
def T_X8_joinFits (M : Mm) (a0 : Nat) (i1 : Int32) (i2 : Int32) (Q : Int32 → Prop) : Prop := ∀ (K57 : Int32 → Int32 → Nat → Nat → Int32 → Prop), (∀ (i1 : Int32) (i2 : Int32) (a3 : Nat) (a4 : Nat) (i5 : Int32), S_X8_joinFits_57 K57 Q M i1 i2 a3 a4 i5 → K57 i1 i2 a3 a4 i5) → kM M a0 = (8, 8) ∧ ∃ a_1 : Nat, rM M a0 1 = some a_1 ∧ kM M a0 = (8, 8) ∧ ∃ a_2 : Nat, rM M a0 1 = some a_2 ∧ kM M a_2 = (1, 5) ∧ T_X1_owner M a_2 i1 i2 (fun r_3 => kM M a_1 = (1, 5) ∧ T_X1_ring M a_1 r_3 (fun r_4 => kM M a0 = (8, 8) ∧ ∃ a_5 : Nat, rM M a0 1 = some a_5 ∧ kM M a0 = (8, 8) ∧ ∃ a_6 : Nat, rM M a0 1 = some a_6 ∧ kM M a_6 = (1, 5) ∧ T_X1_owner M a_6 i2 i1 (fun r_7 => kM M a_5 = (1, 5) ∧ T_X1_ring M a_5 r_7 (fun r_8 => kM M r_4 = (5, 2) ∧ T_X5_length M r_4 (fun r_9 => kM M r_8 = (5, 2) ∧ T_X5_length M r_8 (fun r_10 => (((r_9 + r_10) - 2) ≤ 12 → K57 i1 i2 r_4 r_8 0) ∧ (¬ ((r_9 + r_10) - 2) ≤ 12 → Q 0)))))))
theorem inX8_joinFits_X8 : ∀ w ∈ wsX80, w ∈ wsX8_joinFits := by decide +kernel
set_option maxRecDepth 100000 in
set_option maxHeartbeats 4000000 in
theorem b_X8_joinFits_57 {p : Program} {l : Launch} {e : Env} {s : State} {m : MethodId} {args : Array Value} {below : List Frame} {meth : Method} {c : Code} {D : va_G} {cA : Nat → ClassId} {lo : Nat} (C : Cx p s m args c cX8_joinFits 7 RX8 wsX8_joinFits D cA lo) (hr : meth.sig.returnType = (some .boolean)) (hlk : meth.locks = false) {Q : Int32 → Prop} {M : Mm} (i1 : Int32) (i2 : Int32) (a3 : Nat) (a4 : Nat) (i5 : Int32) (h : S_X8_joinFits_57 (fun (i1 : Int32) (i2 : Int32) (a3 : Nat) (a4 : Nat) (i5 : Int32) => QW p l e ({ frames := 1, cells := 0, slots := 0, locals := 22 } : Room) s m args below meth c (MQ below (QiM D cA lo (fun r M1 => M1 = M ∧ Q r)) args s 0 0 (fun q => lo ≤ q)) 7 D cA lo 0 0 M 57 [(1, .int i1), (2, .int i2), (3, .ref a3), (4, .ref a4), (5, .int i5)] []) Q M i1 i2 a3 a4 i5) : QW p l e ({ frames := 1, cells := 0, slots := 0, locals := 22 } : Room) s m args below meth c (MQ below (QiM D cA lo (fun r M1 => M1 = M ∧ Q r)) args s 0 0 (fun q => lo ≤ q)) 7 D cA lo 0 0 M 57 [(1, .int i1), (2, .int i2), (3, .ref a3), (4, .ref a4), (5, .int i5)] [] := by
  unfold S_X8_joinFits_57 at h
  refine q_iload C dX8_joinFits_57 (j := 4) rfl ?_
  refine q_aload C dX8_joinFits_59 (j := 3) rfl ?_
  refine q_ci (q_runV (As := []) (st := [.int i5]) C (c_X5_length l D cA lo h.2) (cwV 0 C.2.2.2.2.1 gX8_joinFits_X5_length rfl rfl rfl (by decide +kernel) ⟨Nat.le_of_ble_eq_true rfl, Nat.le_of_ble_eq_true rfl⟩) h.1 (by decide) rfl rfl rfl (Nat.le_of_ble_eq_true rfl) dX8_joinFits_61 ⟨Nat.le_of_ble_eq_true rfl, Nat.le_of_ble_eq_true rfl⟩) (fun r_11 M_z h => ?_)
  refine q_mem h.1 ?_
  have h := h.2
  refine q_icmp_ge (tgt := 106) C dX8_joinFits_64 (by decide) (fun z => ?_) (fun z => ?_)
  · have h := h.1 z
    refine q_iconst (v := 1) C dX8_joinFits_106 (by decide) ?_
    exact q_zret C hr hlk dX8_joinFits_107 (Nat.le_of_ble_eq_true rfl) (Nat.le_of_ble_eq_true rfl) (Or.inr rfl) ⟨rfl, h⟩
  · have h := h.2 z
    refine q_aload C dX8_joinFits_67 (j := 3) rfl ?_
    refine q_iload C dX8_joinFits_69 (j := 4) rfl ?_
    refine q_ci (q_runV (As := [.int i5]) (st := []) C (c_X5_get l D cA lo h.2) (cwV 1 C.2.2.2.2.1 gX8_joinFits_X5_get rfl rfl rfl (by decide +kernel) ⟨Nat.le_of_ble_eq_true rfl, Nat.le_of_ble_eq_true rfl⟩) h.1 (by decide) rfl rfl rfl (Nat.le_of_ble_eq_true rfl) dX8_joinFits_71 ⟨Nat.le_of_ble_eq_true rfl, Nat.le_of_ble_eq_true rfl⟩) (fun r_12 M_z h => ?_)
    refine q_mem h.1 ?_
    have h := h.2
    refine q_istore (lv' := [(6, .int r_12), (1, .int i1), (2, .int i2), (3, .ref a3), (4, .ref a4), (5, .int i5)]) C dX8_joinFits_74 (by decide) rfl ?_
    refine q_iload C dX8_joinFits_76 (j := 0) rfl ?_
    refine q_iload_n C dX8_joinFits_78 rfl (j := 1) rfl ?_
    refine q_icmp_eq (tgt := 100) C dX8_joinFits_79 (by decide) (fun z => ?_) (fun z => ?_)
    · have h := h.1 z
      refine q_iinc (v := (i5 + 1)) (lv' := [(5, .int (i5 + 1)), (6, .int r_12), (1, .int i1), (2, .int i2), (3, .ref a3), (4, .ref a4)]) C dX8_joinFits_100 (j := 5) rfl rfl (by decide) rfl ?_
      refine q_goto (tgt := 57) C dX8_joinFits_103 (by decide) ?_
      exact q_sub [2, 3, 4, 5, 0] rfl h
    · have h := h.2 z
      refine q_iload C dX8_joinFits_82 (j := 0) rfl ?_
      refine q_iload_n C dX8_joinFits_84 rfl (j := 2) rfl ?_
      refine q_icmp_eq (tgt := 100) C dX8_joinFits_85 (by decide) (fun z => ?_) (fun z => ?_)
      · have h := h.1 z
        refine q_iinc (v := (i5 + 1)) (lv' := [(5, .int (i5 + 1)), (6, .int r_12), (1, .int i1), (2, .int i2), (3, .ref a3), (4, .ref a4)]) C dX8_joinFits_100 (j := 5) rfl rfl (by decide) rfl ?_
        refine q_goto (tgt := 57) C dX8_joinFits_103 (by decide) ?_
        exact q_sub [2, 3, 4, 5, 0] rfl h
      · have h := h.2 z
        refine q_aload_n C dX8_joinFits_88 rfl (j := 3) rfl ?_
        refine q_iload C dX8_joinFits_89 (j := 0) rfl ?_
        refine q_ci (q_runV (As := [.int r_12]) (st := []) C (c_X5_placeOf l D cA lo h.2) (cwV 1 C.2.2.2.2.1 gX8_joinFits_X5_placeOf rfl rfl rfl (by decide +kernel) ⟨Nat.le_of_ble_eq_true rfl, Nat.le_of_ble_eq_true rfl⟩) h.1 (by decide) rfl rfl rfl (Nat.le_of_ble_eq_true rfl) dX8_joinFits_91 ⟨Nat.le_of_ble_eq_true rfl, Nat.le_of_ble_eq_true rfl⟩) (fun r_13 M_z h => ?_)
        refine q_mem h.1 ?_
        have h := h.2
        refine q_iconst (v := (-1)) C dX8_joinFits_94 (by decide) ?_
        refine q_icmp_eq (tgt := 100) C dX8_joinFits_95 (by decide) (fun z => ?_) (fun z => ?_)
        · have h := h.1 z
          refine q_iinc (v := (i5 + 1)) (lv' := [(5, .int (i5 + 1)), (6, .int r_12), (1, .int i1), (2, .int i2), (3, .ref a3), (4, .ref a4)]) C dX8_joinFits_100 (j := 5) rfl rfl (by decide) rfl ?_
          refine q_goto (tgt := 57) C dX8_joinFits_103 (by decide) ?_
          exact q_sub [2, 3, 4, 5, 0] rfl h
        · have h := h.2 z
          refine q_iconst (v := 0) C dX8_joinFits_98 (by decide) ?_
          exact q_zret C hr hlk dX8_joinFits_99 (Nat.le_of_ble_eq_true rfl) (Nat.le_of_ble_eq_true rfl) (Or.inl rfl) ⟨rfl, h⟩
set_option maxRecDepth 100000 in
set_option maxHeartbeats 4000000 in
theorem c_X8_joinFits (l : Launch) (D : va_G) (cA : Nat → ClassId) (lo : Nat) {M : Mm} {a0 : Nat} {i1 : Int32} {i2 : Int32} {Q : Int32 → Prop} (h : T_X8_joinFits M a0 i1 i2 Q) : Met l yX8_joinFits wsX8_joinFits ({ frames := 1, cells := 0, slots := 0, locals := 22 } : Room) (PcM D cA lo [.ref a0, .int i1, .int i2] M) (QiM D cA lo (fun r M1 => M1 = M ∧ Q r)) 0 0 (fun q => lo ≤ q) := by
  refine q_start (cc := cX8_joinFits) (nL := 7) (ret := (some .boolean)) (by decide) rfl rfl (Nat.le_of_ble_eq_true rfl) ?_
  intro p e s m args below meth c C hr hlk hin
  unfold T_X8_joinFits at h
  have h := h (fun (i1 : Int32) (i2 : Int32) (a3 : Nat) (a4 : Nat) (i5 : Int32) => QW p l e ({ frames := 1, cells := 0, slots := 0, locals := 22 } : Room) s m args below meth c (MQ below (QiM D cA lo (fun r M1 => M1 = M ∧ Q r)) args s 0 0 (fun q => lo ≤ q)) 7 D cA lo 0 0 M 57 [(1, .int i1), (2, .int i2), (3, .ref a3), (4, .ref a4), (5, .int i5)] []) (fun i1 i2 a3 a4 i5 h => b_X8_joinFits_57 C hr hlk i1 i2 a3 a4 i5 h)
  refine q_aload_n C dX8_joinFits_0 rfl (j := 0) rfl ?_
  refine q_getR (ci := 8) (k0 := 1) (T := TX8) C inX8_joinFits_X8 rfl (by decide) h.1 (by decide) rfl (by decide +kernel) rfl dX8_joinFits_1 ?_
  obtain ⟨a_1, z, h⟩ := h.2
  refine q_ref z ?_
  refine q_aload_n C dX8_joinFits_4 rfl (j := 0) rfl ?_
  refine q_getR (ci := 8) (k0 := 1) (T := TX8) C inX8_joinFits_X8 rfl (by decide) h.1 (by decide) rfl (by decide +kernel) rfl dX8_joinFits_5 ?_
  obtain ⟨a_2, z, h⟩ := h.2
  refine q_ref z ?_
  refine q_iload_n C dX8_joinFits_8 rfl (j := 1) rfl ?_
  refine q_iload_n C dX8_joinFits_9 rfl (j := 2) rfl ?_
  refine q_ci (q_runV (As := [.int i1, .int i2]) (st := [.ref a_1]) C (c_X1_owner l D cA lo h.2) (cwV 2 C.2.2.2.2.1 gX8_joinFits_X1_owner rfl rfl rfl (by decide +kernel) ⟨Nat.le_of_ble_eq_true rfl, Nat.le_of_ble_eq_true rfl⟩) h.1 (by decide) rfl rfl rfl (Nat.le_of_ble_eq_true rfl) dX8_joinFits_10 ⟨Nat.le_of_ble_eq_true rfl, Nat.le_of_ble_eq_true rfl⟩) (fun r_3 M_z h => ?_)
  refine q_mem h.1 ?_
  have h := h.2
  refine q_cr (q_runV (As := [.int r_3]) (st := []) C (c_X1_ring l D cA lo h.2) (cwV 1 C.2.2.2.2.1 gX8_joinFits_X1_ring rfl rfl rfl (by decide +kernel) ⟨Nat.le_of_ble_eq_true rfl, Nat.le_of_ble_eq_true rfl⟩) h.1 (by decide) rfl rfl rfl (Nat.le_of_ble_eq_true rfl) dX8_joinFits_13 ⟨Nat.le_of_ble_eq_true rfl, Nat.le_of_ble_eq_true rfl⟩) (fun r_4 M_z h => ?_)
  refine q_mem h.1 ?_
  have h := h.2
  refine q_astore_n (lv' := [(3, .ref r_4), (0, .ref a0), (1, .int i1), (2, .int i2)]) C dX8_joinFits_16 rfl (by decide) rfl ?_
  refine q_aload_n C dX8_joinFits_17 rfl (j := 1) rfl ?_
  refine q_getR (ci := 8) (k0 := 1) (T := TX8) C inX8_joinFits_X8 rfl (by decide) h.1 (by decide) rfl (by decide +kernel) rfl dX8_joinFits_18 ?_
  obtain ⟨a_5, z, h⟩ := h.2
  refine q_ref z ?_
  refine q_aload_n C dX8_joinFits_21 rfl (j := 1) rfl ?_
  refine q_getR (ci := 8) (k0 := 1) (T := TX8) C inX8_joinFits_X8 rfl (by decide) h.1 (by decide) rfl (by decide +kernel) rfl dX8_joinFits_22 ?_
  obtain ⟨a_6, z, h⟩ := h.2
  refine q_ref z ?_
  refine q_iload_n C dX8_joinFits_25 rfl (j := 3) rfl ?_
  refine q_iload_n C dX8_joinFits_26 rfl (j := 2) rfl ?_
  refine q_ci (q_runV (As := [.int i2, .int i1]) (st := [.ref a_5]) C (c_X1_owner l D cA lo h.2) (cwV 2 C.2.2.2.2.1 gX8_joinFits_X1_owner rfl rfl rfl (by decide +kernel) ⟨Nat.le_of_ble_eq_true rfl, Nat.le_of_ble_eq_true rfl⟩) h.1 (by decide) rfl rfl rfl (Nat.le_of_ble_eq_true rfl) dX8_joinFits_27 ⟨Nat.le_of_ble_eq_true rfl, Nat.le_of_ble_eq_true rfl⟩) (fun r_7 M_z h => ?_)
  refine q_mem h.1 ?_
  have h := h.2
  refine q_cr (q_runV (As := [.int r_7]) (st := []) C (c_X1_ring l D cA lo h.2) (cwV 1 C.2.2.2.2.1 gX8_joinFits_X1_ring rfl rfl rfl (by decide +kernel) ⟨Nat.le_of_ble_eq_true rfl, Nat.le_of_ble_eq_true rfl⟩) h.1 (by decide) rfl rfl rfl (Nat.le_of_ble_eq_true rfl) dX8_joinFits_30 ⟨Nat.le_of_ble_eq_true rfl, Nat.le_of_ble_eq_true rfl⟩) (fun r_8 M_z h => ?_)
  refine q_mem h.1 ?_
  have h := h.2
  refine q_astore (lv' := [(4, .ref r_8), (3, .ref r_4), (0, .ref a0), (1, .int i1), (2, .int i2)]) C dX8_joinFits_33 (by decide) rfl ?_
  refine q_aload_n C dX8_joinFits_35 rfl (j := 1) rfl ?_
  refine q_ci (q_runV (As := []) (st := []) C (c_X5_length l D cA lo h.2) (cwV 0 C.2.2.2.2.1 gX8_joinFits_X5_length rfl rfl rfl (by decide +kernel) ⟨Nat.le_of_ble_eq_true rfl, Nat.le_of_ble_eq_true rfl⟩) h.1 (by decide) rfl rfl rfl (Nat.le_of_ble_eq_true rfl) dX8_joinFits_36 ⟨Nat.le_of_ble_eq_true rfl, Nat.le_of_ble_eq_true rfl⟩) (fun r_9 M_z h => ?_)
  refine q_mem h.1 ?_
  have h := h.2
  refine q_aload C dX8_joinFits_39 (j := 0) rfl ?_
  refine q_ci (q_runV (As := []) (st := [.int r_9]) C (c_X5_length l D cA lo h.2) (cwV 0 C.2.2.2.2.1 gX8_joinFits_X5_length rfl rfl rfl (by decide +kernel) ⟨Nat.le_of_ble_eq_true rfl, Nat.le_of_ble_eq_true rfl⟩) h.1 (by decide) rfl rfl rfl (Nat.le_of_ble_eq_true rfl) dX8_joinFits_41 ⟨Nat.le_of_ble_eq_true rfl, Nat.le_of_ble_eq_true rfl⟩) (fun r_10 M_z h => ?_)
  refine q_mem h.1 ?_
  have h := h.2
  refine q_iadd C dX8_joinFits_44 ?_
  refine q_iconst (v := 2) C dX8_joinFits_45 (by decide) ?_
  refine q_isub C dX8_joinFits_46 ?_
  refine q_bipush (v := 12) C dX8_joinFits_47 (by decide) ?_
  refine q_icmp_le (tgt := 54) C dX8_joinFits_49 (by decide) (fun z => ?_) (fun z => ?_)
  · have h := h.1 z
    refine q_iconst (v := 0) C dX8_joinFits_54 (by decide) ?_
    refine q_istore (lv' := [(5, .int 0), (4, .ref r_8), (3, .ref r_4), (0, .ref a0), (1, .int i1), (2, .int i2)]) C dX8_joinFits_55 (by decide) rfl ?_
    exact q_sub [4, 5, 2, 1, 0] rfl h
  · have h := h.2 z
    refine q_iconst (v := 0) C dX8_joinFits_52 (by decide) ?_
    exact q_zret C hr hlk dX8_joinFits_53 (Nat.le_of_ble_eq_true rfl) (Nat.le_of_ble_eq_true rfl) (Or.inl rfl) ⟨rfl, h⟩
def T_X8_isBetweenTriangles (M : Mm) (a0 : Nat) (i1 : Int32) (i2 : Int32) (Q : Int32 → Prop) : Prop := kM M a0 = (8, 8) ∧ ∃ a_1 : Nat, rM M a0 1 = some a_1 ∧ kM M a0 = (8, 8) ∧ ∃ a_2 : Nat, rM M a0 1 = some a_2 ∧ kM M a_2 = (1, 5) ∧ T_X1_owner M a_2 i1 i2 (fun r_3 => kM M a_1 = (1, 5) ∧ T_X1_ring M a_1 r_3 (fun r_4 => kM M r_4 = (5, 2) ∧ T_X5_length M r_4 (fun r_5 => (¬ r_5 = 3 → Q 0) ∧ (r_5 = 3 → kM M a0 = (8, 8) ∧ ∃ a_6 : Nat, rM M a0 1 = some a_6 ∧ kM M a0 = (8, 8) ∧ ∃ a_7 : Nat, rM M a0 1 = some a_7 ∧ kM M a_7 = (1, 5) ∧ T_X1_owner M a_7 i2 i1 (fun r_8 => kM M a_6 = (1, 5) ∧ T_X1_ring M a_6 r_8 (fun r_9 => kM M r_9 = (5, 2) ∧ T_X5_length M r_9 (fun r_10 => (¬ r_10 = 3 → Q 0) ∧ (r_10 = 3 → Q 1))))))))
theorem inX8_isBetweenTriangles_X8 : ∀ w ∈ wsX80, w ∈ wsX8_isBetweenTriangles := by decide +kernel
set_option maxRecDepth 100000 in
set_option maxHeartbeats 4000000 in
theorem c_X8_isBetweenTriangles (l : Launch) (D : va_G) (cA : Nat → ClassId) (lo : Nat) {M : Mm} {a0 : Nat} {i1 : Int32} {i2 : Int32} {Q : Int32 → Prop} (h : T_X8_isBetweenTriangles M a0 i1 i2 Q) : Met l yX8_isBetweenTriangles wsX8_isBetweenTriangles ({ frames := 1, cells := 0, slots := 0, locals := 22 } : Room) (PcM D cA lo [.ref a0, .int i1, .int i2] M) (QiM D cA lo (fun r M1 => M1 = M ∧ Q r)) 0 0 (fun q => lo ≤ q) := by
  refine q_start (cc := cX8_isBetweenTriangles) (nL := 3) (ret := (some .boolean)) (by decide) rfl rfl (Nat.le_of_ble_eq_true rfl) ?_
  intro p e s m args below meth c C hr hlk hin
  unfold T_X8_isBetweenTriangles at h
  refine q_aload_n C dX8_isBetweenTriangles_0 rfl (j := 0) rfl ?_
  refine q_getR (ci := 8) (k0 := 1) (T := TX8) C inX8_isBetweenTriangles_X8 rfl (by decide) h.1 (by decide) rfl (by decide +kernel) rfl dX8_isBetweenTriangles_1 ?_
  obtain ⟨a_1, z, h⟩ := h.2
  refine q_ref z ?_
  refine q_aload_n C dX8_isBetweenTriangles_4 rfl (j := 0) rfl ?_
  refine q_getR (ci := 8) (k0 := 1) (T := TX8) C inX8_isBetweenTriangles_X8 rfl (by decide) h.1 (by decide) rfl (by decide +kernel) rfl dX8_isBetweenTriangles_5 ?_
  obtain ⟨a_2, z, h⟩ := h.2
  refine q_ref z ?_
  refine q_iload_n C dX8_isBetweenTriangles_8 rfl (j := 1) rfl ?_
  refine q_iload_n C dX8_isBetweenTriangles_9 rfl (j := 2) rfl ?_
  refine q_ci (q_runV (As := [.int i1, .int i2]) (st := [.ref a_1]) C (c_X1_owner l D cA lo h.2) (cwV 2 C.2.2.2.2.1 gX8_isBetweenTriangles_X1_owner rfl rfl rfl (by decide +kernel) ⟨Nat.le_of_ble_eq_true rfl, Nat.le_of_ble_eq_true rfl⟩) h.1 (by decide) rfl rfl rfl (Nat.le_of_ble_eq_true rfl) dX8_isBetweenTriangles_10 ⟨Nat.le_of_ble_eq_true rfl, Nat.le_of_ble_eq_true rfl⟩) (fun r_3 M_z h => ?_)
  refine q_mem h.1 ?_
  have h := h.2
  refine q_cr (q_runV (As := [.int r_3]) (st := []) C (c_X1_ring l D cA lo h.2) (cwV 1 C.2.2.2.2.1 gX8_isBetweenTriangles_X1_ring rfl rfl rfl (by decide +kernel) ⟨Nat.le_of_ble_eq_true rfl, Nat.le_of_ble_eq_true rfl⟩) h.1 (by decide) rfl rfl rfl (Nat.le_of_ble_eq_true rfl) dX8_isBetweenTriangles_13 ⟨Nat.le_of_ble_eq_true rfl, Nat.le_of_ble_eq_true rfl⟩) (fun r_4 M_z h => ?_)
  refine q_mem h.1 ?_
  have h := h.2
  refine q_ci (q_runV (As := []) (st := []) C (c_X5_length l D cA lo h.2) (cwV 0 C.2.2.2.2.1 gX8_isBetweenTriangles_X5_length rfl rfl rfl (by decide +kernel) ⟨Nat.le_of_ble_eq_true rfl, Nat.le_of_ble_eq_true rfl⟩) h.1 (by decide) rfl rfl rfl (Nat.le_of_ble_eq_true rfl) dX8_isBetweenTriangles_16 ⟨Nat.le_of_ble_eq_true rfl, Nat.le_of_ble_eq_true rfl⟩) (fun r_5 M_z h => ?_)
  refine q_mem h.1 ?_
  have h := h.2
  refine q_iconst (v := 3) C dX8_isBetweenTriangles_19 (by decide) ?_
  refine q_icmp_ne (tgt := 50) C dX8_isBetweenTriangles_20 (by decide) (fun z => ?_) (fun z => ?_)
  · have h := h.1 z
    refine q_iconst (v := 0) C dX8_isBetweenTriangles_50 (by decide) ?_
    exact q_zret C hr hlk dX8_isBetweenTriangles_51 (Nat.le_of_ble_eq_true rfl) (Nat.le_of_ble_eq_true rfl) (Or.inl rfl) ⟨rfl, h⟩
  · have h := h.2 z
    refine q_aload_n C dX8_isBetweenTriangles_23 rfl (j := 0) rfl ?_
    refine q_getR (ci := 8) (k0 := 1) (T := TX8) C inX8_isBetweenTriangles_X8 rfl (by decide) h.1 (by decide) rfl (by decide +kernel) rfl dX8_isBetweenTriangles_24 ?_
    obtain ⟨a_6, z, h⟩ := h.2
    refine q_ref z ?_
    refine q_aload_n C dX8_isBetweenTriangles_27 rfl (j := 0) rfl ?_
    refine q_getR (ci := 8) (k0 := 1) (T := TX8) C inX8_isBetweenTriangles_X8 rfl (by decide) h.1 (by decide) rfl (by decide +kernel) rfl dX8_isBetweenTriangles_28 ?_
    obtain ⟨a_7, z, h⟩ := h.2
    refine q_ref z ?_
    refine q_iload_n C dX8_isBetweenTriangles_31 rfl (j := 2) rfl ?_
    refine q_iload_n C dX8_isBetweenTriangles_32 rfl (j := 1) rfl ?_
    refine q_ci (q_runV (As := [.int i2, .int i1]) (st := [.ref a_6]) C (c_X1_owner l D cA lo h.2) (cwV 2 C.2.2.2.2.1 gX8_isBetweenTriangles_X1_owner rfl rfl rfl (by decide +kernel) ⟨Nat.le_of_ble_eq_true rfl, Nat.le_of_ble_eq_true rfl⟩) h.1 (by decide) rfl rfl rfl (Nat.le_of_ble_eq_true rfl) dX8_isBetweenTriangles_33 ⟨Nat.le_of_ble_eq_true rfl, Nat.le_of_ble_eq_true rfl⟩) (fun r_8 M_z h => ?_)
    refine q_mem h.1 ?_
    have h := h.2
    refine q_cr (q_runV (As := [.int r_8]) (st := []) C (c_X1_ring l D cA lo h.2) (cwV 1 C.2.2.2.2.1 gX8_isBetweenTriangles_X1_ring rfl rfl rfl (by decide +kernel) ⟨Nat.le_of_ble_eq_true rfl, Nat.le_of_ble_eq_true rfl⟩) h.1 (by decide) rfl rfl rfl (Nat.le_of_ble_eq_true rfl) dX8_isBetweenTriangles_36 ⟨Nat.le_of_ble_eq_true rfl, Nat.le_of_ble_eq_true rfl⟩) (fun r_9 M_z h => ?_)
    refine q_mem h.1 ?_
    have h := h.2
    refine q_ci (q_runV (As := []) (st := []) C (c_X5_length l D cA lo h.2) (cwV 0 C.2.2.2.2.1 gX8_isBetweenTriangles_X5_length rfl rfl rfl (by decide +kernel) ⟨Nat.le_of_ble_eq_true rfl, Nat.le_of_ble_eq_true rfl⟩) h.1 (by decide) rfl rfl rfl (Nat.le_of_ble_eq_true rfl) dX8_isBetweenTriangles_39 ⟨Nat.le_of_ble_eq_true rfl, Nat.le_of_ble_eq_true rfl⟩) (fun r_10 M_z h => ?_)
    refine q_mem h.1 ?_
    have h := h.2
    refine q_iconst (v := 3) C dX8_isBetweenTriangles_42 (by decide) ?_
    refine q_icmp_ne (tgt := 50) C dX8_isBetweenTriangles_43 (by decide) (fun z => ?_) (fun z => ?_)
    · have h := h.1 z
      refine q_iconst (v := 0) C dX8_isBetweenTriangles_50 (by decide) ?_
      exact q_zret C hr hlk dX8_isBetweenTriangles_51 (Nat.le_of_ble_eq_true rfl) (Nat.le_of_ble_eq_true rfl) (Or.inl rfl) ⟨rfl, h⟩
    · have h := h.2 z
      refine q_iconst (v := 1) C dX8_isBetweenTriangles_46 (by decide) ?_
      refine q_goto (tgt := 51) C dX8_isBetweenTriangles_47 (by decide) ?_
      exact q_zret C hr hlk dX8_isBetweenTriangles_51 (Nat.le_of_ble_eq_true rfl) (Nat.le_of_ble_eq_true rfl) (Or.inr rfl) ⟨rfl, h⟩
def T_X8_flipFits (M : Mm) (a0 : Nat) (i1 : Int32) (i2 : Int32) (Q : Int32 → Prop) : Prop := kM M a0 = (8, 8) ∧ ∃ a_1 : Nat, rM M a0 1 = some a_1 ∧ kM M a0 = (8, 8) ∧ ∃ a_2 : Nat, rM M a0 1 = some a_2 ∧ kM M a_2 = (1, 5) ∧ T_X1_owner M a_2 i1 i2 (fun r_3 => kM M a_1 = (1, 5) ∧ T_X1_after M a_1 r_3 i2 (fun r_4 => kM M a0 = (8, 8) ∧ ∃ a_5 : Nat, rM M a0 1 = some a_5 ∧ kM M a0 = (8, 8) ∧ ∃ a_6 : Nat, rM M a0 1 = some a_6 ∧ kM M a_6 = (1, 5) ∧ T_X1_owner M a_6 i2 i1 (fun r_7 => kM M a_5 = (1, 5) ∧ T_X1_after M a_5 r_7 i1 (fun r_8 => (r_4 = r_8 → Q 0) ∧ (¬ r_4 = r_8 → kM M a0 = (8, 8) ∧ ∃ a_9 : Nat, rM M a0 1 = some a_9 ∧ kM M a_9 = (1, 5) ∧ T_X1_isEdge M a_9 r_4 r_8 (fun r_10 => (¬ r_10 = 0 → Q 0) ∧ (r_10 = 0 → Q 1)))))))
theorem inX8_flipFits_X8 : ∀ w ∈ wsX80, w ∈ wsX8_flipFits := by decide +kernel
set_option maxRecDepth 100000 in
set_option maxHeartbeats 4000000 in
theorem c_X8_flipFits (l : Launch) (D : va_G) (cA : Nat → ClassId) (lo : Nat) {M : Mm} {a0 : Nat} {i1 : Int32} {i2 : Int32} {Q : Int32 → Prop} (h : T_X8_flipFits M a0 i1 i2 Q) : Met l yX8_flipFits wsX8_flipFits ({ frames := 2, cells := 0, slots := 0, locals := 45 } : Room) (PcM D cA lo [.ref a0, .int i1, .int i2] M) (QiM D cA lo (fun r M1 => M1 = M ∧ Q r)) 0 0 (fun q => lo ≤ q) := by
  refine q_start (cc := cX8_flipFits) (nL := 5) (ret := (some .boolean)) (by decide) rfl rfl (Nat.le_of_ble_eq_true rfl) ?_
  intro p e s m args below meth c C hr hlk hin
  unfold T_X8_flipFits at h
  refine q_aload_n C dX8_flipFits_0 rfl (j := 0) rfl ?_
  refine q_getR (ci := 8) (k0 := 1) (T := TX8) C inX8_flipFits_X8 rfl (by decide) h.1 (by decide) rfl (by decide +kernel) rfl dX8_flipFits_1 ?_
  obtain ⟨a_1, z, h⟩ := h.2
  refine q_ref z ?_
  refine q_aload_n C dX8_flipFits_4 rfl (j := 0) rfl ?_
  refine q_getR (ci := 8) (k0 := 1) (T := TX8) C inX8_flipFits_X8 rfl (by decide) h.1 (by decide) rfl (by decide +kernel) rfl dX8_flipFits_5 ?_
  obtain ⟨a_2, z, h⟩ := h.2
  refine q_ref z ?_
  refine q_iload_n C dX8_flipFits_8 rfl (j := 1) rfl ?_
  refine q_iload_n C dX8_flipFits_9 rfl (j := 2) rfl ?_
  refine q_ci (q_runV (As := [.int i1, .int i2]) (st := [.ref a_1]) C (c_X1_owner l D cA lo h.2) (cwV 2 C.2.2.2.2.1 gX8_flipFits_X1_owner rfl rfl rfl (by decide +kernel) ⟨Nat.le_of_ble_eq_true rfl, Nat.le_of_ble_eq_true rfl⟩) h.1 (by decide) rfl rfl rfl (Nat.le_of_ble_eq_true rfl) dX8_flipFits_10 ⟨Nat.le_of_ble_eq_true rfl, Nat.le_of_ble_eq_true rfl⟩) (fun r_3 M_z h => ?_)
  refine q_mem h.1 ?_
  have h := h.2
  refine q_iload_n C dX8_flipFits_13 rfl (j := 2) rfl ?_
  refine q_ci (q_runV (As := [.int r_3, .int i2]) (st := []) C (c_X1_after l D cA lo h.2) (cwV 2 C.2.2.2.2.1 gX8_flipFits_X1_after rfl rfl rfl (by decide +kernel) ⟨Nat.le_of_ble_eq_true rfl, Nat.le_of_ble_eq_true rfl⟩) h.1 (by decide) rfl rfl rfl (Nat.le_of_ble_eq_true rfl) dX8_flipFits_14 ⟨Nat.le_of_ble_eq_true rfl, Nat.le_of_ble_eq_true rfl⟩) (fun r_4 M_z h => ?_)
  refine q_mem h.1 ?_
  have h := h.2
  refine q_istore_n (lv' := [(3, .int r_4), (0, .ref a0), (1, .int i1), (2, .int i2)]) C dX8_flipFits_17 rfl (by decide) rfl ?_
  refine q_aload_n C dX8_flipFits_18 rfl (j := 1) rfl ?_
  refine q_getR (ci := 8) (k0 := 1) (T := TX8) C inX8_flipFits_X8 rfl (by decide) h.1 (by decide) rfl (by decide +kernel) rfl dX8_flipFits_19 ?_
  obtain ⟨a_5, z, h⟩ := h.2
  refine q_ref z ?_
  refine q_aload_n C dX8_flipFits_22 rfl (j := 1) rfl ?_
  refine q_getR (ci := 8) (k0 := 1) (T := TX8) C inX8_flipFits_X8 rfl (by decide) h.1 (by decide) rfl (by decide +kernel) rfl dX8_flipFits_23 ?_
  obtain ⟨a_6, z, h⟩ := h.2
  refine q_ref z ?_
  refine q_iload_n C dX8_flipFits_26 rfl (j := 3) rfl ?_
  refine q_iload_n C dX8_flipFits_27 rfl (j := 2) rfl ?_
  refine q_ci (q_runV (As := [.int i2, .int i1]) (st := [.ref a_5]) C (c_X1_owner l D cA lo h.2) (cwV 2 C.2.2.2.2.1 gX8_flipFits_X1_owner rfl rfl rfl (by decide +kernel) ⟨Nat.le_of_ble_eq_true rfl, Nat.le_of_ble_eq_true rfl⟩) h.1 (by decide) rfl rfl rfl (Nat.le_of_ble_eq_true rfl) dX8_flipFits_28 ⟨Nat.le_of_ble_eq_true rfl, Nat.le_of_ble_eq_true rfl⟩) (fun r_7 M_z h => ?_)
  refine q_mem h.1 ?_
  have h := h.2
  refine q_iload_n C dX8_flipFits_31 rfl (j := 2) rfl ?_
  refine q_ci (q_runV (As := [.int r_7, .int i1]) (st := []) C (c_X1_after l D cA lo h.2) (cwV 2 C.2.2.2.2.1 gX8_flipFits_X1_after rfl rfl rfl (by decide +kernel) ⟨Nat.le_of_ble_eq_true rfl, Nat.le_of_ble_eq_true rfl⟩) h.1 (by decide) rfl rfl rfl (Nat.le_of_ble_eq_true rfl) dX8_flipFits_32 ⟨Nat.le_of_ble_eq_true rfl, Nat.le_of_ble_eq_true rfl⟩) (fun r_8 M_z h => ?_)
  refine q_mem h.1 ?_
  have h := h.2
  refine q_istore (lv' := [(4, .int r_8), (3, .int r_4), (0, .ref a0), (1, .int i1), (2, .int i2)]) C dX8_flipFits_35 (by decide) rfl ?_
  refine q_iload_n C dX8_flipFits_37 rfl (j := 1) rfl ?_
  refine q_iload C dX8_flipFits_38 (j := 0) rfl ?_
  refine q_icmp_eq (tgt := 60) C dX8_flipFits_40 (by decide) (fun z => ?_) (fun z => ?_)
  · have h := h.1 z
    refine q_iconst (v := 0) C dX8_flipFits_60 (by decide) ?_
    exact q_zret C hr hlk dX8_flipFits_61 (Nat.le_of_ble_eq_true rfl) (Nat.le_of_ble_eq_true rfl) (Or.inl rfl) ⟨rfl, h⟩
  · have h := h.2 z
    refine q_aload_n C dX8_flipFits_43 rfl (j := 2) rfl ?_
    refine q_getR (ci := 8) (k0 := 1) (T := TX8) C inX8_flipFits_X8 rfl (by decide) h.1 (by decide) rfl (by decide +kernel) rfl dX8_flipFits_44 ?_
    obtain ⟨a_9, z, h⟩ := h.2
    refine q_ref z ?_
    refine q_iload_n C dX8_flipFits_47 rfl (j := 1) rfl ?_
    refine q_iload C dX8_flipFits_48 (j := 0) rfl ?_
    refine q_ci (q_runV (As := [.int r_4, .int r_8]) (st := []) C (c_X1_isEdge l D cA lo h.2) (cwV 2 C.2.2.2.2.1 gX8_flipFits_X1_isEdge rfl rfl rfl (by decide +kernel) ⟨Nat.le_of_ble_eq_true rfl, Nat.le_of_ble_eq_true rfl⟩) h.1 (by decide) rfl rfl rfl (Nat.le_of_ble_eq_true rfl) dX8_flipFits_50 ⟨Nat.le_of_ble_eq_true rfl, Nat.le_of_ble_eq_true rfl⟩) (fun r_10 M_z h => ?_)
    refine q_mem h.1 ?_
    have h := h.2
    refine q_if_ne (tgt := 60) C dX8_flipFits_53 (by decide) (fun z => ?_) (fun z => ?_)
    · have h := h.1 z
      refine q_iconst (v := 0) C dX8_flipFits_60 (by decide) ?_
      exact q_zret C hr hlk dX8_flipFits_61 (Nat.le_of_ble_eq_true rfl) (Nat.le_of_ble_eq_true rfl) (Or.inl rfl) ⟨rfl, h⟩
    · have h := h.2 z
      refine q_iconst (v := 1) C dX8_flipFits_56 (by decide) ?_
      refine q_goto (tgt := 61) C dX8_flipFits_57 (by decide) ?_
      exact q_zret C hr hlk dX8_flipFits_61 (Nat.le_of_ble_eq_true rfl) (Nat.le_of_ble_eq_true rfl) (Or.inr rfl) ⟨rfl, h⟩
def S_X8_canShift_3 (K3 : Nat → Nat → Int32 → Int32 → Int32 → Prop) (Q : Int32 → Prop) (M : Mm) (a0 : Nat) (a1 : Nat) (i2 : Int32) (i3 : Int32) (i4 : Int32) : Prop := kM M a1 = (5, 2) ∧ T_X5_length M a1 (fun r_1 => (r_1 ≤ i4 → Q 1) ∧ (¬ r_1 ≤ i4 → kM M a0 = (8, 8) ∧ ∃ a_2 : Nat, rM M a0 0 = some a_2 ∧ kM M a1 = (5, 2) ∧ T_X5_get M a1 i4 (fun r_3 => kM M a_2 = (3, 4) ∧ T_X3_get M a_2 r_3 i2 (fun r_4 => T_X8_isInReach M (r_4.toInt64 + i3.toInt64) (fun r_5 => (¬ r_5 = 0 → K3 a0 a1 i2 i3 (i4 + 1)) ∧ (r_5 = 0 → Q 0))))))
def T_X8_canShift (M : Mm) (a0 : Nat) (a1 : Nat) (i2 : Int32) (i3 : Int32) (Q : Int32 → Prop) : Prop := ∀ (K3 : Nat → Nat → Int32 → Int32 → Int32 → Prop), (∀ (a0 : Nat) (a1 : Nat) (i2 : Int32) (i3 : Int32) (i4 : Int32), S_X8_canShift_3 K3 Q M a0 a1 i2 i3 i4 → K3 a0 a1 i2 i3 i4) → K3 a0 a1 i2 i3 0
theorem inX8_canShift_X8 : ∀ w ∈ wsX80, w ∈ wsX8_canShift := by decide +kernel
set_option maxRecDepth 100000 in
set_option maxHeartbeats 4000000 in
theorem b_X8_canShift_3 {p : Program} {l : Launch} {e : Env} {s : State} {m : MethodId} {args : Array Value} {below : List Frame} {meth : Method} {c : Code} {D : va_G} {cA : Nat → ClassId} {lo : Nat} (C : Cx p s m args c cX8_canShift 5 RX8 wsX8_canShift D cA lo) (hr : meth.sig.returnType = (some .boolean)) (hlk : meth.locks = false) {Q : Int32 → Prop} {M : Mm} (a0 : Nat) (a1 : Nat) (i2 : Int32) (i3 : Int32) (i4 : Int32) (h : S_X8_canShift_3 (fun (a0 : Nat) (a1 : Nat) (i2 : Int32) (i3 : Int32) (i4 : Int32) => QW p l e ({ frames := 2, cells := 0, slots := 0, locals := 42 } : Room) s m args below meth c (MQ below (QiM D cA lo (fun r M1 => M1 = M ∧ Q r)) args s 0 0 (fun q => lo ≤ q)) 5 D cA lo 0 0 M 3 [(0, .ref a0), (1, .ref a1), (2, .int i2), (3, .int i3), (4, .int i4)] []) Q M a0 a1 i2 i3 i4) : QW p l e ({ frames := 2, cells := 0, slots := 0, locals := 42 } : Room) s m args below meth c (MQ below (QiM D cA lo (fun r M1 => M1 = M ∧ Q r)) args s 0 0 (fun q => lo ≤ q)) 5 D cA lo 0 0 M 3 [(0, .ref a0), (1, .ref a1), (2, .int i2), (3, .int i3), (4, .int i4)] [] := by
  unfold S_X8_canShift_3 at h
  refine q_iload C dX8_canShift_3 (j := 4) rfl ?_
  refine q_aload_n C dX8_canShift_5 rfl (j := 1) rfl ?_
  refine q_ci (q_runV (As := []) (st := [.int i4]) C (c_X5_length l D cA lo h.2) (cwV 0 C.2.2.2.2.1 gX8_canShift_X5_length rfl rfl rfl (by decide +kernel) ⟨Nat.le_of_ble_eq_true rfl, Nat.le_of_ble_eq_true rfl⟩) h.1 (by decide) rfl rfl rfl (Nat.le_of_ble_eq_true rfl) dX8_canShift_6 ⟨Nat.le_of_ble_eq_true rfl, Nat.le_of_ble_eq_true rfl⟩) (fun r_1 M_z h => ?_)
  refine q_mem h.1 ?_
  have h := h.2
  refine q_icmp_ge (tgt := 44) C dX8_canShift_9 (by decide) (fun z => ?_) (fun z => ?_)
  · have h := h.1 z
    refine q_iconst (v := 1) C dX8_canShift_44 (by decide) ?_
    exact q_zret C hr hlk dX8_canShift_45 (Nat.le_of_ble_eq_true rfl) (Nat.le_of_ble_eq_true rfl) (Or.inr rfl) ⟨rfl, h⟩
  · have h := h.2 z
    refine q_aload_n C dX8_canShift_12 rfl (j := 0) rfl ?_
    refine q_getR (ci := 8) (k0 := 0) (T := TX8) C inX8_canShift_X8 rfl (by decide) h.1 (by decide) rfl (by decide +kernel) rfl dX8_canShift_13 ?_
    obtain ⟨a_2, z, h⟩ := h.2
    refine q_ref z ?_
    refine q_aload_n C dX8_canShift_16 rfl (j := 1) rfl ?_
    refine q_iload C dX8_canShift_17 (j := 4) rfl ?_
    refine q_ci (q_runV (As := [.int i4]) (st := [.ref a_2]) C (c_X5_get l D cA lo h.2) (cwV 1 C.2.2.2.2.1 gX8_canShift_X5_get rfl rfl rfl (by decide +kernel) ⟨Nat.le_of_ble_eq_true rfl, Nat.le_of_ble_eq_true rfl⟩) h.1 (by decide) rfl rfl rfl (Nat.le_of_ble_eq_true rfl) dX8_canShift_19 ⟨Nat.le_of_ble_eq_true rfl, Nat.le_of_ble_eq_true rfl⟩) (fun r_3 M_z h => ?_)
    refine q_mem h.1 ?_
    have h := h.2
    refine q_iload_n C dX8_canShift_22 rfl (j := 2) rfl ?_
    refine q_ci (q_runV (As := [.int r_3, .int i2]) (st := []) C (c_X3_get l D cA lo h.2) (cwV 2 C.2.2.2.2.1 gX8_canShift_X3_get rfl rfl rfl (by decide +kernel) ⟨Nat.le_of_ble_eq_true rfl, Nat.le_of_ble_eq_true rfl⟩) h.1 (by decide) rfl rfl rfl (Nat.le_of_ble_eq_true rfl) dX8_canShift_23 ⟨Nat.le_of_ble_eq_true rfl, Nat.le_of_ble_eq_true rfl⟩) (fun r_4 M_z h => ?_)
    refine q_mem h.1 ?_
    have h := h.2
    refine q_i2l C dX8_canShift_26 ?_
    refine q_iload_n C dX8_canShift_27 rfl (j := 3) rfl ?_
    refine q_i2l C dX8_canShift_28 ?_
    refine q_ladd C dX8_canShift_29 ?_
    refine q_ci (q_runS (As := [.long (r_4.toInt64 + i3.toInt64)]) (st := []) C (c_X8_isInReach l D cA lo h) (va_cwS 1 C.2.2.2.2.1 gX8_canShift_X8_isInReach rfl rfl rfl (by decide +kernel) ⟨Nat.le_of_ble_eq_true rfl, Nat.le_of_ble_eq_true rfl⟩) rfl rfl (Nat.le_of_ble_eq_true rfl) dX8_canShift_30 ⟨Nat.le_of_ble_eq_true rfl, Nat.le_of_ble_eq_true rfl⟩) (fun r_5 M_z h => ?_)
    refine q_mem h.1 ?_
    have h := h.2
    refine q_if_ne (tgt := 38) C dX8_canShift_33 (by decide) (fun z => ?_) (fun z => ?_)
    · have h := h.1 z
      refine q_iinc (v := (i4 + 1)) (lv' := [(4, .int (i4 + 1)), (0, .ref a0), (1, .ref a1), (2, .int i2), (3, .int i3)]) C dX8_canShift_38 (j := 4) rfl rfl (by decide) rfl ?_
      refine q_goto (tgt := 3) C dX8_canShift_41 (by decide) ?_
      exact q_sub [1, 2, 3, 4, 0] rfl h
    · have h := h.2 z
      refine q_iconst (v := 0) C dX8_canShift_36 (by decide) ?_
      exact q_zret C hr hlk dX8_canShift_37 (Nat.le_of_ble_eq_true rfl) (Nat.le_of_ble_eq_true rfl) (Or.inl rfl) ⟨rfl, h⟩
set_option maxRecDepth 100000 in
set_option maxHeartbeats 4000000 in
theorem c_X8_canShift (l : Launch) (D : va_G) (cA : Nat → ClassId) (lo : Nat) {M : Mm} {a0 : Nat} {a1 : Nat} {i2 : Int32} {i3 : Int32} {Q : Int32 → Prop} (h : T_X8_canShift M a0 a1 i2 i3 Q) : Met l yX8_canShift wsX8_canShift ({ frames := 2, cells := 0, slots := 0, locals := 42 } : Room) (PcM D cA lo [.ref a0, .ref a1, .int i2, .int i3] M) (QiM D cA lo (fun r M1 => M1 = M ∧ Q r)) 0 0 (fun q => lo ≤ q) := by
  refine q_start (cc := cX8_canShift) (nL := 5) (ret := (some .boolean)) (by decide) rfl rfl (Nat.le_of_ble_eq_true rfl) ?_
  intro p e s m args below meth c C hr hlk hin
  unfold T_X8_canShift at h
  have h := h (fun (a0 : Nat) (a1 : Nat) (i2 : Int32) (i3 : Int32) (i4 : Int32) => QW p l e ({ frames := 2, cells := 0, slots := 0, locals := 42 } : Room) s m args below meth c (MQ below (QiM D cA lo (fun r M1 => M1 = M ∧ Q r)) args s 0 0 (fun q => lo ≤ q)) 5 D cA lo 0 0 M 3 [(0, .ref a0), (1, .ref a1), (2, .int i2), (3, .int i3), (4, .int i4)] []) (fun a0 a1 i2 i3 i4 h => b_X8_canShift_3 C hr hlk a0 a1 i2 i3 i4 h)
  refine q_iconst (v := 0) C dX8_canShift_0 (by decide) ?_
  refine q_istore (lv' := [(4, .int 0), (0, .ref a0), (1, .ref a1), (2, .int i2), (3, .int i3)]) C dX8_canShift_1 (by decide) rfl ?_
  exact q_sub [1, 2, 3, 4, 0] rfl h
def S_X8_addSides_8 (K8 : Nat → Nat → Int32 → Int32 → Int32 → Mm → Prop) (K30 : Nat → Nat → Int32 → Int32 → Int32 → Int32 → Mm → Prop) (Q : Mm → Prop) (M : Mm) (a0 : Nat) (a1 : Nat) (i2 : Int32) (i3 : Int32) (i4 : Int32) : Prop := (i3 ≤ i4 → Q M) ∧ (¬ i3 ≤ i4 → (i3 ≤ (i4 + 1) → K30 a0 a1 i2 i3 i4 0 M) ∧ (¬ i3 ≤ (i4 + 1) → K30 a0 a1 i2 i3 i4 (i4 + 1) M))
def S_X8_addSides_30 (K8 : Nat → Nat → Int32 → Int32 → Int32 → Mm → Prop) (K30 : Nat → Nat → Int32 → Int32 → Int32 → Int32 → Mm → Prop) (Q : Mm → Prop) (M : Mm) (a0 : Nat) (a1 : Nat) (i2 : Int32) (i3 : Int32) (i4 : Int32) (is0 : Int32) : Prop := kM M a0 = (8, 8) ∧ ∃ a_2 : Nat, rM M a0 6 = some a_2 ∧ kM M a1 = (5, 2) ∧ T_X5_get M a1 i4 (fun r_3 => kM M a1 = (5, 2) ∧ T_X5_get M a1 is0 (fun r_4 => kM M a_2 = (5, 2) ∧ T_X5_set M a_2 r_3 r_4 (i2 + is0) (i2 + i4) (fun M_6 => kM M_6 a0 = (8, 8) ∧ ∃ a_7 : Nat, rM M_6 a0 1 = some a_7 ∧ kM M_6 a0 = (8, 8) ∧ ∃ a_8 : Nat, rM M_6 a0 6 = some a_8 ∧ kM M_6 a_7 = (1, 5) ∧ T_X1_add M_6 a_7 a_8 (fun r_9 M_10 => K8 a0 a1 i2 i3 (i4 + 1) M_10))))
def T_X8_addSides (M : Mm) (a0 : Nat) (a1 : Nat) (i2 : Int32) (Q : Mm → Prop) : Prop := ∀ (K8 : Nat → Nat → Int32 → Int32 → Int32 → Mm → Prop) (K30 : Nat → Nat → Int32 → Int32 → Int32 → Int32 → Mm → Prop), (∀ (a0 : Nat) (a1 : Nat) (i2 : Int32) (i3 : Int32) (i4 : Int32) (M : Mm), S_X8_addSides_8 K8 K30 Q M a0 a1 i2 i3 i4 → K8 a0 a1 i2 i3 i4 M) → (∀ (a0 : Nat) (a1 : Nat) (i2 : Int32) (i3 : Int32) (i4 : Int32) (is0 : Int32) (M : Mm), S_X8_addSides_30 K8 K30 Q M a0 a1 i2 i3 i4 is0 → K30 a0 a1 i2 i3 i4 is0 M) → kM M a1 = (5, 2) ∧ T_X5_length M a1 (fun r_1 => K8 a0 a1 i2 r_1 0 M)
theorem inX8_addSides_X8 : ∀ w ∈ wsX80, w ∈ wsX8_addSides := by decide +kernel
set_option maxRecDepth 100000 in
set_option maxHeartbeats 4000000 in
theorem b_X8_addSides_8 {p : Program} {l : Launch} {e : Env} {s : State} {m : MethodId} {args : Array Value} {below : List Frame} {meth : Method} {c : Code} {D : va_G} {cA : Nat → ClassId} {lo : Nat} (C : Cx p s m args c cX8_addSides 6 RX8 wsX8_addSides D cA lo) (hr : meth.sig.returnType = none) (hlk : meth.locks = false) {Q : Mm → Prop} (M : Mm) (a0 : Nat) (a1 : Nat) (i2 : Int32) (i3 : Int32) (i4 : Int32) (h : S_X8_addSides_8 (fun (a0 : Nat) (a1 : Nat) (i2 : Int32) (i3 : Int32) (i4 : Int32) (M : Mm) => QW p l e ({ frames := 4, cells := 0, slots := 0, locals := 90 } : Room) s m args below meth c (MQ below (QvM D cA lo Q) args s 0 0 (fun q => lo ≤ q)) 6 D cA lo 0 0 M 8 [(0, .ref a0), (1, .ref a1), (2, .int i2), (3, .int i3), (4, .int i4)] []) (fun (a0 : Nat) (a1 : Nat) (i2 : Int32) (i3 : Int32) (i4 : Int32) (is0 : Int32) (M : Mm) => QW p l e ({ frames := 4, cells := 0, slots := 0, locals := 90 } : Room) s m args below meth c (MQ below (QvM D cA lo Q) args s 0 0 (fun q => lo ≤ q)) 6 D cA lo 0 0 M 30 [(0, .ref a0), (1, .ref a1), (2, .int i2), (3, .int i3), (4, .int i4)] [.int is0]) Q M a0 a1 i2 i3 i4) : QW p l e ({ frames := 4, cells := 0, slots := 0, locals := 90 } : Room) s m args below meth c (MQ below (QvM D cA lo Q) args s 0 0 (fun q => lo ≤ q)) 6 D cA lo 0 0 M 8 [(0, .ref a0), (1, .ref a1), (2, .int i2), (3, .int i3), (4, .int i4)] [] := by
  unfold S_X8_addSides_8 at h
  refine q_iload C dX8_addSides_8 (j := 4) rfl ?_
  refine q_iload_n C dX8_addSides_10 rfl (j := 3) rfl ?_
  refine q_icmp_ge (tgt := 77) C dX8_addSides_11 (by decide) (fun z => ?_) (fun z => ?_)
  · have h := h.1 z
    exact q_vret C hr hlk dX8_addSides_77 (Nat.le_of_ble_eq_true rfl) (Nat.le_of_ble_eq_true rfl) h
  · have h := h.2 z
    refine q_iload C dX8_addSides_14 (j := 4) rfl ?_
    refine q_iconst (v := 1) C dX8_addSides_16 (by decide) ?_
    refine q_iadd C dX8_addSides_17 ?_
    refine q_iload_n C dX8_addSides_18 rfl (j := 3) rfl ?_
    refine q_icmp_ge (tgt := 29) C dX8_addSides_19 (by decide) (fun z => ?_) (fun z => ?_)
    · have h := h.1 z
      refine q_iconst (v := 0) C dX8_addSides_29 (by decide) ?_
      exact q_sub [0, 1, 2, 3, 4] rfl h
    · have h := h.2 z
      refine q_iload C dX8_addSides_22 (j := 4) rfl ?_
      refine q_iconst (v := 1) C dX8_addSides_24 (by decide) ?_
      refine q_iadd C dX8_addSides_25 ?_
      refine q_goto (tgt := 30) C dX8_addSides_26 (by decide) ?_
      exact q_sub [0, 1, 2, 3, 4] rfl h
set_option maxRecDepth 100000 in
set_option maxHeartbeats 4000000 in
theorem b_X8_addSides_30 {p : Program} {l : Launch} {e : Env} {s : State} {m : MethodId} {args : Array Value} {below : List Frame} {meth : Method} {c : Code} {D : va_G} {cA : Nat → ClassId} {lo : Nat} (C : Cx p s m args c cX8_addSides 6 RX8 wsX8_addSides D cA lo) (hr : meth.sig.returnType = none) (hlk : meth.locks = false) {Q : Mm → Prop} (M : Mm) (a0 : Nat) (a1 : Nat) (i2 : Int32) (i3 : Int32) (i4 : Int32) (is0 : Int32) (h : S_X8_addSides_30 (fun (a0 : Nat) (a1 : Nat) (i2 : Int32) (i3 : Int32) (i4 : Int32) (M : Mm) => QW p l e ({ frames := 4, cells := 0, slots := 0, locals := 90 } : Room) s m args below meth c (MQ below (QvM D cA lo Q) args s 0 0 (fun q => lo ≤ q)) 6 D cA lo 0 0 M 8 [(0, .ref a0), (1, .ref a1), (2, .int i2), (3, .int i3), (4, .int i4)] []) (fun (a0 : Nat) (a1 : Nat) (i2 : Int32) (i3 : Int32) (i4 : Int32) (is0 : Int32) (M : Mm) => QW p l e ({ frames := 4, cells := 0, slots := 0, locals := 90 } : Room) s m args below meth c (MQ below (QvM D cA lo Q) args s 0 0 (fun q => lo ≤ q)) 6 D cA lo 0 0 M 30 [(0, .ref a0), (1, .ref a1), (2, .int i2), (3, .int i3), (4, .int i4)] [.int is0]) Q M a0 a1 i2 i3 i4 is0) : QW p l e ({ frames := 4, cells := 0, slots := 0, locals := 90 } : Room) s m args below meth c (MQ below (QvM D cA lo Q) args s 0 0 (fun q => lo ≤ q)) 6 D cA lo 0 0 M 30 [(0, .ref a0), (1, .ref a1), (2, .int i2), (3, .int i3), (4, .int i4)] [.int is0] := by
  unfold S_X8_addSides_30 at h
  refine q_istore (lv' := [(5, .int is0), (0, .ref a0), (1, .ref a1), (2, .int i2), (3, .int i3), (4, .int i4)]) C dX8_addSides_30 (by decide) rfl ?_
  refine q_aload_n C dX8_addSides_32 rfl (j := 1) rfl ?_
  refine q_getR (ci := 8) (k0 := 6) (T := TX8) C inX8_addSides_X8 rfl (by decide) h.1 (by decide) rfl (by decide +kernel) rfl dX8_addSides_33 ?_
  obtain ⟨a_2, z, h⟩ := h.2
  refine q_ref z ?_
  refine q_aload_n C dX8_addSides_36 rfl (j := 2) rfl ?_
  refine q_iload C dX8_addSides_37 (j := 5) rfl ?_
  refine q_ci (q_runV (As := [.int i4]) (st := [.ref a_2]) C (c_X5_get l D cA lo h.2) (cwV 1 C.2.2.2.2.1 gX8_addSides_X5_get rfl rfl rfl (by decide +kernel) ⟨Nat.le_of_ble_eq_true rfl, Nat.le_of_ble_eq_true rfl⟩) h.1 (by decide) rfl rfl rfl (Nat.le_of_ble_eq_true rfl) dX8_addSides_39 ⟨Nat.le_of_ble_eq_true rfl, Nat.le_of_ble_eq_true rfl⟩) (fun r_3 M_z h => ?_)
  refine q_mem h.1 ?_
  have h := h.2
  refine q_aload_n C dX8_addSides_42 rfl (j := 2) rfl ?_
  refine q_iload C dX8_addSides_43 (j := 0) rfl ?_
  refine q_ci (q_runV (As := [.int is0]) (st := [.int r_3, .ref a_2]) C (c_X5_get l D cA lo h.2) (cwV 1 C.2.2.2.2.1 gX8_addSides_X5_get rfl rfl rfl (by decide +kernel) ⟨Nat.le_of_ble_eq_true rfl, Nat.le_of_ble_eq_true rfl⟩) h.1 (by decide) rfl rfl rfl (Nat.le_of_ble_eq_true rfl) dX8_addSides_45 ⟨Nat.le_of_ble_eq_true rfl, Nat.le_of_ble_eq_true rfl⟩) (fun r_4 M_z h => ?_)
  refine q_mem h.1 ?_
  have h := h.2
  refine q_iload_n C dX8_addSides_48 rfl (j := 3) rfl ?_
  refine q_iload C dX8_addSides_49 (j := 0) rfl ?_
  refine q_iadd C dX8_addSides_51 ?_
  refine q_iload_n C dX8_addSides_52 rfl (j := 3) rfl ?_
  refine q_iload C dX8_addSides_53 (j := 5) rfl ?_
  refine q_iadd C dX8_addSides_55 ?_
  refine q_cv (q_runV (As := [.int r_3, .int r_4, .int (i2 + is0), .int (i2 + i4)]) (st := []) C (c_X5_set l D cA lo h.2) (cwV 4 C.2.2.2.2.1 gX8_addSides_X5_set rfl rfl rfl (by decide +kernel) ⟨Nat.le_of_ble_eq_true rfl, Nat.le_of_ble_eq_true rfl⟩) h.1 (by decide) rfl rfl rfl (Nat.le_of_ble_eq_true rfl) dX8_addSides_56 ⟨Nat.le_of_ble_eq_true rfl, Nat.le_of_ble_eq_true rfl⟩) (fun M_6 h => ?_)
  refine q_aload_n C dX8_addSides_59 rfl (j := 1) rfl ?_
  refine q_getR (ci := 8) (k0 := 1) (T := TX8) C inX8_addSides_X8 rfl (by decide) h.1 (by decide) rfl (by decide +kernel) rfl dX8_addSides_60 ?_
  obtain ⟨a_7, z, h⟩ := h.2
  refine q_ref z ?_
  refine q_aload_n C dX8_addSides_63 rfl (j := 1) rfl ?_
  refine q_getR (ci := 8) (k0 := 6) (T := TX8) C inX8_addSides_X8 rfl (by decide) h.1 (by decide) rfl (by decide +kernel) rfl dX8_addSides_64 ?_
  obtain ⟨a_8, z, h⟩ := h.2
  refine q_ref z ?_
  refine q_ci (q_runV (As := [.ref a_8]) (st := []) C (c_X1_add l D cA lo h.2) (cwV 1 C.2.2.2.2.1 gX8_addSides_X1_add rfl rfl rfl (by decide +kernel) ⟨Nat.le_of_ble_eq_true rfl, Nat.le_of_ble_eq_true rfl⟩) h.1 (by decide) rfl rfl rfl (Nat.le_of_ble_eq_true rfl) dX8_addSides_67 ⟨Nat.le_of_ble_eq_true rfl, Nat.le_of_ble_eq_true rfl⟩) (fun r_9 M_10 h => ?_)
  refine q_pop C dX8_addSides_70 rfl ?_
  refine q_iinc (v := (i4 + 1)) (lv' := [(4, .int (i4 + 1)), (5, .int is0), (0, .ref a0), (1, .ref a1), (2, .int i2), (3, .int i3)]) C dX8_addSides_71 (j := 5) rfl rfl (by decide) rfl ?_
  refine q_goto (tgt := 8) C dX8_addSides_74 (by decide) ?_
  exact q_sub [2, 3, 4, 5, 0] rfl h
set_option maxRecDepth 100000 in
set_option maxHeartbeats 4000000 in
theorem c_X8_addSides (l : Launch) (D : va_G) (cA : Nat → ClassId) (lo : Nat) {M : Mm} {a0 : Nat} {a1 : Nat} {i2 : Int32} {Q : Mm → Prop} (h : T_X8_addSides M a0 a1 i2 Q) : Met l yX8_addSides wsX8_addSides ({ frames := 4, cells := 0, slots := 0, locals := 90 } : Room) (PcM D cA lo [.ref a0, .ref a1, .int i2] M) (QvM D cA lo Q) 0 0 (fun q => lo ≤ q) := by
  refine q_start (cc := cX8_addSides) (nL := 6) (ret := none) (by decide) rfl rfl (Nat.le_of_ble_eq_true rfl) ?_
  intro p e s m args below meth c C hr hlk hin
  unfold T_X8_addSides at h
  have h := h (fun (a0 : Nat) (a1 : Nat) (i2 : Int32) (i3 : Int32) (i4 : Int32) (M : Mm) => QW p l e ({ frames := 4, cells := 0, slots := 0, locals := 90 } : Room) s m args below meth c (MQ below (QvM D cA lo Q) args s 0 0 (fun q => lo ≤ q)) 6 D cA lo 0 0 M 8 [(0, .ref a0), (1, .ref a1), (2, .int i2), (3, .int i3), (4, .int i4)] []) (fun (a0 : Nat) (a1 : Nat) (i2 : Int32) (i3 : Int32) (i4 : Int32) (is0 : Int32) (M : Mm) => QW p l e ({ frames := 4, cells := 0, slots := 0, locals := 90 } : Room) s m args below meth c (MQ below (QvM D cA lo Q) args s 0 0 (fun q => lo ≤ q)) 6 D cA lo 0 0 M 30 [(0, .ref a0), (1, .ref a1), (2, .int i2), (3, .int i3), (4, .int i4)] [.int is0]) (fun a0 a1 i2 i3 i4 M h => b_X8_addSides_8 C hr hlk M a0 a1 i2 i3 i4 h) (fun a0 a1 i2 i3 i4 is0 M h => b_X8_addSides_30 C hr hlk M a0 a1 i2 i3 i4 is0 h)
  refine q_aload_n C dX8_addSides_0 rfl (j := 1) rfl ?_
  refine q_ci (q_runV (As := []) (st := []) C (c_X5_length l D cA lo h.2) (cwV 0 C.2.2.2.2.1 gX8_addSides_X5_length rfl rfl rfl (by decide +kernel) ⟨Nat.le_of_ble_eq_true rfl, Nat.le_of_ble_eq_true rfl⟩) h.1 (by decide) rfl rfl rfl (Nat.le_of_ble_eq_true rfl) dX8_addSides_1 ⟨Nat.le_of_ble_eq_true rfl, Nat.le_of_ble_eq_true rfl⟩) (fun r_1 M_z h => ?_)
  refine q_mem h.1 ?_
  have h := h.2
  refine q_istore_n (lv' := [(3, .int r_1), (0, .ref a0), (1, .ref a1), (2, .int i2)]) C dX8_addSides_4 rfl (by decide) rfl ?_
  refine q_iconst (v := 0) C dX8_addSides_5 (by decide) ?_
  refine q_istore (lv' := [(4, .int 0), (3, .int r_1), (0, .ref a0), (1, .ref a1), (2, .int i2)]) C dX8_addSides_6 (by decide) rfl ?_
  exact q_sub [2, 3, 4, 1, 0] rfl h
def S_X8_readHole_16 (K16 : Nat → Int32 → Int32 → Int32 → Int32 → Mm → Prop) (Q : Mm → Prop) (M : Mm) (a0 : Nat) (i3 : Int32) (i4 : Int32) (i5 : Int32) (i6 : Int32) : Prop := (i3 ≤ i6 → Q M) ∧ (¬ i3 ≤ i6 → kM M a0 = (8, 8) ∧ ∃ a_4 : Nat, rM M a0 6 = some a_4 ∧ kM M a_4 = (5, 2) ∧ T_X5_add M a_4 i4 (fun M_6 => kM M_6 a0 = (8, 8) ∧ ∃ a_7 : Nat, rM M_6 a0 1 = some a_7 ∧ kM M_6 a_7 = (1, 5) ∧ T_X1_nextOpen M_6 a_7 i4 i5 (fun r_8 => K16 a0 i3 i5 r_8 (i6 + 1) M_6)))
def T_X8_readHole (M : Mm) (a0 : Nat) (i1 : Int32) (i2 : Int32) (i3 : Int32) (Q : Mm → Prop) : Prop := ∀ (K16 : Nat → Int32 → Int32 → Int32 → Int32 → Mm → Prop), (∀ (a0 : Nat) (i3 : Int32) (i4 : Int32) (i5 : Int32) (i6 : Int32) (M : Mm), S_X8_readHole_16 K16 Q M a0 i3 i4 i5 i6 → K16 a0 i3 i4 i5 i6 M) → kM M a0 = (8, 8) ∧ ∃ a_1 : Nat, rM M a0 6 = some a_1 ∧ kM M a_1 = (5, 2) ∧ T_X5_clear M a_1 (fun M_3 => K16 a0 i3 i1 i2 0 M_3)
theorem inX8_readHole_X8 : ∀ w ∈ wsX80, w ∈ wsX8_readHole := by decide +kernel
set_option maxRecDepth 100000 in
set_option maxHeartbeats 4000000 in
theorem b_X8_readHole_16 {p : Program} {l : Launch} {e : Env} {s : State} {m : MethodId} {args : Array Value} {below : List Frame} {meth : Method} {c : Code} {D : va_G} {cA : Nat → ClassId} {lo : Nat} (C : Cx p s m args c cX8_readHole 8 RX8 wsX8_readHole D cA lo) (hr : meth.sig.returnType = none) (hlk : meth.locks = false) {Q : Mm → Prop} (M : Mm) (a0 : Nat) (i3 : Int32) (i4 : Int32) (i5 : Int32) (i6 : Int32) (h : S_X8_readHole_16 (fun (a0 : Nat) (i3 : Int32) (i4 : Int32) (i5 : Int32) (i6 : Int32) (M : Mm) => QW p l e ({ frames := 3, cells := 0, slots := 0, locals := 70 } : Room) s m args below meth c (MQ below (QvM D cA lo Q) args s 0 0 (fun q => lo ≤ q)) 8 D cA lo 0 0 M 16 [(0, .ref a0), (3, .int i3), (4, .int i4), (5, .int i5), (6, .int i6)] []) Q M a0 i3 i4 i5 i6) : QW p l e ({ frames := 3, cells := 0, slots := 0, locals := 70 } : Room) s m args below meth c (MQ below (QvM D cA lo Q) args s 0 0 (fun q => lo ≤ q)) 8 D cA lo 0 0 M 16 [(0, .ref a0), (3, .int i3), (4, .int i4), (5, .int i5), (6, .int i6)] [] := by
  unfold S_X8_readHole_16 at h
  refine q_iload C dX8_readHole_16 (j := 4) rfl ?_
  refine q_iload_n C dX8_readHole_18 rfl (j := 1) rfl ?_
  refine q_icmp_ge (tgt := 58) C dX8_readHole_19 (by decide) (fun z => ?_) (fun z => ?_)
  · have h := h.1 z
    exact q_vret C hr hlk dX8_readHole_58 (Nat.le_of_ble_eq_true rfl) (Nat.le_of_ble_eq_true rfl) h
  · have h := h.2 z
    refine q_aload_n C dX8_readHole_22 rfl (j := 0) rfl ?_
    refine q_getR (ci := 8) (k0 := 6) (T := TX8) C inX8_readHole_X8 rfl (by decide) h.1 (by decide) rfl (by decide +kernel) rfl dX8_readHole_23 ?_
    obtain ⟨a_4, z, h⟩ := h.2
    refine q_ref z ?_
    refine q_iload C dX8_readHole_26 (j := 2) rfl ?_
    refine q_cv (q_runV (As := [.int i4]) (st := []) C (c_X5_add l D cA lo h.2) (cwV 1 C.2.2.2.2.1 gX8_readHole_X5_add rfl rfl rfl (by decide +kernel) ⟨Nat.le_of_ble_eq_true rfl, Nat.le_of_ble_eq_true rfl⟩) h.1 (by decide) rfl rfl rfl (Nat.le_of_ble_eq_true rfl) dX8_readHole_28 ⟨Nat.le_of_ble_eq_true rfl, Nat.le_of_ble_eq_true rfl⟩) (fun M_6 h => ?_)
    refine q_aload_n C dX8_readHole_31 rfl (j := 0) rfl ?_
    refine q_getR (ci := 8) (k0 := 1) (T := TX8) C inX8_readHole_X8 rfl (by decide) h.1 (by decide) rfl (by decide +kernel) rfl dX8_readHole_32 ?_
    obtain ⟨a_7, z, h⟩ := h.2
    refine q_ref z ?_
    refine q_iload C dX8_readHole_35 (j := 2) rfl ?_
    refine q_iload C dX8_readHole_37 (j := 3) rfl ?_
    refine q_ci (q_runV (As := [.int i4, .int i5]) (st := []) C (c_X1_nextOpen l D cA lo h.2) (cwV 2 C.2.2.2.2.1 gX8_readHole_X1_nextOpen rfl rfl rfl (by decide +kernel) ⟨Nat.le_of_ble_eq_true rfl, Nat.le_of_ble_eq_true rfl⟩) h.1 (by decide) rfl rfl rfl (Nat.le_of_ble_eq_true rfl) dX8_readHole_39 ⟨Nat.le_of_ble_eq_true rfl, Nat.le_of_ble_eq_true rfl⟩) (fun r_8 M_z h => ?_)
    refine q_mem h.1 ?_
    have h := h.2
    refine q_istore (lv' := [(7, .int r_8), (0, .ref a0), (3, .int i3), (4, .int i4), (5, .int i5), (6, .int i6)]) C dX8_readHole_42 (by decide) rfl ?_
    refine q_iload C dX8_readHole_44 (j := 4) rfl ?_
    refine q_istore (lv' := [(4, .int i5), (7, .int r_8), (0, .ref a0), (3, .int i3), (5, .int i5), (6, .int i6)]) C dX8_readHole_46 (by decide) rfl ?_
    refine q_iload C dX8_readHole_48 (j := 1) rfl ?_
    refine q_istore (lv' := [(5, .int r_8), (4, .int i5), (7, .int r_8), (0, .ref a0), (3, .int i3), (6, .int i6)]) C dX8_readHole_50 (by decide) rfl ?_
    refine q_iinc (v := (i6 + 1)) (lv' := [(6, .int (i6 + 1)), (5, .int r_8), (4, .int i5), (7, .int r_8), (0, .ref a0), (3, .int i3)]) C dX8_readHole_52 (j := 5) rfl rfl (by decide) rfl ?_
    refine q_goto (tgt := 16) C dX8_readHole_55 (by decide) ?_
    exact q_sub [4, 5, 2, 1, 0] rfl h
set_option maxRecDepth 100000 in
set_option maxHeartbeats 4000000 in
theorem c_X8_readHole (l : Launch) (D : va_G) (cA : Nat → ClassId) (lo : Nat) {M : Mm} {a0 : Nat} {i1 : Int32} {i2 : Int32} {i3 : Int32} {Q : Mm → Prop} (h : T_X8_readHole M a0 i1 i2 i3 Q) : Met l yX8_readHole wsX8_readHole ({ frames := 3, cells := 0, slots := 0, locals := 70 } : Room) (PcM D cA lo [.ref a0, .int i1, .int i2, .int i3] M) (QvM D cA lo Q) 0 0 (fun q => lo ≤ q) := by
  refine q_start (cc := cX8_readHole) (nL := 8) (ret := none) (by decide) rfl rfl (Nat.le_of_ble_eq_true rfl) ?_
  intro p e s m args below meth c C hr hlk hin
  unfold T_X8_readHole at h
  have h := h (fun (a0 : Nat) (i3 : Int32) (i4 : Int32) (i5 : Int32) (i6 : Int32) (M : Mm) => QW p l e ({ frames := 3, cells := 0, slots := 0, locals := 70 } : Room) s m args below meth c (MQ below (QvM D cA lo Q) args s 0 0 (fun q => lo ≤ q)) 8 D cA lo 0 0 M 16 [(0, .ref a0), (3, .int i3), (4, .int i4), (5, .int i5), (6, .int i6)] []) (fun a0 i3 i4 i5 i6 M h => b_X8_readHole_16 C hr hlk M a0 i3 i4 i5 i6 h)
  refine q_aload_n C dX8_readHole_0 rfl (j := 0) rfl ?_
  refine q_getR (ci := 8) (k0 := 6) (T := TX8) C inX8_readHole_X8 rfl (by decide) h.1 (by decide) rfl (by decide +kernel) rfl dX8_readHole_1 ?_
  obtain ⟨a_1, z, h⟩ := h.2
  refine q_ref z ?_
  refine q_cv (q_runV (As := []) (st := []) C (c_X5_clear l D cA lo h.2) (cwV 0 C.2.2.2.2.1 gX8_readHole_X5_clear rfl rfl rfl (by decide +kernel) ⟨Nat.le_of_ble_eq_true rfl, Nat.le_of_ble_eq_true rfl⟩) h.1 (by decide) rfl rfl rfl (Nat.le_of_ble_eq_true rfl) dX8_readHole_4 ⟨Nat.le_of_ble_eq_true rfl, Nat.le_of_ble_eq_true rfl⟩) (fun M_3 h => ?_)
  refine q_iload_n C dX8_readHole_7 rfl (j := 1) rfl ?_
  refine q_istore (lv' := [(4, .int i1), (0, .ref a0), (1, .int i1), (2, .int i2), (3, .int i3)]) C dX8_readHole_8 (by decide) rfl ?_
  refine q_iload_n C dX8_readHole_10 rfl (j := 3) rfl ?_
  refine q_istore (lv' := [(5, .int i2), (4, .int i1), (0, .ref a0), (1, .int i1), (2, .int i2), (3, .int i3)]) C dX8_readHole_11 (by decide) rfl ?_
  refine q_iconst (v := 0) C dX8_readHole_13 (by decide) ?_
  refine q_istore (lv' := [(6, .int 0), (5, .int i2), (4, .int i1), (0, .ref a0), (1, .int i1), (2, .int i2), (3, .int i3)]) C dX8_readHole_14 (by decide) rfl ?_
  exact q_sub [3, 6, 2, 1, 0] rfl h
def T_X8_smooth (M : Mm) (a0 : Nat) (Q : Int32 → Mm → Prop) : Prop := kM M a0 = (8, 8) ∧ ∃ a_1 : Nat, rM M a0 5 = some a_1 ∧ kM M a_1 = (6, 3) ∧ T_X6_apply M a_1 (fun r_2 M_3 => Q r_2 M_3)
theorem inX8_smooth_X8 : ∀ w ∈ wsX80, w ∈ wsX8_smooth := by decide +kernel
set_option maxRecDepth 100000 in
set_option maxHeartbeats 4000000 in
theorem c_X8_smooth (l : Launch) (D : va_G) (cA : Nat → ClassId) (lo : Nat) {M : Mm} {a0 : Nat} {Q : Int32 → Mm → Prop} (h : T_X8_smooth M a0 Q) : Met l yX8_smooth wsX8_smooth ({ frames := 5, cells := 0, slots := 0, locals := 114 } : Room) (PcM D cA lo [.ref a0] M) (QiM D cA lo Q) 0 0 (fun q => lo ≤ q) := by
  refine q_start (cc := cX8_smooth) (nL := 1) (ret := (some .int)) (by decide) rfl rfl (Nat.le_of_ble_eq_true rfl) ?_
  intro p e s m args below meth c C hr hlk hin
  unfold T_X8_smooth at h
  refine q_aload_n C dX8_smooth_0 rfl (j := 0) rfl ?_
  refine q_getR (ci := 8) (k0 := 5) (T := TX8) C inX8_smooth_X8 rfl (by decide) h.1 (by decide) rfl (by decide +kernel) rfl dX8_smooth_1 ?_
  obtain ⟨a_1, z, h⟩ := h.2
  refine q_ref z ?_
  refine q_ci (q_runV (As := []) (st := []) C (c_X6_apply l D cA lo h.2) (cwV 0 C.2.2.2.2.1 gX8_smooth_X6_apply rfl rfl rfl (by decide +kernel) ⟨Nat.le_of_ble_eq_true rfl, Nat.le_of_ble_eq_true rfl⟩) h.1 (by decide) rfl rfl rfl (Nat.le_of_ble_eq_true rfl) dX8_smooth_4 ⟨Nat.le_of_ble_eq_true rfl, Nat.le_of_ble_eq_true rfl⟩) (fun r_2 M_3 h => ?_)
  exact q_iret C hr hlk dX8_smooth_7 (Nat.le_of_ble_eq_true rfl) (Nat.le_of_ble_eq_true rfl) h
def S_X8_turn_2 (K2 : Nat → Int32 → Mm → Prop) (Q : Int32 → Mm → Prop) (M : Mm) (a0 : Nat) (i1 : Int32) : Prop := kM M a0 = (8, 8) ∧ ∃ a_1 : Nat, rM M a0 1 = some a_1 ∧ kM M a_1 = (1, 5) ∧ T_X1_ever M a_1 (fun r_2 => (r_2 ≤ i1 → kM M a0 = (8, 8) ∧ ∃ a_3 : Nat, rM M a0 1 = some a_3 ∧ kM M a_3 = (1, 5) ∧ T_X1_left M a_3 (fun r_4 => Q r_4 M)) ∧ (¬ r_2 ≤ i1 → kM M a0 = (8, 8) ∧ ∃ a_5 : Nat, rM M a0 1 = some a_5 ∧ kM M a_5 = (1, 5) ∧ T_X1_has M a_5 i1 (fun r_6 => (r_6 = 0 → K2 a0 (i1 + 1) M) ∧ (¬ r_6 = 0 → kM M a0 = (8, 8) ∧ ∃ a_7 : Nat, rM M a0 6 = some a_7 ∧ kM M a0 = (8, 8) ∧ ∃ a_8 : Nat, rM M a0 1 = some a_8 ∧ kM M a_8 = (1, 5) ∧ T_X1_ring M a_8 i1 (fun r_9 => kM M a_7 = (5, 2) ∧ T_X5_copyBackwards M a_7 r_9 (fun M_11 => kM M_11 a0 = (8, 8) ∧ ∃ a_12 : Nat, rM M_11 a0 1 = some a_12 ∧ kM M_11 a0 = (8, 8) ∧ ∃ a_13 : Nat, rM M_11 a0 6 = some a_13 ∧ kM M_11 a_12 = (1, 5) ∧ T_X1_reshape M_11 a_12 i1 a_13 (fun M_15 => K2 a0 (i1 + 1) M_15)))))))
def T_X8_turn (M : Mm) (a0 : Nat) (Q : Int32 → Mm → Prop) : Prop := ∀ (K2 : Nat → Int32 → Mm → Prop), (∀ (a0 : Nat) (i1 : Int32) (M : Mm), S_X8_turn_2 K2 Q M a0 i1 → K2 a0 i1 M) → K2 a0 0 M
theorem inX8_turn_X8 : ∀ w ∈ wsX80, w ∈ wsX8_turn := by decide +kernel
set_option maxRecDepth 100000 in
set_option maxHeartbeats 4000000 in
theorem b_X8_turn_2 {p : Program} {l : Launch} {e : Env} {s : State} {m : MethodId} {args : Array Value} {below : List Frame} {meth : Method} {c : Code} {D : va_G} {cA : Nat → ClassId} {lo : Nat} (C : Cx p s m args c cX8_turn 2 RX8 wsX8_turn D cA lo) (hr : meth.sig.returnType = (some .int)) (hlk : meth.locks = false) {Q : Int32 → Mm → Prop} (M : Mm) (a0 : Nat) (i1 : Int32) (h : S_X8_turn_2 (fun (a0 : Nat) (i1 : Int32) (M : Mm) => QW p l e ({ frames := 3, cells := 0, slots := 0, locals := 68 } : Room) s m args below meth c (MQ below (QiM D cA lo Q) args s 0 0 (fun q => lo ≤ q)) 2 D cA lo 0 0 M 2 [(0, .ref a0), (1, .int i1)] []) Q M a0 i1) : QW p l e ({ frames := 3, cells := 0, slots := 0, locals := 68 } : Room) s m args below meth c (MQ below (QiM D cA lo Q) args s 0 0 (fun q => lo ≤ q)) 2 D cA lo 0 0 M 2 [(0, .ref a0), (1, .int i1)] [] := by
  unfold S_X8_turn_2 at h
  refine q_iload_n C dX8_turn_2 rfl (j := 1) rfl ?_
  refine q_aload_n C dX8_turn_3 rfl (j := 0) rfl ?_
  refine q_getR (ci := 8) (k0 := 1) (T := TX8) C inX8_turn_X8 rfl (by decide) h.1 (by decide) rfl (by decide +kernel) rfl dX8_turn_4 ?_
  obtain ⟨a_1, z, h⟩ := h.2
  refine q_ref z ?_
  refine q_ci (q_runV (As := []) (st := [.int i1]) C (c_X1_ever l D cA lo h.2) (cwV 0 C.2.2.2.2.1 gX8_turn_X1_ever rfl rfl rfl (by decide +kernel) ⟨Nat.le_of_ble_eq_true rfl, Nat.le_of_ble_eq_true rfl⟩) h.1 (by decide) rfl rfl rfl (Nat.le_of_ble_eq_true rfl) dX8_turn_7 ⟨Nat.le_of_ble_eq_true rfl, Nat.le_of_ble_eq_true rfl⟩) (fun r_2 M_z h => ?_)
  refine q_mem h.1 ?_
  have h := h.2
  refine q_icmp_ge (tgt := 57) C dX8_turn_10 (by decide) (fun z => ?_) (fun z => ?_)
  · have h := h.1 z
    refine q_aload_n C dX8_turn_57 rfl (j := 0) rfl ?_
    refine q_getR (ci := 8) (k0 := 1) (T := TX8) C inX8_turn_X8 rfl (by decide) h.1 (by decide) rfl (by decide +kernel) rfl dX8_turn_58 ?_
    obtain ⟨a_3, z, h⟩ := h.2
    refine q_ref z ?_
    refine q_ci (q_runV (As := []) (st := []) C (c_X1_left l D cA lo h.2) (cwV 0 C.2.2.2.2.1 gX8_turn_X1_left rfl rfl rfl (by decide +kernel) ⟨Nat.le_of_ble_eq_true rfl, Nat.le_of_ble_eq_true rfl⟩) h.1 (by decide) rfl rfl rfl (Nat.le_of_ble_eq_true rfl) dX8_turn_61 ⟨Nat.le_of_ble_eq_true rfl, Nat.le_of_ble_eq_true rfl⟩) (fun r_4 M_z h => ?_)
    refine q_mem h.1 ?_
    have h := h.2
    exact q_iret C hr hlk dX8_turn_64 (Nat.le_of_ble_eq_true rfl) (Nat.le_of_ble_eq_true rfl) h
  · have h := h.2 z
    refine q_aload_n C dX8_turn_13 rfl (j := 0) rfl ?_
    refine q_getR (ci := 8) (k0 := 1) (T := TX8) C inX8_turn_X8 rfl (by decide) h.1 (by decide) rfl (by decide +kernel) rfl dX8_turn_14 ?_
    obtain ⟨a_5, z, h⟩ := h.2
    refine q_ref z ?_
    refine q_iload_n C dX8_turn_17 rfl (j := 1) rfl ?_
    refine q_ci (q_runV (As := [.int i1]) (st := []) C (c_X1_has l D cA lo h.2) (cwV 1 C.2.2.2.2.1 gX8_turn_X1_has rfl rfl rfl (by decide +kernel) ⟨Nat.le_of_ble_eq_true rfl, Nat.le_of_ble_eq_true rfl⟩) h.1 (by decide) rfl rfl rfl (Nat.le_of_ble_eq_true rfl) dX8_turn_18 ⟨Nat.le_of_ble_eq_true rfl, Nat.le_of_ble_eq_true rfl⟩) (fun r_6 M_z h => ?_)
    refine q_mem h.1 ?_
    have h := h.2
    refine q_if_eq (tgt := 51) C dX8_turn_21 (by decide) (fun z => ?_) (fun z => ?_)
    · have h := h.1 z
      refine q_iinc (v := (i1 + 1)) (lv' := [(1, .int (i1 + 1)), (0, .ref a0)]) C dX8_turn_51 (j := 1) rfl rfl (by decide) rfl ?_
      refine q_goto (tgt := 2) C dX8_turn_54 (by decide) ?_
      exact q_sub [1, 0] rfl h
    · have h := h.2 z
      refine q_aload_n C dX8_turn_24 rfl (j := 0) rfl ?_
      refine q_getR (ci := 8) (k0 := 6) (T := TX8) C inX8_turn_X8 rfl (by decide) h.1 (by decide) rfl (by decide +kernel) rfl dX8_turn_25 ?_
      obtain ⟨a_7, z, h⟩ := h.2
      refine q_ref z ?_
      refine q_aload_n C dX8_turn_28 rfl (j := 0) rfl ?_
      refine q_getR (ci := 8) (k0 := 1) (T := TX8) C inX8_turn_X8 rfl (by decide) h.1 (by decide) rfl (by decide +kernel) rfl dX8_turn_29 ?_
      obtain ⟨a_8, z, h⟩ := h.2
      refine q_ref z ?_
      refine q_iload_n C dX8_turn_32 rfl (j := 1) rfl ?_
      refine q_cr (q_runV (As := [.int i1]) (st := [.ref a_7]) C (c_X1_ring l D cA lo h.2) (cwV 1 C.2.2.2.2.1 gX8_turn_X1_ring rfl rfl rfl (by decide +kernel) ⟨Nat.le_of_ble_eq_true rfl, Nat.le_of_ble_eq_true rfl⟩) h.1 (by decide) rfl rfl rfl (Nat.le_of_ble_eq_true rfl) dX8_turn_33 ⟨Nat.le_of_ble_eq_true rfl, Nat.le_of_ble_eq_true rfl⟩) (fun r_9 M_z h => ?_)
      refine q_mem h.1 ?_
      have h := h.2
      refine q_cv (q_runV (As := [.ref r_9]) (st := []) C (c_X5_copyBackwards l D cA lo h.2) (cwV 1 C.2.2.2.2.1 gX8_turn_X5_copyBackwards rfl rfl rfl (by decide +kernel) ⟨Nat.le_of_ble_eq_true rfl, Nat.le_of_ble_eq_true rfl⟩) h.1 (by decide) rfl rfl rfl (Nat.le_of_ble_eq_true rfl) dX8_turn_36 ⟨Nat.le_of_ble_eq_true rfl, Nat.le_of_ble_eq_true rfl⟩) (fun M_11 h => ?_)
      refine q_aload_n C dX8_turn_39 rfl (j := 0) rfl ?_
      refine q_getR (ci := 8) (k0 := 1) (T := TX8) C inX8_turn_X8 rfl (by decide) h.1 (by decide) rfl (by decide +kernel) rfl dX8_turn_40 ?_
      obtain ⟨a_12, z, h⟩ := h.2
      refine q_ref z ?_
      refine q_iload_n C dX8_turn_43 rfl (j := 1) rfl ?_
      refine q_aload_n C dX8_turn_44 rfl (j := 0) rfl ?_
      refine q_getR (ci := 8) (k0 := 6) (T := TX8) C inX8_turn_X8 rfl (by decide) h.1 (by decide) rfl (by decide +kernel) rfl dX8_turn_45 ?_
      obtain ⟨a_13, z, h⟩ := h.2
      refine q_ref z ?_
      refine q_cv (q_runV (As := [.int i1, .ref a_13]) (st := []) C (c_X1_reshape l D cA lo h.2) (cwV 2 C.2.2.2.2.1 gX8_turn_X1_reshape rfl rfl rfl (by decide +kernel) ⟨Nat.le_of_ble_eq_true rfl, Nat.le_of_ble_eq_true rfl⟩) h.1 (by decide) rfl rfl rfl (Nat.le_of_ble_eq_true rfl) dX8_turn_48 ⟨Nat.le_of_ble_eq_true rfl, Nat.le_of_ble_eq_true rfl⟩) (fun M_15 h => ?_)
      refine q_iinc (v := (i1 + 1)) (lv' := [(1, .int (i1 + 1)), (0, .ref a0)]) C dX8_turn_51 (j := 1) rfl rfl (by decide) rfl ?_
      refine q_goto (tgt := 2) C dX8_turn_54 (by decide) ?_
      exact q_sub [1, 0] rfl h
set_option maxRecDepth 100000 in
set_option maxHeartbeats 4000000 in
theorem c_X8_turn (l : Launch) (D : va_G) (cA : Nat → ClassId) (lo : Nat) {M : Mm} {a0 : Nat} {Q : Int32 → Mm → Prop} (h : T_X8_turn M a0 Q) : Met l yX8_turn wsX8_turn ({ frames := 3, cells := 0, slots := 0, locals := 68 } : Room) (PcM D cA lo [.ref a0] M) (QiM D cA lo Q) 0 0 (fun q => lo ≤ q) := by
  refine q_start (cc := cX8_turn) (nL := 2) (ret := (some .int)) (by decide) rfl rfl (Nat.le_of_ble_eq_true rfl) ?_
  intro p e s m args below meth c C hr hlk hin
  unfold T_X8_turn at h
  have h := h (fun (a0 : Nat) (i1 : Int32) (M : Mm) => QW p l e ({ frames := 3, cells := 0, slots := 0, locals := 68 } : Room) s m args below meth c (MQ below (QiM D cA lo Q) args s 0 0 (fun q => lo ≤ q)) 2 D cA lo 0 0 M 2 [(0, .ref a0), (1, .int i1)] []) (fun a0 i1 M h => b_X8_turn_2 C hr hlk M a0 i1 h)
  refine q_iconst (v := 0) C dX8_turn_0 (by decide) ?_
  refine q_istore_n (lv' := [(1, .int 0), (0, .ref a0)]) C dX8_turn_1 rfl (by decide) rfl ?_
  exact q_sub [1, 0] rfl h
def T_X8_points (M : Mm) (a0 : Nat) (Q : Int32 → Prop) : Prop := kM M a0 = (8, 8) ∧ ∃ a_1 : Nat, rM M a0 0 = some a_1 ∧ kM M a_1 = (3, 4) ∧ T_X3_left M a_1 (fun r_2 => Q r_2)
theorem inX8_points_X8 : ∀ w ∈ wsX80, w ∈ wsX8_points := by decide +kernel
set_option maxRecDepth 100000 in
set_option maxHeartbeats 4000000 in
theorem c_X8_points (l : Launch) (D : va_G) (cA : Nat → ClassId) (lo : Nat) {M : Mm} {a0 : Nat} {Q : Int32 → Prop} (h : T_X8_points M a0 Q) : Met l yX8_points wsX8_points ({ frames := 1, cells := 0, slots := 0, locals := 20 } : Room) (PcM D cA lo [.ref a0] M) (QiM D cA lo (fun r M1 => M1 = M ∧ Q r)) 0 0 (fun q => lo ≤ q) := by
  refine q_start (cc := cX8_points) (nL := 1) (ret := (some .int)) (by decide) rfl rfl (Nat.le_of_ble_eq_true rfl) ?_
  intro p e s m args below meth c C hr hlk hin
  unfold T_X8_points at h
  refine q_aload_n C dX8_points_0 rfl (j := 0) rfl ?_
  refine q_getR (ci := 8) (k0 := 0) (T := TX8) C inX8_points_X8 rfl (by decide) h.1 (by decide) rfl (by decide +kernel) rfl dX8_points_1 ?_
  obtain ⟨a_1, z, h⟩ := h.2
  refine q_ref z ?_
  refine q_ci (q_runV (As := []) (st := []) C (c_X3_left l D cA lo h.2) (cwV 0 C.2.2.2.2.1 gX8_points_X3_left rfl rfl rfl (by decide +kernel) ⟨Nat.le_of_ble_eq_true rfl, Nat.le_of_ble_eq_true rfl⟩) h.1 (by decide) rfl rfl rfl (Nat.le_of_ble_eq_true rfl) dX8_points_4 ⟨Nat.le_of_ble_eq_true rfl, Nat.le_of_ble_eq_true rfl⟩) (fun r_2 M_z h => ?_)
  refine q_mem h.1 ?_
  have h := h.2
  exact q_iret C hr hlk dX8_points_7 (Nat.le_of_ble_eq_true rfl) (Nat.le_of_ble_eq_true rfl) ⟨rfl, h⟩
