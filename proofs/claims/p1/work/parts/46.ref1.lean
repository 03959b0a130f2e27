def S_X9_fill_21 (K21 : Nat → Mm → Prop) (Q : Int32 → Mm → Prop) (M : Mm) (a0 : Nat) : Prop := kM M a0 = (9, 13) ∧ T_X9_refuse M a0 1 (fun r_3 M_4 => Q r_3 M_4)
def T_X9_fill (M : Mm) (a0 : Nat) (i1 : Int32) (i2 : Int32) (Q : Int32 → Mm → Prop) : Prop := ∀ (K21 : Nat → Mm → Prop), (∀ (a0 : Nat) (M : Mm), S_X9_fill_21 K21 Q M a0 → K21 a0 M) → kM M a0 = (9, 13) ∧ kM (wI M a0 0 0) a0 = (9, 13) ∧ T_X9_isPoint (wI M a0 0 0) a0 i1 (fun r_1 => (r_1 = 0 → K21 a0 (wI M a0 0 0)) ∧ (¬ r_1 = 0 → kM (wI M a0 0 0) a0 = (9, 13) ∧ T_X9_isPoint (wI M a0 0 0) a0 i2 (fun r_2 => (¬ r_2 = 0 → False) ∧ (r_2 = 0 → K21 a0 (wI M a0 0 0)))))
theorem inX9_fill_X9 : ∀ w ∈ wsX90, w ∈ wsX9_fill := by decide +kernel
set_option maxRecDepth 100000 in
set_option maxHeartbeats 4000000 in
theorem b_X9_fill_21 {p : Program} {l : Launch} {e : Env} {s : State} {m : MethodId} {args : Array Value} {below : List Frame} {meth : Method} {c : Code} {D : va_G} {cA : Nat → ClassId} {lo : Nat} (C : Cx p s m args c cX9_fill 4 RX9 wsX9_fill D cA lo) (hr : meth.sig.returnType = (some .int)) (hlk : meth.locks = false) {Q : Int32 → Mm → Prop} (M : Mm) (a0 : Nat) (h : S_X9_fill_21 (fun (a0 : Nat) (M : Mm) => QW p l e ({ frames := 2, cells := 0, slots := 0, locals := 43 } : Room) s m args below meth c (MQ below (QiM D cA lo Q) args s 0 0 (fun q => lo ≤ q)) 4 D cA lo 0 0 M 21 [(0, .ref a0)] []) Q M a0) : QW p l e ({ frames := 2, cells := 0, slots := 0, locals := 43 } : Room) s m args below meth c (MQ below (QiM D cA lo Q) args s 0 0 (fun q => lo ≤ q)) 4 D cA lo 0 0 M 21 [(0, .ref a0)] [] := by
  unfold S_X9_fill_21 at h
  refine q_aload_n C dX9_fill_21 rfl (j := 0) rfl ?_
  refine q_iconst (v := 1) C dX9_fill_22 (by decide) ?_
  refine q_ci (q_runV (As := [.int 1]) (st := []) C (c_X9_refuse l D cA lo h.2) (cwV 1 C.2.2.2.2.1 gX9_fill_X9_refuse rfl rfl rfl (by decide +kernel) ⟨Nat.le_of_ble_eq_true rfl, Nat.le_of_ble_eq_true rfl⟩) h.1 (by decide) rfl rfl rfl (Nat.le_of_ble_eq_true rfl) dX9_fill_23 ⟨Nat.le_of_ble_eq_true rfl, Nat.le_of_ble_eq_true rfl⟩) (fun r_3 M_4 h => ?_)
  exact q_iret C hr hlk dX9_fill_26 (Nat.le_of_ble_eq_true rfl) (Nat.le_of_ble_eq_true rfl) h
set_option maxRecDepth 100000 in
set_option maxHeartbeats 4000000 in
theorem c_X9_fill (l : Launch) (D : va_G) (cA : Nat → ClassId) (lo : Nat) {M : Mm} {a0 : Nat} {i1 : Int32} {i2 : Int32} {Q : Int32 → Mm → Prop} (h : T_X9_fill M a0 i1 i2 Q) : Met l yX9_fill wsX9_fill ({ frames := 2, cells := 0, slots := 0, locals := 43 } : Room) (PcM D cA lo [.ref a0, .int i1, .int i2] M) (QiM D cA lo Q) 0 0 (fun q => lo ≤ q) := by
  refine q_start (cc := cX9_fill) (nL := 4) (ret := (some .int)) (by decide) rfl rfl (Nat.le_of_ble_eq_true rfl) ?_
  intro p e s m args below meth c C hr hlk hin
  unfold T_X9_fill at h
  have h := h (fun (a0 : Nat) (M : Mm) => QW p l e ({ frames := 2, cells := 0, slots := 0, locals := 43 } : Room) s m args below meth c (MQ below (QiM D cA lo Q) args s 0 0 (fun q => lo ≤ q)) 4 D cA lo 0 0 M 21 [(0, .ref a0)] []) (fun a0 M h => b_X9_fill_21 C hr hlk M a0 h)
  refine q_aload_n C dX9_fill_0 rfl (j := 0) rfl ?_
  refine q_iconst (v := 0) C dX9_fill_1 (by decide) ?_
  refine q_putI (ci := 9) (k0 := 0) (T := TX9) (v := 0) (ty := .int) C inX9_fill_X9 tyX9 tyX9_ok nmX9 rfl (by decide) h.1 (by decide) rfl (by decide +kernel) rfl (by decide +kernel) rfl rfl rfl dX9_fill_2 ?_
  have h := h.2
  refine q_aload_n C dX9_fill_5 rfl (j := 0) rfl ?_
  refine q_iload_n C dX9_fill_6 rfl (j := 1) rfl ?_
  refine q_ci (q_runV (As := [.int i1]) (st := []) C (c_X9_isPoint l D cA lo h.2) (cwV 1 C.2.2.2.2.1 gX9_fill_X9_isPoint rfl rfl rfl (by decide +kernel) ⟨Nat.le_of_ble_eq_true rfl, Nat.le_of_ble_eq_true rfl⟩) h.1 (by decide) rfl rfl rfl (Nat.le_of_ble_eq_true rfl) dX9_fill_7 ⟨Nat.le_of_ble_eq_true rfl, Nat.le_of_ble_eq_true rfl⟩) (fun r_1 M_z h => ?_)
  refine q_mem h.1 ?_
  have h := h.2
  refine q_if_eq (tgt := 21) C dX9_fill_10 (by decide) (fun z => ?_) (fun z => ?_)
  · have h := h.1 z
    exact q_sub [0] rfl h
  · have h := h.2 z
    refine q_aload_n C dX9_fill_13 rfl (j := 0) rfl ?_
    refine q_iload_n C dX9_fill_14 rfl (j := 2) rfl ?_
    refine q_ci (q_runV (As := [.int i2]) (st := []) C (c_X9_isPoint l D cA lo h.2) (cwV 1 C.2.2.2.2.1 gX9_fill_X9_isPoint rfl rfl rfl (by decide +kernel) ⟨Nat.le_of_ble_eq_true rfl, Nat.le_of_ble_eq_true rfl⟩) h.1 (by decide) rfl rfl rfl (Nat.le_of_ble_eq_true rfl) dX9_fill_15 ⟨Nat.le_of_ble_eq_true rfl, Nat.le_of_ble_eq_true rfl⟩) (fun r_2 M_z h => ?_)
    refine q_mem h.1 ?_
    have h := h.2
    refine q_if_ne (tgt := 27) C dX9_fill_18 (by decide) (fun z => ?_) (fun z => ?_)
    · have h := h.1 z
      refine q_aload_n C dX9_fill_27 rfl (j := 0) rfl ?_
      refine q_iload_n C dX9_fill_28 rfl (j := 1) rfl ?_
      refine q_iload_n C dX9_fill_29 rfl (j := 2) rfl ?_
      exact h.elim
    · have h := h.2 z
      exact q_sub [0] rfl h
def S_X9_edgesNow_4 (K4 : Nat → Int32 → Int32 → Prop) (K14 : Nat → Int32 → Int32 → Int32 → Prop) (Q : Int32 → Prop) (M : Mm) (a0 : Nat) (i1 : Int32) (i2 : Int32) : Prop := kM M a0 = (9, 13) ∧ ((iM M a0 3) ≤ i2 → Q i1) ∧ (¬ (iM M a0 3) ≤ i2 → K14 a0 i1 i2 0)
def S_X9_edgesNow_14 (K4 : Nat → Int32 → Int32 → Prop) (K14 : Nat → Int32 → Int32 → Int32 → Prop) (Q : Int32 → Prop) (M : Mm) (a0 : Nat) (i1 : Int32) (i2 : Int32) (i3 : Int32) : Prop := (i2 ≤ i3 → K4 a0 i1 (i2 + 1)) ∧ (¬ i2 ≤ i3 → False)
def T_X9_edgesNow (M : Mm) (a0 : Nat) (Q : Int32 → Prop) : Prop := ∀ (K4 : Nat → Int32 → Int32 → Prop) (K14 : Nat → Int32 → Int32 → Int32 → Prop), (∀ (a0 : Nat) (i1 : Int32) (i2 : Int32), S_X9_edgesNow_4 K4 K14 Q M a0 i1 i2 → K4 a0 i1 i2) → (∀ (a0 : Nat) (i1 : Int32) (i2 : Int32) (i3 : Int32), S_X9_edgesNow_14 K4 K14 Q M a0 i1 i2 i3 → K14 a0 i1 i2 i3) → K4 a0 0 0
theorem inX9_edgesNow_X9 : ∀ w ∈ wsX90, w ∈ wsX9_edgesNow := by decide +kernel
set_option maxRecDepth 100000 in
set_option maxHeartbeats 4000000 in
theorem b_X9_edgesNow_4 {p : Program} {l : Launch} {e : Env} {s : State} {m : MethodId} {args : Array Value} {below : List Frame} {meth : Method} {c : Code} {D : va_G} {cA : Nat → ClassId} {lo : Nat} (C : Cx p s m args c cX9_edgesNow 4 RX9 wsX9_edgesNow D cA lo) (hr : meth.sig.returnType = (some .int)) (hlk : meth.locks = false) {Q : Int32 → Prop} {M : Mm} (a0 : Nat) (i1 : Int32) (i2 : Int32) (h : S_X9_edgesNow_4 (fun (a0 : Nat) (i1 : Int32) (i2 : Int32) => QW p l e ({ frames := 0, cells := 0, slots := 0, locals := 0 } : Room) s m args below meth c (MQ below (QiM D cA lo (fun r M1 => M1 = M ∧ Q r)) args s 0 0 (fun q => lo ≤ q)) 4 D cA lo 0 0 M 4 [(0, .ref a0), (1, .int i1), (2, .int i2)] []) (fun (a0 : Nat) (i1 : Int32) (i2 : Int32) (i3 : Int32) => QW p l e ({ frames := 0, cells := 0, slots := 0, locals := 0 } : Room) s m args below meth c (MQ below (QiM D cA lo (fun r M1 => M1 = M ∧ Q r)) args s 0 0 (fun q => lo ≤ q)) 4 D cA lo 0 0 M 14 [(0, .ref a0), (1, .int i1), (2, .int i2), (3, .int i3)] []) Q M a0 i1 i2) : QW p l e ({ frames := 0, cells := 0, slots := 0, locals := 0 } : Room) s m args below meth c (MQ below (QiM D cA lo (fun r M1 => M1 = M ∧ Q r)) args s 0 0 (fun q => lo ≤ q)) 4 D cA lo 0 0 M 4 [(0, .ref a0), (1, .int i1), (2, .int i2)] [] := by
  unfold S_X9_edgesNow_4 at h
  refine q_iload_n C dX9_edgesNow_4 rfl (j := 2) rfl ?_
  refine q_aload_n C dX9_edgesNow_5 rfl (j := 0) rfl ?_
  refine q_getI (ci := 9) (k0 := 3) (T := TX9) C inX9_edgesNow_X9 rfl (by decide) h.1 (by decide) rfl (by decide +kernel) rfl dX9_edgesNow_6 ?_
  have h := h.2
  refine q_icmp_ge (tgt := 48) C dX9_edgesNow_9 (by decide) (fun z => ?_) (fun z => ?_)
  · have h := h.1 z
    refine q_iload_n C dX9_edgesNow_48 rfl (j := 1) rfl ?_
    exact q_iret C hr hlk dX9_edgesNow_49 (Nat.le_of_ble_eq_true rfl) (Nat.le_of_ble_eq_true rfl) ⟨rfl, h⟩
  · have h := h.2 z
    refine q_iconst (v := 0) C dX9_edgesNow_12 (by decide) ?_
    refine q_istore_n (lv' := [(3, .int 0), (0, .ref a0), (1, .int i1), (2, .int i2)]) C dX9_edgesNow_13 rfl (by decide) rfl ?_
    exact q_sub [1, 2, 3, 0] rfl h
set_option maxRecDepth 100000 in
set_option maxHeartbeats 4000000 in
theorem b_X9_edgesNow_14 {p : Program} {l : Launch} {e : Env} {s : State} {m : MethodId} {args : Array Value} {below : List Frame} {meth : Method} {c : Code} {D : va_G} {cA : Nat → ClassId} {lo : Nat} (C : Cx p s m args c cX9_edgesNow 4 RX9 wsX9_edgesNow D cA lo) (hr : meth.sig.returnType = (some .int)) (hlk : meth.locks = false) {Q : Int32 → Prop} {M : Mm} (a0 : Nat) (i1 : Int32) (i2 : Int32) (i3 : Int32) (h : S_X9_edgesNow_14 (fun (a0 : Nat) (i1 : Int32) (i2 : Int32) => QW p l e ({ frames := 0, cells := 0, slots := 0, locals := 0 } : Room) s m args below meth c (MQ below (QiM D cA lo (fun r M1 => M1 = M ∧ Q r)) args s 0 0 (fun q => lo ≤ q)) 4 D cA lo 0 0 M 4 [(0, .ref a0), (1, .int i1), (2, .int i2)] []) (fun (a0 : Nat) (i1 : Int32) (i2 : Int32) (i3 : Int32) => QW p l e ({ frames := 0, cells := 0, slots := 0, locals := 0 } : Room) s m args below meth c (MQ below (QiM D cA lo (fun r M1 => M1 = M ∧ Q r)) args s 0 0 (fun q => lo ≤ q)) 4 D cA lo 0 0 M 14 [(0, .ref a0), (1, .int i1), (2, .int i2), (3, .int i3)] []) Q M a0 i1 i2 i3) : QW p l e ({ frames := 0, cells := 0, slots := 0, locals := 0 } : Room) s m args below meth c (MQ below (QiM D cA lo (fun r M1 => M1 = M ∧ Q r)) args s 0 0 (fun q => lo ≤ q)) 4 D cA lo 0 0 M 14 [(0, .ref a0), (1, .int i1), (2, .int i2), (3, .int i3)] [] := by
  unfold S_X9_edgesNow_14 at h
  refine q_iload_n C dX9_edgesNow_14 rfl (j := 3) rfl ?_
  refine q_iload_n C dX9_edgesNow_15 rfl (j := 2) rfl ?_
  refine q_icmp_ge (tgt := 42) C dX9_edgesNow_16 (by decide) (fun z => ?_) (fun z => ?_)
  · have h := h.1 z
    refine q_iinc (v := (i2 + 1)) (lv' := [(2, .int (i2 + 1)), (0, .ref a0), (1, .int i1), (3, .int i3)]) C dX9_edgesNow_42 (j := 2) rfl rfl (by decide) rfl ?_
    refine q_goto (tgt := 4) C dX9_edgesNow_45 (by decide) ?_
    exact q_sub [1, 2, 0] rfl h
  · have h := h.2 z
    refine q_iload_n C dX9_edgesNow_19 rfl (j := 1) rfl ?_
    refine q_aload_n C dX9_edgesNow_20 rfl (j := 0) rfl ?_
    refine q_iload_n C dX9_edgesNow_21 rfl (j := 2) rfl ?_
    refine q_iload_n C dX9_edgesNow_22 rfl (j := 3) rfl ?_
    exact h.elim
set_option maxRecDepth 100000 in
set_option maxHeartbeats 4000000 in
theorem c_X9_edgesNow (l : Launch) (D : va_G) (cA : Nat → ClassId) (lo : Nat) {M : Mm} {a0 : Nat} {Q : Int32 → Prop} (h : T_X9_edgesNow M a0 Q) : Met l yX9_edgesNow wsX9_edgesNow ({ frames := 0, cells := 0, slots := 0, locals := 0 } : Room) (PcM D cA lo [.ref a0] M) (QiM D cA lo (fun r M1 => M1 = M ∧ Q r)) 0 0 (fun q => lo ≤ q) := by
  refine q_start (cc := cX9_edgesNow) (nL := 4) (ret := (some .int)) (by decide) rfl rfl (Nat.le_of_ble_eq_true rfl) ?_
  intro p e s m args below meth c C hr hlk hin
  unfold T_X9_edgesNow at h
  have h := h (fun (a0 : Nat) (i1 : Int32) (i2 : Int32) => QW p l e ({ frames := 0, cells := 0, slots := 0, locals := 0 } : Room) s m args below meth c (MQ below (QiM D cA lo (fun r M1 => M1 = M ∧ Q r)) args s 0 0 (fun q => lo ≤ q)) 4 D cA lo 0 0 M 4 [(0, .ref a0), (1, .int i1), (2, .int i2)] []) (fun (a0 : Nat) (i1 : Int32) (i2 : Int32) (i3 : Int32) => QW p l e ({ frames := 0, cells := 0, slots := 0, locals := 0 } : Room) s m args below meth c (MQ below (QiM D cA lo (fun r M1 => M1 = M ∧ Q r)) args s 0 0 (fun q => lo ≤ q)) 4 D cA lo 0 0 M 14 [(0, .ref a0), (1, .int i1), (2, .int i2), (3, .int i3)] []) (fun a0 i1 i2 h => b_X9_edgesNow_4 C hr hlk a0 i1 i2 h) (fun a0 i1 i2 i3 h => b_X9_edgesNow_14 C hr hlk a0 i1 i2 i3 h)
  refine q_iconst (v := 0) C dX9_edgesNow_0 (by decide) ?_
  refine q_istore_n (lv' := [(1, .int 0), (0, .ref a0)]) C dX9_edgesNow_1 rfl (by decide) rfl ?_
  refine q_iconst (v := 0) C dX9_edgesNow_2 (by decide) ?_
  refine q_istore_n (lv' := [(2, .int 0), (1, .int 0), (0, .ref a0)]) C dX9_edgesNow_3 rfl (by decide) rfl ?_
  exact q_sub [2, 1, 0] rfl h
def S_X9_quarters_14 (K14 : Nat → Int32 → Int32 → Int32 → Mm → Nat → Nat → Prop) (K79 : Nat → Mm → Nat → Nat → Prop) (K107 : Nat → Int32 → Int32 → Nat → Int32 → Mm → Nat → Nat → Prop) (K193 : Nat → Int32 → Nat → Nat → Int32 → Mm → Nat → Nat → Prop) (K119 : Nat → Int32 → Int32 → Nat → Int32 → Int32 → Mm → Nat → Nat → Prop) (K264 : Nat → Int32 → Nat → Nat → Int32 → Mm → Nat → Nat → Prop) (K387 : Nat → Int32 → Int32 → Mm → Nat → Nat → Prop) (K301 : Nat → Int32 → Nat → Nat → Int32 → Nat → Int32 → Int32 → Mm → Nat → Nat → Prop) (Cc Zz : Nat) (Q : Int32 → Mm → Prop) (M : Mm) (a0 : Nat) (i1 : Int32) (i2 : Int32) (i3 : Int32) (cc zz : Nat) : Prop := kM M a0 = (9, 13) ∧ ((iM M a0 5) ≤ i3 → kM M a0 = (9, 13) ∧ (cc ≤ Cc ∧ zz ≤ Zz) ∧ kM M a0 = (9, 13) ∧ T_X9_facesNow M a0 (fun r_2 => (100 < (((iM M a0 3) + i1) + r_2) → K79 a0 M cc zz) ∧ (¬ 100 < (((iM M a0 3) + i1) + r_2) → kM M a0 = (9, 13) ∧ (((iM M a0 5) + i2) ≤ 160 → kM M a0 = (9, 13) ∧ kM M a0 = (9, 13) ∧ (¬ (iM M a0 3) < 0) ∧ (¬ (iM M a0 3) < 0) ∧ (iM M a0 3).toNatClampNeg ≤ 1000 ∧ (iM M a0 3).toNatClampNeg ≤ 1000 ∧ cc + (1 + (iM M a0 3).toNatClampNeg) ≤ Cc ∧ zz + ((iM M a0 3).toNatClampNeg + (iM M a0 3).toNatClampNeg * (iM M a0 3).toNatClampNeg) ≤ Zz ∧ ∀ q_3 : Nat, frs M q_3 → K107 a0 (iM M a0 3) (iM M a0 5) q_3 0 (wG M q_3 121 100 (iM M a0 3).toNatClampNeg (iM M a0 3).toNatClampNeg) (cc + 1 + (iM M a0 3).toNatClampNeg) (zz + (iM M a0 3).toNatClampNeg + (iM M a0 3).toNatClampNeg * (iM M a0 3).toNatClampNeg)) ∧ (¬ ((iM M a0 5) + i2) ≤ 160 → K79 a0 M cc zz)))) ∧ (¬ (iM M a0 5) ≤ i3 → kM M a0 = (9, 13) ∧ ∃ a_4 : Nat, rM M a0 4 = some a_4 ∧ ∃ n_5 : Nat, kM M a_4 = (121, n_5) ∧ vp_in i3 n_5 ∧ (∀ a_6 : Nat, (rM M a_4 i3.toNatClampNeg) = some a_6 → kM M a0 = (9, 13) ∧ ∃ a_7 : Nat, rM M a0 4 = some a_7 ∧ ∃ n_8 : Nat, kM M a_7 = (121, n_8) ∧ vp_in i3 n_8 ∧ ∃ a_9 : Nat, rM M a_7 i3.toNatClampNeg = some a_9 ∧ ∃ k_11 n_10 : Nat, kM M a_9 = (k_11, n_10) ∧ ak k_11 ∧ K14 a0 i1 (i2 + (nI n_10)) (i3 + 1) M cc zz) ∧ ((rM M a_4 i3.toNatClampNeg) = none → K14 a0 i1 (i2 + 0) (i3 + 1) M cc zz))
def S_X9_quarters_79 (K14 : Nat → Int32 → Int32 → Int32 → Mm → Nat → Nat → Prop) (K79 : Nat → Mm → Nat → Nat → Prop) (K107 : Nat → Int32 → Int32 → Nat → Int32 → Mm → Nat → Nat → Prop) (K193 : Nat → Int32 → Nat → Nat → Int32 → Mm → Nat → Nat → Prop) (K119 : Nat → Int32 → Int32 → Nat → Int32 → Int32 → Mm → Nat → Nat → Prop) (K264 : Nat → Int32 → Nat → Nat → Int32 → Mm → Nat → Nat → Prop) (K387 : Nat → Int32 → Int32 → Mm → Nat → Nat → Prop) (K301 : Nat → Int32 → Nat → Nat → Int32 → Nat → Int32 → Int32 → Mm → Nat → Nat → Prop) (Cc Zz : Nat) (Q : Int32 → Mm → Prop) (M : Mm) (a0 : Nat) (cc zz : Nat) : Prop := (cc ≤ Cc ∧ zz ≤ Zz) ∧ kM M a0 = (9, 13) ∧ T_X9_refuse M a0 1 (fun r_12 M_13 => cc ≤ Cc ∧ zz ≤ Zz ∧ Q r_12 M_13)
def S_X9_quarters_107 (K14 : Nat → Int32 → Int32 → Int32 → Mm → Nat → Nat → Prop) (K79 : Nat → Mm → Nat → Nat → Prop) (K107 : Nat → Int32 → Int32 → Nat → Int32 → Mm → Nat → Nat → Prop) (K193 : Nat → Int32 → Nat → Nat → Int32 → Mm → Nat → Nat → Prop) (K119 : Nat → Int32 → Int32 → Nat → Int32 → Int32 → Mm → Nat → Nat → Prop) (K264 : Nat → Int32 → Nat → Nat → Int32 → Mm → Nat → Nat → Prop) (K387 : Nat → Int32 → Int32 → Mm → Nat → Nat → Prop) (K301 : Nat → Int32 → Nat → Nat → Int32 → Nat → Int32 → Int32 → Mm → Nat → Nat → Prop) (Cc Zz : Nat) (Q : Int32 → Mm → Prop) (M : Mm) (a0 : Nat) (i3 : Int32) (i4 : Int32) (a5 : Nat) (i6 : Int32) (cc zz : Nat) : Prop := (i3 ≤ i6 → cc + 1 ≤ Cc ∧ zz + 160 ≤ Zz ∧ ∀ q_14 : Nat, frs M q_14 → K193 a0 i4 a5 q_14 0 (wN M q_14 100 160) (cc + 1) (zz + 160)) ∧ (¬ i3 ≤ i6 → K119 a0 i3 i4 a5 i6 (i6 + 1) M cc zz)
def S_X9_quarters_193 (K14 : Nat → Int32 → Int32 → Int32 → Mm → Nat → Nat → Prop) (K79 : Nat → Mm → Nat → Nat → Prop) (K107 : Nat → Int32 → Int32 → Nat → Int32 → Mm → Nat → Nat → Prop) (K193 : Nat → Int32 → Nat → Nat → Int32 → Mm → Nat → Nat → Prop) (K119 : Nat → Int32 → Int32 → Nat → Int32 → Int32 → Mm → Nat → Nat → Prop) (K264 : Nat → Int32 → Nat → Nat → Int32 → Mm → Nat → Nat → Prop) (K387 : Nat → Int32 → Int32 → Mm → Nat → Nat → Prop) (K301 : Nat → Int32 → Nat → Nat → Int32 → Nat → Int32 → Int32 → Mm → Nat → Nat → Prop) (Cc Zz : Nat) (Q : Int32 → Mm → Prop) (M : Mm) (a0 : Nat) (i4 : Int32) (a5 : Nat) (a6 : Nat) (i7 : Int32) (cc zz : Nat) : Prop := (i4 ≤ i7 → K264 a0 i4 a5 a6 0 M cc zz) ∧ (¬ i4 ≤ i7 → kM M a0 = (9, 13) ∧ ∃ a_15 : Nat, rM M a0 4 = some a_15 ∧ ∃ n_16 : Nat, kM M a_15 = (121, n_16) ∧ vp_in i7 n_16 ∧ ((rM M a_15 i7.toNatClampNeg) = none → K193 a0 i4 a5 a6 (i7 + 1) M cc zz) ∧ (∀ a_17 : Nat, (rM M a_15 i7.toNatClampNeg) = some a_17 → kM M a0 = (9, 13) ∧ ∃ a_18 : Nat, rM M a0 4 = some a_18 ∧ ∃ n_19 : Nat, kM M a_18 = (121, n_19) ∧ vp_in i7 n_19 ∧ ∃ a_20 : Nat, rM M a_18 i7.toNatClampNeg = some a_20 ∧ False))
def S_X9_quarters_119 (K14 : Nat → Int32 → Int32 → Int32 → Mm → Nat → Nat → Prop) (K79 : Nat → Mm → Nat → Nat → Prop) (K107 : Nat → Int32 → Int32 → Nat → Int32 → Mm → Nat → Nat → Prop) (K193 : Nat → Int32 → Nat → Nat → Int32 → Mm → Nat → Nat → Prop) (K119 : Nat → Int32 → Int32 → Nat → Int32 → Int32 → Mm → Nat → Nat → Prop) (K264 : Nat → Int32 → Nat → Nat → Int32 → Mm → Nat → Nat → Prop) (K387 : Nat → Int32 → Int32 → Mm → Nat → Nat → Prop) (K301 : Nat → Int32 → Nat → Nat → Int32 → Nat → Int32 → Int32 → Mm → Nat → Nat → Prop) (Cc Zz : Nat) (Q : Int32 → Mm → Prop) (M : Mm) (a0 : Nat) (i3 : Int32) (i4 : Int32) (a5 : Nat) (i6 : Int32) (i7 : Int32) (cc zz : Nat) : Prop := (i3 ≤ i7 → K107 a0 i3 i4 a5 (i6 + 1) M cc zz) ∧ (¬ i3 ≤ i7 → False)
def S_X9_quarters_264 (K14 : Nat → Int32 → Int32 → Int32 → Mm → Nat → Nat → Prop) (K79 : Nat → Mm → Nat → Nat → Prop) (K107 : Nat → Int32 → Int32 → Nat → Int32 → Mm → Nat → Nat → Prop) (K193 : Nat → Int32 → Nat → Nat → Int32 → Mm → Nat → Nat → Prop) (K119 : Nat → Int32 → Int32 → Nat → Int32 → Int32 → Mm → Nat → Nat → Prop) (K264 : Nat → Int32 → Nat → Nat → Int32 → Mm → Nat → Nat → Prop) (K387 : Nat → Int32 → Int32 → Mm → Nat → Nat → Prop) (K301 : Nat → Int32 → Nat → Nat → Int32 → Nat → Int32 → Int32 → Mm → Nat → Nat → Prop) (Cc Zz : Nat) (Q : Int32 → Mm → Prop) (M : Mm) (a0 : Nat) (i4 : Int32) (a5 : Nat) (a6 : Nat) (i7 : Int32) (cc zz : Nat) : Prop := (i4 ≤ i7 → K387 a0 i4 0 M cc zz) ∧ (¬ i4 ≤ i7 → kM M a0 = (9, 13) ∧ ∃ a_21 : Nat, rM M a0 4 = some a_21 ∧ ∃ n_22 : Nat, kM M a_21 = (121, n_22) ∧ vp_in i7 n_22 ∧ (∀ a_23 : Nat, (rM M a_21 i7.toNatClampNeg) = some a_23 → kM M a0 = (9, 13) ∧ ∃ a_24 : Nat, rM M a0 4 = some a_24 ∧ ∃ n_25 : Nat, kM M a_24 = (121, n_25) ∧ vp_in i7 n_25 ∧ ∃ a_26 : Nat, rM M a_24 i7.toNatClampNeg = some a_26 ∧ ∃ k_28 n_27 : Nat, kM M a_26 = (k_28, n_27) ∧ ak k_28 ∧ K301 a0 i4 a5 a6 i7 a_26 (nI n_27) 0 M cc zz) ∧ ((rM M a_21 i7.toNatClampNeg) = none → K264 a0 i4 a5 a6 (i7 + 1) M cc zz))
def S_X9_quarters_387 (K14 : Nat → Int32 → Int32 → Int32 → Mm → Nat → Nat → Prop) (K79 : Nat → Mm → Nat → Nat → Prop) (K107 : Nat → Int32 → Int32 → Nat → Int32 → Mm → Nat → Nat → Prop) (K193 : Nat → Int32 → Nat → Nat → Int32 → Mm → Nat → Nat → Prop) (K119 : Nat → Int32 → Int32 → Nat → Int32 → Int32 → Mm → Nat → Nat → Prop) (K264 : Nat → Int32 → Nat → Nat → Int32 → Mm → Nat → Nat → Prop) (K387 : Nat → Int32 → Int32 → Mm → Nat → Nat → Prop) (K301 : Nat → Int32 → Nat → Nat → Int32 → Nat → Int32 → Int32 → Mm → Nat → Nat → Prop) (Cc Zz : Nat) (Q : Int32 → Mm → Prop) (M : Mm) (a0 : Nat) (i4 : Int32) (i7 : Int32) (cc zz : Nat) : Prop := (i4 ≤ i7 → (cc ≤ Cc ∧ zz ≤ Zz) ∧ kM M a0 = (9, 13) ∧ T_X9_table M a0 (fun M_30 => (cc ≤ Cc ∧ zz ≤ Zz) ∧ kM M_30 a0 = (9, 13) ∧ T_X9_facesNow M_30 a0 (fun r_31 => cc ≤ Cc ∧ zz ≤ Zz ∧ Q r_31 M_30))) ∧ (¬ i4 ≤ i7 → kM M a0 = (9, 13) ∧ ∃ a_32 : Nat, rM M a0 4 = some a_32 ∧ False)
def S_X9_quarters_301 (K14 : Nat → Int32 → Int32 → Int32 → Mm → Nat → Nat → Prop) (K79 : Nat → Mm → Nat → Nat → Prop) (K107 : Nat → Int32 → Int32 → Nat → Int32 → Mm → Nat → Nat → Prop) (K193 : Nat → Int32 → Nat → Nat → Int32 → Mm → Nat → Nat → Prop) (K119 : Nat → Int32 → Int32 → Nat → Int32 → Int32 → Mm → Nat → Nat → Prop) (K264 : Nat → Int32 → Nat → Nat → Int32 → Mm → Nat → Nat → Prop) (K387 : Nat → Int32 → Int32 → Mm → Nat → Nat → Prop) (K301 : Nat → Int32 → Nat → Nat → Int32 → Nat → Int32 → Int32 → Mm → Nat → Nat → Prop) (Cc Zz : Nat) (Q : Int32 → Mm → Prop) (M : Mm) (a0 : Nat) (i4 : Int32) (a5 : Nat) (a6 : Nat) (i7 : Int32) (a8 : Nat) (i9 : Int32) (i10 : Int32) (cc zz : Nat) : Prop := (i9 ≤ i10 → K264 a0 i4 a5 a6 (i7 + 1) M cc zz) ∧ (¬ i9 ≤ i10 → ∃ n_35 : Nat, kM M a8 = (100, n_35) ∧ vp_in i10 n_35 ∧ cc + 1 ≤ Cc ∧ zz + 4 ≤ Zz ∧ ∀ q_36 : Nat, frs M q_36 → ∃ n_37 : Nat, kM (wN M q_36 100 4) q_36 = (100, n_37) ∧ vp_in 0 n_37 ∧ ∃ n_38 : Nat, kM (wI (wN M q_36 100 4) q_36 (0 : Int32).toNatClampNeg (iM M a8 i10.toNatClampNeg)) a5 = (121, n_38) ∧ vp_in (iM M a8 i10.toNatClampNeg) n_38 ∧ ∃ a_39 : Nat, rM (wI (wN M q_36 100 4) q_36 (0 : Int32).toNatClampNeg (iM M a8 i10.toNatClampNeg)) a5 (iM M a8 i10.toNatClampNeg).toNatClampNeg = some a_39 ∧ False)
def T_X9_quarters (Cc Zz : Nat) (M : Mm) (a0 : Nat) (Q : Int32 → Mm → Prop) : Prop := ∀ (K14 : Nat → Int32 → Int32 → Int32 → Mm → Nat → Nat → Prop) (K79 : Nat → Mm → Nat → Nat → Prop) (K107 : Nat → Int32 → Int32 → Nat → Int32 → Mm → Nat → Nat → Prop) (K193 : Nat → Int32 → Nat → Nat → Int32 → Mm → Nat → Nat → Prop) (K119 : Nat → Int32 → Int32 → Nat → Int32 → Int32 → Mm → Nat → Nat → Prop) (K264 : Nat → Int32 → Nat → Nat → Int32 → Mm → Nat → Nat → Prop) (K387 : Nat → Int32 → Int32 → Mm → Nat → Nat → Prop) (K301 : Nat → Int32 → Nat → Nat → Int32 → Nat → Int32 → Int32 → Mm → Nat → Nat → Prop), (∀ (a0 : Nat) (i1 : Int32) (i2 : Int32) (i3 : Int32) (M : Mm) (cc zz : Nat), S_X9_quarters_14 K14 K79 K107 K193 K119 K264 K387 K301 Cc Zz Q M a0 i1 i2 i3 cc zz → K14 a0 i1 i2 i3 M cc zz) → (∀ (a0 : Nat) (M : Mm) (cc zz : Nat), S_X9_quarters_79 K14 K79 K107 K193 K119 K264 K387 K301 Cc Zz Q M a0 cc zz → K79 a0 M cc zz) → (∀ (a0 : Nat) (i3 : Int32) (i4 : Int32) (a5 : Nat) (i6 : Int32) (M : Mm) (cc zz : Nat), S_X9_quarters_107 K14 K79 K107 K193 K119 K264 K387 K301 Cc Zz Q M a0 i3 i4 a5 i6 cc zz → K107 a0 i3 i4 a5 i6 M cc zz) → (∀ (a0 : Nat) (i4 : Int32) (a5 : Nat) (a6 : Nat) (i7 : Int32) (M : Mm) (cc zz : Nat), S_X9_quarters_193 K14 K79 K107 K193 K119 K264 K387 K301 Cc Zz Q M a0 i4 a5 a6 i7 cc zz → K193 a0 i4 a5 a6 i7 M cc zz) → (∀ (a0 : Nat) (i3 : Int32) (i4 : Int32) (a5 : Nat) (i6 : Int32) (i7 : Int32) (M : Mm) (cc zz : Nat), S_X9_quarters_119 K14 K79 K107 K193 K119 K264 K387 K301 Cc Zz Q M a0 i3 i4 a5 i6 i7 cc zz → K119 a0 i3 i4 a5 i6 i7 M cc zz) → (∀ (a0 : Nat) (i4 : Int32) (a5 : Nat) (a6 : Nat) (i7 : Int32) (M : Mm) (cc zz : Nat), S_X9_quarters_264 K14 K79 K107 K193 K119 K264 K387 K301 Cc Zz Q M a0 i4 a5 a6 i7 cc zz → K264 a0 i4 a5 a6 i7 M cc zz) → (∀ (a0 : Nat) (i4 : Int32) (i7 : Int32) (M : Mm) (cc zz : Nat), S_X9_quarters_387 K14 K79 K107 K193 K119 K264 K387 K301 Cc Zz Q M a0 i4 i7 cc zz → K387 a0 i4 i7 M cc zz) → (∀ (a0 : Nat) (i4 : Int32) (a5 : Nat) (a6 : Nat) (i7 : Int32) (a8 : Nat) (i9 : Int32) (i10 : Int32) (M : Mm) (cc zz : Nat), S_X9_quarters_301 K14 K79 K107 K193 K119 K264 K387 K301 Cc Zz Q M a0 i4 a5 a6 i7 a8 i9 i10 cc zz → K301 a0 i4 a5 a6 i7 a8 i9 i10 M cc zz) → kM M a0 = (9, 13) ∧ (0 ≤ Cc ∧ 0 ≤ Zz) ∧ kM (wI M a0 0 0) a0 = (9, 13) ∧ T_X9_edgesNow (wI M a0 0 0) a0 (fun r_1 => K14 a0 r_1 0 0 (wI M a0 0 0) 0 0)
theorem inX9_quarters_X9 : ∀ w ∈ wsX90, w ∈ wsX9_quarters := by decide +kernel
set_option maxRecDepth 100000 in
set_option maxHeartbeats 4000000 in
theorem b_X9_quarters_14 {p : Program} {l : Launch} {e : Env} {s : State} {m : MethodId} {args : Array Value} {below : List Frame} {meth : Method} {c : Code} {D : va_G} {cA : Nat → ClassId} {lo : Nat} (C : Cx p s m args c cX9_quarters 12 RX9 wsX9_quarters D cA lo) (hr : meth.sig.returnType = (some .int)) (hlk : meth.locks = false) {Q : Int32 → Mm → Prop} {Cc Zz : Nat} (M : Mm) (a0 : Nat) (i1 : Int32) (i2 : Int32) (i3 : Int32) (cc zz : Nat) (h : S_X9_quarters_14 (fun (a0 : Nat) (i1 : Int32) (i2 : Int32) (i3 : Int32) (M : Mm) (cc zz : Nat) => QW p l e ({ frames := 3, cells := Cc, slots := Zz, locals := 84 } : Room) s m args below meth c (MQ below (QiM D cA lo Q) args s Cc Zz (fun q => lo ≤ q)) 12 D cA lo cc zz M 14 [(0, .ref a0), (1, .int i1), (2, .int i2), (3, .int i3)] []) (fun (a0 : Nat) (M : Mm) (cc zz : Nat) => QW p l e ({ frames := 3, cells := Cc, slots := Zz, locals := 84 } : Room) s m args below meth c (MQ below (QiM D cA lo Q) args s Cc Zz (fun q => lo ≤ q)) 12 D cA lo cc zz M 79 [(0, .ref a0)] []) (fun (a0 : Nat) (i3 : Int32) (i4 : Int32) (a5 : Nat) (i6 : Int32) (M : Mm) (cc zz : Nat) => QW p l e ({ frames := 3, cells := Cc, slots := Zz, locals := 84 } : Room) s m args below meth c (MQ below (QiM D cA lo Q) args s Cc Zz (fun q => lo ≤ q)) 12 D cA lo cc zz M 107 [(0, .ref a0), (3, .int i3), (4, .int i4), (5, .ref a5), (6, .int i6)] []) (fun (a0 : Nat) (i4 : Int32) (a5 : Nat) (a6 : Nat) (i7 : Int32) (M : Mm) (cc zz : Nat) => QW p l e ({ frames := 3, cells := Cc, slots := Zz, locals := 84 } : Room) s m args below meth c (MQ below (QiM D cA lo Q) args s Cc Zz (fun q => lo ≤ q)) 12 D cA lo cc zz M 193 [(0, .ref a0), (4, .int i4), (5, .ref a5), (6, .ref a6), (7, .int i7)] []) (fun (a0 : Nat) (i3 : Int32) (i4 : Int32) (a5 : Nat) (i6 : Int32) (i7 : Int32) (M : Mm) (cc zz : Nat) => QW p l e ({ frames := 3, cells := Cc, slots := Zz, locals := 84 } : Room) s m args below meth c (MQ below (QiM D cA lo Q) args s Cc Zz (fun q => lo ≤ q)) 12 D cA lo cc zz M 119 [(0, .ref a0), (3, .int i3), (4, .int i4), (5, .ref a5), (6, .int i6), (7, .int i7)] []) (fun (a0 : Nat) (i4 : Int32) (a5 : Nat) (a6 : Nat) (i7 : Int32) (M : Mm) (cc zz : Nat) => QW p l e ({ frames := 3, cells := Cc, slots := Zz, locals := 84 } : Room) s m args below meth c (MQ below (QiM D cA lo Q) args s Cc Zz (fun q => lo ≤ q)) 12 D cA lo cc zz M 264 [(0, .ref a0), (4, .int i4), (5, .ref a5), (6, .ref a6), (7, .int i7)] []) (fun (a0 : Nat) (i4 : Int32) (i7 : Int32) (M : Mm) (cc zz : Nat) => QW p l e ({ frames := 3, cells := Cc, slots := Zz, locals := 84 } : Room) s m args below meth c (MQ below (QiM D cA lo Q) args s Cc Zz (fun q => lo ≤ q)) 12 D cA lo cc zz M 387 [(0, .ref a0), (4, .int i4), (7, .int i7)] []) (fun (a0 : Nat) (i4 : Int32) (a5 : Nat) (a6 : Nat) (i7 : Int32) (a8 : Nat) (i9 : Int32) (i10 : Int32) (M : Mm) (cc zz : Nat) => QW p l e ({ frames := 3, cells := Cc, slots := Zz, locals := 84 } : Room) s m args below meth c (MQ below (QiM D cA lo Q) args s Cc Zz (fun q => lo ≤ q)) 12 D cA lo cc zz M 301 [(0, .ref a0), (4, .int i4), (5, .ref a5), (6, .ref a6), (7, .int i7), (8, .ref a8), (9, .int i9), (10, .int i10)] []) Cc Zz Q M a0 i1 i2 i3 cc zz) : QW p l e ({ frames := 3, cells := Cc, slots := Zz, locals := 84 } : Room) s m args below meth c (MQ below (QiM D cA lo Q) args s Cc Zz (fun q => lo ≤ q)) 12 D cA lo cc zz M 14 [(0, .ref a0), (1, .int i1), (2, .int i2), (3, .int i3)] [] := by
  unfold S_X9_quarters_14 at h
  refine q_iload_n C dX9_quarters_14 rfl (j := 3) rfl ?_
  refine q_aload_n C dX9_quarters_15 rfl (j := 0) rfl ?_
  refine q_getI (ci := 9) (k0 := 5) (T := TX9) C inX9_quarters_X9 rfl (by decide) h.1 (by decide) rfl (by decide +kernel) rfl dX9_quarters_16 ?_
  have h := h.2
  refine q_icmp_ge (tgt := 51) C dX9_quarters_19 (by decide) (fun z => ?_) (fun z => ?_)
  · have h := h.1 z
    refine q_aload_n C dX9_quarters_51 rfl (j := 0) rfl ?_
    refine q_getI (ci := 9) (k0 := 3) (T := TX9) C inX9_quarters_X9 rfl (by decide) h.1 (by decide) rfl (by decide +kernel) rfl dX9_quarters_52 ?_
    have h := h.2
    refine q_iload_n C dX9_quarters_55 rfl (j := 1) rfl ?_
    refine q_iadd C dX9_quarters_56 ?_
    refine q_aload_n C dX9_quarters_57 rfl (j := 0) rfl ?_
    have hcz := h.1
    have h := h.2
    refine q_ci (q_runV (As := []) (st := [.int ((iM M a0 3) + i1)]) C (c_X9_facesNow l D cA lo h.2) (cwV 0 C.2.2.2.2.1 gX9_quarters_X9_facesNow rfl rfl rfl (by decide +kernel) ⟨Nat.le_of_ble_eq_true rfl, Nat.le_of_ble_eq_true rfl⟩) h.1 (by decide) rfl rfl rfl (Nat.le_of_ble_eq_true rfl) dX9_quarters_58 ⟨Nat.le_trans (Nat.le_of_eq (Nat.add_zero _)) hcz.1, Nat.le_trans (Nat.le_of_eq (Nat.add_zero _)) hcz.2⟩) (fun r_2 M_z h => ?_)
    refine q_mem h.1 ?_
    have h := h.2
    refine q_iadd C dX9_quarters_61 ?_
    refine q_bipush (v := 100) C dX9_quarters_62 (by decide) ?_
    refine q_icmp_gt (tgt := 79) C dX9_quarters_64 (by decide) (fun z => ?_) (fun z => ?_)
    · have h := h.1 z
      exact q_sub [0] rfl h
    · have h := h.2 z
      refine q_aload_n C dX9_quarters_67 rfl (j := 0) rfl ?_
      refine q_getI (ci := 9) (k0 := 5) (T := TX9) C inX9_quarters_X9 rfl (by decide) h.1 (by decide) rfl (by decide +kernel) rfl dX9_quarters_68 ?_
      have h := h.2
      refine q_iload_n C dX9_quarters_71 rfl (j := 2) rfl ?_
      refine q_iadd C dX9_quarters_72 ?_
      refine q_sipush (v := 160) C dX9_quarters_73 (by decide) ?_
      refine q_icmp_le (tgt := 85) C dX9_quarters_76 (by decide) (fun z => ?_) (fun z => ?_)
      · have h := h.1 z
        refine q_aload_n C dX9_quarters_85 rfl (j := 0) rfl ?_
        refine q_getI (ci := 9) (k0 := 3) (T := TX9) C inX9_quarters_X9 rfl (by decide) h.1 (by decide) rfl (by decide +kernel) rfl dX9_quarters_86 ?_
        have h := h.2
        refine q_istore_n (lv' := [(3, .int (iM M a0 3)), (0, .ref a0), (1, .int i1), (2, .int i2)]) C dX9_quarters_89 rfl (by decide) rfl ?_
        refine q_aload_n C dX9_quarters_90 rfl (j := 1) rfl ?_
        refine q_getI (ci := 9) (k0 := 5) (T := TX9) C inX9_quarters_X9 rfl (by decide) h.1 (by decide) rfl (by decide +kernel) rfl dX9_quarters_91 ?_
        have h := h.2
        refine q_istore (lv' := [(4, .int (iM M a0 5)), (3, .int (iM M a0 3)), (0, .ref a0), (1, .int i1), (2, .int i2)]) C dX9_quarters_94 (by decide) rfl ?_
        refine q_iload_n C dX9_quarters_96 rfl (j := 1) rfl ?_
        refine q_iload_n C dX9_quarters_97 rfl (j := 1) rfl ?_
        refine q_mnaI (N := (iM M a0 3).toNatClampNeg) (K := (iM M a0 3).toNatClampNeg) C (by decide +kernel) (C.2.2.2.2.2.2.2.2.2.2.2.2.2.2.2.2.1.use) (by decide +kernel) h.1 h.2.1 rfl rfl (Nat.le_trans (Nat.mul_le_mul_right _ h.2.2.1) (by decide)) (Nat.le_trans (Nat.mul_le_mul_right _ h.2.2.2.1) (by decide)) (Nat.le_trans h.2.2.2.1 (by decide)) ⟨h.2.2.2.2.1, h.2.2.2.2.2.1⟩ dX9_quarters_98 (fun q_3 hq _ => ?_)
        have h := h.2.2.2.2.2.2 q_3 hq
        refine q_astore (lv' := [(5, .ref q_3), (4, .int (iM M a0 5)), (3, .int (iM M a0 3)), (0, .ref a0), (1, .int i1), (2, .int i2)]) C dX9_quarters_102 (by decide) rfl ?_
        refine q_iconst (v := 0) C dX9_quarters_104 (by decide) ?_
        refine q_istore (lv' := [(6, .int 0), (5, .ref q_3), (4, .int (iM M a0 5)), (3, .int (iM M a0 3)), (0, .ref a0), (1, .int i1), (2, .int i2)]) C dX9_quarters_105 (by decide) rfl ?_
        exact q_sub [4, 3, 2, 1, 0] rfl h
      · have h := h.2 z
        exact q_sub [0] rfl h
  · have h := h.2 z
    refine q_iload_n C dX9_quarters_22 rfl (j := 2) rfl ?_
    refine q_aload_n C dX9_quarters_23 rfl (j := 0) rfl ?_
    refine q_getR (ci := 9) (k0 := 4) (T := TX9) C inX9_quarters_X9 rfl (by decide) h.1 (by decide) rfl (by decide +kernel) rfl dX9_quarters_24 ?_
    obtain ⟨a_4, z, h⟩ := h.2
    refine q_ref z ?_
    refine q_iload_n C dX9_quarters_27 rfl (j := 3) rfl ?_
    obtain ⟨n_5, z1, z2, h⟩ := h
    refine q_gald C z1 z2 dX9_quarters_28 ?_
    refine q_ifnonnull (tgt := 36) C dX9_quarters_29 (by decide) (fun a_6 z => ?_) (fun z => ?_)
    · have h := h.1 _ z
      refine q_aload_n C dX9_quarters_36 rfl (j := 0) rfl ?_
      refine q_getR (ci := 9) (k0 := 4) (T := TX9) C inX9_quarters_X9 rfl (by decide) h.1 (by decide) rfl (by decide +kernel) rfl dX9_quarters_37 ?_
      obtain ⟨a_7, z, h⟩ := h.2
      refine q_ref z ?_
      refine q_iload_n C dX9_quarters_40 rfl (j := 3) rfl ?_
      obtain ⟨n_8, z1, z2, h⟩ := h
      refine q_gald C z1 z2 dX9_quarters_41 ?_
      obtain ⟨a_9, z, h⟩ := h
      refine q_ref z ?_
      obtain ⟨k_11, n_10, z1, z2, h⟩ := h
      refine q_alen C z1 z2 dX9_quarters_42 ?_
      refine q_iadd C dX9_quarters_43 ?_
      refine q_istore_n (lv' := [(2, .int (i2 + (nI n_10))), (0, .ref a0), (1, .int i1), (3, .int i3)]) C dX9_quarters_44 rfl (by decide) rfl ?_
      refine q_iinc (v := (i3 + 1)) (lv' := [(3, .int (i3 + 1)), (2, .int (i2 + (nI n_10))), (0, .ref a0), (1, .int i1)]) C dX9_quarters_45 (j := 3) rfl rfl (by decide) rfl ?_
      refine q_goto (tgt := 14) C dX9_quarters_48 (by decide) ?_
      exact q_sub [2, 3, 1, 0] rfl h
    · have h := h.2 z
      refine q_iconst (v := 0) C dX9_quarters_32 (by decide) ?_
      refine q_goto (tgt := 43) C dX9_quarters_33 (by decide) ?_
      refine q_iadd C dX9_quarters_43 ?_
      refine q_istore_n (lv' := [(2, .int (i2 + 0)), (0, .ref a0), (1, .int i1), (3, .int i3)]) C dX9_quarters_44 rfl (by decide) rfl ?_
      refine q_iinc (v := (i3 + 1)) (lv' := [(3, .int (i3 + 1)), (2, .int (i2 + 0)), (0, .ref a0), (1, .int i1)]) C dX9_quarters_45 (j := 3) rfl rfl (by decide) rfl ?_
      refine q_goto (tgt := 14) C dX9_quarters_48 (by decide) ?_
      exact q_sub [2, 3, 1, 0] rfl h
set_option maxRecDepth 100000 in
set_option maxHeartbeats 4000000 in
theorem b_X9_quarters_79 {p : Program} {l : Launch} {e : Env} {s : State} {m : MethodId} {args : Array Value} {below : List Frame} {meth : Method} {c : Code} {D : va_G} {cA : Nat → ClassId} {lo : Nat} (C : Cx p s m args c cX9_quarters 12 RX9 wsX9_quarters D cA lo) (hr : meth.sig.returnType = (some .int)) (hlk : meth.locks = false) {Q : Int32 → Mm → Prop} {Cc Zz : Nat} (M : Mm) (a0 : Nat) (cc zz : Nat) (h : S_X9_quarters_79 (fun (a0 : Nat) (i1 : Int32) (i2 : Int32) (i3 : Int32) (M : Mm) (cc zz : Nat) => QW p l e ({ frames := 3, cells := Cc, slots := Zz, locals := 84 } : Room) s m args below meth c (MQ below (QiM D cA lo Q) args s Cc Zz (fun q => lo ≤ q)) 12 D cA lo cc zz M 14 [(0, .ref a0), (1, .int i1), (2, .int i2), (3, .int i3)] []) (fun (a0 : Nat) (M : Mm) (cc zz : Nat) => QW p l e ({ frames := 3, cells := Cc, slots := Zz, locals := 84 } : Room) s m args below meth c (MQ below (QiM D cA lo Q) args s Cc Zz (fun q => lo ≤ q)) 12 D cA lo cc zz M 79 [(0, .ref a0)] []) (fun (a0 : Nat) (i3 : Int32) (i4 : Int32) (a5 : Nat) (i6 : Int32) (M : Mm) (cc zz : Nat) => QW p l e ({ frames := 3, cells := Cc, slots := Zz, locals := 84 } : Room) s m args below meth c (MQ below (QiM D cA lo Q) args s Cc Zz (fun q => lo ≤ q)) 12 D cA lo cc zz M 107 [(0, .ref a0), (3, .int i3), (4, .int i4), (5, .ref a5), (6, .int i6)] []) (fun (a0 : Nat) (i4 : Int32) (a5 : Nat) (a6 : Nat) (i7 : Int32) (M : Mm) (cc zz : Nat) => QW p l e ({ frames := 3, cells := Cc, slots := Zz, locals := 84 } : Room) s m args below meth c (MQ below (QiM D cA lo Q) args s Cc Zz (fun q => lo ≤ q)) 12 D cA lo cc zz M 193 [(0, .ref a0), (4, .int i4), (5, .ref a5), (6, .ref a6), (7, .int i7)] []) (fun (a0 : Nat) (i3 : Int32) (i4 : Int32) (a5 : Nat) (i6 : Int32) (i7 : Int32) (M : Mm) (cc zz : Nat) => QW p l e ({ frames := 3, cells := Cc, slots := Zz, locals := 84 } : Room) s m args below meth c (MQ below (QiM D cA lo Q) args s Cc Zz (fun q => lo ≤ q)) 12 D cA lo cc zz M 119 [(0, .ref a0), (3, .int i3), (4, .int i4), (5, .ref a5), (6, .int i6), (7, .int i7)] []) (fun (a0 : Nat) (i4 : Int32) (a5 : Nat) (a6 : Nat) (i7 : Int32) (M : Mm) (cc zz : Nat) => QW p l e ({ frames := 3, cells := Cc, slots := Zz, locals := 84 } : Room) s m args below meth c (MQ below (QiM D cA lo Q) args s Cc Zz (fun q => lo ≤ q)) 12 D cA lo cc zz M 264 [(0, .ref a0), (4, .int i4), (5, .ref a5), (6, .ref a6), (7, .int i7)] []) (fun (a0 : Nat) (i4 : Int32) (i7 : Int32) (M : Mm) (cc zz : Nat) => QW p l e ({ frames := 3, cells := Cc, slots := Zz, locals := 84 } : Room) s m args below meth c (MQ below (QiM D cA lo Q) args s Cc Zz (fun q => lo ≤ q)) 12 D cA lo cc zz M 387 [(0, .ref a0), (4, .int i4), (7, .int i7)] []) (fun (a0 : Nat) (i4 : Int32) (a5 : Nat) (a6 : Nat) (i7 : Int32) (a8 : Nat) (i9 : Int32) (i10 : Int32) (M : Mm) (cc zz : Nat) => QW p l e ({ frames := 3, cells := Cc, slots := Zz, locals := 84 } : Room) s m args below meth c (MQ below (QiM D cA lo Q) args s Cc Zz (fun q => lo ≤ q)) 12 D cA lo cc zz M 301 [(0, .ref a0), (4, .int i4), (5, .ref a5), (6, .ref a6), (7, .int i7), (8, .ref a8), (9, .int i9), (10, .int i10)] []) Cc Zz Q M a0 cc zz) : QW p l e ({ frames := 3, cells := Cc, slots := Zz, locals := 84 } : Room) s m args below meth c (MQ below (QiM D cA lo Q) args s Cc Zz (fun q => lo ≤ q)) 12 D cA lo cc zz M 79 [(0, .ref a0)] [] := by
  unfold S_X9_quarters_79 at h
  refine q_aload_n C dX9_quarters_79 rfl (j := 0) rfl ?_
  refine q_iconst (v := 1) C dX9_quarters_80 (by decide) ?_
  have hcz := h.1
  have h := h.2
  refine q_ci (q_runV (As := [.int 1]) (st := []) C (c_X9_refuse l D cA lo h.2) (cwV 1 C.2.2.2.2.1 gX9_quarters_X9_refuse rfl rfl rfl (by decide +kernel) ⟨Nat.le_of_ble_eq_true rfl, Nat.le_of_ble_eq_true rfl⟩) h.1 (by decide) rfl rfl rfl (Nat.le_of_ble_eq_true rfl) dX9_quarters_81 ⟨Nat.le_trans (Nat.le_of_eq (Nat.add_zero _)) hcz.1, Nat.le_trans (Nat.le_of_eq (Nat.add_zero _)) hcz.2⟩) (fun r_12 M_13 h => ?_)
  exact q_iret C hr hlk dX9_quarters_84 h.1 h.2.1 h.2.2
set_option maxRecDepth 100000 in
set_option maxHeartbeats 4000000 in
theorem b_X9_quarters_107 {p : Program} {l : Launch} {e : Env} {s : State} {m : MethodId} {args : Array Value} {below : List Frame} {meth : Method} {c : Code} {D : va_G} {cA : Nat → ClassId} {lo : Nat} (C : Cx p s m args c cX9_quarters 12 RX9 wsX9_quarters D cA lo) (hr : meth.sig.returnType = (some .int)) (hlk : meth.locks = false) {Q : Int32 → Mm → Prop} {Cc Zz : Nat} (M : Mm) (a0 : Nat) (i3 : Int32) (i4 : Int32) (a5 : Nat) (i6 : Int32) (cc zz : Nat) (h : S_X9_quarters_107 (fun (a0 : Nat) (i1 : Int32) (i2 : Int32) (i3 : Int32) (M : Mm) (cc zz : Nat) => QW p l e ({ frames := 3, cells := Cc, slots := Zz, locals := 84 } : Room) s m args below meth c (MQ below (QiM D cA lo Q) args s Cc Zz (fun q => lo ≤ q)) 12 D cA lo cc zz M 14 [(0, .ref a0), (1, .int i1), (2, .int i2), (3, .int i3)] []) (fun (a0 : Nat) (M : Mm) (cc zz : Nat) => QW p l e ({ frames := 3, cells := Cc, slots := Zz, locals := 84 } : Room) s m args below meth c (MQ below (QiM D cA lo Q) args s Cc Zz (fun q => lo ≤ q)) 12 D cA lo cc zz M 79 [(0, .ref a0)] []) (fun (a0 : Nat) (i3 : Int32) (i4 : Int32) (a5 : Nat) (i6 : Int32) (M : Mm) (cc zz : Nat) => QW p l e ({ frames := 3, cells := Cc, slots := Zz, locals := 84 } : Room) s m args below meth c (MQ below (QiM D cA lo Q) args s Cc Zz (fun q => lo ≤ q)) 12 D cA lo cc zz M 107 [(0, .ref a0), (3, .int i3), (4, .int i4), (5, .ref a5), (6, .int i6)] []) (fun (a0 : Nat) (i4 : Int32) (a5 : Nat) (a6 : Nat) (i7 : Int32) (M : Mm) (cc zz : Nat) => QW p l e ({ frames := 3, cells := Cc, slots := Zz, locals := 84 } : Room) s m args below meth c (MQ below (QiM D cA lo Q) args s Cc Zz (fun q => lo ≤ q)) 12 D cA lo cc zz M 193 [(0, .ref a0), (4, .int i4), (5, .ref a5), (6, .ref a6), (7, .int i7)] []) (fun (a0 : Nat) (i3 : Int32) (i4 : Int32) (a5 : Nat) (i6 : Int32) (i7 : Int32) (M : Mm) (cc zz : Nat) => QW p l e ({ frames := 3, cells := Cc, slots := Zz, locals := 84 } : Room) s m args below meth c (MQ below (QiM D cA lo Q) args s Cc Zz (fun q => lo ≤ q)) 12 D cA lo cc zz M 119 [(0, .ref a0), (3, .int i3), (4, .int i4), (5, .ref a5), (6, .int i6), (7, .int i7)] []) (fun (a0 : Nat) (i4 : Int32) (a5 : Nat) (a6 : Nat) (i7 : Int32) (M : Mm) (cc zz : Nat) => QW p l e ({ frames := 3, cells := Cc, slots := Zz, locals := 84 } : Room) s m args below meth c (MQ below (QiM D cA lo Q) args s Cc Zz (fun q => lo ≤ q)) 12 D cA lo cc zz M 264 [(0, .ref a0), (4, .int i4), (5, .ref a5), (6, .ref a6), (7, .int i7)] []) (fun (a0 : Nat) (i4 : Int32) (i7 : Int32) (M : Mm) (cc zz : Nat) => QW p l e ({ frames := 3, cells := Cc, slots := Zz, locals := 84 } : Room) s m args below meth c (MQ below (QiM D cA lo Q) args s Cc Zz (fun q => lo ≤ q)) 12 D cA lo cc zz M 387 [(0, .ref a0), (4, .int i4), (7, .int i7)] []) (fun (a0 : Nat) (i4 : Int32) (a5 : Nat) (a6 : Nat) (i7 : Int32) (a8 : Nat) (i9 : Int32) (i10 : Int32) (M : Mm) (cc zz : Nat) => QW p l e ({ frames := 3, cells := Cc, slots := Zz, locals := 84 } : Room) s m args below meth c (MQ below (QiM D cA lo Q) args s Cc Zz (fun q => lo ≤ q)) 12 D cA lo cc zz M 301 [(0, .ref a0), (4, .int i4), (5, .ref a5), (6, .ref a6), (7, .int i7), (8, .ref a8), (9, .int i9), (10, .int i10)] []) Cc Zz Q M a0 i3 i4 a5 i6 cc zz) : QW p l e ({ frames := 3, cells := Cc, slots := Zz, locals := 84 } : Room) s m args below meth c (MQ below (QiM D cA lo Q) args s Cc Zz (fun q => lo ≤ q)) 12 D cA lo cc zz M 107 [(0, .ref a0), (3, .int i3), (4, .int i4), (5, .ref a5), (6, .int i6)] [] := by
  unfold S_X9_quarters_107 at h
  refine q_iload C dX9_quarters_107 (j := 4) rfl ?_
  refine q_iload_n C dX9_quarters_109 rfl (j := 1) rfl ?_
  refine q_icmp_ge (tgt := 183) C dX9_quarters_110 (by decide) (fun z => ?_) (fun z => ?_)
  · have h := h.1 z
    refine q_sipush (v := 160) C dX9_quarters_183 (by decide) ?_
    refine q_newI (N := 160) C (by decide +kernel) (by decide) (by decide) (by decide) ⟨h.1, h.2.1⟩ dX9_quarters_186 (fun q_14 hq _ => ?_)
    have h := h.2.2 q_14 hq
    refine q_astore (lv' := [(6, .ref q_14), (0, .ref a0), (3, .int i3), (4, .int i4), (5, .ref a5)]) C dX9_quarters_188 (by decide) rfl ?_
    refine q_iconst (v := 0) C dX9_quarters_190 (by decide) ?_
    refine q_istore (lv' := [(7, .int 0), (6, .ref q_14), (0, .ref a0), (3, .int i3), (4, .int i4), (5, .ref a5)]) C dX9_quarters_191 (by decide) rfl ?_
    exact q_sub [2, 4, 5, 1, 0] rfl h
  · have h := h.2 z
    refine q_iload C dX9_quarters_113 (j := 4) rfl ?_
    refine q_iconst (v := 1) C dX9_quarters_115 (by decide) ?_
    refine q_iadd C dX9_quarters_116 ?_
    refine q_istore (lv' := [(7, .int (i6 + 1)), (0, .ref a0), (3, .int i3), (4, .int i4), (5, .ref a5), (6, .int i6)]) C dX9_quarters_117 (by decide) rfl ?_
    exact q_sub [1, 2, 3, 4, 5, 0] rfl h
set_option maxRecDepth 100000 in
set_option maxHeartbeats 4000000 in
theorem b_X9_quarters_193 {p : Program} {l : Launch} {e : Env} {s : State} {m : MethodId} {args : Array Value} {below : List Frame} {meth : Method} {c : Code} {D : va_G} {cA : Nat → ClassId} {lo : Nat} (C : Cx p s m args c cX9_quarters 12 RX9 wsX9_quarters D cA lo) (hr : meth.sig.returnType = (some .int)) (hlk : meth.locks = false) {Q : Int32 → Mm → Prop} {Cc Zz : Nat} (M : Mm) (a0 : Nat) (i4 : Int32) (a5 : Nat) (a6 : Nat) (i7 : Int32) (cc zz : Nat) (h : S_X9_quarters_193 (fun (a0 : Nat) (i1 : Int32) (i2 : Int32) (i3 : Int32) (M : Mm) (cc zz : Nat) => QW p l e ({ frames := 3, cells := Cc, slots := Zz, locals := 84 } : Room) s m args below meth c (MQ below (QiM D cA lo Q) args s Cc Zz (fun q => lo ≤ q)) 12 D cA lo cc zz M 14 [(0, .ref a0), (1, .int i1), (2, .int i2), (3, .int i3)] []) (fun (a0 : Nat) (M : Mm) (cc zz : Nat) => QW p l e ({ frames := 3, cells := Cc, slots := Zz, locals := 84 } : Room) s m args below meth c (MQ below (QiM D cA lo Q) args s Cc Zz (fun q => lo ≤ q)) 12 D cA lo cc zz M 79 [(0, .ref a0)] []) (fun (a0 : Nat) (i3 : Int32) (i4 : Int32) (a5 : Nat) (i6 : Int32) (M : Mm) (cc zz : Nat) => QW p l e ({ frames := 3, cells := Cc, slots := Zz, locals := 84 } : Room) s m args below meth c (MQ below (QiM D cA lo Q) args s Cc Zz (fun q => lo ≤ q)) 12 D cA lo cc zz M 107 [(0, .ref a0), (3, .int i3), (4, .int i4), (5, .ref a5), (6, .int i6)] []) (fun (a0 : Nat) (i4 : Int32) (a5 : Nat) (a6 : Nat) (i7 : Int32) (M : Mm) (cc zz : Nat) => QW p l e ({ frames := 3, cells := Cc, slots := Zz, locals := 84 } : Room) s m args below meth c (MQ below (QiM D cA lo Q) args s Cc Zz (fun q => lo ≤ q)) 12 D cA lo cc zz M 193 [(0, .ref a0), (4, .int i4), (5, .ref a5), (6, .ref a6), (7, .int i7)] []) (fun (a0 : Nat) (i3 : Int32) (i4 : Int32) (a5 : Nat) (i6 : Int32) (i7 : Int32) (M : Mm) (cc zz : Nat) => QW p l e ({ frames := 3, cells := Cc, slots := Zz, locals := 84 } : Room) s m args below meth c (MQ below (QiM D cA lo Q) args s Cc Zz (fun q => lo ≤ q)) 12 D cA lo cc zz M 119 [(0, .ref a0), (3, .int i3), (4, .int i4), (5, .ref a5), (6, .int i6), (7, .int i7)] []) (fun (a0 : Nat) (i4 : Int32) (a5 : Nat) (a6 : Nat) (i7 : Int32) (M : Mm) (cc zz : Nat) => QW p l e ({ frames := 3, cells := Cc, slots := Zz, locals := 84 } : Room) s m args below meth c (MQ below (QiM D cA lo Q) args s Cc Zz (fun q => lo ≤ q)) 12 D cA lo cc zz M 264 [(0, .ref a0), (4, .int i4), (5, .ref a5), (6, .ref a6), (7, .int i7)] []) (fun (a0 : Nat) (i4 : Int32) (i7 : Int32) (M : Mm) (cc zz : Nat) => QW p l e ({ frames := 3, cells := Cc, slots := Zz, locals := 84 } : Room) s m args below meth c (MQ below (QiM D cA lo Q) args s Cc Zz (fun q => lo ≤ q)) 12 D cA lo cc zz M 387 [(0, .ref a0), (4, .int i4), (7, .int i7)] []) (fun (a0 : Nat) (i4 : Int32) (a5 : Nat) (a6 : Nat) (i7 : Int32) (a8 : Nat) (i9 : Int32) (i10 : Int32) (M : Mm) (cc zz : Nat) => QW p l e ({ frames := 3, cells := Cc, slots := Zz, locals := 84 } : Room) s m args below meth c (MQ below (QiM D cA lo Q) args s Cc Zz (fun q => lo ≤ q)) 12 D cA lo cc zz M 301 [(0, .ref a0), (4, .int i4), (5, .ref a5), (6, .ref a6), (7, .int i7), (8, .ref a8), (9, .int i9), (10, .int i10)] []) Cc Zz Q M a0 i4 a5 a6 i7 cc zz) : QW p l e ({ frames := 3, cells := Cc, slots := Zz, locals := 84 } : Room) s m args below meth c (MQ below (QiM D cA lo Q) args s Cc Zz (fun q => lo ≤ q)) 12 D cA lo cc zz M 193 [(0, .ref a0), (4, .int i4), (5, .ref a5), (6, .ref a6), (7, .int i7)] [] := by
  unfold S_X9_quarters_193 at h
  refine q_iload C dX9_quarters_193 (j := 4) rfl ?_
  refine q_iload C dX9_quarters_195 (j := 1) rfl ?_
  refine q_icmp_ge (tgt := 261) C dX9_quarters_197 (by decide) (fun z => ?_) (fun z => ?_)
  · have h := h.1 z
    refine q_iconst (v := 0) C dX9_quarters_261 (by decide) ?_
    refine q_istore (lv' := [(7, .int 0), (0, .ref a0), (4, .int i4), (5, .ref a5), (6, .ref a6)]) C dX9_quarters_262 (by decide) rfl ?_
    exact q_sub [1, 2, 3, 4, 0] rfl h
  · have h := h.2 z
    refine q_aload_n C dX9_quarters_200 rfl (j := 0) rfl ?_
    refine q_getR (ci := 9) (k0 := 4) (T := TX9) C inX9_quarters_X9 rfl (by decide) h.1 (by decide) rfl (by decide +kernel) rfl dX9_quarters_201 ?_
    obtain ⟨a_15, z, h⟩ := h.2
    refine q_ref z ?_
    refine q_iload C dX9_quarters_204 (j := 4) rfl ?_
    obtain ⟨n_16, z1, z2, h⟩ := h
    refine q_gald C z1 z2 dX9_quarters_206 ?_
    refine q_ifnull (tgt := 255) C dX9_quarters_207 (by decide) (fun z => ?_) (fun a_17 z => ?_)
    · have h := h.1 z
      refine q_iinc (v := (i7 + 1)) (lv' := [(7, .int (i7 + 1)), (0, .ref a0), (4, .int i4), (5, .ref a5), (6, .ref a6)]) C dX9_quarters_255 (j := 4) rfl rfl (by decide) rfl ?_
      refine q_goto (tgt := 193) C dX9_quarters_258 (by decide) ?_
      exact q_sub [1, 2, 3, 4, 0] rfl h
    · have h := h.2 _ z
      refine q_aload C dX9_quarters_210 (j := 3) rfl ?_
      refine q_iload C dX9_quarters_212 (j := 4) rfl ?_
      refine q_aload_n C dX9_quarters_214 rfl (j := 0) rfl ?_
      refine q_aload_n C dX9_quarters_215 rfl (j := 0) rfl ?_
      refine q_aload_n C dX9_quarters_216 rfl (j := 0) rfl ?_
      refine q_getR (ci := 9) (k0 := 4) (T := TX9) C inX9_quarters_X9 rfl (by decide) h.1 (by decide) rfl (by decide +kernel) rfl dX9_quarters_217 ?_
      obtain ⟨a_18, z, h⟩ := h.2
      refine q_ref z ?_
      refine q_iload C dX9_quarters_220 (j := 4) rfl ?_
      obtain ⟨n_19, z1, z2, h⟩ := h
      refine q_gald C z1 z2 dX9_quarters_222 ?_
      obtain ⟨a_20, z, h⟩ := h
      refine q_ref z ?_
      refine q_iconst (v := 0) C dX9_quarters_223 (by decide) ?_
      exact h.elim
set_option maxRecDepth 100000 in
set_option maxHeartbeats 4000000 in
theorem b_X9_quarters_119 {p : Program} {l : Launch} {e : Env} {s : State} {m : MethodId} {args : Array Value} {below : List Frame} {meth : Method} {c : Code} {D : va_G} {cA : Nat → ClassId} {lo : Nat} (C : Cx p s m args c cX9_quarters 12 RX9 wsX9_quarters D cA lo) (hr : meth.sig.returnType = (some .int)) (hlk : meth.locks = false) {Q : Int32 → Mm → Prop} {Cc Zz : Nat} (M : Mm) (a0 : Nat) (i3 : Int32) (i4 : Int32) (a5 : Nat) (i6 : Int32) (i7 : Int32) (cc zz : Nat) (h : S_X9_quarters_119 (fun (a0 : Nat) (i1 : Int32) (i2 : Int32) (i3 : Int32) (M : Mm) (cc zz : Nat) => QW p l e ({ frames := 3, cells := Cc, slots := Zz, locals := 84 } : Room) s m args below meth c (MQ below (QiM D cA lo Q) args s Cc Zz (fun q => lo ≤ q)) 12 D cA lo cc zz M 14 [(0, .ref a0), (1, .int i1), (2, .int i2), (3, .int i3)] []) (fun (a0 : Nat) (M : Mm) (cc zz : Nat) => QW p l e ({ frames := 3, cells := Cc, slots := Zz, locals := 84 } : Room) s m args below meth c (MQ below (QiM D cA lo Q) args s Cc Zz (fun q => lo ≤ q)) 12 D cA lo cc zz M 79 [(0, .ref a0)] []) (fun (a0 : Nat) (i3 : Int32) (i4 : Int32) (a5 : Nat) (i6 : Int32) (M : Mm) (cc zz : Nat) => QW p l e ({ frames := 3, cells := Cc, slots := Zz, locals := 84 } : Room) s m args below meth c (MQ below (QiM D cA lo Q) args s Cc Zz (fun q => lo ≤ q)) 12 D cA lo cc zz M 107 [(0, .ref a0), (3, .int i3), (4, .int i4), (5, .ref a5), (6, .int i6)] []) (fun (a0 : Nat) (i4 : Int32) (a5 : Nat) (a6 : Nat) (i7 : Int32) (M : Mm) (cc zz : Nat) => QW p l e ({ frames := 3, cells := Cc, slots := Zz, locals := 84 } : Room) s m args below meth c (MQ below (QiM D cA lo Q) args s Cc Zz (fun q => lo ≤ q)) 12 D cA lo cc zz M 193 [(0, .ref a0), (4, .int i4), (5, .ref a5), (6, .ref a6), (7, .int i7)] []) (fun (a0 : Nat) (i3 : Int32) (i4 : Int32) (a5 : Nat) (i6 : Int32) (i7 : Int32) (M : Mm) (cc zz : Nat) => QW p l e ({ frames := 3, cells := Cc, slots := Zz, locals := 84 } : Room) s m args below meth c (MQ below (QiM D cA lo Q) args s Cc Zz (fun q => lo ≤ q)) 12 D cA lo cc zz M 119 [(0, .ref a0), (3, .int i3), (4, .int i4), (5, .ref a5), (6, .int i6), (7, .int i7)] []) (fun (a0 : Nat) (i4 : Int32) (a5 : Nat) (a6 : Nat) (i7 : Int32) (M : Mm) (cc zz : Nat) => QW p l e ({ frames := 3, cells := Cc, slots := Zz, locals := 84 } : Room) s m args below meth c (MQ below (QiM D cA lo Q) args s Cc Zz (fun q => lo ≤ q)) 12 D cA lo cc zz M 264 [(0, .ref a0), (4, .int i4), (5, .ref a5), (6, .ref a6), (7, .int i7)] []) (fun (a0 : Nat) (i4 : Int32) (i7 : Int32) (M : Mm) (cc zz : Nat) => QW p l e ({ frames := 3, cells := Cc, slots := Zz, locals := 84 } : Room) s m args below meth c (MQ below (QiM D cA lo Q) args s Cc Zz (fun q => lo ≤ q)) 12 D cA lo cc zz M 387 [(0, .ref a0), (4, .int i4), (7, .int i7)] []) (fun (a0 : Nat) (i4 : Int32) (a5 : Nat) (a6 : Nat) (i7 : Int32) (a8 : Nat) (i9 : Int32) (i10 : Int32) (M : Mm) (cc zz : Nat) => QW p l e ({ frames := 3, cells := Cc, slots := Zz, locals := 84 } : Room) s m args below meth c (MQ below (QiM D cA lo Q) args s Cc Zz (fun q => lo ≤ q)) 12 D cA lo cc zz M 301 [(0, .ref a0), (4, .int i4), (5, .ref a5), (6, .ref a6), (7, .int i7), (8, .ref a8), (9, .int i9), (10, .int i10)] []) Cc Zz Q M a0 i3 i4 a5 i6 i7 cc zz) : QW p l e ({ frames := 3, cells := Cc, slots := Zz, locals := 84 } : Room) s m args below meth c (MQ below (QiM D cA lo Q) args s Cc Zz (fun q => lo ≤ q)) 12 D cA lo cc zz M 119 [(0, .ref a0), (3, .int i3), (4, .int i4), (5, .ref a5), (6, .int i6), (7, .int i7)] [] := by
  unfold S_X9_quarters_119 at h
  refine q_iload C dX9_quarters_119 (j := 5) rfl ?_
  refine q_iload_n C dX9_quarters_121 rfl (j := 1) rfl ?_
  refine q_icmp_ge (tgt := 177) C dX9_quarters_122 (by decide) (fun z => ?_) (fun z => ?_)
  · have h := h.1 z
    refine q_iinc (v := (i6 + 1)) (lv' := [(6, .int (i6 + 1)), (0, .ref a0), (3, .int i3), (4, .int i4), (5, .ref a5), (7, .int i7)]) C dX9_quarters_177 (j := 4) rfl rfl (by decide) rfl ?_
    refine q_goto (tgt := 107) C dX9_quarters_180 (by decide) ?_
    exact q_sub [1, 2, 3, 4, 0] rfl h
  · have h := h.2 z
    refine q_aload_n C dX9_quarters_125 rfl (j := 0) rfl ?_
    refine q_iload C dX9_quarters_126 (j := 4) rfl ?_
    refine q_iload C dX9_quarters_128 (j := 5) rfl ?_
    exact h.elim
set_option maxRecDepth 100000 in
set_option maxHeartbeats 4000000 in
theorem b_X9_quarters_264 {p : Program} {l : Launch} {e : Env} {s : State} {m : MethodId} {args : Array Value} {below : List Frame} {meth : Method} {c : Code} {D : va_G} {cA : Nat → ClassId} {lo : Nat} (C : Cx p s m args c cX9_quarters 12 RX9 wsX9_quarters D cA lo) (hr : meth.sig.returnType = (some .int)) (hlk : meth.locks = false) {Q : Int32 → Mm → Prop} {Cc Zz : Nat} (M : Mm) (a0 : Nat) (i4 : Int32) (a5 : Nat) (a6 : Nat) (i7 : Int32) (cc zz : Nat) (h : S_X9_quarters_264 (fun (a0 : Nat) (i1 : Int32) (i2 : Int32) (i3 : Int32) (M : Mm) (cc zz : Nat) => QW p l e ({ frames := 3, cells := Cc, slots := Zz, locals := 84 } : Room) s m args below meth c (MQ below (QiM D cA lo Q) args s Cc Zz (fun q => lo ≤ q)) 12 D cA lo cc zz M 14 [(0, .ref a0), (1, .int i1), (2, .int i2), (3, .int i3)] []) (fun (a0 : Nat) (M : Mm) (cc zz : Nat) => QW p l e ({ frames := 3, cells := Cc, slots := Zz, locals := 84 } : Room) s m args below meth c (MQ below (QiM D cA lo Q) args s Cc Zz (fun q => lo ≤ q)) 12 D cA lo cc zz M 79 [(0, .ref a0)] []) (fun (a0 : Nat) (i3 : Int32) (i4 : Int32) (a5 : Nat) (i6 : Int32) (M : Mm) (cc zz : Nat) => QW p l e ({ frames := 3, cells := Cc, slots := Zz, locals := 84 } : Room) s m args below meth c (MQ below (QiM D cA lo Q) args s Cc Zz (fun q => lo ≤ q)) 12 D cA lo cc zz M 107 [(0, .ref a0), (3, .int i3), (4, .int i4), (5, .ref a5), (6, .int i6)] []) (fun (a0 : Nat) (i4 : Int32) (a5 : Nat) (a6 : Nat) (i7 : Int32) (M : Mm) (cc zz : Nat) => QW p l e ({ frames := 3, cells := Cc, slots := Zz, locals := 84 } : Room) s m args below meth c (MQ below (QiM D cA lo Q) args s Cc Zz (fun q => lo ≤ q)) 12 D cA lo cc zz M 193 [(0, .ref a0), (4, .int i4), (5, .ref a5), (6, .ref a6), (7, .int i7)] []) (fun (a0 : Nat) (i3 : Int32) (i4 : Int32) (a5 : Nat) (i6 : Int32) (i7 : Int32) (M : Mm) (cc zz : Nat) => QW p l e ({ frames := 3, cells := Cc, slots := Zz, locals := 84 } : Room) s m args below meth c (MQ below (QiM D cA lo Q) args s Cc Zz (fun q => lo ≤ q)) 12 D cA lo cc zz M 119 [(0, .ref a0), (3, .int i3), (4, .int i4), (5, .ref a5), (6, .int i6), (7, .int i7)] []) (fun (a0 : Nat) (i4 : Int32) (a5 : Nat) (a6 : Nat) (i7 : Int32) (M : Mm) (cc zz : Nat) => QW p l e ({ frames := 3, cells := Cc, slots := Zz, locals := 84 } : Room) s m args below meth c (MQ below (QiM D cA lo Q) args s Cc Zz (fun q => lo ≤ q)) 12 D cA lo cc zz M 264 [(0, .ref a0), (4, .int i4), (5, .ref a5), (6, .ref a6), (7, .int i7)] []) (fun (a0 : Nat) (i4 : Int32) (i7 : Int32) (M : Mm) (cc zz : Nat) => QW p l e ({ frames := 3, cells := Cc, slots := Zz, locals := 84 } : Room) s m args below meth c (MQ below (QiM D cA lo Q) args s Cc Zz (fun q => lo ≤ q)) 12 D cA lo cc zz M 387 [(0, .ref a0), (4, .int i4), (7, .int i7)] []) (fun (a0 : Nat) (i4 : Int32) (a5 : Nat) (a6 : Nat) (i7 : Int32) (a8 : Nat) (i9 : Int32) (i10 : Int32) (M : Mm) (cc zz : Nat) => QW p l e ({ frames := 3, cells := Cc, slots := Zz, locals := 84 } : Room) s m args below meth c (MQ below (QiM D cA lo Q) args s Cc Zz (fun q => lo ≤ q)) 12 D cA lo cc zz M 301 [(0, .ref a0), (4, .int i4), (5, .ref a5), (6, .ref a6), (7, .int i7), (8, .ref a8), (9, .int i9), (10, .int i10)] []) Cc Zz Q M a0 i4 a5 a6 i7 cc zz) : QW p l e ({ frames := 3, cells := Cc, slots := Zz, locals := 84 } : Room) s m args below meth c (MQ below (QiM D cA lo Q) args s Cc Zz (fun q => lo ≤ q)) 12 D cA lo cc zz M 264 [(0, .ref a0), (4, .int i4), (5, .ref a5), (6, .ref a6), (7, .int i7)] [] := by
  unfold S_X9_quarters_264 at h
  refine q_iload C dX9_quarters_264 (j := 4) rfl ?_
  refine q_iload C dX9_quarters_266 (j := 1) rfl ?_
  refine q_icmp_ge (tgt := 384) C dX9_quarters_268 (by decide) (fun z => ?_) (fun z => ?_)
  · have h := h.1 z
    refine q_iconst (v := 0) C dX9_quarters_384 (by decide) ?_
    refine q_istore (lv' := [(7, .int 0), (0, .ref a0), (4, .int i4), (5, .ref a5), (6, .ref a6)]) C dX9_quarters_385 (by decide) rfl ?_
    exact q_sub [1, 2, 0] rfl h
  · have h := h.2 z
    refine q_aload_n C dX9_quarters_271 rfl (j := 0) rfl ?_
    refine q_getR (ci := 9) (k0 := 4) (T := TX9) C inX9_quarters_X9 rfl (by decide) h.1 (by decide) rfl (by decide +kernel) rfl dX9_quarters_272 ?_
    obtain ⟨a_21, z, h⟩ := h.2
    refine q_ref z ?_
    refine q_iload C dX9_quarters_275 (j := 4) rfl ?_
    obtain ⟨n_22, z1, z2, h⟩ := h
    refine q_gald C z1 z2 dX9_quarters_277 ?_
    refine q_ifnonnull (tgt := 284) C dX9_quarters_278 (by decide) (fun a_23 z => ?_) (fun z => ?_)
    · have h := h.1 _ z
      refine q_aload_n C dX9_quarters_284 rfl (j := 0) rfl ?_
      refine q_getR (ci := 9) (k0 := 4) (T := TX9) C inX9_quarters_X9 rfl (by decide) h.1 (by decide) rfl (by decide +kernel) rfl dX9_quarters_285 ?_
      obtain ⟨a_24, z, h⟩ := h.2
      refine q_ref z ?_
      refine q_iload C dX9_quarters_288 (j := 4) rfl ?_
      obtain ⟨n_25, z1, z2, h⟩ := h
      refine q_gald C z1 z2 dX9_quarters_290 ?_
      obtain ⟨a_26, z, h⟩ := h
      refine q_ref z ?_
      refine q_astore (lv' := [(8, .ref a_26), (0, .ref a0), (4, .int i4), (5, .ref a5), (6, .ref a6), (7, .int i7)]) C dX9_quarters_291 (by decide) rfl ?_
      refine q_aload C dX9_quarters_293 (j := 0) rfl ?_
      obtain ⟨k_28, n_27, z1, z2, h⟩ := h
      refine q_alen C z1 z2 dX9_quarters_295 ?_
      refine q_istore (lv' := [(9, .int (nI n_27)), (8, .ref a_26), (0, .ref a0), (4, .int i4), (5, .ref a5), (6, .ref a6), (7, .int i7)]) C dX9_quarters_296 (by decide) rfl ?_
      refine q_iconst (v := 0) C dX9_quarters_298 (by decide) ?_
      refine q_istore (lv' := [(10, .int 0), (9, .int (nI n_27)), (8, .ref a_26), (0, .ref a0), (4, .int i4), (5, .ref a5), (6, .ref a6), (7, .int i7)]) C dX9_quarters_299 (by decide) rfl ?_
      exact q_sub [3, 4, 5, 6, 7, 2, 1, 0] rfl h
    · have h := h.2 z
      refine q_goto (tgt := 378) C dX9_quarters_281 (by decide) ?_
      refine q_iinc (v := (i7 + 1)) (lv' := [(7, .int (i7 + 1)), (0, .ref a0), (4, .int i4), (5, .ref a5), (6, .ref a6)]) C dX9_quarters_378 (j := 4) rfl rfl (by decide) rfl ?_
      refine q_goto (tgt := 264) C dX9_quarters_381 (by decide) ?_
      exact q_sub [1, 2, 3, 4, 0] rfl h
set_option maxRecDepth 100000 in
set_option maxHeartbeats 4000000 in
theorem b_X9_quarters_387 {p : Program} {l : Launch} {e : Env} {s : State} {m : MethodId} {args : Array Value} {below : List Frame} {meth : Method} {c : Code} {D : va_G} {cA : Nat → ClassId} {lo : Nat} (C : Cx p s m args c cX9_quarters 12 RX9 wsX9_quarters D cA lo) (hr : meth.sig.returnType = (some .int)) (hlk : meth.locks = false) {Q : Int32 → Mm → Prop} {Cc Zz : Nat} (M : Mm) (a0 : Nat) (i4 : Int32) (i7 : Int32) (cc zz : Nat) (h : S_X9_quarters_387 (fun (a0 : Nat) (i1 : Int32) (i2 : Int32) (i3 : Int32) (M : Mm) (cc zz : Nat) => QW p l e ({ frames := 3, cells := Cc, slots := Zz, locals := 84 } : Room) s m args below meth c (MQ below (QiM D cA lo Q) args s Cc Zz (fun q => lo ≤ q)) 12 D cA lo cc zz M 14 [(0, .ref a0), (1, .int i1), (2, .int i2), (3, .int i3)] []) (fun (a0 : Nat) (M : Mm) (cc zz : Nat) => QW p l e ({ frames := 3, cells := Cc, slots := Zz, locals := 84 } : Room) s m args below meth c (MQ below (QiM D cA lo Q) args s Cc Zz (fun q => lo ≤ q)) 12 D cA lo cc zz M 79 [(0, .ref a0)] []) (fun (a0 : Nat) (i3 : Int32) (i4 : Int32) (a5 : Nat) (i6 : Int32) (M : Mm) (cc zz : Nat) => QW p l e ({ frames := 3, cells := Cc, slots := Zz, locals := 84 } : Room) s m args below meth c (MQ below (QiM D cA lo Q) args s Cc Zz (fun q => lo ≤ q)) 12 D cA lo cc zz M 107 [(0, .ref a0), (3, .int i3), (4, .int i4), (5, .ref a5), (6, .int i6)] []) (fun (a0 : Nat) (i4 : Int32) (a5 : Nat) (a6 : Nat) (i7 : Int32) (M : Mm) (cc zz : Nat) => QW p l e ({ frames := 3, cells := Cc, slots := Zz, locals := 84 } : Room) s m args below meth c (MQ below (QiM D cA lo Q) args s Cc Zz (fun q => lo ≤ q)) 12 D cA lo cc zz M 193 [(0, .ref a0), (4, .int i4), (5, .ref a5), (6, .ref a6), (7, .int i7)] []) (fun (a0 : Nat) (i3 : Int32) (i4 : Int32) (a5 : Nat) (i6 : Int32) (i7 : Int32) (M : Mm) (cc zz : Nat) => QW p l e ({ frames := 3, cells := Cc, slots := Zz, locals := 84 } : Room) s m args below meth c (MQ below (QiM D cA lo Q) args s Cc Zz (fun q => lo ≤ q)) 12 D cA lo cc zz M 119 [(0, .ref a0), (3, .int i3), (4, .int i4), (5, .ref a5), (6, .int i6), (7, .int i7)] []) (fun (a0 : Nat) (i4 : Int32) (a5 : Nat) (a6 : Nat) (i7 : Int32) (M : Mm) (cc zz : Nat) => QW p l e ({ frames := 3, cells := Cc, slots := Zz, locals := 84 } : Room) s m args below meth c (MQ below (QiM D cA lo Q) args s Cc Zz (fun q => lo ≤ q)) 12 D cA lo cc zz M 264 [(0, .ref a0), (4, .int i4), (5, .ref a5), (6, .ref a6), (7, .int i7)] []) (fun (a0 : Nat) (i4 : Int32) (i7 : Int32) (M : Mm) (cc zz : Nat) => QW p l e ({ frames := 3, cells := Cc, slots := Zz, locals := 84 } : Room) s m args below meth c (MQ below (QiM D cA lo Q) args s Cc Zz (fun q => lo ≤ q)) 12 D cA lo cc zz M 387 [(0, .ref a0), (4, .int i4), (7, .int i7)] []) (fun (a0 : Nat) (i4 : Int32) (a5 : Nat) (a6 : Nat) (i7 : Int32) (a8 : Nat) (i9 : Int32) (i10 : Int32) (M : Mm) (cc zz : Nat) => QW p l e ({ frames := 3, cells := Cc, slots := Zz, locals := 84 } : Room) s m args below meth c (MQ below (QiM D cA lo Q) args s Cc Zz (fun q => lo ≤ q)) 12 D cA lo cc zz M 301 [(0, .ref a0), (4, .int i4), (5, .ref a5), (6, .ref a6), (7, .int i7), (8, .ref a8), (9, .int i9), (10, .int i10)] []) Cc Zz Q M a0 i4 i7 cc zz) : QW p l e ({ frames := 3, cells := Cc, slots := Zz, locals := 84 } : Room) s m args below meth c (MQ below (QiM D cA lo Q) args s Cc Zz (fun q => lo ≤ q)) 12 D cA lo cc zz M 387 [(0, .ref a0), (4, .int i4), (7, .int i7)] [] := by
  unfold S_X9_quarters_387 at h
  refine q_iload C dX9_quarters_387 (j := 2) rfl ?_
  refine q_iload C dX9_quarters_389 (j := 1) rfl ?_
  refine q_icmp_ge (tgt := 408) C dX9_quarters_391 (by decide) (fun z => ?_) (fun z => ?_)
  · have h := h.1 z
    refine q_aload_n C dX9_quarters_408 rfl (j := 0) rfl ?_
    have hcz := h.1
    have h := h.2
    refine q_cv (q_runV (As := []) (st := []) C (c_X9_table l D cA lo h.2) (cwV 0 C.2.2.2.2.1 gX9_quarters_X9_table rfl rfl rfl (by decide +kernel) ⟨Nat.le_of_ble_eq_true rfl, Nat.le_of_ble_eq_true rfl⟩) h.1 (by decide) rfl rfl rfl (Nat.le_of_ble_eq_true rfl) dX9_quarters_409 ⟨Nat.le_trans (Nat.le_of_eq (Nat.add_zero _)) hcz.1, Nat.le_trans (Nat.le_of_eq (Nat.add_zero _)) hcz.2⟩) (fun M_30 h => ?_)
    refine q_aload_n C dX9_quarters_412 rfl (j := 0) rfl ?_
    have hcz := h.1
    have h := h.2
    refine q_ci (q_runV (As := []) (st := []) C (c_X9_facesNow l D cA lo h.2) (cwV 0 C.2.2.2.2.1 gX9_quarters_X9_facesNow rfl rfl rfl (by decide +kernel) ⟨Nat.le_of_ble_eq_true rfl, Nat.le_of_ble_eq_true rfl⟩) h.1 (by decide) rfl rfl rfl (Nat.le_of_ble_eq_true rfl) dX9_quarters_413 ⟨Nat.le_trans (Nat.le_of_eq (Nat.add_zero _)) hcz.1, Nat.le_trans (Nat.le_of_eq (Nat.add_zero _)) hcz.2⟩) (fun r_31 M_z h => ?_)
    refine q_mem h.1 ?_
    have h := h.2
    exact q_iret C hr hlk dX9_quarters_416 h.1 h.2.1 h.2.2
  · have h := h.2 z
    refine q_aload_n C dX9_quarters_394 rfl (j := 0) rfl ?_
    refine q_getR (ci := 9) (k0 := 4) (T := TX9) C inX9_quarters_X9 rfl (by decide) h.1 (by decide) rfl (by decide +kernel) rfl dX9_quarters_395 ?_
    obtain ⟨a_32, z, h⟩ := h.2
    refine q_ref z ?_
    refine q_iload C dX9_quarters_398 (j := 2) rfl ?_
    refine q_nullo C dX9_quarters_400 ?_
    exact h.elim
set_option maxRecDepth 100000 in
set_option maxHeartbeats 4000000 in
theorem b_X9_quarters_301 {p : Program} {l : Launch} {e : Env} {s : State} {m : MethodId} {args : Array Value} {below : List Frame} {meth : Method} {c : Code} {D : va_G} {cA : Nat → ClassId} {lo : Nat} (C : Cx p s m args c cX9_quarters 12 RX9 wsX9_quarters D cA lo) (hr : meth.sig.returnType = (some .int)) (hlk : meth.locks = false) {Q : Int32 → Mm → Prop} {Cc Zz : Nat} (M : Mm) (a0 : Nat) (i4 : Int32) (a5 : Nat) (a6 : Nat) (i7 : Int32) (a8 : Nat) (i9 : Int32) (i10 : Int32) (cc zz : Nat) (h : S_X9_quarters_301 (fun (a0 : Nat) (i1 : Int32) (i2 : Int32) (i3 : Int32) (M : Mm) (cc zz : Nat) => QW p l e ({ frames := 3, cells := Cc, slots := Zz, locals := 84 } : Room) s m args below meth c (MQ below (QiM D cA lo Q) args s Cc Zz (fun q => lo ≤ q)) 12 D cA lo cc zz M 14 [(0, .ref a0), (1, .int i1), (2, .int i2), (3, .int i3)] []) (fun (a0 : Nat) (M : Mm) (cc zz : Nat) => QW p l e ({ frames := 3, cells := Cc, slots := Zz, locals := 84 } : Room) s m args below meth c (MQ below (QiM D cA lo Q) args s Cc Zz (fun q => lo ≤ q)) 12 D cA lo cc zz M 79 [(0, .ref a0)] []) (fun (a0 : Nat) (i3 : Int32) (i4 : Int32) (a5 : Nat) (i6 : Int32) (M : Mm) (cc zz : Nat) => QW p l e ({ frames := 3, cells := Cc, slots := Zz, locals := 84 } : Room) s m args below meth c (MQ below (QiM D cA lo Q) args s Cc Zz (fun q => lo ≤ q)) 12 D cA lo cc zz M 107 [(0, .ref a0), (3, .int i3), (4, .int i4), (5, .ref a5), (6, .int i6)] []) (fun (a0 : Nat) (i4 : Int32) (a5 : Nat) (a6 : Nat) (i7 : Int32) (M : Mm) (cc zz : Nat) => QW p l e ({ frames := 3, cells := Cc, slots := Zz, locals := 84 } : Room) s m args below meth c (MQ below (QiM D cA lo Q) args s Cc Zz (fun q => lo ≤ q)) 12 D cA lo cc zz M 193 [(0, .ref a0), (4, .int i4), (5, .ref a5), (6, .ref a6), (7, .int i7)] []) (fun (a0 : Nat) (i3 : Int32) (i4 : Int32) (a5 : Nat) (i6 : Int32) (i7 : Int32) (M : Mm) (cc zz : Nat) => QW p l e ({ frames := 3, cells := Cc, slots := Zz, locals := 84 } : Room) s m args below meth c (MQ below (QiM D cA lo Q) args s Cc Zz (fun q => lo ≤ q)) 12 D cA lo cc zz M 119 [(0, .ref a0), (3, .int i3), (4, .int i4), (5, .ref a5), (6, .int i6), (7, .int i7)] []) (fun (a0 : Nat) (i4 : Int32) (a5 : Nat) (a6 : Nat) (i7 : Int32) (M : Mm) (cc zz : Nat) => QW p l e ({ frames := 3, cells := Cc, slots := Zz, locals := 84 } : Room) s m args below meth c (MQ below (QiM D cA lo Q) args s Cc Zz (fun q => lo ≤ q)) 12 D cA lo cc zz M 264 [(0, .ref a0), (4, .int i4), (5, .ref a5), (6, .ref a6), (7, .int i7)] []) (fun (a0 : Nat) (i4 : Int32) (i7 : Int32) (M : Mm) (cc zz : Nat) => QW p l e ({ frames := 3, cells := Cc, slots := Zz, locals := 84 } : Room) s m args below meth c (MQ below (QiM D cA lo Q) args s Cc Zz (fun q => lo ≤ q)) 12 D cA lo cc zz M 387 [(0, .ref a0), (4, .int i4), (7, .int i7)] []) (fun (a0 : Nat) (i4 : Int32) (a5 : Nat) (a6 : Nat) (i7 : Int32) (a8 : Nat) (i9 : Int32) (i10 : Int32) (M : Mm) (cc zz : Nat) => QW p l e ({ frames := 3, cells := Cc, slots := Zz, locals := 84 } : Room) s m args below meth c (MQ below (QiM D cA lo Q) args s Cc Zz (fun q => lo ≤ q)) 12 D cA lo cc zz M 301 [(0, .ref a0), (4, .int i4), (5, .ref a5), (6, .ref a6), (7, .int i7), (8, .ref a8), (9, .int i9), (10, .int i10)] []) Cc Zz Q M a0 i4 a5 a6 i7 a8 i9 i10 cc zz) : QW p l e ({ frames := 3, cells := Cc, slots := Zz, locals := 84 } : Room) s m args below meth c (MQ below (QiM D cA lo Q) args s Cc Zz (fun q => lo ≤ q)) 12 D cA lo cc zz M 301 [(0, .ref a0), (4, .int i4), (5, .ref a5), (6, .ref a6), (7, .int i7), (8, .ref a8), (9, .int i9), (10, .int i10)] [] := by
  unfold S_X9_quarters_301 at h
  refine q_iload C dX9_quarters_301 (j := 7) rfl ?_
  refine q_iload C dX9_quarters_303 (j := 6) rfl ?_
  refine q_icmp_ge (tgt := 378) C dX9_quarters_305 (by decide) (fun z => ?_) (fun z => ?_)
  · have h := h.1 z
    refine q_iinc (v := (i7 + 1)) (lv' := [(7, .int (i7 + 1)), (0, .ref a0), (4, .int i4), (5, .ref a5), (6, .ref a6), (8, .ref a8), (9, .int i9), (10, .int i10)]) C dX9_quarters_378 (j := 4) rfl rfl (by decide) rfl ?_
    refine q_goto (tgt := 264) C dX9_quarters_381 (by decide) ?_
    exact q_sub [1, 2, 3, 4, 0] rfl h
  · have h := h.2 z
    refine q_aload C dX9_quarters_308 (j := 5) rfl ?_
    refine q_iload C dX9_quarters_310 (j := 7) rfl ?_
    obtain ⟨n_35, z1, z2, h⟩ := h
    refine q_iald C z1 z2 dX9_quarters_312 ?_
    refine q_istore (lv' := [(11, .int (iM M a8 i10.toNatClampNeg)), (0, .ref a0), (4, .int i4), (5, .ref a5), (6, .ref a6), (7, .int i7), (8, .ref a8), (9, .int i9), (10, .int i10)]) C dX9_quarters_313 (by decide) rfl ?_
    refine q_aload_n C dX9_quarters_315 rfl (j := 1) rfl ?_
    refine q_iconst (v := 4) C dX9_quarters_316 (by decide) ?_
    refine q_newI (N := 4) C (by decide +kernel) (by decide) (by decide) (by decide) ⟨h.1, h.2.1⟩ dX9_quarters_317 (fun q_36 hq _ => ?_)
    have h := h.2.2 q_36 hq
    refine q_dup C dX9_quarters_319 rfl ?_
    refine q_iconst (v := 0) C dX9_quarters_320 (by decide) ?_
    refine q_iload C dX9_quarters_321 (j := 0) rfl ?_
    obtain ⟨n_37, z1, z2, h⟩ := h
    refine q_iast C z1 z2 dX9_quarters_323 ?_
    refine q_dup C dX9_quarters_324 rfl ?_
    refine q_iconst (v := 1) C dX9_quarters_325 (by decide) ?_
    refine q_aload C dX9_quarters_326 (j := 3) rfl ?_
    refine q_iload C dX9_quarters_328 (j := 0) rfl ?_
    obtain ⟨n_38, z1, z2, h⟩ := h
    refine q_gald C z1 z2 dX9_quarters_330 ?_
    obtain ⟨a_39, z, h⟩ := h
    refine q_ref z ?_
    refine q_aload_n C dX9_quarters_331 rfl (j := 1) rfl ?_
    refine q_iload C dX9_quarters_332 (j := 5) rfl ?_
    refine q_iload C dX9_quarters_334 (j := 0) rfl ?_
    refine q_iconst (v := 1) C dX9_quarters_336 (by decide) ?_
    exact h.elim
set_option maxRecDepth 100000 in
set_option maxHeartbeats 4000000 in
theorem c_X9_quarters (l : Launch) (D : va_G) (cA : Nat → ClassId) (lo : Nat) {M : Mm} {a0 : Nat} {Cc Zz : Nat} {Q : Int32 → Mm → Prop} (h : T_X9_quarters Cc Zz M a0 Q) : Met l yX9_quarters wsX9_quarters ({ frames := 3, cells := Cc, slots := Zz, locals := 84 } : Room) (PcM D cA lo [.ref a0] M) (QiM D cA lo Q) Cc Zz (fun q => lo ≤ q) := by
  refine q_start (cc := cX9_quarters) (nL := 12) (ret := (some .int)) (by decide) rfl rfl (Nat.le_of_ble_eq_true rfl) ?_
  intro p e s m args below meth c C hr hlk hin
  unfold T_X9_quarters at h
  have h := h (fun (a0 : Nat) (i1 : Int32) (i2 : Int32) (i3 : Int32) (M : Mm) (cc zz : Nat) => QW p l e ({ frames := 3, cells := Cc, slots := Zz, locals := 84 } : Room) s m args below meth c (MQ below (QiM D cA lo Q) args s Cc Zz (fun q => lo ≤ q)) 12 D cA lo cc zz M 14 [(0, .ref a0), (1, .int i1), (2, .int i2), (3, .int i3)] []) (fun (a0 : Nat) (M : Mm) (cc zz : Nat) => QW p l e ({ frames := 3, cells := Cc, slots := Zz, locals := 84 } : Room) s m args below meth c (MQ below (QiM D cA lo Q) args s Cc Zz (fun q => lo ≤ q)) 12 D cA lo cc zz M 79 [(0, .ref a0)] []) (fun (a0 : Nat) (i3 : Int32) (i4 : Int32) (a5 : Nat) (i6 : Int32) (M : Mm) (cc zz : Nat) => QW p l e ({ frames := 3, cells := Cc, slots := Zz, locals := 84 } : Room) s m args below meth c (MQ below (QiM D cA lo Q) args s Cc Zz (fun q => lo ≤ q)) 12 D cA lo cc zz M 107 [(0, .ref a0), (3, .int i3), (4, .int i4), (5, .ref a5), (6, .int i6)] []) (fun (a0 : Nat) (i4 : Int32) (a5 : Nat) (a6 : Nat) (i7 : Int32) (M : Mm) (cc zz : Nat) => QW p l e ({ frames := 3, cells := Cc, slots := Zz, locals := 84 } : Room) s m args below meth c (MQ below (QiM D cA lo Q) args s Cc Zz (fun q => lo ≤ q)) 12 D cA lo cc zz M 193 [(0, .ref a0), (4, .int i4), (5, .ref a5), (6, .ref a6), (7, .int i7)] []) (fun (a0 : Nat) (i3 : Int32) (i4 : Int32) (a5 : Nat) (i6 : Int32) (i7 : Int32) (M : Mm) (cc zz : Nat) => QW p l e ({ frames := 3, cells := Cc, slots := Zz, locals := 84 } : Room) s m args below meth c (MQ below (QiM D cA lo Q) args s Cc Zz (fun q => lo ≤ q)) 12 D cA lo cc zz M 119 [(0, .ref a0), (3, .int i3), (4, .int i4), (5, .ref a5), (6, .int i6), (7, .int i7)] []) (fun (a0 : Nat) (i4 : Int32) (a5 : Nat) (a6 : Nat) (i7 : Int32) (M : Mm) (cc zz : Nat) => QW p l e ({ frames := 3, cells := Cc, slots := Zz, locals := 84 } : Room) s m args below meth c (MQ below (QiM D cA lo Q) args s Cc Zz (fun q => lo ≤ q)) 12 D cA lo cc zz M 264 [(0, .ref a0), (4, .int i4), (5, .ref a5), (6, .ref a6), (7, .int i7)] []) (fun (a0 : Nat) (i4 : Int32) (i7 : Int32) (M : Mm) (cc zz : Nat) => QW p l e ({ frames := 3, cells := Cc, slots := Zz, locals := 84 } : Room) s m args below meth c (MQ below (QiM D cA lo Q) args s Cc Zz (fun q => lo ≤ q)) 12 D cA lo cc zz M 387 [(0, .ref a0), (4, .int i4), (7, .int i7)] []) (fun (a0 : Nat) (i4 : Int32) (a5 : Nat) (a6 : Nat) (i7 : Int32) (a8 : Nat) (i9 : Int32) (i10 : Int32) (M : Mm) (cc zz : Nat) => QW p l e ({ frames := 3, cells := Cc, slots := Zz, locals := 84 } : Room) s m args below meth c (MQ below (QiM D cA lo Q) args s Cc Zz (fun q => lo ≤ q)) 12 D cA lo cc zz M 301 [(0, .ref a0), (4, .int i4), (5, .ref a5), (6, .ref a6), (7, .int i7), (8, .ref a8), (9, .int i9), (10, .int i10)] []) (fun a0 i1 i2 i3 M cc zz h => b_X9_quarters_14 C hr hlk M a0 i1 i2 i3 cc zz h) (fun a0 M cc zz h => b_X9_quarters_79 C hr hlk M a0 cc zz h) (fun a0 i3 i4 a5 i6 M cc zz h => b_X9_quarters_107 C hr hlk M a0 i3 i4 a5 i6 cc zz h) (fun a0 i4 a5 a6 i7 M cc zz h => b_X9_quarters_193 C hr hlk M a0 i4 a5 a6 i7 cc zz h) (fun a0 i3 i4 a5 i6 i7 M cc zz h => b_X9_quarters_119 C hr hlk M a0 i3 i4 a5 i6 i7 cc zz h) (fun a0 i4 a5 a6 i7 M cc zz h => b_X9_quarters_264 C hr hlk M a0 i4 a5 a6 i7 cc zz h) (fun a0 i4 i7 M cc zz h => b_X9_quarters_387 C hr hlk M a0 i4 i7 cc zz h) (fun a0 i4 a5 a6 i7 a8 i9 i10 M cc zz h => b_X9_quarters_301 C hr hlk M a0 i4 a5 a6 i7 a8 i9 i10 cc zz h)
  refine q_aload_n C dX9_quarters_0 rfl (j := 0) rfl ?_
  refine q_iconst (v := 0) C dX9_quarters_1 (by decide) ?_
  refine q_putI (ci := 9) (k0 := 0) (T := TX9) (v := 0) (ty := .int) C inX9_quarters_X9 tyX9 tyX9_ok nmX9 rfl (by decide) h.1 (by decide) rfl (by decide +kernel) rfl (by decide +kernel) rfl rfl rfl dX9_quarters_2 ?_
  have h := h.2
  refine q_aload_n C dX9_quarters_5 rfl (j := 0) rfl ?_
  have hcz := h.1
  have h := h.2
  refine q_ci (q_runV (As := []) (st := []) C (c_X9_edgesNow l D cA lo h.2) (cwV 0 C.2.2.2.2.1 gX9_quarters_X9_edgesNow rfl rfl rfl (by decide +kernel) ⟨Nat.le_of_ble_eq_true rfl, Nat.le_of_ble_eq_true rfl⟩) h.1 (by decide) rfl rfl rfl (Nat.le_of_ble_eq_true rfl) dX9_quarters_6 ⟨Nat.le_trans (Nat.le_of_eq (Nat.add_zero _)) hcz.1, Nat.le_trans (Nat.le_of_eq (Nat.add_zero _)) hcz.2⟩) (fun r_1 M_z h => ?_)
  refine q_mem h.1 ?_
  have h := h.2
  refine q_istore_n (lv' := [(1, .int r_1), (0, .ref a0)]) C dX9_quarters_9 rfl (by decide) rfl ?_
  refine q_iconst (v := 0) C dX9_quarters_10 (by decide) ?_
  refine q_istore_n (lv' := [(2, .int 0), (1, .int r_1), (0, .ref a0)]) C dX9_quarters_11 rfl (by decide) rfl ?_
  refine q_iconst (v := 0) C dX9_quarters_12 (by decide) ?_
  refine q_istore_n (lv' := [(3, .int 0), (2, .int 0), (1, .int r_1), (0, .ref a0)]) C dX9_quarters_13 rfl (by decide) rfl ?_
  exact q_sub [3, 2, 1, 0] rfl h
def S_X9_smooth_15 (K15 : Nat → Nat → Int32 → Mm → Nat → Nat → Prop) (K48 : Nat → Nat → Int32 → Int32 → Mm → Nat → Nat → Prop) (K70 : Nat → Nat → Int32 → Int32 → Nat → Int32 → Int32 → Int32 → Mm → Nat → Nat → Prop) (K177 : Nat → Nat → Int32 → Int32 → Nat → Int32 → Int32 → Mm → Nat → Nat → Prop) (Cc Zz : Nat) (Q : Int32 → Mm → Prop) (M : Mm) (a0 : Nat) (a1 : Nat) (i2 : Int32) (cc zz : Nat) : Prop := kM M a0 = (9, 13) ∧ ((iM M a0 3) ≤ i2 → K48 a0 a1 0 0 M cc zz) ∧ (¬ (iM M a0 3) ≤ i2 → kM M a0 = (9, 13) ∧ ∃ a_2 : Nat, rM M a0 1 = some a_2 ∧ ∃ n_3 : Nat, kM M a_2 = (121, n_3) ∧ vp_in i2 n_3 ∧ ∃ a_4 : Nat, rM M a_2 i2.toNatClampNeg = some a_4 ∧ False)
def S_X9_smooth_48 (K15 : Nat → Nat → Int32 → Mm → Nat → Nat → Prop) (K48 : Nat → Nat → Int32 → Int32 → Mm → Nat → Nat → Prop) (K70 : Nat → Nat → Int32 → Int32 → Nat → Int32 → Int32 → Int32 → Mm → Nat → Nat → Prop) (K177 : Nat → Nat → Int32 → Int32 → Nat → Int32 → Int32 → Mm → Nat → Nat → Prop) (Cc Zz : Nat) (Q : Int32 → Mm → Prop) (M : Mm) (a0 : Nat) (a1 : Nat) (i2 : Int32) (i3 : Int32) (cc zz : Nat) : Prop := kM M a0 = (9, 13) ∧ ((iM M a0 3) ≤ i3 → cc ≤ Cc ∧ zz ≤ Zz ∧ Q i2 M) ∧ (¬ (iM M a0 3) ≤ i3 → cc + 1 ≤ Cc ∧ zz + 3 ≤ Zz ∧ ∀ q_5 : Nat, frs M q_5 → K70 a0 a1 i2 i3 q_5 0 1 0 (wN M q_5 100 3) (cc + 1) (zz + 3))
def S_X9_smooth_70 (K15 : Nat → Nat → Int32 → Mm → Nat → Nat → Prop) (K48 : Nat → Nat → Int32 → Int32 → Mm → Nat → Nat → Prop) (K70 : Nat → Nat → Int32 → Int32 → Nat → Int32 → Int32 → Int32 → Mm → Nat → Nat → Prop) (K177 : Nat → Nat → Int32 → Int32 → Nat → Int32 → Int32 → Mm → Nat → Nat → Prop) (Cc Zz : Nat) (Q : Int32 → Mm → Prop) (M : Mm) (a0 : Nat) (a1 : Nat) (i2 : Int32) (i3 : Int32) (a4 : Nat) (i5 : Int32) (i6 : Int32) (i7 : Int32) (cc zz : Nat) : Prop := kM M a0 = (9, 13) ∧ ((iM M a0 3) ≤ i7 → (i5 = 0 → K48 a0 a1 i2 (i3 + 1) M cc zz) ∧ (¬ i5 = 0 → (¬ i6 = 0 → K177 a0 a1 i2 i3 a4 i5 0 M cc zz) ∧ (i6 = 0 → K48 a0 a1 i2 (i3 + 1) M cc zz))) ∧ (¬ (iM M a0 3) ≤ i7 → False)
def S_X9_smooth_177 (K15 : Nat → Nat → Int32 → Mm → Nat → Nat → Prop) (K48 : Nat → Nat → Int32 → Int32 → Mm → Nat → Nat → Prop) (K70 : Nat → Nat → Int32 → Int32 → Nat → Int32 → Int32 → Int32 → Mm → Nat → Nat → Prop) (K177 : Nat → Nat → Int32 → Int32 → Nat → Int32 → Int32 → Mm → Nat → Nat → Prop) (Cc Zz : Nat) (Q : Int32 → Mm → Prop) (M : Mm) (a0 : Nat) (a1 : Nat) (i2 : Int32) (i3 : Int32) (a4 : Nat) (i5 : Int32) (i7 : Int32) (cc zz : Nat) : Prop := (3 ≤ i7 → kM M a0 = (9, 13) ∧ ∃ a_6 : Nat, rM M a0 1 = some a_6 ∧ ∃ n_7 : Nat, kM M a_6 = (121, n_7) ∧ vp_in i3 n_7 ∧ ∃ a_8 : Nat, rM M a_6 i3.toNatClampNeg = some a_8 ∧ ∃ n_9 : Nat, kM M a1 = (121, n_9) ∧ vp_in i3 n_9 ∧ ∃ a_10 : Nat, rM M a1 i3.toNatClampNeg = some a_10 ∧ False) ∧ (¬ 3 ≤ i7 → kM M a0 = (9, 13) ∧ ∃ a_11 : Nat, rM M a0 1 = some a_11 ∧ ∃ n_12 : Nat, kM M a_11 = (121, n_12) ∧ vp_in i3 n_12 ∧ ∃ a_13 : Nat, rM M a_11 i3.toNatClampNeg = some a_13 ∧ ∃ n_14 : Nat, kM M a4 = (100, n_14) ∧ vp_in i7 n_14 ∧ (¬ i5 = 0) ∧ ∃ n_15 : Nat, kM M a_13 = (100, n_15) ∧ vp_in i7 n_15 ∧ K177 a0 a1 i2 i3 a4 i5 (i7 + 1) (wI M a_13 i7.toNatClampNeg ((iM M a4 i7.toNatClampNeg) / i5)) cc zz)
def T_X9_smooth (Cc Zz : Nat) (M : Mm) (a0 : Nat) (Q : Int32 → Mm → Prop) : Prop := ∀ (K15 : Nat → Nat → Int32 → Mm → Nat → Nat → Prop) (K48 : Nat → Nat → Int32 → Int32 → Mm → Nat → Nat → Prop) (K70 : Nat → Nat → Int32 → Int32 → Nat → Int32 → Int32 → Int32 → Mm → Nat → Nat → Prop) (K177 : Nat → Nat → Int32 → Int32 → Nat → Int32 → Int32 → Mm → Nat → Nat → Prop), (∀ (a0 : Nat) (a1 : Nat) (i2 : Int32) (M : Mm) (cc zz : Nat), S_X9_smooth_15 K15 K48 K70 K177 Cc Zz Q M a0 a1 i2 cc zz → K15 a0 a1 i2 M cc zz) → (∀ (a0 : Nat) (a1 : Nat) (i2 : Int32) (i3 : Int32) (M : Mm) (cc zz : Nat), S_X9_smooth_48 K15 K48 K70 K177 Cc Zz Q M a0 a1 i2 i3 cc zz → K48 a0 a1 i2 i3 M cc zz) → (∀ (a0 : Nat) (a1 : Nat) (i2 : Int32) (i3 : Int32) (a4 : Nat) (i5 : Int32) (i6 : Int32) (i7 : Int32) (M : Mm) (cc zz : Nat), S_X9_smooth_70 K15 K48 K70 K177 Cc Zz Q M a0 a1 i2 i3 a4 i5 i6 i7 cc zz → K70 a0 a1 i2 i3 a4 i5 i6 i7 M cc zz) → (∀ (a0 : Nat) (a1 : Nat) (i2 : Int32) (i3 : Int32) (a4 : Nat) (i5 : Int32) (i7 : Int32) (M : Mm) (cc zz : Nat), S_X9_smooth_177 K15 K48 K70 K177 Cc Zz Q M a0 a1 i2 i3 a4 i5 i7 cc zz → K177 a0 a1 i2 i3 a4 i5 i7 M cc zz) → kM M a0 = (9, 13) ∧ kM (wI M a0 0 0) a0 = (9, 13) ∧ (¬ (iM (wI M a0 0 0) a0 3) < 0) ∧ (iM (wI M a0 0 0) a0 3).toNatClampNeg ≤ 1000 ∧ 0 + 1 ≤ Cc ∧ 0 + (iM (wI M a0 0 0) a0 3).toNatClampNeg ≤ Zz ∧ ∀ q_1 : Nat, frs (wI M a0 0 0) q_1 → K15 a0 q_1 0 (wN (wI M a0 0 0) q_1 121 (iM (wI M a0 0 0) a0 3).toNatClampNeg) (0 + 1) (0 + (iM (wI M a0 0 0) a0 3).toNatClampNeg)
theorem inX9_smooth_X9 : ∀ w ∈ wsX90, w ∈ wsX9_smooth := by decide +kernel
set_option maxRecDepth 100000 in
set_option maxHeartbeats 4000000 in
theorem b_X9_smooth_15 {p : Program} {l : Launch} {e : Env} {s : State} {m : MethodId} {args : Array Value} {below : List Frame} {meth : Method} {c : Code} {D : va_G} {cA : Nat → ClassId} {lo : Nat} (C : Cx p s m args c cX9_smooth 9 RX9 wsX9_smooth D cA lo) (hr : meth.sig.returnType = (some .int)) (hlk : meth.locks = false) {Q : Int32 → Mm → Prop} {Cc Zz : Nat} (M : Mm) (a0 : Nat) (a1 : Nat) (i2 : Int32) (cc zz : Nat) (h : S_X9_smooth_15 (fun (a0 : Nat) (a1 : Nat) (i2 : Int32) (M : Mm) (cc zz : Nat) => QW p l e ({ frames := 0, cells := Cc, slots := Zz, locals := 0 } : Room) s m args below meth c (MQ below (QiM D cA lo Q) args s Cc Zz (fun q => lo ≤ q)) 9 D cA lo cc zz M 15 [(0, .ref a0), (1, .ref a1), (2, .int i2)] []) (fun (a0 : Nat) (a1 : Nat) (i2 : Int32) (i3 : Int32) (M : Mm) (cc zz : Nat) => QW p l e ({ frames := 0, cells := Cc, slots := Zz, locals := 0 } : Room) s m args below meth c (MQ below (QiM D cA lo Q) args s Cc Zz (fun q => lo ≤ q)) 9 D cA lo cc zz M 48 [(0, .ref a0), (1, .ref a1), (2, .int i2), (3, .int i3)] []) (fun (a0 : Nat) (a1 : Nat) (i2 : Int32) (i3 : Int32) (a4 : Nat) (i5 : Int32) (i6 : Int32) (i7 : Int32) (M : Mm) (cc zz : Nat) => QW p l e ({ frames := 0, cells := Cc, slots := Zz, locals := 0 } : Room) s m args below meth c (MQ below (QiM D cA lo Q) args s Cc Zz (fun q => lo ≤ q)) 9 D cA lo cc zz M 70 [(0, .ref a0), (1, .ref a1), (2, .int i2), (3, .int i3), (4, .ref a4), (5, .int i5), (6, .int i6), (7, .int i7)] []) (fun (a0 : Nat) (a1 : Nat) (i2 : Int32) (i3 : Int32) (a4 : Nat) (i5 : Int32) (i7 : Int32) (M : Mm) (cc zz : Nat) => QW p l e ({ frames := 0, cells := Cc, slots := Zz, locals := 0 } : Room) s m args below meth c (MQ below (QiM D cA lo Q) args s Cc Zz (fun q => lo ≤ q)) 9 D cA lo cc zz M 177 [(0, .ref a0), (1, .ref a1), (2, .int i2), (3, .int i3), (4, .ref a4), (5, .int i5), (7, .int i7)] []) Cc Zz Q M a0 a1 i2 cc zz) : QW p l e ({ frames := 0, cells := Cc, slots := Zz, locals := 0 } : Room) s m args below meth c (MQ below (QiM D cA lo Q) args s Cc Zz (fun q => lo ≤ q)) 9 D cA lo cc zz M 15 [(0, .ref a0), (1, .ref a1), (2, .int i2)] [] := by
  unfold S_X9_smooth_15 at h
  refine q_iload_n C dX9_smooth_15 rfl (j := 2) rfl ?_
  refine q_aload_n C dX9_smooth_16 rfl (j := 0) rfl ?_
  refine q_getI (ci := 9) (k0 := 3) (T := TX9) C inX9_smooth_X9 rfl (by decide) h.1 (by decide) rfl (by decide +kernel) rfl dX9_smooth_17 ?_
  have h := h.2
  refine q_icmp_ge (tgt := 44) C dX9_smooth_20 (by decide) (fun z => ?_) (fun z => ?_)
  · have h := h.1 z
    refine q_iconst (v := 0) C dX9_smooth_44 (by decide) ?_
    refine q_istore_n (lv' := [(2, .int 0), (0, .ref a0), (1, .ref a1)]) C dX9_smooth_45 rfl (by decide) rfl ?_
    refine q_iconst (v := 0) C dX9_smooth_46 (by decide) ?_
    refine q_istore_n (lv' := [(3, .int 0), (2, .int 0), (0, .ref a0), (1, .ref a1)]) C dX9_smooth_47 rfl (by decide) rfl ?_
    exact q_sub [2, 3, 1, 0] rfl h
  · have h := h.2 z
    refine q_aload_n C dX9_smooth_23 rfl (j := 1) rfl ?_
    refine q_iload_n C dX9_smooth_24 rfl (j := 2) rfl ?_
    refine q_aload_n C dX9_smooth_25 rfl (j := 0) rfl ?_
    refine q_getR (ci := 9) (k0 := 1) (T := TX9) C inX9_smooth_X9 rfl (by decide) h.1 (by decide) rfl (by decide +kernel) rfl dX9_smooth_26 ?_
    obtain ⟨a_2, z, h⟩ := h.2
    refine q_ref z ?_
    refine q_iload_n C dX9_smooth_29 rfl (j := 2) rfl ?_
    obtain ⟨n_3, z1, z2, h⟩ := h
    refine q_gald C z1 z2 dX9_smooth_30 ?_
    obtain ⟨a_4, z, h⟩ := h
    refine q_ref z ?_
    exact h.elim
set_option maxRecDepth 100000 in
set_option maxHeartbeats 4000000 in
theorem b_X9_smooth_48 {p : Program} {l : Launch} {e : Env} {s : State} {m : MethodId} {args : Array Value} {below : List Frame} {meth : Method} {c : Code} {D : va_G} {cA : Nat → ClassId} {lo : Nat} (C : Cx p s m args c cX9_smooth 9 RX9 wsX9_smooth D cA lo) (hr : meth.sig.returnType = (some .int)) (hlk : meth.locks = false) {Q : Int32 → Mm → Prop} {Cc Zz : Nat} (M : Mm) (a0 : Nat) (a1 : Nat) (i2 : Int32) (i3 : Int32) (cc zz : Nat) (h : S_X9_smooth_48 (fun (a0 : Nat) (a1 : Nat) (i2 : Int32) (M : Mm) (cc zz : Nat) => QW p l e ({ frames := 0, cells := Cc, slots := Zz, locals := 0 } : Room) s m args below meth c (MQ below (QiM D cA lo Q) args s Cc Zz (fun q => lo ≤ q)) 9 D cA lo cc zz M 15 [(0, .ref a0), (1, .ref a1), (2, .int i2)] []) (fun (a0 : Nat) (a1 : Nat) (i2 : Int32) (i3 : Int32) (M : Mm) (cc zz : Nat) => QW p l e ({ frames := 0, cells := Cc, slots := Zz, locals := 0 } : Room) s m args below meth c (MQ below (QiM D cA lo Q) args s Cc Zz (fun q => lo ≤ q)) 9 D cA lo cc zz M 48 [(0, .ref a0), (1, .ref a1), (2, .int i2), (3, .int i3)] []) (fun (a0 : Nat) (a1 : Nat) (i2 : Int32) (i3 : Int32) (a4 : Nat) (i5 : Int32) (i6 : Int32) (i7 : Int32) (M : Mm) (cc zz : Nat) => QW p l e ({ frames := 0, cells := Cc, slots := Zz, locals := 0 } : Room) s m args below meth c (MQ below (QiM D cA lo Q) args s Cc Zz (fun q => lo ≤ q)) 9 D cA lo cc zz M 70 [(0, .ref a0), (1, .ref a1), (2, .int i2), (3, .int i3), (4, .ref a4), (5, .int i5), (6, .int i6), (7, .int i7)] []) (fun (a0 : Nat) (a1 : Nat) (i2 : Int32) (i3 : Int32) (a4 : Nat) (i5 : Int32) (i7 : Int32) (M : Mm) (cc zz : Nat) => QW p l e ({ frames := 0, cells := Cc, slots := Zz, locals := 0 } : Room) s m args below meth c (MQ below (QiM D cA lo Q) args s Cc Zz (fun q => lo ≤ q)) 9 D cA lo cc zz M 177 [(0, .ref a0), (1, .ref a1), (2, .int i2), (3, .int i3), (4, .ref a4), (5, .int i5), (7, .int i7)] []) Cc Zz Q M a0 a1 i2 i3 cc zz) : QW p l e ({ frames := 0, cells := Cc, slots := Zz, locals := 0 } : Room) s m args below meth c (MQ below (QiM D cA lo Q) args s Cc Zz (fun q => lo ≤ q)) 9 D cA lo cc zz M 48 [(0, .ref a0), (1, .ref a1), (2, .int i2), (3, .int i3)] [] := by
  unfold S_X9_smooth_48 at h
  refine q_iload_n C dX9_smooth_48 rfl (j := 3) rfl ?_
  refine q_aload_n C dX9_smooth_49 rfl (j := 0) rfl ?_
  refine q_getI (ci := 9) (k0 := 3) (T := TX9) C inX9_smooth_X9 rfl (by decide) h.1 (by decide) rfl (by decide +kernel) rfl dX9_smooth_50 ?_
  have h := h.2
  refine q_icmp_ge (tgt := 235) C dX9_smooth_53 (by decide) (fun z => ?_) (fun z => ?_)
  · have h := h.1 z
    refine q_iload_n C dX9_smooth_235 rfl (j := 2) rfl ?_
    exact q_iret C hr hlk dX9_smooth_236 h.1 h.2.1 h.2.2
  · have h := h.2 z
    refine q_iconst (v := 3) C dX9_smooth_56 (by decide) ?_
    refine q_newI (N := 3) C (by decide +kernel) (by decide) (by decide) (by decide) ⟨h.1, h.2.1⟩ dX9_smooth_57 (fun q_5 hq _ => ?_)
    have h := h.2.2 q_5 hq
    refine q_astore (lv' := [(4, .ref q_5), (0, .ref a0), (1, .ref a1), (2, .int i2), (3, .int i3)]) C dX9_smooth_59 (by decide) rfl ?_
    refine q_iconst (v := 0) C dX9_smooth_61 (by decide) ?_
    refine q_istore (lv' := [(5, .int 0), (4, .ref q_5), (0, .ref a0), (1, .ref a1), (2, .int i2), (3, .int i3)]) C dX9_smooth_62 (by decide) rfl ?_
    refine q_iconst (v := 1) C dX9_smooth_64 (by decide) ?_
    refine q_istore (lv' := [(6, .int 1), (5, .int 0), (4, .ref q_5), (0, .ref a0), (1, .ref a1), (2, .int i2), (3, .int i3)]) C dX9_smooth_65 (by decide) rfl ?_
    refine q_iconst (v := 0) C dX9_smooth_67 (by decide) ?_
    refine q_istore (lv' := [(7, .int 0), (6, .int 1), (5, .int 0), (4, .ref q_5), (0, .ref a0), (1, .ref a1), (2, .int i2), (3, .int i3)]) C dX9_smooth_68 (by decide) rfl ?_
    exact q_sub [4, 5, 6, 7, 3, 2, 1, 0] rfl h
set_option maxRecDepth 100000 in
set_option maxHeartbeats 4000000 in
theorem b_X9_smooth_70 {p : Program} {l : Launch} {e : Env} {s : State} {m : MethodId} {args : Array Value} {below : List Frame} {meth : Method} {c : Code} {D : va_G} {cA : Nat → ClassId} {lo : Nat} (C : Cx p s m args c cX9_smooth 9 RX9 wsX9_smooth D cA lo) (hr : meth.sig.returnType = (some .int)) (hlk : meth.locks = false) {Q : Int32 → Mm → Prop} {Cc Zz : Nat} (M : Mm) (a0 : Nat) (a1 : Nat) (i2 : Int32) (i3 : Int32) (a4 : Nat) (i5 : Int32) (i6 : Int32) (i7 : Int32) (cc zz : Nat) (h : S_X9_smooth_70 (fun (a0 : Nat) (a1 : Nat) (i2 : Int32) (M : Mm) (cc zz : Nat) => QW p l e ({ frames := 0, cells := Cc, slots := Zz, locals := 0 } : Room) s m args below meth c (MQ below (QiM D cA lo Q) args s Cc Zz (fun q => lo ≤ q)) 9 D cA lo cc zz M 15 [(0, .ref a0), (1, .ref a1), (2, .int i2)] []) (fun (a0 : Nat) (a1 : Nat) (i2 : Int32) (i3 : Int32) (M : Mm) (cc zz : Nat) => QW p l e ({ frames := 0, cells := Cc, slots := Zz, locals := 0 } : Room) s m args below meth c (MQ below (QiM D cA lo Q) args s Cc Zz (fun q => lo ≤ q)) 9 D cA lo cc zz M 48 [(0, .ref a0), (1, .ref a1), (2, .int i2), (3, .int i3)] []) (fun (a0 : Nat) (a1 : Nat) (i2 : Int32) (i3 : Int32) (a4 : Nat) (i5 : Int32) (i6 : Int32) (i7 : Int32) (M : Mm) (cc zz : Nat) => QW p l e ({ frames := 0, cells := Cc, slots := Zz, locals := 0 } : Room) s m args below meth c (MQ below (QiM D cA lo Q) args s Cc Zz (fun q => lo ≤ q)) 9 D cA lo cc zz M 70 [(0, .ref a0), (1, .ref a1), (2, .int i2), (3, .int i3), (4, .ref a4), (5, .int i5), (6, .int i6), (7, .int i7)] []) (fun (a0 : Nat) (a1 : Nat) (i2 : Int32) (i3 : Int32) (a4 : Nat) (i5 : Int32) (i7 : Int32) (M : Mm) (cc zz : Nat) => QW p l e ({ frames := 0, cells := Cc, slots := Zz, locals := 0 } : Room) s m args below meth c (MQ below (QiM D cA lo Q) args s Cc Zz (fun q => lo ≤ q)) 9 D cA lo cc zz M 177 [(0, .ref a0), (1, .ref a1), (2, .int i2), (3, .int i3), (4, .ref a4), (5, .int i5), (7, .int i7)] []) Cc Zz Q M a0 a1 i2 i3 a4 i5 i6 i7 cc zz) : QW p l e ({ frames := 0, cells := Cc, slots := Zz, locals := 0 } : Room) s m args below meth c (MQ below (QiM D cA lo Q) args s Cc Zz (fun q => lo ≤ q)) 9 D cA lo cc zz M 70 [(0, .ref a0), (1, .ref a1), (2, .int i2), (3, .int i3), (4, .ref a4), (5, .int i5), (6, .int i6), (7, .int i7)] [] := by
  unfold S_X9_smooth_70 at h
  refine q_iload C dX9_smooth_70 (j := 7) rfl ?_
  refine q_aload_n C dX9_smooth_72 rfl (j := 0) rfl ?_
  refine q_getI (ci := 9) (k0 := 3) (T := TX9) C inX9_smooth_X9 rfl (by decide) h.1 (by decide) rfl (by decide +kernel) rfl dX9_smooth_73 ?_
  have h := h.2
  refine q_icmp_ge (tgt := 161) C dX9_smooth_76 (by decide) (fun z => ?_) (fun z => ?_)
  · have h := h.1 z
    refine q_iload C dX9_smooth_161 (j := 5) rfl ?_
    refine q_if_eq (tgt := 229) C dX9_smooth_163 (by decide) (fun z => ?_) (fun z => ?_)
    · have h := h.1 z
      refine q_iinc (v := (i3 + 1)) (lv' := [(3, .int (i3 + 1)), (0, .ref a0), (1, .ref a1), (2, .int i2), (4, .ref a4), (5, .int i5), (6, .int i6), (7, .int i7)]) C dX9_smooth_229 (j := 3) rfl rfl (by decide) rfl ?_
      refine q_goto (tgt := 48) C dX9_smooth_232 (by decide) ?_
      exact q_sub [1, 2, 3, 0] rfl h
    · have h := h.2 z
      refine q_iload C dX9_smooth_166 (j := 6) rfl ?_
      refine q_if_ne (tgt := 174) C dX9_smooth_168 (by decide) (fun z => ?_) (fun z => ?_)
      · have h := h.1 z
        refine q_iconst (v := 0) C dX9_smooth_174 (by decide) ?_
        refine q_istore (lv' := [(7, .int 0), (0, .ref a0), (1, .ref a1), (2, .int i2), (3, .int i3), (4, .ref a4), (5, .int i5), (6, .int i6)]) C dX9_smooth_175 (by decide) rfl ?_
        exact q_sub [1, 2, 3, 4, 5, 6, 0] rfl h
      · have h := h.2 z
        refine q_goto (tgt := 229) C dX9_smooth_171 (by decide) ?_
        refine q_iinc (v := (i3 + 1)) (lv' := [(3, .int (i3 + 1)), (0, .ref a0), (1, .ref a1), (2, .int i2), (4, .ref a4), (5, .int i5), (6, .int i6), (7, .int i7)]) C dX9_smooth_229 (j := 3) rfl rfl (by decide) rfl ?_
        refine q_goto (tgt := 48) C dX9_smooth_232 (by decide) ?_
        exact q_sub [1, 2, 3, 0] rfl h
  · have h := h.2 z
    refine q_aload_n C dX9_smooth_79 rfl (j := 0) rfl ?_
    refine q_iload_n C dX9_smooth_80 rfl (j := 3) rfl ?_
    refine q_iload C dX9_smooth_81 (j := 7) rfl ?_
    exact h.elim
set_option maxRecDepth 100000 in
set_option maxHeartbeats 4000000 in
theorem b_X9_smooth_177 {p : Program} {l : Launch} {e : Env} {s : State} {m : MethodId} {args : Array Value} {below : List Frame} {meth : Method} {c : Code} {D : va_G} {cA : Nat → ClassId} {lo : Nat} (C : Cx p s m args c cX9_smooth 9 RX9 wsX9_smooth D cA lo) (hr : meth.sig.returnType = (some .int)) (hlk : meth.locks = false) {Q : Int32 → Mm → Prop} {Cc Zz : Nat} (M : Mm) (a0 : Nat) (a1 : Nat) (i2 : Int32) (i3 : Int32) (a4 : Nat) (i5 : Int32) (i7 : Int32) (cc zz : Nat) (h : S_X9_smooth_177 (fun (a0 : Nat) (a1 : Nat) (i2 : Int32) (M : Mm) (cc zz : Nat) => QW p l e ({ frames := 0, cells := Cc, slots := Zz, locals := 0 } : Room) s m args below meth c (MQ below (QiM D cA lo Q) args s Cc Zz (fun q => lo ≤ q)) 9 D cA lo cc zz M 15 [(0, .ref a0), (1, .ref a1), (2, .int i2)] []) (fun (a0 : Nat) (a1 : Nat) (i2 : Int32) (i3 : Int32) (M : Mm) (cc zz : Nat) => QW p l e ({ frames := 0, cells := Cc, slots := Zz, locals := 0 } : Room) s m args below meth c (MQ below (QiM D cA lo Q) args s Cc Zz (fun q => lo ≤ q)) 9 D cA lo cc zz M 48 [(0, .ref a0), (1, .ref a1), (2, .int i2), (3, .int i3)] []) (fun (a0 : Nat) (a1 : Nat) (i2 : Int32) (i3 : Int32) (a4 : Nat) (i5 : Int32) (i6 : Int32) (i7 : Int32) (M : Mm) (cc zz : Nat) => QW p l e ({ frames := 0, cells := Cc, slots := Zz, locals := 0 } : Room) s m args below meth c (MQ below (QiM D cA lo Q) args s Cc Zz (fun q => lo ≤ q)) 9 D cA lo cc zz M 70 [(0, .ref a0), (1, .ref a1), (2, .int i2), (3, .int i3), (4, .ref a4), (5, .int i5), (6, .int i6), (7, .int i7)] []) (fun (a0 : Nat) (a1 : Nat) (i2 : Int32) (i3 : Int32) (a4 : Nat) (i5 : Int32) (i7 : Int32) (M : Mm) (cc zz : Nat) => QW p l e ({ frames := 0, cells := Cc, slots := Zz, locals := 0 } : Room) s m args below meth c (MQ below (QiM D cA lo Q) args s Cc Zz (fun q => lo ≤ q)) 9 D cA lo cc zz M 177 [(0, .ref a0), (1, .ref a1), (2, .int i2), (3, .int i3), (4, .ref a4), (5, .int i5), (7, .int i7)] []) Cc Zz Q M a0 a1 i2 i3 a4 i5 i7 cc zz) : QW p l e ({ frames := 0, cells := Cc, slots := Zz, locals := 0 } : Room) s m args below meth c (MQ below (QiM D cA lo Q) args s Cc Zz (fun q => lo ≤ q)) 9 D cA lo cc zz M 177 [(0, .ref a0), (1, .ref a1), (2, .int i2), (3, .int i3), (4, .ref a4), (5, .int i5), (7, .int i7)] [] := by
  unfold S_X9_smooth_177 at h
  refine q_iload C dX9_smooth_177 (j := 6) rfl ?_
  refine q_iconst (v := 3) C dX9_smooth_179 (by decide) ?_
  refine q_icmp_ge (tgt := 206) C dX9_smooth_180 (by decide) (fun z => ?_) (fun z => ?_)
  · have h := h.1 z
    refine q_iload_n C dX9_smooth_206 rfl (j := 2) rfl ?_
    refine q_aload_n C dX9_smooth_207 rfl (j := 0) rfl ?_
    refine q_getR (ci := 9) (k0 := 1) (T := TX9) C inX9_smooth_X9 rfl (by decide) h.1 (by decide) rfl (by decide +kernel) rfl dX9_smooth_208 ?_
    obtain ⟨a_6, z, h⟩ := h.2
    refine q_ref z ?_
    refine q_iload_n C dX9_smooth_211 rfl (j := 3) rfl ?_
    obtain ⟨n_7, z1, z2, h⟩ := h
    refine q_gald C z1 z2 dX9_smooth_212 ?_
    obtain ⟨a_8, z, h⟩ := h
    refine q_ref z ?_
    refine q_aload_n C dX9_smooth_213 rfl (j := 1) rfl ?_
    refine q_iload_n C dX9_smooth_214 rfl (j := 3) rfl ?_
    obtain ⟨n_9, z1, z2, h⟩ := h
    refine q_gald C z1 z2 dX9_smooth_215 ?_
    obtain ⟨a_10, z, h⟩ := h
    refine q_ref z ?_
    exact h.elim
  · have h := h.2 z
    refine q_aload_n C dX9_smooth_183 rfl (j := 0) rfl ?_
    refine q_getR (ci := 9) (k0 := 1) (T := TX9) C inX9_smooth_X9 rfl (by decide) h.1 (by decide) rfl (by decide +kernel) rfl dX9_smooth_184 ?_
    obtain ⟨a_11, z, h⟩ := h.2
    refine q_ref z ?_
    refine q_iload_n C dX9_smooth_187 rfl (j := 3) rfl ?_
    obtain ⟨n_12, z1, z2, h⟩ := h
    refine q_gald C z1 z2 dX9_smooth_188 ?_
    obtain ⟨a_13, z, h⟩ := h
    refine q_ref z ?_
    refine q_iload C dX9_smooth_189 (j := 6) rfl ?_
    refine q_aload C dX9_smooth_191 (j := 4) rfl ?_
    refine q_iload C dX9_smooth_193 (j := 6) rfl ?_
    obtain ⟨n_14, z1, z2, h⟩ := h
    refine q_iald C z1 z2 dX9_smooth_195 ?_
    refine q_iload C dX9_smooth_196 (j := 5) rfl ?_
    refine q_idiv C dX9_smooth_198 h.1 ?_
    have h := h.2
    obtain ⟨n_15, z1, z2, h⟩ := h
    refine q_iast C z1 z2 dX9_smooth_199 ?_
    refine q_iinc (v := (i7 + 1)) (lv' := [(7, .int (i7 + 1)), (0, .ref a0), (1, .ref a1), (2, .int i2), (3, .int i3), (4, .ref a4), (5, .int i5)]) C dX9_smooth_200 (j := 6) rfl rfl (by decide) rfl ?_
    refine q_goto (tgt := 177) C dX9_smooth_203 (by decide) ?_
    exact q_sub [1, 2, 3, 4, 5, 6, 0] rfl h
set_option maxRecDepth 100000 in
set_option maxHeartbeats 4000000 in
theorem c_X9_smooth (l : Launch) (D : va_G) (cA : Nat → ClassId) (lo : Nat) {M : Mm} {a0 : Nat} {Cc Zz : Nat} {Q : Int32 → Mm → Prop} (h : T_X9_smooth Cc Zz M a0 Q) : Met l yX9_smooth wsX9_smooth ({ frames := 0, cells := Cc, slots := Zz, locals := 0 } : Room) (PcM D cA lo [.ref a0] M) (QiM D cA lo Q) Cc Zz (fun q => lo ≤ q) := by
  refine q_start (cc := cX9_smooth) (nL := 9) (ret := (some .int)) (by decide) rfl rfl (Nat.le_of_ble_eq_true rfl) ?_
  intro p e s m args below meth c C hr hlk hin
  unfold T_X9_smooth at h
  have h := h (fun (a0 : Nat) (a1 : Nat) (i2 : Int32) (M : Mm) (cc zz : Nat) => QW p l e ({ frames := 0, cells := Cc, slots := Zz, locals := 0 } : Room) s m args below meth c (MQ below (QiM D cA lo Q) args s Cc Zz (fun q => lo ≤ q)) 9 D cA lo cc zz M 15 [(0, .ref a0), (1, .ref a1), (2, .int i2)] []) (fun (a0 : Nat) (a1 : Nat) (i2 : Int32) (i3 : Int32) (M : Mm) (cc zz : Nat) => QW p l e ({ frames := 0, cells := Cc, slots := Zz, locals := 0 } : Room) s m args below meth c (MQ below (QiM D cA lo Q) args s Cc Zz (fun q => lo ≤ q)) 9 D cA lo cc zz M 48 [(0, .ref a0), (1, .ref a1), (2, .int i2), (3, .int i3)] []) (fun (a0 : Nat) (a1 : Nat) (i2 : Int32) (i3 : Int32) (a4 : Nat) (i5 : Int32) (i6 : Int32) (i7 : Int32) (M : Mm) (cc zz : Nat) => QW p l e ({ frames := 0, cells := Cc, slots := Zz, locals := 0 } : Room) s m args below meth c (MQ below (QiM D cA lo Q) args s Cc Zz (fun q => lo ≤ q)) 9 D cA lo cc zz M 70 [(0, .ref a0), (1, .ref a1), (2, .int i2), (3, .int i3), (4, .ref a4), (5, .int i5), (6, .int i6), (7, .int i7)] []) (fun (a0 : Nat) (a1 : Nat) (i2 : Int32) (i3 : Int32) (a4 : Nat) (i5 : Int32) (i7 : Int32) (M : Mm) (cc zz : Nat) => QW p l e ({ frames := 0, cells := Cc, slots := Zz, locals := 0 } : Room) s m args below meth c (MQ below (QiM D cA lo Q) args s Cc Zz (fun q => lo ≤ q)) 9 D cA lo cc zz M 177 [(0, .ref a0), (1, .ref a1), (2, .int i2), (3, .int i3), (4, .ref a4), (5, .int i5), (7, .int i7)] []) (fun a0 a1 i2 M cc zz h => b_X9_smooth_15 C hr hlk M a0 a1 i2 cc zz h) (fun a0 a1 i2 i3 M cc zz h => b_X9_smooth_48 C hr hlk M a0 a1 i2 i3 cc zz h) (fun a0 a1 i2 i3 a4 i5 i6 i7 M cc zz h => b_X9_smooth_70 C hr hlk M a0 a1 i2 i3 a4 i5 i6 i7 cc zz h) (fun a0 a1 i2 i3 a4 i5 i7 M cc zz h => b_X9_smooth_177 C hr hlk M a0 a1 i2 i3 a4 i5 i7 cc zz h)
  refine q_aload_n C dX9_smooth_0 rfl (j := 0) rfl ?_
  refine q_iconst (v := 0) C dX9_smooth_1 (by decide) ?_
  refine q_putI (ci := 9) (k0 := 0) (T := TX9) (v := 0) (ty := .int) C inX9_smooth_X9 tyX9 tyX9_ok nmX9 rfl (by decide) h.1 (by decide) rfl (by decide +kernel) rfl (by decide +kernel) rfl rfl rfl dX9_smooth_2 ?_
  have h := h.2
  refine q_aload_n C dX9_smooth_5 rfl (j := 0) rfl ?_
  refine q_getI (ci := 9) (k0 := 3) (T := TX9) C inX9_smooth_X9 rfl (by decide) h.1 (by decide) rfl (by decide +kernel) rfl dX9_smooth_6 ?_
  have h := h.2
  refine q_newG (N := (iM (wI M a0 0 0) a0 3).toNatClampNeg) C (by decide +kernel) h.1 rfl (Nat.le_trans (Nat.mul_le_mul_right _ h.2.1) (by decide)) ⟨h.2.2.1, h.2.2.2.1⟩ dX9_smooth_9 (fun q_1 hq _ => ?_)
  have h := h.2.2.2.2 q_1 hq
  refine q_astore_n (lv' := [(1, .ref q_1), (0, .ref a0)]) C dX9_smooth_12 rfl (by decide) rfl ?_
  refine q_iconst (v := 0) C dX9_smooth_13 (by decide) ?_
  refine q_istore_n (lv' := [(2, .int 0), (1, .ref q_1), (0, .ref a0)]) C dX9_smooth_14 rfl (by decide) rfl ?_
  exact q_sub [2, 1, 0] rfl h
def S_X9_turn_7 (K7 : Nat → Int32 → Mm → Prop) (Q : Int32 → Mm → Prop) (M : Mm) (a0 : Nat) (i1 : Int32) : Prop := kM M a0 = (9, 13) ∧ ((iM M a0 5) ≤ i1 → kM M a0 = (9, 13) ∧ T_X9_table M a0 (fun M_2 => kM M_2 a0 = (9, 13) ∧ T_X9_facesNow M_2 a0 (fun r_3 => Q r_3 M_2))) ∧ (¬ (iM M a0 5) ≤ i1 → kM M a0 = (9, 13) ∧ ∃ a_4 : Nat, rM M a0 4 = some a_4 ∧ ∃ n_5 : Nat, kM M a_4 = (121, n_5) ∧ vp_in i1 n_5 ∧ (∀ a_6 : Nat, (rM M a_4 i1.toNatClampNeg) = some a_6 → kM M a0 = (9, 13) ∧ ∃ a_7 : Nat, rM M a0 4 = some a_7 ∧ ∃ n_8 : Nat, kM M a_7 = (121, n_8) ∧ vp_in i1 n_8 ∧ ∃ a_9 : Nat, rM M a_7 i1.toNatClampNeg = some a_9 ∧ False) ∧ ((rM M a_4 i1.toNatClampNeg) = none → K7 a0 (i1 + 1) M))
def T_X9_turn (M : Mm) (a0 : Nat) (Q : Int32 → Mm → Prop) : Prop := ∀ (K7 : Nat → Int32 → Mm → Prop), (∀ (a0 : Nat) (i1 : Int32) (M : Mm), S_X9_turn_7 K7 Q M a0 i1 → K7 a0 i1 M) → kM M a0 = (9, 13) ∧ K7 a0 0 (wI M a0 0 0)
theorem inX9_turn_X9 : ∀ w ∈ wsX90, w ∈ wsX9_turn := by decide +kernel
set_option maxRecDepth 100000 in
set_option maxHeartbeats 4000000 in
theorem b_X9_turn_7 {p : Program} {l : Launch} {e : Env} {s : State} {m : MethodId} {args : Array Value} {below : List Frame} {meth : Method} {c : Code} {D : va_G} {cA : Nat → ClassId} {lo : Nat} (C : Cx p s m args c cX9_turn 4 RX9 wsX9_turn D cA lo) (hr : meth.sig.returnType = (some .int)) (hlk : meth.locks = false) {Q : Int32 → Mm → Prop} (M : Mm) (a0 : Nat) (i1 : Int32) (h : S_X9_turn_7 (fun (a0 : Nat) (i1 : Int32) (M : Mm) => QW p l e ({ frames := 3, cells := 0, slots := 0, locals := 71 } : Room) s m args below meth c (MQ below (QiM D cA lo Q) args s 0 0 (fun q => lo ≤ q)) 4 D cA lo 0 0 M 7 [(0, .ref a0), (1, .int i1)] []) Q M a0 i1) : QW p l e ({ frames := 3, cells := 0, slots := 0, locals := 71 } : Room) s m args below meth c (MQ below (QiM D cA lo Q) args s 0 0 (fun q => lo ≤ q)) 4 D cA lo 0 0 M 7 [(0, .ref a0), (1, .int i1)] [] := by
  unfold S_X9_turn_7 at h
  refine q_iload_n C dX9_turn_7 rfl (j := 1) rfl ?_
  refine q_aload_n C dX9_turn_8 rfl (j := 0) rfl ?_
  refine q_getI (ci := 9) (k0 := 5) (T := TX9) C inX9_turn_X9 rfl (by decide) h.1 (by decide) rfl (by decide +kernel) rfl dX9_turn_9 ?_
  have h := h.2
  refine q_icmp_ge (tgt := 81) C dX9_turn_12 (by decide) (fun z => ?_) (fun z => ?_)
  · have h := h.1 z
    refine q_aload_n C dX9_turn_81 rfl (j := 0) rfl ?_
    refine q_cv (q_runV (As := []) (st := []) C (c_X9_table l D cA lo h.2) (cwV 0 C.2.2.2.2.1 gX9_turn_X9_table rfl rfl rfl (by decide +kernel) ⟨Nat.le_of_ble_eq_true rfl, Nat.le_of_ble_eq_true rfl⟩) h.1 (by decide) rfl rfl rfl (Nat.le_of_ble_eq_true rfl) dX9_turn_82 ⟨Nat.le_of_ble_eq_true rfl, Nat.le_of_ble_eq_true rfl⟩) (fun M_2 h => ?_)
    refine q_aload_n C dX9_turn_85 rfl (j := 0) rfl ?_
    refine q_ci (q_runV (As := []) (st := []) C (c_X9_facesNow l D cA lo h.2) (cwV 0 C.2.2.2.2.1 gX9_turn_X9_facesNow rfl rfl rfl (by decide +kernel) ⟨Nat.le_of_ble_eq_true rfl, Nat.le_of_ble_eq_true rfl⟩) h.1 (by decide) rfl rfl rfl (Nat.le_of_ble_eq_true rfl) dX9_turn_86 ⟨Nat.le_of_ble_eq_true rfl, Nat.le_of_ble_eq_true rfl⟩) (fun r_3 M_z h => ?_)
    refine q_mem h.1 ?_
    have h := h.2
    exact q_iret C hr hlk dX9_turn_89 (Nat.le_of_ble_eq_true rfl) (Nat.le_of_ble_eq_true rfl) h
  · have h := h.2 z
    refine q_aload_n C dX9_turn_15 rfl (j := 0) rfl ?_
    refine q_getR (ci := 9) (k0 := 4) (T := TX9) C inX9_turn_X9 rfl (by decide) h.1 (by decide) rfl (by decide +kernel) rfl dX9_turn_16 ?_
    obtain ⟨a_4, z, h⟩ := h.2
    refine q_ref z ?_
    refine q_iload_n C dX9_turn_19 rfl (j := 1) rfl ?_
    obtain ⟨n_5, z1, z2, h⟩ := h
    refine q_gald C z1 z2 dX9_turn_20 ?_
    refine q_ifnonnull (tgt := 27) C dX9_turn_21 (by decide) (fun a_6 z => ?_) (fun z => ?_)
    · have h := h.1 _ z
      refine q_aload_n C dX9_turn_27 rfl (j := 0) rfl ?_
      refine q_getR (ci := 9) (k0 := 4) (T := TX9) C inX9_turn_X9 rfl (by decide) h.1 (by decide) rfl (by decide +kernel) rfl dX9_turn_28 ?_
      obtain ⟨a_7, z, h⟩ := h.2
      refine q_ref z ?_
      refine q_iload_n C dX9_turn_31 rfl (j := 1) rfl ?_
      obtain ⟨n_8, z1, z2, h⟩ := h
      refine q_gald C z1 z2 dX9_turn_32 ?_
      obtain ⟨a_9, z, h⟩ := h
      refine q_ref z ?_
      exact h.elim
    · have h := h.2 z
      refine q_goto (tgt := 75) C dX9_turn_24 (by decide) ?_
      refine q_iinc (v := (i1 + 1)) (lv' := [(1, .int (i1 + 1)), (0, .ref a0)]) C dX9_turn_75 (j := 1) rfl rfl (by decide) rfl ?_
      refine q_goto (tgt := 7) C dX9_turn_78 (by decide) ?_
      exact q_sub [1, 0] rfl h
set_option maxRecDepth 100000 in
set_option maxHeartbeats 4000000 in
theorem c_X9_turn (l : Launch) (D : va_G) (cA : Nat → ClassId) (lo : Nat) {M : Mm} {a0 : Nat} {Q : Int32 → Mm → Prop} (h : T_X9_turn M a0 Q) : Met l yX9_turn wsX9_turn ({ frames := 3, cells := 0, slots := 0, locals := 71 } : Room) (PcM D cA lo [.ref a0] M) (QiM D cA lo Q) 0 0 (fun q => lo ≤ q) := by
  refine q_start (cc := cX9_turn) (nL := 4) (ret := (some .int)) (by decide) rfl rfl (Nat.le_of_ble_eq_true rfl) ?_
  intro p e s m args below meth c C hr hlk hin
  unfold T_X9_turn at h
  have h := h (fun (a0 : Nat) (i1 : Int32) (M : Mm) => QW p l e ({ frames := 3, cells := 0, slots := 0, locals := 71 } : Room) s m args below meth c (MQ below (QiM D cA lo Q) args s 0 0 (fun q => lo ≤ q)) 4 D cA lo 0 0 M 7 [(0, .ref a0), (1, .int i1)] []) (fun a0 i1 M h => b_X9_turn_7 C hr hlk M a0 i1 h)
  refine q_aload_n C dX9_turn_0 rfl (j := 0) rfl ?_
  refine q_iconst (v := 0) C dX9_turn_1 (by decide) ?_
  refine q_putI (ci := 9) (k0 := 0) (T := TX9) (v := 0) (ty := .int) C inX9_turn_X9 tyX9 tyX9_ok nmX9 rfl (by decide) h.1 (by decide) rfl (by decide +kernel) rfl (by decide +kernel) rfl rfl rfl dX9_turn_2 ?_
  have h := h.2
  refine q_iconst (v := 0) C dX9_turn_5 (by decide) ?_
  refine q_istore_n (lv' := [(1, .int 0), (0, .ref a0)]) C dX9_turn_6 rfl (by decide) rfl ?_
  exact q_sub [1, 0] rfl h
def T_X9_points (M : Mm) (a0 : Nat) (Q : Int32 → Mm → Prop) : Prop := kM M a0 = (9, 13) ∧ kM (wI M a0 0 0) a0 = (9, 13) ∧ T_X9_pointsNow (wI M a0 0 0) a0 (fun r_1 => Q r_1 (wI M a0 0 0))
theorem inX9_points_X9 : ∀ w ∈ wsX90, w ∈ wsX9_points := by decide +kernel
set_option maxRecDepth 100000 in
set_option maxHeartbeats 4000000 in
theorem c_X9_points (l : Launch) (D : va_G) (cA : Nat → ClassId) (lo : Nat) {M : Mm} {a0 : Nat} {Q : Int32 → Mm → Prop} (h : T_X9_points M a0 Q) : Met l yX9_points wsX9_points ({ frames := 1, cells := 0, slots := 0, locals := 22 } : Room) (PcM D cA lo [.ref a0] M) (QiM D cA lo Q) 0 0 (fun q => lo ≤ q) := by
  refine q_start (cc := cX9_points) (nL := 1) (ret := (some .int)) (by decide) rfl rfl (Nat.le_of_ble_eq_true rfl) ?_
  intro p e s m args below meth c C hr hlk hin
  unfold T_X9_points at h
  refine q_aload_n C dX9_points_0 rfl (j := 0) rfl ?_
  refine q_iconst (v := 0) C dX9_points_1 (by decide) ?_
  refine q_putI (ci := 9) (k0 := 0) (T := TX9) (v := 0) (ty := .int) C inX9_points_X9 tyX9 tyX9_ok nmX9 rfl (by decide) h.1 (by decide) rfl (by decide +kernel) rfl (by decide +kernel) rfl rfl rfl dX9_points_2 ?_
  have h := h.2
  refine q_aload_n C dX9_points_5 rfl (j := 0) rfl ?_
  refine q_ci (q_runV (As := []) (st := []) C (c_X9_pointsNow l D cA lo h.2) (cwV 0 C.2.2.2.2.1 gX9_points_X9_pointsNow rfl rfl rfl (by decide +kernel) ⟨Nat.le_of_ble_eq_true rfl, Nat.le_of_ble_eq_true rfl⟩) h.1 (by decide) rfl rfl rfl (Nat.le_of_ble_eq_true rfl) dX9_points_6 ⟨Nat.le_of_ble_eq_true rfl, Nat.le_of_ble_eq_true rfl⟩) (fun r_1 M_z h => ?_)
  refine q_mem h.1 ?_
  have h := h.2
  exact q_iret C hr hlk dX9_points_9 (Nat.le_of_ble_eq_true rfl) (Nat.le_of_ble_eq_true rfl) h
def T_X9_edges (M : Mm) (a0 : Nat) (Q : Int32 → Mm → Prop) : Prop := kM M a0 = (9, 13) ∧ kM (wI M a0 0 0) a0 = (9, 13) ∧ T_X9_edgesNow (wI M a0 0 0) a0 (fun r_1 => Q r_1 (wI M a0 0 0))
theorem inX9_edges_X9 : ∀ w ∈ wsX90, w ∈ wsX9_edges := by decide +kernel
set_option maxRecDepth 100000 in
set_option maxHeartbeats 4000000 in
theorem c_X9_edges (l : Launch) (D : va_G) (cA : Nat → ClassId) (lo : Nat) {M : Mm} {a0 : Nat} {Q : Int32 → Mm → Prop} (h : T_X9_edges M a0 Q) : Met l yX9_edges wsX9_edges ({ frames := 1, cells := 0, slots := 0, locals := 23 } : Room) (PcM D cA lo [.ref a0] M) (QiM D cA lo Q) 0 0 (fun q => lo ≤ q) := by
  refine q_start (cc := cX9_edges) (nL := 1) (ret := (some .int)) (by decide) rfl rfl (Nat.le_of_ble_eq_true rfl) ?_
  intro p e s m args below meth c C hr hlk hin
  unfold T_X9_edges at h
  refine q_aload_n C dX9_edges_0 rfl (j := 0) rfl ?_
  refine q_iconst (v := 0) C dX9_edges_1 (by decide) ?_
  refine q_putI (ci := 9) (k0 := 0) (T := TX9) (v := 0) (ty := .int) C inX9_edges_X9 tyX9 tyX9_ok nmX9 rfl (by decide) h.1 (by decide) rfl (by decide +kernel) rfl (by decide +kernel) rfl rfl rfl dX9_edges_2 ?_
  have h := h.2
  refine q_aload_n C dX9_edges_5 rfl (j := 0) rfl ?_
  refine q_ci (q_runV (As := []) (st := []) C (c_X9_edgesNow l D cA lo h.2) (cwV 0 C.2.2.2.2.1 gX9_edges_X9_edgesNow rfl rfl rfl (by decide +kernel) ⟨Nat.le_of_ble_eq_true rfl, Nat.le_of_ble_eq_true rfl⟩) h.1 (by decide) rfl rfl rfl (Nat.le_of_ble_eq_true rfl) dX9_edges_6 ⟨Nat.le_of_ble_eq_true rfl, Nat.le_of_ble_eq_true rfl⟩) (fun r_1 M_z h => ?_)
  refine q_mem h.1 ?_
  have h := h.2
  exact q_iret C hr hlk dX9_edges_9 (Nat.le_of_ble_eq_true rfl) (Nat.le_of_ble_eq_true rfl) h
def T_X9_faces (M : Mm) (a0 : Nat) (Q : Int32 → Mm → Prop) : Prop := kM M a0 = (9, 13) ∧ kM (wI M a0 0 0) a0 = (9, 13) ∧ T_X9_facesNow (wI M a0 0 0) a0 (fun r_1 => Q r_1 (wI M a0 0 0))
theorem inX9_faces_X9 : ∀ w ∈ wsX90, w ∈ wsX9_faces := by decide +kernel
set_option maxRecDepth 100000 in
set_option maxHeartbeats 4000000 in
theorem c_X9_faces (l : Launch) (D : va_G) (cA : Nat → ClassId) (lo : Nat) {M : Mm} {a0 : Nat} {Q : Int32 → Mm → Prop} (h : T_X9_faces M a0 Q) : Met l yX9_faces wsX9_faces ({ frames := 1, cells := 0, slots := 0, locals := 22 } : Room) (PcM D cA lo [.ref a0] M) (QiM D cA lo Q) 0 0 (fun q => lo ≤ q) := by
  refine q_start (cc := cX9_faces) (nL := 1) (ret := (some .int)) (by decide) rfl rfl (Nat.le_of_ble_eq_true rfl) ?_
  intro p e s m args below meth c C hr hlk hin
  unfold T_X9_faces at h
  refine q_aload_n C dX9_faces_0 rfl (j := 0) rfl ?_
  refine q_iconst (v := 0) C dX9_faces_1 (by decide) ?_
  refine q_putI (ci := 9) (k0 := 0) (T := TX9) (v := 0) (ty := .int) C inX9_faces_X9 tyX9 tyX9_ok nmX9 rfl (by decide) h.1 (by decide) rfl (by decide +kernel) rfl (by decide +kernel) rfl rfl rfl dX9_faces_2 ?_
  have h := h.2
  refine q_aload_n C dX9_faces_5 rfl (j := 0) rfl ?_
  refine q_ci (q_runV (As := []) (st := []) C (c_X9_facesNow l D cA lo h.2) (cwV 0 C.2.2.2.2.1 gX9_faces_X9_facesNow rfl rfl rfl (by decide +kernel) ⟨Nat.le_of_ble_eq_true rfl, Nat.le_of_ble_eq_true rfl⟩) h.1 (by decide) rfl rfl rfl (Nat.le_of_ble_eq_true rfl) dX9_faces_6 ⟨Nat.le_of_ble_eq_true rfl, Nat.le_of_ble_eq_true rfl⟩) (fun r_1 M_z h => ?_)
  refine q_mem h.1 ?_
  have h := h.2
  exact q_iret C hr hlk dX9_faces_9 (Nat.le_of_ble_eq_true rfl) (Nat.le_of_ble_eq_true rfl) h
def S_X9_holesNow_17 (K17 : Nat → Nat → Int32 → Int32 → Mm → Nat → Nat → Prop) (K28 : Nat → Nat → Int32 → Int32 → Int32 → Mm → Nat → Nat → Prop) (Cc Zz : Nat) (Q : Int32 → Mm → Prop) (M : Mm) (a0 : Nat) (a1 : Nat) (i2 : Int32) (i3 : Int32) (cc zz : Nat) : Prop := kM M a0 = (9, 13) ∧ ((iM M a0 3) ≤ i3 → cc ≤ Cc ∧ zz ≤ Zz ∧ Q i2 M) ∧ (¬ (iM M a0 3) ≤ i3 → K28 a0 a1 i2 i3 0 M cc zz)
def S_X9_holesNow_28 (K17 : Nat → Nat → Int32 → Int32 → Mm → Nat → Nat → Prop) (K28 : Nat → Nat → Int32 → Int32 → Int32 → Mm → Nat → Nat → Prop) (Cc Zz : Nat) (Q : Int32 → Mm → Prop) (M : Mm) (a0 : Nat) (a1 : Nat) (i2 : Int32) (i3 : Int32) (i4 : Int32) (cc zz : Nat) : Prop := kM M a0 = (9, 13) ∧ ((iM M a0 3) ≤ i4 → K17 a0 a1 i2 (i3 + 1) M cc zz) ∧ (¬ (iM M a0 3) ≤ i4 → False)
def T_X9_holesNow (Cc Zz : Nat) (M : Mm) (a0 : Nat) (Q : Int32 → Mm → Prop) : Prop := ∀ (K17 : Nat → Nat → Int32 → Int32 → Mm → Nat → Nat → Prop) (K28 : Nat → Nat → Int32 → Int32 → Int32 → Mm → Nat → Nat → Prop), (∀ (a0 : Nat) (a1 : Nat) (i2 : Int32) (i3 : Int32) (M : Mm) (cc zz : Nat), S_X9_holesNow_17 K17 K28 Cc Zz Q M a0 a1 i2 i3 cc zz → K17 a0 a1 i2 i3 M cc zz) → (∀ (a0 : Nat) (a1 : Nat) (i2 : Int32) (i3 : Int32) (i4 : Int32) (M : Mm) (cc zz : Nat), S_X9_holesNow_28 K17 K28 Cc Zz Q M a0 a1 i2 i3 i4 cc zz → K28 a0 a1 i2 i3 i4 M cc zz) → kM M a0 = (9, 13) ∧ kM M a0 = (9, 13) ∧ (¬ (iM M a0 3) < 0) ∧ (¬ (iM M a0 3) < 0) ∧ (iM M a0 3).toNatClampNeg ≤ 1000 ∧ (iM M a0 3).toNatClampNeg ≤ 1000 ∧ 0 + (1 + (iM M a0 3).toNatClampNeg) ≤ Cc ∧ 0 + ((iM M a0 3).toNatClampNeg + (iM M a0 3).toNatClampNeg * (iM M a0 3).toNatClampNeg) ≤ Zz ∧ ∀ q_1 : Nat, frs M q_1 → K17 a0 q_1 0 0 (wG M q_1 122 101 (iM M a0 3).toNatClampNeg (iM M a0 3).toNatClampNeg) (0 + 1 + (iM M a0 3).toNatClampNeg) (0 + (iM M a0 3).toNatClampNeg + (iM M a0 3).toNatClampNeg * (iM M a0 3).toNatClampNeg)
theorem inX9_holesNow_X9 : ∀ w ∈ wsX90, w ∈ wsX9_holesNow := by decide +kernel
set_option maxRecDepth 100000 in
set_option maxHeartbeats 4000000 in
theorem b_X9_holesNow_17 {p : Program} {l : Launch} {e : Env} {s : State} {m : MethodId} {args : Array Value} {below : List Frame} {meth : Method} {c : Code} {D : va_G} {cA : Nat → ClassId} {lo : Nat} (C : Cx p s m args c cX9_holesNow 7 RX9 wsX9_holesNow D cA lo) (hr : meth.sig.returnType = (some .int)) (hlk : meth.locks = false) {Q : Int32 → Mm → Prop} {Cc Zz : Nat} (M : Mm) (a0 : Nat) (a1 : Nat) (i2 : Int32) (i3 : Int32) (cc zz : Nat) (h : S_X9_holesNow_17 (fun (a0 : Nat) (a1 : Nat) (i2 : Int32) (i3 : Int32) (M : Mm) (cc zz : Nat) => QW p l e ({ frames := 0, cells := Cc, slots := Zz, locals := 0 } : Room) s m args below meth c (MQ below (QiM D cA lo Q) args s Cc Zz (fun q => lo ≤ q)) 7 D cA lo cc zz M 17 [(0, .ref a0), (1, .ref a1), (2, .int i2), (3, .int i3)] []) (fun (a0 : Nat) (a1 : Nat) (i2 : Int32) (i3 : Int32) (i4 : Int32) (M : Mm) (cc zz : Nat) => QW p l e ({ frames := 0, cells := Cc, slots := Zz, locals := 0 } : Room) s m args below meth c (MQ below (QiM D cA lo Q) args s Cc Zz (fun q => lo ≤ q)) 7 D cA lo cc zz M 28 [(0, .ref a0), (1, .ref a1), (2, .int i2), (3, .int i3), (4, .int i4)] []) Cc Zz Q M a0 a1 i2 i3 cc zz) : QW p l e ({ frames := 0, cells := Cc, slots := Zz, locals := 0 } : Room) s m args below meth c (MQ below (QiM D cA lo Q) args s Cc Zz (fun q => lo ≤ q)) 7 D cA lo cc zz M 17 [(0, .ref a0), (1, .ref a1), (2, .int i2), (3, .int i3)] [] := by
  unfold S_X9_holesNow_17 at h
  refine q_iload_n C dX9_holesNow_17 rfl (j := 3) rfl ?_
  refine q_aload_n C dX9_holesNow_18 rfl (j := 0) rfl ?_
  refine q_getI (ci := 9) (k0 := 3) (T := TX9) C inX9_holesNow_X9 rfl (by decide) h.1 (by decide) rfl (by decide +kernel) rfl dX9_holesNow_19 ?_
  have h := h.2
  refine q_icmp_ge (tgt := 120) C dX9_holesNow_22 (by decide) (fun z => ?_) (fun z => ?_)
  · have h := h.1 z
    refine q_iload_n C dX9_holesNow_120 rfl (j := 2) rfl ?_
    exact q_iret C hr hlk dX9_holesNow_121 h.1 h.2.1 h.2.2
  · have h := h.2 z
    refine q_iconst (v := 0) C dX9_holesNow_25 (by decide) ?_
    refine q_istore (lv' := [(4, .int 0), (0, .ref a0), (1, .ref a1), (2, .int i2), (3, .int i3)]) C dX9_holesNow_26 (by decide) rfl ?_
    exact q_sub [1, 2, 3, 4, 0] rfl h
set_option maxRecDepth 100000 in
set_option maxHeartbeats 4000000 in
theorem b_X9_holesNow_28 {p : Program} {l : Launch} {e : Env} {s : State} {m : MethodId} {args : Array Value} {below : List Frame} {meth : Method} {c : Code} {D : va_G} {cA : Nat → ClassId} {lo : Nat} (C : Cx p s m args c cX9_holesNow 7 RX9 wsX9_holesNow D cA lo) (hr : meth.sig.returnType = (some .int)) (hlk : meth.locks = false) {Q : Int32 → Mm → Prop} {Cc Zz : Nat} (M : Mm) (a0 : Nat) (a1 : Nat) (i2 : Int32) (i3 : Int32) (i4 : Int32) (cc zz : Nat) (h : S_X9_holesNow_28 (fun (a0 : Nat) (a1 : Nat) (i2 : Int32) (i3 : Int32) (M : Mm) (cc zz : Nat) => QW p l e ({ frames := 0, cells := Cc, slots := Zz, locals := 0 } : Room) s m args below meth c (MQ below (QiM D cA lo Q) args s Cc Zz (fun q => lo ≤ q)) 7 D cA lo cc zz M 17 [(0, .ref a0), (1, .ref a1), (2, .int i2), (3, .int i3)] []) (fun (a0 : Nat) (a1 : Nat) (i2 : Int32) (i3 : Int32) (i4 : Int32) (M : Mm) (cc zz : Nat) => QW p l e ({ frames := 0, cells := Cc, slots := Zz, locals := 0 } : Room) s m args below meth c (MQ below (QiM D cA lo Q) args s Cc Zz (fun q => lo ≤ q)) 7 D cA lo cc zz M 28 [(0, .ref a0), (1, .ref a1), (2, .int i2), (3, .int i3), (4, .int i4)] []) Cc Zz Q M a0 a1 i2 i3 i4 cc zz) : QW p l e ({ frames := 0, cells := Cc, slots := Zz, locals := 0 } : Room) s m args below meth c (MQ below (QiM D cA lo Q) args s Cc Zz (fun q => lo ≤ q)) 7 D cA lo cc zz M 28 [(0, .ref a0), (1, .ref a1), (2, .int i2), (3, .int i3), (4, .int i4)] [] := by
  unfold S_X9_holesNow_28 at h
  refine q_iload C dX9_holesNow_28 (j := 4) rfl ?_
  refine q_aload_n C dX9_holesNow_30 rfl (j := 0) rfl ?_
  refine q_getI (ci := 9) (k0 := 3) (T := TX9) C inX9_holesNow_X9 rfl (by decide) h.1 (by decide) rfl (by decide +kernel) rfl dX9_holesNow_31 ?_
  have h := h.2
  refine q_icmp_ge (tgt := 114) C dX9_holesNow_34 (by decide) (fun z => ?_) (fun z => ?_)
  · have h := h.1 z
    refine q_iinc (v := (i3 + 1)) (lv' := [(3, .int (i3 + 1)), (0, .ref a0), (1, .ref a1), (2, .int i2), (4, .int i4)]) C dX9_holesNow_114 (j := 3) rfl rfl (by decide) rfl ?_
    refine q_goto (tgt := 17) C dX9_holesNow_117 (by decide) ?_
    exact q_sub [1, 2, 3, 0] rfl h
  · have h := h.2 z
    refine q_aload_n C dX9_holesNow_37 rfl (j := 0) rfl ?_
    refine q_iload_n C dX9_holesNow_38 rfl (j := 3) rfl ?_
    refine q_iload C dX9_holesNow_39 (j := 4) rfl ?_
    exact h.elim
set_option maxRecDepth 100000 in
set_option maxHeartbeats 4000000 in
theorem c_X9_holesNow (l : Launch) (D : va_G) (cA : Nat → ClassId) (lo : Nat) {M : Mm} {a0 : Nat} {Cc Zz : Nat} {Q : Int32 → Mm → Prop} (h : T_X9_holesNow Cc Zz M a0 Q) : Met l yX9_holesNow wsX9_holesNow ({ frames := 0, cells := Cc, slots := Zz, locals := 0 } : Room) (PcM D cA lo [.ref a0] M) (QiM D cA lo Q) Cc Zz (fun q => lo ≤ q) := by
  refine q_start (cc := cX9_holesNow) (nL := 7) (ret := (some .int)) (by decide) rfl rfl (Nat.le_of_ble_eq_true rfl) ?_
  intro p e s m args below meth c C hr hlk hin
  unfold T_X9_holesNow at h
  have h := h (fun (a0 : Nat) (a1 : Nat) (i2 : Int32) (i3 : Int32) (M : Mm) (cc zz : Nat) => QW p l e ({ frames := 0, cells := Cc, slots := Zz, locals := 0 } : Room) s m args below meth c (MQ below (QiM D cA lo Q) args s Cc Zz (fun q => lo ≤ q)) 7 D cA lo cc zz M 17 [(0, .ref a0), (1, .ref a1), (2, .int i2), (3, .int i3)] []) (fun (a0 : Nat) (a1 : Nat) (i2 : Int32) (i3 : Int32) (i4 : Int32) (M : Mm) (cc zz : Nat) => QW p l e ({ frames := 0, cells := Cc, slots := Zz, locals := 0 } : Room) s m args below meth c (MQ below (QiM D cA lo Q) args s Cc Zz (fun q => lo ≤ q)) 7 D cA lo cc zz M 28 [(0, .ref a0), (1, .ref a1), (2, .int i2), (3, .int i3), (4, .int i4)] []) (fun a0 a1 i2 i3 M cc zz h => b_X9_holesNow_17 C hr hlk M a0 a1 i2 i3 cc zz h) (fun a0 a1 i2 i3 i4 M cc zz h => b_X9_holesNow_28 C hr hlk M a0 a1 i2 i3 i4 cc zz h)
  refine q_aload_n C dX9_holesNow_0 rfl (j := 0) rfl ?_
  refine q_getI (ci := 9) (k0 := 3) (T := TX9) C inX9_holesNow_X9 rfl (by decide) h.1 (by decide) rfl (by decide +kernel) rfl dX9_holesNow_1 ?_
  have h := h.2
  refine q_aload_n C dX9_holesNow_4 rfl (j := 0) rfl ?_
  refine q_getI (ci := 9) (k0 := 3) (T := TX9) C inX9_holesNow_X9 rfl (by decide) h.1 (by decide) rfl (by decide +kernel) rfl dX9_holesNow_5 ?_
  have h := h.2
  refine q_mnaZ (N := (iM M a0 3).toNatClampNeg) (K := (iM M a0 3).toNatClampNeg) C (by decide +kernel) (C.2.2.2.2.2.2.2.2.2.2.2.2.2.2.2.2.2.use) (by decide +kernel) h.1 h.2.1 rfl rfl (Nat.le_trans (Nat.mul_le_mul_right _ h.2.2.1) (by decide)) (Nat.le_trans (Nat.mul_le_mul_right _ h.2.2.2.1) (by decide)) (Nat.le_trans h.2.2.2.1 (by decide)) ⟨h.2.2.2.2.1, h.2.2.2.2.2.1⟩ dX9_holesNow_8 (fun q_1 hq _ => ?_)
  have h := h.2.2.2.2.2.2 q_1 hq
  refine q_astore_n (lv' := [(1, .ref q_1), (0, .ref a0)]) C dX9_holesNow_12 rfl (by decide) rfl ?_
  refine q_iconst (v := 0) C dX9_holesNow_13 (by decide) ?_
  refine q_istore_n (lv' := [(2, .int 0), (1, .ref q_1), (0, .ref a0)]) C dX9_holesNow_14 rfl (by decide) rfl ?_
  refine q_iconst (v := 0) C dX9_holesNow_15 (by decide) ?_
  refine q_istore_n (lv' := [(3, .int 0), (2, .int 0), (1, .ref q_1), (0, .ref a0)]) C dX9_holesNow_16 rfl (by decide) rfl ?_
  exact q_sub [3, 2, 1, 0] rfl h
def T_X9_holes (Cc Zz : Nat) (M : Mm) (a0 : Nat) (Q : Int32 → Mm → Prop) : Prop := kM M a0 = (9, 13) ∧ ∃ dc_3 ds_3 : Nat, (0 + dc_3 ≤ Cc ∧ 0 + ds_3 ≤ Zz) ∧ kM (wI M a0 0 0) a0 = (9, 13) ∧ T_X9_holesNow dc_3 ds_3 (wI M a0 0 0) a0 (fun r_1 M_2 => (0 + dc_3) ≤ Cc ∧ (0 + ds_3) ≤ Zz ∧ Q r_1 M_2)
theorem inX9_holes_X9 : ∀ w ∈ wsX90, w ∈ wsX9_holes := by decide +kernel
set_option maxRecDepth 100000 in
set_option maxHeartbeats 4000000 in
theorem c_X9_holes (l : Launch) (D : va_G) (cA : Nat → ClassId) (lo : Nat) {M : Mm} {a0 : Nat} {Cc Zz : Nat} {Q : Int32 → Mm → Prop} (h : T_X9_holes Cc Zz M a0 Q) : Met l yX9_holes wsX9_holes ({ frames := 1, cells := Cc, slots := Zz, locals := 26 } : Room) (PcM D cA lo [.ref a0] M) (QiM D cA lo Q) Cc Zz (fun q => lo ≤ q) := by
  refine q_start (cc := cX9_holes) (nL := 1) (ret := (some .int)) (by decide) rfl rfl (Nat.le_of_ble_eq_true rfl) ?_
  intro p e s m args below meth c C hr hlk hin
  unfold T_X9_holes at h
  refine q_aload_n C dX9_holes_0 rfl (j := 0) rfl ?_
  refine q_iconst (v := 0) C dX9_holes_1 (by decide) ?_
  refine q_putI (ci := 9) (k0 := 0) (T := TX9) (v := 0) (ty := .int) C inX9_holes_X9 tyX9 tyX9_ok nmX9 rfl (by decide) h.1 (by decide) rfl (by decide +kernel) rfl (by decide +kernel) rfl rfl rfl dX9_holes_2 ?_
  have h := h.2
  refine q_aload_n C dX9_holes_5 rfl (j := 0) rfl ?_
  obtain ⟨dc_3, ds_3, hcz, h⟩ := h
  refine q_ci (q_runV (As := []) (st := []) C (c_X9_holesNow l D cA lo h.2) (cwV 0 C.2.2.2.2.1 gX9_holes_X9_holesNow rfl rfl rfl (by decide +kernel) ⟨Nat.le_of_ble_eq_true rfl, Nat.le_of_ble_eq_true rfl⟩) h.1 (by decide) rfl rfl rfl (Nat.le_of_ble_eq_true rfl) dX9_holes_6 hcz) (fun r_1 M_2 h => ?_)
  exact q_iret C hr hlk dX9_holes_9 h.1 h.2.1 h.2.2
def S_X9_groups_9 (K9 : Nat → Int32 → Nat → Int32 → Mm → Nat → Nat → Prop) (K56 : Nat → Int32 → Nat → Int32 → Mm → Nat → Nat → Prop) (K108 : Nat → Nat → Int32 → Int32 → Mm → Nat → Nat → Prop) (K65 : Nat → Int32 → Nat → Int32 → Int32 → Mm → Nat → Nat → Prop) (Cc Zz : Nat) (Q : Int32 → Mm → Prop) (M : Mm) (a0 : Nat) (i1 : Int32) (a2 : Nat) (i3 : Int32) (cc zz : Nat) : Prop := kM M a0 = (9, 13) ∧ ((iM M a0 5) ≤ i3 → K56 a0 i1 a2 1 M cc zz) ∧ (¬ (iM M a0 5) ≤ i3 → kM M a0 = (9, 13) ∧ ∃ a_2 : Nat, rM M a0 4 = some a_2 ∧ ∃ n_3 : Nat, kM M a_2 = (121, n_3) ∧ vp_in i3 n_3 ∧ ((rM M a_2 i3.toNatClampNeg) = none → ∃ n_5 : Nat, kM M a2 = (100, n_5) ∧ vp_in i3 n_5 ∧ K9 a0 i1 a2 (i3 + 1) (wI M a2 i3.toNatClampNeg (-1)) cc zz) ∧ (∀ a_4 : Nat, (rM M a_2 i3.toNatClampNeg) = some a_4 → (i1 = (-1) → ∃ n_6 : Nat, kM M a2 = (100, n_6) ∧ vp_in i3 n_6 ∧ K9 a0 i1 a2 (i3 + 1) (wI M a2 i3.toNatClampNeg i3) cc zz) ∧ (¬ i1 = (-1) → False)))
def S_X9_groups_56 (K9 : Nat → Int32 → Nat → Int32 → Mm → Nat → Nat → Prop) (K56 : Nat → Int32 → Nat → Int32 → Mm → Nat → Nat → Prop) (K108 : Nat → Nat → Int32 → Int32 → Mm → Nat → Nat → Prop) (K65 : Nat → Int32 → Nat → Int32 → Int32 → Mm → Nat → Nat → Prop) (Cc Zz : Nat) (Q : Int32 → Mm → Prop) (M : Mm) (a0 : Nat) (i1 : Int32) (a2 : Nat) (i3 : Int32) (cc zz : Nat) : Prop := (i3 = 0 → K108 a0 a2 0 0 M cc zz) ∧ (¬ i3 = 0 → K65 a0 i1 a2 0 0 M cc zz)
def S_X9_groups_108 (K9 : Nat → Int32 → Nat → Int32 → Mm → Nat → Nat → Prop) (K56 : Nat → Int32 → Nat → Int32 → Mm → Nat → Nat → Prop) (K108 : Nat → Nat → Int32 → Int32 → Mm → Nat → Nat → Prop) (K65 : Nat → Int32 → Nat → Int32 → Int32 → Mm → Nat → Nat → Prop) (Cc Zz : Nat) (Q : Int32 → Mm → Prop) (M : Mm) (a0 : Nat) (a2 : Nat) (i4 : Int32) (i5 : Int32) (cc zz : Nat) : Prop := kM M a0 = (9, 13) ∧ ((iM M a0 5) ≤ i5 → cc ≤ Cc ∧ zz ≤ Zz ∧ Q i4 M) ∧ (¬ (iM M a0 5) ≤ i5 → ∃ n_7 : Nat, kM M a2 = (100, n_7) ∧ vp_in i5 n_7 ∧ (¬ (iM M a2 i5.toNatClampNeg) = i5 → K108 a0 a2 (i4 + 0) (i5 + 1) M cc zz) ∧ ((iM M a2 i5.toNatClampNeg) = i5 → K108 a0 a2 (i4 + 1) (i5 + 1) M cc zz))
def S_X9_groups_65 (K9 : Nat → Int32 → Nat → Int32 → Mm → Nat → Nat → Prop) (K56 : Nat → Int32 → Nat → Int32 → Mm → Nat → Nat → Prop) (K108 : Nat → Nat → Int32 → Int32 → Mm → Nat → Nat → Prop) (K65 : Nat → Int32 → Nat → Int32 → Int32 → Mm → Nat → Nat → Prop) (Cc Zz : Nat) (Q : Int32 → Mm → Prop) (M : Mm) (a0 : Nat) (i1 : Int32) (a2 : Nat) (i3 : Int32) (i4 : Int32) (cc zz : Nat) : Prop := kM M a0 = (9, 13) ∧ ((iM M a0 5) ≤ i4 → K56 a0 i1 a2 i3 M cc zz) ∧ (¬ (iM M a0 5) ≤ i4 → ∃ n_8 : Nat, kM M a2 = (100, n_8) ∧ vp_in i4 n_8 ∧ ((iM M a2 i4.toNatClampNeg) = (-1) → K65 a0 i1 a2 i3 (i4 + 1) M cc zz) ∧ (¬ (iM M a2 i4.toNatClampNeg) = (-1) → False))
def T_X9_groups (Cc Zz : Nat) (M : Mm) (a0 : Nat) (i1 : Int32) (Q : Int32 → Mm → Prop) : Prop := ∀ (K9 : Nat → Int32 → Nat → Int32 → Mm → Nat → Nat → Prop) (K56 : Nat → Int32 → Nat → Int32 → Mm → Nat → Nat → Prop) (K108 : Nat → Nat → Int32 → Int32 → Mm → Nat → Nat → Prop) (K65 : Nat → Int32 → Nat → Int32 → Int32 → Mm → Nat → Nat → Prop), (∀ (a0 : Nat) (i1 : Int32) (a2 : Nat) (i3 : Int32) (M : Mm) (cc zz : Nat), S_X9_groups_9 K9 K56 K108 K65 Cc Zz Q M a0 i1 a2 i3 cc zz → K9 a0 i1 a2 i3 M cc zz) → (∀ (a0 : Nat) (i1 : Int32) (a2 : Nat) (i3 : Int32) (M : Mm) (cc zz : Nat), S_X9_groups_56 K9 K56 K108 K65 Cc Zz Q M a0 i1 a2 i3 cc zz → K56 a0 i1 a2 i3 M cc zz) → (∀ (a0 : Nat) (a2 : Nat) (i4 : Int32) (i5 : Int32) (M : Mm) (cc zz : Nat), S_X9_groups_108 K9 K56 K108 K65 Cc Zz Q M a0 a2 i4 i5 cc zz → K108 a0 a2 i4 i5 M cc zz) → (∀ (a0 : Nat) (i1 : Int32) (a2 : Nat) (i3 : Int32) (i4 : Int32) (M : Mm) (cc zz : Nat), S_X9_groups_65 K9 K56 K108 K65 Cc Zz Q M a0 i1 a2 i3 i4 cc zz → K65 a0 i1 a2 i3 i4 M cc zz) → kM M a0 = (9, 13) ∧ (¬ (iM M a0 5) < 0) ∧ (iM M a0 5).toNatClampNeg ≤ 1000 ∧ 0 + 1 ≤ Cc ∧ 0 + (iM M a0 5).toNatClampNeg ≤ Zz ∧ ∀ q_1 : Nat, frs M q_1 → K9 a0 i1 q_1 0 (wN M q_1 100 (iM M a0 5).toNatClampNeg) (0 + 1) (0 + (iM M a0 5).toNatClampNeg)
theorem inX9_groups_X9 : ∀ w ∈ wsX90, w ∈ wsX9_groups := by decide +kernel
set_option maxRecDepth 100000 in
set_option maxHeartbeats 4000000 in
theorem b_X9_groups_9 {p : Program} {l : Launch} {e : Env} {s : State} {m : MethodId} {args : Array Value} {below : List Frame} {meth : Method} {c : Code} {D : va_G} {cA : Nat → ClassId} {lo : Nat} (C : Cx p s m args c cX9_groups 6 RX9 wsX9_groups D cA lo) (hr : meth.sig.returnType = (some .int)) (hlk : meth.locks = false) {Q : Int32 → Mm → Prop} {Cc Zz : Nat} (M : Mm) (a0 : Nat) (i1 : Int32) (a2 : Nat) (i3 : Int32) (cc zz : Nat) (h : S_X9_groups_9 (fun (a0 : Nat) (i1 : Int32) (a2 : Nat) (i3 : Int32) (M : Mm) (cc zz : Nat) => QW p l e ({ frames := 0, cells := Cc, slots := Zz, locals := 0 } : Room) s m args below meth c (MQ below (QiM D cA lo Q) args s Cc Zz (fun q => lo ≤ q)) 6 D cA lo cc zz M 9 [(0, .ref a0), (1, .int i1), (2, .ref a2), (3, .int i3)] []) (fun (a0 : Nat) (i1 : Int32) (a2 : Nat) (i3 : Int32) (M : Mm) (cc zz : Nat) => QW p l e ({ frames := 0, cells := Cc, slots := Zz, locals := 0 } : Room) s m args below meth c (MQ below (QiM D cA lo Q) args s Cc Zz (fun q => lo ≤ q)) 6 D cA lo cc zz M 56 [(0, .ref a0), (1, .int i1), (2, .ref a2), (3, .int i3)] []) (fun (a0 : Nat) (a2 : Nat) (i4 : Int32) (i5 : Int32) (M : Mm) (cc zz : Nat) => QW p l e ({ frames := 0, cells := Cc, slots := Zz, locals := 0 } : Room) s m args below meth c (MQ below (QiM D cA lo Q) args s Cc Zz (fun q => lo ≤ q)) 6 D cA lo cc zz M 108 [(0, .ref a0), (2, .ref a2), (4, .int i4), (5, .int i5)] []) (fun (a0 : Nat) (i1 : Int32) (a2 : Nat) (i3 : Int32) (i4 : Int32) (M : Mm) (cc zz : Nat) => QW p l e ({ frames := 0, cells := Cc, slots := Zz, locals := 0 } : Room) s m args below meth c (MQ below (QiM D cA lo Q) args s Cc Zz (fun q => lo ≤ q)) 6 D cA lo cc zz M 65 [(0, .ref a0), (1, .int i1), (2, .ref a2), (3, .int i3), (4, .int i4)] []) Cc Zz Q M a0 i1 a2 i3 cc zz) : QW p l e ({ frames := 0, cells := Cc, slots := Zz, locals := 0 } : Room) s m args below meth c (MQ below (QiM D cA lo Q) args s Cc Zz (fun q => lo ≤ q)) 6 D cA lo cc zz M 9 [(0, .ref a0), (1, .int i1), (2, .ref a2), (3, .int i3)] [] := by
  unfold S_X9_groups_9 at h
  refine q_iload_n C dX9_groups_9 rfl (j := 3) rfl ?_
  refine q_aload_n C dX9_groups_10 rfl (j := 0) rfl ?_
  refine q_getI (ci := 9) (k0 := 5) (T := TX9) C inX9_groups_X9 rfl (by decide) h.1 (by decide) rfl (by decide +kernel) rfl dX9_groups_11 ?_
  have h := h.2
  refine q_icmp_ge (tgt := 54) C dX9_groups_14 (by decide) (fun z => ?_) (fun z => ?_)
  · have h := h.1 z
    refine q_iconst (v := 1) C dX9_groups_54 (by decide) ?_
    refine q_istore_n (lv' := [(3, .int 1), (0, .ref a0), (1, .int i1), (2, .ref a2)]) C dX9_groups_55 rfl (by decide) rfl ?_
    exact q_sub [1, 2, 3, 0] rfl h
  · have h := h.2 z
    refine q_aload_n C dX9_groups_17 rfl (j := 2) rfl ?_
    refine q_iload_n C dX9_groups_18 rfl (j := 3) rfl ?_
    refine q_aload_n C dX9_groups_19 rfl (j := 0) rfl ?_
    refine q_getR (ci := 9) (k0 := 4) (T := TX9) C inX9_groups_X9 rfl (by decide) h.1 (by decide) rfl (by decide +kernel) rfl dX9_groups_20 ?_
    obtain ⟨a_2, z, h⟩ := h.2
    refine q_ref z ?_
    refine q_iload_n C dX9_groups_23 rfl (j := 3) rfl ?_
    obtain ⟨n_3, z1, z2, h⟩ := h
    refine q_gald C z1 z2 dX9_groups_24 ?_
    refine q_ifnull (tgt := 42) C dX9_groups_25 (by decide) (fun z => ?_) (fun a_4 z => ?_)
    · have h := h.1 z
      refine q_iconst (v := (-1)) C dX9_groups_42 (by decide) ?_
      refine q_goto (tgt := 47) C dX9_groups_43 (by decide) ?_
      obtain ⟨n_5, z1, z2, h⟩ := h
      refine q_iast C z1 z2 dX9_groups_47 ?_
      refine q_iinc (v := (i3 + 1)) (lv' := [(3, .int (i3 + 1)), (0, .ref a0), (1, .int i1), (2, .ref a2)]) C dX9_groups_48 (j := 3) rfl rfl (by decide) rfl ?_
      refine q_goto (tgt := 9) C dX9_groups_51 (by decide) ?_
      exact q_sub [1, 2, 3, 0] rfl h
    · have h := h.2 _ z
      refine q_iload_n C dX9_groups_28 rfl (j := 1) rfl ?_
      refine q_iconst (v := (-1)) C dX9_groups_29 (by decide) ?_
      refine q_icmp_eq (tgt := 46) C dX9_groups_30 (by decide) (fun z => ?_) (fun z => ?_)
      · have h := h.1 z
        refine q_iload_n C dX9_groups_46 rfl (j := 3) rfl ?_
        obtain ⟨n_6, z1, z2, h⟩ := h
        refine q_iast C z1 z2 dX9_groups_47 ?_
        refine q_iinc (v := (i3 + 1)) (lv' := [(3, .int (i3 + 1)), (0, .ref a0), (1, .int i1), (2, .ref a2)]) C dX9_groups_48 (j := 3) rfl rfl (by decide) rfl ?_
        refine q_goto (tgt := 9) C dX9_groups_51 (by decide) ?_
        exact q_sub [1, 2, 3, 0] rfl h
      · have h := h.2 z
        refine q_aload_n C dX9_groups_33 rfl (j := 0) rfl ?_
        refine q_iload_n C dX9_groups_34 rfl (j := 3) rfl ?_
        refine q_iload_n C dX9_groups_35 rfl (j := 1) rfl ?_
        exact h.elim
set_option maxRecDepth 100000 in
set_option maxHeartbeats 4000000 in
theorem b_X9_groups_56 {p : Program} {l : Launch} {e : Env} {s : State} {m : MethodId} {args : Array Value} {below : List Frame} {meth : Method} {c : Code} {D : va_G} {cA : Nat → ClassId} {lo : Nat} (C : Cx p s m args c cX9_groups 6 RX9 wsX9_groups D cA lo) (hr : meth.sig.returnType = (some .int)) (hlk : meth.locks = false) {Q : Int32 → Mm → Prop} {Cc Zz : Nat} (M : Mm) (a0 : Nat) (i1 : Int32) (a2 : Nat) (i3 : Int32) (cc zz : Nat) (h : S_X9_groups_56 (fun (a0 : Nat) (i1 : Int32) (a2 : Nat) (i3 : Int32) (M : Mm) (cc zz : Nat) => QW p l e ({ frames := 0, cells := Cc, slots := Zz, locals := 0 } : Room) s m args below meth c (MQ below (QiM D cA lo Q) args s Cc Zz (fun q => lo ≤ q)) 6 D cA lo cc zz M 9 [(0, .ref a0), (1, .int i1), (2, .ref a2), (3, .int i3)] []) (fun (a0 : Nat) (i1 : Int32) (a2 : Nat) (i3 : Int32) (M : Mm) (cc zz : Nat) => QW p l e ({ frames := 0, cells := Cc, slots := Zz, locals := 0 } : Room) s m args below meth c (MQ below (QiM D cA lo Q) args s Cc Zz (fun q => lo ≤ q)) 6 D cA lo cc zz M 56 [(0, .ref a0), (1, .int i1), (2, .ref a2), (3, .int i3)] []) (fun (a0 : Nat) (a2 : Nat) (i4 : Int32) (i5 : Int32) (M : Mm) (cc zz : Nat) => QW p l e ({ frames := 0, cells := Cc, slots := Zz, locals := 0 } : Room) s m args below meth c (MQ below (QiM D cA lo Q) args s Cc Zz (fun q => lo ≤ q)) 6 D cA lo cc zz M 108 [(0, .ref a0), (2, .ref a2), (4, .int i4), (5, .int i5)] []) (fun (a0 : Nat) (i1 : Int32) (a2 : Nat) (i3 : Int32) (i4 : Int32) (M : Mm) (cc zz : Nat) => QW p l e ({ frames := 0, cells := Cc, slots := Zz, locals := 0 } : Room) s m args below meth c (MQ below (QiM D cA lo Q) args s Cc Zz (fun q => lo ≤ q)) 6 D cA lo cc zz M 65 [(0, .ref a0), (1, .int i1), (2, .ref a2), (3, .int i3), (4, .int i4)] []) Cc Zz Q M a0 i1 a2 i3 cc zz) : QW p l e ({ frames := 0, cells := Cc, slots := Zz, locals := 0 } : Room) s m args below meth c (MQ below (QiM D cA lo Q) args s Cc Zz (fun q => lo ≤ q)) 6 D cA lo cc zz M 56 [(0, .ref a0), (1, .int i1), (2, .ref a2), (3, .int i3)] [] := by
  unfold S_X9_groups_56 at h
  refine q_iload_n C dX9_groups_56 rfl (j := 3) rfl ?_
  refine q_if_eq (tgt := 102) C dX9_groups_57 (by decide) (fun z => ?_) (fun z => ?_)
  · have h := h.1 z
    refine q_iconst (v := 0) C dX9_groups_102 (by decide) ?_
    refine q_istore (lv' := [(4, .int 0), (0, .ref a0), (1, .int i1), (2, .ref a2), (3, .int i3)]) C dX9_groups_103 (by decide) rfl ?_
    refine q_iconst (v := 0) C dX9_groups_105 (by decide) ?_
    refine q_istore (lv' := [(5, .int 0), (4, .int 0), (0, .ref a0), (1, .int i1), (2, .ref a2), (3, .int i3)]) C dX9_groups_106 (by decide) rfl ?_
    exact q_sub [2, 4, 1, 0] rfl h
  · have h := h.2 z
    refine q_iconst (v := 0) C dX9_groups_60 (by decide) ?_
    refine q_istore_n (lv' := [(3, .int 0), (0, .ref a0), (1, .int i1), (2, .ref a2)]) C dX9_groups_61 rfl (by decide) rfl ?_
    refine q_iconst (v := 0) C dX9_groups_62 (by decide) ?_
    refine q_istore (lv' := [(4, .int 0), (3, .int 0), (0, .ref a0), (1, .int i1), (2, .ref a2)]) C dX9_groups_63 (by decide) rfl ?_
    exact q_sub [2, 3, 4, 1, 0] rfl h
set_option maxRecDepth 100000 in
set_option maxHeartbeats 4000000 in
theorem b_X9_groups_108 {p : Program} {l : Launch} {e : Env} {s : State} {m : MethodId} {args : Array Value} {below : List Frame} {meth : Method} {c : Code} {D : va_G} {cA : Nat → ClassId} {lo : Nat} (C : Cx p s m args c cX9_groups 6 RX9 wsX9_groups D cA lo) (hr : meth.sig.returnType = (some .int)) (hlk : meth.locks = false) {Q : Int32 → Mm → Prop} {Cc Zz : Nat} (M : Mm) (a0 : Nat) (a2 : Nat) (i4 : Int32) (i5 : Int32) (cc zz : Nat) (h : S_X9_groups_108 (fun (a0 : Nat) (i1 : Int32) (a2 : Nat) (i3 : Int32) (M : Mm) (cc zz : Nat) => QW p l e ({ frames := 0, cells := Cc, slots := Zz, locals := 0 } : Room) s m args below meth c (MQ below (QiM D cA lo Q) args s Cc Zz (fun q => lo ≤ q)) 6 D cA lo cc zz M 9 [(0, .ref a0), (1, .int i1), (2, .ref a2), (3, .int i3)] []) (fun (a0 : Nat) (i1 : Int32) (a2 : Nat) (i3 : Int32) (M : Mm) (cc zz : Nat) => QW p l e ({ frames := 0, cells := Cc, slots := Zz, locals := 0 } : Room) s m args below meth c (MQ below (QiM D cA lo Q) args s Cc Zz (fun q => lo ≤ q)) 6 D cA lo cc zz M 56 [(0, .ref a0), (1, .int i1), (2, .ref a2), (3, .int i3)] []) (fun (a0 : Nat) (a2 : Nat) (i4 : Int32) (i5 : Int32) (M : Mm) (cc zz : Nat) => QW p l e ({ frames := 0, cells := Cc, slots := Zz, locals := 0 } : Room) s m args below meth c (MQ below (QiM D cA lo Q) args s Cc Zz (fun q => lo ≤ q)) 6 D cA lo cc zz M 108 [(0, .ref a0), (2, .ref a2), (4, .int i4), (5, .int i5)] []) (fun (a0 : Nat) (i1 : Int32) (a2 : Nat) (i3 : Int32) (i4 : Int32) (M : Mm) (cc zz : Nat) => QW p l e ({ frames := 0, cells := Cc, slots := Zz, locals := 0 } : Room) s m args below meth c (MQ below (QiM D cA lo Q) args s Cc Zz (fun q => lo ≤ q)) 6 D cA lo cc zz M 65 [(0, .ref a0), (1, .int i1), (2, .ref a2), (3, .int i3), (4, .int i4)] []) Cc Zz Q M a0 a2 i4 i5 cc zz) : QW p l e ({ frames := 0, cells := Cc, slots := Zz, locals := 0 } : Room) s m args below meth c (MQ below (QiM D cA lo Q) args s Cc Zz (fun q => lo ≤ q)) 6 D cA lo cc zz M 108 [(0, .ref a0), (2, .ref a2), (4, .int i4), (5, .int i5)] [] := by
  unfold S_X9_groups_108 at h
  refine q_iload C dX9_groups_108 (j := 3) rfl ?_
  refine q_aload_n C dX9_groups_110 rfl (j := 0) rfl ?_
  refine q_getI (ci := 9) (k0 := 5) (T := TX9) C inX9_groups_X9 rfl (by decide) h.1 (by decide) rfl (by decide +kernel) rfl dX9_groups_111 ?_
  have h := h.2
  refine q_icmp_ge (tgt := 142) C dX9_groups_114 (by decide) (fun z => ?_) (fun z => ?_)
  · have h := h.1 z
    refine q_iload C dX9_groups_142 (j := 2) rfl ?_
    exact q_iret C hr hlk dX9_groups_144 h.1 h.2.1 h.2.2
  · have h := h.2 z
    refine q_iload C dX9_groups_117 (j := 2) rfl ?_
    refine q_aload_n C dX9_groups_119 rfl (j := 1) rfl ?_
    refine q_iload C dX9_groups_120 (j := 3) rfl ?_
    obtain ⟨n_7, z1, z2, h⟩ := h
    refine q_iald C z1 z2 dX9_groups_122 ?_
    refine q_iload C dX9_groups_123 (j := 3) rfl ?_
    refine q_icmp_ne (tgt := 132) C dX9_groups_125 (by decide) (fun z => ?_) (fun z => ?_)
    · have h := h.1 z
      refine q_iconst (v := 0) C dX9_groups_132 (by decide) ?_
      refine q_iadd C dX9_groups_133 ?_
      refine q_istore (lv' := [(4, .int (i4 + 0)), (0, .ref a0), (2, .ref a2), (5, .int i5)]) C dX9_groups_134 (by decide) rfl ?_
      refine q_iinc (v := (i5 + 1)) (lv' := [(5, .int (i5 + 1)), (4, .int (i4 + 0)), (0, .ref a0), (2, .ref a2)]) C dX9_groups_136 (j := 3) rfl rfl (by decide) rfl ?_
      refine q_goto (tgt := 108) C dX9_groups_139 (by decide) ?_
      exact q_sub [2, 3, 1, 0] rfl h
    · have h := h.2 z
      refine q_iconst (v := 1) C dX9_groups_128 (by decide) ?_
      refine q_goto (tgt := 133) C dX9_groups_129 (by decide) ?_
      refine q_iadd C dX9_groups_133 ?_
      refine q_istore (lv' := [(4, .int (i4 + 1)), (0, .ref a0), (2, .ref a2), (5, .int i5)]) C dX9_groups_134 (by decide) rfl ?_
      refine q_iinc (v := (i5 + 1)) (lv' := [(5, .int (i5 + 1)), (4, .int (i4 + 1)), (0, .ref a0), (2, .ref a2)]) C dX9_groups_136 (j := 3) rfl rfl (by decide) rfl ?_
      refine q_goto (tgt := 108) C dX9_groups_139 (by decide) ?_
      exact q_sub [2, 3, 1, 0] rfl h
set_option maxRecDepth 100000 in
set_option maxHeartbeats 4000000 in
theorem b_X9_groups_65 {p : Program} {l : Launch} {e : Env} {s : State} {m : MethodId} {args : Array Value} {below : List Frame} {meth : Method} {c : Code} {D : va_G} {cA : Nat → ClassId} {lo : Nat} (C : Cx p s m args c cX9_groups 6 RX9 wsX9_groups D cA lo) (hr : meth.sig.returnType = (some .int)) (hlk : meth.locks = false) {Q : Int32 → Mm → Prop} {Cc Zz : Nat} (M : Mm) (a0 : Nat) (i1 : Int32) (a2 : Nat) (i3 : Int32) (i4 : Int32) (cc zz : Nat) (h : S_X9_groups_65 (fun (a0 : Nat) (i1 : Int32) (a2 : Nat) (i3 : Int32) (M : Mm) (cc zz : Nat) => QW p l e ({ frames := 0, cells := Cc, slots := Zz, locals := 0 } : Room) s m args below meth c (MQ below (QiM D cA lo Q) args s Cc Zz (fun q => lo ≤ q)) 6 D cA lo cc zz M 9 [(0, .ref a0), (1, .int i1), (2, .ref a2), (3, .int i3)] []) (fun (a0 : Nat) (i1 : Int32) (a2 : Nat) (i3 : Int32) (M : Mm) (cc zz : Nat) => QW p l e ({ frames := 0, cells := Cc, slots := Zz, locals := 0 } : Room) s m args below meth c (MQ below (QiM D cA lo Q) args s Cc Zz (fun q => lo ≤ q)) 6 D cA lo cc zz M 56 [(0, .ref a0), (1, .int i1), (2, .ref a2), (3, .int i3)] []) (fun (a0 : Nat) (a2 : Nat) (i4 : Int32) (i5 : Int32) (M : Mm) (cc zz : Nat) => QW p l e ({ frames := 0, cells := Cc, slots := Zz, locals := 0 } : Room) s m args below meth c (MQ below (QiM D cA lo Q) args s Cc Zz (fun q => lo ≤ q)) 6 D cA lo cc zz M 108 [(0, .ref a0), (2, .ref a2), (4, .int i4), (5, .int i5)] []) (fun (a0 : Nat) (i1 : Int32) (a2 : Nat) (i3 : Int32) (i4 : Int32) (M : Mm) (cc zz : Nat) => QW p l e ({ frames := 0, cells := Cc, slots := Zz, locals := 0 } : Room) s m args below meth c (MQ below (QiM D cA lo Q) args s Cc Zz (fun q => lo ≤ q)) 6 D cA lo cc zz M 65 [(0, .ref a0), (1, .int i1), (2, .ref a2), (3, .int i3), (4, .int i4)] []) Cc Zz Q M a0 i1 a2 i3 i4 cc zz) : QW p l e ({ frames := 0, cells := Cc, slots := Zz, locals := 0 } : Room) s m args below meth c (MQ below (QiM D cA lo Q) args s Cc Zz (fun q => lo ≤ q)) 6 D cA lo cc zz M 65 [(0, .ref a0), (1, .int i1), (2, .ref a2), (3, .int i3), (4, .int i4)] [] := by
  unfold S_X9_groups_65 at h
  refine q_iload C dX9_groups_65 (j := 4) rfl ?_
  refine q_aload_n C dX9_groups_67 rfl (j := 0) rfl ?_
  refine q_getI (ci := 9) (k0 := 5) (T := TX9) C inX9_groups_X9 rfl (by decide) h.1 (by decide) rfl (by decide +kernel) rfl dX9_groups_68 ?_
  have h := h.2
  refine q_icmp_ge (tgt := 99) C dX9_groups_71 (by decide) (fun z => ?_) (fun z => ?_)
  · have h := h.1 z
    refine q_goto (tgt := 56) C dX9_groups_99 (by decide) ?_
    exact q_sub [0, 1, 2, 3] rfl h
  · have h := h.2 z
    refine q_aload_n C dX9_groups_74 rfl (j := 2) rfl ?_
    refine q_iload C dX9_groups_75 (j := 4) rfl ?_
    obtain ⟨n_8, z1, z2, h⟩ := h
    refine q_iald C z1 z2 dX9_groups_77 ?_
    refine q_iconst (v := (-1)) C dX9_groups_78 (by decide) ?_
    refine q_icmp_eq (tgt := 93) C dX9_groups_79 (by decide) (fun z => ?_) (fun z => ?_)
    · have h := h.1 z
      refine q_iinc (v := (i4 + 1)) (lv' := [(4, .int (i4 + 1)), (0, .ref a0), (1, .int i1), (2, .ref a2), (3, .int i3)]) C dX9_groups_93 (j := 4) rfl rfl (by decide) rfl ?_
      refine q_goto (tgt := 65) C dX9_groups_96 (by decide) ?_
      exact q_sub [1, 2, 3, 4, 0] rfl h
    · have h := h.2 z
      refine q_iload_n C dX9_groups_82 rfl (j := 3) rfl ?_
      refine q_aload_n C dX9_groups_83 rfl (j := 0) rfl ?_
      refine q_iload C dX9_groups_84 (j := 4) rfl ?_
      refine q_aload_n C dX9_groups_86 rfl (j := 2) rfl ?_
      refine q_iload_n C dX9_groups_87 rfl (j := 1) rfl ?_
      exact h.elim
set_option maxRecDepth 100000 in
set_option maxHeartbeats 4000000 in
theorem c_X9_groups (l : Launch) (D : va_G) (cA : Nat → ClassId) (lo : Nat) {M : Mm} {a0 : Nat} {i1 : Int32} {Cc Zz : Nat} {Q : Int32 → Mm → Prop} (h : T_X9_groups Cc Zz M a0 i1 Q) : Met l yX9_groups wsX9_groups ({ frames := 0, cells := Cc, slots := Zz, locals := 0 } : Room) (PcM D cA lo [.ref a0, .int i1] M) (QiM D cA lo Q) Cc Zz (fun q => lo ≤ q) := by
  refine q_start (cc := cX9_groups) (nL := 6) (ret := (some .int)) (by decide) rfl rfl (Nat.le_of_ble_eq_true rfl) ?_
  intro p e s m args below meth c C hr hlk hin
  unfold T_X9_groups at h
  have h := h (fun (a0 : Nat) (i1 : Int32) (a2 : Nat) (i3 : Int32) (M : Mm) (cc zz : Nat) => QW p l e ({ frames := 0, cells := Cc, slots := Zz, locals := 0 } : Room) s m args below meth c (MQ below (QiM D cA lo Q) args s Cc Zz (fun q => lo ≤ q)) 6 D cA lo cc zz M 9 [(0, .ref a0), (1, .int i1), (2, .ref a2), (3, .int i3)] []) (fun (a0 : Nat) (i1 : Int32) (a2 : Nat) (i3 : Int32) (M : Mm) (cc zz : Nat) => QW p l e ({ frames := 0, cells := Cc, slots := Zz, locals := 0 } : Room) s m args below meth c (MQ below (QiM D cA lo Q) args s Cc Zz (fun q => lo ≤ q)) 6 D cA lo cc zz M 56 [(0, .ref a0), (1, .int i1), (2, .ref a2), (3, .int i3)] []) (fun (a0 : Nat) (a2 : Nat) (i4 : Int32) (i5 : Int32) (M : Mm) (cc zz : Nat) => QW p l e ({ frames := 0, cells := Cc, slots := Zz, locals := 0 } : Room) s m args below meth c (MQ below (QiM D cA lo Q) args s Cc Zz (fun q => lo ≤ q)) 6 D cA lo cc zz M 108 [(0, .ref a0), (2, .ref a2), (4, .int i4), (5, .int i5)] []) (fun (a0 : Nat) (i1 : Int32) (a2 : Nat) (i3 : Int32) (i4 : Int32) (M : Mm) (cc zz : Nat) => QW p l e ({ frames := 0, cells := Cc, slots := Zz, locals := 0 } : Room) s m args below meth c (MQ below (QiM D cA lo Q) args s Cc Zz (fun q => lo ≤ q)) 6 D cA lo cc zz M 65 [(0, .ref a0), (1, .int i1), (2, .ref a2), (3, .int i3), (4, .int i4)] []) (fun a0 i1 a2 i3 M cc zz h => b_X9_groups_9 C hr hlk M a0 i1 a2 i3 cc zz h) (fun a0 i1 a2 i3 M cc zz h => b_X9_groups_56 C hr hlk M a0 i1 a2 i3 cc zz h) (fun a0 a2 i4 i5 M cc zz h => b_X9_groups_108 C hr hlk M a0 a2 i4 i5 cc zz h) (fun a0 i1 a2 i3 i4 M cc zz h => b_X9_groups_65 C hr hlk M a0 i1 a2 i3 i4 cc zz h)
  refine q_aload_n C dX9_groups_0 rfl (j := 0) rfl ?_
  refine q_getI (ci := 9) (k0 := 5) (T := TX9) C inX9_groups_X9 rfl (by decide) h.1 (by decide) rfl (by decide +kernel) rfl dX9_groups_1 ?_
  have h := h.2
  refine q_newI (N := (iM M a0 5).toNatClampNeg) C (by decide +kernel) h.1 rfl (Nat.le_trans (Nat.mul_le_mul_right _ h.2.1) (by decide)) ⟨h.2.2.1, h.2.2.2.1⟩ dX9_groups_4 (fun q_1 hq _ => ?_)
  have h := h.2.2.2.2 q_1 hq
  refine q_astore_n (lv' := [(2, .ref q_1), (0, .ref a0), (1, .int i1)]) C dX9_groups_6 rfl (by decide) rfl ?_
  refine q_iconst (v := 0) C dX9_groups_7 (by decide) ?_
  refine q_istore_n (lv' := [(3, .int 0), (2, .ref q_1), (0, .ref a0), (1, .int i1)]) C dX9_groups_8 rfl (by decide) rfl ?_
  exact q_sub [2, 3, 1, 0] rfl h
def T_X9_shells (Cc Zz : Nat) (M : Mm) (a0 : Nat) (Q : Int32 → Mm → Prop) : Prop := kM M a0 = (9, 13) ∧ ∃ dc_3 ds_3 : Nat, (0 + dc_3 ≤ Cc ∧ 0 + ds_3 ≤ Zz) ∧ kM (wI M a0 0 0) a0 = (9, 13) ∧ T_X9_groups dc_3 ds_3 (wI M a0 0 0) a0 (-1) (fun r_1 M_2 => (0 + dc_3) ≤ Cc ∧ (0 + ds_3) ≤ Zz ∧ Q r_1 M_2)
theorem inX9_shells_X9 : ∀ w ∈ wsX90, w ∈ wsX9_shells := by decide +kernel
set_option maxRecDepth 100000 in
set_option maxHeartbeats 4000000 in
theorem c_X9_shells (l : Launch) (D : va_G) (cA : Nat → ClassId) (lo : Nat) {M : Mm} {a0 : Nat} {Cc Zz : Nat} {Q : Int32 → Mm → Prop} (h : T_X9_shells Cc Zz M a0 Q) : Met l yX9_shells wsX9_shells ({ frames := 1, cells := Cc, slots := Zz, locals := 25 } : Room) (PcM D cA lo [.ref a0] M) (QiM D cA lo Q) Cc Zz (fun q => lo ≤ q) := by
  refine q_start (cc := cX9_shells) (nL := 1) (ret := (some .int)) (by decide) rfl rfl (Nat.le_of_ble_eq_true rfl) ?_
  intro p e s m args below meth c C hr hlk hin
  unfold T_X9_shells at h
  refine q_aload_n C dX9_shells_0 rfl (j := 0) rfl ?_
  refine q_iconst (v := 0) C dX9_shells_1 (by decide) ?_
  refine q_putI (ci := 9) (k0 := 0) (T := TX9) (v := 0) (ty := .int) C inX9_shells_X9 tyX9 tyX9_ok nmX9 rfl (by decide) h.1 (by decide) rfl (by decide +kernel) rfl (by decide +kernel) rfl rfl rfl dX9_shells_2 ?_
  have h := h.2
  refine q_aload_n C dX9_shells_5 rfl (j := 0) rfl ?_
  refine q_iconst (v := (-1)) C dX9_shells_6 (by decide) ?_
  obtain ⟨dc_3, ds_3, hcz, h⟩ := h
  refine q_ci (q_runV (As := [.int (-1)]) (st := []) C (c_X9_groups l D cA lo h.2) (cwV 1 C.2.2.2.2.1 gX9_shells_X9_groups rfl rfl rfl (by decide +kernel) ⟨Nat.le_of_ble_eq_true rfl, Nat.le_of_ble_eq_true rfl⟩) h.1 (by decide) rfl rfl rfl (Nat.le_of_ble_eq_true rfl) dX9_shells_7 hcz) (fun r_1 M_2 h => ?_)
  exact q_iret C hr hlk dX9_shells_10 h.1 h.2.1 h.2.2
def T_X9_at (M : Mm) (a0 : Nat) (i1 : Int32) (i2 : Int32) (Q : Int32 → Mm → Prop) : Prop := kM M a0 = (9, 13) ∧ kM (wI M a0 0 0) a0 = (9, 13) ∧ T_X9_isPoint (wI M a0 0 0) a0 i1 (fun r_1 => (¬ r_1 = 0 → T_X9_is (wI M a0 0 0) i2 0 2 (fun r_2 => (r_2 = 0 → kM (wI M a0 0 0) a0 = (9, 13) ∧ T_X9_refuse (wI M a0 0 0) a0 2 (fun r_3 M_4 => Q r_3 M_4)) ∧ (¬ r_2 = 0 → kM (wI M a0 0 0) a0 = (9, 13) ∧ ∃ a_5 : Nat, rM (wI M a0 0 0) a0 1 = some a_5 ∧ ∃ n_6 : Nat, kM (wI M a0 0 0) a_5 = (121, n_6) ∧ vp_in i1 n_6 ∧ ∃ a_7 : Nat, rM (wI M a0 0 0) a_5 i1.toNatClampNeg = some a_7 ∧ ∃ n_8 : Nat, kM (wI M a0 0 0) a_7 = (100, n_8) ∧ vp_in i2 n_8 ∧ Q (iM (wI M a0 0 0) a_7 i2.toNatClampNeg) (wI M a0 0 0)))) ∧ (r_1 = 0 → kM (wI M a0 0 0) a0 = (9, 13) ∧ T_X9_refuse (wI M a0 0 0) a0 1 (fun r_9 M_10 => Q r_9 M_10)))
theorem inX9_at_X9 : ∀ w ∈ wsX90, w ∈ wsX9_at := by decide +kernel
set_option maxRecDepth 100000 in
set_option maxHeartbeats 4000000 in
theorem c_X9_at (l : Launch) (D : va_G) (cA : Nat → ClassId) (lo : Nat) {M : Mm} {a0 : Nat} {i1 : Int32} {i2 : Int32} {Q : Int32 → Mm → Prop} (h : T_X9_at M a0 i1 i2 Q) : Met l yX9_at wsX9_at ({ frames := 2, cells := 0, slots := 0, locals := 43 } : Room) (PcM D cA lo [.ref a0, .int i1, .int i2] M) (QiM D cA lo Q) 0 0 (fun q => lo ≤ q) := by
  refine q_start (cc := cX9_at) (nL := 3) (ret := (some .int)) (by decide) rfl rfl (Nat.le_of_ble_eq_true rfl) ?_
  intro p e s m args below meth c C hr hlk hin
  unfold T_X9_at at h
  refine q_aload_n C dX9_at_0 rfl (j := 0) rfl ?_
  refine q_iconst (v := 0) C dX9_at_1 (by decide) ?_
  refine q_putI (ci := 9) (k0 := 0) (T := TX9) (v := 0) (ty := .int) C inX9_at_X9 tyX9 tyX9_ok nmX9 rfl (by decide) h.1 (by decide) rfl (by decide +kernel) rfl (by decide +kernel) rfl rfl rfl dX9_at_2 ?_
  have h := h.2
  refine q_aload_n C dX9_at_5 rfl (j := 0) rfl ?_
  refine q_iload_n C dX9_at_6 rfl (j := 1) rfl ?_
  refine q_ci (q_runV (As := [.int i1]) (st := []) C (c_X9_isPoint l D cA lo h.2) (cwV 1 C.2.2.2.2.1 gX9_at_X9_isPoint rfl rfl rfl (by decide +kernel) ⟨Nat.le_of_ble_eq_true rfl, Nat.le_of_ble_eq_true rfl⟩) h.1 (by decide) rfl rfl rfl (Nat.le_of_ble_eq_true rfl) dX9_at_7 ⟨Nat.le_of_ble_eq_true rfl, Nat.le_of_ble_eq_true rfl⟩) (fun r_1 M_z h => ?_)
  refine q_mem h.1 ?_
  have h := h.2
  refine q_if_ne (tgt := 19) C dX9_at_10 (by decide) (fun z => ?_) (fun z => ?_)
  · have h := h.1 z
    refine q_iload_n C dX9_at_19 rfl (j := 2) rfl ?_
    refine q_iconst (v := 0) C dX9_at_20 (by decide) ?_
    refine q_iconst (v := 2) C dX9_at_21 (by decide) ?_
    refine q_ci (q_runS (As := [.int i2, .int 0, .int 2]) (st := []) C (c_X9_is l D cA lo h) (va_cwS 3 C.2.2.2.2.1 gX9_at_X9_is rfl rfl rfl (by decide +kernel) ⟨Nat.le_of_ble_eq_true rfl, Nat.le_of_ble_eq_true rfl⟩) rfl rfl (Nat.le_of_ble_eq_true rfl) dX9_at_22 ⟨Nat.le_of_ble_eq_true rfl, Nat.le_of_ble_eq_true rfl⟩) (fun r_2 M_z h => ?_)
    refine q_mem h.1 ?_
    have h := h.2
    refine q_if_eq (tgt := 39) C dX9_at_25 (by decide) (fun z => ?_) (fun z => ?_)
    · have h := h.1 z
      refine q_aload_n C dX9_at_39 rfl (j := 0) rfl ?_
      refine q_iconst (v := 2) C dX9_at_40 (by decide) ?_
      refine q_ci (q_runV (As := [.int 2]) (st := []) C (c_X9_refuse l D cA lo h.2) (cwV 1 C.2.2.2.2.1 gX9_at_X9_refuse rfl rfl rfl (by decide +kernel) ⟨Nat.le_of_ble_eq_true rfl, Nat.le_of_ble_eq_true rfl⟩) h.1 (by decide) rfl rfl rfl (Nat.le_of_ble_eq_true rfl) dX9_at_41 ⟨Nat.le_of_ble_eq_true rfl, Nat.le_of_ble_eq_true rfl⟩) (fun r_3 M_4 h => ?_)
      exact q_iret C hr hlk dX9_at_44 (Nat.le_of_ble_eq_true rfl) (Nat.le_of_ble_eq_true rfl) h
    · have h := h.2 z
      refine q_aload_n C dX9_at_28 rfl (j := 0) rfl ?_
      refine q_getR (ci := 9) (k0 := 1) (T := TX9) C inX9_at_X9 rfl (by decide) h.1 (by decide) rfl (by decide +kernel) rfl dX9_at_29 ?_
      obtain ⟨a_5, z, h⟩ := h.2
      refine q_ref z ?_
      refine q_iload_n C dX9_at_32 rfl (j := 1) rfl ?_
      obtain ⟨n_6, z1, z2, h⟩ := h
      refine q_gald C z1 z2 dX9_at_33 ?_
      obtain ⟨a_7, z, h⟩ := h
      refine q_ref z ?_
      refine q_iload_n C dX9_at_34 rfl (j := 2) rfl ?_
      obtain ⟨n_8, z1, z2, h⟩ := h
      refine q_iald C z1 z2 dX9_at_35 ?_
      refine q_goto (tgt := 44) C dX9_at_36 (by decide) ?_
      exact q_iret C hr hlk dX9_at_44 (Nat.le_of_ble_eq_true rfl) (Nat.le_of_ble_eq_true rfl) h
  · have h := h.2 z
    refine q_aload_n C dX9_at_13 rfl (j := 0) rfl ?_
    refine q_iconst (v := 1) C dX9_at_14 (by decide) ?_
    refine q_ci (q_runV (As := [.int 1]) (st := []) C (c_X9_refuse l D cA lo h.2) (cwV 1 C.2.2.2.2.1 gX9_at_X9_refuse rfl rfl rfl (by decide +kernel) ⟨Nat.le_of_ble_eq_true rfl, Nat.le_of_ble_eq_true rfl⟩) h.1 (by decide) rfl rfl rfl (Nat.le_of_ble_eq_true rfl) dX9_at_15 ⟨Nat.le_of_ble_eq_true rfl, Nat.le_of_ble_eq_true rfl⟩) (fun r_9 M_10 h => ?_)
    exact q_iret C hr hlk dX9_at_18 (Nat.le_of_ble_eq_true rfl) (Nat.le_of_ble_eq_true rfl) h
def T_X9_size_ (M : Mm) (a0 : Nat) (i1 : Int32) (Q : Int32 → Mm → Prop) : Prop := kM M a0 = (9, 13) ∧ kM (wI M a0 0 0) a0 = (9, 13) ∧ T_X9_isFace (wI M a0 0 0) a0 i1 (fun r_1 => (r_1 = 0 → kM (wI M a0 0 0) a0 = (9, 13) ∧ T_X9_refuse (wI M a0 0 0) a0 1 (fun r_2 M_3 => Q r_2 M_3)) ∧ (¬ r_1 = 0 → kM (wI M a0 0 0) a0 = (9, 13) ∧ ∃ a_4 : Nat, rM (wI M a0 0 0) a0 4 = some a_4 ∧ ∃ n_5 : Nat, kM (wI M a0 0 0) a_4 = (121, n_5) ∧ vp_in i1 n_5 ∧ ∃ a_6 : Nat, rM (wI M a0 0 0) a_4 i1.toNatClampNeg = some a_6 ∧ False))
theorem inX9_size__X9 : ∀ w ∈ wsX90, w ∈ wsX9_size_ := by decide +kernel
set_option maxRecDepth 100000 in
set_option maxHeartbeats 4000000 in
theorem c_X9_size_ (l : Launch) (D : va_G) (cA : Nat → ClassId) (lo : Nat) {M : Mm} {a0 : Nat} {i1 : Int32} {Q : Int32 → Mm → Prop} (h : T_X9_size_ M a0 i1 Q) : Met l yX9_size_ wsX9_size_ ({ frames := 2, cells := 0, slots := 0, locals := 43 } : Room) (PcM D cA lo [.ref a0, .int i1] M) (QiM D cA lo Q) 0 0 (fun q => lo ≤ q) := by
  refine q_start (cc := cX9_size_) (nL := 2) (ret := (some .int)) (by decide) rfl rfl (Nat.le_of_ble_eq_true rfl) ?_
  intro p e s m args below meth c C hr hlk hin
  unfold T_X9_size_ at h
  refine q_aload_n C dX9_size__0 rfl (j := 0) rfl ?_
  refine q_iconst (v := 0) C dX9_size__1 (by decide) ?_
  refine q_putI (ci := 9) (k0 := 0) (T := TX9) (v := 0) (ty := .int) C inX9_size__X9 tyX9 tyX9_ok nmX9 rfl (by decide) h.1 (by decide) rfl (by decide +kernel) rfl (by decide +kernel) rfl rfl rfl dX9_size__2 ?_
  have h := h.2
  refine q_aload_n C dX9_size__5 rfl (j := 0) rfl ?_
  refine q_iload_n C dX9_size__6 rfl (j := 1) rfl ?_
  refine q_ci (q_runV (As := [.int i1]) (st := []) C (c_X9_isFace l D cA lo h.2) (cwV 1 C.2.2.2.2.1 gX9_size__X9_isFace rfl rfl rfl (by decide +kernel) ⟨Nat.le_of_ble_eq_true rfl, Nat.le_of_ble_eq_true rfl⟩) h.1 (by decide) rfl rfl rfl (Nat.le_of_ble_eq_true rfl) dX9_size__7 ⟨Nat.le_of_ble_eq_true rfl, Nat.le_of_ble_eq_true rfl⟩) (fun r_1 M_z h => ?_)
  refine q_mem h.1 ?_
  have h := h.2
  refine q_if_eq (tgt := 26) C dX9_size__10 (by decide) (fun z => ?_) (fun z => ?_)
  · have h := h.1 z
    refine q_aload_n C dX9_size__26 rfl (j := 0) rfl ?_
    refine q_iconst (v := 1) C dX9_size__27 (by decide) ?_
    refine q_ci (q_runV (As := [.int 1]) (st := []) C (c_X9_refuse l D cA lo h.2) (cwV 1 C.2.2.2.2.1 gX9_size__X9_refuse rfl rfl rfl (by decide +kernel) ⟨Nat.le_of_ble_eq_true rfl, Nat.le_of_ble_eq_true rfl⟩) h.1 (by decide) rfl rfl rfl (Nat.le_of_ble_eq_true rfl) dX9_size__28 ⟨Nat.le_of_ble_eq_true rfl, Nat.le_of_ble_eq_true rfl⟩) (fun r_2 M_3 h => ?_)
    exact q_iret C hr hlk dX9_size__31 (Nat.le_of_ble_eq_true rfl) (Nat.le_of_ble_eq_true rfl) h
  · have h := h.2 z
    refine q_aload_n C dX9_size__13 rfl (j := 0) rfl ?_
    refine q_aload_n C dX9_size__14 rfl (j := 0) rfl ?_
    refine q_getR (ci := 9) (k0 := 4) (T := TX9) C inX9_size__X9 rfl (by decide) h.1 (by decide) rfl (by decide +kernel) rfl dX9_size__15 ?_
    obtain ⟨a_4, z, h⟩ := h.2
    refine q_ref z ?_
    refine q_iload_n C dX9_size__18 rfl (j := 1) rfl ?_
    obtain ⟨n_5, z1, z2, h⟩ := h
    refine q_gald C z1 z2 dX9_size__19 ?_
    obtain ⟨a_6, z, h⟩ := h
    refine q_ref z ?_
    exact h.elim
def S_X9_corner_41 (K41 : Nat → Mm → Prop) (Q : Int32 → Mm → Prop) (M : Mm) (a0 : Nat) : Prop := kM M a0 = (9, 13) ∧ T_X9_refuse M a0 1 (fun r_12 M_13 => Q r_12 M_13)
def T_X9_corner (M : Mm) (a0 : Nat) (i1 : Int32) (i2 : Int32) (Q : Int32 → Mm → Prop) : Prop := ∀ (K41 : Nat → Mm → Prop), (∀ (a0 : Nat) (M : Mm), S_X9_corner_41 K41 Q M a0 → K41 a0 M) → kM M a0 = (9, 13) ∧ kM (wI M a0 0 0) a0 = (9, 13) ∧ T_X9_isFace (wI M a0 0 0) a0 i1 (fun r_1 => (r_1 = 0 → K41 a0 (wI M a0 0 0)) ∧ (¬ r_1 = 0 → kM (wI M a0 0 0) a0 = (9, 13) ∧ ∃ a_2 : Nat, rM (wI M a0 0 0) a0 4 = some a_2 ∧ ∃ n_3 : Nat, kM (wI M a0 0 0) a_2 = (121, n_3) ∧ vp_in i1 n_3 ∧ ∃ a_4 : Nat, rM (wI M a0 0 0) a_2 i1.toNatClampNeg = some a_4 ∧ ∃ k_6 n_5 : Nat, kM (wI M a0 0 0) a_4 = (k_6, n_5) ∧ ak k_6 ∧ T_X9_is (wI M a0 0 0) i2 0 ((nI n_5) - 1) (fun r_7 => (r_7 = 0 → K41 a0 (wI M a0 0 0)) ∧ (¬ r_7 = 0 → kM (wI M a0 0 0) a0 = (9, 13) ∧ ∃ a_8 : Nat, rM (wI M a0 0 0) a0 4 = some a_8 ∧ ∃ n_9 : Nat, kM (wI M a0 0 0) a_8 = (121, n_9) ∧ vp_in i1 n_9 ∧ ∃ a_10 : Nat, rM (wI M a0 0 0) a_8 i1.toNatClampNeg = some a_10 ∧ ∃ n_11 : Nat, kM (wI M a0 0 0) a_10 = (100, n_11) ∧ vp_in i2 n_11 ∧ Q (iM (wI M a0 0 0) a_10 i2.toNatClampNeg) (wI M a0 0 0)))))
theorem inX9_corner_X9 : ∀ w ∈ wsX90, w ∈ wsX9_corner := by decide +kernel
set_option maxRecDepth 100000 in
set_option maxHeartbeats 4000000 in
theorem b_X9_corner_41 {p : Program} {l : Launch} {e : Env} {s : State} {m : MethodId} {args : Array Value} {below : List Frame} {meth : Method} {c : Code} {D : va_G} {cA : Nat → ClassId} {lo : Nat} (C : Cx p s m args c cX9_corner 3 RX9 wsX9_corner D cA lo) (hr : meth.sig.returnType = (some .int)) (hlk : meth.locks = false) {Q : Int32 → Mm → Prop} (M : Mm) (a0 : Nat) (h : S_X9_corner_41 (fun (a0 : Nat) (M : Mm) => QW p l e ({ frames := 2, cells := 0, slots := 0, locals := 43 } : Room) s m args below meth c (MQ below (QiM D cA lo Q) args s 0 0 (fun q => lo ≤ q)) 3 D cA lo 0 0 M 41 [(0, .ref a0)] []) Q M a0) : QW p l e ({ frames := 2, cells := 0, slots := 0, locals := 43 } : Room) s m args below meth c (MQ below (QiM D cA lo Q) args s 0 0 (fun q => lo ≤ q)) 3 D cA lo 0 0 M 41 [(0, .ref a0)] [] := by
  unfold S_X9_corner_41 at h
  refine q_aload_n C dX9_corner_41 rfl (j := 0) rfl ?_
  refine q_iconst (v := 1) C dX9_corner_42 (by decide) ?_
  refine q_ci (q_runV (As := [.int 1]) (st := []) C (c_X9_refuse l D cA lo h.2) (cwV 1 C.2.2.2.2.1 gX9_corner_X9_refuse rfl rfl rfl (by decide +kernel) ⟨Nat.le_of_ble_eq_true rfl, Nat.le_of_ble_eq_true rfl⟩) h.1 (by decide) rfl rfl rfl (Nat.le_of_ble_eq_true rfl) dX9_corner_43 ⟨Nat.le_of_ble_eq_true rfl, Nat.le_of_ble_eq_true rfl⟩) (fun r_12 M_13 h => ?_)
  exact q_iret C hr hlk dX9_corner_46 (Nat.le_of_ble_eq_true rfl) (Nat.le_of_ble_eq_true rfl) h
set_option maxRecDepth 100000 in
set_option maxHeartbeats 4000000 in
theorem c_X9_corner (l : Launch) (D : va_G) (cA : Nat → ClassId) (lo : Nat) {M : Mm} {a0 : Nat} {i1 : Int32} {i2 : Int32} {Q : Int32 → Mm → Prop} (h : T_X9_corner M a0 i1 i2 Q) : Met l yX9_corner wsX9_corner ({ frames := 2, cells := 0, slots := 0, locals := 43 } : Room) (PcM D cA lo [.ref a0, .int i1, .int i2] M) (QiM D cA lo Q) 0 0 (fun q => lo ≤ q) := by
  refine q_start (cc := cX9_corner) (nL := 3) (ret := (some .int)) (by decide) rfl rfl (Nat.le_of_ble_eq_true rfl) ?_
  intro p e s m args below meth c C hr hlk hin
  unfold T_X9_corner at h
  have h := h (fun (a0 : Nat) (M : Mm) => QW p l e ({ frames := 2, cells := 0, slots := 0, locals := 43 } : Room) s m args below meth c (MQ below (QiM D cA lo Q) args s 0 0 (fun q => lo ≤ q)) 3 D cA lo 0 0 M 41 [(0, .ref a0)] []) (fun a0 M h => b_X9_corner_41 C hr hlk M a0 h)
  refine q_aload_n C dX9_corner_0 rfl (j := 0) rfl ?_
  refine q_iconst (v := 0) C dX9_corner_1 (by decide) ?_
  refine q_putI (ci := 9) (k0 := 0) (T := TX9) (v := 0) (ty := .int) C inX9_corner_X9 tyX9 tyX9_ok nmX9 rfl (by decide) h.1 (by decide) rfl (by decide +kernel) rfl (by decide +kernel) rfl rfl rfl dX9_corner_2 ?_
  have h := h.2
  refine q_aload_n C dX9_corner_5 rfl (j := 0) rfl ?_
  refine q_iload_n C dX9_corner_6 rfl (j := 1) rfl ?_
  refine q_ci (q_runV (As := [.int i1]) (st := []) C (c_X9_isFace l D cA lo h.2) (cwV 1 C.2.2.2.2.1 gX9_corner_X9_isFace rfl rfl rfl (by decide +kernel) ⟨Nat.le_of_ble_eq_true rfl, Nat.le_of_ble_eq_true rfl⟩) h.1 (by decide) rfl rfl rfl (Nat.le_of_ble_eq_true rfl) dX9_corner_7 ⟨Nat.le_of_ble_eq_true rfl, Nat.le_of_ble_eq_true rfl⟩) (fun r_1 M_z h => ?_)
  refine q_mem h.1 ?_
  have h := h.2
  refine q_if_eq (tgt := 41) C dX9_corner_10 (by decide) (fun z => ?_) (fun z => ?_)
  · have h := h.1 z
    exact q_sub [0] rfl h
  · have h := h.2 z
    refine q_iload_n C dX9_corner_13 rfl (j := 2) rfl ?_
    refine q_iconst (v := 0) C dX9_corner_14 (by decide) ?_
    refine q_aload_n C dX9_corner_15 rfl (j := 0) rfl ?_
    refine q_getR (ci := 9) (k0 := 4) (T := TX9) C inX9_corner_X9 rfl (by decide) h.1 (by decide) rfl (by decide +kernel) rfl dX9_corner_16 ?_
    obtain ⟨a_2, z, h⟩ := h.2
    refine q_ref z ?_
    refine q_iload_n C dX9_corner_19 rfl (j := 1) rfl ?_
    obtain ⟨n_3, z1, z2, h⟩ := h
    refine q_gald C z1 z2 dX9_corner_20 ?_
    obtain ⟨a_4, z, h⟩ := h
    refine q_ref z ?_
    obtain ⟨k_6, n_5, z1, z2, h⟩ := h
    refine q_alen C z1 z2 dX9_corner_21 ?_
    refine q_iconst (v := 1) C dX9_corner_22 (by decide) ?_
    refine q_isub C dX9_corner_23 ?_
    refine q_ci (q_runS (As := [.int i2, .int 0, .int ((nI n_5) - 1)]) (st := []) C (c_X9_is l D cA lo h) (va_cwS 3 C.2.2.2.2.1 gX9_corner_X9_is rfl rfl rfl (by decide +kernel) ⟨Nat.le_of_ble_eq_true rfl, Nat.le_of_ble_eq_true rfl⟩) rfl rfl (Nat.le_of_ble_eq_true rfl) dX9_corner_24 ⟨Nat.le_of_ble_eq_true rfl, Nat.le_of_ble_eq_true rfl⟩) (fun r_7 M_z h => ?_)
    refine q_mem h.1 ?_
    have h := h.2
    refine q_if_eq (tgt := 41) C dX9_corner_27 (by decide) (fun z => ?_) (fun z => ?_)
    · have h := h.1 z
      exact q_sub [0] rfl h
    · have h := h.2 z
      refine q_aload_n C dX9_corner_30 rfl (j := 0) rfl ?_
      refine q_getR (ci := 9) (k0 := 4) (T := TX9) C inX9_corner_X9 rfl (by decide) h.1 (by decide) rfl (by decide +kernel) rfl dX9_corner_31 ?_
      obtain ⟨a_8, z, h⟩ := h.2
      refine q_ref z ?_
      refine q_iload_n C dX9_corner_34 rfl (j := 1) rfl ?_
      obtain ⟨n_9, z1, z2, h⟩ := h
      refine q_gald C z1 z2 dX9_corner_35 ?_
      obtain ⟨a_10, z, h⟩ := h
      refine q_ref z ?_
      refine q_iload_n C dX9_corner_36 rfl (j := 2) rfl ?_
      obtain ⟨n_11, z1, z2, h⟩ := h
      refine q_iald C z1 z2 dX9_corner_37 ?_
      refine q_goto (tgt := 46) C dX9_corner_38 (by decide) ?_
      exact q_iret C hr hlk dX9_corner_46 (Nat.le_of_ble_eq_true rfl) (Nat.le_of_ble_eq_true rfl) h
def S_X9_faceOf_32 (K32 : Nat → Mm → Prop) (Q : Int32 → Mm → Prop) (M : Mm) (a0 : Nat) : Prop := kM M a0 = (9, 13) ∧ T_X9_refuse M a0 1 (fun r_7 M_8 => Q r_7 M_8)
def T_X9_faceOf (M : Mm) (a0 : Nat) (i1 : Int32) (i2 : Int32) (Q : Int32 → Mm → Prop) : Prop := ∀ (K32 : Nat → Mm → Prop), (∀ (a0 : Nat) (M : Mm), S_X9_faceOf_32 K32 Q M a0 → K32 a0 M) → kM M a0 = (9, 13) ∧ kM (wI M a0 0 0) a0 = (9, 13) ∧ T_X9_isPoint (wI M a0 0 0) a0 i1 (fun r_1 => (r_1 = 0 → K32 a0 (wI M a0 0 0)) ∧ (¬ r_1 = 0 → kM (wI M a0 0 0) a0 = (9, 13) ∧ T_X9_isPoint (wI M a0 0 0) a0 i2 (fun r_2 => (r_2 = 0 → K32 a0 (wI M a0 0 0)) ∧ (¬ r_2 = 0 → kM (wI M a0 0 0) a0 = (9, 13) ∧ ∃ a_3 : Nat, rM (wI M a0 0 0) a0 6 = some a_3 ∧ ∃ n_4 : Nat, kM (wI M a0 0 0) a_3 = (121, n_4) ∧ vp_in i1 n_4 ∧ ∃ a_5 : Nat, rM (wI M a0 0 0) a_3 i1.toNatClampNeg = some a_5 ∧ ∃ n_6 : Nat, kM (wI M a0 0 0) a_5 = (100, n_6) ∧ vp_in i2 n_6 ∧ Q (iM (wI M a0 0 0) a_5 i2.toNatClampNeg) (wI M a0 0 0)))))
theorem inX9_faceOf_X9 : ∀ w ∈ wsX90, w ∈ wsX9_faceOf := by decide +kernel
set_option maxRecDepth 100000 in
set_option maxHeartbeats 4000000 in
theorem b_X9_faceOf_32 {p : Program} {l : Launch} {e : Env} {s : State} {m : MethodId} {args : Array Value} {below : List Frame} {meth : Method} {c : Code} {D : va_G} {cA : Nat → ClassId} {lo : Nat} (C : Cx p s m args c cX9_faceOf 3 RX9 wsX9_faceOf D cA lo) (hr : meth.sig.returnType = (some .int)) (hlk : meth.locks = false) {Q : Int32 → Mm → Prop} (M : Mm) (a0 : Nat) (h : S_X9_faceOf_32 (fun (a0 : Nat) (M : Mm) => QW p l e ({ frames := 2, cells := 0, slots := 0, locals := 43 } : Room) s m args below meth c (MQ below (QiM D cA lo Q) args s 0 0 (fun q => lo ≤ q)) 3 D cA lo 0 0 M 32 [(0, .ref a0)] []) Q M a0) : QW p l e ({ frames := 2, cells := 0, slots := 0, locals := 43 } : Room) s m args below meth c (MQ below (QiM D cA lo Q) args s 0 0 (fun q => lo ≤ q)) 3 D cA lo 0 0 M 32 [(0, .ref a0)] [] := by
  unfold S_X9_faceOf_32 at h
  refine q_aload_n C dX9_faceOf_32 rfl (j := 0) rfl ?_
  refine q_iconst (v := 1) C dX9_faceOf_33 (by decide) ?_
  refine q_ci (q_runV (As := [.int 1]) (st := []) C (c_X9_refuse l D cA lo h.2) (cwV 1 C.2.2.2.2.1 gX9_faceOf_X9_refuse rfl rfl rfl (by decide +kernel) ⟨Nat.le_of_ble_eq_true rfl, Nat.le_of_ble_eq_true rfl⟩) h.1 (by decide) rfl rfl rfl (Nat.le_of_ble_eq_true rfl) dX9_faceOf_34 ⟨Nat.le_of_ble_eq_true rfl, Nat.le_of_ble_eq_true rfl⟩) (fun r_7 M_8 h => ?_)
  exact q_iret C hr hlk dX9_faceOf_37 (Nat.le_of_ble_eq_true rfl) (Nat.le_of_ble_eq_true rfl) h
set_option maxRecDepth 100000 in
set_option maxHeartbeats 4000000 in
theorem c_X9_faceOf (l : Launch) (D : va_G) (cA : Nat → ClassId) (lo : Nat) {M : Mm} {a0 : Nat} {i1 : Int32} {i2 : Int32} {Q : Int32 → Mm → Prop} (h : T_X9_faceOf M a0 i1 i2 Q) : Met l yX9_faceOf wsX9_faceOf ({ frames := 2, cells := 0, slots := 0, locals := 43 } : Room) (PcM D cA lo [.ref a0, .int i1, .int i2] M) (QiM D cA lo Q) 0 0 (fun q => lo ≤ q) := by
  refine q_start (cc := cX9_faceOf) (nL := 3) (ret := (some .int)) (by decide) rfl rfl (Nat.le_of_ble_eq_true rfl) ?_
  intro p e s m args below meth c C hr hlk hin
  unfold T_X9_faceOf at h
  have h := h (fun (a0 : Nat) (M : Mm) => QW p l e ({ frames := 2, cells := 0, slots := 0, locals := 43 } : Room) s m args below meth c (MQ below (QiM D cA lo Q) args s 0 0 (fun q => lo ≤ q)) 3 D cA lo 0 0 M 32 [(0, .ref a0)] []) (fun a0 M h => b_X9_faceOf_32 C hr hlk M a0 h)
  refine q_aload_n C dX9_faceOf_0 rfl (j := 0) rfl ?_
  refine q_iconst (v := 0) C dX9_faceOf_1 (by decide) ?_
  refine q_putI (ci := 9) (k0 := 0) (T := TX9) (v := 0) (ty := .int) C inX9_faceOf_X9 tyX9 tyX9_ok nmX9 rfl (by decide) h.1 (by decide) rfl (by decide +kernel) rfl (by decide +kernel) rfl rfl rfl dX9_faceOf_2 ?_
  have h := h.2
  refine q_aload_n C dX9_faceOf_5 rfl (j := 0) rfl ?_
  refine q_iload_n C dX9_faceOf_6 rfl (j := 1) rfl ?_
  refine q_ci (q_runV (As := [.int i1]) (st := []) C (c_X9_isPoint l D cA lo h.2) (cwV 1 C.2.2.2.2.1 gX9_faceOf_X9_isPoint rfl rfl rfl (by decide +kernel) ⟨Nat.le_of_ble_eq_true rfl, Nat.le_of_ble_eq_true rfl⟩) h.1 (by decide) rfl rfl rfl (Nat.le_of_ble_eq_true rfl) dX9_faceOf_7 ⟨Nat.le_of_ble_eq_true rfl, Nat.le_of_ble_eq_true rfl⟩) (fun r_1 M_z h => ?_)
  refine q_mem h.1 ?_
  have h := h.2
  refine q_if_eq (tgt := 32) C dX9_faceOf_10 (by decide) (fun z => ?_) (fun z => ?_)
  · have h := h.1 z
    exact q_sub [0] rfl h
  · have h := h.2 z
    refine q_aload_n C dX9_faceOf_13 rfl (j := 0) rfl ?_
    refine q_iload_n C dX9_faceOf_14 rfl (j := 2) rfl ?_
    refine q_ci (q_runV (As := [.int i2]) (st := []) C (c_X9_isPoint l D cA lo h.2) (cwV 1 C.2.2.2.2.1 gX9_faceOf_X9_isPoint rfl rfl rfl (by decide +kernel) ⟨Nat.le_of_ble_eq_true rfl, Nat.le_of_ble_eq_true rfl⟩) h.1 (by decide) rfl rfl rfl (Nat.le_of_ble_eq_true rfl) dX9_faceOf_15 ⟨Nat.le_of_ble_eq_true rfl, Nat.le_of_ble_eq_true rfl⟩) (fun r_2 M_z h => ?_)
    refine q_mem h.1 ?_
    have h := h.2
    refine q_if_eq (tgt := 32) C dX9_faceOf_18 (by decide) (fun z => ?_) (fun z => ?_)
    · have h := h.1 z
      exact q_sub [0] rfl h
    · have h := h.2 z
      refine q_aload_n C dX9_faceOf_21 rfl (j := 0) rfl ?_
      refine q_getR (ci := 9) (k0 := 6) (T := TX9) C inX9_faceOf_X9 rfl (by decide) h.1 (by decide) rfl (by decide +kernel) rfl dX9_faceOf_22 ?_
      obtain ⟨a_3, z, h⟩ := h.2
      refine q_ref z ?_
      refine q_iload_n C dX9_faceOf_25 rfl (j := 1) rfl ?_
      obtain ⟨n_4, z1, z2, h⟩ := h
      refine q_gald C z1 z2 dX9_faceOf_26 ?_
      obtain ⟨a_5, z, h⟩ := h
      refine q_ref z ?_
      refine q_iload_n C dX9_faceOf_27 rfl (j := 2) rfl ?_
      obtain ⟨n_6, z1, z2, h⟩ := h
      refine q_iald C z1 z2 dX9_faceOf_28 ?_
      refine q_goto (tgt := 37) C dX9_faceOf_29 (by decide) ?_
      exact q_iret C hr hlk dX9_faceOf_37 (Nat.le_of_ble_eq_true rfl) (Nat.le_of_ble_eq_true rfl) h
def S_X9_hole_21 (K21 : Nat → Mm → Prop) (Q : Int32 → Mm → Prop) (M : Mm) (a0 : Nat) : Prop := kM M a0 = (9, 13) ∧ T_X9_refuse M a0 1 (fun r_3 M_4 => Q r_3 M_4)
def T_X9_hole (M : Mm) (a0 : Nat) (i1 : Int32) (i2 : Int32) (Q : Int32 → Mm → Prop) : Prop := ∀ (K21 : Nat → Mm → Prop), (∀ (a0 : Nat) (M : Mm), S_X9_hole_21 K21 Q M a0 → K21 a0 M) → kM M a0 = (9, 13) ∧ kM (wI M a0 0 0) a0 = (9, 13) ∧ T_X9_isPoint (wI M a0 0 0) a0 i1 (fun r_1 => (r_1 = 0 → K21 a0 (wI M a0 0 0)) ∧ (¬ r_1 = 0 → kM (wI M a0 0 0) a0 = (9, 13) ∧ T_X9_isPoint (wI M a0 0 0) a0 i2 (fun r_2 => (¬ r_2 = 0 → False) ∧ (r_2 = 0 → K21 a0 (wI M a0 0 0)))))
theorem inX9_hole_X9 : ∀ w ∈ wsX90, w ∈ wsX9_hole := by decide +kernel
set_option maxRecDepth 100000 in
set_option maxHeartbeats 4000000 in
theorem b_X9_hole_21 {p : Program} {l : Launch} {e : Env} {s : State} {m : MethodId} {args : Array Value} {below : List Frame} {meth : Method} {c : Code} {D : va_G} {cA : Nat → ClassId} {lo : Nat} (C : Cx p s m args c cX9_hole 3 RX9 wsX9_hole D cA lo) (hr : meth.sig.returnType = (some .int)) (hlk : meth.locks = false) {Q : Int32 → Mm → Prop} (M : Mm) (a0 : Nat) (h : S_X9_hole_21 (fun (a0 : Nat) (M : Mm) => QW p l e ({ frames := 2, cells := 0, slots := 0, locals := 43 } : Room) s m args below meth c (MQ below (QiM D cA lo Q) args s 0 0 (fun q => lo ≤ q)) 3 D cA lo 0 0 M 21 [(0, .ref a0)] []) Q M a0) : QW p l e ({ frames := 2, cells := 0, slots := 0, locals := 43 } : Room) s m args below meth c (MQ below (QiM D cA lo Q) args s 0 0 (fun q => lo ≤ q)) 3 D cA lo 0 0 M 21 [(0, .ref a0)] [] := by
  unfold S_X9_hole_21 at h
  refine q_aload_n C dX9_hole_21 rfl (j := 0) rfl ?_
  refine q_iconst (v := 1) C dX9_hole_22 (by decide) ?_
  refine q_ci (q_runV (As := [.int 1]) (st := []) C (c_X9_refuse l D cA lo h.2) (cwV 1 C.2.2.2.2.1 gX9_hole_X9_refuse rfl rfl rfl (by decide +kernel) ⟨Nat.le_of_ble_eq_true rfl, Nat.le_of_ble_eq_true rfl⟩) h.1 (by decide) rfl rfl rfl (Nat.le_of_ble_eq_true rfl) dX9_hole_23 ⟨Nat.le_of_ble_eq_true rfl, Nat.le_of_ble_eq_true rfl⟩) (fun r_3 M_4 h => ?_)
  exact q_iret C hr hlk dX9_hole_26 (Nat.le_of_ble_eq_true rfl) (Nat.le_of_ble_eq_true rfl) h
set_option maxRecDepth 100000 in
set_option maxHeartbeats 4000000 in
theorem c_X9_hole (l : Launch) (D : va_G) (cA : Nat → ClassId) (lo : Nat) {M : Mm} {a0 : Nat} {i1 : Int32} {i2 : Int32} {Q : Int32 → Mm → Prop} (h : T_X9_hole M a0 i1 i2 Q) : Met l yX9_hole wsX9_hole ({ frames := 2, cells := 0, slots := 0, locals := 43 } : Room) (PcM D cA lo [.ref a0, .int i1, .int i2] M) (QiM D cA lo Q) 0 0 (fun q => lo ≤ q) := by
  refine q_start (cc := cX9_hole) (nL := 3) (ret := (some .int)) (by decide) rfl rfl (Nat.le_of_ble_eq_true rfl) ?_
  intro p e s m args below meth c C hr hlk hin
  unfold T_X9_hole at h
  have h := h (fun (a0 : Nat) (M : Mm) => QW p l e ({ frames := 2, cells := 0, slots := 0, locals := 43 } : Room) s m args below meth c (MQ below (QiM D cA lo Q) args s 0 0 (fun q => lo ≤ q)) 3 D cA lo 0 0 M 21 [(0, .ref a0)] []) (fun a0 M h => b_X9_hole_21 C hr hlk M a0 h)
  refine q_aload_n C dX9_hole_0 rfl (j := 0) rfl ?_
  refine q_iconst (v := 0) C dX9_hole_1 (by decide) ?_
  refine q_putI (ci := 9) (k0 := 0) (T := TX9) (v := 0) (ty := .int) C inX9_hole_X9 tyX9 tyX9_ok nmX9 rfl (by decide) h.1 (by decide) rfl (by decide +kernel) rfl (by decide +kernel) rfl rfl rfl dX9_hole_2 ?_
  have h := h.2
  refine q_aload_n C dX9_hole_5 rfl (j := 0) rfl ?_
  refine q_iload_n C dX9_hole_6 rfl (j := 1) rfl ?_
  refine q_ci (q_runV (As := [.int i1]) (st := []) C (c_X9_isPoint l D cA lo h.2) (cwV 1 C.2.2.2.2.1 gX9_hole_X9_isPoint rfl rfl rfl (by decide +kernel) ⟨Nat.le_of_ble_eq_true rfl, Nat.le_of_ble_eq_true rfl⟩) h.1 (by decide) rfl rfl rfl (Nat.le_of_ble_eq_true rfl) dX9_hole_7 ⟨Nat.le_of_ble_eq_true rfl, Nat.le_of_ble_eq_true rfl⟩) (fun r_1 M_z h => ?_)
  refine q_mem h.1 ?_
  have h := h.2
  refine q_if_eq (tgt := 21) C dX9_hole_10 (by decide) (fun z => ?_) (fun z => ?_)
  · have h := h.1 z
    exact q_sub [0] rfl h
  · have h := h.2 z
    refine q_aload_n C dX9_hole_13 rfl (j := 0) rfl ?_
    refine q_iload_n C dX9_hole_14 rfl (j := 2) rfl ?_
    refine q_ci (q_runV (As := [.int i2]) (st := []) C (c_X9_isPoint l D cA lo h.2) (cwV 1 C.2.2.2.2.1 gX9_hole_X9_isPoint rfl rfl rfl (by decide +kernel) ⟨Nat.le_of_ble_eq_true rfl, Nat.le_of_ble_eq_true rfl⟩) h.1 (by decide) rfl rfl rfl (Nat.le_of_ble_eq_true rfl) dX9_hole_15 ⟨Nat.le_of_ble_eq_true rfl, Nat.le_of_ble_eq_true rfl⟩) (fun r_2 M_z h => ?_)
    refine q_mem h.1 ?_
    have h := h.2
    refine q_if_ne (tgt := 27) C dX9_hole_18 (by decide) (fun z => ?_) (fun z => ?_)
    · have h := h.1 z
      refine q_aload_n C dX9_hole_27 rfl (j := 0) rfl ?_
      refine q_iload_n C dX9_hole_28 rfl (j := 1) rfl ?_
      refine q_iload_n C dX9_hole_29 rfl (j := 2) rfl ?_
      exact h.elim
    · have h := h.2 z
      exact q_sub [0] rfl h
def T_X9_around (M : Mm) (a0 : Nat) (i1 : Int32) (i2 : Int32) (Q : Int32 → Mm → Prop) : Prop := kM M a0 = (9, 13) ∧ kM (wI M a0 0 0) a0 = (9, 13) ∧ T_X9_isPoint (wI M a0 0 0) a0 i1 (fun r_1 => (¬ r_1 = 0 → T_X9_is (wI M a0 0 0) i2 0 3 (fun r_2 => (r_2 = 0 → kM (wI M a0 0 0) a0 = (9, 13) ∧ T_X9_refuse (wI M a0 0 0) a0 2 (fun r_3 M_4 => Q r_3 M_4)) ∧ (¬ r_2 = 0 → False))) ∧ (r_1 = 0 → kM (wI M a0 0 0) a0 = (9, 13) ∧ T_X9_refuse (wI M a0 0 0) a0 1 (fun r_5 M_6 => Q r_5 M_6)))
theorem inX9_around_X9 : ∀ w ∈ wsX90, w ∈ wsX9_around := by decide +kernel
set_option maxRecDepth 100000 in
set_option maxHeartbeats 4000000 in
theorem c_X9_around (l : Launch) (D : va_G) (cA : Nat → ClassId) (lo : Nat) {M : Mm} {a0 : Nat} {i1 : Int32} {i2 : Int32} {Q : Int32 → Mm → Prop} (h : T_X9_around M a0 i1 i2 Q) : Met l yX9_around wsX9_around ({ frames := 2, cells := 0, slots := 0, locals := 43 } : Room) (PcM D cA lo [.ref a0, .int i1, .int i2] M) (QiM D cA lo Q) 0 0 (fun q => lo ≤ q) := by
  refine q_start (cc := cX9_around) (nL := 3) (ret := (some .int)) (by decide) rfl rfl (Nat.le_of_ble_eq_true rfl) ?_
  intro p e s m args below meth c C hr hlk hin
  unfold T_X9_around at h
  refine q_aload_n C dX9_around_0 rfl (j := 0) rfl ?_
  refine q_iconst (v := 0) C dX9_around_1 (by decide) ?_
  refine q_putI (ci := 9) (k0 := 0) (T := TX9) (v := 0) (ty := .int) C inX9_around_X9 tyX9 tyX9_ok nmX9 rfl (by decide) h.1 (by decide) rfl (by decide +kernel) rfl (by decide +kernel) rfl rfl rfl dX9_around_2 ?_
  have h := h.2
  refine q_aload_n C dX9_around_5 rfl (j := 0) rfl ?_
  refine q_iload_n C dX9_around_6 rfl (j := 1) rfl ?_
  refine q_ci (q_runV (As := [.int i1]) (st := []) C (c_X9_isPoint l D cA lo h.2) (cwV 1 C.2.2.2.2.1 gX9_around_X9_isPoint rfl rfl rfl (by decide +kernel) ⟨Nat.le_of_ble_eq_true rfl, Nat.le_of_ble_eq_true rfl⟩) h.1 (by decide) rfl rfl rfl (Nat.le_of_ble_eq_true rfl) dX9_around_7 ⟨Nat.le_of_ble_eq_true rfl, Nat.le_of_ble_eq_true rfl⟩) (fun r_1 M_z h => ?_)
  refine q_mem h.1 ?_
  have h := h.2
  refine q_if_ne (tgt := 19) C dX9_around_10 (by decide) (fun z => ?_) (fun z => ?_)
  · have h := h.1 z
    refine q_iload_n C dX9_around_19 rfl (j := 2) rfl ?_
    refine q_iconst (v := 0) C dX9_around_20 (by decide) ?_
    refine q_iconst (v := 3) C dX9_around_21 (by decide) ?_
    refine q_ci (q_runS (As := [.int i2, .int 0, .int 3]) (st := []) C (c_X9_is l D cA lo h) (va_cwS 3 C.2.2.2.2.1 gX9_around_X9_is rfl rfl rfl (by decide +kernel) ⟨Nat.le_of_ble_eq_true rfl, Nat.le_of_ble_eq_true rfl⟩) rfl rfl (Nat.le_of_ble_eq_true rfl) dX9_around_22 ⟨Nat.le_of_ble_eq_true rfl, Nat.le_of_ble_eq_true rfl⟩) (fun r_2 M_z h => ?_)
    refine q_mem h.1 ?_
    have h := h.2
    refine q_if_eq (tgt := 37) C dX9_around_25 (by decide) (fun z => ?_) (fun z => ?_)
    · have h := h.1 z
      refine q_aload_n C dX9_around_37 rfl (j := 0) rfl ?_
      refine q_iconst (v := 2) C dX9_around_38 (by decide) ?_
      refine q_ci (q_runV (As := [.int 2]) (st := []) C (c_X9_refuse l D cA lo h.2) (cwV 1 C.2.2.2.2.1 gX9_around_X9_refuse rfl rfl rfl (by decide +kernel) ⟨Nat.le_of_ble_eq_true rfl, Nat.le_of_ble_eq_true rfl⟩) h.1 (by decide) rfl rfl rfl (Nat.le_of_ble_eq_true rfl) dX9_around_39 ⟨Nat.le_of_ble_eq_true rfl, Nat.le_of_ble_eq_true rfl⟩) (fun r_3 M_4 h => ?_)
      exact q_iret C hr hlk dX9_around_42 (Nat.le_of_ble_eq_true rfl) (Nat.le_of_ble_eq_true rfl) h
    · have h := h.2 z
      refine q_aload_n C dX9_around_28 rfl (j := 0) rfl ?_
      refine q_iload_n C dX9_around_29 rfl (j := 1) rfl ?_
      refine q_iload_n C dX9_around_30 rfl (j := 2) rfl ?_
      exact h.elim
  · have h := h.2 z
    refine q_aload_n C dX9_around_13 rfl (j := 0) rfl ?_
    refine q_iconst (v := 1) C dX9_around_14 (by decide) ?_
    refine q_ci (q_runV (As := [.int 1]) (st := []) C (c_X9_refuse l D cA lo h.2) (cwV 1 C.2.2.2.2.1 gX9_around_X9_refuse rfl rfl rfl (by decide +kernel) ⟨Nat.le_of_ble_eq_true rfl, Nat.le_of_ble_eq_true rfl⟩) h.1 (by decide) rfl rfl rfl (Nat.le_of_ble_eq_true rfl) dX9_around_15 ⟨Nat.le_of_ble_eq_true rfl, Nat.le_of_ble_eq_true rfl⟩) (fun r_5 M_6 h => ?_)
    exact q_iret C hr hlk dX9_around_18 (Nat.le_of_ble_eq_true rfl) (Nat.le_of_ble_eq_true rfl) h
def T_X9_normal (M : Mm) (a0 : Nat) (i1 : Int32) (i2 : Int32) (Q : Int32 → Mm → Prop) : Prop := kM M a0 = (9, 13) ∧ kM (wI M a0 0 0) a0 = (9, 13) ∧ T_X9_isFace (wI M a0 0 0) a0 i1 (fun r_1 => (¬ r_1 = 0 → T_X9_is (wI M a0 0 0) i2 0 2 (fun r_2 => (r_2 = 0 → kM (wI M a0 0 0) a0 = (9, 13) ∧ T_X9_refuse (wI M a0 0 0) a0 2 (fun r_3 M_4 => Q r_3 M_4)) ∧ (¬ r_2 = 0 → False))) ∧ (r_1 = 0 → kM (wI M a0 0 0) a0 = (9, 13) ∧ T_X9_refuse (wI M a0 0 0) a0 1 (fun r_5 M_6 => Q r_5 M_6)))
theorem inX9_normal_X9 : ∀ w ∈ wsX90, w ∈ wsX9_normal := by decide +kernel
set_option maxRecDepth 100000 in
set_option maxHeartbeats 4000000 in
theorem c_X9_normal (l : Launch) (D : va_G) (cA : Nat → ClassId) (lo : Nat) {M : Mm} {a0 : Nat} {i1 : Int32} {i2 : Int32} {Q : Int32 → Mm → Prop} (h : T_X9_normal M a0 i1 i2 Q) : Met l yX9_normal wsX9_normal ({ frames := 2, cells := 0, slots := 0, locals := 43 } : Room) (PcM D cA lo [.ref a0, .int i1, .int i2] M) (QiM D cA lo Q) 0 0 (fun q => lo ≤ q) := by
  refine q_start (cc := cX9_normal) (nL := 3) (ret := (some .int)) (by decide) rfl rfl (Nat.le_of_ble_eq_true rfl) ?_
  intro p e s m args below meth c C hr hlk hin
  unfold T_X9_normal at h
  refine q_aload_n C dX9_normal_0 rfl (j := 0) rfl ?_
  refine q_iconst (v := 0) C dX9_normal_1 (by decide) ?_
  refine q_putI (ci := 9) (k0 := 0) (T := TX9) (v := 0) (ty := .int) C inX9_normal_X9 tyX9 tyX9_ok nmX9 rfl (by decide) h.1 (by decide) rfl (by decide +kernel) rfl (by decide +kernel) rfl rfl rfl dX9_normal_2 ?_
  have h := h.2
  refine q_aload_n C dX9_normal_5 rfl (j := 0) rfl ?_
  refine q_iload_n C dX9_normal_6 rfl (j := 1) rfl ?_
  refine q_ci (q_runV (As := [.int i1]) (st := []) C (c_X9_isFace l D cA lo h.2) (cwV 1 C.2.2.2.2.1 gX9_normal_X9_isFace rfl rfl rfl (by decide +kernel) ⟨Nat.le_of_ble_eq_true rfl, Nat.le_of_ble_eq_true rfl⟩) h.1 (by decide) rfl rfl rfl (Nat.le_of_ble_eq_true rfl) dX9_normal_7 ⟨Nat.le_of_ble_eq_true rfl, Nat.le_of_ble_eq_true rfl⟩) (fun r_1 M_z h => ?_)
  refine q_mem h.1 ?_
  have h := h.2
  refine q_if_ne (tgt := 19) C dX9_normal_10 (by decide) (fun z => ?_) (fun z => ?_)
  · have h := h.1 z
    refine q_iload_n C dX9_normal_19 rfl (j := 2) rfl ?_
    refine q_iconst (v := 0) C dX9_normal_20 (by decide) ?_
    refine q_iconst (v := 2) C dX9_normal_21 (by decide) ?_
    refine q_ci (q_runS (As := [.int i2, .int 0, .int 2]) (st := []) C (c_X9_is l D cA lo h) (va_cwS 3 C.2.2.2.2.1 gX9_normal_X9_is rfl rfl rfl (by decide +kernel) ⟨Nat.le_of_ble_eq_true rfl, Nat.le_of_ble_eq_true rfl⟩) rfl rfl (Nat.le_of_ble_eq_true rfl) dX9_normal_22 ⟨Nat.le_of_ble_eq_true rfl, Nat.le_of_ble_eq_true rfl⟩) (fun r_2 M_z h => ?_)
    refine q_mem h.1 ?_
    have h := h.2
    refine q_if_eq (tgt := 37) C dX9_normal_25 (by decide) (fun z => ?_) (fun z => ?_)
    · have h := h.1 z
      refine q_aload_n C dX9_normal_37 rfl (j := 0) rfl ?_
      refine q_iconst (v := 2) C dX9_normal_38 (by decide) ?_
      refine q_ci (q_runV (As := [.int 2]) (st := []) C (c_X9_refuse l D cA lo h.2) (cwV 1 C.2.2.2.2.1 gX9_normal_X9_refuse rfl rfl rfl (by decide +kernel) ⟨Nat.le_of_ble_eq_true rfl, Nat.le_of_ble_eq_true rfl⟩) h.1 (by decide) rfl rfl rfl (Nat.le_of_ble_eq_true rfl) dX9_normal_39 ⟨Nat.le_of_ble_eq_true rfl, Nat.le_of_ble_eq_true rfl⟩) (fun r_3 M_4 h => ?_)
      exact q_iret C hr hlk dX9_normal_42 (Nat.le_of_ble_eq_true rfl) (Nat.le_of_ble_eq_true rfl) h
    · have h := h.2 z
      refine q_aload_n C dX9_normal_28 rfl (j := 0) rfl ?_
      refine q_iload_n C dX9_normal_29 rfl (j := 1) rfl ?_
      refine q_iload_n C dX9_normal_30 rfl (j := 2) rfl ?_
      exact h.elim
  · have h := h.2 z
    refine q_aload_n C dX9_normal_13 rfl (j := 0) rfl ?_
    refine q_iconst (v := 1) C dX9_normal_14 (by decide) ?_
    refine q_ci (q_runV (As := [.int 1]) (st := []) C (c_X9_refuse l D cA lo h.2) (cwV 1 C.2.2.2.2.1 gX9_normal_X9_refuse rfl rfl rfl (by decide +kernel) ⟨Nat.le_of_ble_eq_true rfl, Nat.le_of_ble_eq_true rfl⟩) h.1 (by decide) rfl rfl rfl (Nat.le_of_ble_eq_true rfl) dX9_normal_15 ⟨Nat.le_of_ble_eq_true rfl, Nat.le_of_ble_eq_true rfl⟩) (fun r_5 M_6 h => ?_)
    exact q_iret C hr hlk dX9_normal_18 (Nat.le_of_ble_eq_true rfl) (Nat.le_of_ble_eq_true rfl) h
def S_X9_volumeNow_4 (K4 : Nat → Int64 → Int32 → Prop) (K42 : Nat → Int64 → Int32 → Nat → Int32 → Prop) (K93 : Nat → Int64 → Int32 → Nat → Int32 → Nat → Nat → Int32 → Prop) (Q : Int64 → Prop) (M : Mm) (a0 : Nat) (l1 : Int64) (i3 : Int32) : Prop := kM M a0 = (9, 13) ∧ ((iM M a0 5) ≤ i3 → Q l1) ∧ (¬ (iM M a0 5) ≤ i3 → kM M a0 = (9, 13) ∧ ∃ a_1 : Nat, rM M a0 4 = some a_1 ∧ ∃ n_2 : Nat, kM M a_1 = (121, n_2) ∧ vp_in i3 n_2 ∧ (∀ a_3 : Nat, (rM M a_1 i3.toNatClampNeg) = some a_3 → kM M a0 = (9, 13) ∧ ∃ a_4 : Nat, rM M a0 1 = some a_4 ∧ kM M a0 = (9, 13) ∧ ∃ a_5 : Nat, rM M a0 4 = some a_5 ∧ ∃ n_6 : Nat, kM M a_5 = (121, n_6) ∧ vp_in i3 n_6 ∧ ∃ a_7 : Nat, rM M a_5 i3.toNatClampNeg = some a_7 ∧ ∃ n_8 : Nat, kM M a_7 = (100, n_8) ∧ vp_in 0 n_8 ∧ ∃ n_9 : Nat, kM M a_4 = (121, n_9) ∧ vp_in (iM M a_7 (0 : Int32).toNatClampNeg) n_9 ∧ ∃ a_10 : Nat, rM M a_4 (iM M a_7 (0 : Int32).toNatClampNeg).toNatClampNeg = some a_10 ∧ K42 a0 l1 i3 a_10 1) ∧ ((rM M a_1 i3.toNatClampNeg) = none → K4 a0 l1 (i3 + 1)))
def S_X9_volumeNow_42 (K4 : Nat → Int64 → Int32 → Prop) (K42 : Nat → Int64 → Int32 → Nat → Int32 → Prop) (K93 : Nat → Int64 → Int32 → Nat → Int32 → Nat → Nat → Int32 → Prop) (Q : Int64 → Prop) (M : Mm) (a0 : Nat) (l1 : Int64) (i3 : Int32) (a4 : Nat) (i5 : Int32) : Prop := kM M a0 = (9, 13) ∧ ∃ a_11 : Nat, rM M a0 4 = some a_11 ∧ ∃ n_12 : Nat, kM M a_11 = (121, n_12) ∧ vp_in i3 n_12 ∧ ∃ a_13 : Nat, rM M a_11 i3.toNatClampNeg = some a_13 ∧ ∃ k_15 n_14 : Nat, kM M a_13 = (k_15, n_14) ∧ ak k_15 ∧ ((nI n_14) ≤ (i5 + 1) → K4 a0 l1 (i3 + 1)) ∧ (¬ (nI n_14) ≤ (i5 + 1) → kM M a0 = (9, 13) ∧ ∃ a_16 : Nat, rM M a0 1 = some a_16 ∧ kM M a0 = (9, 13) ∧ ∃ a_17 : Nat, rM M a0 4 = some a_17 ∧ ∃ n_18 : Nat, kM M a_17 = (121, n_18) ∧ vp_in i3 n_18 ∧ ∃ a_19 : Nat, rM M a_17 i3.toNatClampNeg = some a_19 ∧ ∃ n_20 : Nat, kM M a_19 = (100, n_20) ∧ vp_in i5 n_20 ∧ ∃ n_21 : Nat, kM M a_16 = (121, n_21) ∧ vp_in (iM M a_19 i5.toNatClampNeg) n_21 ∧ ∃ a_22 : Nat, rM M a_16 (iM M a_19 i5.toNatClampNeg).toNatClampNeg = some a_22 ∧ kM M a0 = (9, 13) ∧ ∃ a_23 : Nat, rM M a0 1 = some a_23 ∧ kM M a0 = (9, 13) ∧ ∃ a_24 : Nat, rM M a0 4 = some a_24 ∧ ∃ n_25 : Nat, kM M a_24 = (121, n_25) ∧ vp_in i3 n_25 ∧ ∃ a_26 : Nat, rM M a_24 i3.toNatClampNeg = some a_26 ∧ ∃ n_27 : Nat, kM M a_26 = (100, n_27) ∧ vp_in (i5 + 1) n_27 ∧ ∃ n_28 : Nat, kM M a_23 = (121, n_28) ∧ vp_in (iM M a_26 (i5 + 1).toNatClampNeg) n_28 ∧ ∃ a_29 : Nat, rM M a_23 (iM M a_26 (i5 + 1).toNatClampNeg).toNatClampNeg = some a_29 ∧ K93 a0 l1 i3 a4 i5 a_22 a_29 0)
def S_X9_volumeNow_93 (K4 : Nat → Int64 → Int32 → Prop) (K42 : Nat → Int64 → Int32 → Nat → Int32 → Prop) (K93 : Nat → Int64 → Int32 → Nat → Int32 → Nat → Nat → Int32 → Prop) (Q : Int64 → Prop) (M : Mm) (a0 : Nat) (l1 : Int64) (i3 : Int32) (a4 : Nat) (i5 : Int32) (a6 : Nat) (a7 : Nat) (i8 : Int32) : Prop := (3 ≤ i8 → K42 a0 l1 i3 a4 (i5 + 1)) ∧ (¬ 3 ≤ i8 → ∃ n_30 : Nat, kM M a4 = (100, n_30) ∧ vp_in i8 n_30 ∧ ∃ n_31 : Nat, kM M a6 = (100, n_31) ∧ vp_in ((i8 + 1) - (i8 + 1) / 3 * 3) n_31 ∧ ∃ n_32 : Nat, kM M a7 = (100, n_32) ∧ vp_in ((i8 + 2) - (i8 + 2) / 3 * 3) n_32 ∧ ∃ n_33 : Nat, kM M a6 = (100, n_33) ∧ vp_in ((i8 + 2) - (i8 + 2) / 3 * 3) n_33 ∧ ∃ n_34 : Nat, kM M a7 = (100, n_34) ∧ vp_in ((i8 + 1) - (i8 + 1) / 3 * 3) n_34 ∧ K93 a0 (l1 + (((iM M a4 i8.toNatClampNeg).toInt64) * ((((iM M a6 ((i8 + 1) - (i8 + 1) / 3 * 3).toNatClampNeg) * (iM M a7 ((i8 + 2) - (i8 + 2) / 3 * 3).toNatClampNeg)) - ((iM M a6 ((i8 + 2) - (i8 + 2) / 3 * 3).toNatClampNeg) * (iM M a7 ((i8 + 1) - (i8 + 1) / 3 * 3).toNatClampNeg))).toInt64))) i3 a4 i5 a6 a7 (i8 + 1))
def T_X9_volumeNow (M : Mm) (a0 : Nat) (Q : Int64 → Prop) : Prop := ∀ (K4 : Nat → Int64 → Int32 → Prop) (K42 : Nat → Int64 → Int32 → Nat → Int32 → Prop) (K93 : Nat → Int64 → Int32 → Nat → Int32 → Nat → Nat → Int32 → Prop), (∀ (a0 : Nat) (l1 : Int64) (i3 : Int32), S_X9_volumeNow_4 K4 K42 K93 Q M a0 l1 i3 → K4 a0 l1 i3) → (∀ (a0 : Nat) (l1 : Int64) (i3 : Int32) (a4 : Nat) (i5 : Int32), S_X9_volumeNow_42 K4 K42 K93 Q M a0 l1 i3 a4 i5 → K42 a0 l1 i3 a4 i5) → (∀ (a0 : Nat) (l1 : Int64) (i3 : Int32) (a4 : Nat) (i5 : Int32) (a6 : Nat) (a7 : Nat) (i8 : Int32), S_X9_volumeNow_93 K4 K42 K93 Q M a0 l1 i3 a4 i5 a6 a7 i8 → K93 a0 l1 i3 a4 i5 a6 a7 i8) → K4 a0 0 0
theorem inX9_volumeNow_X9 : ∀ w ∈ wsX90, w ∈ wsX9_volumeNow := by decide +kernel
set_option maxRecDepth 100000 in
set_option maxHeartbeats 4000000 in
theorem b_X9_volumeNow_4 {p : Program} {l : Launch} {e : Env} {s : State} {m : MethodId} {args : Array Value} {below : List Frame} {meth : Method} {c : Code} {D : va_G} {cA : Nat → ClassId} {lo : Nat} (C : Cx p s m args c cX9_volumeNow 11 RX9 wsX9_volumeNow D cA lo) (hr : meth.sig.returnType = (some .long)) (hlk : meth.locks = false) {Q : Int64 → Prop} {M : Mm} (a0 : Nat) (l1 : Int64) (i3 : Int32) (h : S_X9_volumeNow_4 (fun (a0 : Nat) (l1 : Int64) (i3 : Int32) => QW p l e ({ frames := 0, cells := 0, slots := 0, locals := 0 } : Room) s m args below meth c (MQ below (QlM D cA lo (fun r M1 => M1 = M ∧ Q r)) args s 0 0 (fun q => lo ≤ q)) 11 D cA lo 0 0 M 4 [(0, .ref a0), (1, .long l1), (3, .int i3)] []) (fun (a0 : Nat) (l1 : Int64) (i3 : Int32) (a4 : Nat) (i5 : Int32) => QW p l e ({ frames := 0, cells := 0, slots := 0, locals := 0 } : Room) s m args below meth c (MQ below (QlM D cA lo (fun r M1 => M1 = M ∧ Q r)) args s 0 0 (fun q => lo ≤ q)) 11 D cA lo 0 0 M 42 [(0, .ref a0), (1, .long l1), (3, .int i3), (4, .ref a4), (5, .int i5)] []) (fun (a0 : Nat) (l1 : Int64) (i3 : Int32) (a4 : Nat) (i5 : Int32) (a6 : Nat) (a7 : Nat) (i8 : Int32) => QW p l e ({ frames := 0, cells := 0, slots := 0, locals := 0 } : Room) s m args below meth c (MQ below (QlM D cA lo (fun r M1 => M1 = M ∧ Q r)) args s 0 0 (fun q => lo ≤ q)) 11 D cA lo 0 0 M 93 [(0, .ref a0), (1, .long l1), (3, .int i3), (4, .ref a4), (5, .int i5), (6, .ref a6), (7, .ref a7), (8, .int i8)] []) Q M a0 l1 i3) : QW p l e ({ frames := 0, cells := 0, slots := 0, locals := 0 } : Room) s m args below meth c (MQ below (QlM D cA lo (fun r M1 => M1 = M ∧ Q r)) args s 0 0 (fun q => lo ≤ q)) 11 D cA lo 0 0 M 4 [(0, .ref a0), (1, .long l1), (3, .int i3)] [] := by
  unfold S_X9_volumeNow_4 at h
  refine q_iload_n C dX9_volumeNow_4 rfl (j := 2) rfl ?_
  refine q_aload_n C dX9_volumeNow_5 rfl (j := 0) rfl ?_
  refine q_getI (ci := 9) (k0 := 5) (T := TX9) C inX9_volumeNow_X9 rfl (by decide) h.1 (by decide) rfl (by decide +kernel) rfl dX9_volumeNow_6 ?_
  have h := h.2
  refine q_icmp_ge (tgt := 167) C dX9_volumeNow_9 (by decide) (fun z => ?_) (fun z => ?_)
  · have h := h.1 z
    refine q_lload_n C dX9_volumeNow_167 rfl (j := 1) rfl ?_
    exact q_lret C hr hlk dX9_volumeNow_168 (Nat.le_of_ble_eq_true rfl) (Nat.le_of_ble_eq_true rfl) ⟨rfl, h⟩
  · have h := h.2 z
    refine q_aload_n C dX9_volumeNow_12 rfl (j := 0) rfl ?_
    refine q_getR (ci := 9) (k0 := 4) (T := TX9) C inX9_volumeNow_X9 rfl (by decide) h.1 (by decide) rfl (by decide +kernel) rfl dX9_volumeNow_13 ?_
    obtain ⟨a_1, z, h⟩ := h.2
    refine q_ref z ?_
    refine q_iload_n C dX9_volumeNow_16 rfl (j := 2) rfl ?_
    obtain ⟨n_2, z1, z2, h⟩ := h
    refine q_gald C z1 z2 dX9_volumeNow_17 ?_
    refine q_ifnonnull (tgt := 24) C dX9_volumeNow_18 (by decide) (fun a_3 z => ?_) (fun z => ?_)
    · have h := h.1 _ z
      refine q_aload_n C dX9_volumeNow_24 rfl (j := 0) rfl ?_
      refine q_getR (ci := 9) (k0 := 1) (T := TX9) C inX9_volumeNow_X9 rfl (by decide) h.1 (by decide) rfl (by decide +kernel) rfl dX9_volumeNow_25 ?_
      obtain ⟨a_4, z, h⟩ := h.2
      refine q_ref z ?_
      refine q_aload_n C dX9_volumeNow_28 rfl (j := 0) rfl ?_
      refine q_getR (ci := 9) (k0 := 4) (T := TX9) C inX9_volumeNow_X9 rfl (by decide) h.1 (by decide) rfl (by decide +kernel) rfl dX9_volumeNow_29 ?_
      obtain ⟨a_5, z, h⟩ := h.2
      refine q_ref z ?_
      refine q_iload_n C dX9_volumeNow_32 rfl (j := 2) rfl ?_
      obtain ⟨n_6, z1, z2, h⟩ := h
      refine q_gald C z1 z2 dX9_volumeNow_33 ?_
      obtain ⟨a_7, z, h⟩ := h
      refine q_ref z ?_
      refine q_iconst (v := 0) C dX9_volumeNow_34 (by decide) ?_
      obtain ⟨n_8, z1, z2, h⟩ := h
      refine q_iald C z1 z2 dX9_volumeNow_35 ?_
      obtain ⟨n_9, z1, z2, h⟩ := h
      refine q_gald C z1 z2 dX9_volumeNow_36 ?_
      obtain ⟨a_10, z, h⟩ := h
      refine q_ref z ?_
      refine q_astore (lv' := [(4, .ref a_10), (0, .ref a0), (1, .long l1), (3, .int i3)]) C dX9_volumeNow_37 (by decide) rfl ?_
      refine q_iconst (v := 1) C dX9_volumeNow_39 (by decide) ?_
      refine q_istore (lv' := [(5, .int 1), (4, .ref a_10), (0, .ref a0), (1, .long l1), (3, .int i3)]) C dX9_volumeNow_40 (by decide) rfl ?_
      exact q_sub [2, 3, 4, 1, 0] rfl h
    · have h := h.2 z
      refine q_goto (tgt := 161) C dX9_volumeNow_21 (by decide) ?_
      refine q_iinc (v := (i3 + 1)) (lv' := [(3, .int (i3 + 1)), (0, .ref a0), (1, .long l1)]) C dX9_volumeNow_161 (j := 2) rfl rfl (by decide) rfl ?_
      refine q_goto (tgt := 4) C dX9_volumeNow_164 (by decide) ?_
      exact q_sub [1, 2, 0] rfl h
set_option maxRecDepth 100000 in
set_option maxHeartbeats 4000000 in
theorem b_X9_volumeNow_42 {p : Program} {l : Launch} {e : Env} {s : State} {m : MethodId} {args : Array Value} {below : List Frame} {meth : Method} {c : Code} {D : va_G} {cA : Nat → ClassId} {lo : Nat} (C : Cx p s m args c cX9_volumeNow 11 RX9 wsX9_volumeNow D cA lo) (hr : meth.sig.returnType = (some .long)) (hlk : meth.locks = false) {Q : Int64 → Prop} {M : Mm} (a0 : Nat) (l1 : Int64) (i3 : Int32) (a4 : Nat) (i5 : Int32) (h : S_X9_volumeNow_42 (fun (a0 : Nat) (l1 : Int64) (i3 : Int32) => QW p l e ({ frames := 0, cells := 0, slots := 0, locals := 0 } : Room) s m args below meth c (MQ below (QlM D cA lo (fun r M1 => M1 = M ∧ Q r)) args s 0 0 (fun q => lo ≤ q)) 11 D cA lo 0 0 M 4 [(0, .ref a0), (1, .long l1), (3, .int i3)] []) (fun (a0 : Nat) (l1 : Int64) (i3 : Int32) (a4 : Nat) (i5 : Int32) => QW p l e ({ frames := 0, cells := 0, slots := 0, locals := 0 } : Room) s m args below meth c (MQ below (QlM D cA lo (fun r M1 => M1 = M ∧ Q r)) args s 0 0 (fun q => lo ≤ q)) 11 D cA lo 0 0 M 42 [(0, .ref a0), (1, .long l1), (3, .int i3), (4, .ref a4), (5, .int i5)] []) (fun (a0 : Nat) (l1 : Int64) (i3 : Int32) (a4 : Nat) (i5 : Int32) (a6 : Nat) (a7 : Nat) (i8 : Int32) => QW p l e ({ frames := 0, cells := 0, slots := 0, locals := 0 } : Room) s m args below meth c (MQ below (QlM D cA lo (fun r M1 => M1 = M ∧ Q r)) args s 0 0 (fun q => lo ≤ q)) 11 D cA lo 0 0 M 93 [(0, .ref a0), (1, .long l1), (3, .int i3), (4, .ref a4), (5, .int i5), (6, .ref a6), (7, .ref a7), (8, .int i8)] []) Q M a0 l1 i3 a4 i5) : QW p l e ({ frames := 0, cells := 0, slots := 0, locals := 0 } : Room) s m args below meth c (MQ below (QlM D cA lo (fun r M1 => M1 = M ∧ Q r)) args s 0 0 (fun q => lo ≤ q)) 11 D cA lo 0 0 M 42 [(0, .ref a0), (1, .long l1), (3, .int i3), (4, .ref a4), (5, .int i5)] [] := by
  unfold S_X9_volumeNow_42 at h
  refine q_iload C dX9_volumeNow_42 (j := 4) rfl ?_
  refine q_iconst (v := 1) C dX9_volumeNow_44 (by decide) ?_
  refine q_iadd C dX9_volumeNow_45 ?_
  refine q_aload_n C dX9_volumeNow_46 rfl (j := 0) rfl ?_
  refine q_getR (ci := 9) (k0 := 4) (T := TX9) C inX9_volumeNow_X9 rfl (by decide) h.1 (by decide) rfl (by decide +kernel) rfl dX9_volumeNow_47 ?_
  obtain ⟨a_11, z, h⟩ := h.2
  refine q_ref z ?_
  refine q_iload_n C dX9_volumeNow_50 rfl (j := 2) rfl ?_
  obtain ⟨n_12, z1, z2, h⟩ := h
  refine q_gald C z1 z2 dX9_volumeNow_51 ?_
  obtain ⟨a_13, z, h⟩ := h
  refine q_ref z ?_
  obtain ⟨k_15, n_14, z1, z2, h⟩ := h
  refine q_alen C z1 z2 dX9_volumeNow_52 ?_
  refine q_icmp_ge (tgt := 161) C dX9_volumeNow_53 (by decide) (fun z => ?_) (fun z => ?_)
  · have h := h.1 z
    refine q_iinc (v := (i3 + 1)) (lv' := [(3, .int (i3 + 1)), (0, .ref a0), (1, .long l1), (4, .ref a4), (5, .int i5)]) C dX9_volumeNow_161 (j := 2) rfl rfl (by decide) rfl ?_
    refine q_goto (tgt := 4) C dX9_volumeNow_164 (by decide) ?_
    exact q_sub [1, 2, 0] rfl h
  · have h := h.2 z
    refine q_aload_n C dX9_volumeNow_56 rfl (j := 0) rfl ?_
    refine q_getR (ci := 9) (k0 := 1) (T := TX9) C inX9_volumeNow_X9 rfl (by decide) h.1 (by decide) rfl (by decide +kernel) rfl dX9_volumeNow_57 ?_
    obtain ⟨a_16, z, h⟩ := h.2
    refine q_ref z ?_
    refine q_aload_n C dX9_volumeNow_60 rfl (j := 0) rfl ?_
    refine q_getR (ci := 9) (k0 := 4) (T := TX9) C inX9_volumeNow_X9 rfl (by decide) h.1 (by decide) rfl (by decide +kernel) rfl dX9_volumeNow_61 ?_
    obtain ⟨a_17, z, h⟩ := h.2
    refine q_ref z ?_
    refine q_iload_n C dX9_volumeNow_64 rfl (j := 2) rfl ?_
    obtain ⟨n_18, z1, z2, h⟩ := h
    refine q_gald C z1 z2 dX9_volumeNow_65 ?_
    obtain ⟨a_19, z, h⟩ := h
    refine q_ref z ?_
    refine q_iload C dX9_volumeNow_66 (j := 4) rfl ?_
    obtain ⟨n_20, z1, z2, h⟩ := h
    refine q_iald C z1 z2 dX9_volumeNow_68 ?_
    obtain ⟨n_21, z1, z2, h⟩ := h
    refine q_gald C z1 z2 dX9_volumeNow_69 ?_
    obtain ⟨a_22, z, h⟩ := h
    refine q_ref z ?_
    refine q_astore (lv' := [(6, .ref a_22), (0, .ref a0), (1, .long l1), (3, .int i3), (4, .ref a4), (5, .int i5)]) C dX9_volumeNow_70 (by decide) rfl ?_
    refine q_aload_n C dX9_volumeNow_72 rfl (j := 1) rfl ?_
    refine q_getR (ci := 9) (k0 := 1) (T := TX9) C inX9_volumeNow_X9 rfl (by decide) h.1 (by decide) rfl (by decide +kernel) rfl dX9_volumeNow_73 ?_
    obtain ⟨a_23, z, h⟩ := h.2
    refine q_ref z ?_
    refine q_aload_n C dX9_volumeNow_76 rfl (j := 1) rfl ?_
    refine q_getR (ci := 9) (k0 := 4) (T := TX9) C inX9_volumeNow_X9 rfl (by decide) h.1 (by decide) rfl (by decide +kernel) rfl dX9_volumeNow_77 ?_
    obtain ⟨a_24, z, h⟩ := h.2
    refine q_ref z ?_
    refine q_iload_n C dX9_volumeNow_80 rfl (j := 3) rfl ?_
    obtain ⟨n_25, z1, z2, h⟩ := h
    refine q_gald C z1 z2 dX9_volumeNow_81 ?_
    obtain ⟨a_26, z, h⟩ := h
    refine q_ref z ?_
    refine q_iload C dX9_volumeNow_82 (j := 5) rfl ?_
    refine q_iconst (v := 1) C dX9_volumeNow_84 (by decide) ?_
    refine q_iadd C dX9_volumeNow_85 ?_
    obtain ⟨n_27, z1, z2, h⟩ := h
    refine q_iald C z1 z2 dX9_volumeNow_86 ?_
    obtain ⟨n_28, z1, z2, h⟩ := h
    refine q_gald C z1 z2 dX9_volumeNow_87 ?_
    obtain ⟨a_29, z, h⟩ := h
    refine q_ref z ?_
    refine q_astore (lv' := [(7, .ref a_29), (6, .ref a_22), (0, .ref a0), (1, .long l1), (3, .int i3), (4, .ref a4), (5, .int i5)]) C dX9_volumeNow_88 (by decide) rfl ?_
    refine q_iconst (v := 0) C dX9_volumeNow_90 (by decide) ?_
    refine q_istore (lv' := [(8, .int 0), (7, .ref a_29), (6, .ref a_22), (0, .ref a0), (1, .long l1), (3, .int i3), (4, .ref a4), (5, .int i5)]) C dX9_volumeNow_91 (by decide) rfl ?_
    exact q_sub [3, 4, 5, 6, 7, 2, 1, 0] rfl h
set_option maxRecDepth 100000 in
set_option maxHeartbeats 4000000 in
theorem b_X9_volumeNow_93 {p : Program} {l : Launch} {e : Env} {s : State} {m : MethodId} {args : Array Value} {below : List Frame} {meth : Method} {c : Code} {D : va_G} {cA : Nat → ClassId} {lo : Nat} (C : Cx p s m args c cX9_volumeNow 11 RX9 wsX9_volumeNow D cA lo) (hr : meth.sig.returnType = (some .long)) (hlk : meth.locks = false) {Q : Int64 → Prop} {M : Mm} (a0 : Nat) (l1 : Int64) (i3 : Int32) (a4 : Nat) (i5 : Int32) (a6 : Nat) (a7 : Nat) (i8 : Int32) (h : S_X9_volumeNow_93 (fun (a0 : Nat) (l1 : Int64) (i3 : Int32) => QW p l e ({ frames := 0, cells := 0, slots := 0, locals := 0 } : Room) s m args below meth c (MQ below (QlM D cA lo (fun r M1 => M1 = M ∧ Q r)) args s 0 0 (fun q => lo ≤ q)) 11 D cA lo 0 0 M 4 [(0, .ref a0), (1, .long l1), (3, .int i3)] []) (fun (a0 : Nat) (l1 : Int64) (i3 : Int32) (a4 : Nat) (i5 : Int32) => QW p l e ({ frames := 0, cells := 0, slots := 0, locals := 0 } : Room) s m args below meth c (MQ below (QlM D cA lo (fun r M1 => M1 = M ∧ Q r)) args s 0 0 (fun q => lo ≤ q)) 11 D cA lo 0 0 M 42 [(0, .ref a0), (1, .long l1), (3, .int i3), (4, .ref a4), (5, .int i5)] []) (fun (a0 : Nat) (l1 : Int64) (i3 : Int32) (a4 : Nat) (i5 : Int32) (a6 : Nat) (a7 : Nat) (i8 : Int32) => QW p l e ({ frames := 0, cells := 0, slots := 0, locals := 0 } : Room) s m args below meth c (MQ below (QlM D cA lo (fun r M1 => M1 = M ∧ Q r)) args s 0 0 (fun q => lo ≤ q)) 11 D cA lo 0 0 M 93 [(0, .ref a0), (1, .long l1), (3, .int i3), (4, .ref a4), (5, .int i5), (6, .ref a6), (7, .ref a7), (8, .int i8)] []) Q M a0 l1 i3 a4 i5 a6 a7 i8) : QW p l e ({ frames := 0, cells := 0, slots := 0, locals := 0 } : Room) s m args below meth c (MQ below (QlM D cA lo (fun r M1 => M1 = M ∧ Q r)) args s 0 0 (fun q => lo ≤ q)) 11 D cA lo 0 0 M 93 [(0, .ref a0), (1, .long l1), (3, .int i3), (4, .ref a4), (5, .int i5), (6, .ref a6), (7, .ref a7), (8, .int i8)] [] := by
  unfold S_X9_volumeNow_93 at h
  refine q_iload C dX9_volumeNow_93 (j := 7) rfl ?_
  refine q_iconst (v := 3) C dX9_volumeNow_95 (by decide) ?_
  refine q_icmp_ge (tgt := 155) C dX9_volumeNow_96 (by decide) (fun z => ?_) (fun z => ?_)
  · have h := h.1 z
    refine q_iinc (v := (i5 + 1)) (lv' := [(5, .int (i5 + 1)), (0, .ref a0), (1, .long l1), (3, .int i3), (4, .ref a4), (6, .ref a6), (7, .ref a7), (8, .int i8)]) C dX9_volumeNow_155 (j := 4) rfl rfl (by decide) rfl ?_
    refine q_goto (tgt := 42) C dX9_volumeNow_158 (by decide) ?_
    exact q_sub [1, 2, 3, 4, 0] rfl h
  · have h := h.2 z
    refine q_iload C dX9_volumeNow_99 (j := 7) rfl ?_
    refine q_iconst (v := 1) C dX9_volumeNow_101 (by decide) ?_
    refine q_iadd C dX9_volumeNow_102 ?_
    refine q_iconst (v := 3) C dX9_volumeNow_103 (by decide) ?_
    refine q_irem C dX9_volumeNow_104 (by decide) ?_
    refine q_istore (lv' := [(9, .int ((i8 + 1) - (i8 + 1) / 3 * 3)), (0, .ref a0), (1, .long l1), (3, .int i3), (4, .ref a4), (5, .int i5), (6, .ref a6), (7, .ref a7), (8, .int i8)]) C dX9_volumeNow_105 (by decide) rfl ?_
    refine q_iload C dX9_volumeNow_107 (j := 8) rfl ?_
    refine q_iconst (v := 2) C dX9_volumeNow_109 (by decide) ?_
    refine q_iadd C dX9_volumeNow_110 ?_
    refine q_iconst (v := 3) C dX9_volumeNow_111 (by decide) ?_
    refine q_irem C dX9_volumeNow_112 (by decide) ?_
    refine q_istore (lv' := [(10, .int ((i8 + 2) - (i8 + 2) / 3 * 3)), (9, .int ((i8 + 1) - (i8 + 1) / 3 * 3)), (0, .ref a0), (1, .long l1), (3, .int i3), (4, .ref a4), (5, .int i5), (6, .ref a6), (7, .ref a7), (8, .int i8)]) C dX9_volumeNow_113 (by decide) rfl ?_
    refine q_lload_n C dX9_volumeNow_115 rfl (j := 3) rfl ?_
    refine q_aload C dX9_volumeNow_116 (j := 5) rfl ?_
    refine q_iload C dX9_volumeNow_118 (j := 9) rfl ?_
    obtain ⟨n_30, z1, z2, h⟩ := h
    refine q_iald C z1 z2 dX9_volumeNow_120 ?_
    refine q_i2l C dX9_volumeNow_121 ?_
    refine q_aload C dX9_volumeNow_122 (j := 7) rfl ?_
    refine q_iload C dX9_volumeNow_124 (j := 1) rfl ?_
    obtain ⟨n_31, z1, z2, h⟩ := h
    refine q_iald C z1 z2 dX9_volumeNow_126 ?_
    refine q_aload C dX9_volumeNow_127 (j := 8) rfl ?_
    refine q_iload C dX9_volumeNow_129 (j := 0) rfl ?_
    obtain ⟨n_32, z1, z2, h⟩ := h
    refine q_iald C z1 z2 dX9_volumeNow_131 ?_
    refine q_imul C dX9_volumeNow_132 ?_
    refine q_aload C dX9_volumeNow_133 (j := 7) rfl ?_
    refine q_iload C dX9_volumeNow_135 (j := 0) rfl ?_
    obtain ⟨n_33, z1, z2, h⟩ := h
    refine q_iald C z1 z2 dX9_volumeNow_137 ?_
    refine q_aload C dX9_volumeNow_138 (j := 8) rfl ?_
    refine q_iload C dX9_volumeNow_140 (j := 1) rfl ?_
    obtain ⟨n_34, z1, z2, h⟩ := h
    refine q_iald C z1 z2 dX9_volumeNow_142 ?_
    refine q_imul C dX9_volumeNow_143 ?_
    refine q_isub C dX9_volumeNow_144 ?_
    refine q_i2l C dX9_volumeNow_145 ?_
    refine q_lmul C dX9_volumeNow_146 ?_
    refine q_ladd C dX9_volumeNow_147 ?_
    refine q_lstore_n (lv' := [(1, .long (l1 + (((iM M a4 i8.toNatClampNeg).toInt64) * ((((iM M a6 ((i8 + 1) - (i8 + 1) / 3 * 3).toNatClampNeg) * (iM M a7 ((i8 + 2) - (i8 + 2) / 3 * 3).toNatClampNeg)) - ((iM M a6 ((i8 + 2) - (i8 + 2) / 3 * 3).toNatClampNeg) * (iM M a7 ((i8 + 1) - (i8 + 1) / 3 * 3).toNatClampNeg))).toInt64)))), (10, .int ((i8 + 2) - (i8 + 2) / 3 * 3)), (9, .int ((i8 + 1) - (i8 + 1) / 3 * 3)), (0, .ref a0), (3, .int i3), (4, .ref a4), (5, .int i5), (6, .ref a6), (7, .ref a7), (8, .int i8)]) C dX9_volumeNow_148 rfl (by decide) rfl ?_
    refine q_iinc (v := (i8 + 1)) (lv' := [(8, .int (i8 + 1)), (1, .long (l1 + (((iM M a4 i8.toNatClampNeg).toInt64) * ((((iM M a6 ((i8 + 1) - (i8 + 1) / 3 * 3).toNatClampNeg) * (iM M a7 ((i8 + 2) - (i8 + 2) / 3 * 3).toNatClampNeg)) - ((iM M a6 ((i8 + 2) - (i8 + 2) / 3 * 3).toNatClampNeg) * (iM M a7 ((i8 + 1) - (i8 + 1) / 3 * 3).toNatClampNeg))).toInt64)))), (10, .int ((i8 + 2) - (i8 + 2) / 3 * 3)), (9, .int ((i8 + 1) - (i8 + 1) / 3 * 3)), (0, .ref a0), (3, .int i3), (4, .ref a4), (5, .int i5), (6, .ref a6), (7, .ref a7)]) C dX9_volumeNow_149 (j := 9) rfl rfl (by decide) rfl ?_
    refine q_goto (tgt := 93) C dX9_volumeNow_152 (by decide) ?_
    exact q_sub [4, 1, 5, 6, 7, 8, 9, 0] rfl h
set_option maxRecDepth 100000 in
set_option maxHeartbeats 4000000 in
theorem c_X9_volumeNow (l : Launch) (D : va_G) (cA : Nat → ClassId) (lo : Nat) {M : Mm} {a0 : Nat} {Q : Int64 → Prop} (h : T_X9_volumeNow M a0 Q) : Met l yX9_volumeNow wsX9_volumeNow ({ frames := 0, cells := 0, slots := 0, locals := 0 } : Room) (PcM D cA lo [.ref a0] M) (QlM D cA lo (fun r M1 => M1 = M ∧ Q r)) 0 0 (fun q => lo ≤ q) := by
  refine q_start (cc := cX9_volumeNow) (nL := 11) (ret := (some .long)) (by decide) rfl rfl (Nat.le_of_ble_eq_true rfl) ?_
  intro p e s m args below meth c C hr hlk hin
  unfold T_X9_volumeNow at h
  have h := h (fun (a0 : Nat) (l1 : Int64) (i3 : Int32) => QW p l e ({ frames := 0, cells := 0, slots := 0, locals := 0 } : Room) s m args below meth c (MQ below (QlM D cA lo (fun r M1 => M1 = M ∧ Q r)) args s 0 0 (fun q => lo ≤ q)) 11 D cA lo 0 0 M 4 [(0, .ref a0), (1, .long l1), (3, .int i3)] []) (fun (a0 : Nat) (l1 : Int64) (i3 : Int32) (a4 : Nat) (i5 : Int32) => QW p l e ({ frames := 0, cells := 0, slots := 0, locals := 0 } : Room) s m args below meth c (MQ below (QlM D cA lo (fun r M1 => M1 = M ∧ Q r)) args s 0 0 (fun q => lo ≤ q)) 11 D cA lo 0 0 M 42 [(0, .ref a0), (1, .long l1), (3, .int i3), (4, .ref a4), (5, .int i5)] []) (fun (a0 : Nat) (l1 : Int64) (i3 : Int32) (a4 : Nat) (i5 : Int32) (a6 : Nat) (a7 : Nat) (i8 : Int32) => QW p l e ({ frames := 0, cells := 0, slots := 0, locals := 0 } : Room) s m args below meth c (MQ below (QlM D cA lo (fun r M1 => M1 = M ∧ Q r)) args s 0 0 (fun q => lo ≤ q)) 11 D cA lo 0 0 M 93 [(0, .ref a0), (1, .long l1), (3, .int i3), (4, .ref a4), (5, .int i5), (6, .ref a6), (7, .ref a7), (8, .int i8)] []) (fun a0 l1 i3 h => b_X9_volumeNow_4 C hr hlk a0 l1 i3 h) (fun a0 l1 i3 a4 i5 h => b_X9_volumeNow_42 C hr hlk a0 l1 i3 a4 i5 h) (fun a0 l1 i3 a4 i5 a6 a7 i8 h => b_X9_volumeNow_93 C hr hlk a0 l1 i3 a4 i5 a6 a7 i8 h)
  refine q_lconst (v := 0) C dX9_volumeNow_0 (by decide) ?_
  refine q_lstore_n (lv' := [(1, .long 0), (0, .ref a0)]) C dX9_volumeNow_1 rfl (by decide) rfl ?_
  refine q_iconst (v := 0) C dX9_volumeNow_2 (by decide) ?_
  refine q_istore_n (lv' := [(3, .int 0), (1, .long 0), (0, .ref a0)]) C dX9_volumeNow_3 rfl (by decide) rfl ?_
  exact q_sub [2, 1, 0] rfl h
def T_X9_volume (M : Mm) (a0 : Nat) (Q : Int64 → Mm → Prop) : Prop := kM M a0 = (9, 13) ∧ kM (wI M a0 0 0) a0 = (9, 13) ∧ T_X9_volumeNow (wI M a0 0 0) a0 (fun r_1 => Q r_1 (wI M a0 0 0))
theorem inX9_volume_X9 : ∀ w ∈ wsX90, w ∈ wsX9_volume := by decide +kernel
set_option maxRecDepth 100000 in
set_option maxHeartbeats 4000000 in
theorem c_X9_volume (l : Launch) (D : va_G) (cA : Nat → ClassId) (lo : Nat) {M : Mm} {a0 : Nat} {Q : Int64 → Mm → Prop} (h : T_X9_volume M a0 Q) : Met l yX9_volume wsX9_volume ({ frames := 1, cells := 0, slots := 0, locals := 30 } : Room) (PcM D cA lo [.ref a0] M) (QlM D cA lo Q) 0 0 (fun q => lo ≤ q) := by
  refine q_start (cc := cX9_volume) (nL := 1) (ret := (some .long)) (by decide) rfl rfl (Nat.le_of_ble_eq_true rfl) ?_
  intro p e s m args below meth c C hr hlk hin
  unfold T_X9_volume at h
  refine q_aload_n C dX9_volume_0 rfl (j := 0) rfl ?_
  refine q_iconst (v := 0) C dX9_volume_1 (by decide) ?_
  refine q_putI (ci := 9) (k0 := 0) (T := TX9) (v := 0) (ty := .int) C inX9_volume_X9 tyX9 tyX9_ok nmX9 rfl (by decide) h.1 (by decide) rfl (by decide +kernel) rfl (by decide +kernel) rfl rfl rfl dX9_volume_2 ?_
  have h := h.2
  refine q_aload_n C dX9_volume_5 rfl (j := 0) rfl ?_
  refine q_cl (q_runV (As := []) (st := []) C (c_X9_volumeNow l D cA lo h.2) (cwV 0 C.2.2.2.2.1 gX9_volume_X9_volumeNow rfl rfl rfl (by decide +kernel) ⟨Nat.le_of_ble_eq_true rfl, Nat.le_of_ble_eq_true rfl⟩) h.1 (by decide) rfl rfl rfl (Nat.le_of_ble_eq_true rfl) dX9_volume_6 ⟨Nat.le_of_ble_eq_true rfl, Nat.le_of_ble_eq_true rfl⟩) (fun r_1 M_z h => ?_)
  refine q_mem h.1 ?_
  have h := h.2
  exact q_lret C hr hlk dX9_volume_9 (Nat.le_of_ble_eq_true rfl) (Nat.le_of_ble_eq_true rfl) h
def S_X9_meanEdge_12 (K12 : Nat → Int64 → Int32 → Int32 → Mm → Prop) (K24 : Nat → Int64 → Int32 → Int32 → Int32 → Mm → Prop) (Q : UInt64 → Mm → Prop) (M : Mm) (a0 : Nat) (l1 : Int64) (i3 : Int32) (i4 : Int32) : Prop := kM M a0 = (9, 13) ∧ ((iM M a0 3) ≤ i4 → (¬ i3 = 0 → vf_n64 (FP.ddiv (FP.l2d l1) (FP.i2d i3)) ∧ Q (FP.ddiv (FP.l2d l1) (FP.i2d i3)) M) ∧ (i3 = 0 → Q FP.dconst0 M)) ∧ (¬ (iM M a0 3) ≤ i4 → K24 a0 l1 i3 i4 0 M)
def S_X9_meanEdge_24 (K12 : Nat → Int64 → Int32 → Int32 → Mm → Prop) (K24 : Nat → Int64 → Int32 → Int32 → Int32 → Mm → Prop) (Q : UInt64 → Mm → Prop) (M : Mm) (a0 : Nat) (l1 : Int64) (i3 : Int32) (i4 : Int32) (i5 : Int32) : Prop := (i4 ≤ i5 → K12 a0 l1 i3 (i4 + 1) M) ∧ (¬ i4 ≤ i5 → False)
def T_X9_meanEdge (M : Mm) (a0 : Nat) (Q : UInt64 → Mm → Prop) : Prop := ∀ (K12 : Nat → Int64 → Int32 → Int32 → Mm → Prop) (K24 : Nat → Int64 → Int32 → Int32 → Int32 → Mm → Prop), (∀ (a0 : Nat) (l1 : Int64) (i3 : Int32) (i4 : Int32) (M : Mm), S_X9_meanEdge_12 K12 K24 Q M a0 l1 i3 i4 → K12 a0 l1 i3 i4 M) → (∀ (a0 : Nat) (l1 : Int64) (i3 : Int32) (i4 : Int32) (i5 : Int32) (M : Mm), S_X9_meanEdge_24 K12 K24 Q M a0 l1 i3 i4 i5 → K24 a0 l1 i3 i4 i5 M) → kM M a0 = (9, 13) ∧ K12 a0 0 0 0 (wI M a0 0 0)
theorem inX9_meanEdge_X9 : ∀ w ∈ wsX90, w ∈ wsX9_meanEdge := by decide +kernel
set_option maxRecDepth 100000 in
set_option maxHeartbeats 4000000 in
theorem b_X9_meanEdge_12 {p : Program} {l : Launch} {e : Env} {s : State} {m : MethodId} {args : Array Value} {below : List Frame} {meth : Method} {c : Code} {D : va_G} {cA : Nat → ClassId} {lo : Nat} (C : Cx p s m args c cX9_meanEdge 7 RX9 wsX9_meanEdge D cA lo) (hr : meth.sig.returnType = (some .double)) (hlk : meth.locks = false) {Q : UInt64 → Mm → Prop} (M : Mm) (a0 : Nat) (l1 : Int64) (i3 : Int32) (i4 : Int32) (h : S_X9_meanEdge_12 (fun (a0 : Nat) (l1 : Int64) (i3 : Int32) (i4 : Int32) (M : Mm) => QW p l e ({ frames := 0, cells := 0, slots := 0, locals := 0 } : Room) s m args below meth c (MQ below (QdM D cA lo Q) args s 0 0 (fun q => lo ≤ q)) 7 D cA lo 0 0 M 12 [(0, .ref a0), (1, .long l1), (3, .int i3), (4, .int i4)] []) (fun (a0 : Nat) (l1 : Int64) (i3 : Int32) (i4 : Int32) (i5 : Int32) (M : Mm) => QW p l e ({ frames := 0, cells := 0, slots := 0, locals := 0 } : Room) s m args below meth c (MQ below (QdM D cA lo Q) args s 0 0 (fun q => lo ≤ q)) 7 D cA lo 0 0 M 24 [(0, .ref a0), (1, .long l1), (3, .int i3), (4, .int i4), (5, .int i5)] []) Q M a0 l1 i3 i4) : QW p l e ({ frames := 0, cells := 0, slots := 0, locals := 0 } : Room) s m args below meth c (MQ below (QdM D cA lo Q) args s 0 0 (fun q => lo ≤ q)) 7 D cA lo 0 0 M 12 [(0, .ref a0), (1, .long l1), (3, .int i3), (4, .int i4)] [] := by
  unfold S_X9_meanEdge_12 at h
  refine q_iload C dX9_meanEdge_12 (j := 3) rfl ?_
  refine q_aload_n C dX9_meanEdge_14 rfl (j := 0) rfl ?_
  refine q_getI (ci := 9) (k0 := 3) (T := TX9) C inX9_meanEdge_X9 rfl (by decide) h.1 (by decide) rfl (by decide +kernel) rfl dX9_meanEdge_15 ?_
  have h := h.2
  refine q_icmp_ge (tgt := 123) C dX9_meanEdge_18 (by decide) (fun z => ?_) (fun z => ?_)
  · have h := h.1 z
    refine q_iload_n C dX9_meanEdge_123 rfl (j := 2) rfl ?_
    refine q_if_ne (tgt := 131) C dX9_meanEdge_124 (by decide) (fun z => ?_) (fun z => ?_)
    · have h := h.1 z
      refine q_lload_n C dX9_meanEdge_131 rfl (j := 1) rfl ?_
      refine q_l2d C dX9_meanEdge_132 ?_
      refine q_iload_n C dX9_meanEdge_133 rfl (j := 2) rfl ?_
      refine q_i2d C dX9_meanEdge_134 ?_
      refine q_ddiv C dX9_meanEdge_135 h.1 ?_
      have h := h.2
      exact q_dret C hr hlk dX9_meanEdge_136 (Nat.le_of_ble_eq_true rfl) (Nat.le_of_ble_eq_true rfl) h
    · have h := h.2 z
      refine q_dconst0 C dX9_meanEdge_127 ?_
      refine q_goto (tgt := 136) C dX9_meanEdge_128 (by decide) ?_
      exact q_dret C hr hlk dX9_meanEdge_136 (Nat.le_of_ble_eq_true rfl) (Nat.le_of_ble_eq_true rfl) h
  · have h := h.2 z
    refine q_iconst (v := 0) C dX9_meanEdge_21 (by decide) ?_
    refine q_istore (lv' := [(5, .int 0), (0, .ref a0), (1, .long l1), (3, .int i3), (4, .int i4)]) C dX9_meanEdge_22 (by decide) rfl ?_
    exact q_sub [1, 2, 3, 4, 0] rfl h
set_option maxRecDepth 100000 in
set_option maxHeartbeats 4000000 in
theorem b_X9_meanEdge_24 {p : Program} {l : Launch} {e : Env} {s : State} {m : MethodId} {args : Array Value} {below : List Frame} {meth : Method} {c : Code} {D : va_G} {cA : Nat → ClassId} {lo : Nat} (C : Cx p s m args c cX9_meanEdge 7 RX9 wsX9_meanEdge D cA lo) (hr : meth.sig.returnType = (some .double)) (hlk : meth.locks = false) {Q : UInt64 → Mm → Prop} (M : Mm) (a0 : Nat) (l1 : Int64) (i3 : Int32) (i4 : Int32) (i5 : Int32) (h : S_X9_meanEdge_24 (fun (a0 : Nat) (l1 : Int64) (i3 : Int32) (i4 : Int32) (M : Mm) => QW p l e ({ frames := 0, cells := 0, slots := 0, locals := 0 } : Room) s m args below meth c (MQ below (QdM D cA lo Q) args s 0 0 (fun q => lo ≤ q)) 7 D cA lo 0 0 M 12 [(0, .ref a0), (1, .long l1), (3, .int i3), (4, .int i4)] []) (fun (a0 : Nat) (l1 : Int64) (i3 : Int32) (i4 : Int32) (i5 : Int32) (M : Mm) => QW p l e ({ frames := 0, cells := 0, slots := 0, locals := 0 } : Room) s m args below meth c (MQ below (QdM D cA lo Q) args s 0 0 (fun q => lo ≤ q)) 7 D cA lo 0 0 M 24 [(0, .ref a0), (1, .long l1), (3, .int i3), (4, .int i4), (5, .int i5)] []) Q M a0 l1 i3 i4 i5) : QW p l e ({ frames := 0, cells := 0, slots := 0, locals := 0 } : Room) s m args below meth c (MQ below (QdM D cA lo Q) args s 0 0 (fun q => lo ≤ q)) 7 D cA lo 0 0 M 24 [(0, .ref a0), (1, .long l1), (3, .int i3), (4, .int i4), (5, .int i5)] [] := by
  unfold S_X9_meanEdge_24 at h
  refine q_iload C dX9_meanEdge_24 (j := 4) rfl ?_
  refine q_iload C dX9_meanEdge_26 (j := 3) rfl ?_
  refine q_icmp_ge (tgt := 117) C dX9_meanEdge_28 (by decide) (fun z => ?_) (fun z => ?_)
  · have h := h.1 z
    refine q_iinc (v := (i4 + 1)) (lv' := [(4, .int (i4 + 1)), (0, .ref a0), (1, .long l1), (3, .int i3), (5, .int i5)]) C dX9_meanEdge_117 (j := 3) rfl rfl (by decide) rfl ?_
    refine q_goto (tgt := 12) C dX9_meanEdge_120 (by decide) ?_
    exact q_sub [1, 2, 3, 0] rfl h
  · have h := h.2 z
    refine q_aload_n C dX9_meanEdge_31 rfl (j := 0) rfl ?_
    refine q_iload C dX9_meanEdge_32 (j := 3) rfl ?_
    refine q_iload C dX9_meanEdge_34 (j := 4) rfl ?_
    exact h.elim
set_option maxRecDepth 100000 in
set_option maxHeartbeats 4000000 in
theorem c_X9_meanEdge (l : Launch) (D : va_G) (cA : Nat → ClassId) (lo : Nat) {M : Mm} {a0 : Nat} {Q : UInt64 → Mm → Prop} (h : T_X9_meanEdge M a0 Q) : Met l yX9_meanEdge wsX9_meanEdge ({ frames := 0, cells := 0, slots := 0, locals := 0 } : Room) (PcM D cA lo [.ref a0] M) (QdM D cA lo Q) 0 0 (fun q => lo ≤ q) := by
  refine q_start (cc := cX9_meanEdge) (nL := 7) (ret := (some .double)) (by decide) rfl rfl (Nat.le_of_ble_eq_true rfl) ?_
  intro p e s m args below meth c C hr hlk hin
  unfold T_X9_meanEdge at h
  have h := h (fun (a0 : Nat) (l1 : Int64) (i3 : Int32) (i4 : Int32) (M : Mm) => QW p l e ({ frames := 0, cells := 0, slots := 0, locals := 0 } : Room) s m args below meth c (MQ below (QdM D cA lo Q) args s 0 0 (fun q => lo ≤ q)) 7 D cA lo 0 0 M 12 [(0, .ref a0), (1, .long l1), (3, .int i3), (4, .int i4)] []) (fun (a0 : Nat) (l1 : Int64) (i3 : Int32) (i4 : Int32) (i5 : Int32) (M : Mm) => QW p l e ({ frames := 0, cells := 0, slots := 0, locals := 0 } : Room) s m args below meth c (MQ below (QdM D cA lo Q) args s 0 0 (fun q => lo ≤ q)) 7 D cA lo 0 0 M 24 [(0, .ref a0), (1, .long l1), (3, .int i3), (4, .int i4), (5, .int i5)] []) (fun a0 l1 i3 i4 M h => b_X9_meanEdge_12 C hr hlk M a0 l1 i3 i4 h) (fun a0 l1 i3 i4 i5 M h => b_X9_meanEdge_24 C hr hlk M a0 l1 i3 i4 i5 h)
  refine q_aload_n C dX9_meanEdge_0 rfl (j := 0) rfl ?_
  refine q_iconst (v := 0) C dX9_meanEdge_1 (by decide) ?_
  refine q_putI (ci := 9) (k0 := 0) (T := TX9) (v := 0) (ty := .int) C inX9_meanEdge_X9 tyX9 tyX9_ok nmX9 rfl (by decide) h.1 (by decide) rfl (by decide +kernel) rfl (by decide +kernel) rfl rfl rfl dX9_meanEdge_2 ?_
  have h := h.2
  refine q_lconst (v := 0) C dX9_meanEdge_5 (by decide) ?_
  refine q_lstore_n (lv' := [(1, .long 0), (0, .ref a0)]) C dX9_meanEdge_6 rfl (by decide) rfl ?_
  refine q_iconst (v := 0) C dX9_meanEdge_7 (by decide) ?_
  refine q_istore_n (lv' := [(3, .int 0), (1, .long 0), (0, .ref a0)]) C dX9_meanEdge_8 rfl (by decide) rfl ?_
  refine q_iconst (v := 0) C dX9_meanEdge_9 (by decide) ?_
  refine q_istore (lv' := [(4, .int 0), (3, .int 0), (1, .long 0), (0, .ref a0)]) C dX9_meanEdge_10 (by decide) rfl ?_
  exact q_sub [3, 2, 1, 0] rfl h
def S_X9_steps_21 (K21 : Nat → Mm → Nat → Nat → Prop) (K46 : Nat → Int32 → Nat → Int32 → Mm → Nat → Nat → Prop) (K58 : Nat → Int32 → Nat → Int32 → Int32 → Mm → Nat → Nat → Prop) (K70 : Nat → Int32 → Nat → Int32 → Int32 → Int32 → Mm → Nat → Nat → Prop) (Cc Zz : Nat) (Q : Int32 → Mm → Prop) (M : Mm) (a0 : Nat) (cc zz : Nat) : Prop := (cc ≤ Cc ∧ zz ≤ Zz) ∧ kM M a0 = (9, 13) ∧ T_X9_refuse M a0 1 (fun r_7 M_8 => cc ≤ Cc ∧ zz ≤ Zz ∧ Q r_7 M_8)
def S_X9_steps_46 (K21 : Nat → Mm → Nat → Nat → Prop) (K46 : Nat → Int32 → Nat → Int32 → Mm → Nat → Nat → Prop) (K58 : Nat → Int32 → Nat → Int32 → Int32 → Mm → Nat → Nat → Prop) (K70 : Nat → Int32 → Nat → Int32 → Int32 → Int32 → Mm → Nat → Nat → Prop) (Cc Zz : Nat) (Q : Int32 → Mm → Prop) (M : Mm) (a0 : Nat) (i2 : Int32) (a3 : Nat) (i4 : Int32) (cc zz : Nat) : Prop := kM M a0 = (9, 13) ∧ ((iM M a0 3) ≤ i4 → ∃ n_9 : Nat, kM M a3 = (100, n_9) ∧ vp_in i2 n_9 ∧ cc ≤ Cc ∧ zz ≤ Zz ∧ Q (iM M a3 i2.toNatClampNeg) M) ∧ (¬ (iM M a0 3) ≤ i4 → K58 a0 i2 a3 i4 0 M cc zz)
def S_X9_steps_58 (K21 : Nat → Mm → Nat → Nat → Prop) (K46 : Nat → Int32 → Nat → Int32 → Mm → Nat → Nat → Prop) (K58 : Nat → Int32 → Nat → Int32 → Int32 → Mm → Nat → Nat → Prop) (K70 : Nat → Int32 → Nat → Int32 → Int32 → Int32 → Mm → Nat → Nat → Prop) (Cc Zz : Nat) (Q : Int32 → Mm → Prop) (M : Mm) (a0 : Nat) (i2 : Int32) (a3 : Nat) (i4 : Int32) (i5 : Int32) (cc zz : Nat) : Prop := kM M a0 = (9, 13) ∧ ((iM M a0 3) ≤ i5 → K46 a0 i2 a3 (i4 + 1) M cc zz) ∧ (¬ (iM M a0 3) ≤ i5 → K70 a0 i2 a3 i4 i5 0 M cc zz)
def S_X9_steps_70 (K21 : Nat → Mm → Nat → Nat → Prop) (K46 : Nat → Int32 → Nat → Int32 → Mm → Nat → Nat → Prop) (K58 : Nat → Int32 → Nat → Int32 → Int32 → Mm → Nat → Nat → Prop) (K70 : Nat → Int32 → Nat → Int32 → Int32 → Int32 → Mm → Nat → Nat → Prop) (Cc Zz : Nat) (Q : Int32 → Mm → Prop) (M : Mm) (a0 : Nat) (i2 : Int32) (a3 : Nat) (i4 : Int32) (i5 : Int32) (i6 : Int32) (cc zz : Nat) : Prop := kM M a0 = (9, 13) ∧ ((iM M a0 3) ≤ i6 → K58 a0 i2 a3 i4 (i5 + 1) M cc zz) ∧ (¬ (iM M a0 3) ≤ i6 → ∃ n_10 : Nat, kM M a3 = (100, n_10) ∧ vp_in i5 n_10 ∧ (¬ (iM M a3 i5.toNatClampNeg) = i4 → K58 a0 i2 a3 i4 (i5 + 1) M cc zz) ∧ ((iM M a3 i5.toNatClampNeg) = i4 → ∃ n_11 : Nat, kM M a3 = (100, n_11) ∧ vp_in i6 n_11 ∧ (¬ (iM M a3 i6.toNatClampNeg) = (-1) → K70 a0 i2 a3 i4 i5 (i6 + 1) M cc zz) ∧ ((iM M a3 i6.toNatClampNeg) = (-1) → False)))
def T_X9_steps (Cc Zz : Nat) (M : Mm) (a0 : Nat) (i1 : Int32) (i2 : Int32) (Q : Int32 → Mm → Prop) : Prop := ∀ (K21 : Nat → Mm → Nat → Nat → Prop) (K46 : Nat → Int32 → Nat → Int32 → Mm → Nat → Nat → Prop) (K58 : Nat → Int32 → Nat → Int32 → Int32 → Mm → Nat → Nat → Prop) (K70 : Nat → Int32 → Nat → Int32 → Int32 → Int32 → Mm → Nat → Nat → Prop), (∀ (a0 : Nat) (M : Mm) (cc zz : Nat), S_X9_steps_21 K21 K46 K58 K70 Cc Zz Q M a0 cc zz → K21 a0 M cc zz) → (∀ (a0 : Nat) (i2 : Int32) (a3 : Nat) (i4 : Int32) (M : Mm) (cc zz : Nat), S_X9_steps_46 K21 K46 K58 K70 Cc Zz Q M a0 i2 a3 i4 cc zz → K46 a0 i2 a3 i4 M cc zz) → (∀ (a0 : Nat) (i2 : Int32) (a3 : Nat) (i4 : Int32) (i5 : Int32) (M : Mm) (cc zz : Nat), S_X9_steps_58 K21 K46 K58 K70 Cc Zz Q M a0 i2 a3 i4 i5 cc zz → K58 a0 i2 a3 i4 i5 M cc zz) → (∀ (a0 : Nat) (i2 : Int32) (a3 : Nat) (i4 : Int32) (i5 : Int32) (i6 : Int32) (M : Mm) (cc zz : Nat), S_X9_steps_70 K21 K46 K58 K70 Cc Zz Q M a0 i2 a3 i4 i5 i6 cc zz → K70 a0 i2 a3 i4 i5 i6 M cc zz) → kM M a0 = (9, 13) ∧ (0 ≤ Cc ∧ 0 ≤ Zz) ∧ kM (wI M a0 0 0) a0 = (9, 13) ∧ T_X9_isPoint (wI M a0 0 0) a0 i1 (fun r_1 => (r_1 = 0 → K21 a0 (wI M a0 0 0) 0 0) ∧ (¬ r_1 = 0 → (0 ≤ Cc ∧ 0 ≤ Zz) ∧ kM (wI M a0 0 0) a0 = (9, 13) ∧ T_X9_isPoint (wI M a0 0 0) a0 i2 (fun r_2 => (¬ r_2 = 0 → kM (wI M a0 0 0) a0 = (9, 13) ∧ (¬ (iM (wI M a0 0 0) a0 3) < 0) ∧ (iM (wI M a0 0 0) a0 3).toNatClampNeg ≤ 1000 ∧ 0 + 1 ≤ Cc ∧ 0 + (iM (wI M a0 0 0) a0 3).toNatClampNeg ≤ Zz ∧ ∀ q_3 : Nat, frs (wI M a0 0 0) q_3 → ((0 + 1) ≤ Cc ∧ (0 + (iM (wI M a0 0 0) a0 3).toNatClampNeg) ≤ Zz) ∧ T_J7_fill_53178 (wN (wI M a0 0 0) q_3 100 (iM (wI M a0 0 0) a0 3).toNatClampNeg) q_3 (-1) (fun M_5 => ∃ n_6 : Nat, kM M_5 q_3 = (100, n_6) ∧ vp_in i1 n_6 ∧ K46 a0 i2 q_3 0 (wI M_5 q_3 i1.toNatClampNeg 0) (0 + 1) (0 + (iM (wI M a0 0 0) a0 3).toNatClampNeg))) ∧ (r_2 = 0 → K21 a0 (wI M a0 0 0) 0 0))))
theorem inX9_steps_X9 : ∀ w ∈ wsX90, w ∈ wsX9_steps := by decide +kernel
set_option maxRecDepth 100000 in
set_option maxHeartbeats 4000000 in
theorem b_X9_steps_21 {p : Program} {l : Launch} {e : Env} {s : State} {m : MethodId} {args : Array Value} {below : List Frame} {meth : Method} {c : Code} {D : va_G} {cA : Nat → ClassId} {lo : Nat} (C : Cx p s m args c cX9_steps 7 RX9 wsX9_steps D cA lo) (hr : meth.sig.returnType = (some .int)) (hlk : meth.locks = false) {Q : Int32 → Mm → Prop} {Cc Zz : Nat} (M : Mm) (a0 : Nat) (cc zz : Nat) (h : S_X9_steps_21 (fun (a0 : Nat) (M : Mm) (cc zz : Nat) => QW p l e ({ frames := 2, cells := Cc, slots := Zz, locals := 43 } : Room) s m args below meth c (MQ below (QiM D cA lo Q) args s Cc Zz (fun q => lo ≤ q)) 7 D cA lo cc zz M 21 [(0, .ref a0)] []) (fun (a0 : Nat) (i2 : Int32) (a3 : Nat) (i4 : Int32) (M : Mm) (cc zz : Nat) => QW p l e ({ frames := 2, cells := Cc, slots := Zz, locals := 43 } : Room) s m args below meth c (MQ below (QiM D cA lo Q) args s Cc Zz (fun q => lo ≤ q)) 7 D cA lo cc zz M 46 [(0, .ref a0), (2, .int i2), (3, .ref a3), (4, .int i4)] []) (fun (a0 : Nat) (i2 : Int32) (a3 : Nat) (i4 : Int32) (i5 : Int32) (M : Mm) (cc zz : Nat) => QW p l e ({ frames := 2, cells := Cc, slots := Zz, locals := 43 } : Room) s m args below meth c (MQ below (QiM D cA lo Q) args s Cc Zz (fun q => lo ≤ q)) 7 D cA lo cc zz M 58 [(0, .ref a0), (2, .int i2), (3, .ref a3), (4, .int i4), (5, .int i5)] []) (fun (a0 : Nat) (i2 : Int32) (a3 : Nat) (i4 : Int32) (i5 : Int32) (i6 : Int32) (M : Mm) (cc zz : Nat) => QW p l e ({ frames := 2, cells := Cc, slots := Zz, locals := 43 } : Room) s m args below meth c (MQ below (QiM D cA lo Q) args s Cc Zz (fun q => lo ≤ q)) 7 D cA lo cc zz M 70 [(0, .ref a0), (2, .int i2), (3, .ref a3), (4, .int i4), (5, .int i5), (6, .int i6)] []) Cc Zz Q M a0 cc zz) : QW p l e ({ frames := 2, cells := Cc, slots := Zz, locals := 43 } : Room) s m args below meth c (MQ below (QiM D cA lo Q) args s Cc Zz (fun q => lo ≤ q)) 7 D cA lo cc zz M 21 [(0, .ref a0)] [] := by
  unfold S_X9_steps_21 at h
  refine q_aload_n C dX9_steps_21 rfl (j := 0) rfl ?_
  refine q_iconst (v := 1) C dX9_steps_22 (by decide) ?_
  have hcz := h.1
  have h := h.2
  refine q_ci (q_runV (As := [.int 1]) (st := []) C (c_X9_refuse l D cA lo h.2) (cwV 1 C.2.2.2.2.1 gX9_steps_X9_refuse rfl rfl rfl (by decide +kernel) ⟨Nat.le_of_ble_eq_true rfl, Nat.le_of_ble_eq_true rfl⟩) h.1 (by decide) rfl rfl rfl (Nat.le_of_ble_eq_true rfl) dX9_steps_23 ⟨Nat.le_trans (Nat.le_of_eq (Nat.add_zero _)) hcz.1, Nat.le_trans (Nat.le_of_eq (Nat.add_zero _)) hcz.2⟩) (fun r_7 M_8 h => ?_)
  exact q_iret C hr hlk dX9_steps_26 h.1 h.2.1 h.2.2
set_option maxRecDepth 100000 in
set_option maxHeartbeats 4000000 in
theorem b_X9_steps_46 {p : Program} {l : Launch} {e : Env} {s : State} {m : MethodId} {args : Array Value} {below : List Frame} {meth : Method} {c : Code} {D : va_G} {cA : Nat → ClassId} {lo : Nat} (C : Cx p s m args c cX9_steps 7 RX9 wsX9_steps D cA lo) (hr : meth.sig.returnType = (some .int)) (hlk : meth.locks = false) {Q : Int32 → Mm → Prop} {Cc Zz : Nat} (M : Mm) (a0 : Nat) (i2 : Int32) (a3 : Nat) (i4 : Int32) (cc zz : Nat) (h : S_X9_steps_46 (fun (a0 : Nat) (M : Mm) (cc zz : Nat) => QW p l e ({ frames := 2, cells := Cc, slots := Zz, locals := 43 } : Room) s m args below meth c (MQ below (QiM D cA lo Q) args s Cc Zz (fun q => lo ≤ q)) 7 D cA lo cc zz M 21 [(0, .ref a0)] []) (fun (a0 : Nat) (i2 : Int32) (a3 : Nat) (i4 : Int32) (M : Mm) (cc zz : Nat) => QW p l e ({ frames := 2, cells := Cc, slots := Zz, locals := 43 } : Room) s m args below meth c (MQ below (QiM D cA lo Q) args s Cc Zz (fun q => lo ≤ q)) 7 D cA lo cc zz M 46 [(0, .ref a0), (2, .int i2), (3, .ref a3), (4, .int i4)] []) (fun (a0 : Nat) (i2 : Int32) (a3 : Nat) (i4 : Int32) (i5 : Int32) (M : Mm) (cc zz : Nat) => QW p l e ({ frames := 2, cells := Cc, slots := Zz, locals := 43 } : Room) s m args below meth c (MQ below (QiM D cA lo Q) args s Cc Zz (fun q => lo ≤ q)) 7 D cA lo cc zz M 58 [(0, .ref a0), (2, .int i2), (3, .ref a3), (4, .int i4), (5, .int i5)] []) (fun (a0 : Nat) (i2 : Int32) (a3 : Nat) (i4 : Int32) (i5 : Int32) (i6 : Int32) (M : Mm) (cc zz : Nat) => QW p l e ({ frames := 2, cells := Cc, slots := Zz, locals := 43 } : Room) s m args below meth c (MQ below (QiM D cA lo Q) args s Cc Zz (fun q => lo ≤ q)) 7 D cA lo cc zz M 70 [(0, .ref a0), (2, .int i2), (3, .ref a3), (4, .int i4), (5, .int i5), (6, .int i6)] []) Cc Zz Q M a0 i2 a3 i4 cc zz) : QW p l e ({ frames := 2, cells := Cc, slots := Zz, locals := 43 } : Room) s m args below meth c (MQ below (QiM D cA lo Q) args s Cc Zz (fun q => lo ≤ q)) 7 D cA lo cc zz M 46 [(0, .ref a0), (2, .int i2), (3, .ref a3), (4, .int i4)] [] := by
  unfold S_X9_steps_46 at h
  refine q_iload C dX9_steps_46 (j := 3) rfl ?_
  refine q_aload_n C dX9_steps_48 rfl (j := 0) rfl ?_
  refine q_getI (ci := 9) (k0 := 3) (T := TX9) C inX9_steps_X9 rfl (by decide) h.1 (by decide) rfl (by decide +kernel) rfl dX9_steps_49 ?_
  have h := h.2
  refine q_icmp_ge (tgt := 133) C dX9_steps_52 (by decide) (fun z => ?_) (fun z => ?_)
  · have h := h.1 z
    refine q_aload_n C dX9_steps_133 rfl (j := 2) rfl ?_
    refine q_iload_n C dX9_steps_134 rfl (j := 1) rfl ?_
    obtain ⟨n_9, z1, z2, h⟩ := h
    refine q_iald C z1 z2 dX9_steps_135 ?_
    exact q_iret C hr hlk dX9_steps_136 h.1 h.2.1 h.2.2
  · have h := h.2 z
    refine q_iconst (v := 0) C dX9_steps_55 (by decide) ?_
    refine q_istore (lv' := [(5, .int 0), (0, .ref a0), (2, .int i2), (3, .ref a3), (4, .int i4)]) C dX9_steps_56 (by decide) rfl ?_
    exact q_sub [1, 2, 3, 4, 0] rfl h
set_option maxRecDepth 100000 in
set_option maxHeartbeats 4000000 in
theorem b_X9_steps_58 {p : Program} {l : Launch} {e : Env} {s : State} {m : MethodId} {args : Array Value} {below : List Frame} {meth : Method} {c : Code} {D : va_G} {cA : Nat → ClassId} {lo : Nat} (C : Cx p s m args c cX9_steps 7 RX9 wsX9_steps D cA lo) (hr : meth.sig.returnType = (some .int)) (hlk : meth.locks = false) {Q : Int32 → Mm → Prop} {Cc Zz : Nat} (M : Mm) (a0 : Nat) (i2 : Int32) (a3 : Nat) (i4 : Int32) (i5 : Int32) (cc zz : Nat) (h : S_X9_steps_58 (fun (a0 : Nat) (M : Mm) (cc zz : Nat) => QW p l e ({ frames := 2, cells := Cc, slots := Zz, locals := 43 } : Room) s m args below meth c (MQ below (QiM D cA lo Q) args s Cc Zz (fun q => lo ≤ q)) 7 D cA lo cc zz M 21 [(0, .ref a0)] []) (fun (a0 : Nat) (i2 : Int32) (a3 : Nat) (i4 : Int32) (M : Mm) (cc zz : Nat) => QW p l e ({ frames := 2, cells := Cc, slots := Zz, locals := 43 } : Room) s m args below meth c (MQ below (QiM D cA lo Q) args s Cc Zz (fun q => lo ≤ q)) 7 D cA lo cc zz M 46 [(0, .ref a0), (2, .int i2), (3, .ref a3), (4, .int i4)] []) (fun (a0 : Nat) (i2 : Int32) (a3 : Nat) (i4 : Int32) (i5 : Int32) (M : Mm) (cc zz : Nat) => QW p l e ({ frames := 2, cells := Cc, slots := Zz, locals := 43 } : Room) s m args below meth c (MQ below (QiM D cA lo Q) args s Cc Zz (fun q => lo ≤ q)) 7 D cA lo cc zz M 58 [(0, .ref a0), (2, .int i2), (3, .ref a3), (4, .int i4), (5, .int i5)] []) (fun (a0 : Nat) (i2 : Int32) (a3 : Nat) (i4 : Int32) (i5 : Int32) (i6 : Int32) (M : Mm) (cc zz : Nat) => QW p l e ({ frames := 2, cells := Cc, slots := Zz, locals := 43 } : Room) s m args below meth c (MQ below (QiM D cA lo Q) args s Cc Zz (fun q => lo ≤ q)) 7 D cA lo cc zz M 70 [(0, .ref a0), (2, .int i2), (3, .ref a3), (4, .int i4), (5, .int i5), (6, .int i6)] []) Cc Zz Q M a0 i2 a3 i4 i5 cc zz) : QW p l e ({ frames := 2, cells := Cc, slots := Zz, locals := 43 } : Room) s m args below meth c (MQ below (QiM D cA lo Q) args s Cc Zz (fun q => lo ≤ q)) 7 D cA lo cc zz M 58 [(0, .ref a0), (2, .int i2), (3, .ref a3), (4, .int i4), (5, .int i5)] [] := by
  unfold S_X9_steps_58 at h
  refine q_iload C dX9_steps_58 (j := 4) rfl ?_
  refine q_aload_n C dX9_steps_60 rfl (j := 0) rfl ?_
  refine q_getI (ci := 9) (k0 := 3) (T := TX9) C inX9_steps_X9 rfl (by decide) h.1 (by decide) rfl (by decide +kernel) rfl dX9_steps_61 ?_
  have h := h.2
  refine q_icmp_ge (tgt := 127) C dX9_steps_64 (by decide) (fun z => ?_) (fun z => ?_)
  · have h := h.1 z
    refine q_iinc (v := (i4 + 1)) (lv' := [(4, .int (i4 + 1)), (0, .ref a0), (2, .int i2), (3, .ref a3), (5, .int i5)]) C dX9_steps_127 (j := 3) rfl rfl (by decide) rfl ?_
    refine q_goto (tgt := 46) C dX9_steps_130 (by decide) ?_
    exact q_sub [1, 2, 3, 0] rfl h
  · have h := h.2 z
    refine q_iconst (v := 0) C dX9_steps_67 (by decide) ?_
    refine q_istore (lv' := [(6, .int 0), (0, .ref a0), (2, .int i2), (3, .ref a3), (4, .int i4), (5, .int i5)]) C dX9_steps_68 (by decide) rfl ?_
    exact q_sub [1, 2, 3, 4, 5, 0] rfl h
set_option maxRecDepth 100000 in
set_option maxHeartbeats 4000000 in
theorem b_X9_steps_70 {p : Program} {l : Launch} {e : Env} {s : State} {m : MethodId} {args : Array Value} {below : List Frame} {meth : Method} {c : Code} {D : va_G} {cA : Nat → ClassId} {lo : Nat} (C : Cx p s m args c cX9_steps 7 RX9 wsX9_steps D cA lo) (hr : meth.sig.returnType = (some .int)) (hlk : meth.locks = false) {Q : Int32 → Mm → Prop} {Cc Zz : Nat} (M : Mm) (a0 : Nat) (i2 : Int32) (a3 : Nat) (i4 : Int32) (i5 : Int32) (i6 : Int32) (cc zz : Nat) (h : S_X9_steps_70 (fun (a0 : Nat) (M : Mm) (cc zz : Nat) => QW p l e ({ frames := 2, cells := Cc, slots := Zz, locals := 43 } : Room) s m args below meth c (MQ below (QiM D cA lo Q) args s Cc Zz (fun q => lo ≤ q)) 7 D cA lo cc zz M 21 [(0, .ref a0)] []) (fun (a0 : Nat) (i2 : Int32) (a3 : Nat) (i4 : Int32) (M : Mm) (cc zz : Nat) => QW p l e ({ frames := 2, cells := Cc, slots := Zz, locals := 43 } : Room) s m args below meth c (MQ below (QiM D cA lo Q) args s Cc Zz (fun q => lo ≤ q)) 7 D cA lo cc zz M 46 [(0, .ref a0), (2, .int i2), (3, .ref a3), (4, .int i4)] []) (fun (a0 : Nat) (i2 : Int32) (a3 : Nat) (i4 : Int32) (i5 : Int32) (M : Mm) (cc zz : Nat) => QW p l e ({ frames := 2, cells := Cc, slots := Zz, locals := 43 } : Room) s m args below meth c (MQ below (QiM D cA lo Q) args s Cc Zz (fun q => lo ≤ q)) 7 D cA lo cc zz M 58 [(0, .ref a0), (2, .int i2), (3, .ref a3), (4, .int i4), (5, .int i5)] []) (fun (a0 : Nat) (i2 : Int32) (a3 : Nat) (i4 : Int32) (i5 : Int32) (i6 : Int32) (M : Mm) (cc zz : Nat) => QW p l e ({ frames := 2, cells := Cc, slots := Zz, locals := 43 } : Room) s m args below meth c (MQ below (QiM D cA lo Q) args s Cc Zz (fun q => lo ≤ q)) 7 D cA lo cc zz M 70 [(0, .ref a0), (2, .int i2), (3, .ref a3), (4, .int i4), (5, .int i5), (6, .int i6)] []) Cc Zz Q M a0 i2 a3 i4 i5 i6 cc zz) : QW p l e ({ frames := 2, cells := Cc, slots := Zz, locals := 43 } : Room) s m args below meth c (MQ below (QiM D cA lo Q) args s Cc Zz (fun q => lo ≤ q)) 7 D cA lo cc zz M 70 [(0, .ref a0), (2, .int i2), (3, .ref a3), (4, .int i4), (5, .int i5), (6, .int i6)] [] := by
  unfold S_X9_steps_70 at h
  refine q_iload C dX9_steps_70 (j := 5) rfl ?_
  refine q_aload_n C dX9_steps_72 rfl (j := 0) rfl ?_
  refine q_getI (ci := 9) (k0 := 3) (T := TX9) C inX9_steps_X9 rfl (by decide) h.1 (by decide) rfl (by decide +kernel) rfl dX9_steps_73 ?_
  have h := h.2
  refine q_icmp_ge (tgt := 121) C dX9_steps_76 (by decide) (fun z => ?_) (fun z => ?_)
  · have h := h.1 z
    refine q_iinc (v := (i5 + 1)) (lv' := [(5, .int (i5 + 1)), (0, .ref a0), (2, .int i2), (3, .ref a3), (4, .int i4), (6, .int i6)]) C dX9_steps_121 (j := 4) rfl rfl (by decide) rfl ?_
    refine q_goto (tgt := 58) C dX9_steps_124 (by decide) ?_
    exact q_sub [1, 2, 3, 4, 0] rfl h
  · have h := h.2 z
    refine q_aload_n C dX9_steps_79 rfl (j := 2) rfl ?_
    refine q_iload C dX9_steps_80 (j := 4) rfl ?_
    obtain ⟨n_10, z1, z2, h⟩ := h
    refine q_iald C z1 z2 dX9_steps_82 ?_
    refine q_iload C dX9_steps_83 (j := 3) rfl ?_
    refine q_icmp_ne (tgt := 121) C dX9_steps_85 (by decide) (fun z => ?_) (fun z => ?_)
    · have h := h.1 z
      refine q_iinc (v := (i5 + 1)) (lv' := [(5, .int (i5 + 1)), (0, .ref a0), (2, .int i2), (3, .ref a3), (4, .int i4), (6, .int i6)]) C dX9_steps_121 (j := 4) rfl rfl (by decide) rfl ?_
      refine q_goto (tgt := 58) C dX9_steps_124 (by decide) ?_
      exact q_sub [1, 2, 3, 4, 0] rfl h
    · have h := h.2 z
      refine q_aload_n C dX9_steps_88 rfl (j := 2) rfl ?_
      refine q_iload C dX9_steps_89 (j := 5) rfl ?_
      obtain ⟨n_11, z1, z2, h⟩ := h
      refine q_iald C z1 z2 dX9_steps_91 ?_
      refine q_iconst (v := (-1)) C dX9_steps_92 (by decide) ?_
      refine q_icmp_ne (tgt := 115) C dX9_steps_93 (by decide) (fun z => ?_) (fun z => ?_)
      · have h := h.1 z
        refine q_iinc (v := (i6 + 1)) (lv' := [(6, .int (i6 + 1)), (0, .ref a0), (2, .int i2), (3, .ref a3), (4, .int i4), (5, .int i5)]) C dX9_steps_115 (j := 5) rfl rfl (by decide) rfl ?_
        refine q_goto (tgt := 70) C dX9_steps_118 (by decide) ?_
        exact q_sub [1, 2, 3, 4, 5, 0] rfl h
      · have h := h.2 z
        refine q_aload_n C dX9_steps_96 rfl (j := 0) rfl ?_
        refine q_iload C dX9_steps_97 (j := 4) rfl ?_
        refine q_iload C dX9_steps_99 (j := 5) rfl ?_
        exact h.elim
set_option maxRecDepth 100000 in
set_option maxHeartbeats 4000000 in
theorem c_X9_steps (l : Launch) (D : va_G) (cA : Nat → ClassId) (lo : Nat) {M : Mm} {a0 : Nat} {i1 : Int32} {i2 : Int32} {Cc Zz : Nat} {Q : Int32 → Mm → Prop} (h : T_X9_steps Cc Zz M a0 i1 i2 Q) : Met l yX9_steps wsX9_steps ({ frames := 2, cells := Cc, slots := Zz, locals := 43 } : Room) (PcM D cA lo [.ref a0, .int i1, .int i2] M) (QiM D cA lo Q) Cc Zz (fun q => lo ≤ q) := by
  refine q_start (cc := cX9_steps) (nL := 7) (ret := (some .int)) (by decide) rfl rfl (Nat.le_of_ble_eq_true rfl) ?_
  intro p e s m args below meth c C hr hlk hin
  unfold T_X9_steps at h
  have h := h (fun (a0 : Nat) (M : Mm) (cc zz : Nat) => QW p l e ({ frames := 2, cells := Cc, slots := Zz, locals := 43 } : Room) s m args below meth c (MQ below (QiM D cA lo Q) args s Cc Zz (fun q => lo ≤ q)) 7 D cA lo cc zz M 21 [(0, .ref a0)] []) (fun (a0 : Nat) (i2 : Int32) (a3 : Nat) (i4 : Int32) (M : Mm) (cc zz : Nat) => QW p l e ({ frames := 2, cells := Cc, slots := Zz, locals := 43 } : Room) s m args below meth c (MQ below (QiM D cA lo Q) args s Cc Zz (fun q => lo ≤ q)) 7 D cA lo cc zz M 46 [(0, .ref a0), (2, .int i2), (3, .ref a3), (4, .int i4)] []) (fun (a0 : Nat) (i2 : Int32) (a3 : Nat) (i4 : Int32) (i5 : Int32) (M : Mm) (cc zz : Nat) => QW p l e ({ frames := 2, cells := Cc, slots := Zz, locals := 43 } : Room) s m args below meth c (MQ below (QiM D cA lo Q) args s Cc Zz (fun q => lo ≤ q)) 7 D cA lo cc zz M 58 [(0, .ref a0), (2, .int i2), (3, .ref a3), (4, .int i4), (5, .int i5)] []) (fun (a0 : Nat) (i2 : Int32) (a3 : Nat) (i4 : Int32) (i5 : Int32) (i6 : Int32) (M : Mm) (cc zz : Nat) => QW p l e ({ frames := 2, cells := Cc, slots := Zz, locals := 43 } : Room) s m args below meth c (MQ below (QiM D cA lo Q) args s Cc Zz (fun q => lo ≤ q)) 7 D cA lo cc zz M 70 [(0, .ref a0), (2, .int i2), (3, .ref a3), (4, .int i4), (5, .int i5), (6, .int i6)] []) (fun a0 M cc zz h => b_X9_steps_21 C hr hlk M a0 cc zz h) (fun a0 i2 a3 i4 M cc zz h => b_X9_steps_46 C hr hlk M a0 i2 a3 i4 cc zz h) (fun a0 i2 a3 i4 i5 M cc zz h => b_X9_steps_58 C hr hlk M a0 i2 a3 i4 i5 cc zz h) (fun a0 i2 a3 i4 i5 i6 M cc zz h => b_X9_steps_70 C hr hlk M a0 i2 a3 i4 i5 i6 cc zz h)
  refine q_aload_n C dX9_steps_0 rfl (j := 0) rfl ?_
  refine q_iconst (v := 0) C dX9_steps_1 (by decide) ?_
  refine q_putI (ci := 9) (k0 := 0) (T := TX9) (v := 0) (ty := .int) C inX9_steps_X9 tyX9 tyX9_ok nmX9 rfl (by decide) h.1 (by decide) rfl (by decide +kernel) rfl (by decide +kernel) rfl rfl rfl dX9_steps_2 ?_
  have h := h.2
  refine q_aload_n C dX9_steps_5 rfl (j := 0) rfl ?_
  refine q_iload_n C dX9_steps_6 rfl (j := 1) rfl ?_
  have hcz := h.1
  have h := h.2
  refine q_ci (q_runV (As := [.int i1]) (st := []) C (c_X9_isPoint l D cA lo h.2) (cwV 1 C.2.2.2.2.1 gX9_steps_X9_isPoint rfl rfl rfl (by decide +kernel) ⟨Nat.le_of_ble_eq_true rfl, Nat.le_of_ble_eq_true rfl⟩) h.1 (by decide) rfl rfl rfl (Nat.le_of_ble_eq_true rfl) dX9_steps_7 ⟨Nat.le_trans (Nat.le_of_eq (Nat.add_zero _)) hcz.1, Nat.le_trans (Nat.le_of_eq (Nat.add_zero _)) hcz.2⟩) (fun r_1 M_z h => ?_)
  refine q_mem h.1 ?_
  have h := h.2
  refine q_if_eq (tgt := 21) C dX9_steps_10 (by decide) (fun z => ?_) (fun z => ?_)
  · have h := h.1 z
    exact q_sub [0] rfl h
  · have h := h.2 z
    refine q_aload_n C dX9_steps_13 rfl (j := 0) rfl ?_
    refine q_iload_n C dX9_steps_14 rfl (j := 2) rfl ?_
    have hcz := h.1
    have h := h.2
    refine q_ci (q_runV (As := [.int i2]) (st := []) C (c_X9_isPoint l D cA lo h.2) (cwV 1 C.2.2.2.2.1 gX9_steps_X9_isPoint rfl rfl rfl (by decide +kernel) ⟨Nat.le_of_ble_eq_true rfl, Nat.le_of_ble_eq_true rfl⟩) h.1 (by decide) rfl rfl rfl (Nat.le_of_ble_eq_true rfl) dX9_steps_15 ⟨Nat.le_trans (Nat.le_of_eq (Nat.add_zero _)) hcz.1, Nat.le_trans (Nat.le_of_eq (Nat.add_zero _)) hcz.2⟩) (fun r_2 M_z h => ?_)
    refine q_mem h.1 ?_
    have h := h.2
    refine q_if_ne (tgt := 27) C dX9_steps_18 (by decide) (fun z => ?_) (fun z => ?_)
    · have h := h.1 z
      refine q_aload_n C dX9_steps_27 rfl (j := 0) rfl ?_
      refine q_getI (ci := 9) (k0 := 3) (T := TX9) C inX9_steps_X9 rfl (by decide) h.1 (by decide) rfl (by decide +kernel) rfl dX9_steps_28 ?_
      have h := h.2
      refine q_newI (N := (iM (wI M a0 0 0) a0 3).toNatClampNeg) C (by decide +kernel) h.1 rfl (Nat.le_trans (Nat.mul_le_mul_right _ h.2.1) (by decide)) ⟨h.2.2.1, h.2.2.2.1⟩ dX9_steps_31 (fun q_3 hq _ => ?_)
      have h := h.2.2.2.2 q_3 hq
      refine q_astore_n (lv' := [(3, .ref q_3), (0, .ref a0), (1, .int i1), (2, .int i2)]) C dX9_steps_33 rfl (by decide) rfl ?_
      refine q_aload_n C dX9_steps_34 rfl (j := 0) rfl ?_
      refine q_iconst (v := (-1)) C dX9_steps_35 (by decide) ?_
      have hcz := h.1
      have h := h.2
      refine q_cv (q_runS (As := [.ref q_3, .int (-1)]) (st := []) C (c_J7_fill_53178 l D cA lo h) (va_cwS 2 C.2.2.2.2.1 gX9_steps_J7_fill_53178 rfl rfl rfl (by decide +kernel) ⟨Nat.le_of_ble_eq_true rfl, Nat.le_of_ble_eq_true rfl⟩) rfl rfl (Nat.le_of_ble_eq_true rfl) dX9_steps_36 ⟨Nat.le_trans (Nat.le_of_eq (Nat.add_zero _)) hcz.1, Nat.le_trans (Nat.le_of_eq (Nat.add_zero _)) hcz.2⟩) (fun M_5 h => ?_)
      refine q_aload_n C dX9_steps_39 rfl (j := 0) rfl ?_
      refine q_iload_n C dX9_steps_40 rfl (j := 2) rfl ?_
      refine q_iconst (v := 0) C dX9_steps_41 (by decide) ?_
      obtain ⟨n_6, z1, z2, h⟩ := h
      refine q_iast C z1 z2 dX9_steps_42 ?_
      refine q_iconst (v := 0) C dX9_steps_43 (by decide) ?_
      refine q_istore (lv' := [(4, .int 0), (3, .ref q_3), (0, .ref a0), (1, .int i1), (2, .int i2)]) C dX9_steps_44 (by decide) rfl ?_
      exact q_sub [2, 4, 1, 0] rfl h
    · have h := h.2 z
      exact q_sub [0] rfl h
def S_X9_mayNow_4 (K4 : Nat → Int32 → Int32 → Int32 → Prop) (K15 : Nat → Int32 → Int32 → Int32 → Int32 → Prop) (Q : Int32 → Prop) (M : Mm) (a0 : Nat) (i1 : Int32) (i2 : Int32) (i3 : Int32) : Prop := kM M a0 = (9, 13) ∧ ((iM M a0 3) ≤ i3 → Q i2) ∧ (¬ (iM M a0 3) ≤ i3 → K15 a0 i1 i2 i3 0)
def S_X9_mayNow_15 (K4 : Nat → Int32 → Int32 → Int32 → Prop) (K15 : Nat → Int32 → Int32 → Int32 → Int32 → Prop) (Q : Int32 → Prop) (M : Mm) (a0 : Nat) (i1 : Int32) (i2 : Int32) (i3 : Int32) (i4 : Int32) : Prop := kM M a0 = (9, 13) ∧ ((iM M a0 3) ≤ i4 → K4 a0 i1 i2 (i3 + 1)) ∧ (¬ (iM M a0 3) ≤ i4 → False)
def T_X9_mayNow (M : Mm) (a0 : Nat) (i1 : Int32) (Q : Int32 → Prop) : Prop := ∀ (K4 : Nat → Int32 → Int32 → Int32 → Prop) (K15 : Nat → Int32 → Int32 → Int32 → Int32 → Prop), (∀ (a0 : Nat) (i1 : Int32) (i2 : Int32) (i3 : Int32), S_X9_mayNow_4 K4 K15 Q M a0 i1 i2 i3 → K4 a0 i1 i2 i3) → (∀ (a0 : Nat) (i1 : Int32) (i2 : Int32) (i3 : Int32) (i4 : Int32), S_X9_mayNow_15 K4 K15 Q M a0 i1 i2 i3 i4 → K15 a0 i1 i2 i3 i4) → K4 a0 i1 0 0
theorem inX9_mayNow_X9 : ∀ w ∈ wsX90, w ∈ wsX9_mayNow := by decide +kernel
set_option maxRecDepth 100000 in
set_option maxHeartbeats 4000000 in
theorem b_X9_mayNow_4 {p : Program} {l : Launch} {e : Env} {s : State} {m : MethodId} {args : Array Value} {below : List Frame} {meth : Method} {c : Code} {D : va_G} {cA : Nat → ClassId} {lo : Nat} (C : Cx p s m args c cX9_mayNow 5 RX9 wsX9_mayNow D cA lo) (hr : meth.sig.returnType = (some .int)) (hlk : meth.locks = false) {Q : Int32 → Prop} {M : Mm} (a0 : Nat) (i1 : Int32) (i2 : Int32) (i3 : Int32) (h : S_X9_mayNow_4 (fun (a0 : Nat) (i1 : Int32) (i2 : Int32) (i3 : Int32) => QW p l e ({ frames := 0, cells := 0, slots := 0, locals := 0 } : Room) s m args below meth c (MQ below (QiM D cA lo (fun r M1 => M1 = M ∧ Q r)) args s 0 0 (fun q => lo ≤ q)) 5 D cA lo 0 0 M 4 [(0, .ref a0), (1, .int i1), (2, .int i2), (3, .int i3)] []) (fun (a0 : Nat) (i1 : Int32) (i2 : Int32) (i3 : Int32) (i4 : Int32) => QW p l e ({ frames := 0, cells := 0, slots := 0, locals := 0 } : Room) s m args below meth c (MQ below (QiM D cA lo (fun r M1 => M1 = M ∧ Q r)) args s 0 0 (fun q => lo ≤ q)) 5 D cA lo 0 0 M 15 [(0, .ref a0), (1, .int i1), (2, .int i2), (3, .int i3), (4, .int i4)] []) Q M a0 i1 i2 i3) : QW p l e ({ frames := 0, cells := 0, slots := 0, locals := 0 } : Room) s m args below meth c (MQ below (QiM D cA lo (fun r M1 => M1 = M ∧ Q r)) args s 0 0 (fun q => lo ≤ q)) 5 D cA lo 0 0 M 4 [(0, .ref a0), (1, .int i1), (2, .int i2), (3, .int i3)] [] := by
  unfold S_X9_mayNow_4 at h
  refine q_iload_n C dX9_mayNow_4 rfl (j := 3) rfl ?_
  refine q_aload_n C dX9_mayNow_5 rfl (j := 0) rfl ?_
  refine q_getI (ci := 9) (k0 := 3) (T := TX9) C inX9_mayNow_X9 rfl (by decide) h.1 (by decide) rfl (by decide +kernel) rfl dX9_mayNow_6 ?_
  have h := h.2
  refine q_icmp_ge (tgt := 65) C dX9_mayNow_9 (by decide) (fun z => ?_) (fun z => ?_)
  · have h := h.1 z
    refine q_iload_n C dX9_mayNow_65 rfl (j := 2) rfl ?_
    exact q_iret C hr hlk dX9_mayNow_66 (Nat.le_of_ble_eq_true rfl) (Nat.le_of_ble_eq_true rfl) ⟨rfl, h⟩
  · have h := h.2 z
    refine q_iconst (v := 0) C dX9_mayNow_12 (by decide) ?_
    refine q_istore (lv' := [(4, .int 0), (0, .ref a0), (1, .int i1), (2, .int i2), (3, .int i3)]) C dX9_mayNow_13 (by decide) rfl ?_
    exact q_sub [1, 2, 3, 4, 0] rfl h
set_option maxRecDepth 100000 in
set_option maxHeartbeats 4000000 in
theorem b_X9_mayNow_15 {p : Program} {l : Launch} {e : Env} {s : State} {m : MethodId} {args : Array Value} {below : List Frame} {meth : Method} {c : Code} {D : va_G} {cA : Nat → ClassId} {lo : Nat} (C : Cx p s m args c cX9_mayNow 5 RX9 wsX9_mayNow D cA lo) (hr : meth.sig.returnType = (some .int)) (hlk : meth.locks = false) {Q : Int32 → Prop} {M : Mm} (a0 : Nat) (i1 : Int32) (i2 : Int32) (i3 : Int32) (i4 : Int32) (h : S_X9_mayNow_15 (fun (a0 : Nat) (i1 : Int32) (i2 : Int32) (i3 : Int32) => QW p l e ({ frames := 0, cells := 0, slots := 0, locals := 0 } : Room) s m args below meth c (MQ below (QiM D cA lo (fun r M1 => M1 = M ∧ Q r)) args s 0 0 (fun q => lo ≤ q)) 5 D cA lo 0 0 M 4 [(0, .ref a0), (1, .int i1), (2, .int i2), (3, .int i3)] []) (fun (a0 : Nat) (i1 : Int32) (i2 : Int32) (i3 : Int32) (i4 : Int32) => QW p l e ({ frames := 0, cells := 0, slots := 0, locals := 0 } : Room) s m args below meth c (MQ below (QiM D cA lo (fun r M1 => M1 = M ∧ Q r)) args s 0 0 (fun q => lo ≤ q)) 5 D cA lo 0 0 M 15 [(0, .ref a0), (1, .int i1), (2, .int i2), (3, .int i3), (4, .int i4)] []) Q M a0 i1 i2 i3 i4) : QW p l e ({ frames := 0, cells := 0, slots := 0, locals := 0 } : Room) s m args below meth c (MQ below (QiM D cA lo (fun r M1 => M1 = M ∧ Q r)) args s 0 0 (fun q => lo ≤ q)) 5 D cA lo 0 0 M 15 [(0, .ref a0), (1, .int i1), (2, .int i2), (3, .int i3), (4, .int i4)] [] := by
  unfold S_X9_mayNow_15 at h
  refine q_iload C dX9_mayNow_15 (j := 4) rfl ?_
  refine q_aload_n C dX9_mayNow_17 rfl (j := 0) rfl ?_
  refine q_getI (ci := 9) (k0 := 3) (T := TX9) C inX9_mayNow_X9 rfl (by decide) h.1 (by decide) rfl (by decide +kernel) rfl dX9_mayNow_18 ?_
  have h := h.2
  refine q_icmp_ge (tgt := 59) C dX9_mayNow_21 (by decide) (fun z => ?_) (fun z => ?_)
  · have h := h.1 z
    refine q_iinc (v := (i3 + 1)) (lv' := [(3, .int (i3 + 1)), (0, .ref a0), (1, .int i1), (2, .int i2), (4, .int i4)]) C dX9_mayNow_59 (j := 3) rfl rfl (by decide) rfl ?_
    refine q_goto (tgt := 4) C dX9_mayNow_62 (by decide) ?_
    exact q_sub [1, 2, 3, 0] rfl h
  · have h := h.2 z
    refine q_iload_n C dX9_mayNow_24 rfl (j := 2) rfl ?_
    refine q_aload_n C dX9_mayNow_25 rfl (j := 0) rfl ?_
    refine q_iload_n C dX9_mayNow_26 rfl (j := 3) rfl ?_
    refine q_iload C dX9_mayNow_27 (j := 4) rfl ?_
    exact h.elim
set_option maxRecDepth 100000 in
set_option maxHeartbeats 4000000 in
theorem c_X9_mayNow (l : Launch) (D : va_G) (cA : Nat → ClassId) (lo : Nat) {M : Mm} {a0 : Nat} {i1 : Int32} {Q : Int32 → Prop} (h : T_X9_mayNow M a0 i1 Q) : Met l yX9_mayNow wsX9_mayNow ({ frames := 0, cells := 0, slots := 0, locals := 0 } : Room) (PcM D cA lo [.ref a0, .int i1] M) (QiM D cA lo (fun r M1 => M1 = M ∧ Q r)) 0 0 (fun q => lo ≤ q) := by
  refine q_start (cc := cX9_mayNow) (nL := 5) (ret := (some .int)) (by decide) rfl rfl (Nat.le_of_ble_eq_true rfl) ?_
  intro p e s m args below meth c C hr hlk hin
  unfold T_X9_mayNow at h
  have h := h (fun (a0 : Nat) (i1 : Int32) (i2 : Int32) (i3 : Int32) => QW p l e ({ frames := 0, cells := 0, slots := 0, locals := 0 } : Room) s m args below meth c (MQ below (QiM D cA lo (fun r M1 => M1 = M ∧ Q r)) args s 0 0 (fun q => lo ≤ q)) 5 D cA lo 0 0 M 4 [(0, .ref a0), (1, .int i1), (2, .int i2), (3, .int i3)] []) (fun (a0 : Nat) (i1 : Int32) (i2 : Int32) (i3 : Int32) (i4 : Int32) => QW p l e ({ frames := 0, cells := 0, slots := 0, locals := 0 } : Room) s m args below meth c (MQ below (QiM D cA lo (fun r M1 => M1 = M ∧ Q r)) args s 0 0 (fun q => lo ≤ q)) 5 D cA lo 0 0 M 15 [(0, .ref a0), (1, .int i1), (2, .int i2), (3, .int i3), (4, .int i4)] []) (fun a0 i1 i2 i3 h => b_X9_mayNow_4 C hr hlk a0 i1 i2 i3 h) (fun a0 i1 i2 i3 i4 h => b_X9_mayNow_15 C hr hlk a0 i1 i2 i3 i4 h)
  refine q_iconst (v := 0) C dX9_mayNow_0 (by decide) ?_
  refine q_istore_n (lv' := [(2, .int 0), (0, .ref a0), (1, .int i1)]) C dX9_mayNow_1 rfl (by decide) rfl ?_
  refine q_iconst (v := 0) C dX9_mayNow_2 (by decide) ?_
  refine q_istore_n (lv' := [(3, .int 0), (2, .int 0), (0, .ref a0), (1, .int i1)]) C dX9_mayNow_3 rfl (by decide) rfl ?_
  exact q_sub [2, 3, 1, 0] rfl h
def T_X9_may (M : Mm) (a0 : Nat) (i1 : Int32) (Q : Int32 → Mm → Prop) : Prop := kM M a0 = (9, 13) ∧ T_X9_is (wI M a0 0 0) i1 0 2 (fun r_1 => (r_1 = 0 → kM (wI M a0 0 0) a0 = (9, 13) ∧ T_X9_refuse (wI M a0 0 0) a0 1 (fun r_2 M_3 => Q r_2 M_3)) ∧ (¬ r_1 = 0 → kM (wI M a0 0 0) a0 = (9, 13) ∧ T_X9_mayNow (wI M a0 0 0) a0 i1 (fun r_4 => Q r_4 (wI M a0 0 0))))
theorem inX9_may_X9 : ∀ w ∈ wsX90, w ∈ wsX9_may := by decide +kernel
set_option maxRecDepth 100000 in
set_option maxHeartbeats 4000000 in
theorem c_X9_may (l : Launch) (D : va_G) (cA : Nat → ClassId) (lo : Nat) {M : Mm} {a0 : Nat} {i1 : Int32} {Q : Int32 → Mm → Prop} (h : T_X9_may M a0 i1 Q) : Met l yX9_may wsX9_may ({ frames := 1, cells := 0, slots := 0, locals := 24 } : Room) (PcM D cA lo [.ref a0, .int i1] M) (QiM D cA lo Q) 0 0 (fun q => lo ≤ q) := by
  refine q_start (cc := cX9_may) (nL := 2) (ret := (some .int)) (by decide) rfl rfl (Nat.le_of_ble_eq_true rfl) ?_
  intro p e s m args below meth c C hr hlk hin
  unfold T_X9_may at h
  refine q_aload_n C dX9_may_0 rfl (j := 0) rfl ?_
  refine q_iconst (v := 0) C dX9_may_1 (by decide) ?_
  refine q_putI (ci := 9) (k0 := 0) (T := TX9) (v := 0) (ty := .int) C inX9_may_X9 tyX9 tyX9_ok nmX9 rfl (by decide) h.1 (by decide) rfl (by decide +kernel) rfl (by decide +kernel) rfl rfl rfl dX9_may_2 ?_
  have h := h.2
  refine q_iload_n C dX9_may_5 rfl (j := 1) rfl ?_
  refine q_iconst (v := 0) C dX9_may_6 (by decide) ?_
  refine q_iconst (v := 2) C dX9_may_7 (by decide) ?_
  refine q_ci (q_runS (As := [.int i1, .int 0, .int 2]) (st := []) C (c_X9_is l D cA lo h) (va_cwS 3 C.2.2.2.2.1 gX9_may_X9_is rfl rfl rfl (by decide +kernel) ⟨Nat.le_of_ble_eq_true rfl, Nat.le_of_ble_eq_true rfl⟩) rfl rfl (Nat.le_of_ble_eq_true rfl) dX9_may_8 ⟨Nat.le_of_ble_eq_true rfl, Nat.le_of_ble_eq_true rfl⟩) (fun r_1 M_z h => ?_)
  refine q_mem h.1 ?_
  have h := h.2
  refine q_if_eq (tgt := 22) C dX9_may_11 (by decide) (fun z => ?_) (fun z => ?_)
  · have h := h.1 z
    refine q_aload_n C dX9_may_22 rfl (j := 0) rfl ?_
    refine q_iconst (v := 1) C dX9_may_23 (by decide) ?_
    refine q_ci (q_runV (As := [.int 1]) (st := []) C (c_X9_refuse l D cA lo h.2) (cwV 1 C.2.2.2.2.1 gX9_may_X9_refuse rfl rfl rfl (by decide +kernel) ⟨Nat.le_of_ble_eq_true rfl, Nat.le_of_ble_eq_true rfl⟩) h.1 (by decide) rfl rfl rfl (Nat.le_of_ble_eq_true rfl) dX9_may_24 ⟨Nat.le_of_ble_eq_true rfl, Nat.le_of_ble_eq_true rfl⟩) (fun r_2 M_3 h => ?_)
    exact q_iret C hr hlk dX9_may_27 (Nat.le_of_ble_eq_true rfl) (Nat.le_of_ble_eq_true rfl) h
  · have h := h.2 z
    refine q_aload_n C dX9_may_14 rfl (j := 0) rfl ?_
    refine q_iload_n C dX9_may_15 rfl (j := 1) rfl ?_
    refine q_ci (q_runV (As := [.int i1]) (st := []) C (c_X9_mayNow l D cA lo h.2) (cwV 1 C.2.2.2.2.1 gX9_may_X9_mayNow rfl rfl rfl (by decide +kernel) ⟨Nat.le_of_ble_eq_true rfl, Nat.le_of_ble_eq_true rfl⟩) h.1 (by decide) rfl rfl rfl (Nat.le_of_ble_eq_true rfl) dX9_may_16 ⟨Nat.le_of_ble_eq_true rfl, Nat.le_of_ble_eq_true rfl⟩) (fun r_4 M_z h => ?_)
    refine q_mem h.1 ?_
    have h := h.2
    refine q_goto (tgt := 27) C dX9_may_19 (by decide) ?_
    exact q_iret C hr hlk dX9_may_27 (Nat.le_of_ble_eq_true rfl) (Nat.le_of_ble_eq_true rfl) h
def S_X9_volumeWith_22 (K22 : Nat → Int32 → Int32 → Nat → Int32 → Mm → Prop) (Q : Int64 → Mm → Prop) (M : Mm) (a0 : Nat) (i1 : Int32) (i2 : Int32) (as0 : Nat) (is1 : Int32) : Prop := kM M as0 = (9, 13) ∧ kM (wI M as0 0 is1) a0 = (9, 13) ∧ ((iM (wI M as0 0 is1) a0 0) ≤ 0 → False) ∧ (¬ (iM (wI M as0 0 is1) a0 0) ≤ 0 → Q 0 (wI M as0 0 is1))
def T_X9_volumeWith (M : Mm) (a0 : Nat) (i1 : Int32) (i2 : Int32) (Q : Int64 → Mm → Prop) : Prop := ∀ (K22 : Nat → Int32 → Int32 → Nat → Int32 → Mm → Prop), (∀ (a0 : Nat) (i1 : Int32) (i2 : Int32) (as0 : Nat) (is1 : Int32) (M : Mm), S_X9_volumeWith_22 K22 Q M a0 i1 i2 as0 is1 → K22 a0 i1 i2 as0 is1 M) → kM M a0 = (9, 13) ∧ T_X9_isPoint M a0 i1 (fun r_1 => (r_1 = 0 → K22 a0 i1 i2 a0 1 M) ∧ (¬ r_1 = 0 → kM M a0 = (9, 13) ∧ T_X9_isPoint M a0 i2 (fun r_2 => (r_2 = 0 → K22 a0 i1 i2 a0 1 M) ∧ (¬ r_2 = 0 → K22 a0 i1 i2 a0 0 M))))
theorem inX9_volumeWith_X9 : ∀ w ∈ wsX90, w ∈ wsX9_volumeWith := by decide +kernel
set_option maxRecDepth 100000 in
set_option maxHeartbeats 4000000 in
theorem b_X9_volumeWith_22 {p : Program} {l : Launch} {e : Env} {s : State} {m : MethodId} {args : Array Value} {below : List Frame} {meth : Method} {c : Code} {D : va_G} {cA : Nat → ClassId} {lo : Nat} (C : Cx p s m args c cX9_volumeWith 5 RX9 wsX9_volumeWith D cA lo) (hr : meth.sig.returnType = (some .long)) (hlk : meth.locks = false) {Q : Int64 → Mm → Prop} (M : Mm) (a0 : Nat) (i1 : Int32) (i2 : Int32) (as0 : Nat) (is1 : Int32) (h : S_X9_volumeWith_22 (fun (a0 : Nat) (i1 : Int32) (i2 : Int32) (as0 : Nat) (is1 : Int32) (M : Mm) => QW p l e ({ frames := 2, cells := 0, slots := 0, locals := 43 } : Room) s m args below meth c (MQ below (QlM D cA lo Q) args s 0 0 (fun q => lo ≤ q)) 5 D cA lo 0 0 M 22 [(0, .ref a0), (1, .int i1), (2, .int i2)] [.int is1, .ref as0]) Q M a0 i1 i2 as0 is1) : QW p l e ({ frames := 2, cells := 0, slots := 0, locals := 43 } : Room) s m args below meth c (MQ below (QlM D cA lo Q) args s 0 0 (fun q => lo ≤ q)) 5 D cA lo 0 0 M 22 [(0, .ref a0), (1, .int i1), (2, .int i2)] [.int is1, .ref as0] := by
  unfold S_X9_volumeWith_22 at h
  refine q_putI (ci := 9) (k0 := 0) (T := TX9) (v := is1) (ty := .int) C inX9_volumeWith_X9 tyX9 tyX9_ok nmX9 rfl (by decide) h.1 (by decide) rfl (by decide +kernel) rfl (by decide +kernel) rfl rfl rfl dX9_volumeWith_22 ?_
  have h := h.2
  refine q_aload_n C dX9_volumeWith_25 rfl (j := 0) rfl ?_
  refine q_getI (ci := 9) (k0 := 0) (T := TX9) C inX9_volumeWith_X9 rfl (by decide) h.1 (by decide) rfl (by decide +kernel) rfl dX9_volumeWith_26 ?_
  have h := h.2
  refine q_if_le (tgt := 34) C dX9_volumeWith_29 (by decide) (fun z => ?_) (fun z => ?_)
  · have h := h.1 z
    refine q_aload_n C dX9_volumeWith_34 rfl (j := 0) rfl ?_
    refine q_iload_n C dX9_volumeWith_35 rfl (j := 1) rfl ?_
    refine q_iload_n C dX9_volumeWith_36 rfl (j := 2) rfl ?_
    exact h.elim
  · have h := h.2 z
    refine q_lconst (v := 0) C dX9_volumeWith_32 (by decide) ?_
    exact q_lret C hr hlk dX9_volumeWith_33 (Nat.le_of_ble_eq_true rfl) (Nat.le_of_ble_eq_true rfl) h
set_option maxRecDepth 100000 in
set_option maxHeartbeats 4000000 in
theorem c_X9_volumeWith (l : Launch) (D : va_G) (cA : Nat → ClassId) (lo : Nat) {M : Mm} {a0 : Nat} {i1 : Int32} {i2 : Int32} {Q : Int64 → Mm → Prop} (h : T_X9_volumeWith M a0 i1 i2 Q) : Met l yX9_volumeWith wsX9_volumeWith ({ frames := 2, cells := 0, slots := 0, locals := 43 } : Room) (PcM D cA lo [.ref a0, .int i1, .int i2] M) (QlM D cA lo Q) 0 0 (fun q => lo ≤ q) := by
  refine q_start (cc := cX9_volumeWith) (nL := 5) (ret := (some .long)) (by decide) rfl rfl (Nat.le_of_ble_eq_true rfl) ?_
  intro p e s m args below meth c C hr hlk hin
  unfold T_X9_volumeWith at h
  have h := h (fun (a0 : Nat) (i1 : Int32) (i2 : Int32) (as0 : Nat) (is1 : Int32) (M : Mm) => QW p l e ({ frames := 2, cells := 0, slots := 0, locals := 43 } : Room) s m args below meth c (MQ below (QlM D cA lo Q) args s 0 0 (fun q => lo ≤ q)) 5 D cA lo 0 0 M 22 [(0, .ref a0), (1, .int i1), (2, .int i2)] [.int is1, .ref as0]) (fun a0 i1 i2 as0 is1 M h => b_X9_volumeWith_22 C hr hlk M a0 i1 i2 as0 is1 h)
  refine q_aload_n C dX9_volumeWith_0 rfl (j := 0) rfl ?_
  refine q_aload_n C dX9_volumeWith_1 rfl (j := 0) rfl ?_
  refine q_iload_n C dX9_volumeWith_2 rfl (j := 1) rfl ?_
  refine q_ci (q_runV (As := [.int i1]) (st := [.ref a0]) C (c_X9_isPoint l D cA lo h.2) (cwV 1 C.2.2.2.2.1 gX9_volumeWith_X9_isPoint rfl rfl rfl (by decide +kernel) ⟨Nat.le_of_ble_eq_true rfl, Nat.le_of_ble_eq_true rfl⟩) h.1 (by decide) rfl rfl rfl (Nat.le_of_ble_eq_true rfl) dX9_volumeWith_3 ⟨Nat.le_of_ble_eq_true rfl, Nat.le_of_ble_eq_true rfl⟩) (fun r_1 M_z h => ?_)
  refine q_mem h.1 ?_
  have h := h.2
  refine q_if_eq (tgt := 21) C dX9_volumeWith_6 (by decide) (fun z => ?_) (fun z => ?_)
  · have h := h.1 z
    refine q_iconst (v := 1) C dX9_volumeWith_21 (by decide) ?_
    exact q_sub [0, 1, 2] rfl h
  · have h := h.2 z
    refine q_aload_n C dX9_volumeWith_9 rfl (j := 0) rfl ?_
    refine q_iload_n C dX9_volumeWith_10 rfl (j := 2) rfl ?_
    refine q_ci (q_runV (As := [.int i2]) (st := [.ref a0]) C (c_X9_isPoint l D cA lo h.2) (cwV 1 C.2.2.2.2.1 gX9_volumeWith_X9_isPoint rfl rfl rfl (by decide +kernel) ⟨Nat.le_of_ble_eq_true rfl, Nat.le_of_ble_eq_true rfl⟩) h.1 (by decide) rfl rfl rfl (Nat.le_of_ble_eq_true rfl) dX9_volumeWith_11 ⟨Nat.le_of_ble_eq_true rfl, Nat.le_of_ble_eq_true rfl⟩) (fun r_2 M_z h => ?_)
    refine q_mem h.1 ?_
    have h := h.2
    refine q_if_eq (tgt := 21) C dX9_volumeWith_14 (by decide) (fun z => ?_) (fun z => ?_)
    · have h := h.1 z
      refine q_iconst (v := 1) C dX9_volumeWith_21 (by decide) ?_
      exact q_sub [0, 1, 2] rfl h
    · have h := h.2 z
      refine q_iconst (v := 0) C dX9_volumeWith_17 (by decide) ?_
      refine q_goto (tgt := 22) C dX9_volumeWith_18 (by decide) ?_
      exact q_sub [0, 1, 2] rfl h
def T_X9_holesWithout (Cc Zz : Nat) (M : Mm) (a0 : Nat) (i1 : Int32) (Q : Int32 → Mm → Prop) : Prop := kM M a0 = (9, 13) ∧ (0 ≤ Cc ∧ 0 ≤ Zz) ∧ kM (wI M a0 0 0) a0 = (9, 13) ∧ T_X9_isFace (wI M a0 0 0) a0 i1 (fun r_1 => (¬ r_1 = 0 → kM (wI M a0 0 0) a0 = (9, 13) ∧ ∃ a_2 : Nat, rM (wI M a0 0 0) a0 4 = some a_2 ∧ ∃ n_3 : Nat, kM (wI M a0 0 0) a_2 = (121, n_3) ∧ vp_in i1 n_3 ∧ ∃ a_4 : Nat, rM (wI M a0 0 0) a_2 i1.toNatClampNeg = some a_4 ∧ kM (wI M a0 0 0) a0 = (9, 13) ∧ ∃ a_5 : Nat, rM (wI M a0 0 0) a0 4 = some a_5 ∧ False) ∧ (r_1 = 0 → (0 ≤ Cc ∧ 0 ≤ Zz) ∧ kM (wI M a0 0 0) a0 = (9, 13) ∧ T_X9_refuse (wI M a0 0 0) a0 1 (fun r_8 M_9 => 0 ≤ Cc ∧ 0 ≤ Zz ∧ Q r_8 M_9)))
theorem inX9_holesWithout_X9 : ∀ w ∈ wsX90, w ∈ wsX9_holesWithout := by decide +kernel
set_option maxRecDepth 100000 in
set_option maxHeartbeats 4000000 in
theorem c_X9_holesWithout (l : Launch) (D : va_G) (cA : Nat → ClassId) (lo : Nat) {M : Mm} {a0 : Nat} {i1 : Int32} {Cc Zz : Nat} {Q : Int32 → Mm → Prop} (h : T_X9_holesWithout Cc Zz M a0 i1 Q) : Met l yX9_holesWithout wsX9_holesWithout ({ frames := 3, cells := Cc, slots := Zz, locals := 71 } : Room) (PcM D cA lo [.ref a0, .int i1] M) (QiM D cA lo Q) Cc Zz (fun q => lo ≤ q) := by
  refine q_start (cc := cX9_holesWithout) (nL := 4) (ret := (some .int)) (by decide) rfl rfl (Nat.le_of_ble_eq_true rfl) ?_
  intro p e s m args below meth c C hr hlk hin
  unfold T_X9_holesWithout at h
  refine q_aload_n C dX9_holesWithout_0 rfl (j := 0) rfl ?_
  refine q_iconst (v := 0) C dX9_holesWithout_1 (by decide) ?_
  refine q_putI (ci := 9) (k0 := 0) (T := TX9) (v := 0) (ty := .int) C inX9_holesWithout_X9 tyX9 tyX9_ok nmX9 rfl (by decide) h.1 (by decide) rfl (by decide +kernel) rfl (by decide +kernel) rfl rfl rfl dX9_holesWithout_2 ?_
  have h := h.2
  refine q_aload_n C dX9_holesWithout_5 rfl (j := 0) rfl ?_
  refine q_iload_n C dX9_holesWithout_6 rfl (j := 1) rfl ?_
  have hcz := h.1
  have h := h.2
  refine q_ci (q_runV (As := [.int i1]) (st := []) C (c_X9_isFace l D cA lo h.2) (cwV 1 C.2.2.2.2.1 gX9_holesWithout_X9_isFace rfl rfl rfl (by decide +kernel) ⟨Nat.le_of_ble_eq_true rfl, Nat.le_of_ble_eq_true rfl⟩) h.1 (by decide) rfl rfl rfl (Nat.le_of_ble_eq_true rfl) dX9_holesWithout_7 ⟨Nat.le_trans (Nat.le_of_eq (Nat.add_zero _)) hcz.1, Nat.le_trans (Nat.le_of_eq (Nat.add_zero _)) hcz.2⟩) (fun r_1 M_z h => ?_)
  refine q_mem h.1 ?_
  have h := h.2
  refine q_if_ne (tgt := 19) C dX9_holesWithout_10 (by decide) (fun z => ?_) (fun z => ?_)
  · have h := h.1 z
    refine q_aload_n C dX9_holesWithout_19 rfl (j := 0) rfl ?_
    refine q_getR (ci := 9) (k0 := 4) (T := TX9) C inX9_holesWithout_X9 rfl (by decide) h.1 (by decide) rfl (by decide +kernel) rfl dX9_holesWithout_20 ?_
    obtain ⟨a_2, z, h⟩ := h.2
    refine q_ref z ?_
    refine q_iload_n C dX9_holesWithout_23 rfl (j := 1) rfl ?_
    obtain ⟨n_3, z1, z2, h⟩ := h
    refine q_gald C z1 z2 dX9_holesWithout_24 ?_
    obtain ⟨a_4, z, h⟩ := h
    refine q_ref z ?_
    refine q_astore_n (lv' := [(2, .ref a_4), (0, .ref a0), (1, .int i1)]) C dX9_holesWithout_25 rfl (by decide) rfl ?_
    refine q_aload_n C dX9_holesWithout_26 rfl (j := 1) rfl ?_
    refine q_getR (ci := 9) (k0 := 4) (T := TX9) C inX9_holesWithout_X9 rfl (by decide) h.1 (by decide) rfl (by decide +kernel) rfl dX9_holesWithout_27 ?_
    obtain ⟨a_5, z, h⟩ := h.2
    refine q_ref z ?_
    refine q_iload_n C dX9_holesWithout_30 rfl (j := 2) rfl ?_
    refine q_nullo C dX9_holesWithout_31 ?_
    exact h.elim
  · have h := h.2 z
    refine q_aload_n C dX9_holesWithout_13 rfl (j := 0) rfl ?_
    refine q_iconst (v := 1) C dX9_holesWithout_14 (by decide) ?_
    have hcz := h.1
    have h := h.2
    refine q_ci (q_runV (As := [.int 1]) (st := []) C (c_X9_refuse l D cA lo h.2) (cwV 1 C.2.2.2.2.1 gX9_holesWithout_X9_refuse rfl rfl rfl (by decide +kernel) ⟨Nat.le_of_ble_eq_true rfl, Nat.le_of_ble_eq_true rfl⟩) h.1 (by decide) rfl rfl rfl (Nat.le_of_ble_eq_true rfl) dX9_holesWithout_15 ⟨Nat.le_trans (Nat.le_of_eq (Nat.add_zero _)) hcz.1, Nat.le_trans (Nat.le_of_eq (Nat.add_zero _)) hcz.2⟩) (fun r_8 M_9 h => ?_)
    exact q_iret C hr hlk dX9_holesWithout_18 h.1 h.2.1 h.2.2
def T_X9_add (M : Mm) (a0 : Nat) (l1 : Int64) (Q : Mm → Prop) : Prop := kM M a0 = (9, 13) ∧ kM M a0 = (9, 13) ∧ Q (wL M a0 12 (((lM M a0 12) * 31) + l1))
theorem inX9_add_X9 : ∀ w ∈ wsX90, w ∈ wsX9_add := by decide +kernel
set_option maxRecDepth 100000 in
set_option maxHeartbeats 4000000 in
theorem c_X9_add (l : Launch) (D : va_G) (cA : Nat → ClassId) (lo : Nat) {M : Mm} {a0 : Nat} {l1 : Int64} {Q : Mm → Prop} (h : T_X9_add M a0 l1 Q) : Met l yX9_add wsX9_add ({ frames := 0, cells := 0, slots := 0, locals := 0 } : Room) (PcM D cA lo [.ref a0, .long l1] M) (QvM D cA lo Q) 0 0 (fun q => lo ≤ q) := by
  refine q_start (cc := cX9_add) (nL := 3) (ret := none) (by decide) rfl rfl (Nat.le_of_ble_eq_true rfl) ?_
  intro p e s m args below meth c C hr hlk hin
  unfold T_X9_add at h
  refine q_aload_n C dX9_add_0 rfl (j := 0) rfl ?_
  refine q_aload_n C dX9_add_1 rfl (j := 0) rfl ?_
  refine q_getL (ci := 9) (k0 := 12) (T := TX9) C inX9_add_X9 rfl (by decide) h.1 (by decide) rfl (by decide +kernel) rfl dX9_add_2 ?_
  have h := h.2
  refine q_ldc2 (v := 31) C (by decide +kernel) dX9_add_5 ?_
  refine q_lmul C dX9_add_8 ?_
  refine q_lload_n C dX9_add_9 rfl (j := 1) rfl ?_
  refine q_ladd C dX9_add_10 ?_
  refine q_putL (ci := 9) (k0 := 12) (T := TX9) (v := (((lM M a0 12) * 31) + l1)) (ty := .long) C inX9_add_X9 tyX9 tyX9_ok nmX9 rfl (by decide) h.1 (by decide) rfl (by decide +kernel) rfl (by decide +kernel) rfl rfl rfl dX9_add_11 ?_
  have h := h.2
  exact q_vret C hr hlk dX9_add_14 (Nat.le_of_ble_eq_true rfl) (Nat.le_of_ble_eq_true rfl) h
def S_X9_digest_68 (K68 : Nat → Int32 → Mm → Nat → Nat → Prop) (K152 : Nat → Int32 → Mm → Nat → Nat → Prop) (K96 : Nat → Int32 → Int32 → Mm → Nat → Nat → Prop) (K203 : Nat → Int32 → Nat → Int32 → Int32 → Mm → Nat → Nat → Prop) (K122 : Nat → Int32 → Int32 → Mm → Nat → Nat → Prop) (K230 : Nat → Int32 → Int32 → Mm → Nat → Nat → Prop) (Cc Zz : Nat) (Q : Int64 → Mm → Prop) (M : Mm) (a0 : Nat) (i1 : Int32) (cc zz : Nat) : Prop := kM M a0 = (9, 13) ∧ ((iM M a0 3) ≤ i1 → K152 a0 0 M cc zz) ∧ (¬ (iM M a0 3) ≤ i1 → kM M a0 = (9, 13) ∧ ∃ a_23 : Nat, rM M a0 2 = some a_23 ∧ ∃ n_24 : Nat, kM M a_23 = (101, n_24) ∧ vp_in i1 n_24 ∧ (¬ (iM M a_23 i1.toNatClampNeg) = 0 → (cc ≤ Cc ∧ zz ≤ Zz) ∧ kM M a0 = (9, 13) ∧ T_X9_add M a0 i1.toInt64 (fun M_26 => K96 a0 i1 0 M_26 cc zz)) ∧ ((iM M a_23 i1.toNatClampNeg) = 0 → K68 a0 (i1 + 1) M cc zz))
def S_X9_digest_152 (K68 : Nat → Int32 → Mm → Nat → Nat → Prop) (K152 : Nat → Int32 → Mm → Nat → Nat → Prop) (K96 : Nat → Int32 → Int32 → Mm → Nat → Nat → Prop) (K203 : Nat → Int32 → Nat → Int32 → Int32 → Mm → Nat → Nat → Prop) (K122 : Nat → Int32 → Int32 → Mm → Nat → Nat → Prop) (K230 : Nat → Int32 → Int32 → Mm → Nat → Nat → Prop) (Cc Zz : Nat) (Q : Int64 → Mm → Prop) (M : Mm) (a0 : Nat) (i1 : Int32) (cc zz : Nat) : Prop := kM M a0 = (9, 13) ∧ ((iM M a0 5) ≤ i1 → (cc ≤ Cc ∧ zz ≤ Zz) ∧ kM M a0 = (9, 13) ∧ T_X9_mayNow M a0 1 (fun r_27 => (cc ≤ Cc ∧ zz ≤ Zz) ∧ kM M a0 = (9, 13) ∧ T_X9_add M a0 r_27.toInt64 (fun M_29 => (cc ≤ Cc ∧ zz ≤ Zz) ∧ kM M_29 a0 = (9, 13) ∧ T_X9_mayNow M_29 a0 2 (fun r_30 => (cc ≤ Cc ∧ zz ≤ Zz) ∧ kM M_29 a0 = (9, 13) ∧ T_X9_add M_29 a0 r_30.toInt64 (fun M_32 => kM M_32 a0 = (9, 13) ∧ cc ≤ Cc ∧ zz ≤ Zz ∧ Q (lM M_32 a0 12) M_32))))) ∧ (¬ (iM M a0 5) ≤ i1 → kM M a0 = (9, 13) ∧ ∃ a_33 : Nat, rM M a0 4 = some a_33 ∧ ∃ n_34 : Nat, kM M a_33 = (121, n_34) ∧ vp_in i1 n_34 ∧ (∀ a_35 : Nat, (rM M a_33 i1.toNatClampNeg) = some a_35 → (cc ≤ Cc ∧ zz ≤ Zz) ∧ kM M a0 = (9, 13) ∧ T_X9_add M a0 i1.toInt64 (fun M_37 => kM M_37 a0 = (9, 13) ∧ ∃ a_38 : Nat, rM M_37 a0 4 = some a_38 ∧ ∃ n_39 : Nat, kM M_37 a_38 = (121, n_39) ∧ vp_in i1 n_39 ∧ ∃ a_40 : Nat, rM M_37 a_38 i1.toNatClampNeg = some a_40 ∧ ∃ k_42 n_41 : Nat, kM M_37 a_40 = (k_42, n_41) ∧ ak k_42 ∧ (cc ≤ Cc ∧ zz ≤ Zz) ∧ kM M_37 a0 = (9, 13) ∧ T_X9_add M_37 a0 ((nI n_41).toInt64) (fun M_44 => kM M_44 a0 = (9, 13) ∧ ∃ a_45 : Nat, rM M_44 a0 4 = some a_45 ∧ ∃ n_46 : Nat, kM M_44 a_45 = (121, n_46) ∧ vp_in i1 n_46 ∧ ∃ a_47 : Nat, rM M_44 a_45 i1.toNatClampNeg = some a_47 ∧ ∃ k_49 n_48 : Nat, kM M_44 a_47 = (k_49, n_48) ∧ ak k_49 ∧ K203 a0 i1 a_47 (nI n_48) 0 M_44 cc zz))) ∧ ((rM M a_33 i1.toNatClampNeg) = none → K152 a0 (i1 + 1) M cc zz))
def S_X9_digest_96 (K68 : Nat → Int32 → Mm → Nat → Nat → Prop) (K152 : Nat → Int32 → Mm → Nat → Nat → Prop) (K96 : Nat → Int32 → Int32 → Mm → Nat → Nat → Prop) (K203 : Nat → Int32 → Nat → Int32 → Int32 → Mm → Nat → Nat → Prop) (K122 : Nat → Int32 → Int32 → Mm → Nat → Nat → Prop) (K230 : Nat → Int32 → Int32 → Mm → Nat → Nat → Prop) (Cc Zz : Nat) (Q : Int64 → Mm → Prop) (M : Mm) (a0 : Nat) (i1 : Int32) (i2 : Int32) (cc zz : Nat) : Prop := (3 ≤ i2 → K122 a0 i1 0 M cc zz) ∧ (¬ 3 ≤ i2 → kM M a0 = (9, 13) ∧ ∃ a_50 : Nat, rM M a0 1 = some a_50 ∧ ∃ n_51 : Nat, kM M a_50 = (121, n_51) ∧ vp_in i1 n_51 ∧ ∃ a_52 : Nat, rM M a_50 i1.toNatClampNeg = some a_52 ∧ ∃ n_53 : Nat, kM M a_52 = (100, n_53) ∧ vp_in i2 n_53 ∧ (cc ≤ Cc ∧ zz ≤ Zz) ∧ kM M a0 = (9, 13) ∧ T_X9_add M a0 ((iM M a_52 i2.toNatClampNeg).toInt64) (fun M_55 => K96 a0 i1 (i2 + 1) M_55 cc zz))
def S_X9_digest_203 (K68 : Nat → Int32 → Mm → Nat → Nat → Prop) (K152 : Nat → Int32 → Mm → Nat → Nat → Prop) (K96 : Nat → Int32 → Int32 → Mm → Nat → Nat → Prop) (K203 : Nat → Int32 → Nat → Int32 → Int32 → Mm → Nat → Nat → Prop) (K122 : Nat → Int32 → Int32 → Mm → Nat → Nat → Prop) (K230 : Nat → Int32 → Int32 → Mm → Nat → Nat → Prop) (Cc Zz : Nat) (Q : Int64 → Mm → Prop) (M : Mm) (a0 : Nat) (i1 : Int32) (a2 : Nat) (i3 : Int32) (i4 : Int32) (cc zz : Nat) : Prop := (i3 ≤ i4 → K230 a0 i1 0 M cc zz) ∧ (¬ i3 ≤ i4 → ∃ n_56 : Nat, kM M a2 = (100, n_56) ∧ vp_in i4 n_56 ∧ (cc ≤ Cc ∧ zz ≤ Zz) ∧ kM M a0 = (9, 13) ∧ T_X9_add M a0 ((iM M a2 i4.toNatClampNeg).toInt64) (fun M_58 => K203 a0 i1 a2 i3 (i4 + 1) M_58 cc zz))
def S_X9_digest_122 (K68 : Nat → Int32 → Mm → Nat → Nat → Prop) (K152 : Nat → Int32 → Mm → Nat → Nat → Prop) (K96 : Nat → Int32 → Int32 → Mm → Nat → Nat → Prop) (K203 : Nat → Int32 → Nat → Int32 → Int32 → Mm → Nat → Nat → Prop) (K122 : Nat → Int32 → Int32 → Mm → Nat → Nat → Prop) (K230 : Nat → Int32 → Int32 → Mm → Nat → Nat → Prop) (Cc Zz : Nat) (Q : Int64 → Mm → Prop) (M : Mm) (a0 : Nat) (i1 : Int32) (i2 : Int32) (cc zz : Nat) : Prop := (4 ≤ i2 → K68 a0 (i1 + 1) M cc zz) ∧ (¬ 4 ≤ i2 → False)
def S_X9_digest_230 (K68 : Nat → Int32 → Mm → Nat → Nat → Prop) (K152 : Nat → Int32 → Mm → Nat → Nat → Prop) (K96 : Nat → Int32 → Int32 → Mm → Nat → Nat → Prop) (K203 : Nat → Int32 → Nat → Int32 → Int32 → Mm → Nat → Nat → Prop) (K122 : Nat → Int32 → Int32 → Mm → Nat → Nat → Prop) (K230 : Nat → Int32 → Int32 → Mm → Nat → Nat → Prop) (Cc Zz : Nat) (Q : Int64 → Mm → Prop) (M : Mm) (a0 : Nat) (i1 : Int32) (i2 : Int32) (cc zz : Nat) : Prop := (3 ≤ i2 → K152 a0 (i1 + 1) M cc zz) ∧ (¬ 3 ≤ i2 → False)
def T_X9_digest (Cc Zz : Nat) (M : Mm) (a0 : Nat) (Q : Int64 → Mm → Prop) : Prop := ∀ (K68 : Nat → Int32 → Mm → Nat → Nat → Prop) (K152 : Nat → Int32 → Mm → Nat → Nat → Prop) (K96 : Nat → Int32 → Int32 → Mm → Nat → Nat → Prop) (K203 : Nat → Int32 → Nat → Int32 → Int32 → Mm → Nat → Nat → Prop) (K122 : Nat → Int32 → Int32 → Mm → Nat → Nat → Prop) (K230 : Nat → Int32 → Int32 → Mm → Nat → Nat → Prop), (∀ (a0 : Nat) (i1 : Int32) (M : Mm) (cc zz : Nat), S_X9_digest_68 K68 K152 K96 K203 K122 K230 Cc Zz Q M a0 i1 cc zz → K68 a0 i1 M cc zz) → (∀ (a0 : Nat) (i1 : Int32) (M : Mm) (cc zz : Nat), S_X9_digest_152 K68 K152 K96 K203 K122 K230 Cc Zz Q M a0 i1 cc zz → K152 a0 i1 M cc zz) → (∀ (a0 : Nat) (i1 : Int32) (i2 : Int32) (M : Mm) (cc zz : Nat), S_X9_digest_96 K68 K152 K96 K203 K122 K230 Cc Zz Q M a0 i1 i2 cc zz → K96 a0 i1 i2 M cc zz) → (∀ (a0 : Nat) (i1 : Int32) (a2 : Nat) (i3 : Int32) (i4 : Int32) (M : Mm) (cc zz : Nat), S_X9_digest_203 K68 K152 K96 K203 K122 K230 Cc Zz Q M a0 i1 a2 i3 i4 cc zz → K203 a0 i1 a2 i3 i4 M cc zz) → (∀ (a0 : Nat) (i1 : Int32) (i2 : Int32) (M : Mm) (cc zz : Nat), S_X9_digest_122 K68 K152 K96 K203 K122 K230 Cc Zz Q M a0 i1 i2 cc zz → K122 a0 i1 i2 M cc zz) → (∀ (a0 : Nat) (i1 : Int32) (i2 : Int32) (M : Mm) (cc zz : Nat), S_X9_digest_230 K68 K152 K96 K203 K122 K230 Cc Zz Q M a0 i1 i2 cc zz → K230 a0 i1 i2 M cc zz) → kM M a0 = (9, 13) ∧ kM (wI M a0 0 0) a0 = (9, 13) ∧ (0 ≤ Cc ∧ 0 ≤ Zz) ∧ kM (wL (wI M a0 0 0) a0 12 58071) a0 = (9, 13) ∧ T_X9_pointsNow (wL (wI M a0 0 0) a0 12 58071) a0 (fun r_1 => (0 ≤ Cc ∧ 0 ≤ Zz) ∧ kM (wL (wI M a0 0 0) a0 12 58071) a0 = (9, 13) ∧ T_X9_add (wL (wI M a0 0 0) a0 12 58071) a0 r_1.toInt64 (fun M_3 => (0 ≤ Cc ∧ 0 ≤ Zz) ∧ kM M_3 a0 = (9, 13) ∧ T_X9_edgesNow M_3 a0 (fun r_4 => (0 ≤ Cc ∧ 0 ≤ Zz) ∧ kM M_3 a0 = (9, 13) ∧ T_X9_add M_3 a0 r_4.toInt64 (fun M_6 => (0 ≤ Cc ∧ 0 ≤ Zz) ∧ kM M_6 a0 = (9, 13) ∧ T_X9_facesNow M_6 a0 (fun r_7 => (0 ≤ Cc ∧ 0 ≤ Zz) ∧ kM M_6 a0 = (9, 13) ∧ T_X9_add M_6 a0 r_7.toInt64 (fun M_9 => ∃ dc_12 ds_12 : Nat, (0 + dc_12 ≤ Cc ∧ 0 + ds_12 ≤ Zz) ∧ kM M_9 a0 = (9, 13) ∧ T_X9_holesNow dc_12 ds_12 M_9 a0 (fun r_10 M_11 => ((0 + dc_12) ≤ Cc ∧ (0 + ds_12) ≤ Zz) ∧ kM M_11 a0 = (9, 13) ∧ T_X9_add M_11 a0 r_10.toInt64 (fun M_14 => ∃ dc_17 ds_17 : Nat, ((0 + dc_12) + dc_17 ≤ Cc ∧ (0 + ds_12) + ds_17 ≤ Zz) ∧ kM M_14 a0 = (9, 13) ∧ T_X9_groups dc_17 ds_17 M_14 a0 (-1) (fun r_15 M_16 => (((0 + dc_12) + dc_17) ≤ Cc ∧ ((0 + ds_12) + ds_17) ≤ Zz) ∧ kM M_16 a0 = (9, 13) ∧ T_X9_add M_16 a0 r_15.toInt64 (fun M_19 => (((0 + dc_12) + dc_17) ≤ Cc ∧ ((0 + ds_12) + ds_17) ≤ Zz) ∧ kM M_19 a0 = (9, 13) ∧ T_X9_volumeNow M_19 a0 (fun r_20 => (((0 + dc_12) + dc_17) ≤ Cc ∧ ((0 + ds_12) + ds_17) ≤ Zz) ∧ kM M_19 a0 = (9, 13) ∧ T_X9_add M_19 a0 r_20 (fun M_22 => K68 a0 0 M_22 ((0 + dc_12) + dc_17) ((0 + ds_12) + ds_17)))))))))))))
theorem inX9_digest_X9 : ∀ w ∈ wsX90, w ∈ wsX9_digest := by decide +kernel
set_option maxRecDepth 100000 in
set_option maxHeartbeats 4000000 in
theorem b_X9_digest_68 {p : Program} {l : Launch} {e : Env} {s : State} {m : MethodId} {args : Array Value} {below : List Frame} {meth : Method} {c : Code} {D : va_G} {cA : Nat → ClassId} {lo : Nat} (C : Cx p s m args c cX9_digest 6 RX9 wsX9_digest D cA lo) (hr : meth.sig.returnType = (some .long)) (hlk : meth.locks = false) {Q : Int64 → Mm → Prop} {Cc Zz : Nat} (M : Mm) (a0 : Nat) (i1 : Int32) (cc zz : Nat) (h : S_X9_digest_68 (fun (a0 : Nat) (i1 : Int32) (M : Mm) (cc zz : Nat) => QW p l e ({ frames := 1, cells := Cc, slots := Zz, locals := 30 } : Room) s m args below meth c (MQ below (QlM D cA lo Q) args s Cc Zz (fun q => lo ≤ q)) 6 D cA lo cc zz M 68 [(0, .ref a0), (1, .int i1)] []) (fun (a0 : Nat) (i1 : Int32) (M : Mm) (cc zz : Nat) => QW p l e ({ frames := 1, cells := Cc, slots := Zz, locals := 30 } : Room) s m args below meth c (MQ below (QlM D cA lo Q) args s Cc Zz (fun q => lo ≤ q)) 6 D cA lo cc zz M 152 [(0, .ref a0), (1, .int i1)] []) (fun (a0 : Nat) (i1 : Int32) (i2 : Int32) (M : Mm) (cc zz : Nat) => QW p l e ({ frames := 1, cells := Cc, slots := Zz, locals := 30 } : Room) s m args below meth c (MQ below (QlM D cA lo Q) args s Cc Zz (fun q => lo ≤ q)) 6 D cA lo cc zz M 96 [(0, .ref a0), (1, .int i1), (2, .int i2)] []) (fun (a0 : Nat) (i1 : Int32) (a2 : Nat) (i3 : Int32) (i4 : Int32) (M : Mm) (cc zz : Nat) => QW p l e ({ frames := 1, cells := Cc, slots := Zz, locals := 30 } : Room) s m args below meth c (MQ below (QlM D cA lo Q) args s Cc Zz (fun q => lo ≤ q)) 6 D cA lo cc zz M 203 [(0, .ref a0), (1, .int i1), (2, .ref a2), (3, .int i3), (4, .int i4)] []) (fun (a0 : Nat) (i1 : Int32) (i2 : Int32) (M : Mm) (cc zz : Nat) => QW p l e ({ frames := 1, cells := Cc, slots := Zz, locals := 30 } : Room) s m args below meth c (MQ below (QlM D cA lo Q) args s Cc Zz (fun q => lo ≤ q)) 6 D cA lo cc zz M 122 [(0, .ref a0), (1, .int i1), (2, .int i2)] []) (fun (a0 : Nat) (i1 : Int32) (i2 : Int32) (M : Mm) (cc zz : Nat) => QW p l e ({ frames := 1, cells := Cc, slots := Zz, locals := 30 } : Room) s m args below meth c (MQ below (QlM D cA lo Q) args s Cc Zz (fun q => lo ≤ q)) 6 D cA lo cc zz M 230 [(0, .ref a0), (1, .int i1), (2, .int i2)] []) Cc Zz Q M a0 i1 cc zz) : QW p l e ({ frames := 1, cells := Cc, slots := Zz, locals := 30 } : Room) s m args below meth c (MQ below (QlM D cA lo Q) args s Cc Zz (fun q => lo ≤ q)) 6 D cA lo cc zz M 68 [(0, .ref a0), (1, .int i1)] [] := by
  unfold S_X9_digest_68 at h
  refine q_iload_n C dX9_digest_68 rfl (j := 1) rfl ?_
  refine q_aload_n C dX9_digest_69 rfl (j := 0) rfl ?_
  refine q_getI (ci := 9) (k0 := 3) (T := TX9) C inX9_digest_X9 rfl (by decide) h.1 (by decide) rfl (by decide +kernel) rfl dX9_digest_70 ?_
  have h := h.2
  refine q_icmp_ge (tgt := 150) C dX9_digest_73 (by decide) (fun z => ?_) (fun z => ?_)
  · have h := h.1 z
    refine q_iconst (v := 0) C dX9_digest_150 (by decide) ?_
    refine q_istore_n (lv' := [(1, .int 0), (0, .ref a0)]) C dX9_digest_151 rfl (by decide) rfl ?_
    exact q_sub [1, 0] rfl h
  · have h := h.2 z
    refine q_aload_n C dX9_digest_76 rfl (j := 0) rfl ?_
    refine q_getR (ci := 9) (k0 := 2) (T := TX9) C inX9_digest_X9 rfl (by decide) h.1 (by decide) rfl (by decide +kernel) rfl dX9_digest_77 ?_
    obtain ⟨a_23, z, h⟩ := h.2
    refine q_ref z ?_
    refine q_iload_n C dX9_digest_80 rfl (j := 1) rfl ?_
    obtain ⟨n_24, z1, z2, h⟩ := h
    refine q_zald C z1 z2 dX9_digest_81 ?_
    refine q_if_ne (tgt := 88) C dX9_digest_82 (by decide) (fun z => ?_) (fun z => ?_)
    · have h := h.1 z
      refine q_aload_n C dX9_digest_88 rfl (j := 0) rfl ?_
      refine q_iload_n C dX9_digest_89 rfl (j := 1) rfl ?_
      refine q_i2l C dX9_digest_90 ?_
      have hcz := h.1
      have h := h.2
      refine q_cv (q_runV (As := [.long i1.toInt64]) (st := []) C (c_X9_add l D cA lo h.2) (cwV 1 C.2.2.2.2.1 gX9_digest_X9_add rfl rfl rfl (by decide +kernel) ⟨Nat.le_of_ble_eq_true rfl, Nat.le_of_ble_eq_true rfl⟩) h.1 (by decide) rfl rfl rfl (Nat.le_of_ble_eq_true rfl) dX9_digest_91 ⟨Nat.le_trans (Nat.le_of_eq (Nat.add_zero _)) hcz.1, Nat.le_trans (Nat.le_of_eq (Nat.add_zero _)) hcz.2⟩) (fun M_26 h => ?_)
      refine q_iconst (v := 0) C dX9_digest_94 (by decide) ?_
      refine q_istore_n (lv' := [(2, .int 0), (0, .ref a0), (1, .int i1)]) C dX9_digest_95 rfl (by decide) rfl ?_
      exact q_sub [1, 2, 0] rfl h
    · have h := h.2 z
      refine q_goto (tgt := 144) C dX9_digest_85 (by decide) ?_
      refine q_iinc (v := (i1 + 1)) (lv' := [(1, .int (i1 + 1)), (0, .ref a0)]) C dX9_digest_144 (j := 1) rfl rfl (by decide) rfl ?_
      refine q_goto (tgt := 68) C dX9_digest_147 (by decide) ?_
      exact q_sub [1, 0] rfl h
set_option maxRecDepth 100000 in
set_option maxHeartbeats 4000000 in
theorem b_X9_digest_152 {p : Program} {l : Launch} {e : Env} {s : State} {m : MethodId} {args : Array Value} {below : List Frame} {meth : Method} {c : Code} {D : va_G} {cA : Nat → ClassId} {lo : Nat} (C : Cx p s m args c cX9_digest 6 RX9 wsX9_digest D cA lo) (hr : meth.sig.returnType = (some .long)) (hlk : meth.locks = false) {Q : Int64 → Mm → Prop} {Cc Zz : Nat} (M : Mm) (a0 : Nat) (i1 : Int32) (cc zz : Nat) (h : S_X9_digest_152 (fun (a0 : Nat) (i1 : Int32) (M : Mm) (cc zz : Nat) => QW p l e ({ frames := 1, cells := Cc, slots := Zz, locals := 30 } : Room) s m args below meth c (MQ below (QlM D cA lo Q) args s Cc Zz (fun q => lo ≤ q)) 6 D cA lo cc zz M 68 [(0, .ref a0), (1, .int i1)] []) (fun (a0 : Nat) (i1 : Int32) (M : Mm) (cc zz : Nat) => QW p l e ({ frames := 1, cells := Cc, slots := Zz, locals := 30 } : Room) s m args below meth c (MQ below (QlM D cA lo Q) args s Cc Zz (fun q => lo ≤ q)) 6 D cA lo cc zz M 152 [(0, .ref a0), (1, .int i1)] []) (fun (a0 : Nat) (i1 : Int32) (i2 : Int32) (M : Mm) (cc zz : Nat) => QW p l e ({ frames := 1, cells := Cc, slots := Zz, locals := 30 } : Room) s m args below meth c (MQ below (QlM D cA lo Q) args s Cc Zz (fun q => lo ≤ q)) 6 D cA lo cc zz M 96 [(0, .ref a0), (1, .int i1), (2, .int i2)] []) (fun (a0 : Nat) (i1 : Int32) (a2 : Nat) (i3 : Int32) (i4 : Int32) (M : Mm) (cc zz : Nat) => QW p l e ({ frames := 1, cells := Cc, slots := Zz, locals := 30 } : Room) s m args below meth c (MQ below (QlM D cA lo Q) args s Cc Zz (fun q => lo ≤ q)) 6 D cA lo cc zz M 203 [(0, .ref a0), (1, .int i1), (2, .ref a2), (3, .int i3), (4, .int i4)] []) (fun (a0 : Nat) (i1 : Int32) (i2 : Int32) (M : Mm) (cc zz : Nat) => QW p l e ({ frames := 1, cells := Cc, slots := Zz, locals := 30 } : Room) s m args below meth c (MQ below (QlM D cA lo Q) args s Cc Zz (fun q => lo ≤ q)) 6 D cA lo cc zz M 122 [(0, .ref a0), (1, .int i1), (2, .int i2)] []) (fun (a0 : Nat) (i1 : Int32) (i2 : Int32) (M : Mm) (cc zz : Nat) => QW p l e ({ frames := 1, cells := Cc, slots := Zz, locals := 30 } : Room) s m args below meth c (MQ below (QlM D cA lo Q) args s Cc Zz (fun q => lo ≤ q)) 6 D cA lo cc zz M 230 [(0, .ref a0), (1, .int i1), (2, .int i2)] []) Cc Zz Q M a0 i1 cc zz) : QW p l e ({ frames := 1, cells := Cc, slots := Zz, locals := 30 } : Room) s m args below meth c (MQ below (QlM D cA lo Q) args s Cc Zz (fun q => lo ≤ q)) 6 D cA lo cc zz M 152 [(0, .ref a0), (1, .int i1)] [] := by
  unfold S_X9_digest_152 at h
  refine q_iload_n C dX9_digest_152 rfl (j := 1) rfl ?_
  refine q_aload_n C dX9_digest_153 rfl (j := 0) rfl ?_
  refine q_getI (ci := 9) (k0 := 5) (T := TX9) C inX9_digest_X9 rfl (by decide) h.1 (by decide) rfl (by decide +kernel) rfl dX9_digest_154 ?_
  have h := h.2
  refine q_icmp_ge (tgt := 258) C dX9_digest_157 (by decide) (fun z => ?_) (fun z => ?_)
  · have h := h.1 z
    refine q_aload_n C dX9_digest_258 rfl (j := 0) rfl ?_
    refine q_aload_n C dX9_digest_259 rfl (j := 0) rfl ?_
    refine q_iconst (v := 1) C dX9_digest_260 (by decide) ?_
    have hcz := h.1
    have h := h.2
    refine q_ci (q_runV (As := [.int 1]) (st := [.ref a0]) C (c_X9_mayNow l D cA lo h.2) (cwV 1 C.2.2.2.2.1 gX9_digest_X9_mayNow rfl rfl rfl (by decide +kernel) ⟨Nat.le_of_ble_eq_true rfl, Nat.le_of_ble_eq_true rfl⟩) h.1 (by decide) rfl rfl rfl (Nat.le_of_ble_eq_true rfl) dX9_digest_261 ⟨Nat.le_trans (Nat.le_of_eq (Nat.add_zero _)) hcz.1, Nat.le_trans (Nat.le_of_eq (Nat.add_zero _)) hcz.2⟩) (fun r_27 M_z h => ?_)
    refine q_mem h.1 ?_
    have h := h.2
    refine q_i2l C dX9_digest_264 ?_
    have hcz := h.1
    have h := h.2
    refine q_cv (q_runV (As := [.long r_27.toInt64]) (st := []) C (c_X9_add l D cA lo h.2) (cwV 1 C.2.2.2.2.1 gX9_digest_X9_add rfl rfl rfl (by decide +kernel) ⟨Nat.le_of_ble_eq_true rfl, Nat.le_of_ble_eq_true rfl⟩) h.1 (by decide) rfl rfl rfl (Nat.le_of_ble_eq_true rfl) dX9_digest_265 ⟨Nat.le_trans (Nat.le_of_eq (Nat.add_zero _)) hcz.1, Nat.le_trans (Nat.le_of_eq (Nat.add_zero _)) hcz.2⟩) (fun M_29 h => ?_)
    refine q_aload_n C dX9_digest_268 rfl (j := 0) rfl ?_
    refine q_aload_n C dX9_digest_269 rfl (j := 0) rfl ?_
    refine q_iconst (v := 2) C dX9_digest_270 (by decide) ?_
    have hcz := h.1
    have h := h.2
    refine q_ci (q_runV (As := [.int 2]) (st := [.ref a0]) C (c_X9_mayNow l D cA lo h.2) (cwV 1 C.2.2.2.2.1 gX9_digest_X9_mayNow rfl rfl rfl (by decide +kernel) ⟨Nat.le_of_ble_eq_true rfl, Nat.le_of_ble_eq_true rfl⟩) h.1 (by decide) rfl rfl rfl (Nat.le_of_ble_eq_true rfl) dX9_digest_271 ⟨Nat.le_trans (Nat.le_of_eq (Nat.add_zero _)) hcz.1, Nat.le_trans (Nat.le_of_eq (Nat.add_zero _)) hcz.2⟩) (fun r_30 M_z h => ?_)
    refine q_mem h.1 ?_
    have h := h.2
    refine q_i2l C dX9_digest_274 ?_
    have hcz := h.1
    have h := h.2
    refine q_cv (q_runV (As := [.long r_30.toInt64]) (st := []) C (c_X9_add l D cA lo h.2) (cwV 1 C.2.2.2.2.1 gX9_digest_X9_add rfl rfl rfl (by decide +kernel) ⟨Nat.le_of_ble_eq_true rfl, Nat.le_of_ble_eq_true rfl⟩) h.1 (by decide) rfl rfl rfl (Nat.le_of_ble_eq_true rfl) dX9_digest_275 ⟨Nat.le_trans (Nat.le_of_eq (Nat.add_zero _)) hcz.1, Nat.le_trans (Nat.le_of_eq (Nat.add_zero _)) hcz.2⟩) (fun M_32 h => ?_)
    refine q_aload_n C dX9_digest_278 rfl (j := 0) rfl ?_
    refine q_getL (ci := 9) (k0 := 12) (T := TX9) C inX9_digest_X9 rfl (by decide) h.1 (by decide) rfl (by decide +kernel) rfl dX9_digest_279 ?_
    have h := h.2
    exact q_lret C hr hlk dX9_digest_282 h.1 h.2.1 h.2.2
  · have h := h.2 z
    refine q_aload_n C dX9_digest_160 rfl (j := 0) rfl ?_
    refine q_getR (ci := 9) (k0 := 4) (T := TX9) C inX9_digest_X9 rfl (by decide) h.1 (by decide) rfl (by decide +kernel) rfl dX9_digest_161 ?_
    obtain ⟨a_33, z, h⟩ := h.2
    refine q_ref z ?_
    refine q_iload_n C dX9_digest_164 rfl (j := 1) rfl ?_
    obtain ⟨n_34, z1, z2, h⟩ := h
    refine q_gald C z1 z2 dX9_digest_165 ?_
    refine q_ifnonnull (tgt := 172) C dX9_digest_166 (by decide) (fun a_35 z => ?_) (fun z => ?_)
    · have h := h.1 _ z
      refine q_aload_n C dX9_digest_172 rfl (j := 0) rfl ?_
      refine q_iload_n C dX9_digest_173 rfl (j := 1) rfl ?_
      refine q_i2l C dX9_digest_174 ?_
      have hcz := h.1
      have h := h.2
      refine q_cv (q_runV (As := [.long i1.toInt64]) (st := []) C (c_X9_add l D cA lo h.2) (cwV 1 C.2.2.2.2.1 gX9_digest_X9_add rfl rfl rfl (by decide +kernel) ⟨Nat.le_of_ble_eq_true rfl, Nat.le_of_ble_eq_true rfl⟩) h.1 (by decide) rfl rfl rfl (Nat.le_of_ble_eq_true rfl) dX9_digest_175 ⟨Nat.le_trans (Nat.le_of_eq (Nat.add_zero _)) hcz.1, Nat.le_trans (Nat.le_of_eq (Nat.add_zero _)) hcz.2⟩) (fun M_37 h => ?_)
      refine q_aload_n C dX9_digest_178 rfl (j := 0) rfl ?_
      refine q_aload_n C dX9_digest_179 rfl (j := 0) rfl ?_
      refine q_getR (ci := 9) (k0 := 4) (T := TX9) C inX9_digest_X9 rfl (by decide) h.1 (by decide) rfl (by decide +kernel) rfl dX9_digest_180 ?_
      obtain ⟨a_38, z, h⟩ := h.2
      refine q_ref z ?_
      refine q_iload_n C dX9_digest_183 rfl (j := 1) rfl ?_
      obtain ⟨n_39, z1, z2, h⟩ := h
      refine q_gald C z1 z2 dX9_digest_184 ?_
      obtain ⟨a_40, z, h⟩ := h
      refine q_ref z ?_
      obtain ⟨k_42, n_41, z1, z2, h⟩ := h
      refine q_alen C z1 z2 dX9_digest_185 ?_
      refine q_i2l C dX9_digest_186 ?_
      have hcz := h.1
      have h := h.2
      refine q_cv (q_runV (As := [.long ((nI n_41).toInt64)]) (st := []) C (c_X9_add l D cA lo h.2) (cwV 1 C.2.2.2.2.1 gX9_digest_X9_add rfl rfl rfl (by decide +kernel) ⟨Nat.le_of_ble_eq_true rfl, Nat.le_of_ble_eq_true rfl⟩) h.1 (by decide) rfl rfl rfl (Nat.le_of_ble_eq_true rfl) dX9_digest_187 ⟨Nat.le_trans (Nat.le_of_eq (Nat.add_zero _)) hcz.1, Nat.le_trans (Nat.le_of_eq (Nat.add_zero _)) hcz.2⟩) (fun M_44 h => ?_)
      refine q_aload_n C dX9_digest_190 rfl (j := 0) rfl ?_
      refine q_getR (ci := 9) (k0 := 4) (T := TX9) C inX9_digest_X9 rfl (by decide) h.1 (by decide) rfl (by decide +kernel) rfl dX9_digest_191 ?_
      obtain ⟨a_45, z, h⟩ := h.2
      refine q_ref z ?_
      refine q_iload_n C dX9_digest_194 rfl (j := 1) rfl ?_
      obtain ⟨n_46, z1, z2, h⟩ := h
      refine q_gald C z1 z2 dX9_digest_195 ?_
      obtain ⟨a_47, z, h⟩ := h
      refine q_ref z ?_
      refine q_astore_n (lv' := [(2, .ref a_47), (0, .ref a0), (1, .int i1)]) C dX9_digest_196 rfl (by decide) rfl ?_
      refine q_aload_n C dX9_digest_197 rfl (j := 0) rfl ?_
      obtain ⟨k_49, n_48, z1, z2, h⟩ := h
      refine q_alen C z1 z2 dX9_digest_198 ?_
      refine q_istore_n (lv' := [(3, .int (nI n_48)), (2, .ref a_47), (0, .ref a0), (1, .int i1)]) C dX9_digest_199 rfl (by decide) rfl ?_
      refine q_iconst (v := 0) C dX9_digest_200 (by decide) ?_
      refine q_istore (lv' := [(4, .int 0), (3, .int (nI n_48)), (2, .ref a_47), (0, .ref a0), (1, .int i1)]) C dX9_digest_201 (by decide) rfl ?_
      exact q_sub [3, 4, 2, 1, 0] rfl h
    · have h := h.2 z
      refine q_goto (tgt := 252) C dX9_digest_169 (by decide) ?_
      refine q_iinc (v := (i1 + 1)) (lv' := [(1, .int (i1 + 1)), (0, .ref a0)]) C dX9_digest_252 (j := 1) rfl rfl (by decide) rfl ?_
      refine q_goto (tgt := 152) C dX9_digest_255 (by decide) ?_
      exact q_sub [1, 0] rfl h
set_option maxRecDepth 100000 in
set_option maxHeartbeats 4000000 in
theorem b_X9_digest_96 {p : Program} {l : Launch} {e : Env} {s : State} {m : MethodId} {args : Array Value} {below : List Frame} {meth : Method} {c : Code} {D : va_G} {cA : Nat → ClassId} {lo : Nat} (C : Cx p s m args c cX9_digest 6 RX9 wsX9_digest D cA lo) (hr : meth.sig.returnType = (some .long)) (hlk : meth.locks = false) {Q : Int64 → Mm → Prop} {Cc Zz : Nat} (M : Mm) (a0 : Nat) (i1 : Int32) (i2 : Int32) (cc zz : Nat) (h : S_X9_digest_96 (fun (a0 : Nat) (i1 : Int32) (M : Mm) (cc zz : Nat) => QW p l e ({ frames := 1, cells := Cc, slots := Zz, locals := 30 } : Room) s m args below meth c (MQ below (QlM D cA lo Q) args s Cc Zz (fun q => lo ≤ q)) 6 D cA lo cc zz M 68 [(0, .ref a0), (1, .int i1)] []) (fun (a0 : Nat) (i1 : Int32) (M : Mm) (cc zz : Nat) => QW p l e ({ frames := 1, cells := Cc, slots := Zz, locals := 30 } : Room) s m args below meth c (MQ below (QlM D cA lo Q) args s Cc Zz (fun q => lo ≤ q)) 6 D cA lo cc zz M 152 [(0, .ref a0), (1, .int i1)] []) (fun (a0 : Nat) (i1 : Int32) (i2 : Int32) (M : Mm) (cc zz : Nat) => QW p l e ({ frames := 1, cells := Cc, slots := Zz, locals := 30 } : Room) s m args below meth c (MQ below (QlM D cA lo Q) args s Cc Zz (fun q => lo ≤ q)) 6 D cA lo cc zz M 96 [(0, .ref a0), (1, .int i1), (2, .int i2)] []) (fun (a0 : Nat) (i1 : Int32) (a2 : Nat) (i3 : Int32) (i4 : Int32) (M : Mm) (cc zz : Nat) => QW p l e ({ frames := 1, cells := Cc, slots := Zz, locals := 30 } : Room) s m args below meth c (MQ below (QlM D cA lo Q) args s Cc Zz (fun q => lo ≤ q)) 6 D cA lo cc zz M 203 [(0, .ref a0), (1, .int i1), (2, .ref a2), (3, .int i3), (4, .int i4)] []) (fun (a0 : Nat) (i1 : Int32) (i2 : Int32) (M : Mm) (cc zz : Nat) => QW p l e ({ frames := 1, cells := Cc, slots := Zz, locals := 30 } : Room) s m args below meth c (MQ below (QlM D cA lo Q) args s Cc Zz (fun q => lo ≤ q)) 6 D cA lo cc zz M 122 [(0, .ref a0), (1, .int i1), (2, .int i2)] []) (fun (a0 : Nat) (i1 : Int32) (i2 : Int32) (M : Mm) (cc zz : Nat) => QW p l e ({ frames := 1, cells := Cc, slots := Zz, locals := 30 } : Room) s m args below meth c (MQ below (QlM D cA lo Q) args s Cc Zz (fun q => lo ≤ q)) 6 D cA lo cc zz M 230 [(0, .ref a0), (1, .int i1), (2, .int i2)] []) Cc Zz Q M a0 i1 i2 cc zz) : QW p l e ({ frames := 1, cells := Cc, slots := Zz, locals := 30 } : Room) s m args below meth c (MQ below (QlM D cA lo Q) args s Cc Zz (fun q => lo ≤ q)) 6 D cA lo cc zz M 96 [(0, .ref a0), (1, .int i1), (2, .int i2)] [] := by
  unfold S_X9_digest_96 at h
  refine q_iload_n C dX9_digest_96 rfl (j := 2) rfl ?_
  refine q_iconst (v := 3) C dX9_digest_97 (by decide) ?_
  refine q_icmp_ge (tgt := 120) C dX9_digest_98 (by decide) (fun z => ?_) (fun z => ?_)
  · have h := h.1 z
    refine q_iconst (v := 0) C dX9_digest_120 (by decide) ?_
    refine q_istore_n (lv' := [(2, .int 0), (0, .ref a0), (1, .int i1)]) C dX9_digest_121 rfl (by decide) rfl ?_
    exact q_sub [1, 2, 0] rfl h
  · have h := h.2 z
    refine q_aload_n C dX9_digest_101 rfl (j := 0) rfl ?_
    refine q_aload_n C dX9_digest_102 rfl (j := 0) rfl ?_
    refine q_getR (ci := 9) (k0 := 1) (T := TX9) C inX9_digest_X9 rfl (by decide) h.1 (by decide) rfl (by decide +kernel) rfl dX9_digest_103 ?_
    obtain ⟨a_50, z, h⟩ := h.2
    refine q_ref z ?_
    refine q_iload_n C dX9_digest_106 rfl (j := 1) rfl ?_
    obtain ⟨n_51, z1, z2, h⟩ := h
    refine q_gald C z1 z2 dX9_digest_107 ?_
    obtain ⟨a_52, z, h⟩ := h
    refine q_ref z ?_
    refine q_iload_n C dX9_digest_108 rfl (j := 2) rfl ?_
    obtain ⟨n_53, z1, z2, h⟩ := h
    refine q_iald C z1 z2 dX9_digest_109 ?_
    refine q_i2l C dX9_digest_110 ?_
    have hcz := h.1
    have h := h.2
    refine q_cv (q_runV (As := [.long ((iM M a_52 i2.toNatClampNeg).toInt64)]) (st := []) C (c_X9_add l D cA lo h.2) (cwV 1 C.2.2.2.2.1 gX9_digest_X9_add rfl rfl rfl (by decide +kernel) ⟨Nat.le_of_ble_eq_true rfl, Nat.le_of_ble_eq_true rfl⟩) h.1 (by decide) rfl rfl rfl (Nat.le_of_ble_eq_true rfl) dX9_digest_111 ⟨Nat.le_trans (Nat.le_of_eq (Nat.add_zero _)) hcz.1, Nat.le_trans (Nat.le_of_eq (Nat.add_zero _)) hcz.2⟩) (fun M_55 h => ?_)
    refine q_iinc (v := (i2 + 1)) (lv' := [(2, .int (i2 + 1)), (0, .ref a0), (1, .int i1)]) C dX9_digest_114 (j := 2) rfl rfl (by decide) rfl ?_
    refine q_goto (tgt := 96) C dX9_digest_117 (by decide) ?_
    exact q_sub [1, 2, 0] rfl h
set_option maxRecDepth 100000 in
set_option maxHeartbeats 4000000 in
theorem b_X9_digest_203 {p : Program} {l : Launch} {e : Env} {s : State} {m : MethodId} {args : Array Value} {below : List Frame} {meth : Method} {c : Code} {D : va_G} {cA : Nat → ClassId} {lo : Nat} (C : Cx p s m args c cX9_digest 6 RX9 wsX9_digest D cA lo) (hr : meth.sig.returnType = (some .long)) (hlk : meth.locks = false) {Q : Int64 → Mm → Prop} {Cc Zz : Nat} (M : Mm) (a0 : Nat) (i1 : Int32) (a2 : Nat) (i3 : Int32) (i4 : Int32) (cc zz : Nat) (h : S_X9_digest_203 (fun (a0 : Nat) (i1 : Int32) (M : Mm) (cc zz : Nat) => QW p l e ({ frames := 1, cells := Cc, slots := Zz, locals := 30 } : Room) s m args below meth c (MQ below (QlM D cA lo Q) args s Cc Zz (fun q => lo ≤ q)) 6 D cA lo cc zz M 68 [(0, .ref a0), (1, .int i1)] []) (fun (a0 : Nat) (i1 : Int32) (M : Mm) (cc zz : Nat) => QW p l e ({ frames := 1, cells := Cc, slots := Zz, locals := 30 } : Room) s m args below meth c (MQ below (QlM D cA lo Q) args s Cc Zz (fun q => lo ≤ q)) 6 D cA lo cc zz M 152 [(0, .ref a0), (1, .int i1)] []) (fun (a0 : Nat) (i1 : Int32) (i2 : Int32) (M : Mm) (cc zz : Nat) => QW p l e ({ frames := 1, cells := Cc, slots := Zz, locals := 30 } : Room) s m args below meth c (MQ below (QlM D cA lo Q) args s Cc Zz (fun q => lo ≤ q)) 6 D cA lo cc zz M 96 [(0, .ref a0), (1, .int i1), (2, .int i2)] []) (fun (a0 : Nat) (i1 : Int32) (a2 : Nat) (i3 : Int32) (i4 : Int32) (M : Mm) (cc zz : Nat) => QW p l e ({ frames := 1, cells := Cc, slots := Zz, locals := 30 } : Room) s m args below meth c (MQ below (QlM D cA lo Q) args s Cc Zz (fun q => lo ≤ q)) 6 D cA lo cc zz M 203 [(0, .ref a0), (1, .int i1), (2, .ref a2), (3, .int i3), (4, .int i4)] []) (fun (a0 : Nat) (i1 : Int32) (i2 : Int32) (M : Mm) (cc zz : Nat) => QW p l e ({ frames := 1, cells := Cc, slots := Zz, locals := 30 } : Room) s m args below meth c (MQ below (QlM D cA lo Q) args s Cc Zz (fun q => lo ≤ q)) 6 D cA lo cc zz M 122 [(0, .ref a0), (1, .int i1), (2, .int i2)] []) (fun (a0 : Nat) (i1 : Int32) (i2 : Int32) (M : Mm) (cc zz : Nat) => QW p l e ({ frames := 1, cells := Cc, slots := Zz, locals := 30 } : Room) s m args below meth c (MQ below (QlM D cA lo Q) args s Cc Zz (fun q => lo ≤ q)) 6 D cA lo cc zz M 230 [(0, .ref a0), (1, .int i1), (2, .int i2)] []) Cc Zz Q M a0 i1 a2 i3 i4 cc zz) : QW p l e ({ frames := 1, cells := Cc, slots := Zz, locals := 30 } : Room) s m args below meth c (MQ below (QlM D cA lo Q) args s Cc Zz (fun q => lo ≤ q)) 6 D cA lo cc zz M 203 [(0, .ref a0), (1, .int i1), (2, .ref a2), (3, .int i3), (4, .int i4)] [] := by
  unfold S_X9_digest_203 at h
  refine q_iload C dX9_digest_203 (j := 4) rfl ?_
  refine q_iload_n C dX9_digest_205 rfl (j := 3) rfl ?_
  refine q_icmp_ge (tgt := 228) C dX9_digest_206 (by decide) (fun z => ?_) (fun z => ?_)
  · have h := h.1 z
    refine q_iconst (v := 0) C dX9_digest_228 (by decide) ?_
    refine q_istore_n (lv' := [(2, .int 0), (0, .ref a0), (1, .int i1), (3, .int i3), (4, .int i4)]) C dX9_digest_229 rfl (by decide) rfl ?_
    exact q_sub [1, 2, 0] rfl h
  · have h := h.2 z
    refine q_aload_n C dX9_digest_209 rfl (j := 2) rfl ?_
    refine q_iload C dX9_digest_210 (j := 4) rfl ?_
    obtain ⟨n_56, z1, z2, h⟩ := h
    refine q_iald C z1 z2 dX9_digest_212 ?_
    refine q_istore (lv' := [(5, .int (iM M a2 i4.toNatClampNeg)), (0, .ref a0), (1, .int i1), (2, .ref a2), (3, .int i3), (4, .int i4)]) C dX9_digest_213 (by decide) rfl ?_
    refine q_aload_n C dX9_digest_215 rfl (j := 1) rfl ?_
    refine q_iload C dX9_digest_216 (j := 0) rfl ?_
    refine q_i2l C dX9_digest_218 ?_
    have hcz := h.1
    have h := h.2
    refine q_cv (q_runV (As := [.long ((iM M a2 i4.toNatClampNeg).toInt64)]) (st := []) C (c_X9_add l D cA lo h.2) (cwV 1 C.2.2.2.2.1 gX9_digest_X9_add rfl rfl rfl (by decide +kernel) ⟨Nat.le_of_ble_eq_true rfl, Nat.le_of_ble_eq_true rfl⟩) h.1 (by decide) rfl rfl rfl (Nat.le_of_ble_eq_true rfl) dX9_digest_219 ⟨Nat.le_trans (Nat.le_of_eq (Nat.add_zero _)) hcz.1, Nat.le_trans (Nat.le_of_eq (Nat.add_zero _)) hcz.2⟩) (fun M_58 h => ?_)
    refine q_iinc (v := (i4 + 1)) (lv' := [(4, .int (i4 + 1)), (5, .int (iM M a2 i4.toNatClampNeg)), (0, .ref a0), (1, .int i1), (2, .ref a2), (3, .int i3)]) C dX9_digest_222 (j := 5) rfl rfl (by decide) rfl ?_
    refine q_goto (tgt := 203) C dX9_digest_225 (by decide) ?_
    exact q_sub [2, 3, 4, 5, 0] rfl h
set_option maxRecDepth 100000 in
set_option maxHeartbeats 4000000 in
theorem b_X9_digest_122 {p : Program} {l : Launch} {e : Env} {s : State} {m : MethodId} {args : Array Value} {below : List Frame} {meth : Method} {c : Code} {D : va_G} {cA : Nat → ClassId} {lo : Nat} (C : Cx p s m args c cX9_digest 6 RX9 wsX9_digest D cA lo) (hr : meth.sig.returnType = (some .long)) (hlk : meth.locks = false) {Q : Int64 → Mm → Prop} {Cc Zz : Nat} (M : Mm) (a0 : Nat) (i1 : Int32) (i2 : Int32) (cc zz : Nat) (h : S_X9_digest_122 (fun (a0 : Nat) (i1 : Int32) (M : Mm) (cc zz : Nat) => QW p l e ({ frames := 1, cells := Cc, slots := Zz, locals := 30 } : Room) s m args below meth c (MQ below (QlM D cA lo Q) args s Cc Zz (fun q => lo ≤ q)) 6 D cA lo cc zz M 68 [(0, .ref a0), (1, .int i1)] []) (fun (a0 : Nat) (i1 : Int32) (M : Mm) (cc zz : Nat) => QW p l e ({ frames := 1, cells := Cc, slots := Zz, locals := 30 } : Room) s m args below meth c (MQ below (QlM D cA lo Q) args s Cc Zz (fun q => lo ≤ q)) 6 D cA lo cc zz M 152 [(0, .ref a0), (1, .int i1)] []) (fun (a0 : Nat) (i1 : Int32) (i2 : Int32) (M : Mm) (cc zz : Nat) => QW p l e ({ frames := 1, cells := Cc, slots := Zz, locals := 30 } : Room) s m args below meth c (MQ below (QlM D cA lo Q) args s Cc Zz (fun q => lo ≤ q)) 6 D cA lo cc zz M 96 [(0, .ref a0), (1, .int i1), (2, .int i2)] []) (fun (a0 : Nat) (i1 : Int32) (a2 : Nat) (i3 : Int32) (i4 : Int32) (M : Mm) (cc zz : Nat) => QW p l e ({ frames := 1, cells := Cc, slots := Zz, locals := 30 } : Room) s m args below meth c (MQ below (QlM D cA lo Q) args s Cc Zz (fun q => lo ≤ q)) 6 D cA lo cc zz M 203 [(0, .ref a0), (1, .int i1), (2, .ref a2), (3, .int i3), (4, .int i4)] []) (fun (a0 : Nat) (i1 : Int32) (i2 : Int32) (M : Mm) (cc zz : Nat) => QW p l e ({ frames := 1, cells := Cc, slots := Zz, locals := 30 } : Room) s m args below meth c (MQ below (QlM D cA lo Q) args s Cc Zz (fun q => lo ≤ q)) 6 D cA lo cc zz M 122 [(0, .ref a0), (1, .int i1), (2, .int i2)] []) (fun (a0 : Nat) (i1 : Int32) (i2 : Int32) (M : Mm) (cc zz : Nat) => QW p l e ({ frames := 1, cells := Cc, slots := Zz, locals := 30 } : Room) s m args below meth c (MQ below (QlM D cA lo Q) args s Cc Zz (fun q => lo ≤ q)) 6 D cA lo cc zz M 230 [(0, .ref a0), (1, .int i1), (2, .int i2)] []) Cc Zz Q M a0 i1 i2 cc zz) : QW p l e ({ frames := 1, cells := Cc, slots := Zz, locals := 30 } : Room) s m args below meth c (MQ below (QlM D cA lo Q) args s Cc Zz (fun q => lo ≤ q)) 6 D cA lo cc zz M 122 [(0, .ref a0), (1, .int i1), (2, .int i2)] [] := by
  unfold S_X9_digest_122 at h
  refine q_iload_n C dX9_digest_122 rfl (j := 2) rfl ?_
  refine q_iconst (v := 4) C dX9_digest_123 (by decide) ?_
  refine q_icmp_ge (tgt := 144) C dX9_digest_124 (by decide) (fun z => ?_) (fun z => ?_)
  · have h := h.1 z
    refine q_iinc (v := (i1 + 1)) (lv' := [(1, .int (i1 + 1)), (0, .ref a0), (2, .int i2)]) C dX9_digest_144 (j := 1) rfl rfl (by decide) rfl ?_
    refine q_goto (tgt := 68) C dX9_digest_147 (by decide) ?_
    exact q_sub [1, 0] rfl h
  · have h := h.2 z
    refine q_aload_n C dX9_digest_127 rfl (j := 0) rfl ?_
    refine q_aload_n C dX9_digest_128 rfl (j := 0) rfl ?_
    refine q_iload_n C dX9_digest_129 rfl (j := 1) rfl ?_
    refine q_iload_n C dX9_digest_130 rfl (j := 2) rfl ?_
    exact h.elim
set_option maxRecDepth 100000 in
set_option maxHeartbeats 4000000 in
theorem b_X9_digest_230 {p : Program} {l : Launch} {e : Env} {s : State} {m : MethodId} {args : Array Value} {below : List Frame} {meth : Method} {c : Code} {D : va_G} {cA : Nat → ClassId} {lo : Nat} (C : Cx p s m args c cX9_digest 6 RX9 wsX9_digest D cA lo) (hr : meth.sig.returnType = (some .long)) (hlk : meth.locks = false) {Q : Int64 → Mm → Prop} {Cc Zz : Nat} (M : Mm) (a0 : Nat) (i1 : Int32) (i2 : Int32) (cc zz : Nat) (h : S_X9_digest_230 (fun (a0 : Nat) (i1 : Int32) (M : Mm) (cc zz : Nat) => QW p l e ({ frames := 1, cells := Cc, slots := Zz, locals := 30 } : Room) s m args below meth c (MQ below (QlM D cA lo Q) args s Cc Zz (fun q => lo ≤ q)) 6 D cA lo cc zz M 68 [(0, .ref a0), (1, .int i1)] []) (fun (a0 : Nat) (i1 : Int32) (M : Mm) (cc zz : Nat) => QW p l e ({ frames := 1, cells := Cc, slots := Zz, locals := 30 } : Room) s m args below meth c (MQ below (QlM D cA lo Q) args s Cc Zz (fun q => lo ≤ q)) 6 D cA lo cc zz M 152 [(0, .ref a0), (1, .int i1)] []) (fun (a0 : Nat) (i1 : Int32) (i2 : Int32) (M : Mm) (cc zz : Nat) => QW p l e ({ frames := 1, cells := Cc, slots := Zz, locals := 30 } : Room) s m args below meth c (MQ below (QlM D cA lo Q) args s Cc Zz (fun q => lo ≤ q)) 6 D cA lo cc zz M 96 [(0, .ref a0), (1, .int i1), (2, .int i2)] []) (fun (a0 : Nat) (i1 : Int32) (a2 : Nat) (i3 : Int32) (i4 : Int32) (M : Mm) (cc zz : Nat) => QW p l e ({ frames := 1, cells := Cc, slots := Zz, locals := 30 } : Room) s m args below meth c (MQ below (QlM D cA lo Q) args s Cc Zz (fun q => lo ≤ q)) 6 D cA lo cc zz M 203 [(0, .ref a0), (1, .int i1), (2, .ref a2), (3, .int i3), (4, .int i4)] []) (fun (a0 : Nat) (i1 : Int32) (i2 : Int32) (M : Mm) (cc zz : Nat) => QW p l e ({ frames := 1, cells := Cc, slots := Zz, locals := 30 } : Room) s m args below meth c (MQ below (QlM D cA lo Q) args s Cc Zz (fun q => lo ≤ q)) 6 D cA lo cc zz M 122 [(0, .ref a0), (1, .int i1), (2, .int i2)] []) (fun (a0 : Nat) (i1 : Int32) (i2 : Int32) (M : Mm) (cc zz : Nat) => QW p l e ({ frames := 1, cells := Cc, slots := Zz, locals := 30 } : Room) s m args below meth c (MQ below (QlM D cA lo Q) args s Cc Zz (fun q => lo ≤ q)) 6 D cA lo cc zz M 230 [(0, .ref a0), (1, .int i1), (2, .int i2)] []) Cc Zz Q M a0 i1 i2 cc zz) : QW p l e ({ frames := 1, cells := Cc, slots := Zz, locals := 30 } : Room) s m args below meth c (MQ below (QlM D cA lo Q) args s Cc Zz (fun q => lo ≤ q)) 6 D cA lo cc zz M 230 [(0, .ref a0), (1, .int i1), (2, .int i2)] [] := by
  unfold S_X9_digest_230 at h
  refine q_iload_n C dX9_digest_230 rfl (j := 2) rfl ?_
  refine q_iconst (v := 3) C dX9_digest_231 (by decide) ?_
  refine q_icmp_ge (tgt := 252) C dX9_digest_232 (by decide) (fun z => ?_) (fun z => ?_)
  · have h := h.1 z
    refine q_iinc (v := (i1 + 1)) (lv' := [(1, .int (i1 + 1)), (0, .ref a0), (2, .int i2)]) C dX9_digest_252 (j := 1) rfl rfl (by decide) rfl ?_
    refine q_goto (tgt := 152) C dX9_digest_255 (by decide) ?_
    exact q_sub [1, 0] rfl h
  · have h := h.2 z
    refine q_aload_n C dX9_digest_235 rfl (j := 0) rfl ?_
    refine q_aload_n C dX9_digest_236 rfl (j := 0) rfl ?_
    refine q_iload_n C dX9_digest_237 rfl (j := 1) rfl ?_
    refine q_iload_n C dX9_digest_238 rfl (j := 2) rfl ?_
    exact h.elim
set_option maxRecDepth 100000 in
set_option maxHeartbeats 4000000 in
theorem c_X9_digest (l : Launch) (D : va_G) (cA : Nat → ClassId) (lo : Nat) {M : Mm} {a0 : Nat} {Cc Zz : Nat} {Q : Int64 → Mm → Prop} (h : T_X9_digest Cc Zz M a0 Q) : Met l yX9_digest wsX9_digest ({ frames := 1, cells := Cc, slots := Zz, locals := 30 } : Room) (PcM D cA lo [.ref a0] M) (QlM D cA lo Q) Cc Zz (fun q => lo ≤ q) := by
  refine q_start (cc := cX9_digest) (nL := 6) (ret := (some .long)) (by decide) rfl rfl (Nat.le_of_ble_eq_true rfl) ?_
  intro p e s m args below meth c C hr hlk hin
  unfold T_X9_digest at h
  have h := h (fun (a0 : Nat) (i1 : Int32) (M : Mm) (cc zz : Nat) => QW p l e ({ frames := 1, cells := Cc, slots := Zz, locals := 30 } : Room) s m args below meth c (MQ below (QlM D cA lo Q) args s Cc Zz (fun q => lo ≤ q)) 6 D cA lo cc zz M 68 [(0, .ref a0), (1, .int i1)] []) (fun (a0 : Nat) (i1 : Int32) (M : Mm) (cc zz : Nat) => QW p l e ({ frames := 1, cells := Cc, slots := Zz, locals := 30 } : Room) s m args below meth c (MQ below (QlM D cA lo Q) args s Cc Zz (fun q => lo ≤ q)) 6 D cA lo cc zz M 152 [(0, .ref a0), (1, .int i1)] []) (fun (a0 : Nat) (i1 : Int32) (i2 : Int32) (M : Mm) (cc zz : Nat) => QW p l e ({ frames := 1, cells := Cc, slots := Zz, locals := 30 } : Room) s m args below meth c (MQ below (QlM D cA lo Q) args s Cc Zz (fun q => lo ≤ q)) 6 D cA lo cc zz M 96 [(0, .ref a0), (1, .int i1), (2, .int i2)] []) (fun (a0 : Nat) (i1 : Int32) (a2 : Nat) (i3 : Int32) (i4 : Int32) (M : Mm) (cc zz : Nat) => QW p l e ({ frames := 1, cells := Cc, slots := Zz, locals := 30 } : Room) s m args below meth c (MQ below (QlM D cA lo Q) args s Cc Zz (fun q => lo ≤ q)) 6 D cA lo cc zz M 203 [(0, .ref a0), (1, .int i1), (2, .ref a2), (3, .int i3), (4, .int i4)] []) (fun (a0 : Nat) (i1 : Int32) (i2 : Int32) (M : Mm) (cc zz : Nat) => QW p l e ({ frames := 1, cells := Cc, slots := Zz, locals := 30 } : Room) s m args below meth c (MQ below (QlM D cA lo Q) args s Cc Zz (fun q => lo ≤ q)) 6 D cA lo cc zz M 122 [(0, .ref a0), (1, .int i1), (2, .int i2)] []) (fun (a0 : Nat) (i1 : Int32) (i2 : Int32) (M : Mm) (cc zz : Nat) => QW p l e ({ frames := 1, cells := Cc, slots := Zz, locals := 30 } : Room) s m args below meth c (MQ below (QlM D cA lo Q) args s Cc Zz (fun q => lo ≤ q)) 6 D cA lo cc zz M 230 [(0, .ref a0), (1, .int i1), (2, .int i2)] []) (fun a0 i1 M cc zz h => b_X9_digest_68 C hr hlk M a0 i1 cc zz h) (fun a0 i1 M cc zz h => b_X9_digest_152 C hr hlk M a0 i1 cc zz h) (fun a0 i1 i2 M cc zz h => b_X9_digest_96 C hr hlk M a0 i1 i2 cc zz h) (fun a0 i1 a2 i3 i4 M cc zz h => b_X9_digest_203 C hr hlk M a0 i1 a2 i3 i4 cc zz h) (fun a0 i1 i2 M cc zz h => b_X9_digest_122 C hr hlk M a0 i1 i2 cc zz h) (fun a0 i1 i2 M cc zz h => b_X9_digest_230 C hr hlk M a0 i1 i2 cc zz h)
  refine q_aload_n C dX9_digest_0 rfl (j := 0) rfl ?_
  refine q_iconst (v := 0) C dX9_digest_1 (by decide) ?_
  refine q_putI (ci := 9) (k0 := 0) (T := TX9) (v := 0) (ty := .int) C inX9_digest_X9 tyX9 tyX9_ok nmX9 rfl (by decide) h.1 (by decide) rfl (by decide +kernel) rfl (by decide +kernel) rfl rfl rfl dX9_digest_2 ?_
  have h := h.2
  refine q_aload_n C dX9_digest_5 rfl (j := 0) rfl ?_
  refine q_ldc2 (v := 58071) C (by decide +kernel) dX9_digest_6 ?_
  refine q_putL (ci := 9) (k0 := 12) (T := TX9) (v := 58071) (ty := .long) C inX9_digest_X9 tyX9 tyX9_ok nmX9 rfl (by decide) h.1 (by decide) rfl (by decide +kernel) rfl (by decide +kernel) rfl rfl rfl dX9_digest_9 ?_
  have h := h.2
  refine q_aload_n C dX9_digest_12 rfl (j := 0) rfl ?_
  refine q_aload_n C dX9_digest_13 rfl (j := 0) rfl ?_
  have hcz := h.1
  have h := h.2
  refine q_ci (q_runV (As := []) (st := [.ref a0]) C (c_X9_pointsNow l D cA lo h.2) (cwV 0 C.2.2.2.2.1 gX9_digest_X9_pointsNow rfl rfl rfl (by decide +kernel) ⟨Nat.le_of_ble_eq_true rfl, Nat.le_of_ble_eq_true rfl⟩) h.1 (by decide) rfl rfl rfl (Nat.le_of_ble_eq_true rfl) dX9_digest_14 ⟨Nat.le_trans (Nat.le_of_eq (Nat.add_zero _)) hcz.1, Nat.le_trans (Nat.le_of_eq (Nat.add_zero _)) hcz.2⟩) (fun r_1 M_z h => ?_)
  refine q_mem h.1 ?_
  have h := h.2
  refine q_i2l C dX9_digest_17 ?_
  have hcz := h.1
  have h := h.2
  refine q_cv (q_runV (As := [.long r_1.toInt64]) (st := []) C (c_X9_add l D cA lo h.2) (cwV 1 C.2.2.2.2.1 gX9_digest_X9_add rfl rfl rfl (by decide +kernel) ⟨Nat.le_of_ble_eq_true rfl, Nat.le_of_ble_eq_true rfl⟩) h.1 (by decide) rfl rfl rfl (Nat.le_of_ble_eq_true rfl) dX9_digest_18 ⟨Nat.le_trans (Nat.le_of_eq (Nat.add_zero _)) hcz.1, Nat.le_trans (Nat.le_of_eq (Nat.add_zero _)) hcz.2⟩) (fun M_3 h => ?_)
  refine q_aload_n C dX9_digest_21 rfl (j := 0) rfl ?_
  refine q_aload_n C dX9_digest_22 rfl (j := 0) rfl ?_
  have hcz := h.1
  have h := h.2
  refine q_ci (q_runV (As := []) (st := [.ref a0]) C (c_X9_edgesNow l D cA lo h.2) (cwV 0 C.2.2.2.2.1 gX9_digest_X9_edgesNow rfl rfl rfl (by decide +kernel) ⟨Nat.le_of_ble_eq_true rfl, Nat.le_of_ble_eq_true rfl⟩) h.1 (by decide) rfl rfl rfl (Nat.le_of_ble_eq_true rfl) dX9_digest_23 ⟨Nat.le_trans (Nat.le_of_eq (Nat.add_zero _)) hcz.1, Nat.le_trans (Nat.le_of_eq (Nat.add_zero _)) hcz.2⟩) (fun r_4 M_z h => ?_)
  refine q_mem h.1 ?_
  have h := h.2
  refine q_i2l C dX9_digest_26 ?_
  have hcz := h.1
  have h := h.2
  refine q_cv (q_runV (As := [.long r_4.toInt64]) (st := []) C (c_X9_add l D cA lo h.2) (cwV 1 C.2.2.2.2.1 gX9_digest_X9_add rfl rfl rfl (by decide +kernel) ⟨Nat.le_of_ble_eq_true rfl, Nat.le_of_ble_eq_true rfl⟩) h.1 (by decide) rfl rfl rfl (Nat.le_of_ble_eq_true rfl) dX9_digest_27 ⟨Nat.le_trans (Nat.le_of_eq (Nat.add_zero _)) hcz.1, Nat.le_trans (Nat.le_of_eq (Nat.add_zero _)) hcz.2⟩) (fun M_6 h => ?_)
  refine q_aload_n C dX9_digest_30 rfl (j := 0) rfl ?_
  refine q_aload_n C dX9_digest_31 rfl (j := 0) rfl ?_
  have hcz := h.1
  have h := h.2
  refine q_ci (q_runV (As := []) (st := [.ref a0]) C (c_X9_facesNow l D cA lo h.2) (cwV 0 C.2.2.2.2.1 gX9_digest_X9_facesNow rfl rfl rfl (by decide +kernel) ⟨Nat.le_of_ble_eq_true rfl, Nat.le_of_ble_eq_true rfl⟩) h.1 (by decide) rfl rfl rfl (Nat.le_of_ble_eq_true rfl) dX9_digest_32 ⟨Nat.le_trans (Nat.le_of_eq (Nat.add_zero _)) hcz.1, Nat.le_trans (Nat.le_of_eq (Nat.add_zero _)) hcz.2⟩) (fun r_7 M_z h => ?_)
  refine q_mem h.1 ?_
  have h := h.2
  refine q_i2l C dX9_digest_35 ?_
  have hcz := h.1
  have h := h.2
  refine q_cv (q_runV (As := [.long r_7.toInt64]) (st := []) C (c_X9_add l D cA lo h.2) (cwV 1 C.2.2.2.2.1 gX9_digest_X9_add rfl rfl rfl (by decide +kernel) ⟨Nat.le_of_ble_eq_true rfl, Nat.le_of_ble_eq_true rfl⟩) h.1 (by decide) rfl rfl rfl (Nat.le_of_ble_eq_true rfl) dX9_digest_36 ⟨Nat.le_trans (Nat.le_of_eq (Nat.add_zero _)) hcz.1, Nat.le_trans (Nat.le_of_eq (Nat.add_zero _)) hcz.2⟩) (fun M_9 h => ?_)
  refine q_aload_n C dX9_digest_39 rfl (j := 0) rfl ?_
  refine q_aload_n C dX9_digest_40 rfl (j := 0) rfl ?_
  obtain ⟨dc_12, ds_12, hcz, h⟩ := h
  refine q_ci (q_runV (As := []) (st := [.ref a0]) C (c_X9_holesNow l D cA lo h.2) (cwV 0 C.2.2.2.2.1 gX9_digest_X9_holesNow rfl rfl rfl (by decide +kernel) ⟨Nat.le_of_ble_eq_true rfl, Nat.le_of_ble_eq_true rfl⟩) h.1 (by decide) rfl rfl rfl (Nat.le_of_ble_eq_true rfl) dX9_digest_41 hcz) (fun r_10 M_11 h => ?_)
  refine q_i2l C dX9_digest_44 ?_
  have hcz := h.1
  have h := h.2
  refine q_cv (q_runV (As := [.long r_10.toInt64]) (st := []) C (c_X9_add l D cA lo h.2) (cwV 1 C.2.2.2.2.1 gX9_digest_X9_add rfl rfl rfl (by decide +kernel) ⟨Nat.le_of_ble_eq_true rfl, Nat.le_of_ble_eq_true rfl⟩) h.1 (by decide) rfl rfl rfl (Nat.le_of_ble_eq_true rfl) dX9_digest_45 ⟨Nat.le_trans (Nat.le_of_eq (Nat.add_zero _)) hcz.1, Nat.le_trans (Nat.le_of_eq (Nat.add_zero _)) hcz.2⟩) (fun M_14 h => ?_)
  refine q_aload_n C dX9_digest_48 rfl (j := 0) rfl ?_
  refine q_aload_n C dX9_digest_49 rfl (j := 0) rfl ?_
  refine q_iconst (v := (-1)) C dX9_digest_50 (by decide) ?_
  obtain ⟨dc_17, ds_17, hcz, h⟩ := h
  refine q_ci (q_runV (As := [.int (-1)]) (st := [.ref a0]) C (c_X9_groups l D cA lo h.2) (cwV 1 C.2.2.2.2.1 gX9_digest_X9_groups rfl rfl rfl (by decide +kernel) ⟨Nat.le_of_ble_eq_true rfl, Nat.le_of_ble_eq_true rfl⟩) h.1 (by decide) rfl rfl rfl (Nat.le_of_ble_eq_true rfl) dX9_digest_51 hcz) (fun r_15 M_16 h => ?_)
  refine q_i2l C dX9_digest_54 ?_
  have hcz := h.1
  have h := h.2
  refine q_cv (q_runV (As := [.long r_15.toInt64]) (st := []) C (c_X9_add l D cA lo h.2) (cwV 1 C.2.2.2.2.1 gX9_digest_X9_add rfl rfl rfl (by decide +kernel) ⟨Nat.le_of_ble_eq_true rfl, Nat.le_of_ble_eq_true rfl⟩) h.1 (by decide) rfl rfl rfl (Nat.le_of_ble_eq_true rfl) dX9_digest_55 ⟨Nat.le_trans (Nat.le_of_eq (Nat.add_zero _)) hcz.1, Nat.le_trans (Nat.le_of_eq (Nat.add_zero _)) hcz.2⟩) (fun M_19 h => ?_)
  refine q_aload_n C dX9_digest_58 rfl (j := 0) rfl ?_
  refine q_aload_n C dX9_digest_59 rfl (j := 0) rfl ?_
  have hcz := h.1
  have h := h.2
  refine q_cl (q_runV (As := []) (st := [.ref a0]) C (c_X9_volumeNow l D cA lo h.2) (cwV 0 C.2.2.2.2.1 gX9_digest_X9_volumeNow rfl rfl rfl (by decide +kernel) ⟨Nat.le_of_ble_eq_true rfl, Nat.le_of_ble_eq_true rfl⟩) h.1 (by decide) rfl rfl rfl (Nat.le_of_ble_eq_true rfl) dX9_digest_60 ⟨Nat.le_trans (Nat.le_of_eq (Nat.add_zero _)) hcz.1, Nat.le_trans (Nat.le_of_eq (Nat.add_zero _)) hcz.2⟩) (fun r_20 M_z h => ?_)
  refine q_mem h.1 ?_
  have h := h.2
  have hcz := h.1
  have h := h.2
  refine q_cv (q_runV (As := [.long r_20]) (st := []) C (c_X9_add l D cA lo h.2) (cwV 1 C.2.2.2.2.1 gX9_digest_X9_add rfl rfl rfl (by decide +kernel) ⟨Nat.le_of_ble_eq_true rfl, Nat.le_of_ble_eq_true rfl⟩) h.1 (by decide) rfl rfl rfl (Nat.le_of_ble_eq_true rfl) dX9_digest_63 ⟨Nat.le_trans (Nat.le_of_eq (Nat.add_zero _)) hcz.1, Nat.le_trans (Nat.le_of_eq (Nat.add_zero _)) hcz.2⟩) (fun M_22 h => ?_)
  refine q_iconst (v := 0) C dX9_digest_66 (by decide) ?_
  refine q_istore_n (lv' := [(1, .int 0), (0, .ref a0)]) C dX9_digest_67 rfl (by decide) rfl ?_
  exact q_sub [1, 0] rfl h
