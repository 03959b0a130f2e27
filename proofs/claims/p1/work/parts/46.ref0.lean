def S_J7_fill_53178_5 (K5 : Nat → Int32 → Int32 → Int32 → Mm → Prop) (Q : Mm → Prop) (M : Mm) (a0 : Nat) (i1 : Int32) (i2 : Int32) (i3 : Int32) : Prop := (i3 ≤ i2 → Q M) ∧ (¬ i3 ≤ i2 → ∃ n_3 : Nat, kM M a0 = (100, n_3) ∧ vp_in i2 n_3 ∧ K5 a0 i1 (i2 + 1) i3 (wI M a0 i2.toNatClampNeg i1))
def T_J7_fill_53178 (M : Mm) (a0 : Nat) (i1 : Int32) (Q : Mm → Prop) : Prop := ∀ (K5 : Nat → Int32 → Int32 → Int32 → Mm → Prop), (∀ (a0 : Nat) (i1 : Int32) (i2 : Int32) (i3 : Int32) (M : Mm), S_J7_fill_53178_5 K5 Q M a0 i1 i2 i3 → K5 a0 i1 i2 i3 M) → ∃ k_2 n_1 : Nat, kM M a0 = (k_2, n_1) ∧ ak k_2 ∧ K5 a0 i1 0 (nI n_1) M
set_option maxRecDepth 100000 in
set_option maxHeartbeats 4000000 in
theorem b_J7_fill_53178_5 {p : Program} {l : Launch} {e : Env} {s : State} {m : MethodId} {args : Array Value} {below : List Frame} {meth : Method} {c : Code} {D : va_G} {cA : Nat → ClassId} {lo : Nat} (C : Cx p s m args c cJ7_fill_53178 4 RJ7 wsJ7_fill_53178 D cA lo) (hr : meth.sig.returnType = none) (hlk : meth.locks = false) {Q : Mm → Prop} (M : Mm) (a0 : Nat) (i1 : Int32) (i2 : Int32) (i3 : Int32) (h : S_J7_fill_53178_5 (fun (a0 : Nat) (i1 : Int32) (i2 : Int32) (i3 : Int32) (M : Mm) => QW p l e ({ frames := 0, cells := 0, slots := 0, locals := 0 } : Room) s m args below meth c (MQ below (QvM D cA lo Q) args s 0 0 (fun q => lo ≤ q)) 4 D cA lo 0 0 M 5 [(0, .ref a0), (1, .int i1), (2, .int i2), (3, .int i3)] []) Q M a0 i1 i2 i3) : QW p l e ({ frames := 0, cells := 0, slots := 0, locals := 0 } : Room) s m args below meth c (MQ below (QvM D cA lo Q) args s 0 0 (fun q => lo ≤ q)) 4 D cA lo 0 0 M 5 [(0, .ref a0), (1, .int i1), (2, .int i2), (3, .int i3)] [] := by
  unfold S_J7_fill_53178_5 at h
  refine q_iload_n C dJ7_fill_53178_5 rfl (j := 2) rfl ?_
  refine q_iload_n C dJ7_fill_53178_6 rfl (j := 3) rfl ?_
  refine q_icmp_ge (tgt := 20) C dJ7_fill_53178_7 (by decide) (fun z => ?_) (fun z => ?_)
  · have h := h.1 z
    exact q_vret C hr hlk dJ7_fill_53178_20 (Nat.le_of_ble_eq_true rfl) (Nat.le_of_ble_eq_true rfl) h
  · have h := h.2 z
    refine q_aload_n C dJ7_fill_53178_10 rfl (j := 0) rfl ?_
    refine q_iload_n C dJ7_fill_53178_11 rfl (j := 2) rfl ?_
    refine q_iload_n C dJ7_fill_53178_12 rfl (j := 1) rfl ?_
    obtain ⟨n_3, z1, z2, h⟩ := h
    refine q_iast C z1 z2 dJ7_fill_53178_13 ?_
    refine q_iinc (v := (i2 + 1)) (lv' := [(2, .int (i2 + 1)), (0, .ref a0), (1, .int i1), (3, .int i3)]) C dJ7_fill_53178_14 (j := 2) rfl rfl (by decide) rfl ?_
    refine q_goto (tgt := 5) C dJ7_fill_53178_17 (by decide) ?_
    exact q_sub [1, 2, 0, 3] rfl h
set_option maxRecDepth 100000 in
set_option maxHeartbeats 4000000 in
theorem c_J7_fill_53178 (l : Launch) (D : va_G) (cA : Nat → ClassId) (lo : Nat) {M : Mm} {a0 : Nat} {i1 : Int32} {Q : Mm → Prop} (h : T_J7_fill_53178 M a0 i1 Q) : Met l yJ7_fill_53178 wsJ7_fill_53178 ({ frames := 0, cells := 0, slots := 0, locals := 0 } : Room) (PcM D cA lo [.ref a0, .int i1] M) (QvM D cA lo Q) 0 0 (fun q => lo ≤ q) := by
  refine q_start (cc := cJ7_fill_53178) (nL := 4) (ret := none) (by decide) rfl rfl (Nat.le_of_ble_eq_true rfl) ?_
  intro p e s m args below meth c C hr hlk hin
  unfold T_J7_fill_53178 at h
  have h := h (fun (a0 : Nat) (i1 : Int32) (i2 : Int32) (i3 : Int32) (M : Mm) => QW p l e ({ frames := 0, cells := 0, slots := 0, locals := 0 } : Room) s m args below meth c (MQ below (QvM D cA lo Q) args s 0 0 (fun q => lo ≤ q)) 4 D cA lo 0 0 M 5 [(0, .ref a0), (1, .int i1), (2, .int i2), (3, .int i3)] []) (fun a0 i1 i2 i3 M h => b_J7_fill_53178_5 C hr hlk M a0 i1 i2 i3 h)
  refine q_iconst (v := 0) C dJ7_fill_53178_0 (by decide) ?_
  refine q_istore_n (lv' := [(2, .int 0), (0, .ref a0), (1, .int i1)]) C dJ7_fill_53178_1 rfl (by decide) rfl ?_
  refine q_aload_n C dJ7_fill_53178_2 rfl (j := 1) rfl ?_
  obtain ⟨k_2, n_1, z1, z2, h⟩ := h
  refine q_alen C z1 z2 dJ7_fill_53178_3 ?_
  refine q_istore_n (lv' := [(3, .int (nI n_1)), (2, .int 0), (0, .ref a0), (1, .int i1)]) C dJ7_fill_53178_4 rfl (by decide) rfl ?_
  exact q_sub [2, 3, 1, 0] rfl h
def T_X9_is (M : Mm) (i0 : Int32) (i1 : Int32) (i2 : Int32) (Q : Int32 → Prop) : Prop := (i0 < i1 → Q 0) ∧ (¬ i0 < i1 → (i2 < i0 → Q 0) ∧ (¬ i2 < i0 → Q 1))
set_option maxRecDepth 100000 in
set_option maxHeartbeats 4000000 in
theorem c_X9_is (l : Launch) (D : va_G) (cA : Nat → ClassId) (lo : Nat) {M : Mm} {i0 : Int32} {i1 : Int32} {i2 : Int32} {Q : Int32 → Prop} (h : T_X9_is M i0 i1 i2 Q) : Met l yX9_is wsX9_is ({ frames := 0, cells := 0, slots := 0, locals := 0 } : Room) (PcM D cA lo [.int i0, .int i1, .int i2] M) (QiM D cA lo (fun r M1 => M1 = M ∧ Q r)) 0 0 (fun q => lo ≤ q) := by
  refine q_start (cc := cX9_is) (nL := 3) (ret := (some .boolean)) (by decide) rfl rfl (Nat.le_of_ble_eq_true rfl) ?_
  intro p e s m args below meth c C hr hlk hin
  unfold T_X9_is at h
  refine q_iload_n C dX9_is_0 rfl (j := 0) rfl ?_
  refine q_iload_n C dX9_is_1 rfl (j := 1) rfl ?_
  refine q_icmp_lt (tgt := 14) C dX9_is_2 (by decide) (fun z => ?_) (fun z => ?_)
  · have h := h.1 z
    refine q_iconst (v := 0) C dX9_is_14 (by decide) ?_
    exact q_zret C hr hlk dX9_is_15 (Nat.le_of_ble_eq_true rfl) (Nat.le_of_ble_eq_true rfl) (Or.inl rfl) ⟨rfl, h⟩
  · have h := h.2 z
    refine q_iload_n C dX9_is_5 rfl (j := 0) rfl ?_
    refine q_iload_n C dX9_is_6 rfl (j := 2) rfl ?_
    refine q_icmp_gt (tgt := 14) C dX9_is_7 (by decide) (fun z => ?_) (fun z => ?_)
    · have h := h.1 z
      refine q_iconst (v := 0) C dX9_is_14 (by decide) ?_
      exact q_zret C hr hlk dX9_is_15 (Nat.le_of_ble_eq_true rfl) (Nat.le_of_ble_eq_true rfl) (Or.inl rfl) ⟨rfl, h⟩
    · have h := h.2 z
      refine q_iconst (v := 1) C dX9_is_10 (by decide) ?_
      refine q_goto (tgt := 15) C dX9_is_11 (by decide) ?_
      exact q_zret C hr hlk dX9_is_15 (Nat.le_of_ble_eq_true rfl) (Nat.le_of_ble_eq_true rfl) (Or.inr rfl) ⟨rfl, h⟩
def S_X9_enter_26 (K26 : Nat → Int32 → Nat → Int32 → Mm → Prop) (K75 : Nat → Int32 → Nat → Int32 → Int32 → Nat → Int32 → Int32 → Mm → Prop) (K94 : Nat → Int32 → Nat → Int32 → Int32 → Mm → Prop) (Q : Mm → Prop) (M : Mm) (a0 : Nat) (i1 : Int32) (a2 : Nat) (i3 : Int32) : Prop := ∃ k_8 n_7 : Nat, kM M a2 = (k_8, n_7) ∧ ak k_8 ∧ ((nI n_7) ≤ i3 → Q M) ∧ (¬ (nI n_7) ≤ i3 → ∃ k_10 n_9 : Nat, kM M a2 = (k_10, n_9) ∧ ak k_10 ∧ (¬ (nI n_9) = 0) ∧ ∃ n_11 : Nat, kM M a2 = (100, n_11) ∧ vp_in ((i3 + 1) - (i3 + 1) / (nI n_9) * (nI n_9)) n_11 ∧ kM M a0 = (9, 13) ∧ kM M a0 = (9, 13) ∧ ∃ a_12 : Nat, rM M a0 6 = some a_12 ∧ ∃ n_13 : Nat, kM M a2 = (100, n_13) ∧ vp_in i3 n_13 ∧ ∃ n_14 : Nat, kM M a_12 = (121, n_14) ∧ vp_in (iM M a2 i3.toNatClampNeg) n_14 ∧ ∃ a_15 : Nat, rM M a_12 (iM M a2 i3.toNatClampNeg).toNatClampNeg = some a_15 ∧ ∃ n_16 : Nat, kM M a_15 = (100, n_16) ∧ vp_in (iM M a2 ((i3 + 1) - (i3 + 1) / (nI n_9) * (nI n_9)).toNatClampNeg) n_16 ∧ (¬ (iM M a_15 (iM M a2 ((i3 + 1) - (i3 + 1) / (nI n_9) * (nI n_9)).toNatClampNeg).toNatClampNeg) = (-1) → K75 a0 i1 a2 i3 (iM M a2 ((i3 + 1) - (i3 + 1) / (nI n_9) * (nI n_9)).toNatClampNeg) a0 (iM M a0 7) 0 M) ∧ ((iM M a_15 (iM M a2 ((i3 + 1) - (i3 + 1) / (nI n_9) * (nI n_9)).toNatClampNeg).toNatClampNeg) = (-1) → ∃ n_17 : Nat, kM M a2 = (100, n_17) ∧ vp_in i3 n_17 ∧ ((iM M a2 i3.toNatClampNeg) = (iM M a2 ((i3 + 1) - (i3 + 1) / (nI n_9) * (nI n_9)).toNatClampNeg) → K75 a0 i1 a2 i3 (iM M a2 ((i3 + 1) - (i3 + 1) / (nI n_9) * (nI n_9)).toNatClampNeg) a0 (iM M a0 7) 0 M) ∧ (¬ (iM M a2 i3.toNatClampNeg) = (iM M a2 ((i3 + 1) - (i3 + 1) / (nI n_9) * (nI n_9)).toNatClampNeg) → K75 a0 i1 a2 i3 (iM M a2 ((i3 + 1) - (i3 + 1) / (nI n_9) * (nI n_9)).toNatClampNeg) a0 (iM M a0 7) 1 M)))
def S_X9_enter_75 (K26 : Nat → Int32 → Nat → Int32 → Mm → Prop) (K75 : Nat → Int32 → Nat → Int32 → Int32 → Nat → Int32 → Int32 → Mm → Prop) (K94 : Nat → Int32 → Nat → Int32 → Int32 → Mm → Prop) (Q : Mm → Prop) (M : Mm) (a0 : Nat) (i1 : Int32) (a2 : Nat) (i3 : Int32) (i4 : Int32) (as0 : Nat) (is1 : Int32) (is2 : Int32) : Prop := kM M as0 = (9, 13) ∧ ((is1 &&& is2) = 0 ∨ (is1 &&& is2) = 1) ∧ kM (wI M as0 7 (is1 &&& is2)) a0 = (9, 13) ∧ ∃ a_18 : Nat, rM (wI M as0 7 (is1 &&& is2)) a0 6 = some a_18 ∧ ∃ n_19 : Nat, kM (wI M as0 7 (is1 &&& is2)) a2 = (100, n_19) ∧ vp_in i3 n_19 ∧ ∃ n_20 : Nat, kM (wI M as0 7 (is1 &&& is2)) a_18 = (121, n_20) ∧ vp_in (iM (wI M as0 7 (is1 &&& is2)) a2 i3.toNatClampNeg) n_20 ∧ ∃ a_21 : Nat, rM (wI M as0 7 (is1 &&& is2)) a_18 (iM (wI M as0 7 (is1 &&& is2)) a2 i3.toNatClampNeg).toNatClampNeg = some a_21 ∧ ∃ n_22 : Nat, kM (wI M as0 7 (is1 &&& is2)) a_21 = (100, n_22) ∧ vp_in i4 n_22 ∧ K94 a0 i1 a2 i3 0 (wI (wI M as0 7 (is1 &&& is2)) a_21 i4.toNatClampNeg i1)
def S_X9_enter_94 (K26 : Nat → Int32 → Nat → Int32 → Mm → Prop) (K75 : Nat → Int32 → Nat → Int32 → Int32 → Nat → Int32 → Int32 → Mm → Prop) (K94 : Nat → Int32 → Nat → Int32 → Int32 → Mm → Prop) (Q : Mm → Prop) (M : Mm) (a0 : Nat) (i1 : Int32) (a2 : Nat) (i3 : Int32) (i5 : Int32) : Prop := (i3 ≤ i5 → K26 a0 i1 a2 (i3 + 1) M) ∧ (¬ i3 ≤ i5 → kM M a0 = (9, 13) ∧ ∃ n_23 : Nat, kM M a2 = (100, n_23) ∧ vp_in i5 n_23 ∧ ∃ n_24 : Nat, kM M a2 = (100, n_24) ∧ vp_in i3 n_24 ∧ ((iM M a2 i5.toNatClampNeg) = (iM M a2 i3.toNatClampNeg) → kM M a0 = (9, 13) ∧ (((iM M a0 7) &&& 0) = 0 ∨ ((iM M a0 7) &&& 0) = 1) ∧ K94 a0 i1 a2 i3 (i5 + 1) (wI M a0 7 ((iM M a0 7) &&& 0))) ∧ (¬ (iM M a2 i5.toNatClampNeg) = (iM M a2 i3.toNatClampNeg) → kM M a0 = (9, 13) ∧ (((iM M a0 7) &&& 1) = 0 ∨ ((iM M a0 7) &&& 1) = 1) ∧ K94 a0 i1 a2 i3 (i5 + 1) (wI M a0 7 ((iM M a0 7) &&& 1))))
def T_X9_enter (M : Mm) (a0 : Nat) (i1 : Int32) (Q : Mm → Prop) : Prop := ∀ (K26 : Nat → Int32 → Nat → Int32 → Mm → Prop) (K75 : Nat → Int32 → Nat → Int32 → Int32 → Nat → Int32 → Int32 → Mm → Prop) (K94 : Nat → Int32 → Nat → Int32 → Int32 → Mm → Prop), (∀ (a0 : Nat) (i1 : Int32) (a2 : Nat) (i3 : Int32) (M : Mm), S_X9_enter_26 K26 K75 K94 Q M a0 i1 a2 i3 → K26 a0 i1 a2 i3 M) → (∀ (a0 : Nat) (i1 : Int32) (a2 : Nat) (i3 : Int32) (i4 : Int32) (as0 : Nat) (is1 : Int32) (is2 : Int32) (M : Mm), S_X9_enter_75 K26 K75 K94 Q M a0 i1 a2 i3 i4 as0 is1 is2 → K75 a0 i1 a2 i3 i4 as0 is1 is2 M) → (∀ (a0 : Nat) (i1 : Int32) (a2 : Nat) (i3 : Int32) (i5 : Int32) (M : Mm), S_X9_enter_94 K26 K75 K94 Q M a0 i1 a2 i3 i5 → K94 a0 i1 a2 i3 i5 M) → kM M a0 = (9, 13) ∧ ∃ a_1 : Nat, rM M a0 4 = some a_1 ∧ ∃ n_2 : Nat, kM M a_1 = (121, n_2) ∧ vp_in i1 n_2 ∧ ∃ a_3 : Nat, rM M a_1 i1.toNatClampNeg = some a_3 ∧ kM M a0 = (9, 13) ∧ ∃ k_5 n_4 : Nat, kM M a_3 = (k_5, n_4) ∧ ak k_5 ∧ T_X9_is M (nI n_4) 3 12 (fun r_6 => kM M a0 = (9, 13) ∧ (((iM M a0 7) &&& r_6) = 0 ∨ ((iM M a0 7) &&& r_6) = 1) ∧ K26 a0 i1 a_3 0 (wI M a0 7 ((iM M a0 7) &&& r_6)))
theorem inX9_enter_X9 : ∀ w ∈ wsX90, w ∈ wsX9_enter := by decide +kernel
set_option maxRecDepth 100000 in
set_option maxHeartbeats 4000000 in
theorem b_X9_enter_26 {p : Program} {l : Launch} {e : Env} {s : State} {m : MethodId} {args : Array Value} {below : List Frame} {meth : Method} {c : Code} {D : va_G} {cA : Nat → ClassId} {lo : Nat} (C : Cx p s m args c cX9_enter 6 RX9 wsX9_enter D cA lo) (hr : meth.sig.returnType = none) (hlk : meth.locks = false) {Q : Mm → Prop} (M : Mm) (a0 : Nat) (i1 : Int32) (a2 : Nat) (i3 : Int32) (h : S_X9_enter_26 (fun (a0 : Nat) (i1 : Int32) (a2 : Nat) (i3 : Int32) (M : Mm) => QW p l e ({ frames := 1, cells := 0, slots := 0, locals := 22 } : Room) s m args below meth c (MQ below (QvM D cA lo Q) args s 0 0 (fun q => lo ≤ q)) 6 D cA lo 0 0 M 26 [(0, .ref a0), (1, .int i1), (2, .ref a2), (3, .int i3)] []) (fun (a0 : Nat) (i1 : Int32) (a2 : Nat) (i3 : Int32) (i4 : Int32) (as0 : Nat) (is1 : Int32) (is2 : Int32) (M : Mm) => QW p l e ({ frames := 1, cells := 0, slots := 0, locals := 22 } : Room) s m args below meth c (MQ below (QvM D cA lo Q) args s 0 0 (fun q => lo ≤ q)) 6 D cA lo 0 0 M 75 [(0, .ref a0), (1, .int i1), (2, .ref a2), (3, .int i3), (4, .int i4)] [.int is2, .int is1, .ref as0]) (fun (a0 : Nat) (i1 : Int32) (a2 : Nat) (i3 : Int32) (i5 : Int32) (M : Mm) => QW p l e ({ frames := 1, cells := 0, slots := 0, locals := 22 } : Room) s m args below meth c (MQ below (QvM D cA lo Q) args s 0 0 (fun q => lo ≤ q)) 6 D cA lo 0 0 M 94 [(0, .ref a0), (1, .int i1), (2, .ref a2), (3, .int i3), (5, .int i5)] []) Q M a0 i1 a2 i3) : QW p l e ({ frames := 1, cells := 0, slots := 0, locals := 22 } : Room) s m args below meth c (MQ below (QvM D cA lo Q) args s 0 0 (fun q => lo ≤ q)) 6 D cA lo 0 0 M 26 [(0, .ref a0), (1, .int i1), (2, .ref a2), (3, .int i3)] [] := by
  unfold S_X9_enter_26 at h
  refine q_iload_n C dX9_enter_26 rfl (j := 3) rfl ?_
  refine q_aload_n C dX9_enter_27 rfl (j := 2) rfl ?_
  obtain ⟨k_8, n_7, z1, z2, h⟩ := h
  refine q_alen C z1 z2 dX9_enter_28 ?_
  refine q_icmp_ge (tgt := 136) C dX9_enter_29 (by decide) (fun z => ?_) (fun z => ?_)
  · have h := h.1 z
    exact q_vret C hr hlk dX9_enter_136 (Nat.le_of_ble_eq_true rfl) (Nat.le_of_ble_eq_true rfl) h
  · have h := h.2 z
    refine q_aload_n C dX9_enter_32 rfl (j := 2) rfl ?_
    refine q_iload_n C dX9_enter_33 rfl (j := 3) rfl ?_
    refine q_iconst (v := 1) C dX9_enter_34 (by decide) ?_
    refine q_iadd C dX9_enter_35 ?_
    refine q_aload_n C dX9_enter_36 rfl (j := 2) rfl ?_
    obtain ⟨k_10, n_9, z1, z2, h⟩ := h
    refine q_alen C z1 z2 dX9_enter_37 ?_
    refine q_irem C dX9_enter_38 h.1 ?_
    have h := h.2
    obtain ⟨n_11, z1, z2, h⟩ := h
    refine q_iald C z1 z2 dX9_enter_39 ?_
    refine q_istore (lv' := [(4, .int (iM M a2 ((i3 + 1) - (i3 + 1) / (nI n_9) * (nI n_9)).toNatClampNeg)), (0, .ref a0), (1, .int i1), (2, .ref a2), (3, .int i3)]) C dX9_enter_40 (by decide) rfl ?_
    refine q_aload_n C dX9_enter_42 rfl (j := 1) rfl ?_
    refine q_dup C dX9_enter_43 rfl ?_
    refine q_getI (ci := 9) (k0 := 7) (T := TX9) C inX9_enter_X9 rfl (by decide) h.1 (by decide) rfl (by decide +kernel) rfl dX9_enter_44 ?_
    have h := h.2
    refine q_aload_n C dX9_enter_47 rfl (j := 1) rfl ?_
    refine q_getR (ci := 9) (k0 := 6) (T := TX9) C inX9_enter_X9 rfl (by decide) h.1 (by decide) rfl (by decide +kernel) rfl dX9_enter_48 ?_
    obtain ⟨a_12, z, h⟩ := h.2
    refine q_ref z ?_
    refine q_aload_n C dX9_enter_51 rfl (j := 3) rfl ?_
    refine q_iload_n C dX9_enter_52 rfl (j := 4) rfl ?_
    obtain ⟨n_13, z1, z2, h⟩ := h
    refine q_iald C z1 z2 dX9_enter_53 ?_
    obtain ⟨n_14, z1, z2, h⟩ := h
    refine q_gald C z1 z2 dX9_enter_54 ?_
    obtain ⟨a_15, z, h⟩ := h
    refine q_ref z ?_
    refine q_iload C dX9_enter_55 (j := 0) rfl ?_
    obtain ⟨n_16, z1, z2, h⟩ := h
    refine q_iald C z1 z2 dX9_enter_57 ?_
    refine q_iconst (v := (-1)) C dX9_enter_58 (by decide) ?_
    refine q_icmp_ne (tgt := 74) C dX9_enter_59 (by decide) (fun z => ?_) (fun z => ?_)
    · have h := h.1 z
      refine q_iconst (v := 0) C dX9_enter_74 (by decide) ?_
      exact q_sub [1, 2, 3, 4, 0] rfl h
    · have h := h.2 z
      refine q_aload_n C dX9_enter_62 rfl (j := 3) rfl ?_
      refine q_iload_n C dX9_enter_63 rfl (j := 4) rfl ?_
      obtain ⟨n_17, z1, z2, h⟩ := h
      refine q_iald C z1 z2 dX9_enter_64 ?_
      refine q_iload C dX9_enter_65 (j := 0) rfl ?_
      refine q_icmp_eq (tgt := 74) C dX9_enter_67 (by decide) (fun z => ?_) (fun z => ?_)
      · have h := h.1 z
        refine q_iconst (v := 0) C dX9_enter_74 (by decide) ?_
        exact q_sub [1, 2, 3, 4, 0] rfl h
      · have h := h.2 z
        refine q_iconst (v := 1) C dX9_enter_70 (by decide) ?_
        refine q_goto (tgt := 75) C dX9_enter_71 (by decide) ?_
        exact q_sub [1, 2, 3, 4, 0] rfl h
set_option maxRecDepth 100000 in
set_option maxHeartbeats 4000000 in
theorem b_X9_enter_75 {p : Program} {l : Launch} {e : Env} {s : State} {m : MethodId} {args : Array Value} {below : List Frame} {meth : Method} {c : Code} {D : va_G} {cA : Nat → ClassId} {lo : Nat} (C : Cx p s m args c cX9_enter 6 RX9 wsX9_enter D cA lo) (hr : meth.sig.returnType = none) (hlk : meth.locks = false) {Q : Mm → Prop} (M : Mm) (a0 : Nat) (i1 : Int32) (a2 : Nat) (i3 : Int32) (i4 : Int32) (as0 : Nat) (is1 : Int32) (is2 : Int32) (h : S_X9_enter_75 (fun (a0 : Nat) (i1 : Int32) (a2 : Nat) (i3 : Int32) (M : Mm) => QW p l e ({ frames := 1, cells := 0, slots := 0, locals := 22 } : Room) s m args below meth c (MQ below (QvM D cA lo Q) args s 0 0 (fun q => lo ≤ q)) 6 D cA lo 0 0 M 26 [(0, .ref a0), (1, .int i1), (2, .ref a2), (3, .int i3)] []) (fun (a0 : Nat) (i1 : Int32) (a2 : Nat) (i3 : Int32) (i4 : Int32) (as0 : Nat) (is1 : Int32) (is2 : Int32) (M : Mm) => QW p l e ({ frames := 1, cells := 0, slots := 0, locals := 22 } : Room) s m args below meth c (MQ below (QvM D cA lo Q) args s 0 0 (fun q => lo ≤ q)) 6 D cA lo 0 0 M 75 [(0, .ref a0), (1, .int i1), (2, .ref a2), (3, .int i3), (4, .int i4)] [.int is2, .int is1, .ref as0]) (fun (a0 : Nat) (i1 : Int32) (a2 : Nat) (i3 : Int32) (i5 : Int32) (M : Mm) => QW p l e ({ frames := 1, cells := 0, slots := 0, locals := 22 } : Room) s m args below meth c (MQ below (QvM D cA lo Q) args s 0 0 (fun q => lo ≤ q)) 6 D cA lo 0 0 M 94 [(0, .ref a0), (1, .int i1), (2, .ref a2), (3, .int i3), (5, .int i5)] []) Q M a0 i1 a2 i3 i4 as0 is1 is2) : QW p l e ({ frames := 1, cells := 0, slots := 0, locals := 22 } : Room) s m args below meth c (MQ below (QvM D cA lo Q) args s 0 0 (fun q => lo ≤ q)) 6 D cA lo 0 0 M 75 [(0, .ref a0), (1, .int i1), (2, .ref a2), (3, .int i3), (4, .int i4)] [.int is2, .int is1, .ref as0] := by
  unfold S_X9_enter_75 at h
  refine q_iand C dX9_enter_75 ?_
  refine q_putZ (ci := 9) (k0 := 7) (T := TX9) (v := (is1 &&& is2)) C inX9_enter_X9 tyX9 tyX9_ok nmX9 rfl (by decide) h.1 (by decide) rfl (by decide +kernel) rfl (by decide +kernel) h.2.1 rfl dX9_enter_76 ?_
  have h := h.2.2
  refine q_aload_n C dX9_enter_79 rfl (j := 0) rfl ?_
  refine q_getR (ci := 9) (k0 := 6) (T := TX9) C inX9_enter_X9 rfl (by decide) h.1 (by decide) rfl (by decide +kernel) rfl dX9_enter_80 ?_
  obtain ⟨a_18, z, h⟩ := h.2
  refine q_ref z ?_
  refine q_aload_n C dX9_enter_83 rfl (j := 2) rfl ?_
  refine q_iload_n C dX9_enter_84 rfl (j := 3) rfl ?_
  obtain ⟨n_19, z1, z2, h⟩ := h
  refine q_iald C z1 z2 dX9_enter_85 ?_
  obtain ⟨n_20, z1, z2, h⟩ := h
  refine q_gald C z1 z2 dX9_enter_86 ?_
  obtain ⟨a_21, z, h⟩ := h
  refine q_ref z ?_
  refine q_iload C dX9_enter_87 (j := 4) rfl ?_
  refine q_iload_n C dX9_enter_89 rfl (j := 1) rfl ?_
  obtain ⟨n_22, z1, z2, h⟩ := h
  refine q_iast C z1 z2 dX9_enter_90 ?_
  refine q_iconst (v := 0) C dX9_enter_91 (by decide) ?_
  refine q_istore (lv' := [(5, .int 0), (0, .ref a0), (1, .int i1), (2, .ref a2), (3, .int i3), (4, .int i4)]) C dX9_enter_92 (by decide) rfl ?_
  exact q_sub [1, 2, 3, 4, 0] rfl h
set_option maxRecDepth 100000 in
set_option maxHeartbeats 4000000 in
theorem b_X9_enter_94 {p : Program} {l : Launch} {e : Env} {s : State} {m : MethodId} {args : Array Value} {below : List Frame} {meth : Method} {c : Code} {D : va_G} {cA : Nat → ClassId} {lo : Nat} (C : Cx p s m args c cX9_enter 6 RX9 wsX9_enter D cA lo) (hr : meth.sig.returnType = none) (hlk : meth.locks = false) {Q : Mm → Prop} (M : Mm) (a0 : Nat) (i1 : Int32) (a2 : Nat) (i3 : Int32) (i5 : Int32) (h : S_X9_enter_94 (fun (a0 : Nat) (i1 : Int32) (a2 : Nat) (i3 : Int32) (M : Mm) => QW p l e ({ frames := 1, cells := 0, slots := 0, locals := 22 } : Room) s m args below meth c (MQ below (QvM D cA lo Q) args s 0 0 (fun q => lo ≤ q)) 6 D cA lo 0 0 M 26 [(0, .ref a0), (1, .int i1), (2, .ref a2), (3, .int i3)] []) (fun (a0 : Nat) (i1 : Int32) (a2 : Nat) (i3 : Int32) (i4 : Int32) (as0 : Nat) (is1 : Int32) (is2 : Int32) (M : Mm) => QW p l e ({ frames := 1, cells := 0, slots := 0, locals := 22 } : Room) s m args below meth c (MQ below (QvM D cA lo Q) args s 0 0 (fun q => lo ≤ q)) 6 D cA lo 0 0 M 75 [(0, .ref a0), (1, .int i1), (2, .ref a2), (3, .int i3), (4, .int i4)] [.int is2, .int is1, .ref as0]) (fun (a0 : Nat) (i1 : Int32) (a2 : Nat) (i3 : Int32) (i5 : Int32) (M : Mm) => QW p l e ({ frames := 1, cells := 0, slots := 0, locals := 22 } : Room) s m args below meth c (MQ below (QvM D cA lo Q) args s 0 0 (fun q => lo ≤ q)) 6 D cA lo 0 0 M 94 [(0, .ref a0), (1, .int i1), (2, .ref a2), (3, .int i3), (5, .int i5)] []) Q M a0 i1 a2 i3 i5) : QW p l e ({ frames := 1, cells := 0, slots := 0, locals := 22 } : Room) s m args below meth c (MQ below (QvM D cA lo Q) args s 0 0 (fun q => lo ≤ q)) 6 D cA lo 0 0 M 94 [(0, .ref a0), (1, .int i1), (2, .ref a2), (3, .int i3), (5, .int i5)] [] := by
  unfold S_X9_enter_94 at h
  refine q_iload C dX9_enter_94 (j := 4) rfl ?_
  refine q_iload_n C dX9_enter_96 rfl (j := 3) rfl ?_
  refine q_icmp_ge (tgt := 130) C dX9_enter_97 (by decide) (fun z => ?_) (fun z => ?_)
  · have h := h.1 z
    refine q_iinc (v := (i3 + 1)) (lv' := [(3, .int (i3 + 1)), (0, .ref a0), (1, .int i1), (2, .ref a2), (5, .int i5)]) C dX9_enter_130 (j := 3) rfl rfl (by decide) rfl ?_
    refine q_goto (tgt := 26) C dX9_enter_133 (by decide) ?_
    exact q_sub [1, 2, 3, 0] rfl h
  · have h := h.2 z
    refine q_aload_n C dX9_enter_100 rfl (j := 0) rfl ?_
    refine q_dup C dX9_enter_101 rfl ?_
    refine q_getI (ci := 9) (k0 := 7) (T := TX9) C inX9_enter_X9 rfl (by decide) h.1 (by decide) rfl (by decide +kernel) rfl dX9_enter_102 ?_
    have h := h.2
    refine q_aload_n C dX9_enter_105 rfl (j := 2) rfl ?_
    refine q_iload C dX9_enter_106 (j := 4) rfl ?_
    obtain ⟨n_23, z1, z2, h⟩ := h
    refine q_iald C z1 z2 dX9_enter_108 ?_
    refine q_aload_n C dX9_enter_109 rfl (j := 2) rfl ?_
    refine q_iload_n C dX9_enter_110 rfl (j := 3) rfl ?_
    obtain ⟨n_24, z1, z2, h⟩ := h
    refine q_iald C z1 z2 dX9_enter_111 ?_
    refine q_icmp_eq (tgt := 119) C dX9_enter_112 (by decide) (fun z => ?_) (fun z => ?_)
    · have h := h.1 z
      refine q_iconst (v := 0) C dX9_enter_119 (by decide) ?_
      refine q_iand C dX9_enter_120 ?_
      refine q_putZ (ci := 9) (k0 := 7) (T := TX9) (v := ((iM M a0 7) &&& 0)) C inX9_enter_X9 tyX9 tyX9_ok nmX9 rfl (by decide) h.1 (by decide) rfl (by decide +kernel) rfl (by decide +kernel) h.2.1 rfl dX9_enter_121 ?_
      have h := h.2.2
      refine q_iinc (v := (i5 + 1)) (lv' := [(5, .int (i5 + 1)), (0, .ref a0), (1, .int i1), (2, .ref a2), (3, .int i3)]) C dX9_enter_124 (j := 4) rfl rfl (by decide) rfl ?_
      refine q_goto (tgt := 94) C dX9_enter_127 (by decide) ?_
      exact q_sub [1, 2, 3, 4, 0] rfl h
    · have h := h.2 z
      refine q_iconst (v := 1) C dX9_enter_115 (by decide) ?_
      refine q_goto (tgt := 120) C dX9_enter_116 (by decide) ?_
      refine q_iand C dX9_enter_120 ?_
      refine q_putZ (ci := 9) (k0 := 7) (T := TX9) (v := ((iM M a0 7) &&& 1)) C inX9_enter_X9 tyX9 tyX9_ok nmX9 rfl (by decide) h.1 (by decide) rfl (by decide +kernel) rfl (by decide +kernel) h.2.1 rfl dX9_enter_121 ?_
      have h := h.2.2
      refine q_iinc (v := (i5 + 1)) (lv' := [(5, .int (i5 + 1)), (0, .ref a0), (1, .int i1), (2, .ref a2), (3, .int i3)]) C dX9_enter_124 (j := 4) rfl rfl (by decide) rfl ?_
      refine q_goto (tgt := 94) C dX9_enter_127 (by decide) ?_
      exact q_sub [1, 2, 3, 4, 0] rfl h
set_option maxRecDepth 100000 in
set_option maxHeartbeats 4000000 in
theorem c_X9_enter (l : Launch) (D : va_G) (cA : Nat → ClassId) (lo : Nat) {M : Mm} {a0 : Nat} {i1 : Int32} {Q : Mm → Prop} (h : T_X9_enter M a0 i1 Q) : Met l yX9_enter wsX9_enter ({ frames := 1, cells := 0, slots := 0, locals := 22 } : Room) (PcM D cA lo [.ref a0, .int i1] M) (QvM D cA lo Q) 0 0 (fun q => lo ≤ q) := by
  refine q_start (cc := cX9_enter) (nL := 6) (ret := none) (by decide) rfl rfl (Nat.le_of_ble_eq_true rfl) ?_
  intro p e s m args below meth c C hr hlk hin
  unfold T_X9_enter at h
  have h := h (fun (a0 : Nat) (i1 : Int32) (a2 : Nat) (i3 : Int32) (M : Mm) => QW p l e ({ frames := 1, cells := 0, slots := 0, locals := 22 } : Room) s m args below meth c (MQ below (QvM D cA lo Q) args s 0 0 (fun q => lo ≤ q)) 6 D cA lo 0 0 M 26 [(0, .ref a0), (1, .int i1), (2, .ref a2), (3, .int i3)] []) (fun (a0 : Nat) (i1 : Int32) (a2 : Nat) (i3 : Int32) (i4 : Int32) (as0 : Nat) (is1 : Int32) (is2 : Int32) (M : Mm) => QW p l e ({ frames := 1, cells := 0, slots := 0, locals := 22 } : Room) s m args below meth c (MQ below (QvM D cA lo Q) args s 0 0 (fun q => lo ≤ q)) 6 D cA lo 0 0 M 75 [(0, .ref a0), (1, .int i1), (2, .ref a2), (3, .int i3), (4, .int i4)] [.int is2, .int is1, .ref as0]) (fun (a0 : Nat) (i1 : Int32) (a2 : Nat) (i3 : Int32) (i5 : Int32) (M : Mm) => QW p l e ({ frames := 1, cells := 0, slots := 0, locals := 22 } : Room) s m args below meth c (MQ below (QvM D cA lo Q) args s 0 0 (fun q => lo ≤ q)) 6 D cA lo 0 0 M 94 [(0, .ref a0), (1, .int i1), (2, .ref a2), (3, .int i3), (5, .int i5)] []) (fun a0 i1 a2 i3 M h => b_X9_enter_26 C hr hlk M a0 i1 a2 i3 h) (fun a0 i1 a2 i3 i4 as0 is1 is2 M h => b_X9_enter_75 C hr hlk M a0 i1 a2 i3 i4 as0 is1 is2 h) (fun a0 i1 a2 i3 i5 M h => b_X9_enter_94 C hr hlk M a0 i1 a2 i3 i5 h)
  refine q_aload_n C dX9_enter_0 rfl (j := 0) rfl ?_
  refine q_getR (ci := 9) (k0 := 4) (T := TX9) C inX9_enter_X9 rfl (by decide) h.1 (by decide) rfl (by decide +kernel) rfl dX9_enter_1 ?_
  obtain ⟨a_1, z, h⟩ := h.2
  refine q_ref z ?_
  refine q_iload_n C dX9_enter_4 rfl (j := 1) rfl ?_
  obtain ⟨n_2, z1, z2, h⟩ := h
  refine q_gald C z1 z2 dX9_enter_5 ?_
  obtain ⟨a_3, z, h⟩ := h
  refine q_ref z ?_
  refine q_astore_n (lv' := [(2, .ref a_3), (0, .ref a0), (1, .int i1)]) C dX9_enter_6 rfl (by decide) rfl ?_
  refine q_aload_n C dX9_enter_7 rfl (j := 1) rfl ?_
  refine q_dup C dX9_enter_8 rfl ?_
  refine q_getI (ci := 9) (k0 := 7) (T := TX9) C inX9_enter_X9 rfl (by decide) h.1 (by decide) rfl (by decide +kernel) rfl dX9_enter_9 ?_
  have h := h.2
  refine q_aload_n C dX9_enter_12 rfl (j := 0) rfl ?_
  obtain ⟨k_5, n_4, z1, z2, h⟩ := h
  refine q_alen C z1 z2 dX9_enter_13 ?_
  refine q_iconst (v := 3) C dX9_enter_14 (by decide) ?_
  refine q_bipush (v := 12) C dX9_enter_15 (by decide) ?_
  refine q_ci (q_runS (As := [.int (nI n_4), .int 3, .int 12]) (st := [.int (iM M a0 7), .ref a0]) C (c_X9_is l D cA lo h) (va_cwS 3 C.2.2.2.2.1 gX9_enter_X9_is rfl rfl rfl (by decide +kernel) ⟨Nat.le_of_ble_eq_true rfl, Nat.le_of_ble_eq_true rfl⟩) rfl rfl (Nat.le_of_ble_eq_true rfl) dX9_enter_17 ⟨Nat.le_of_ble_eq_true rfl, Nat.le_of_ble_eq_true rfl⟩) (fun r_6 M_z h => ?_)
  refine q_mem h.1 ?_
  have h := h.2
  refine q_iand C dX9_enter_20 ?_
  refine q_putZ (ci := 9) (k0 := 7) (T := TX9) (v := ((iM M a0 7) &&& r_6)) C inX9_enter_X9 tyX9 tyX9_ok nmX9 rfl (by decide) h.1 (by decide) rfl (by decide +kernel) rfl (by decide +kernel) h.2.1 rfl dX9_enter_21 ?_
  have h := h.2.2
  refine q_iconst (v := 0) C dX9_enter_24 (by decide) ?_
  refine q_istore_n (lv' := [(3, .int 0), (2, .ref a_3), (0, .ref a0), (1, .int i1)]) C dX9_enter_25 rfl (by decide) rfl ?_
  exact q_sub [2, 3, 1, 0] rfl h
def S_X9_table_10 (K10 : Nat → Nat → Int32 → Int32 → Mm → Prop) (K62 : Nat → Int32 → Mm → Prop) (Q : Mm → Prop) (M : Mm) (a0 : Nat) (a1 : Nat) (i2 : Int32) (i3 : Int32) : Prop := (i2 ≤ i3 → kM M a0 = (9, 13) ∧ (100 < (iM M a0 3) → kM M a0 = (9, 13) ∧ ((0 : Int32) = 0 ∨ (0 : Int32) = 1) ∧ K62 a0 0 (wI M a0 7 0)) ∧ (¬ 100 < (iM M a0 3) → kM M a0 = (9, 13) ∧ (160 < (iM M a0 5) → kM M a0 = (9, 13) ∧ ((0 : Int32) = 0 ∨ (0 : Int32) = 1) ∧ K62 a0 0 (wI M a0 7 0)) ∧ (¬ 160 < (iM M a0 5) → kM M a0 = (9, 13) ∧ ((1 : Int32) = 0 ∨ (1 : Int32) = 1) ∧ K62 a0 0 (wI M a0 7 1)))) ∧ (¬ i2 ≤ i3 → ∃ n_4 : Nat, kM M a1 = (121, n_4) ∧ vp_in i3 n_4 ∧ ∃ a_5 : Nat, rM M a1 i3.toNatClampNeg = some a_5 ∧ T_J7_fill_53178 M a_5 (-1) (fun M_7 => K10 a0 a1 i2 (i3 + 1) M_7))
def S_X9_table_62 (K10 : Nat → Nat → Int32 → Int32 → Mm → Prop) (K62 : Nat → Int32 → Mm → Prop) (Q : Mm → Prop) (M : Mm) (a0 : Nat) (i1 : Int32) : Prop := kM M a0 = (9, 13) ∧ ((iM M a0 5) ≤ i1 → Q M) ∧ (¬ (iM M a0 5) ≤ i1 → kM M a0 = (9, 13) ∧ ∃ a_8 : Nat, rM M a0 4 = some a_8 ∧ ∃ n_9 : Nat, kM M a_8 = (121, n_9) ∧ vp_in i1 n_9 ∧ ((rM M a_8 i1.toNatClampNeg) = none → K62 a0 (i1 + 1) M) ∧ (∀ a_10 : Nat, (rM M a_8 i1.toNatClampNeg) = some a_10 → kM M a0 = (9, 13) ∧ T_X9_enter M a0 i1 (fun M_12 => K62 a0 (i1 + 1) M_12)))
def T_X9_table (M : Mm) (a0 : Nat) (Q : Mm → Prop) : Prop := ∀ (K10 : Nat → Nat → Int32 → Int32 → Mm → Prop) (K62 : Nat → Int32 → Mm → Prop), (∀ (a0 : Nat) (a1 : Nat) (i2 : Int32) (i3 : Int32) (M : Mm), S_X9_table_10 K10 K62 Q M a0 a1 i2 i3 → K10 a0 a1 i2 i3 M) → (∀ (a0 : Nat) (i1 : Int32) (M : Mm), S_X9_table_62 K10 K62 Q M a0 i1 → K62 a0 i1 M) → kM M a0 = (9, 13) ∧ ∃ a_1 : Nat, rM M a0 6 = some a_1 ∧ ∃ k_3 n_2 : Nat, kM M a_1 = (k_3, n_2) ∧ ak k_3 ∧ K10 a0 a_1 (nI n_2) 0 M
theorem inX9_table_X9 : ∀ w ∈ wsX90, w ∈ wsX9_table := by decide +kernel
set_option maxRecDepth 100000 in
set_option maxHeartbeats 4000000 in
theorem b_X9_table_10 {p : Program} {l : Launch} {e : Env} {s : State} {m : MethodId} {args : Array Value} {below : List Frame} {meth : Method} {c : Code} {D : va_G} {cA : Nat → ClassId} {lo : Nat} (C : Cx p s m args c cX9_table 5 RX9 wsX9_table D cA lo) (hr : meth.sig.returnType = none) (hlk : meth.locks = false) {Q : Mm → Prop} (M : Mm) (a0 : Nat) (a1 : Nat) (i2 : Int32) (i3 : Int32) (h : S_X9_table_10 (fun (a0 : Nat) (a1 : Nat) (i2 : Int32) (i3 : Int32) (M : Mm) => QW p l e ({ frames := 2, cells := 0, slots := 0, locals := 47 } : Room) s m args below meth c (MQ below (QvM D cA lo Q) args s 0 0 (fun q => lo ≤ q)) 5 D cA lo 0 0 M 10 [(0, .ref a0), (1, .ref a1), (2, .int i2), (3, .int i3)] []) (fun (a0 : Nat) (i1 : Int32) (M : Mm) => QW p l e ({ frames := 2, cells := 0, slots := 0, locals := 47 } : Room) s m args below meth c (MQ below (QvM D cA lo Q) args s 0 0 (fun q => lo ≤ q)) 5 D cA lo 0 0 M 62 [(0, .ref a0), (1, .int i1)] []) Q M a0 a1 i2 i3) : QW p l e ({ frames := 2, cells := 0, slots := 0, locals := 47 } : Room) s m args below meth c (MQ below (QvM D cA lo Q) args s 0 0 (fun q => lo ≤ q)) 5 D cA lo 0 0 M 10 [(0, .ref a0), (1, .ref a1), (2, .int i2), (3, .int i3)] [] := by
  unfold S_X9_table_10 at h
  refine q_iload_n C dX9_table_10 rfl (j := 3) rfl ?_
  refine q_iload_n C dX9_table_11 rfl (j := 2) rfl ?_
  refine q_icmp_ge (tgt := 32) C dX9_table_12 (by decide) (fun z => ?_) (fun z => ?_)
  · have h := h.1 z
    refine q_aload_n C dX9_table_32 rfl (j := 0) rfl ?_
    refine q_aload_n C dX9_table_33 rfl (j := 0) rfl ?_
    refine q_getI (ci := 9) (k0 := 3) (T := TX9) C inX9_table_X9 rfl (by decide) h.1 (by decide) rfl (by decide +kernel) rfl dX9_table_34 ?_
    have h := h.2
    refine q_bipush (v := 100) C dX9_table_37 (by decide) ?_
    refine q_icmp_gt (tgt := 56) C dX9_table_39 (by decide) (fun z => ?_) (fun z => ?_)
    · have h := h.1 z
      refine q_iconst (v := 0) C dX9_table_56 (by decide) ?_
      refine q_putZ (ci := 9) (k0 := 7) (T := TX9) (v := 0) C inX9_table_X9 tyX9 tyX9_ok nmX9 rfl (by decide) h.1 (by decide) rfl (by decide +kernel) rfl (by decide +kernel) h.2.1 rfl dX9_table_57 ?_
      have h := h.2.2
      refine q_iconst (v := 0) C dX9_table_60 (by decide) ?_
      refine q_istore_n (lv' := [(1, .int 0), (0, .ref a0), (2, .int i2), (3, .int i3)]) C dX9_table_61 rfl (by decide) rfl ?_
      exact q_sub [1, 0] rfl h
    · have h := h.2 z
      refine q_aload_n C dX9_table_42 rfl (j := 0) rfl ?_
      refine q_getI (ci := 9) (k0 := 5) (T := TX9) C inX9_table_X9 rfl (by decide) h.1 (by decide) rfl (by decide +kernel) rfl dX9_table_43 ?_
      have h := h.2
      refine q_sipush (v := 160) C dX9_table_46 (by decide) ?_
      refine q_icmp_gt (tgt := 56) C dX9_table_49 (by decide) (fun z => ?_) (fun z => ?_)
      · have h := h.1 z
        refine q_iconst (v := 0) C dX9_table_56 (by decide) ?_
        refine q_putZ (ci := 9) (k0 := 7) (T := TX9) (v := 0) C inX9_table_X9 tyX9 tyX9_ok nmX9 rfl (by decide) h.1 (by decide) rfl (by decide +kernel) rfl (by decide +kernel) h.2.1 rfl dX9_table_57 ?_
        have h := h.2.2
        refine q_iconst (v := 0) C dX9_table_60 (by decide) ?_
        refine q_istore_n (lv' := [(1, .int 0), (0, .ref a0), (2, .int i2), (3, .int i3)]) C dX9_table_61 rfl (by decide) rfl ?_
        exact q_sub [1, 0] rfl h
      · have h := h.2 z
        refine q_iconst (v := 1) C dX9_table_52 (by decide) ?_
        refine q_goto (tgt := 57) C dX9_table_53 (by decide) ?_
        refine q_putZ (ci := 9) (k0 := 7) (T := TX9) (v := 1) C inX9_table_X9 tyX9 tyX9_ok nmX9 rfl (by decide) h.1 (by decide) rfl (by decide +kernel) rfl (by decide +kernel) h.2.1 rfl dX9_table_57 ?_
        have h := h.2.2
        refine q_iconst (v := 0) C dX9_table_60 (by decide) ?_
        refine q_istore_n (lv' := [(1, .int 0), (0, .ref a0), (2, .int i2), (3, .int i3)]) C dX9_table_61 rfl (by decide) rfl ?_
        exact q_sub [1, 0] rfl h
  · have h := h.2 z
    refine q_aload_n C dX9_table_15 rfl (j := 1) rfl ?_
    refine q_iload_n C dX9_table_16 rfl (j := 3) rfl ?_
    obtain ⟨n_4, z1, z2, h⟩ := h
    refine q_gald C z1 z2 dX9_table_17 ?_
    obtain ⟨a_5, z, h⟩ := h
    refine q_ref z ?_
    refine q_astore (lv' := [(4, .ref a_5), (0, .ref a0), (1, .ref a1), (2, .int i2), (3, .int i3)]) C dX9_table_18 (by decide) rfl ?_
    refine q_aload C dX9_table_20 (j := 0) rfl ?_
    refine q_iconst (v := (-1)) C dX9_table_22 (by decide) ?_
    refine q_cv (q_runS (As := [.ref a_5, .int (-1)]) (st := []) C (c_J7_fill_53178 l D cA lo h) (va_cwS 2 C.2.2.2.2.1 gX9_table_J7_fill_53178 rfl rfl rfl (by decide +kernel) ⟨Nat.le_of_ble_eq_true rfl, Nat.le_of_ble_eq_true rfl⟩) rfl rfl (Nat.le_of_ble_eq_true rfl) dX9_table_23 ⟨Nat.le_of_ble_eq_true rfl, Nat.le_of_ble_eq_true rfl⟩) (fun M_7 h => ?_)
    refine q_iinc (v := (i3 + 1)) (lv' := [(3, .int (i3 + 1)), (4, .ref a_5), (0, .ref a0), (1, .ref a1), (2, .int i2)]) C dX9_table_26 (j := 4) rfl rfl (by decide) rfl ?_
    refine q_goto (tgt := 10) C dX9_table_29 (by decide) ?_
    exact q_sub [2, 3, 4, 0] rfl h
set_option maxRecDepth 100000 in
set_option maxHeartbeats 4000000 in
theorem b_X9_table_62 {p : Program} {l : Launch} {e : Env} {s : State} {m : MethodId} {args : Array Value} {below : List Frame} {meth : Method} {c : Code} {D : va_G} {cA : Nat → ClassId} {lo : Nat} (C : Cx p s m args c cX9_table 5 RX9 wsX9_table D cA lo) (hr : meth.sig.returnType = none) (hlk : meth.locks = false) {Q : Mm → Prop} (M : Mm) (a0 : Nat) (i1 : Int32) (h : S_X9_table_62 (fun (a0 : Nat) (a1 : Nat) (i2 : Int32) (i3 : Int32) (M : Mm) => QW p l e ({ frames := 2, cells := 0, slots := 0, locals := 47 } : Room) s m args below meth c (MQ below (QvM D cA lo Q) args s 0 0 (fun q => lo ≤ q)) 5 D cA lo 0 0 M 10 [(0, .ref a0), (1, .ref a1), (2, .int i2), (3, .int i3)] []) (fun (a0 : Nat) (i1 : Int32) (M : Mm) => QW p l e ({ frames := 2, cells := 0, slots := 0, locals := 47 } : Room) s m args below meth c (MQ below (QvM D cA lo Q) args s 0 0 (fun q => lo ≤ q)) 5 D cA lo 0 0 M 62 [(0, .ref a0), (1, .int i1)] []) Q M a0 i1) : QW p l e ({ frames := 2, cells := 0, slots := 0, locals := 47 } : Room) s m args below meth c (MQ below (QvM D cA lo Q) args s 0 0 (fun q => lo ≤ q)) 5 D cA lo 0 0 M 62 [(0, .ref a0), (1, .int i1)] [] := by
  unfold S_X9_table_62 at h
  refine q_iload_n C dX9_table_62 rfl (j := 1) rfl ?_
  refine q_aload_n C dX9_table_63 rfl (j := 0) rfl ?_
  refine q_getI (ci := 9) (k0 := 5) (T := TX9) C inX9_table_X9 rfl (by decide) h.1 (by decide) rfl (by decide +kernel) rfl dX9_table_64 ?_
  have h := h.2
  refine q_icmp_ge (tgt := 90) C dX9_table_67 (by decide) (fun z => ?_) (fun z => ?_)
  · have h := h.1 z
    exact q_vret C hr hlk dX9_table_90 (Nat.le_of_ble_eq_true rfl) (Nat.le_of_ble_eq_true rfl) h
  · have h := h.2 z
    refine q_aload_n C dX9_table_70 rfl (j := 0) rfl ?_
    refine q_getR (ci := 9) (k0 := 4) (T := TX9) C inX9_table_X9 rfl (by decide) h.1 (by decide) rfl (by decide +kernel) rfl dX9_table_71 ?_
    obtain ⟨a_8, z, h⟩ := h.2
    refine q_ref z ?_
    refine q_iload_n C dX9_table_74 rfl (j := 1) rfl ?_
    obtain ⟨n_9, z1, z2, h⟩ := h
    refine q_gald C z1 z2 dX9_table_75 ?_
    refine q_ifnull (tgt := 84) C dX9_table_76 (by decide) (fun z => ?_) (fun a_10 z => ?_)
    · have h := h.1 z
      refine q_iinc (v := (i1 + 1)) (lv' := [(1, .int (i1 + 1)), (0, .ref a0)]) C dX9_table_84 (j := 1) rfl rfl (by decide) rfl ?_
      refine q_goto (tgt := 62) C dX9_table_87 (by decide) ?_
      exact q_sub [1, 0] rfl h
    · have h := h.2 _ z
      refine q_aload_n C dX9_table_79 rfl (j := 0) rfl ?_
      refine q_iload_n C dX9_table_80 rfl (j := 1) rfl ?_
      refine q_cv (q_runV (As := [.int i1]) (st := []) C (c_X9_enter l D cA lo h.2) (cwV 1 C.2.2.2.2.1 gX9_table_X9_enter rfl rfl rfl (by decide +kernel) ⟨Nat.le_of_ble_eq_true rfl, Nat.le_of_ble_eq_true rfl⟩) h.1 (by decide) rfl rfl rfl (Nat.le_of_ble_eq_true rfl) dX9_table_81 ⟨Nat.le_of_ble_eq_true rfl, Nat.le_of_ble_eq_true rfl⟩) (fun M_12 h => ?_)
      refine q_iinc (v := (i1 + 1)) (lv' := [(1, .int (i1 + 1)), (0, .ref a0)]) C dX9_table_84 (j := 1) rfl rfl (by decide) rfl ?_
      refine q_goto (tgt := 62) C dX9_table_87 (by decide) ?_
      exact q_sub [1, 0] rfl h
set_option maxRecDepth 100000 in
set_option maxHeartbeats 4000000 in
theorem c_X9_table (l : Launch) (D : va_G) (cA : Nat → ClassId) (lo : Nat) {M : Mm} {a0 : Nat} {Q : Mm → Prop} (h : T_X9_table M a0 Q) : Met l yX9_table wsX9_table ({ frames := 2, cells := 0, slots := 0, locals := 47 } : Room) (PcM D cA lo [.ref a0] M) (QvM D cA lo Q) 0 0 (fun q => lo ≤ q) := by
  refine q_start (cc := cX9_table) (nL := 5) (ret := none) (by decide) rfl rfl (Nat.le_of_ble_eq_true rfl) ?_
  intro p e s m args below meth c C hr hlk hin
  unfold T_X9_table at h
  have h := h (fun (a0 : Nat) (a1 : Nat) (i2 : Int32) (i3 : Int32) (M : Mm) => QW p l e ({ frames := 2, cells := 0, slots := 0, locals := 47 } : Room) s m args below meth c (MQ below (QvM D cA lo Q) args s 0 0 (fun q => lo ≤ q)) 5 D cA lo 0 0 M 10 [(0, .ref a0), (1, .ref a1), (2, .int i2), (3, .int i3)] []) (fun (a0 : Nat) (i1 : Int32) (M : Mm) => QW p l e ({ frames := 2, cells := 0, slots := 0, locals := 47 } : Room) s m args below meth c (MQ below (QvM D cA lo Q) args s 0 0 (fun q => lo ≤ q)) 5 D cA lo 0 0 M 62 [(0, .ref a0), (1, .int i1)] []) (fun a0 a1 i2 i3 M h => b_X9_table_10 C hr hlk M a0 a1 i2 i3 h) (fun a0 i1 M h => b_X9_table_62 C hr hlk M a0 i1 h)
  refine q_aload_n C dX9_table_0 rfl (j := 0) rfl ?_
  refine q_getR (ci := 9) (k0 := 6) (T := TX9) C inX9_table_X9 rfl (by decide) h.1 (by decide) rfl (by decide +kernel) rfl dX9_table_1 ?_
  obtain ⟨a_1, z, h⟩ := h.2
  refine q_ref z ?_
  refine q_astore_n (lv' := [(1, .ref a_1), (0, .ref a0)]) C dX9_table_4 rfl (by decide) rfl ?_
  refine q_aload_n C dX9_table_5 rfl (j := 0) rfl ?_
  obtain ⟨k_3, n_2, z1, z2, h⟩ := h
  refine q_alen C z1 z2 dX9_table_6 ?_
  refine q_istore_n (lv' := [(2, .int (nI n_2)), (1, .ref a_1), (0, .ref a0)]) C dX9_table_7 rfl (by decide) rfl ?_
  refine q_iconst (v := 0) C dX9_table_8 (by decide) ?_
  refine q_istore_n (lv' := [(3, .int 0), (2, .int (nI n_2)), (1, .ref a_1), (0, .ref a0)]) C dX9_table_9 rfl (by decide) rfl ?_
  exact q_sub [3, 2, 1, 0] rfl h
def T_X9_init (Cc Zz : Nat) (M : Mm) (a0 : Nat) (Q : Mm → Prop) : Prop := 0 + 101 ≤ Cc ∧ 0 + 400 ≤ Zz ∧ ∀ q_1 : Nat, frs M q_1 → kM (wG M q_1 121 100 100 3) a0 = (9, 13) ∧ (0 + 1 + 100) + 1 ≤ Cc ∧ (0 + 100 + 300) + 100 ≤ Zz ∧ ∀ q_2 : Nat, frs (wR (wG M q_1 121 100 100 3) a0 1 (some q_1)) q_2 → kM (wN (wR (wG M q_1 121 100 100 3) a0 1 (some q_1)) q_2 101 100) a0 = (9, 13) ∧ ((0 + 1 + 100) + 1) + 1 ≤ Cc ∧ ((0 + 100 + 300) + 100) + 160 ≤ Zz ∧ ∀ q_3 : Nat, frs (wR (wN (wR (wG M q_1 121 100 100 3) a0 1 (some q_1)) q_2 101 100) a0 2 (some q_2)) q_3 → kM (wN (wR (wN (wR (wG M q_1 121 100 100 3) a0 1 (some q_1)) q_2 101 100) a0 2 (some q_2)) q_3 121 160) a0 = (9, 13) ∧ (((0 + 1 + 100) + 1) + 1) + 101 ≤ Cc ∧ (((0 + 100 + 300) + 100) + 160) + 10100 ≤ Zz ∧ ∀ q_4 : Nat, frs (wR (wN (wR (wN (wR (wG M q_1 121 100 100 3) a0 1 (some q_1)) q_2 101 100) a0 2 (some q_2)) q_3 121 160) a0 4 (some q_3)) q_4 → kM (wG (wR (wN (wR (wN (wR (wG M q_1 121 100 100 3) a0 1 (some q_1)) q_2 101 100) a0 2 (some q_2)) q_3 121 160) a0 4 (some q_3)) q_4 121 100 100 100) a0 = (9, 13) ∧ kM (wR (wG (wR (wN (wR (wN (wR (wG M q_1 121 100 100 3) a0 1 (some q_1)) q_2 101 100) a0 2 (some q_2)) q_3 121 160) a0 4 (some q_3)) q_4 121 100 100 100) a0 6 (some q_4)) a0 = (9, 13) ∧ ((1 : Int32) = 0 ∨ (1 : Int32) = 1) ∧ ((((0 + 1 + 100) + 1) + 1) + 1 + 100) + 1 ≤ Cc ∧ ((((0 + 100 + 300) + 100) + 160) + 100 + 10000) + 160 ≤ Zz ∧ ∀ q_5 : Nat, frs (wI (wR (wG (wR (wN (wR (wN (wR (wG M q_1 121 100 100 3) a0 1 (some q_1)) q_2 101 100) a0 2 (some q_2)) q_3 121 160) a0 4 (some q_3)) q_4 121 100 100 100) a0 6 (some q_4)) a0 7 1) q_5 → kM (wN (wI (wR (wG (wR (wN (wR (wN (wR (wG M q_1 121 100 100 3) a0 1 (some q_1)) q_2 101 100) a0 2 (some q_2)) q_3 121 160) a0 4 (some q_3)) q_4 121 100 100 100) a0 6 (some q_4)) a0 7 1) q_5 121 160) a0 = (9, 13) ∧ (((((0 + 1 + 100) + 1) + 1) + 1 + 100) + 1) + 1 ≤ Cc ∧ (((((0 + 100 + 300) + 100) + 160) + 100 + 10000) + 160) + 100 ≤ Zz ∧ ∀ q_6 : Nat, frs (wR (wN (wI (wR (wG (wR (wN (wR (wN (wR (wG M q_1 121 100 100 3) a0 1 (some q_1)) q_2 101 100) a0 2 (some q_2)) q_3 121 160) a0 4 (some q_3)) q_4 121 100 100 100) a0 6 (some q_4)) a0 7 1) q_5 121 160) a0 8 (some q_5)) q_6 → kM (wN (wR (wN (wI (wR (wG (wR (wN (wR (wN (wR (wG M q_1 121 100 100 3) a0 1 (some q_1)) q_2 101 100) a0 2 (some q_2)) q_3 121 160) a0 4 (some q_3)) q_4 121 100 100 100) a0 6 (some q_4)) a0 7 1) q_5 121 160) a0 8 (some q_5)) q_6 101 100) a0 = (9, 13) ∧ (((((((0 + 1 + 100) + 1) + 1) + 1 + 100) + 1) + 1) ≤ Cc ∧ ((((((0 + 100 + 300) + 100) + 160) + 100 + 10000) + 160) + 100) ≤ Zz) ∧ kM (wR (wN (wR (wN (wI (wR (wG (wR (wN (wR (wN (wR (wG M q_1 121 100 100 3) a0 1 (some q_1)) q_2 101 100) a0 2 (some q_2)) q_3 121 160) a0 4 (some q_3)) q_4 121 100 100 100) a0 6 (some q_4)) a0 7 1) q_5 121 160) a0 8 (some q_5)) q_6 101 100) a0 9 (some q_6)) a0 = (9, 13) ∧ T_X9_table (wR (wN (wR (wN (wI (wR (wG (wR (wN (wR (wN (wR (wG M q_1 121 100 100 3) a0 1 (some q_1)) q_2 101 100) a0 2 (some q_2)) q_3 121 160) a0 4 (some q_3)) q_4 121 100 100 100) a0 6 (some q_4)) a0 7 1) q_5 121 160) a0 8 (some q_5)) q_6 101 100) a0 9 (some q_6)) a0 (fun M_8 => ((((((0 + 1 + 100) + 1) + 1) + 1 + 100) + 1) + 1) ≤ Cc ∧ ((((((0 + 100 + 300) + 100) + 160) + 100 + 10000) + 160) + 100) ≤ Zz ∧ Q M_8)
theorem inX9_init_X9 : ∀ w ∈ wsX90, w ∈ wsX9_init := by decide +kernel
set_option maxRecDepth 100000 in
set_option maxHeartbeats 4000000 in
theorem c_X9_init (l : Launch) (D : va_G) (cA : Nat → ClassId) (lo : Nat) {M : Mm} {a0 : Nat} {Cc Zz : Nat} {Q : Mm → Prop} (h : T_X9_init Cc Zz M a0 Q) : Met l yX9_init wsX9_init ({ frames := 3, cells := Cc, slots := Zz, locals := 71 } : Room) (PcM D cA lo [.ref a0] M) (QvM D cA lo Q) Cc Zz (fun q => lo ≤ q) := by
  refine q_start (cc := cX9_init) (nL := 1) (ret := none) (by decide) rfl rfl (Nat.le_of_ble_eq_true rfl) ?_
  intro p e s m args below meth c C hr hlk hin
  unfold T_X9_init at h
  refine q_aload_n C dX9_init_0 rfl (j := 0) rfl ?_
  refine q_objInit C (by decide +kernel) (by decide +kernel) (by decide +kernel) dX9_init_1 ⟨Nat.le_of_ble_eq_true rfl, Nat.le_of_ble_eq_true rfl⟩ ?_
  refine q_aload_n C dX9_init_4 rfl (j := 0) rfl ?_
  refine q_bipush (v := 100) C dX9_init_5 (by decide) ?_
  refine q_iconst (v := 3) C dX9_init_7 (by decide) ?_
  refine q_mnaI (N := 100) (K := 3) C (by decide +kernel) (C.2.2.2.2.2.2.2.2.2.2.2.2.2.2.2.2.1.use) (by decide +kernel) (by decide) (by decide) (by decide) (by decide) (by decide) (by decide) (by decide) ⟨h.1, h.2.1⟩ dX9_init_8 (fun q_1 hq _ => ?_)
  have h := h.2.2 q_1 hq
  refine q_putFR (ci := 9) (k0 := 1) (T := TX9) (v := (some q_1)) (ty := .array (.array .int)) C inX9_init_X9 tyX9 tyX9_ok nmX9 rfl (by decide) h.1 (by decide) rfl (by decide +kernel) rfl hin rfl (by decide +kernel) rfl rfl rfl dX9_init_12 ?_
  have h := h.2
  refine q_aload_n C dX9_init_15 rfl (j := 0) rfl ?_
  refine q_bipush (v := 100) C dX9_init_16 (by decide) ?_
  refine q_newZ (N := 100) C (by decide +kernel) (by decide) (by decide) (by decide) ⟨h.1, h.2.1⟩ dX9_init_18 (fun q_2 hq _ => ?_)
  have h := h.2.2 q_2 hq
  refine q_putFR (ci := 9) (k0 := 2) (T := TX9) (v := (some q_2)) (ty := .array .boolean) C inX9_init_X9 tyX9 tyX9_ok nmX9 rfl (by decide) h.1 (by decide) rfl (by decide +kernel) rfl hin rfl (by decide +kernel) rfl rfl rfl dX9_init_20 ?_
  have h := h.2
  refine q_aload_n C dX9_init_23 rfl (j := 0) rfl ?_
  refine q_sipush (v := 160) C dX9_init_24 (by decide) ?_
  refine q_newG (N := 160) C (by decide +kernel) (by decide) (by decide) (by decide) ⟨h.1, h.2.1⟩ dX9_init_27 (fun q_3 hq _ => ?_)
  have h := h.2.2 q_3 hq
  refine q_putFR (ci := 9) (k0 := 4) (T := TX9) (v := (some q_3)) (ty := .array (.array .int)) C inX9_init_X9 tyX9 tyX9_ok nmX9 rfl (by decide) h.1 (by decide) rfl (by decide +kernel) rfl hin rfl (by decide +kernel) rfl rfl rfl dX9_init_30 ?_
  have h := h.2
  refine q_aload_n C dX9_init_33 rfl (j := 0) rfl ?_
  refine q_bipush (v := 100) C dX9_init_34 (by decide) ?_
  refine q_bipush (v := 100) C dX9_init_36 (by decide) ?_
  refine q_mnaI (N := 100) (K := 100) C (by decide +kernel) (C.2.2.2.2.2.2.2.2.2.2.2.2.2.2.2.2.1.use) (by decide +kernel) (by decide) (by decide) (by decide) (by decide) (by decide) (by decide) (by decide) ⟨h.1, h.2.1⟩ dX9_init_38 (fun q_4 hq _ => ?_)
  have h := h.2.2 q_4 hq
  refine q_putFR (ci := 9) (k0 := 6) (T := TX9) (v := (some q_4)) (ty := .array (.array .int)) C inX9_init_X9 tyX9 tyX9_ok nmX9 rfl (by decide) h.1 (by decide) rfl (by decide +kernel) rfl hin rfl (by decide +kernel) rfl rfl rfl dX9_init_42 ?_
  have h := h.2
  refine q_aload_n C dX9_init_45 rfl (j := 0) rfl ?_
  refine q_iconst (v := 1) C dX9_init_46 (by decide) ?_
  refine q_putZ (ci := 9) (k0 := 7) (T := TX9) (v := 1) C inX9_init_X9 tyX9 tyX9_ok nmX9 rfl (by decide) h.1 (by decide) rfl (by decide +kernel) rfl (by decide +kernel) h.2.1 rfl dX9_init_47 ?_
  have h := h.2.2
  refine q_aload_n C dX9_init_50 rfl (j := 0) rfl ?_
  refine q_sipush (v := 160) C dX9_init_51 (by decide) ?_
  refine q_newG (N := 160) C (by decide +kernel) (by decide) (by decide) (by decide) ⟨h.1, h.2.1⟩ dX9_init_54 (fun q_5 hq _ => ?_)
  have h := h.2.2 q_5 hq
  refine q_putFR (ci := 9) (k0 := 8) (T := TX9) (v := (some q_5)) (ty := .array (.array .int)) C inX9_init_X9 tyX9 tyX9_ok nmX9 rfl (by decide) h.1 (by decide) rfl (by decide +kernel) rfl hin rfl (by decide +kernel) rfl rfl rfl dX9_init_57 ?_
  have h := h.2
  refine q_aload_n C dX9_init_60 rfl (j := 0) rfl ?_
  refine q_bipush (v := 100) C dX9_init_61 (by decide) ?_
  refine q_newZ (N := 100) C (by decide +kernel) (by decide) (by decide) (by decide) ⟨h.1, h.2.1⟩ dX9_init_63 (fun q_6 hq _ => ?_)
  have h := h.2.2 q_6 hq
  refine q_putFR (ci := 9) (k0 := 9) (T := TX9) (v := (some q_6)) (ty := .array .boolean) C inX9_init_X9 tyX9 tyX9_ok nmX9 rfl (by decide) h.1 (by decide) rfl (by decide +kernel) rfl hin rfl (by decide +kernel) rfl rfl rfl dX9_init_65 ?_
  have h := h.2
  refine q_aload_n C dX9_init_68 rfl (j := 0) rfl ?_
  have hcz := h.1
  have h := h.2
  refine q_cv (q_runV (As := []) (st := []) C (c_X9_table l D cA lo h.2) (cwV 0 C.2.2.2.2.1 gX9_init_X9_table rfl rfl rfl (by decide +kernel) ⟨Nat.le_of_ble_eq_true rfl, Nat.le_of_ble_eq_true rfl⟩) h.1 (by decide) rfl rfl rfl (Nat.le_of_ble_eq_true rfl) dX9_init_69 ⟨Nat.le_trans (Nat.le_of_eq (Nat.add_zero _)) hcz.1, Nat.le_trans (Nat.le_of_eq (Nat.add_zero _)) hcz.2⟩) (fun M_8 h => ?_)
  exact q_vret C hr hlk dX9_init_72 h.1 h.2.1 h.2.2
def T_X9_thrown (M : Mm) (a0 : Nat) (Q : Int32 → Prop) : Prop := kM M a0 = (9, 13) ∧ Q (iM M a0 0)
theorem inX9_thrown_X9 : ∀ w ∈ wsX90, w ∈ wsX9_thrown := by decide +kernel
set_option maxRecDepth 100000 in
set_option maxHeartbeats 4000000 in
theorem c_X9_thrown (l : Launch) (D : va_G) (cA : Nat → ClassId) (lo : Nat) {M : Mm} {a0 : Nat} {Q : Int32 → Prop} (h : T_X9_thrown M a0 Q) : Met l yX9_thrown wsX9_thrown ({ frames := 0, cells := 0, slots := 0, locals := 0 } : Room) (PcM D cA lo [.ref a0] M) (QiM D cA lo (fun r M1 => M1 = M ∧ Q r)) 0 0 (fun q => lo ≤ q) := by
  refine q_start (cc := cX9_thrown) (nL := 1) (ret := (some .int)) (by decide) rfl rfl (Nat.le_of_ble_eq_true rfl) ?_
  intro p e s m args below meth c C hr hlk hin
  unfold T_X9_thrown at h
  refine q_aload_n C dX9_thrown_0 rfl (j := 0) rfl ?_
  refine q_getI (ci := 9) (k0 := 0) (T := TX9) C inX9_thrown_X9 rfl (by decide) h.1 (by decide) rfl (by decide +kernel) rfl dX9_thrown_1 ?_
  have h := h.2
  exact q_iret C hr hlk dX9_thrown_4 (Nat.le_of_ble_eq_true rfl) (Nat.le_of_ble_eq_true rfl) ⟨rfl, h⟩
def T_X9_refuse (M : Mm) (a0 : Nat) (i1 : Int32) (Q : Int32 → Mm → Prop) : Prop := kM M a0 = (9, 13) ∧ Q 0 (wI M a0 0 i1)
theorem inX9_refuse_X9 : ∀ w ∈ wsX90, w ∈ wsX9_refuse := by decide +kernel
set_option maxRecDepth 100000 in
set_option maxHeartbeats 4000000 in
theorem c_X9_refuse (l : Launch) (D : va_G) (cA : Nat → ClassId) (lo : Nat) {M : Mm} {a0 : Nat} {i1 : Int32} {Q : Int32 → Mm → Prop} (h : T_X9_refuse M a0 i1 Q) : Met l yX9_refuse wsX9_refuse ({ frames := 0, cells := 0, slots := 0, locals := 0 } : Room) (PcM D cA lo [.ref a0, .int i1] M) (QiM D cA lo Q) 0 0 (fun q => lo ≤ q) := by
  refine q_start (cc := cX9_refuse) (nL := 2) (ret := (some .int)) (by decide) rfl rfl (Nat.le_of_ble_eq_true rfl) ?_
  intro p e s m args below meth c C hr hlk hin
  unfold T_X9_refuse at h
  refine q_aload_n C dX9_refuse_0 rfl (j := 0) rfl ?_
  refine q_iload_n C dX9_refuse_1 rfl (j := 1) rfl ?_
  refine q_putI (ci := 9) (k0 := 0) (T := TX9) (v := i1) (ty := .int) C inX9_refuse_X9 tyX9 tyX9_ok nmX9 rfl (by decide) h.1 (by decide) rfl (by decide +kernel) rfl (by decide +kernel) rfl rfl rfl dX9_refuse_2 ?_
  have h := h.2
  refine q_iconst (v := 0) C dX9_refuse_5 (by decide) ?_
  exact q_iret C hr hlk dX9_refuse_6 (Nat.le_of_ble_eq_true rfl) (Nat.le_of_ble_eq_true rfl) h
def T_X9_isNear (M : Mm) (i0 : Int32) (Q : Int32 → Prop) : Prop := T_X9_is M i0 (-500) 500 (fun r_1 => (r_1 = 0 ∨ r_1 = 1) ∧ Q r_1)
set_option maxRecDepth 100000 in
set_option maxHeartbeats 4000000 in
theorem c_X9_isNear (l : Launch) (D : va_G) (cA : Nat → ClassId) (lo : Nat) {M : Mm} {i0 : Int32} {Q : Int32 → Prop} (h : T_X9_isNear M i0 Q) : Met l yX9_isNear wsX9_isNear ({ frames := 1, cells := 0, slots := 0, locals := 22 } : Room) (PcM D cA lo [.int i0] M) (QiM D cA lo (fun r M1 => M1 = M ∧ Q r)) 0 0 (fun q => lo ≤ q) := by
  refine q_start (cc := cX9_isNear) (nL := 1) (ret := (some .boolean)) (by decide) rfl rfl (Nat.le_of_ble_eq_true rfl) ?_
  intro p e s m args below meth c C hr hlk hin
  unfold T_X9_isNear at h
  refine q_iload_n C dX9_isNear_0 rfl (j := 0) rfl ?_
  refine q_sipush (v := (-500)) C dX9_isNear_1 (by decide) ?_
  refine q_sipush (v := 500) C dX9_isNear_4 (by decide) ?_
  refine q_ci (q_runS (As := [.int i0, .int (-500), .int 500]) (st := []) C (c_X9_is l D cA lo h) (va_cwS 3 C.2.2.2.2.1 gX9_isNear_X9_is rfl rfl rfl (by decide +kernel) ⟨Nat.le_of_ble_eq_true rfl, Nat.le_of_ble_eq_true rfl⟩) rfl rfl (Nat.le_of_ble_eq_true rfl) dX9_isNear_7 ⟨Nat.le_of_ble_eq_true rfl, Nat.le_of_ble_eq_true rfl⟩) (fun r_1 M_z h => ?_)
  refine q_mem h.1 ?_
  have h := h.2
  exact q_zret C hr hlk dX9_isNear_10 (Nat.le_of_ble_eq_true rfl) (Nat.le_of_ble_eq_true rfl) h.1 ⟨rfl, h.2⟩
def T_X9_isPoint (M : Mm) (a0 : Nat) (i1 : Int32) (Q : Int32 → Prop) : Prop := kM M a0 = (9, 13) ∧ T_X9_is M i1 0 ((iM M a0 3) - 1) (fun r_1 => (r_1 = 0 → Q 0) ∧ (¬ r_1 = 0 → kM M a0 = (9, 13) ∧ ∃ a_2 : Nat, rM M a0 2 = some a_2 ∧ ∃ n_3 : Nat, kM M a_2 = (101, n_3) ∧ vp_in i1 n_3 ∧ ((iM M a_2 i1.toNatClampNeg) = 0 → Q 0) ∧ (¬ (iM M a_2 i1.toNatClampNeg) = 0 → Q 1)))
theorem inX9_isPoint_X9 : ∀ w ∈ wsX90, w ∈ wsX9_isPoint := by decide +kernel
set_option maxRecDepth 100000 in
set_option maxHeartbeats 4000000 in
theorem c_X9_isPoint (l : Launch) (D : va_G) (cA : Nat → ClassId) (lo : Nat) {M : Mm} {a0 : Nat} {i1 : Int32} {Q : Int32 → Prop} (h : T_X9_isPoint M a0 i1 Q) : Met l yX9_isPoint wsX9_isPoint ({ frames := 1, cells := 0, slots := 0, locals := 22 } : Room) (PcM D cA lo [.ref a0, .int i1] M) (QiM D cA lo (fun r M1 => M1 = M ∧ Q r)) 0 0 (fun q => lo ≤ q) := by
  refine q_start (cc := cX9_isPoint) (nL := 2) (ret := (some .boolean)) (by decide) rfl rfl (Nat.le_of_ble_eq_true rfl) ?_
  intro p e s m args below meth c C hr hlk hin
  unfold T_X9_isPoint at h
  refine q_iload_n C dX9_isPoint_0 rfl (j := 1) rfl ?_
  refine q_iconst (v := 0) C dX9_isPoint_1 (by decide) ?_
  refine q_aload_n C dX9_isPoint_2 rfl (j := 0) rfl ?_
  refine q_getI (ci := 9) (k0 := 3) (T := TX9) C inX9_isPoint_X9 rfl (by decide) h.1 (by decide) rfl (by decide +kernel) rfl dX9_isPoint_3 ?_
  have h := h.2
  refine q_iconst (v := 1) C dX9_isPoint_6 (by decide) ?_
  refine q_isub C dX9_isPoint_7 ?_
  refine q_ci (q_runS (As := [.int i1, .int 0, .int ((iM M a0 3) - 1)]) (st := []) C (c_X9_is l D cA lo h) (va_cwS 3 C.2.2.2.2.1 gX9_isPoint_X9_is rfl rfl rfl (by decide +kernel) ⟨Nat.le_of_ble_eq_true rfl, Nat.le_of_ble_eq_true rfl⟩) rfl rfl (Nat.le_of_ble_eq_true rfl) dX9_isPoint_8 ⟨Nat.le_of_ble_eq_true rfl, Nat.le_of_ble_eq_true rfl⟩) (fun r_1 M_z h => ?_)
  refine q_mem h.1 ?_
  have h := h.2
  refine q_if_eq (tgt := 27) C dX9_isPoint_11 (by decide) (fun z => ?_) (fun z => ?_)
  · have h := h.1 z
    refine q_iconst (v := 0) C dX9_isPoint_27 (by decide) ?_
    exact q_zret C hr hlk dX9_isPoint_28 (Nat.le_of_ble_eq_true rfl) (Nat.le_of_ble_eq_true rfl) (Or.inl rfl) ⟨rfl, h⟩
  · have h := h.2 z
    refine q_aload_n C dX9_isPoint_14 rfl (j := 0) rfl ?_
    refine q_getR (ci := 9) (k0 := 2) (T := TX9) C inX9_isPoint_X9 rfl (by decide) h.1 (by decide) rfl (by decide +kernel) rfl dX9_isPoint_15 ?_
    obtain ⟨a_2, z, h⟩ := h.2
    refine q_ref z ?_
    refine q_iload_n C dX9_isPoint_18 rfl (j := 1) rfl ?_
    obtain ⟨n_3, z1, z2, h⟩ := h
    refine q_zald C z1 z2 dX9_isPoint_19 ?_
    refine q_if_eq (tgt := 27) C dX9_isPoint_20 (by decide) (fun z => ?_) (fun z => ?_)
    · have h := h.1 z
      refine q_iconst (v := 0) C dX9_isPoint_27 (by decide) ?_
      exact q_zret C hr hlk dX9_isPoint_28 (Nat.le_of_ble_eq_true rfl) (Nat.le_of_ble_eq_true rfl) (Or.inl rfl) ⟨rfl, h⟩
    · have h := h.2 z
      refine q_iconst (v := 1) C dX9_isPoint_23 (by decide) ?_
      refine q_goto (tgt := 28) C dX9_isPoint_24 (by decide) ?_
      exact q_zret C hr hlk dX9_isPoint_28 (Nat.le_of_ble_eq_true rfl) (Nat.le_of_ble_eq_true rfl) (Or.inr rfl) ⟨rfl, h⟩
def T_X9_isFace (M : Mm) (a0 : Nat) (i1 : Int32) (Q : Int32 → Prop) : Prop := kM M a0 = (9, 13) ∧ T_X9_is M i1 0 ((iM M a0 5) - 1) (fun r_1 => (r_1 = 0 → Q 0) ∧ (¬ r_1 = 0 → kM M a0 = (9, 13) ∧ ∃ a_2 : Nat, rM M a0 4 = some a_2 ∧ ∃ n_3 : Nat, kM M a_2 = (121, n_3) ∧ vp_in i1 n_3 ∧ ((rM M a_2 i1.toNatClampNeg) = none → Q 0) ∧ (∀ a_4 : Nat, (rM M a_2 i1.toNatClampNeg) = some a_4 → Q 1)))
theorem inX9_isFace_X9 : ∀ w ∈ wsX90, w ∈ wsX9_isFace := by decide +kernel
set_option maxRecDepth 100000 in
set_option maxHeartbeats 4000000 in
theorem c_X9_isFace (l : Launch) (D : va_G) (cA : Nat → ClassId) (lo : Nat) {M : Mm} {a0 : Nat} {i1 : Int32} {Q : Int32 → Prop} (h : T_X9_isFace M a0 i1 Q) : Met l yX9_isFace wsX9_isFace ({ frames := 1, cells := 0, slots := 0, locals := 22 } : Room) (PcM D cA lo [.ref a0, .int i1] M) (QiM D cA lo (fun r M1 => M1 = M ∧ Q r)) 0 0 (fun q => lo ≤ q) := by
  refine q_start (cc := cX9_isFace) (nL := 2) (ret := (some .boolean)) (by decide) rfl rfl (Nat.le_of_ble_eq_true rfl) ?_
  intro p e s m args below meth c C hr hlk hin
  unfold T_X9_isFace at h
  refine q_iload_n C dX9_isFace_0 rfl (j := 1) rfl ?_
  refine q_iconst (v := 0) C dX9_isFace_1 (by decide) ?_
  refine q_aload_n C dX9_isFace_2 rfl (j := 0) rfl ?_
  refine q_getI (ci := 9) (k0 := 5) (T := TX9) C inX9_isFace_X9 rfl (by decide) h.1 (by decide) rfl (by decide +kernel) rfl dX9_isFace_3 ?_
  have h := h.2
  refine q_iconst (v := 1) C dX9_isFace_6 (by decide) ?_
  refine q_isub C dX9_isFace_7 ?_
  refine q_ci (q_runS (As := [.int i1, .int 0, .int ((iM M a0 5) - 1)]) (st := []) C (c_X9_is l D cA lo h) (va_cwS 3 C.2.2.2.2.1 gX9_isFace_X9_is rfl rfl rfl (by decide +kernel) ⟨Nat.le_of_ble_eq_true rfl, Nat.le_of_ble_eq_true rfl⟩) rfl rfl (Nat.le_of_ble_eq_true rfl) dX9_isFace_8 ⟨Nat.le_of_ble_eq_true rfl, Nat.le_of_ble_eq_true rfl⟩) (fun r_1 M_z h => ?_)
  refine q_mem h.1 ?_
  have h := h.2
  refine q_if_eq (tgt := 27) C dX9_isFace_11 (by decide) (fun z => ?_) (fun z => ?_)
  · have h := h.1 z
    refine q_iconst (v := 0) C dX9_isFace_27 (by decide) ?_
    exact q_zret C hr hlk dX9_isFace_28 (Nat.le_of_ble_eq_true rfl) (Nat.le_of_ble_eq_true rfl) (Or.inl rfl) ⟨rfl, h⟩
  · have h := h.2 z
    refine q_aload_n C dX9_isFace_14 rfl (j := 0) rfl ?_
    refine q_getR (ci := 9) (k0 := 4) (T := TX9) C inX9_isFace_X9 rfl (by decide) h.1 (by decide) rfl (by decide +kernel) rfl dX9_isFace_15 ?_
    obtain ⟨a_2, z, h⟩ := h.2
    refine q_ref z ?_
    refine q_iload_n C dX9_isFace_18 rfl (j := 1) rfl ?_
    obtain ⟨n_3, z1, z2, h⟩ := h
    refine q_gald C z1 z2 dX9_isFace_19 ?_
    refine q_ifnull (tgt := 27) C dX9_isFace_20 (by decide) (fun z => ?_) (fun a_4 z => ?_)
    · have h := h.1 z
      refine q_iconst (v := 0) C dX9_isFace_27 (by decide) ?_
      exact q_zret C hr hlk dX9_isFace_28 (Nat.le_of_ble_eq_true rfl) (Nat.le_of_ble_eq_true rfl) (Or.inl rfl) ⟨rfl, h⟩
    · have h := h.2 _ z
      refine q_iconst (v := 1) C dX9_isFace_23 (by decide) ?_
      refine q_goto (tgt := 28) C dX9_isFace_24 (by decide) ?_
      exact q_zret C hr hlk dX9_isFace_28 (Nat.le_of_ble_eq_true rfl) (Nat.le_of_ble_eq_true rfl) (Or.inr rfl) ⟨rfl, h⟩
def S_X9_facesNow_4 (K4 : Nat → Int32 → Int32 → Prop) (Q : Int32 → Prop) (M : Mm) (a0 : Nat) (i1 : Int32) (i2 : Int32) : Prop := kM M a0 = (9, 13) ∧ ((iM M a0 5) ≤ i2 → Q i1) ∧ (¬ (iM M a0 5) ≤ i2 → kM M a0 = (9, 13) ∧ ∃ a_1 : Nat, rM M a0 4 = some a_1 ∧ ∃ n_2 : Nat, kM M a_1 = (121, n_2) ∧ vp_in i2 n_2 ∧ (∀ a_3 : Nat, (rM M a_1 i2.toNatClampNeg) = some a_3 → K4 a0 (i1 + 1) (i2 + 1)) ∧ ((rM M a_1 i2.toNatClampNeg) = none → K4 a0 (i1 + 0) (i2 + 1)))
def T_X9_facesNow (M : Mm) (a0 : Nat) (Q : Int32 → Prop) : Prop := ∀ (K4 : Nat → Int32 → Int32 → Prop), (∀ (a0 : Nat) (i1 : Int32) (i2 : Int32), S_X9_facesNow_4 K4 Q M a0 i1 i2 → K4 a0 i1 i2) → K4 a0 0 0
theorem inX9_facesNow_X9 : ∀ w ∈ wsX90, w ∈ wsX9_facesNow := by decide +kernel
set_option maxRecDepth 100000 in
set_option maxHeartbeats 4000000 in
theorem b_X9_facesNow_4 {p : Program} {l : Launch} {e : Env} {s : State} {m : MethodId} {args : Array Value} {below : List Frame} {meth : Method} {c : Code} {D : va_G} {cA : Nat → ClassId} {lo : Nat} (C : Cx p s m args c cX9_facesNow 3 RX9 wsX9_facesNow D cA lo) (hr : meth.sig.returnType = (some .int)) (hlk : meth.locks = false) {Q : Int32 → Prop} {M : Mm} (a0 : Nat) (i1 : Int32) (i2 : Int32) (h : S_X9_facesNow_4 (fun (a0 : Nat) (i1 : Int32) (i2 : Int32) => QW p l e ({ frames := 0, cells := 0, slots := 0, locals := 0 } : Room) s m args below meth c (MQ below (QiM D cA lo (fun r M1 => M1 = M ∧ Q r)) args s 0 0 (fun q => lo ≤ q)) 3 D cA lo 0 0 M 4 [(0, .ref a0), (1, .int i1), (2, .int i2)] []) Q M a0 i1 i2) : QW p l e ({ frames := 0, cells := 0, slots := 0, locals := 0 } : Room) s m args below meth c (MQ below (QiM D cA lo (fun r M1 => M1 = M ∧ Q r)) args s 0 0 (fun q => lo ≤ q)) 3 D cA lo 0 0 M 4 [(0, .ref a0), (1, .int i1), (2, .int i2)] [] := by
  unfold S_X9_facesNow_4 at h
  refine q_iload_n C dX9_facesNow_4 rfl (j := 2) rfl ?_
  refine q_aload_n C dX9_facesNow_5 rfl (j := 0) rfl ?_
  refine q_getI (ci := 9) (k0 := 5) (T := TX9) C inX9_facesNow_X9 rfl (by decide) h.1 (by decide) rfl (by decide +kernel) rfl dX9_facesNow_6 ?_
  have h := h.2
  refine q_icmp_ge (tgt := 35) C dX9_facesNow_9 (by decide) (fun z => ?_) (fun z => ?_)
  · have h := h.1 z
    refine q_iload_n C dX9_facesNow_35 rfl (j := 1) rfl ?_
    exact q_iret C hr hlk dX9_facesNow_36 (Nat.le_of_ble_eq_true rfl) (Nat.le_of_ble_eq_true rfl) ⟨rfl, h⟩
  · have h := h.2 z
    refine q_iload_n C dX9_facesNow_12 rfl (j := 1) rfl ?_
    refine q_aload_n C dX9_facesNow_13 rfl (j := 0) rfl ?_
    refine q_getR (ci := 9) (k0 := 4) (T := TX9) C inX9_facesNow_X9 rfl (by decide) h.1 (by decide) rfl (by decide +kernel) rfl dX9_facesNow_14 ?_
    obtain ⟨a_1, z, h⟩ := h.2
    refine q_ref z ?_
    refine q_iload_n C dX9_facesNow_17 rfl (j := 2) rfl ?_
    obtain ⟨n_2, z1, z2, h⟩ := h
    refine q_gald C z1 z2 dX9_facesNow_18 ?_
    refine q_ifnonnull (tgt := 26) C dX9_facesNow_19 (by decide) (fun a_3 z => ?_) (fun z => ?_)
    · have h := h.1 _ z
      refine q_iconst (v := 1) C dX9_facesNow_26 (by decide) ?_
      refine q_iadd C dX9_facesNow_27 ?_
      refine q_istore_n (lv' := [(1, .int (i1 + 1)), (0, .ref a0), (2, .int i2)]) C dX9_facesNow_28 rfl (by decide) rfl ?_
      refine q_iinc (v := (i2 + 1)) (lv' := [(2, .int (i2 + 1)), (1, .int (i1 + 1)), (0, .ref a0)]) C dX9_facesNow_29 (j := 2) rfl rfl (by decide) rfl ?_
      refine q_goto (tgt := 4) C dX9_facesNow_32 (by decide) ?_
      exact q_sub [2, 1, 0] rfl h
    · have h := h.2 z
      refine q_iconst (v := 0) C dX9_facesNow_22 (by decide) ?_
      refine q_goto (tgt := 27) C dX9_facesNow_23 (by decide) ?_
      refine q_iadd C dX9_facesNow_27 ?_
      refine q_istore_n (lv' := [(1, .int (i1 + 0)), (0, .ref a0), (2, .int i2)]) C dX9_facesNow_28 rfl (by decide) rfl ?_
      refine q_iinc (v := (i2 + 1)) (lv' := [(2, .int (i2 + 1)), (1, .int (i1 + 0)), (0, .ref a0)]) C dX9_facesNow_29 (j := 2) rfl rfl (by decide) rfl ?_
      refine q_goto (tgt := 4) C dX9_facesNow_32 (by decide) ?_
      exact q_sub [2, 1, 0] rfl h
set_option maxRecDepth 100000 in
set_option maxHeartbeats 4000000 in
theorem c_X9_facesNow (l : Launch) (D : va_G) (cA : Nat → ClassId) (lo : Nat) {M : Mm} {a0 : Nat} {Q : Int32 → Prop} (h : T_X9_facesNow M a0 Q) : Met l yX9_facesNow wsX9_facesNow ({ frames := 0, cells := 0, slots := 0, locals := 0 } : Room) (PcM D cA lo [.ref a0] M) (QiM D cA lo (fun r M1 => M1 = M ∧ Q r)) 0 0 (fun q => lo ≤ q) := by
  refine q_start (cc := cX9_facesNow) (nL := 3) (ret := (some .int)) (by decide) rfl rfl (Nat.le_of_ble_eq_true rfl) ?_
  intro p e s m args below meth c C hr hlk hin
  unfold T_X9_facesNow at h
  have h := h (fun (a0 : Nat) (i1 : Int32) (i2 : Int32) => QW p l e ({ frames := 0, cells := 0, slots := 0, locals := 0 } : Room) s m args below meth c (MQ below (QiM D cA lo (fun r M1 => M1 = M ∧ Q r)) args s 0 0 (fun q => lo ≤ q)) 3 D cA lo 0 0 M 4 [(0, .ref a0), (1, .int i1), (2, .int i2)] []) (fun a0 i1 i2 h => b_X9_facesNow_4 C hr hlk a0 i1 i2 h)
  refine q_iconst (v := 0) C dX9_facesNow_0 (by decide) ?_
  refine q_istore_n (lv' := [(1, .int 0), (0, .ref a0)]) C dX9_facesNow_1 rfl (by decide) rfl ?_
  refine q_iconst (v := 0) C dX9_facesNow_2 (by decide) ?_
  refine q_istore_n (lv' := [(2, .int 0), (1, .int 0), (0, .ref a0)]) C dX9_facesNow_3 rfl (by decide) rfl ?_
  exact q_sub [2, 1, 0] rfl h
def S_X9_pointsNow_4 (K4 : Nat → Int32 → Int32 → Prop) (Q : Int32 → Prop) (M : Mm) (a0 : Nat) (i1 : Int32) (i2 : Int32) : Prop := kM M a0 = (9, 13) ∧ ((iM M a0 3) ≤ i2 → Q i1) ∧ (¬ (iM M a0 3) ≤ i2 → kM M a0 = (9, 13) ∧ ∃ a_1 : Nat, rM M a0 2 = some a_1 ∧ ∃ n_2 : Nat, kM M a_1 = (101, n_2) ∧ vp_in i2 n_2 ∧ ((iM M a_1 i2.toNatClampNeg) = 0 → K4 a0 (i1 + 0) (i2 + 1)) ∧ (¬ (iM M a_1 i2.toNatClampNeg) = 0 → K4 a0 (i1 + 1) (i2 + 1)))
def T_X9_pointsNow (M : Mm) (a0 : Nat) (Q : Int32 → Prop) : Prop := ∀ (K4 : Nat → Int32 → Int32 → Prop), (∀ (a0 : Nat) (i1 : Int32) (i2 : Int32), S_X9_pointsNow_4 K4 Q M a0 i1 i2 → K4 a0 i1 i2) → K4 a0 0 0
theorem inX9_pointsNow_X9 : ∀ w ∈ wsX90, w ∈ wsX9_pointsNow := by decide +kernel
set_option maxRecDepth 100000 in
set_option maxHeartbeats 4000000 in
theorem b_X9_pointsNow_4 {p : Program} {l : Launch} {e : Env} {s : State} {m : MethodId} {args : Array Value} {below : List Frame} {meth : Method} {c : Code} {D : va_G} {cA : Nat → ClassId} {lo : Nat} (C : Cx p s m args c cX9_pointsNow 3 RX9 wsX9_pointsNow D cA lo) (hr : meth.sig.returnType = (some .int)) (hlk : meth.locks = false) {Q : Int32 → Prop} {M : Mm} (a0 : Nat) (i1 : Int32) (i2 : Int32) (h : S_X9_pointsNow_4 (fun (a0 : Nat) (i1 : Int32) (i2 : Int32) => QW p l e ({ frames := 0, cells := 0, slots := 0, locals := 0 } : Room) s m args below meth c (MQ below (QiM D cA lo (fun r M1 => M1 = M ∧ Q r)) args s 0 0 (fun q => lo ≤ q)) 3 D cA lo 0 0 M 4 [(0, .ref a0), (1, .int i1), (2, .int i2)] []) Q M a0 i1 i2) : QW p l e ({ frames := 0, cells := 0, slots := 0, locals := 0 } : Room) s m args below meth c (MQ below (QiM D cA lo (fun r M1 => M1 = M ∧ Q r)) args s 0 0 (fun q => lo ≤ q)) 3 D cA lo 0 0 M 4 [(0, .ref a0), (1, .int i1), (2, .int i2)] [] := by
  unfold S_X9_pointsNow_4 at h
  refine q_iload_n C dX9_pointsNow_4 rfl (j := 2) rfl ?_
  refine q_aload_n C dX9_pointsNow_5 rfl (j := 0) rfl ?_
  refine q_getI (ci := 9) (k0 := 3) (T := TX9) C inX9_pointsNow_X9 rfl (by decide) h.1 (by decide) rfl (by decide +kernel) rfl dX9_pointsNow_6 ?_
  have h := h.2
  refine q_icmp_ge (tgt := 35) C dX9_pointsNow_9 (by decide) (fun z => ?_) (fun z => ?_)
  · have h := h.1 z
    refine q_iload_n C dX9_pointsNow_35 rfl (j := 1) rfl ?_
    exact q_iret C hr hlk dX9_pointsNow_36 (Nat.le_of_ble_eq_true rfl) (Nat.le_of_ble_eq_true rfl) ⟨rfl, h⟩
  · have h := h.2 z
    refine q_iload_n C dX9_pointsNow_12 rfl (j := 1) rfl ?_
    refine q_aload_n C dX9_pointsNow_13 rfl (j := 0) rfl ?_
    refine q_getR (ci := 9) (k0 := 2) (T := TX9) C inX9_pointsNow_X9 rfl (by decide) h.1 (by decide) rfl (by decide +kernel) rfl dX9_pointsNow_14 ?_
    obtain ⟨a_1, z, h⟩ := h.2
    refine q_ref z ?_
    refine q_iload_n C dX9_pointsNow_17 rfl (j := 2) rfl ?_
    obtain ⟨n_2, z1, z2, h⟩ := h
    refine q_zald C z1 z2 dX9_pointsNow_18 ?_
    refine q_if_eq (tgt := 26) C dX9_pointsNow_19 (by decide) (fun z => ?_) (fun z => ?_)
    · have h := h.1 z
      refine q_iconst (v := 0) C dX9_pointsNow_26 (by decide) ?_
      refine q_iadd C dX9_pointsNow_27 ?_
      refine q_istore_n (lv' := [(1, .int (i1 + 0)), (0, .ref a0), (2, .int i2)]) C dX9_pointsNow_28 rfl (by decide) rfl ?_
      refine q_iinc (v := (i2 + 1)) (lv' := [(2, .int (i2 + 1)), (1, .int (i1 + 0)), (0, .ref a0)]) C dX9_pointsNow_29 (j := 2) rfl rfl (by decide) rfl ?_
      refine q_goto (tgt := 4) C dX9_pointsNow_32 (by decide) ?_
      exact q_sub [2, 1, 0] rfl h
    · have h := h.2 z
      refine q_iconst (v := 1) C dX9_pointsNow_22 (by decide) ?_
      refine q_goto (tgt := 27) C dX9_pointsNow_23 (by decide) ?_
      refine q_iadd C dX9_pointsNow_27 ?_
      refine q_istore_n (lv' := [(1, .int (i1 + 1)), (0, .ref a0), (2, .int i2)]) C dX9_pointsNow_28 rfl (by decide) rfl ?_
      refine q_iinc (v := (i2 + 1)) (lv' := [(2, .int (i2 + 1)), (1, .int (i1 + 1)), (0, .ref a0)]) C dX9_pointsNow_29 (j := 2) rfl rfl (by decide) rfl ?_
      refine q_goto (tgt := 4) C dX9_pointsNow_32 (by decide) ?_
      exact q_sub [2, 1, 0] rfl h
set_option maxRecDepth 100000 in
set_option maxHeartbeats 4000000 in
theorem c_X9_pointsNow (l : Launch) (D : va_G) (cA : Nat → ClassId) (lo : Nat) {M : Mm} {a0 : Nat} {Q : Int32 → Prop} (h : T_X9_pointsNow M a0 Q) : Met l yX9_pointsNow wsX9_pointsNow ({ frames := 0, cells := 0, slots := 0, locals := 0 } : Room) (PcM D cA lo [.ref a0] M) (QiM D cA lo (fun r M1 => M1 = M ∧ Q r)) 0 0 (fun q => lo ≤ q) := by
  refine q_start (cc := cX9_pointsNow) (nL := 3) (ret := (some .int)) (by decide) rfl rfl (Nat.le_of_ble_eq_true rfl) ?_
  intro p e s m args below meth c C hr hlk hin
  unfold T_X9_pointsNow at h
  have h := h (fun (a0 : Nat) (i1 : Int32) (i2 : Int32) => QW p l e ({ frames := 0, cells := 0, slots := 0, locals := 0 } : Room) s m args below meth c (MQ below (QiM D cA lo (fun r M1 => M1 = M ∧ Q r)) args s 0 0 (fun q => lo ≤ q)) 3 D cA lo 0 0 M 4 [(0, .ref a0), (1, .int i1), (2, .int i2)] []) (fun a0 i1 i2 h => b_X9_pointsNow_4 C hr hlk a0 i1 i2 h)
  refine q_iconst (v := 0) C dX9_pointsNow_0 (by decide) ?_
  refine q_istore_n (lv' := [(1, .int 0), (0, .ref a0)]) C dX9_pointsNow_1 rfl (by decide) rfl ?_
  refine q_iconst (v := 0) C dX9_pointsNow_2 (by decide) ?_
  refine q_istore_n (lv' := [(2, .int 0), (1, .int 0), (0, .ref a0)]) C dX9_pointsNow_3 rfl (by decide) rfl ?_
  exact q_sub [2, 1, 0] rfl h
def T_X9_newPoint (Cc Zz : Nat) (M : Mm) (a0 : Nat) (i1 : Int32) (i2 : Int32) (i3 : Int32) (Q : Int32 → Mm → Prop) : Prop := 0 + 1 ≤ Cc ∧ 0 + 3 ≤ Zz ∧ ∀ q_1 : Nat, frs M q_1 → ∃ n_2 : Nat, kM (wN M q_1 100 3) q_1 = (100, n_2) ∧ vp_in 0 n_2 ∧ ∃ n_3 : Nat, kM (wI (wN M q_1 100 3) q_1 (0 : Int32).toNatClampNeg i1) q_1 = (100, n_3) ∧ vp_in 1 n_3 ∧ ∃ n_4 : Nat, kM (wI (wI (wN M q_1 100 3) q_1 (0 : Int32).toNatClampNeg i1) q_1 (1 : Int32).toNatClampNeg i2) q_1 = (100, n_4) ∧ vp_in 2 n_4 ∧ kM (wI (wI (wI (wN M q_1 100 3) q_1 (0 : Int32).toNatClampNeg i1) q_1 (1 : Int32).toNatClampNeg i2) q_1 (2 : Int32).toNatClampNeg i3) a0 = (9, 13) ∧ ∃ a_5 : Nat, rM (wI (wI (wI (wN M q_1 100 3) q_1 (0 : Int32).toNatClampNeg i1) q_1 (1 : Int32).toNatClampNeg i2) q_1 (2 : Int32).toNatClampNeg i3) a0 1 = some a_5 ∧ kM (wI (wI (wI (wN M q_1 100 3) q_1 (0 : Int32).toNatClampNeg i1) q_1 (1 : Int32).toNatClampNeg i2) q_1 (2 : Int32).toNatClampNeg i3) a0 = (9, 13) ∧ ∃ n_6 : Nat, kM (wI (wI (wI (wN M q_1 100 3) q_1 (0 : Int32).toNatClampNeg i1) q_1 (1 : Int32).toNatClampNeg i2) q_1 (2 : Int32).toNatClampNeg i3) a_5 = (121, n_6) ∧ vp_in (iM (wI (wI (wI (wN M q_1 100 3) q_1 (0 : Int32).toNatClampNeg i1) q_1 (1 : Int32).toNatClampNeg i2) q_1 (2 : Int32).toNatClampNeg i3) a0 3) n_6 ∧ ∃ a_7 : Nat, rM (wI (wI (wI (wN M q_1 100 3) q_1 (0 : Int32).toNatClampNeg i1) q_1 (1 : Int32).toNatClampNeg i2) q_1 (2 : Int32).toNatClampNeg i3) a_5 (iM (wI (wI (wI (wN M q_1 100 3) q_1 (0 : Int32).toNatClampNeg i1) q_1 (1 : Int32).toNatClampNeg i2) q_1 (2 : Int32).toNatClampNeg i3) a0 3).toNatClampNeg = some a_7 ∧ ∃ n_8 n_9 : Nat, kM (wI (wI (wI (wN M q_1 100 3) q_1 (0 : Int32).toNatClampNeg i1) q_1 (1 : Int32).toNatClampNeg i2) q_1 (2 : Int32).toNatClampNeg i3) q_1 = (100, n_8) ∧ kM (wI (wI (wI (wN M q_1 100 3) q_1 (0 : Int32).toNatClampNeg i1) q_1 (1 : Int32).toNatClampNeg i2) q_1 (2 : Int32).toNatClampNeg i3) a_7 = (100, n_9) ∧ (¬ (0 : Int32) < 0) ∧ (¬ (0 : Int32) < 0) ∧ (¬ (3 : Int32) < 0) ∧ ((0 : Int32)).toNatClampNeg + ((3 : Int32)).toNatClampNeg ≤ n_8 ∧ ((0 : Int32)).toNatClampNeg + ((3 : Int32)).toNatClampNeg ≤ n_9 ∧ kM (wC (wI (wI (wI (wN M q_1 100 3) q_1 (0 : Int32).toNatClampNeg i1) q_1 (1 : Int32).toNatClampNeg i2) q_1 (2 : Int32).toNatClampNeg i3) q_1 a_7 ((0 : Int32)).toNatClampNeg ((0 : Int32)).toNatClampNeg ((3 : Int32)).toNatClampNeg) a0 = (9, 13) ∧ ∃ a_10 : Nat, rM (wC (wI (wI (wI (wN M q_1 100 3) q_1 (0 : Int32).toNatClampNeg i1) q_1 (1 : Int32).toNatClampNeg i2) q_1 (2 : Int32).toNatClampNeg i3) q_1 a_7 ((0 : Int32)).toNatClampNeg ((0 : Int32)).toNatClampNeg ((3 : Int32)).toNatClampNeg) a0 2 = some a_10 ∧ kM (wC (wI (wI (wI (wN M q_1 100 3) q_1 (0 : Int32).toNatClampNeg i1) q_1 (1 : Int32).toNatClampNeg i2) q_1 (2 : Int32).toNatClampNeg i3) q_1 a_7 ((0 : Int32)).toNatClampNeg ((0 : Int32)).toNatClampNeg ((3 : Int32)).toNatClampNeg) a0 = (9, 13) ∧ ∃ n_11 : Nat, kM (wC (wI (wI (wI (wN M q_1 100 3) q_1 (0 : Int32).toNatClampNeg i1) q_1 (1 : Int32).toNatClampNeg i2) q_1 (2 : Int32).toNatClampNeg i3) q_1 a_7 ((0 : Int32)).toNatClampNeg ((0 : Int32)).toNatClampNeg ((3 : Int32)).toNatClampNeg) a_10 = (101, n_11) ∧ vp_in (iM (wC (wI (wI (wI (wN M q_1 100 3) q_1 (0 : Int32).toNatClampNeg i1) q_1 (1 : Int32).toNatClampNeg i2) q_1 (2 : Int32).toNatClampNeg i3) q_1 a_7 ((0 : Int32)).toNatClampNeg ((0 : Int32)).toNatClampNeg ((3 : Int32)).toNatClampNeg) a0 3) n_11 ∧ kM (wI (wC (wI (wI (wI (wN M q_1 100 3) q_1 (0 : Int32).toNatClampNeg i1) q_1 (1 : Int32).toNatClampNeg i2) q_1 (2 : Int32).toNatClampNeg i3) q_1 a_7 ((0 : Int32)).toNatClampNeg ((0 : Int32)).toNatClampNeg ((3 : Int32)).toNatClampNeg) a_10 (iM (wC (wI (wI (wI (wN M q_1 100 3) q_1 (0 : Int32).toNatClampNeg i1) q_1 (1 : Int32).toNatClampNeg i2) q_1 (2 : Int32).toNatClampNeg i3) q_1 a_7 ((0 : Int32)).toNatClampNeg ((0 : Int32)).toNatClampNeg ((3 : Int32)).toNatClampNeg) a0 3).toNatClampNeg (vp_nar .boolean 1)) a0 = (9, 13) ∧ kM (wI (wC (wI (wI (wI (wN M q_1 100 3) q_1 (0 : Int32).toNatClampNeg i1) q_1 (1 : Int32).toNatClampNeg i2) q_1 (2 : Int32).toNatClampNeg i3) q_1 a_7 ((0 : Int32)).toNatClampNeg ((0 : Int32)).toNatClampNeg ((3 : Int32)).toNatClampNeg) a_10 (iM (wC (wI (wI (wI (wN M q_1 100 3) q_1 (0 : Int32).toNatClampNeg i1) q_1 (1 : Int32).toNatClampNeg i2) q_1 (2 : Int32).toNatClampNeg i3) q_1 a_7 ((0 : Int32)).toNatClampNeg ((0 : Int32)).toNatClampNeg ((3 : Int32)).toNatClampNeg) a0 3).toNatClampNeg (vp_nar .boolean 1)) a0 = (9, 13) ∧ kM (wI (wI (wC (wI (wI (wI (wN M q_1 100 3) q_1 (0 : Int32).toNatClampNeg i1) q_1 (1 : Int32).toNatClampNeg i2) q_1 (2 : Int32).toNatClampNeg i3) q_1 a_7 ((0 : Int32)).toNatClampNeg ((0 : Int32)).toNatClampNeg ((3 : Int32)).toNatClampNeg) a_10 (iM (wC (wI (wI (wI (wN M q_1 100 3) q_1 (0 : Int32).toNatClampNeg i1) q_1 (1 : Int32).toNatClampNeg i2) q_1 (2 : Int32).toNatClampNeg i3) q_1 a_7 ((0 : Int32)).toNatClampNeg ((0 : Int32)).toNatClampNeg ((3 : Int32)).toNatClampNeg) a0 3).toNatClampNeg (vp_nar .boolean 1)) a0 3 ((iM (wI (wC (wI (wI (wI (wN M q_1 100 3) q_1 (0 : Int32).toNatClampNeg i1) q_1 (1 : Int32).toNatClampNeg i2) q_1 (2 : Int32).toNatClampNeg i3) q_1 a_7 ((0 : Int32)).toNatClampNeg ((0 : Int32)).toNatClampNeg ((3 : Int32)).toNatClampNeg) a_10 (iM (wC (wI (wI (wI (wN M q_1 100 3) q_1 (0 : Int32).toNatClampNeg i1) q_1 (1 : Int32).toNatClampNeg i2) q_1 (2 : Int32).toNatClampNeg i3) q_1 a_7 ((0 : Int32)).toNatClampNeg ((0 : Int32)).toNatClampNeg ((3 : Int32)).toNatClampNeg) a0 3).toNatClampNeg (vp_nar .boolean 1)) a0 3) + 1)) a0 = (9, 13) ∧ (0 + 1) ≤ Cc ∧ (0 + 3) ≤ Zz ∧ Q ((iM (wI (wI (wC (wI (wI (wI (wN M q_1 100 3) q_1 (0 : Int32).toNatClampNeg i1) q_1 (1 : Int32).toNatClampNeg i2) q_1 (2 : Int32).toNatClampNeg i3) q_1 a_7 ((0 : Int32)).toNatClampNeg ((0 : Int32)).toNatClampNeg ((3 : Int32)).toNatClampNeg) a_10 (iM (wC (wI (wI (wI (wN M q_1 100 3) q_1 (0 : Int32).toNatClampNeg i1) q_1 (1 : Int32).toNatClampNeg i2) q_1 (2 : Int32).toNatClampNeg i3) q_1 a_7 ((0 : Int32)).toNatClampNeg ((0 : Int32)).toNatClampNeg ((3 : Int32)).toNatClampNeg) a0 3).toNatClampNeg (vp_nar .boolean 1)) a0 3 ((iM (wI (wC (wI (wI (wI (wN M q_1 100 3) q_1 (0 : Int32).toNatClampNeg i1) q_1 (1 : Int32).toNatClampNeg i2) q_1 (2 : Int32).toNatClampNeg i3) q_1 a_7 ((0 : Int32)).toNatClampNeg ((0 : Int32)).toNatClampNeg ((3 : Int32)).toNatClampNeg) a_10 (iM (wC (wI (wI (wI (wN M q_1 100 3) q_1 (0 : Int32).toNatClampNeg i1) q_1 (1 : Int32).toNatClampNeg i2) q_1 (2 : Int32).toNatClampNeg i3) q_1 a_7 ((0 : Int32)).toNatClampNeg ((0 : Int32)).toNatClampNeg ((3 : Int32)).toNatClampNeg) a0 3).toNatClampNeg (vp_nar .boolean 1)) a0 3) + 1)) a0 3) - 1) (wI (wI (wC (wI (wI (wI (wN M q_1 100 3) q_1 (0 : Int32).toNatClampNeg i1) q_1 (1 : Int32).toNatClampNeg i2) q_1 (2 : Int32).toNatClampNeg i3) q_1 a_7 ((0 : Int32)).toNatClampNeg ((0 : Int32)).toNatClampNeg ((3 : Int32)).toNatClampNeg) a_10 (iM (wC (wI (wI (wI (wN M q_1 100 3) q_1 (0 : Int32).toNatClampNeg i1) q_1 (1 : Int32).toNatClampNeg i2) q_1 (2 : Int32).toNatClampNeg i3) q_1 a_7 ((0 : Int32)).toNatClampNeg ((0 : Int32)).toNatClampNeg ((3 : Int32)).toNatClampNeg) a0 3).toNatClampNeg (vp_nar .boolean 1)) a0 3 ((iM (wI (wC (wI (wI (wI (wN M q_1 100 3) q_1 (0 : Int32).toNatClampNeg i1) q_1 (1 : Int32).toNatClampNeg i2) q_1 (2 : Int32).toNatClampNeg i3) q_1 a_7 ((0 : Int32)).toNatClampNeg ((0 : Int32)).toNatClampNeg ((3 : Int32)).toNatClampNeg) a_10 (iM (wC (wI (wI (wI (wN M q_1 100 3) q_1 (0 : Int32).toNatClampNeg i1) q_1 (1 : Int32).toNatClampNeg i2) q_1 (2 : Int32).toNatClampNeg i3) q_1 a_7 ((0 : Int32)).toNatClampNeg ((0 : Int32)).toNatClampNeg ((3 : Int32)).toNatClampNeg) a0 3).toNatClampNeg (vp_nar .boolean 1)) a0 3) + 1))
theorem inX9_newPoint_X9 : ∀ w ∈ wsX90, w ∈ wsX9_newPoint := by decide +kernel
set_option maxRecDepth 100000 in
set_option maxHeartbeats 4000000 in
theorem c_X9_newPoint (l : Launch) (D : va_G) (cA : Nat → ClassId) (lo : Nat) {M : Mm} {a0 : Nat} {i1 : Int32} {i2 : Int32} {i3 : Int32} {Cc Zz : Nat} {Q : Int32 → Mm → Prop} (h : T_X9_newPoint Cc Zz M a0 i1 i2 i3 Q) : Met l yX9_newPoint wsX9_newPoint ({ frames := 1, cells := Cc, slots := Zz, locals := 60 } : Room) (PcM D cA lo [.ref a0, .int i1, .int i2, .int i3] M) (QiM D cA lo Q) Cc Zz (fun q => lo ≤ q) := by
  refine q_start (cc := cX9_newPoint) (nL := 5) (ret := (some .int)) (by decide) rfl rfl (Nat.le_of_ble_eq_true rfl) ?_
  intro p e s m args below meth c C hr hlk hin
  unfold T_X9_newPoint at h
  refine q_iconst (v := 3) C dX9_newPoint_0 (by decide) ?_
  refine q_newI (N := 3) C (by decide +kernel) (by decide) (by decide) (by decide) ⟨h.1, h.2.1⟩ dX9_newPoint_1 (fun q_1 hq _ => ?_)
  have h := h.2.2 q_1 hq
  refine q_dup C dX9_newPoint_3 rfl ?_
  refine q_iconst (v := 0) C dX9_newPoint_4 (by decide) ?_
  refine q_iload_n C dX9_newPoint_5 rfl (j := 1) rfl ?_
  obtain ⟨n_2, z1, z2, h⟩ := h
  refine q_iast C z1 z2 dX9_newPoint_6 ?_
  refine q_dup C dX9_newPoint_7 rfl ?_
  refine q_iconst (v := 1) C dX9_newPoint_8 (by decide) ?_
  refine q_iload_n C dX9_newPoint_9 rfl (j := 2) rfl ?_
  obtain ⟨n_3, z1, z2, h⟩ := h
  refine q_iast C z1 z2 dX9_newPoint_10 ?_
  refine q_dup C dX9_newPoint_11 rfl ?_
  refine q_iconst (v := 2) C dX9_newPoint_12 (by decide) ?_
  refine q_iload_n C dX9_newPoint_13 rfl (j := 3) rfl ?_
  obtain ⟨n_4, z1, z2, h⟩ := h
  refine q_iast C z1 z2 dX9_newPoint_14 ?_
  refine q_astore (lv' := [(4, .ref q_1), (0, .ref a0), (1, .int i1), (2, .int i2), (3, .int i3)]) C dX9_newPoint_15 (by decide) rfl ?_
  refine q_aload C dX9_newPoint_17 (j := 0) rfl ?_
  refine q_iconst (v := 0) C dX9_newPoint_19 (by decide) ?_
  refine q_aload_n C dX9_newPoint_20 rfl (j := 1) rfl ?_
  refine q_getR (ci := 9) (k0 := 1) (T := TX9) C inX9_newPoint_X9 rfl (by decide) h.1 (by decide) rfl (by decide +kernel) rfl dX9_newPoint_21 ?_
  obtain ⟨a_5, z, h⟩ := h.2
  refine q_ref z ?_
  refine q_aload_n C dX9_newPoint_24 rfl (j := 1) rfl ?_
  refine q_getI (ci := 9) (k0 := 3) (T := TX9) C inX9_newPoint_X9 rfl (by decide) h.1 (by decide) rfl (by decide +kernel) rfl dX9_newPoint_25 ?_
  have h := h.2
  obtain ⟨n_6, z1, z2, h⟩ := h
  refine q_gald C z1 z2 dX9_newPoint_28 ?_
  obtain ⟨a_7, z, h⟩ := h
  refine q_ref z ?_
  refine q_iconst (v := 0) C dX9_newPoint_29 (by decide) ?_
  refine q_iconst (v := 3) C dX9_newPoint_30 (by decide) ?_
  obtain ⟨n_8, n_9, z1, z2, z3, z4, z5, z6, z7, h⟩ := h
  refine q_acopy C (by decide +kernel) (by decide +kernel) (by decide +kernel) (by decide +kernel) z1 z2 z3 z4 z5 z6 z7 ⟨Nat.le_of_ble_eq_true rfl, Nat.le_of_ble_eq_true rfl⟩ dX9_newPoint_31 ?_
  refine q_aload_n C dX9_newPoint_34 rfl (j := 1) rfl ?_
  refine q_getR (ci := 9) (k0 := 2) (T := TX9) C inX9_newPoint_X9 rfl (by decide) h.1 (by decide) rfl (by decide +kernel) rfl dX9_newPoint_35 ?_
  obtain ⟨a_10, z, h⟩ := h.2
  refine q_ref z ?_
  refine q_aload_n C dX9_newPoint_38 rfl (j := 1) rfl ?_
  refine q_getI (ci := 9) (k0 := 3) (T := TX9) C inX9_newPoint_X9 rfl (by decide) h.1 (by decide) rfl (by decide +kernel) rfl dX9_newPoint_39 ?_
  have h := h.2
  refine q_iconst (v := 1) C dX9_newPoint_42 (by decide) ?_
  obtain ⟨n_11, z1, z2, h⟩ := h
  refine q_zast C z1 z2 dX9_newPoint_43 ?_
  refine q_aload_n C dX9_newPoint_44 rfl (j := 1) rfl ?_
  refine q_dup C dX9_newPoint_45 rfl ?_
  refine q_getI (ci := 9) (k0 := 3) (T := TX9) C inX9_newPoint_X9 rfl (by decide) h.1 (by decide) rfl (by decide +kernel) rfl dX9_newPoint_46 ?_
  have h := h.2
  refine q_iconst (v := 1) C dX9_newPoint_49 (by decide) ?_
  refine q_iadd C dX9_newPoint_50 ?_
  refine q_putI (ci := 9) (k0 := 3) (T := TX9) (v := ((iM (wI (wC (wI (wI (wI (wN M q_1 100 3) q_1 (0 : Int32).toNatClampNeg i1) q_1 (1 : Int32).toNatClampNeg i2) q_1 (2 : Int32).toNatClampNeg i3) q_1 a_7 ((0 : Int32)).toNatClampNeg ((0 : Int32)).toNatClampNeg ((3 : Int32)).toNatClampNeg) a_10 (iM (wC (wI (wI (wI (wN M q_1 100 3) q_1 (0 : Int32).toNatClampNeg i1) q_1 (1 : Int32).toNatClampNeg i2) q_1 (2 : Int32).toNatClampNeg i3) q_1 a_7 ((0 : Int32)).toNatClampNeg ((0 : Int32)).toNatClampNeg ((3 : Int32)).toNatClampNeg) a0 3).toNatClampNeg (vp_nar .boolean 1)) a0 3) + 1)) (ty := .int) C inX9_newPoint_X9 tyX9 tyX9_ok nmX9 rfl (by decide) h.1 (by decide) rfl (by decide +kernel) rfl (by decide +kernel) rfl rfl rfl dX9_newPoint_51 ?_
  have h := h.2
  refine q_aload_n C dX9_newPoint_54 rfl (j := 1) rfl ?_
  refine q_getI (ci := 9) (k0 := 3) (T := TX9) C inX9_newPoint_X9 rfl (by decide) h.1 (by decide) rfl (by decide +kernel) rfl dX9_newPoint_55 ?_
  have h := h.2
  refine q_iconst (v := 1) C dX9_newPoint_58 (by decide) ?_
  refine q_isub C dX9_newPoint_59 ?_
  exact q_iret C hr hlk dX9_newPoint_60 h.1 h.2.1 h.2.2
def T_X9_newFace (M : Mm) (a0 : Nat) (a1 : Nat) (Q : Int32 → Mm → Prop) : Prop := kM M a0 = (9, 13) ∧ ∃ a_1 : Nat, rM M a0 4 = some a_1 ∧ kM M a0 = (9, 13) ∧ ∃ n_2 n_3 : Nat, kM M a_1 = (121, n_2) ∧ vp_in (iM M a0 5) n_2 ∧ kM M a1 = (100, n_3) ∧ kM (wR M a_1 (iM M a0 5).toNatClampNeg (some a1)) a0 = (9, 13) ∧ kM (wR M a_1 (iM M a0 5).toNatClampNeg (some a1)) a0 = (9, 13) ∧ kM (wI (wR M a_1 (iM M a0 5).toNatClampNeg (some a1)) a0 5 ((iM (wR M a_1 (iM M a0 5).toNatClampNeg (some a1)) a0 5) + 1)) a0 = (9, 13) ∧ Q ((iM (wI (wR M a_1 (iM M a0 5).toNatClampNeg (some a1)) a0 5 ((iM (wR M a_1 (iM M a0 5).toNatClampNeg (some a1)) a0 5) + 1)) a0 5) - 1) (wI (wR M a_1 (iM M a0 5).toNatClampNeg (some a1)) a0 5 ((iM (wR M a_1 (iM M a0 5).toNatClampNeg (some a1)) a0 5) + 1))
theorem inX9_newFace_X9 : ∀ w ∈ wsX90, w ∈ wsX9_newFace := by decide +kernel
set_option maxRecDepth 100000 in
set_option maxHeartbeats 4000000 in
theorem c_X9_newFace (l : Launch) (D : va_G) (cA : Nat → ClassId) (lo : Nat) {M : Mm} {a0 : Nat} {a1 : Nat} {Q : Int32 → Mm → Prop} (h : T_X9_newFace M a0 a1 Q) : Met l yX9_newFace wsX9_newFace ({ frames := 0, cells := 0, slots := 0, locals := 0 } : Room) (PcM D cA lo [.ref a0, .ref a1] M) (QiM D cA lo Q) 0 0 (fun q => lo ≤ q) := by
  refine q_start (cc := cX9_newFace) (nL := 2) (ret := (some .int)) (by decide) rfl rfl (Nat.le_of_ble_eq_true rfl) ?_
  intro p e s m args below meth c C hr hlk hin
  unfold T_X9_newFace at h
  refine q_aload_n C dX9_newFace_0 rfl (j := 0) rfl ?_
  refine q_getR (ci := 9) (k0 := 4) (T := TX9) C inX9_newFace_X9 rfl (by decide) h.1 (by decide) rfl (by decide +kernel) rfl dX9_newFace_1 ?_
  obtain ⟨a_1, z, h⟩ := h.2
  refine q_ref z ?_
  refine q_aload_n C dX9_newFace_4 rfl (j := 0) rfl ?_
  refine q_getI (ci := 9) (k0 := 5) (T := TX9) C inX9_newFace_X9 rfl (by decide) h.1 (by decide) rfl (by decide +kernel) rfl dX9_newFace_5 ?_
  have h := h.2
  refine q_aload_n C dX9_newFace_8 rfl (j := 1) rfl ?_
  obtain ⟨n_2, n_3, z1, z2, z3, h⟩ := h
  refine q_rastG C z1 z2 z3 dX9_newFace_9 ?_
  refine q_aload_n C dX9_newFace_10 rfl (j := 0) rfl ?_
  refine q_dup C dX9_newFace_11 rfl ?_
  refine q_getI (ci := 9) (k0 := 5) (T := TX9) C inX9_newFace_X9 rfl (by decide) h.1 (by decide) rfl (by decide +kernel) rfl dX9_newFace_12 ?_
  have h := h.2
  refine q_iconst (v := 1) C dX9_newFace_15 (by decide) ?_
  refine q_iadd C dX9_newFace_16 ?_
  refine q_putI (ci := 9) (k0 := 5) (T := TX9) (v := ((iM (wR M a_1 (iM M a0 5).toNatClampNeg (some a1)) a0 5) + 1)) (ty := .int) C inX9_newFace_X9 tyX9 tyX9_ok nmX9 rfl (by decide) h.1 (by decide) rfl (by decide +kernel) rfl (by decide +kernel) rfl rfl rfl dX9_newFace_17 ?_
  have h := h.2
  refine q_aload_n C dX9_newFace_20 rfl (j := 0) rfl ?_
  refine q_getI (ci := 9) (k0 := 5) (T := TX9) C inX9_newFace_X9 rfl (by decide) h.1 (by decide) rfl (by decide +kernel) rfl dX9_newFace_21 ?_
  have h := h.2
  refine q_iconst (v := 1) C dX9_newFace_24 (by decide) ?_
  refine q_isub C dX9_newFace_25 ?_
  exact q_iret C hr hlk dX9_newFace_26 (Nat.le_of_ble_eq_true rfl) (Nat.le_of_ble_eq_true rfl) h
def S_X9_point_26 (K26 : Nat → Mm → Nat → Nat → Prop) (Cc Zz : Nat) (Q : Int32 → Mm → Prop) (M : Mm) (a0 : Nat) (cc zz : Nat) : Prop := (cc ≤ Cc ∧ zz ≤ Zz) ∧ kM M a0 = (9, 13) ∧ T_X9_refuse M a0 1 (fun r_9 M_10 => cc ≤ Cc ∧ zz ≤ Zz ∧ Q r_9 M_10)
def T_X9_point (Cc Zz : Nat) (M : Mm) (a0 : Nat) (i1 : Int32) (i2 : Int32) (i3 : Int32) (Q : Int32 → Mm → Prop) : Prop := ∀ (K26 : Nat → Mm → Nat → Nat → Prop), (∀ (a0 : Nat) (M : Mm) (cc zz : Nat), S_X9_point_26 K26 Cc Zz Q M a0 cc zz → K26 a0 M cc zz) → kM M a0 = (9, 13) ∧ (0 ≤ Cc ∧ 0 ≤ Zz) ∧ T_X9_isNear (wI M a0 0 0) i1 (fun r_1 => (r_1 = 0 → K26 a0 (wI M a0 0 0) 0 0) ∧ (¬ r_1 = 0 → (0 ≤ Cc ∧ 0 ≤ Zz) ∧ T_X9_isNear (wI M a0 0 0) i2 (fun r_2 => (r_2 = 0 → K26 a0 (wI M a0 0 0) 0 0) ∧ (¬ r_2 = 0 → (0 ≤ Cc ∧ 0 ≤ Zz) ∧ T_X9_isNear (wI M a0 0 0) i3 (fun r_3 => (¬ r_3 = 0 → kM (wI M a0 0 0) a0 = (9, 13) ∧ (¬ (iM (wI M a0 0 0) a0 3) = 100 → ∃ dc_6 ds_6 : Nat, (0 + dc_6 ≤ Cc ∧ 0 + ds_6 ≤ Zz) ∧ kM (wI M a0 0 0) a0 = (9, 13) ∧ T_X9_newPoint dc_6 ds_6 (wI M a0 0 0) a0 i1 i2 i3 (fun r_4 M_5 => (0 + dc_6) ≤ Cc ∧ (0 + ds_6) ≤ Zz ∧ Q r_4 M_5)) ∧ ((iM (wI M a0 0 0) a0 3) = 100 → (0 ≤ Cc ∧ 0 ≤ Zz) ∧ kM (wI M a0 0 0) a0 = (9, 13) ∧ T_X9_refuse (wI M a0 0 0) a0 2 (fun r_7 M_8 => 0 ≤ Cc ∧ 0 ≤ Zz ∧ Q r_7 M_8))) ∧ (r_3 = 0 → K26 a0 (wI M a0 0 0) 0 0))))))
theorem inX9_point_X9 : ∀ w ∈ wsX90, w ∈ wsX9_point := by decide +kernel
set_option maxRecDepth 100000 in
set_option maxHeartbeats 4000000 in
theorem b_X9_point_26 {p : Program} {l : Launch} {e : Env} {s : State} {m : MethodId} {args : Array Value} {below : List Frame} {meth : Method} {c : Code} {D : va_G} {cA : Nat → ClassId} {lo : Nat} (C : Cx p s m args c cX9_point 4 RX9 wsX9_point D cA lo) (hr : meth.sig.returnType = (some .int)) (hlk : meth.locks = false) {Q : Int32 → Mm → Prop} {Cc Zz : Nat} (M : Mm) (a0 : Nat) (cc zz : Nat) (h : S_X9_point_26 (fun (a0 : Nat) (M : Mm) (cc zz : Nat) => QW p l e ({ frames := 2, cells := Cc, slots := Zz, locals := 84 } : Room) s m args below meth c (MQ below (QiM D cA lo Q) args s Cc Zz (fun q => lo ≤ q)) 4 D cA lo cc zz M 26 [(0, .ref a0)] []) Cc Zz Q M a0 cc zz) : QW p l e ({ frames := 2, cells := Cc, slots := Zz, locals := 84 } : Room) s m args below meth c (MQ below (QiM D cA lo Q) args s Cc Zz (fun q => lo ≤ q)) 4 D cA lo cc zz M 26 [(0, .ref a0)] [] := by
  unfold S_X9_point_26 at h
  refine q_aload_n C dX9_point_26 rfl (j := 0) rfl ?_
  refine q_iconst (v := 1) C dX9_point_27 (by decide) ?_
  have hcz := h.1
  have h := h.2
  refine q_ci (q_runV (As := [.int 1]) (st := []) C (c_X9_refuse l D cA lo h.2) (cwV 1 C.2.2.2.2.1 gX9_point_X9_refuse rfl rfl rfl (by decide +kernel) ⟨Nat.le_of_ble_eq_true rfl, Nat.le_of_ble_eq_true rfl⟩) h.1 (by decide) rfl rfl rfl (Nat.le_of_ble_eq_true rfl) dX9_point_28 ⟨Nat.le_trans (Nat.le_of_eq (Nat.add_zero _)) hcz.1, Nat.le_trans (Nat.le_of_eq (Nat.add_zero _)) hcz.2⟩) (fun r_9 M_10 h => ?_)
  exact q_iret C hr hlk dX9_point_31 h.1 h.2.1 h.2.2
set_option maxRecDepth 100000 in
set_option maxHeartbeats 4000000 in
theorem c_X9_point (l : Launch) (D : va_G) (cA : Nat → ClassId) (lo : Nat) {M : Mm} {a0 : Nat} {i1 : Int32} {i2 : Int32} {i3 : Int32} {Cc Zz : Nat} {Q : Int32 → Mm → Prop} (h : T_X9_point Cc Zz M a0 i1 i2 i3 Q) : Met l yX9_point wsX9_point ({ frames := 2, cells := Cc, slots := Zz, locals := 84 } : Room) (PcM D cA lo [.ref a0, .int i1, .int i2, .int i3] M) (QiM D cA lo Q) Cc Zz (fun q => lo ≤ q) := by
  refine q_start (cc := cX9_point) (nL := 4) (ret := (some .int)) (by decide) rfl rfl (Nat.le_of_ble_eq_true rfl) ?_
  intro p e s m args below meth c C hr hlk hin
  unfold T_X9_point at h
  have h := h (fun (a0 : Nat) (M : Mm) (cc zz : Nat) => QW p l e ({ frames := 2, cells := Cc, slots := Zz, locals := 84 } : Room) s m args below meth c (MQ below (QiM D cA lo Q) args s Cc Zz (fun q => lo ≤ q)) 4 D cA lo cc zz M 26 [(0, .ref a0)] []) (fun a0 M cc zz h => b_X9_point_26 C hr hlk M a0 cc zz h)
  refine q_aload_n C dX9_point_0 rfl (j := 0) rfl ?_
  refine q_iconst (v := 0) C dX9_point_1 (by decide) ?_
  refine q_putI (ci := 9) (k0 := 0) (T := TX9) (v := 0) (ty := .int) C inX9_point_X9 tyX9 tyX9_ok nmX9 rfl (by decide) h.1 (by decide) rfl (by decide +kernel) rfl (by decide +kernel) rfl rfl rfl dX9_point_2 ?_
  have h := h.2
  refine q_iload_n C dX9_point_5 rfl (j := 1) rfl ?_
  have hcz := h.1
  have h := h.2
  refine q_ci (q_runS (As := [.int i1]) (st := []) C (c_X9_isNear l D cA lo h) (va_cwS 1 C.2.2.2.2.1 gX9_point_X9_isNear rfl rfl rfl (by decide +kernel) ⟨Nat.le_of_ble_eq_true rfl, Nat.le_of_ble_eq_true rfl⟩) rfl rfl (Nat.le_of_ble_eq_true rfl) dX9_point_6 ⟨Nat.le_trans (Nat.le_of_eq (Nat.add_zero _)) hcz.1, Nat.le_trans (Nat.le_of_eq (Nat.add_zero _)) hcz.2⟩) (fun r_1 M_z h => ?_)
  refine q_mem h.1 ?_
  have h := h.2
  refine q_if_eq (tgt := 26) C dX9_point_9 (by decide) (fun z => ?_) (fun z => ?_)
  · have h := h.1 z
    exact q_sub [0] rfl h
  · have h := h.2 z
    refine q_iload_n C dX9_point_12 rfl (j := 2) rfl ?_
    have hcz := h.1
    have h := h.2
    refine q_ci (q_runS (As := [.int i2]) (st := []) C (c_X9_isNear l D cA lo h) (va_cwS 1 C.2.2.2.2.1 gX9_point_X9_isNear rfl rfl rfl (by decide +kernel) ⟨Nat.le_of_ble_eq_true rfl, Nat.le_of_ble_eq_true rfl⟩) rfl rfl (Nat.le_of_ble_eq_true rfl) dX9_point_13 ⟨Nat.le_trans (Nat.le_of_eq (Nat.add_zero _)) hcz.1, Nat.le_trans (Nat.le_of_eq (Nat.add_zero _)) hcz.2⟩) (fun r_2 M_z h => ?_)
    refine q_mem h.1 ?_
    have h := h.2
    refine q_if_eq (tgt := 26) C dX9_point_16 (by decide) (fun z => ?_) (fun z => ?_)
    · have h := h.1 z
      exact q_sub [0] rfl h
    · have h := h.2 z
      refine q_iload_n C dX9_point_19 rfl (j := 3) rfl ?_
      have hcz := h.1
      have h := h.2
      refine q_ci (q_runS (As := [.int i3]) (st := []) C (c_X9_isNear l D cA lo h) (va_cwS 1 C.2.2.2.2.1 gX9_point_X9_isNear rfl rfl rfl (by decide +kernel) ⟨Nat.le_of_ble_eq_true rfl, Nat.le_of_ble_eq_true rfl⟩) rfl rfl (Nat.le_of_ble_eq_true rfl) dX9_point_20 ⟨Nat.le_trans (Nat.le_of_eq (Nat.add_zero _)) hcz.1, Nat.le_trans (Nat.le_of_eq (Nat.add_zero _)) hcz.2⟩) (fun r_3 M_z h => ?_)
      refine q_mem h.1 ?_
      have h := h.2
      refine q_if_ne (tgt := 32) C dX9_point_23 (by decide) (fun z => ?_) (fun z => ?_)
      · have h := h.1 z
        refine q_aload_n C dX9_point_32 rfl (j := 0) rfl ?_
        refine q_getI (ci := 9) (k0 := 3) (T := TX9) C inX9_point_X9 rfl (by decide) h.1 (by decide) rfl (by decide +kernel) rfl dX9_point_33 ?_
        have h := h.2
        refine q_bipush (v := 100) C dX9_point_36 (by decide) ?_
        refine q_icmp_ne (tgt := 49) C dX9_point_38 (by decide) (fun z => ?_) (fun z => ?_)
        · have h := h.1 z
          refine q_aload_n C dX9_point_49 rfl (j := 0) rfl ?_
          refine q_iload_n C dX9_point_50 rfl (j := 1) rfl ?_
          refine q_iload_n C dX9_point_51 rfl (j := 2) rfl ?_
          refine q_iload_n C dX9_point_52 rfl (j := 3) rfl ?_
          obtain ⟨dc_6, ds_6, hcz, h⟩ := h
          refine q_ci (q_runV (As := [.int i1, .int i2, .int i3]) (st := []) C (c_X9_newPoint l D cA lo h.2) (cwV 3 C.2.2.2.2.1 gX9_point_X9_newPoint rfl rfl rfl (by decide +kernel) ⟨Nat.le_of_ble_eq_true rfl, Nat.le_of_ble_eq_true rfl⟩) h.1 (by decide) rfl rfl rfl (Nat.le_of_ble_eq_true rfl) dX9_point_53 hcz) (fun r_4 M_5 h => ?_)
          exact q_iret C hr hlk dX9_point_56 h.1 h.2.1 h.2.2
        · have h := h.2 z
          refine q_aload_n C dX9_point_41 rfl (j := 0) rfl ?_
          refine q_iconst (v := 2) C dX9_point_42 (by decide) ?_
          have hcz := h.1
          have h := h.2
          refine q_ci (q_runV (As := [.int 2]) (st := []) C (c_X9_refuse l D cA lo h.2) (cwV 1 C.2.2.2.2.1 gX9_point_X9_refuse rfl rfl rfl (by decide +kernel) ⟨Nat.le_of_ble_eq_true rfl, Nat.le_of_ble_eq_true rfl⟩) h.1 (by decide) rfl rfl rfl (Nat.le_of_ble_eq_true rfl) dX9_point_43 ⟨Nat.le_trans (Nat.le_of_eq (Nat.add_zero _)) hcz.1, Nat.le_trans (Nat.le_of_eq (Nat.add_zero _)) hcz.2⟩) (fun r_7 M_8 h => ?_)
          refine q_goto (tgt := 56) C dX9_point_46 (by decide) ?_
          exact q_iret C hr hlk dX9_point_56 h.1 h.2.1 h.2.2
      · have h := h.2 z
        exact q_sub [0] rfl h
def S_X9_move_41 (K41 : Nat → Mm → Nat → Nat → Prop) (K71 : Nat → Int32 → Nat → Int32 → Int32 → Mm → Nat → Nat → Prop) (Cc Zz : Nat) (Q : Int32 → Mm → Prop) (M : Mm) (a0 : Nat) (cc zz : Nat) : Prop := (cc ≤ Cc ∧ zz ≤ Zz) ∧ kM M a0 = (9, 13) ∧ T_X9_refuse M a0 2 (fun r_11 M_12 => cc ≤ Cc ∧ zz ≤ Zz ∧ Q r_11 M_12)
def S_X9_move_71 (K41 : Nat → Mm → Nat → Nat → Prop) (K71 : Nat → Int32 → Nat → Int32 → Int32 → Mm → Nat → Nat → Prop) (Cc Zz : Nat) (Q : Int32 → Mm → Prop) (M : Mm) (a0 : Nat) (i1 : Int32) (a5 : Nat) (i6 : Int32) (i7 : Int32) (cc zz : Nat) : Prop := (3 ≤ i7 → cc ≤ Cc ∧ zz ≤ Zz ∧ Q i6 M) ∧ (¬ 3 ≤ i7 → ∃ n_13 : Nat, kM M a5 = (100, n_13) ∧ vp_in i7 n_13 ∧ kM M a0 = (9, 13) ∧ ∃ a_14 : Nat, rM M a0 1 = some a_14 ∧ ∃ n_15 : Nat, kM M a_14 = (121, n_15) ∧ vp_in i1 n_15 ∧ ∃ a_16 : Nat, rM M a_14 i1.toNatClampNeg = some a_16 ∧ ∃ n_17 : Nat, kM M a_16 = (100, n_17) ∧ vp_in i7 n_17 ∧ ∃ n_18 : Nat, kM M a5 = (100, n_18) ∧ vp_in i7 n_18 ∧ kM M a0 = (9, 13) ∧ ∃ a_19 : Nat, rM M a0 1 = some a_19 ∧ ∃ n_20 : Nat, kM M a_19 = (121, n_20) ∧ vp_in i1 n_20 ∧ ∃ a_21 : Nat, rM M a_19 i1.toNatClampNeg = some a_21 ∧ ∃ n_22 : Nat, kM M a_21 = (100, n_22) ∧ vp_in i7 n_22 ∧ kM M a0 = (9, 13) ∧ ∃ a_23 : Nat, rM M a0 1 = some a_23 ∧ ∃ n_24 : Nat, kM M a_23 = (121, n_24) ∧ vp_in i1 n_24 ∧ ∃ a_25 : Nat, rM M a_23 i1.toNatClampNeg = some a_25 ∧ ∃ n_26 : Nat, kM M a5 = (100, n_26) ∧ vp_in i7 n_26 ∧ ∃ n_27 : Nat, kM M a_25 = (100, n_27) ∧ vp_in i7 n_27 ∧ K71 a0 i1 a5 (i6 + (((iM M a5 i7.toNatClampNeg) - (iM M a_16 i7.toNatClampNeg)) * ((iM M a5 i7.toNatClampNeg) - (iM M a_21 i7.toNatClampNeg)))) (i7 + 1) (wI M a_25 i7.toNatClampNeg (iM M a5 i7.toNatClampNeg)) cc zz)
def T_X9_move (Cc Zz : Nat) (M : Mm) (a0 : Nat) (i1 : Int32) (i2 : Int32) (i3 : Int32) (i4 : Int32) (Q : Int32 → Mm → Prop) : Prop := ∀ (K41 : Nat → Mm → Nat → Nat → Prop) (K71 : Nat → Int32 → Nat → Int32 → Int32 → Mm → Nat → Nat → Prop), (∀ (a0 : Nat) (M : Mm) (cc zz : Nat), S_X9_move_41 K41 K71 Cc Zz Q M a0 cc zz → K41 a0 M cc zz) → (∀ (a0 : Nat) (i1 : Int32) (a5 : Nat) (i6 : Int32) (i7 : Int32) (M : Mm) (cc zz : Nat), S_X9_move_71 K41 K71 Cc Zz Q M a0 i1 a5 i6 i7 cc zz → K71 a0 i1 a5 i6 i7 M cc zz) → kM M a0 = (9, 13) ∧ (0 ≤ Cc ∧ 0 ≤ Zz) ∧ kM (wI M a0 0 0) a0 = (9, 13) ∧ T_X9_isPoint (wI M a0 0 0) a0 i1 (fun r_1 => (¬ r_1 = 0 → (0 ≤ Cc ∧ 0 ≤ Zz) ∧ T_X9_isNear (wI M a0 0 0) i2 (fun r_2 => (r_2 = 0 → K41 a0 (wI M a0 0 0) 0 0) ∧ (¬ r_2 = 0 → (0 ≤ Cc ∧ 0 ≤ Zz) ∧ T_X9_isNear (wI M a0 0 0) i3 (fun r_3 => (r_3 = 0 → K41 a0 (wI M a0 0 0) 0 0) ∧ (¬ r_3 = 0 → (0 ≤ Cc ∧ 0 ≤ Zz) ∧ T_X9_isNear (wI M a0 0 0) i4 (fun r_4 => (¬ r_4 = 0 → 0 + 1 ≤ Cc ∧ 0 + 3 ≤ Zz ∧ ∀ q_5 : Nat, frs (wI M a0 0 0) q_5 → ∃ n_6 : Nat, kM (wN (wI M a0 0 0) q_5 100 3) q_5 = (100, n_6) ∧ vp_in 0 n_6 ∧ ∃ n_7 : Nat, kM (wI (wN (wI M a0 0 0) q_5 100 3) q_5 (0 : Int32).toNatClampNeg i2) q_5 = (100, n_7) ∧ vp_in 1 n_7 ∧ ∃ n_8 : Nat, kM (wI (wI (wN (wI M a0 0 0) q_5 100 3) q_5 (0 : Int32).toNatClampNeg i2) q_5 (1 : Int32).toNatClampNeg i3) q_5 = (100, n_8) ∧ vp_in 2 n_8 ∧ K71 a0 i1 q_5 0 0 (wI (wI (wI (wN (wI M a0 0 0) q_5 100 3) q_5 (0 : Int32).toNatClampNeg i2) q_5 (1 : Int32).toNatClampNeg i3) q_5 (2 : Int32).toNatClampNeg i4) (0 + 1) (0 + 3)) ∧ (r_4 = 0 → K41 a0 (wI M a0 0 0) 0 0))))))) ∧ (r_1 = 0 → (0 ≤ Cc ∧ 0 ≤ Zz) ∧ kM (wI M a0 0 0) a0 = (9, 13) ∧ T_X9_refuse (wI M a0 0 0) a0 1 (fun r_9 M_10 => 0 ≤ Cc ∧ 0 ≤ Zz ∧ Q r_9 M_10)))
theorem inX9_move_X9 : ∀ w ∈ wsX90, w ∈ wsX9_move := by decide +kernel
set_option maxRecDepth 100000 in
set_option maxHeartbeats 4000000 in
theorem b_X9_move_41 {p : Program} {l : Launch} {e : Env} {s : State} {m : MethodId} {args : Array Value} {below : List Frame} {meth : Method} {c : Code} {D : va_G} {cA : Nat → ClassId} {lo : Nat} (C : Cx p s m args c cX9_move 8 RX9 wsX9_move D cA lo) (hr : meth.sig.returnType = (some .int)) (hlk : meth.locks = false) {Q : Int32 → Mm → Prop} {Cc Zz : Nat} (M : Mm) (a0 : Nat) (cc zz : Nat) (h : S_X9_move_41 (fun (a0 : Nat) (M : Mm) (cc zz : Nat) => QW p l e ({ frames := 2, cells := Cc, slots := Zz, locals := 43 } : Room) s m args below meth c (MQ below (QiM D cA lo Q) args s Cc Zz (fun q => lo ≤ q)) 8 D cA lo cc zz M 41 [(0, .ref a0)] []) (fun (a0 : Nat) (i1 : Int32) (a5 : Nat) (i6 : Int32) (i7 : Int32) (M : Mm) (cc zz : Nat) => QW p l e ({ frames := 2, cells := Cc, slots := Zz, locals := 43 } : Room) s m args below meth c (MQ below (QiM D cA lo Q) args s Cc Zz (fun q => lo ≤ q)) 8 D cA lo cc zz M 71 [(0, .ref a0), (1, .int i1), (5, .ref a5), (6, .int i6), (7, .int i7)] []) Cc Zz Q M a0 cc zz) : QW p l e ({ frames := 2, cells := Cc, slots := Zz, locals := 43 } : Room) s m args below meth c (MQ below (QiM D cA lo Q) args s Cc Zz (fun q => lo ≤ q)) 8 D cA lo cc zz M 41 [(0, .ref a0)] [] := by
  unfold S_X9_move_41 at h
  refine q_aload_n C dX9_move_41 rfl (j := 0) rfl ?_
  refine q_iconst (v := 2) C dX9_move_42 (by decide) ?_
  have hcz := h.1
  have h := h.2
  refine q_ci (q_runV (As := [.int 2]) (st := []) C (c_X9_refuse l D cA lo h.2) (cwV 1 C.2.2.2.2.1 gX9_move_X9_refuse rfl rfl rfl (by decide +kernel) ⟨Nat.le_of_ble_eq_true rfl, Nat.le_of_ble_eq_true rfl⟩) h.1 (by decide) rfl rfl rfl (Nat.le_of_ble_eq_true rfl) dX9_move_43 ⟨Nat.le_trans (Nat.le_of_eq (Nat.add_zero _)) hcz.1, Nat.le_trans (Nat.le_of_eq (Nat.add_zero _)) hcz.2⟩) (fun r_11 M_12 h => ?_)
  exact q_iret C hr hlk dX9_move_46 h.1 h.2.1 h.2.2
set_option maxRecDepth 100000 in
set_option maxHeartbeats 4000000 in
theorem b_X9_move_71 {p : Program} {l : Launch} {e : Env} {s : State} {m : MethodId} {args : Array Value} {below : List Frame} {meth : Method} {c : Code} {D : va_G} {cA : Nat → ClassId} {lo : Nat} (C : Cx p s m args c cX9_move 8 RX9 wsX9_move D cA lo) (hr : meth.sig.returnType = (some .int)) (hlk : meth.locks = false) {Q : Int32 → Mm → Prop} {Cc Zz : Nat} (M : Mm) (a0 : Nat) (i1 : Int32) (a5 : Nat) (i6 : Int32) (i7 : Int32) (cc zz : Nat) (h : S_X9_move_71 (fun (a0 : Nat) (M : Mm) (cc zz : Nat) => QW p l e ({ frames := 2, cells := Cc, slots := Zz, locals := 43 } : Room) s m args below meth c (MQ below (QiM D cA lo Q) args s Cc Zz (fun q => lo ≤ q)) 8 D cA lo cc zz M 41 [(0, .ref a0)] []) (fun (a0 : Nat) (i1 : Int32) (a5 : Nat) (i6 : Int32) (i7 : Int32) (M : Mm) (cc zz : Nat) => QW p l e ({ frames := 2, cells := Cc, slots := Zz, locals := 43 } : Room) s m args below meth c (MQ below (QiM D cA lo Q) args s Cc Zz (fun q => lo ≤ q)) 8 D cA lo cc zz M 71 [(0, .ref a0), (1, .int i1), (5, .ref a5), (6, .int i6), (7, .int i7)] []) Cc Zz Q M a0 i1 a5 i6 i7 cc zz) : QW p l e ({ frames := 2, cells := Cc, slots := Zz, locals := 43 } : Room) s m args below meth c (MQ below (QiM D cA lo Q) args s Cc Zz (fun q => lo ≤ q)) 8 D cA lo cc zz M 71 [(0, .ref a0), (1, .int i1), (5, .ref a5), (6, .int i6), (7, .int i7)] [] := by
  unfold S_X9_move_71 at h
  refine q_iload C dX9_move_71 (j := 4) rfl ?_
  refine q_iconst (v := 3) C dX9_move_73 (by decide) ?_
  refine q_icmp_ge (tgt := 133) C dX9_move_74 (by decide) (fun z => ?_) (fun z => ?_)
  · have h := h.1 z
    refine q_iload C dX9_move_133 (j := 3) rfl ?_
    exact q_iret C hr hlk dX9_move_135 h.1 h.2.1 h.2.2
  · have h := h.2 z
    refine q_iload C dX9_move_77 (j := 3) rfl ?_
    refine q_aload C dX9_move_79 (j := 2) rfl ?_
    refine q_iload C dX9_move_81 (j := 4) rfl ?_
    obtain ⟨n_13, z1, z2, h⟩ := h
    refine q_iald C z1 z2 dX9_move_83 ?_
    refine q_aload_n C dX9_move_84 rfl (j := 0) rfl ?_
    refine q_getR (ci := 9) (k0 := 1) (T := TX9) C inX9_move_X9 rfl (by decide) h.1 (by decide) rfl (by decide +kernel) rfl dX9_move_85 ?_
    obtain ⟨a_14, z, h⟩ := h.2
    refine q_ref z ?_
    refine q_iload_n C dX9_move_88 rfl (j := 1) rfl ?_
    obtain ⟨n_15, z1, z2, h⟩ := h
    refine q_gald C z1 z2 dX9_move_89 ?_
    obtain ⟨a_16, z, h⟩ := h
    refine q_ref z ?_
    refine q_iload C dX9_move_90 (j := 4) rfl ?_
    obtain ⟨n_17, z1, z2, h⟩ := h
    refine q_iald C z1 z2 dX9_move_92 ?_
    refine q_isub C dX9_move_93 ?_
    refine q_aload C dX9_move_94 (j := 2) rfl ?_
    refine q_iload C dX9_move_96 (j := 4) rfl ?_
    obtain ⟨n_18, z1, z2, h⟩ := h
    refine q_iald C z1 z2 dX9_move_98 ?_
    refine q_aload_n C dX9_move_99 rfl (j := 0) rfl ?_
    refine q_getR (ci := 9) (k0 := 1) (T := TX9) C inX9_move_X9 rfl (by decide) h.1 (by decide) rfl (by decide +kernel) rfl dX9_move_100 ?_
    obtain ⟨a_19, z, h⟩ := h.2
    refine q_ref z ?_
    refine q_iload_n C dX9_move_103 rfl (j := 1) rfl ?_
    obtain ⟨n_20, z1, z2, h⟩ := h
    refine q_gald C z1 z2 dX9_move_104 ?_
    obtain ⟨a_21, z, h⟩ := h
    refine q_ref z ?_
    refine q_iload C dX9_move_105 (j := 4) rfl ?_
    obtain ⟨n_22, z1, z2, h⟩ := h
    refine q_iald C z1 z2 dX9_move_107 ?_
    refine q_isub C dX9_move_108 ?_
    refine q_imul C dX9_move_109 ?_
    refine q_iadd C dX9_move_110 ?_
    refine q_istore (lv' := [(6, .int (i6 + (((iM M a5 i7.toNatClampNeg) - (iM M a_16 i7.toNatClampNeg)) * ((iM M a5 i7.toNatClampNeg) - (iM M a_21 i7.toNatClampNeg))))), (0, .ref a0), (1, .int i1), (5, .ref a5), (7, .int i7)]) C dX9_move_111 (by decide) rfl ?_
    refine q_aload_n C dX9_move_113 rfl (j := 1) rfl ?_
    refine q_getR (ci := 9) (k0 := 1) (T := TX9) C inX9_move_X9 rfl (by decide) h.1 (by decide) rfl (by decide +kernel) rfl dX9_move_114 ?_
    obtain ⟨a_23, z, h⟩ := h.2
    refine q_ref z ?_
    refine q_iload_n C dX9_move_117 rfl (j := 2) rfl ?_
    obtain ⟨n_24, z1, z2, h⟩ := h
    refine q_gald C z1 z2 dX9_move_118 ?_
    obtain ⟨a_25, z, h⟩ := h
    refine q_ref z ?_
    refine q_iload C dX9_move_119 (j := 4) rfl ?_
    refine q_aload C dX9_move_121 (j := 3) rfl ?_
    refine q_iload C dX9_move_123 (j := 4) rfl ?_
    obtain ⟨n_26, z1, z2, h⟩ := h
    refine q_iald C z1 z2 dX9_move_125 ?_
    obtain ⟨n_27, z1, z2, h⟩ := h
    refine q_iast C z1 z2 dX9_move_126 ?_
    refine q_iinc (v := (i7 + 1)) (lv' := [(7, .int (i7 + 1)), (6, .int (i6 + (((iM M a5 i7.toNatClampNeg) - (iM M a_16 i7.toNatClampNeg)) * ((iM M a5 i7.toNatClampNeg) - (iM M a_21 i7.toNatClampNeg))))), (0, .ref a0), (1, .int i1), (5, .ref a5)]) C dX9_move_127 (j := 4) rfl rfl (by decide) rfl ?_
    refine q_goto (tgt := 71) C dX9_move_130 (by decide) ?_
    exact q_sub [2, 3, 4, 1, 0] rfl h
set_option maxRecDepth 100000 in
set_option maxHeartbeats 4000000 in
theorem c_X9_move (l : Launch) (D : va_G) (cA : Nat → ClassId) (lo : Nat) {M : Mm} {a0 : Nat} {i1 : Int32} {i2 : Int32} {i3 : Int32} {i4 : Int32} {Cc Zz : Nat} {Q : Int32 → Mm → Prop} (h : T_X9_move Cc Zz M a0 i1 i2 i3 i4 Q) : Met l yX9_move wsX9_move ({ frames := 2, cells := Cc, slots := Zz, locals := 43 } : Room) (PcM D cA lo [.ref a0, .int i1, .int i2, .int i3, .int i4] M) (QiM D cA lo Q) Cc Zz (fun q => lo ≤ q) := by
  refine q_start (cc := cX9_move) (nL := 8) (ret := (some .int)) (by decide) rfl rfl (Nat.le_of_ble_eq_true rfl) ?_
  intro p e s m args below meth c C hr hlk hin
  unfold T_X9_move at h
  have h := h (fun (a0 : Nat) (M : Mm) (cc zz : Nat) => QW p l e ({ frames := 2, cells := Cc, slots := Zz, locals := 43 } : Room) s m args below meth c (MQ below (QiM D cA lo Q) args s Cc Zz (fun q => lo ≤ q)) 8 D cA lo cc zz M 41 [(0, .ref a0)] []) (fun (a0 : Nat) (i1 : Int32) (a5 : Nat) (i6 : Int32) (i7 : Int32) (M : Mm) (cc zz : Nat) => QW p l e ({ frames := 2, cells := Cc, slots := Zz, locals := 43 } : Room) s m args below meth c (MQ below (QiM D cA lo Q) args s Cc Zz (fun q => lo ≤ q)) 8 D cA lo cc zz M 71 [(0, .ref a0), (1, .int i1), (5, .ref a5), (6, .int i6), (7, .int i7)] []) (fun a0 M cc zz h => b_X9_move_41 C hr hlk M a0 cc zz h) (fun a0 i1 a5 i6 i7 M cc zz h => b_X9_move_71 C hr hlk M a0 i1 a5 i6 i7 cc zz h)
  refine q_aload_n C dX9_move_0 rfl (j := 0) rfl ?_
  refine q_iconst (v := 0) C dX9_move_1 (by decide) ?_
  refine q_putI (ci := 9) (k0 := 0) (T := TX9) (v := 0) (ty := .int) C inX9_move_X9 tyX9 tyX9_ok nmX9 rfl (by decide) h.1 (by decide) rfl (by decide +kernel) rfl (by decide +kernel) rfl rfl rfl dX9_move_2 ?_
  have h := h.2
  refine q_aload_n C dX9_move_5 rfl (j := 0) rfl ?_
  refine q_iload_n C dX9_move_6 rfl (j := 1) rfl ?_
  have hcz := h.1
  have h := h.2
  refine q_ci (q_runV (As := [.int i1]) (st := []) C (c_X9_isPoint l D cA lo h.2) (cwV 1 C.2.2.2.2.1 gX9_move_X9_isPoint rfl rfl rfl (by decide +kernel) ⟨Nat.le_of_ble_eq_true rfl, Nat.le_of_ble_eq_true rfl⟩) h.1 (by decide) rfl rfl rfl (Nat.le_of_ble_eq_true rfl) dX9_move_7 ⟨Nat.le_trans (Nat.le_of_eq (Nat.add_zero _)) hcz.1, Nat.le_trans (Nat.le_of_eq (Nat.add_zero _)) hcz.2⟩) (fun r_1 M_z h => ?_)
  refine q_mem h.1 ?_
  have h := h.2
  refine q_if_ne (tgt := 19) C dX9_move_10 (by decide) (fun z => ?_) (fun z => ?_)
  · have h := h.1 z
    refine q_iload_n C dX9_move_19 rfl (j := 2) rfl ?_
    have hcz := h.1
    have h := h.2
    refine q_ci (q_runS (As := [.int i2]) (st := []) C (c_X9_isNear l D cA lo h) (va_cwS 1 C.2.2.2.2.1 gX9_move_X9_isNear rfl rfl rfl (by decide +kernel) ⟨Nat.le_of_ble_eq_true rfl, Nat.le_of_ble_eq_true rfl⟩) rfl rfl (Nat.le_of_ble_eq_true rfl) dX9_move_20 ⟨Nat.le_trans (Nat.le_of_eq (Nat.add_zero _)) hcz.1, Nat.le_trans (Nat.le_of_eq (Nat.add_zero _)) hcz.2⟩) (fun r_2 M_z h => ?_)
    refine q_mem h.1 ?_
    have h := h.2
    refine q_if_eq (tgt := 41) C dX9_move_23 (by decide) (fun z => ?_) (fun z => ?_)
    · have h := h.1 z
      exact q_sub [0] rfl h
    · have h := h.2 z
      refine q_iload_n C dX9_move_26 rfl (j := 3) rfl ?_
      have hcz := h.1
      have h := h.2
      refine q_ci (q_runS (As := [.int i3]) (st := []) C (c_X9_isNear l D cA lo h) (va_cwS 1 C.2.2.2.2.1 gX9_move_X9_isNear rfl rfl rfl (by decide +kernel) ⟨Nat.le_of_ble_eq_true rfl, Nat.le_of_ble_eq_true rfl⟩) rfl rfl (Nat.le_of_ble_eq_true rfl) dX9_move_27 ⟨Nat.le_trans (Nat.le_of_eq (Nat.add_zero _)) hcz.1, Nat.le_trans (Nat.le_of_eq (Nat.add_zero _)) hcz.2⟩) (fun r_3 M_z h => ?_)
      refine q_mem h.1 ?_
      have h := h.2
      refine q_if_eq (tgt := 41) C dX9_move_30 (by decide) (fun z => ?_) (fun z => ?_)
      · have h := h.1 z
        exact q_sub [0] rfl h
      · have h := h.2 z
        refine q_iload C dX9_move_33 (j := 4) rfl ?_
        have hcz := h.1
        have h := h.2
        refine q_ci (q_runS (As := [.int i4]) (st := []) C (c_X9_isNear l D cA lo h) (va_cwS 1 C.2.2.2.2.1 gX9_move_X9_isNear rfl rfl rfl (by decide +kernel) ⟨Nat.le_of_ble_eq_true rfl, Nat.le_of_ble_eq_true rfl⟩) rfl rfl (Nat.le_of_ble_eq_true rfl) dX9_move_35 ⟨Nat.le_trans (Nat.le_of_eq (Nat.add_zero _)) hcz.1, Nat.le_trans (Nat.le_of_eq (Nat.add_zero _)) hcz.2⟩) (fun r_4 M_z h => ?_)
        refine q_mem h.1 ?_
        have h := h.2
        refine q_if_ne (tgt := 47) C dX9_move_38 (by decide) (fun z => ?_) (fun z => ?_)
        · have h := h.1 z
          refine q_iconst (v := 3) C dX9_move_47 (by decide) ?_
          refine q_newI (N := 3) C (by decide +kernel) (by decide) (by decide) (by decide) ⟨h.1, h.2.1⟩ dX9_move_48 (fun q_5 hq _ => ?_)
          have h := h.2.2 q_5 hq
          refine q_dup C dX9_move_50 rfl ?_
          refine q_iconst (v := 0) C dX9_move_51 (by decide) ?_
          refine q_iload_n C dX9_move_52 rfl (j := 2) rfl ?_
          obtain ⟨n_6, z1, z2, h⟩ := h
          refine q_iast C z1 z2 dX9_move_53 ?_
          refine q_dup C dX9_move_54 rfl ?_
          refine q_iconst (v := 1) C dX9_move_55 (by decide) ?_
          refine q_iload_n C dX9_move_56 rfl (j := 3) rfl ?_
          obtain ⟨n_7, z1, z2, h⟩ := h
          refine q_iast C z1 z2 dX9_move_57 ?_
          refine q_dup C dX9_move_58 rfl ?_
          refine q_iconst (v := 2) C dX9_move_59 (by decide) ?_
          refine q_iload C dX9_move_60 (j := 4) rfl ?_
          obtain ⟨n_8, z1, z2, h⟩ := h
          refine q_iast C z1 z2 dX9_move_62 ?_
          refine q_astore (lv' := [(5, .ref q_5), (0, .ref a0), (1, .int i1), (2, .int i2), (3, .int i3), (4, .int i4)]) C dX9_move_63 (by decide) rfl ?_
          refine q_iconst (v := 0) C dX9_move_65 (by decide) ?_
          refine q_istore (lv' := [(6, .int 0), (5, .ref q_5), (0, .ref a0), (1, .int i1), (2, .int i2), (3, .int i3), (4, .int i4)]) C dX9_move_66 (by decide) rfl ?_
          refine q_iconst (v := 0) C dX9_move_68 (by decide) ?_
          refine q_istore (lv' := [(7, .int 0), (6, .int 0), (5, .ref q_5), (0, .ref a0), (1, .int i1), (2, .int i2), (3, .int i3), (4, .int i4)]) C dX9_move_69 (by decide) rfl ?_
          exact q_sub [3, 4, 2, 1, 0] rfl h
        · have h := h.2 z
          exact q_sub [0] rfl h
  · have h := h.2 z
    refine q_aload_n C dX9_move_13 rfl (j := 0) rfl ?_
    refine q_iconst (v := 1) C dX9_move_14 (by decide) ?_
    have hcz := h.1
    have h := h.2
    refine q_ci (q_runV (As := [.int 1]) (st := []) C (c_X9_refuse l D cA lo h.2) (cwV 1 C.2.2.2.2.1 gX9_move_X9_refuse rfl rfl rfl (by decide +kernel) ⟨Nat.le_of_ble_eq_true rfl, Nat.le_of_ble_eq_true rfl⟩) h.1 (by decide) rfl rfl rfl (Nat.le_of_ble_eq_true rfl) dX9_move_15 ⟨Nat.le_trans (Nat.le_of_eq (Nat.add_zero _)) hcz.1, Nat.le_trans (Nat.le_of_eq (Nat.add_zero _)) hcz.2⟩) (fun r_9 M_10 h => ?_)
    exact q_iret C hr hlk dX9_move_18 h.1 h.2.1 h.2.2
def S_X9_face_44 (K44 : Nat → Mm → Nat → Nat → Prop) (K50 : Nat → Int32 → Int32 → Int32 → Int32 → Mm → Nat → Nat → Prop) (Cc Zz : Nat) (Q : Int32 → Mm → Prop) (M : Mm) (a0 : Nat) (cc zz : Nat) : Prop := (cc ≤ Cc ∧ zz ≤ Zz) ∧ kM M a0 = (9, 13) ∧ T_X9_refuse M a0 1 (fun r_5 M_6 => cc ≤ Cc ∧ zz ≤ Zz ∧ Q r_5 M_6)
def S_X9_face_50 (K44 : Nat → Mm → Nat → Nat → Prop) (K50 : Nat → Int32 → Int32 → Int32 → Int32 → Mm → Nat → Nat → Prop) (Cc Zz : Nat) (Q : Int32 → Mm → Prop) (M : Mm) (a0 : Nat) (i1 : Int32) (i2 : Int32) (i3 : Int32) (i4 : Int32) (cc zz : Nat) : Prop := kM M a0 = (9, 13) ∧ (¬ (iM M a0 5) = 160 → False) ∧ ((iM M a0 5) = 160 → (cc ≤ Cc ∧ zz ≤ Zz) ∧ kM M a0 = (9, 13) ∧ T_X9_refuse M a0 2 (fun r_7 M_8 => cc ≤ Cc ∧ zz ≤ Zz ∧ Q r_7 M_8))
def T_X9_face (Cc Zz : Nat) (M : Mm) (a0 : Nat) (i1 : Int32) (i2 : Int32) (i3 : Int32) (i4 : Int32) (Q : Int32 → Mm → Prop) : Prop := ∀ (K44 : Nat → Mm → Nat → Nat → Prop) (K50 : Nat → Int32 → Int32 → Int32 → Int32 → Mm → Nat → Nat → Prop), (∀ (a0 : Nat) (M : Mm) (cc zz : Nat), S_X9_face_44 K44 K50 Cc Zz Q M a0 cc zz → K44 a0 M cc zz) → (∀ (a0 : Nat) (i1 : Int32) (i2 : Int32) (i3 : Int32) (i4 : Int32) (M : Mm) (cc zz : Nat), S_X9_face_50 K44 K50 Cc Zz Q M a0 i1 i2 i3 i4 cc zz → K50 a0 i1 i2 i3 i4 M cc zz) → kM M a0 = (9, 13) ∧ (0 ≤ Cc ∧ 0 ≤ Zz) ∧ kM (wI M a0 0 0) a0 = (9, 13) ∧ T_X9_isPoint (wI M a0 0 0) a0 i1 (fun r_1 => (r_1 = 0 → K44 a0 (wI M a0 0 0) 0 0) ∧ (¬ r_1 = 0 → (0 ≤ Cc ∧ 0 ≤ Zz) ∧ kM (wI M a0 0 0) a0 = (9, 13) ∧ T_X9_isPoint (wI M a0 0 0) a0 i2 (fun r_2 => (r_2 = 0 → K44 a0 (wI M a0 0 0) 0 0) ∧ (¬ r_2 = 0 → (0 ≤ Cc ∧ 0 ≤ Zz) ∧ kM (wI M a0 0 0) a0 = (9, 13) ∧ T_X9_isPoint (wI M a0 0 0) a0 i3 (fun r_3 => (r_3 = 0 → K44 a0 (wI M a0 0 0) 0 0) ∧ (¬ r_3 = 0 → (i4 = (-1) → K50 a0 i1 i2 i3 i4 (wI M a0 0 0) 0 0) ∧ (¬ i4 = (-1) → (0 ≤ Cc ∧ 0 ≤ Zz) ∧ kM (wI M a0 0 0) a0 = (9, 13) ∧ T_X9_isPoint (wI M a0 0 0) a0 i4 (fun r_4 => (¬ r_4 = 0 → K50 a0 i1 i2 i3 i4 (wI M a0 0 0) 0 0) ∧ (r_4 = 0 → K44 a0 (wI M a0 0 0) 0 0)))))))))
theorem inX9_face_X9 : ∀ w ∈ wsX90, w ∈ wsX9_face := by decide +kernel
set_option maxRecDepth 100000 in
set_option maxHeartbeats 4000000 in
theorem b_X9_face_44 {p : Program} {l : Launch} {e : Env} {s : State} {m : MethodId} {args : Array Value} {below : List Frame} {meth : Method} {c : Code} {D : va_G} {cA : Nat → ClassId} {lo : Nat} (C : Cx p s m args c cX9_face 8 RX9 wsX9_face D cA lo) (hr : meth.sig.returnType = (some .int)) (hlk : meth.locks = false) {Q : Int32 → Mm → Prop} {Cc Zz : Nat} (M : Mm) (a0 : Nat) (cc zz : Nat) (h : S_X9_face_44 (fun (a0 : Nat) (M : Mm) (cc zz : Nat) => QW p l e ({ frames := 2, cells := Cc, slots := Zz, locals := 43 } : Room) s m args below meth c (MQ below (QiM D cA lo Q) args s Cc Zz (fun q => lo ≤ q)) 8 D cA lo cc zz M 44 [(0, .ref a0)] []) (fun (a0 : Nat) (i1 : Int32) (i2 : Int32) (i3 : Int32) (i4 : Int32) (M : Mm) (cc zz : Nat) => QW p l e ({ frames := 2, cells := Cc, slots := Zz, locals := 43 } : Room) s m args below meth c (MQ below (QiM D cA lo Q) args s Cc Zz (fun q => lo ≤ q)) 8 D cA lo cc zz M 50 [(0, .ref a0), (1, .int i1), (2, .int i2), (3, .int i3), (4, .int i4)] []) Cc Zz Q M a0 cc zz) : QW p l e ({ frames := 2, cells := Cc, slots := Zz, locals := 43 } : Room) s m args below meth c (MQ below (QiM D cA lo Q) args s Cc Zz (fun q => lo ≤ q)) 8 D cA lo cc zz M 44 [(0, .ref a0)] [] := by
  unfold S_X9_face_44 at h
  refine q_aload_n C dX9_face_44 rfl (j := 0) rfl ?_
  refine q_iconst (v := 1) C dX9_face_45 (by decide) ?_
  have hcz := h.1
  have h := h.2
  refine q_ci (q_runV (As := [.int 1]) (st := []) C (c_X9_refuse l D cA lo h.2) (cwV 1 C.2.2.2.2.1 gX9_face_X9_refuse rfl rfl rfl (by decide +kernel) ⟨Nat.le_of_ble_eq_true rfl, Nat.le_of_ble_eq_true rfl⟩) h.1 (by decide) rfl rfl rfl (Nat.le_of_ble_eq_true rfl) dX9_face_46 ⟨Nat.le_trans (Nat.le_of_eq (Nat.add_zero _)) hcz.1, Nat.le_trans (Nat.le_of_eq (Nat.add_zero _)) hcz.2⟩) (fun r_5 M_6 h => ?_)
  exact q_iret C hr hlk dX9_face_49 h.1 h.2.1 h.2.2
set_option maxRecDepth 100000 in
set_option maxHeartbeats 4000000 in
theorem b_X9_face_50 {p : Program} {l : Launch} {e : Env} {s : State} {m : MethodId} {args : Array Value} {below : List Frame} {meth : Method} {c : Code} {D : va_G} {cA : Nat → ClassId} {lo : Nat} (C : Cx p s m args c cX9_face 8 RX9 wsX9_face D cA lo) (hr : meth.sig.returnType = (some .int)) (hlk : meth.locks = false) {Q : Int32 → Mm → Prop} {Cc Zz : Nat} (M : Mm) (a0 : Nat) (i1 : Int32) (i2 : Int32) (i3 : Int32) (i4 : Int32) (cc zz : Nat) (h : S_X9_face_50 (fun (a0 : Nat) (M : Mm) (cc zz : Nat) => QW p l e ({ frames := 2, cells := Cc, slots := Zz, locals := 43 } : Room) s m args below meth c (MQ below (QiM D cA lo Q) args s Cc Zz (fun q => lo ≤ q)) 8 D cA lo cc zz M 44 [(0, .ref a0)] []) (fun (a0 : Nat) (i1 : Int32) (i2 : Int32) (i3 : Int32) (i4 : Int32) (M : Mm) (cc zz : Nat) => QW p l e ({ frames := 2, cells := Cc, slots := Zz, locals := 43 } : Room) s m args below meth c (MQ below (QiM D cA lo Q) args s Cc Zz (fun q => lo ≤ q)) 8 D cA lo cc zz M 50 [(0, .ref a0), (1, .int i1), (2, .int i2), (3, .int i3), (4, .int i4)] []) Cc Zz Q M a0 i1 i2 i3 i4 cc zz) : QW p l e ({ frames := 2, cells := Cc, slots := Zz, locals := 43 } : Room) s m args below meth c (MQ below (QiM D cA lo Q) args s Cc Zz (fun q => lo ≤ q)) 8 D cA lo cc zz M 50 [(0, .ref a0), (1, .int i1), (2, .int i2), (3, .int i3), (4, .int i4)] [] := by
  unfold S_X9_face_50 at h
  refine q_aload_n C dX9_face_50 rfl (j := 0) rfl ?_
  refine q_getI (ci := 9) (k0 := 5) (T := TX9) C inX9_face_X9 rfl (by decide) h.1 (by decide) rfl (by decide +kernel) rfl dX9_face_51 ?_
  have h := h.2
  refine q_sipush (v := 160) C dX9_face_54 (by decide) ?_
  refine q_icmp_ne (tgt := 66) C dX9_face_57 (by decide) (fun z => ?_) (fun z => ?_)
  · have h := h.1 z
    refine q_aload_n C dX9_face_66 rfl (j := 0) rfl ?_
    exact h.elim
  · have h := h.2 z
    refine q_aload_n C dX9_face_60 rfl (j := 0) rfl ?_
    refine q_iconst (v := 2) C dX9_face_61 (by decide) ?_
    have hcz := h.1
    have h := h.2
    refine q_ci (q_runV (As := [.int 2]) (st := []) C (c_X9_refuse l D cA lo h.2) (cwV 1 C.2.2.2.2.1 gX9_face_X9_refuse rfl rfl rfl (by decide +kernel) ⟨Nat.le_of_ble_eq_true rfl, Nat.le_of_ble_eq_true rfl⟩) h.1 (by decide) rfl rfl rfl (Nat.le_of_ble_eq_true rfl) dX9_face_62 ⟨Nat.le_trans (Nat.le_of_eq (Nat.add_zero _)) hcz.1, Nat.le_trans (Nat.le_of_eq (Nat.add_zero _)) hcz.2⟩) (fun r_7 M_8 h => ?_)
    exact q_iret C hr hlk dX9_face_65 h.1 h.2.1 h.2.2
set_option maxRecDepth 100000 in
set_option maxHeartbeats 4000000 in
theorem c_X9_face (l : Launch) (D : va_G) (cA : Nat → ClassId) (lo : Nat) {M : Mm} {a0 : Nat} {i1 : Int32} {i2 : Int32} {i3 : Int32} {i4 : Int32} {Cc Zz : Nat} {Q : Int32 → Mm → Prop} (h : T_X9_face Cc Zz M a0 i1 i2 i3 i4 Q) : Met l yX9_face wsX9_face ({ frames := 2, cells := Cc, slots := Zz, locals := 43 } : Room) (PcM D cA lo [.ref a0, .int i1, .int i2, .int i3, .int i4] M) (QiM D cA lo Q) Cc Zz (fun q => lo ≤ q) := by
  refine q_start (cc := cX9_face) (nL := 8) (ret := (some .int)) (by decide) rfl rfl (Nat.le_of_ble_eq_true rfl) ?_
  intro p e s m args below meth c C hr hlk hin
  unfold T_X9_face at h
  have h := h (fun (a0 : Nat) (M : Mm) (cc zz : Nat) => QW p l e ({ frames := 2, cells := Cc, slots := Zz, locals := 43 } : Room) s m args below meth c (MQ below (QiM D cA lo Q) args s Cc Zz (fun q => lo ≤ q)) 8 D cA lo cc zz M 44 [(0, .ref a0)] []) (fun (a0 : Nat) (i1 : Int32) (i2 : Int32) (i3 : Int32) (i4 : Int32) (M : Mm) (cc zz : Nat) => QW p l e ({ frames := 2, cells := Cc, slots := Zz, locals := 43 } : Room) s m args below meth c (MQ below (QiM D cA lo Q) args s Cc Zz (fun q => lo ≤ q)) 8 D cA lo cc zz M 50 [(0, .ref a0), (1, .int i1), (2, .int i2), (3, .int i3), (4, .int i4)] []) (fun a0 M cc zz h => b_X9_face_44 C hr hlk M a0 cc zz h) (fun a0 i1 i2 i3 i4 M cc zz h => b_X9_face_50 C hr hlk M a0 i1 i2 i3 i4 cc zz h)
  refine q_aload_n C dX9_face_0 rfl (j := 0) rfl ?_
  refine q_iconst (v := 0) C dX9_face_1 (by decide) ?_
  refine q_putI (ci := 9) (k0 := 0) (T := TX9) (v := 0) (ty := .int) C inX9_face_X9 tyX9 tyX9_ok nmX9 rfl (by decide) h.1 (by decide) rfl (by decide +kernel) rfl (by decide +kernel) rfl rfl rfl dX9_face_2 ?_
  have h := h.2
  refine q_aload_n C dX9_face_5 rfl (j := 0) rfl ?_
  refine q_iload_n C dX9_face_6 rfl (j := 1) rfl ?_
  have hcz := h.1
  have h := h.2
  refine q_ci (q_runV (As := [.int i1]) (st := []) C (c_X9_isPoint l D cA lo h.2) (cwV 1 C.2.2.2.2.1 gX9_face_X9_isPoint rfl rfl rfl (by decide +kernel) ⟨Nat.le_of_ble_eq_true rfl, Nat.le_of_ble_eq_true rfl⟩) h.1 (by decide) rfl rfl rfl (Nat.le_of_ble_eq_true rfl) dX9_face_7 ⟨Nat.le_trans (Nat.le_of_eq (Nat.add_zero _)) hcz.1, Nat.le_trans (Nat.le_of_eq (Nat.add_zero _)) hcz.2⟩) (fun r_1 M_z h => ?_)
  refine q_mem h.1 ?_
  have h := h.2
  refine q_if_eq (tgt := 44) C dX9_face_10 (by decide) (fun z => ?_) (fun z => ?_)
  · have h := h.1 z
    exact q_sub [0] rfl h
  · have h := h.2 z
    refine q_aload_n C dX9_face_13 rfl (j := 0) rfl ?_
    refine q_iload_n C dX9_face_14 rfl (j := 2) rfl ?_
    have hcz := h.1
    have h := h.2
    refine q_ci (q_runV (As := [.int i2]) (st := []) C (c_X9_isPoint l D cA lo h.2) (cwV 1 C.2.2.2.2.1 gX9_face_X9_isPoint rfl rfl rfl (by decide +kernel) ⟨Nat.le_of_ble_eq_true rfl, Nat.le_of_ble_eq_true rfl⟩) h.1 (by decide) rfl rfl rfl (Nat.le_of_ble_eq_true rfl) dX9_face_15 ⟨Nat.le_trans (Nat.le_of_eq (Nat.add_zero _)) hcz.1, Nat.le_trans (Nat.le_of_eq (Nat.add_zero _)) hcz.2⟩) (fun r_2 M_z h => ?_)
    refine q_mem h.1 ?_
    have h := h.2
    refine q_if_eq (tgt := 44) C dX9_face_18 (by decide) (fun z => ?_) (fun z => ?_)
    · have h := h.1 z
      exact q_sub [0] rfl h
    · have h := h.2 z
      refine q_aload_n C dX9_face_21 rfl (j := 0) rfl ?_
      refine q_iload_n C dX9_face_22 rfl (j := 3) rfl ?_
      have hcz := h.1
      have h := h.2
      refine q_ci (q_runV (As := [.int i3]) (st := []) C (c_X9_isPoint l D cA lo h.2) (cwV 1 C.2.2.2.2.1 gX9_face_X9_isPoint rfl rfl rfl (by decide +kernel) ⟨Nat.le_of_ble_eq_true rfl, Nat.le_of_ble_eq_true rfl⟩) h.1 (by decide) rfl rfl rfl (Nat.le_of_ble_eq_true rfl) dX9_face_23 ⟨Nat.le_trans (Nat.le_of_eq (Nat.add_zero _)) hcz.1, Nat.le_trans (Nat.le_of_eq (Nat.add_zero _)) hcz.2⟩) (fun r_3 M_z h => ?_)
      refine q_mem h.1 ?_
      have h := h.2
      refine q_if_eq (tgt := 44) C dX9_face_26 (by decide) (fun z => ?_) (fun z => ?_)
      · have h := h.1 z
        exact q_sub [0] rfl h
      · have h := h.2 z
        refine q_iload C dX9_face_29 (j := 4) rfl ?_
        refine q_iconst (v := (-1)) C dX9_face_31 (by decide) ?_
        refine q_icmp_eq (tgt := 50) C dX9_face_32 (by decide) (fun z => ?_) (fun z => ?_)
        · have h := h.1 z
          exact q_sub [0, 1, 2, 3, 4] rfl h
        · have h := h.2 z
          refine q_aload_n C dX9_face_35 rfl (j := 0) rfl ?_
          refine q_iload C dX9_face_36 (j := 4) rfl ?_
          have hcz := h.1
          have h := h.2
          refine q_ci (q_runV (As := [.int i4]) (st := []) C (c_X9_isPoint l D cA lo h.2) (cwV 1 C.2.2.2.2.1 gX9_face_X9_isPoint rfl rfl rfl (by decide +kernel) ⟨Nat.le_of_ble_eq_true rfl, Nat.le_of_ble_eq_true rfl⟩) h.1 (by decide) rfl rfl rfl (Nat.le_of_ble_eq_true rfl) dX9_face_38 ⟨Nat.le_trans (Nat.le_of_eq (Nat.add_zero _)) hcz.1, Nat.le_trans (Nat.le_of_eq (Nat.add_zero _)) hcz.2⟩) (fun r_4 M_z h => ?_)
          refine q_mem h.1 ?_
          have h := h.2
          refine q_if_ne (tgt := 50) C dX9_face_41 (by decide) (fun z => ?_) (fun z => ?_)
          · have h := h.1 z
            exact q_sub [0, 1, 2, 3, 4] rfl h
          · have h := h.2 z
            exact q_sub [0] rfl h
def T_X9_dropFace (M : Mm) (a0 : Nat) (i1 : Int32) (Q : Int32 → Mm → Prop) : Prop := kM M a0 = (9, 13) ∧ kM (wI M a0 0 0) a0 = (9, 13) ∧ T_X9_isFace (wI M a0 0 0) a0 i1 (fun r_1 => (¬ r_1 = 0 → kM (wI M a0 0 0) a0 = (9, 13) ∧ ∃ a_2 : Nat, rM (wI M a0 0 0) a0 4 = some a_2 ∧ False) ∧ (r_1 = 0 → kM (wI M a0 0 0) a0 = (9, 13) ∧ T_X9_refuse (wI M a0 0 0) a0 1 (fun r_5 M_6 => Q r_5 M_6)))
theorem inX9_dropFace_X9 : ∀ w ∈ wsX90, w ∈ wsX9_dropFace := by decide +kernel
set_option maxRecDepth 100000 in
set_option maxHeartbeats 4000000 in
theorem c_X9_dropFace (l : Launch) (D : va_G) (cA : Nat → ClassId) (lo : Nat) {M : Mm} {a0 : Nat} {i1 : Int32} {Q : Int32 → Mm → Prop} (h : T_X9_dropFace M a0 i1 Q) : Met l yX9_dropFace wsX9_dropFace ({ frames := 3, cells := 0, slots := 0, locals := 71 } : Room) (PcM D cA lo [.ref a0, .int i1] M) (QiM D cA lo Q) 0 0 (fun q => lo ≤ q) := by
  refine q_start (cc := cX9_dropFace) (nL := 2) (ret := (some .int)) (by decide) rfl rfl (Nat.le_of_ble_eq_true rfl) ?_
  intro p e s m args below meth c C hr hlk hin
  unfold T_X9_dropFace at h
  refine q_aload_n C dX9_dropFace_0 rfl (j := 0) rfl ?_
  refine q_iconst (v := 0) C dX9_dropFace_1 (by decide) ?_
  refine q_putI (ci := 9) (k0 := 0) (T := TX9) (v := 0) (ty := .int) C inX9_dropFace_X9 tyX9 tyX9_ok nmX9 rfl (by decide) h.1 (by decide) rfl (by decide +kernel) rfl (by decide +kernel) rfl rfl rfl dX9_dropFace_2 ?_
  have h := h.2
  refine q_aload_n C dX9_dropFace_5 rfl (j := 0) rfl ?_
  refine q_iload_n C dX9_dropFace_6 rfl (j := 1) rfl ?_
  refine q_ci (q_runV (As := [.int i1]) (st := []) C (c_X9_isFace l D cA lo h.2) (cwV 1 C.2.2.2.2.1 gX9_dropFace_X9_isFace rfl rfl rfl (by decide +kernel) ⟨Nat.le_of_ble_eq_true rfl, Nat.le_of_ble_eq_true rfl⟩) h.1 (by decide) rfl rfl rfl (Nat.le_of_ble_eq_true rfl) dX9_dropFace_7 ⟨Nat.le_of_ble_eq_true rfl, Nat.le_of_ble_eq_true rfl⟩) (fun r_1 M_z h => ?_)
  refine q_mem h.1 ?_
  have h := h.2
  refine q_if_ne (tgt := 19) C dX9_dropFace_10 (by decide) (fun z => ?_) (fun z => ?_)
  · have h := h.1 z
    refine q_aload_n C dX9_dropFace_19 rfl (j := 0) rfl ?_
    refine q_getR (ci := 9) (k0 := 4) (T := TX9) C inX9_dropFace_X9 rfl (by decide) h.1 (by decide) rfl (by decide +kernel) rfl dX9_dropFace_20 ?_
    obtain ⟨a_2, z, h⟩ := h.2
    refine q_ref z ?_
    refine q_iload_n C dX9_dropFace_23 rfl (j := 1) rfl ?_
    refine q_nullo C dX9_dropFace_24 ?_
    exact h.elim
  · have h := h.2 z
    refine q_aload_n C dX9_dropFace_13 rfl (j := 0) rfl ?_
    refine q_iconst (v := 1) C dX9_dropFace_14 (by decide) ?_
    refine q_ci (q_runV (As := [.int 1]) (st := []) C (c_X9_refuse l D cA lo h.2) (cwV 1 C.2.2.2.2.1 gX9_dropFace_X9_refuse rfl rfl rfl (by decide +kernel) ⟨Nat.le_of_ble_eq_true rfl, Nat.le_of_ble_eq_true rfl⟩) h.1 (by decide) rfl rfl rfl (Nat.le_of_ble_eq_true rfl) dX9_dropFace_15 ⟨Nat.le_of_ble_eq_true rfl, Nat.le_of_ble_eq_true rfl⟩) (fun r_5 M_6 h => ?_)
    exact q_iret C hr hlk dX9_dropFace_18 (Nat.le_of_ble_eq_true rfl) (Nat.le_of_ble_eq_true rfl) h
def S_X9_dropPoint_21 (K21 : Nat → Int32 → Int32 → Mm → Prop) (Q : Int32 → Mm → Prop) (M : Mm) (a0 : Nat) (i1 : Int32) (i2 : Int32) : Prop := kM M a0 = (9, 13) ∧ ((iM M a0 5) ≤ i2 → kM M a0 = (9, 13) ∧ ∃ a_4 : Nat, rM M a0 2 = some a_4 ∧ ∃ n_5 : Nat, kM M a_4 = (101, n_5) ∧ vp_in i1 n_5 ∧ kM (wI M a_4 i1.toNatClampNeg (vp_nar .boolean 0)) a0 = (9, 13) ∧ T_X9_pointsNow (wI M a_4 i1.toNatClampNeg (vp_nar .boolean 0)) a0 (fun r_6 => Q r_6 (wI M a_4 i1.toNatClampNeg (vp_nar .boolean 0)))) ∧ (¬ (iM M a0 5) ≤ i2 → kM M a0 = (9, 13) ∧ ∃ a_7 : Nat, rM M a0 4 = some a_7 ∧ ∃ n_8 : Nat, kM M a_7 = (121, n_8) ∧ vp_in i2 n_8 ∧ ((rM M a_7 i2.toNatClampNeg) = none → K21 a0 i1 (i2 + 1) M) ∧ (∀ a_9 : Nat, (rM M a_7 i2.toNatClampNeg) = some a_9 → False))
def T_X9_dropPoint (M : Mm) (a0 : Nat) (i1 : Int32) (Q : Int32 → Mm → Prop) : Prop := ∀ (K21 : Nat → Int32 → Int32 → Mm → Prop), (∀ (a0 : Nat) (i1 : Int32) (i2 : Int32) (M : Mm), S_X9_dropPoint_21 K21 Q M a0 i1 i2 → K21 a0 i1 i2 M) → kM M a0 = (9, 13) ∧ kM (wI M a0 0 0) a0 = (9, 13) ∧ T_X9_isPoint (wI M a0 0 0) a0 i1 (fun r_1 => (¬ r_1 = 0 → K21 a0 i1 0 (wI M a0 0 0)) ∧ (r_1 = 0 → kM (wI M a0 0 0) a0 = (9, 13) ∧ T_X9_refuse (wI M a0 0 0) a0 1 (fun r_2 M_3 => Q r_2 M_3)))
theorem inX9_dropPoint_X9 : ∀ w ∈ wsX90, w ∈ wsX9_dropPoint := by decide +kernel
set_option maxRecDepth 100000 in
set_option maxHeartbeats 4000000 in
theorem b_X9_dropPoint_21 {p : Program} {l : Launch} {e : Env} {s : State} {m : MethodId} {args : Array Value} {below : List Frame} {meth : Method} {c : Code} {D : va_G} {cA : Nat → ClassId} {lo : Nat} (C : Cx p s m args c cX9_dropPoint 3 RX9 wsX9_dropPoint D cA lo) (hr : meth.sig.returnType = (some .int)) (hlk : meth.locks = false) {Q : Int32 → Mm → Prop} (M : Mm) (a0 : Nat) (i1 : Int32) (i2 : Int32) (h : S_X9_dropPoint_21 (fun (a0 : Nat) (i1 : Int32) (i2 : Int32) (M : Mm) => QW p l e ({ frames := 2, cells := 0, slots := 0, locals := 43 } : Room) s m args below meth c (MQ below (QiM D cA lo Q) args s 0 0 (fun q => lo ≤ q)) 3 D cA lo 0 0 M 21 [(0, .ref a0), (1, .int i1), (2, .int i2)] []) Q M a0 i1 i2) : QW p l e ({ frames := 2, cells := 0, slots := 0, locals := 43 } : Room) s m args below meth c (MQ below (QiM D cA lo Q) args s 0 0 (fun q => lo ≤ q)) 3 D cA lo 0 0 M 21 [(0, .ref a0), (1, .int i1), (2, .int i2)] [] := by
  unfold S_X9_dropPoint_21 at h
  refine q_iload_n C dX9_dropPoint_21 rfl (j := 2) rfl ?_
  refine q_aload_n C dX9_dropPoint_22 rfl (j := 0) rfl ?_
  refine q_getI (ci := 9) (k0 := 5) (T := TX9) C inX9_dropPoint_X9 rfl (by decide) h.1 (by decide) rfl (by decide +kernel) rfl dX9_dropPoint_23 ?_
  have h := h.2
  refine q_icmp_ge (tgt := 59) C dX9_dropPoint_26 (by decide) (fun z => ?_) (fun z => ?_)
  · have h := h.1 z
    refine q_aload_n C dX9_dropPoint_59 rfl (j := 0) rfl ?_
    refine q_getR (ci := 9) (k0 := 2) (T := TX9) C inX9_dropPoint_X9 rfl (by decide) h.1 (by decide) rfl (by decide +kernel) rfl dX9_dropPoint_60 ?_
    obtain ⟨a_4, z, h⟩ := h.2
    refine q_ref z ?_
    refine q_iload_n C dX9_dropPoint_63 rfl (j := 1) rfl ?_
    refine q_iconst (v := 0) C dX9_dropPoint_64 (by decide) ?_
    obtain ⟨n_5, z1, z2, h⟩ := h
    refine q_zast C z1 z2 dX9_dropPoint_65 ?_
    refine q_aload_n C dX9_dropPoint_66 rfl (j := 0) rfl ?_
    refine q_ci (q_runV (As := []) (st := []) C (c_X9_pointsNow l D cA lo h.2) (cwV 0 C.2.2.2.2.1 gX9_dropPoint_X9_pointsNow rfl rfl rfl (by decide +kernel) ⟨Nat.le_of_ble_eq_true rfl, Nat.le_of_ble_eq_true rfl⟩) h.1 (by decide) rfl rfl rfl (Nat.le_of_ble_eq_true rfl) dX9_dropPoint_67 ⟨Nat.le_of_ble_eq_true rfl, Nat.le_of_ble_eq_true rfl⟩) (fun r_6 M_z h => ?_)
    refine q_mem h.1 ?_
    have h := h.2
    exact q_iret C hr hlk dX9_dropPoint_70 (Nat.le_of_ble_eq_true rfl) (Nat.le_of_ble_eq_true rfl) h
  · have h := h.2 z
    refine q_aload_n C dX9_dropPoint_29 rfl (j := 0) rfl ?_
    refine q_getR (ci := 9) (k0 := 4) (T := TX9) C inX9_dropPoint_X9 rfl (by decide) h.1 (by decide) rfl (by decide +kernel) rfl dX9_dropPoint_30 ?_
    obtain ⟨a_7, z, h⟩ := h.2
    refine q_ref z ?_
    refine q_iload_n C dX9_dropPoint_33 rfl (j := 2) rfl ?_
    obtain ⟨n_8, z1, z2, h⟩ := h
    refine q_gald C z1 z2 dX9_dropPoint_34 ?_
    refine q_ifnull (tgt := 53) C dX9_dropPoint_35 (by decide) (fun z => ?_) (fun a_9 z => ?_)
    · have h := h.1 z
      refine q_iinc (v := (i2 + 1)) (lv' := [(2, .int (i2 + 1)), (0, .ref a0), (1, .int i1)]) C dX9_dropPoint_53 (j := 2) rfl rfl (by decide) rfl ?_
      refine q_goto (tgt := 21) C dX9_dropPoint_56 (by decide) ?_
      exact q_sub [1, 2, 0] rfl h
    · have h := h.2 _ z
      refine q_aload_n C dX9_dropPoint_38 rfl (j := 0) rfl ?_
      refine q_iload_n C dX9_dropPoint_39 rfl (j := 2) rfl ?_
      refine q_iload_n C dX9_dropPoint_40 rfl (j := 1) rfl ?_
      exact h.elim
set_option maxRecDepth 100000 in
set_option maxHeartbeats 4000000 in
theorem c_X9_dropPoint (l : Launch) (D : va_G) (cA : Nat → ClassId) (lo : Nat) {M : Mm} {a0 : Nat} {i1 : Int32} {Q : Int32 → Mm → Prop} (h : T_X9_dropPoint M a0 i1 Q) : Met l yX9_dropPoint wsX9_dropPoint ({ frames := 2, cells := 0, slots := 0, locals := 43 } : Room) (PcM D cA lo [.ref a0, .int i1] M) (QiM D cA lo Q) 0 0 (fun q => lo ≤ q) := by
  refine q_start (cc := cX9_dropPoint) (nL := 3) (ret := (some .int)) (by decide) rfl rfl (Nat.le_of_ble_eq_true rfl) ?_
  intro p e s m args below meth c C hr hlk hin
  unfold T_X9_dropPoint at h
  have h := h (fun (a0 : Nat) (i1 : Int32) (i2 : Int32) (M : Mm) => QW p l e ({ frames := 2, cells := 0, slots := 0, locals := 43 } : Room) s m args below meth c (MQ below (QiM D cA lo Q) args s 0 0 (fun q => lo ≤ q)) 3 D cA lo 0 0 M 21 [(0, .ref a0), (1, .int i1), (2, .int i2)] []) (fun a0 i1 i2 M h => b_X9_dropPoint_21 C hr hlk M a0 i1 i2 h)
  refine q_aload_n C dX9_dropPoint_0 rfl (j := 0) rfl ?_
  refine q_iconst (v := 0) C dX9_dropPoint_1 (by decide) ?_
  refine q_putI (ci := 9) (k0 := 0) (T := TX9) (v := 0) (ty := .int) C inX9_dropPoint_X9 tyX9 tyX9_ok nmX9 rfl (by decide) h.1 (by decide) rfl (by decide +kernel) rfl (by decide +kernel) rfl rfl rfl dX9_dropPoint_2 ?_
  have h := h.2
  refine q_aload_n C dX9_dropPoint_5 rfl (j := 0) rfl ?_
  refine q_iload_n C dX9_dropPoint_6 rfl (j := 1) rfl ?_
  refine q_ci (q_runV (As := [.int i1]) (st := []) C (c_X9_isPoint l D cA lo h.2) (cwV 1 C.2.2.2.2.1 gX9_dropPoint_X9_isPoint rfl rfl rfl (by decide +kernel) ⟨Nat.le_of_ble_eq_true rfl, Nat.le_of_ble_eq_true rfl⟩) h.1 (by decide) rfl rfl rfl (Nat.le_of_ble_eq_true rfl) dX9_dropPoint_7 ⟨Nat.le_of_ble_eq_true rfl, Nat.le_of_ble_eq_true rfl⟩) (fun r_1 M_z h => ?_)
  refine q_mem h.1 ?_
  have h := h.2
  refine q_if_ne (tgt := 19) C dX9_dropPoint_10 (by decide) (fun z => ?_) (fun z => ?_)
  · have h := h.1 z
    refine q_iconst (v := 0) C dX9_dropPoint_19 (by decide) ?_
    refine q_istore_n (lv' := [(2, .int 0), (0, .ref a0), (1, .int i1)]) C dX9_dropPoint_20 rfl (by decide) rfl ?_
    exact q_sub [1, 2, 0] rfl h
  · have h := h.2 z
    refine q_aload_n C dX9_dropPoint_13 rfl (j := 0) rfl ?_
    refine q_iconst (v := 1) C dX9_dropPoint_14 (by decide) ?_
    refine q_ci (q_runV (As := [.int 1]) (st := []) C (c_X9_refuse l D cA lo h.2) (cwV 1 C.2.2.2.2.1 gX9_dropPoint_X9_refuse rfl rfl rfl (by decide +kernel) ⟨Nat.le_of_ble_eq_true rfl, Nat.le_of_ble_eq_true rfl⟩) h.1 (by decide) rfl rfl rfl (Nat.le_of_ble_eq_true rfl) dX9_dropPoint_15 ⟨Nat.le_of_ble_eq_true rfl, Nat.le_of_ble_eq_true rfl⟩) (fun r_2 M_3 h => ?_)
    exact q_iret C hr hlk dX9_dropPoint_18 (Nat.le_of_ble_eq_true rfl) (Nat.le_of_ble_eq_true rfl) h
def S_X9_box_68 (K68 : Nat → Mm → Nat → Nat → Prop) (K99 : Nat → Mm → Nat → Nat → Prop) (K114 : Nat → Int32 → Int32 → Int32 → Int32 → Int32 → Int32 → Mm → Nat → Nat → Prop) (K145 : Nat → Int32 → Int32 → Int32 → Int32 → Int32 → Int32 → Nat → Int32 → Int32 → Mm → Nat → Nat → Prop) (K161 : Nat → Int32 → Int32 → Int32 → Int32 → Int32 → Int32 → Nat → Int32 → Int32 → Int32 → Mm → Nat → Nat → Prop) (K175 : Nat → Int32 → Int32 → Int32 → Int32 → Int32 → Int32 → Nat → Int32 → Int32 → Int32 → Int32 → Mm → Nat → Nat → Prop) (Cc Zz : Nat) (Q : Int32 → Mm → Prop) (M : Mm) (a0 : Nat) (cc zz : Nat) : Prop := (cc ≤ Cc ∧ zz ≤ Zz) ∧ kM M a0 = (9, 13) ∧ T_X9_refuse M a0 1 (fun r_8 M_9 => cc ≤ Cc ∧ zz ≤ Zz ∧ Q r_8 M_9)
def S_X9_box_99 (K68 : Nat → Mm → Nat → Nat → Prop) (K99 : Nat → Mm → Nat → Nat → Prop) (K114 : Nat → Int32 → Int32 → Int32 → Int32 → Int32 → Int32 → Mm → Nat → Nat → Prop) (K145 : Nat → Int32 → Int32 → Int32 → Int32 → Int32 → Int32 → Nat → Int32 → Int32 → Mm → Nat → Nat → Prop) (K161 : Nat → Int32 → Int32 → Int32 → Int32 → Int32 → Int32 → Nat → Int32 → Int32 → Int32 → Mm → Nat → Nat → Prop) (K175 : Nat → Int32 → Int32 → Int32 → Int32 → Int32 → Int32 → Nat → Int32 → Int32 → Int32 → Int32 → Mm → Nat → Nat → Prop) (Cc Zz : Nat) (Q : Int32 → Mm → Prop) (M : Mm) (a0 : Nat) (cc zz : Nat) : Prop := (cc ≤ Cc ∧ zz ≤ Zz) ∧ kM M a0 = (9, 13) ∧ T_X9_refuse M a0 2 (fun r_10 M_11 => cc ≤ Cc ∧ zz ≤ Zz ∧ Q r_10 M_11)
def S_X9_box_114 (K68 : Nat → Mm → Nat → Nat → Prop) (K99 : Nat → Mm → Nat → Nat → Prop) (K114 : Nat → Int32 → Int32 → Int32 → Int32 → Int32 → Int32 → Mm → Nat → Nat → Prop) (K145 : Nat → Int32 → Int32 → Int32 → Int32 → Int32 → Int32 → Nat → Int32 → Int32 → Mm → Nat → Nat → Prop) (K161 : Nat → Int32 → Int32 → Int32 → Int32 → Int32 → Int32 → Nat → Int32 → Int32 → Int32 → Mm → Nat → Nat → Prop) (K175 : Nat → Int32 → Int32 → Int32 → Int32 → Int32 → Int32 → Nat → Int32 → Int32 → Int32 → Int32 → Mm → Nat → Nat → Prop) (Cc Zz : Nat) (Q : Int32 → Mm → Prop) (M : Mm) (a0 : Nat) (i1 : Int32) (i2 : Int32) (i3 : Int32) (i4 : Int32) (i5 : Int32) (i6 : Int32) (cc zz : Nat) : Prop := (8 ≤ i6 → cc + 1 ≤ Cc ∧ zz + 4 ≤ Zz ∧ ∀ q_12 : Nat, frs M q_12 → ∃ n_13 : Nat, kM (wN M q_12 100 4) q_12 = (100, n_13) ∧ vp_in 0 n_13 ∧ ∃ n_14 : Nat, kM (wI (wN M q_12 100 4) q_12 (0 : Int32).toNatClampNeg i5) q_12 = (100, n_14) ∧ vp_in 1 n_14 ∧ ∃ n_15 : Nat, kM (wI (wI (wN M q_12 100 4) q_12 (0 : Int32).toNatClampNeg i5) q_12 (1 : Int32).toNatClampNeg (i5 + 3)) q_12 = (100, n_15) ∧ vp_in 2 n_15 ∧ ∃ n_16 : Nat, kM (wI (wI (wI (wN M q_12 100 4) q_12 (0 : Int32).toNatClampNeg i5) q_12 (1 : Int32).toNatClampNeg (i5 + 3)) q_12 (2 : Int32).toNatClampNeg (i5 + 2)) q_12 = (100, n_16) ∧ vp_in 3 n_16 ∧ ((cc + 1) ≤ Cc ∧ (zz + 4) ≤ Zz) ∧ kM (wI (wI (wI (wI (wN M q_12 100 4) q_12 (0 : Int32).toNatClampNeg i5) q_12 (1 : Int32).toNatClampNeg (i5 + 3)) q_12 (2 : Int32).toNatClampNeg (i5 + 2)) q_12 (3 : Int32).toNatClampNeg (i5 + 1)) a0 = (9, 13) ∧ T_X9_newFace (wI (wI (wI (wI (wN M q_12 100 4) q_12 (0 : Int32).toNatClampNeg i5) q_12 (1 : Int32).toNatClampNeg (i5 + 3)) q_12 (2 : Int32).toNatClampNeg (i5 + 2)) q_12 (3 : Int32).toNatClampNeg (i5 + 1)) a0 q_12 (fun r_17 M_18 => (cc + 1) + 1 ≤ Cc ∧ (zz + 4) + 4 ≤ Zz ∧ ∀ q_19 : Nat, frs M_18 q_19 → ∃ n_20 : Nat, kM (wN M_18 q_19 100 4) q_19 = (100, n_20) ∧ vp_in 0 n_20 ∧ ∃ n_21 : Nat, kM (wI (wN M_18 q_19 100 4) q_19 (0 : Int32).toNatClampNeg (i5 + 4)) q_19 = (100, n_21) ∧ vp_in 1 n_21 ∧ ∃ n_22 : Nat, kM (wI (wI (wN M_18 q_19 100 4) q_19 (0 : Int32).toNatClampNeg (i5 + 4)) q_19 (1 : Int32).toNatClampNeg (i5 + 5)) q_19 = (100, n_22) ∧ vp_in 2 n_22 ∧ ∃ n_23 : Nat, kM (wI (wI (wI (wN M_18 q_19 100 4) q_19 (0 : Int32).toNatClampNeg (i5 + 4)) q_19 (1 : Int32).toNatClampNeg (i5 + 5)) q_19 (2 : Int32).toNatClampNeg (i5 + 6)) q_19 = (100, n_23) ∧ vp_in 3 n_23 ∧ (((cc + 1) + 1) ≤ Cc ∧ ((zz + 4) + 4) ≤ Zz) ∧ kM (wI (wI (wI (wI (wN M_18 q_19 100 4) q_19 (0 : Int32).toNatClampNeg (i5 + 4)) q_19 (1 : Int32).toNatClampNeg (i5 + 5)) q_19 (2 : Int32).toNatClampNeg (i5 + 6)) q_19 (3 : Int32).toNatClampNeg (i5 + 7)) a0 = (9, 13) ∧ T_X9_newFace (wI (wI (wI (wI (wN M_18 q_19 100 4) q_19 (0 : Int32).toNatClampNeg (i5 + 4)) q_19 (1 : Int32).toNatClampNeg (i5 + 5)) q_19 (2 : Int32).toNatClampNeg (i5 + 6)) q_19 (3 : Int32).toNatClampNeg (i5 + 7)) a0 q_19 (fun r_24 M_25 => ((cc + 1) + 1) + 1 ≤ Cc ∧ ((zz + 4) + 4) + 4 ≤ Zz ∧ ∀ q_26 : Nat, frs M_25 q_26 → ∃ n_27 : Nat, kM (wN M_25 q_26 100 4) q_26 = (100, n_27) ∧ vp_in 0 n_27 ∧ ∃ n_28 : Nat, kM (wI (wN M_25 q_26 100 4) q_26 (0 : Int32).toNatClampNeg i5) q_26 = (100, n_28) ∧ vp_in 1 n_28 ∧ ∃ n_29 : Nat, kM (wI (wI (wN M_25 q_26 100 4) q_26 (0 : Int32).toNatClampNeg i5) q_26 (1 : Int32).toNatClampNeg (i5 + 1)) q_26 = (100, n_29) ∧ vp_in 2 n_29 ∧ ∃ n_30 : Nat, kM (wI (wI (wI (wN M_25 q_26 100 4) q_26 (0 : Int32).toNatClampNeg i5) q_26 (1 : Int32).toNatClampNeg (i5 + 1)) q_26 (2 : Int32).toNatClampNeg (i5 + 5)) q_26 = (100, n_30) ∧ vp_in 3 n_30 ∧ ((((cc + 1) + 1) + 1) ≤ Cc ∧ (((zz + 4) + 4) + 4) ≤ Zz) ∧ kM (wI (wI (wI (wI (wN M_25 q_26 100 4) q_26 (0 : Int32).toNatClampNeg i5) q_26 (1 : Int32).toNatClampNeg (i5 + 1)) q_26 (2 : Int32).toNatClampNeg (i5 + 5)) q_26 (3 : Int32).toNatClampNeg (i5 + 4)) a0 = (9, 13) ∧ T_X9_newFace (wI (wI (wI (wI (wN M_25 q_26 100 4) q_26 (0 : Int32).toNatClampNeg i5) q_26 (1 : Int32).toNatClampNeg (i5 + 1)) q_26 (2 : Int32).toNatClampNeg (i5 + 5)) q_26 (3 : Int32).toNatClampNeg (i5 + 4)) a0 q_26 (fun r_31 M_32 => (((cc + 1) + 1) + 1) + 1 ≤ Cc ∧ (((zz + 4) + 4) + 4) + 4 ≤ Zz ∧ ∀ q_33 : Nat, frs M_32 q_33 → ∃ n_34 : Nat, kM (wN M_32 q_33 100 4) q_33 = (100, n_34) ∧ vp_in 0 n_34 ∧ ∃ n_35 : Nat, kM (wI (wN M_32 q_33 100 4) q_33 (0 : Int32).toNatClampNeg (i5 + 1)) q_33 = (100, n_35) ∧ vp_in 1 n_35 ∧ ∃ n_36 : Nat, kM (wI (wI (wN M_32 q_33 100 4) q_33 (0 : Int32).toNatClampNeg (i5 + 1)) q_33 (1 : Int32).toNatClampNeg (i5 + 2)) q_33 = (100, n_36) ∧ vp_in 2 n_36 ∧ ∃ n_37 : Nat, kM (wI (wI (wI (wN M_32 q_33 100 4) q_33 (0 : Int32).toNatClampNeg (i5 + 1)) q_33 (1 : Int32).toNatClampNeg (i5 + 2)) q_33 (2 : Int32).toNatClampNeg (i5 + 6)) q_33 = (100, n_37) ∧ vp_in 3 n_37 ∧ (((((cc + 1) + 1) + 1) + 1) ≤ Cc ∧ ((((zz + 4) + 4) + 4) + 4) ≤ Zz) ∧ kM (wI (wI (wI (wI (wN M_32 q_33 100 4) q_33 (0 : Int32).toNatClampNeg (i5 + 1)) q_33 (1 : Int32).toNatClampNeg (i5 + 2)) q_33 (2 : Int32).toNatClampNeg (i5 + 6)) q_33 (3 : Int32).toNatClampNeg (i5 + 5)) a0 = (9, 13) ∧ T_X9_newFace (wI (wI (wI (wI (wN M_32 q_33 100 4) q_33 (0 : Int32).toNatClampNeg (i5 + 1)) q_33 (1 : Int32).toNatClampNeg (i5 + 2)) q_33 (2 : Int32).toNatClampNeg (i5 + 6)) q_33 (3 : Int32).toNatClampNeg (i5 + 5)) a0 q_33 (fun r_38 M_39 => ((((cc + 1) + 1) + 1) + 1) + 1 ≤ Cc ∧ ((((zz + 4) + 4) + 4) + 4) + 4 ≤ Zz ∧ ∀ q_40 : Nat, frs M_39 q_40 → ∃ n_41 : Nat, kM (wN M_39 q_40 100 4) q_40 = (100, n_41) ∧ vp_in 0 n_41 ∧ ∃ n_42 : Nat, kM (wI (wN M_39 q_40 100 4) q_40 (0 : Int32).toNatClampNeg (i5 + 2)) q_40 = (100, n_42) ∧ vp_in 1 n_42 ∧ ∃ n_43 : Nat, kM (wI (wI (wN M_39 q_40 100 4) q_40 (0 : Int32).toNatClampNeg (i5 + 2)) q_40 (1 : Int32).toNatClampNeg (i5 + 3)) q_40 = (100, n_43) ∧ vp_in 2 n_43 ∧ ∃ n_44 : Nat, kM (wI (wI (wI (wN M_39 q_40 100 4) q_40 (0 : Int32).toNatClampNeg (i5 + 2)) q_40 (1 : Int32).toNatClampNeg (i5 + 3)) q_40 (2 : Int32).toNatClampNeg (i5 + 7)) q_40 = (100, n_44) ∧ vp_in 3 n_44 ∧ ((((((cc + 1) + 1) + 1) + 1) + 1) ≤ Cc ∧ (((((zz + 4) + 4) + 4) + 4) + 4) ≤ Zz) ∧ kM (wI (wI (wI (wI (wN M_39 q_40 100 4) q_40 (0 : Int32).toNatClampNeg (i5 + 2)) q_40 (1 : Int32).toNatClampNeg (i5 + 3)) q_40 (2 : Int32).toNatClampNeg (i5 + 7)) q_40 (3 : Int32).toNatClampNeg (i5 + 6)) a0 = (9, 13) ∧ T_X9_newFace (wI (wI (wI (wI (wN M_39 q_40 100 4) q_40 (0 : Int32).toNatClampNeg (i5 + 2)) q_40 (1 : Int32).toNatClampNeg (i5 + 3)) q_40 (2 : Int32).toNatClampNeg (i5 + 7)) q_40 (3 : Int32).toNatClampNeg (i5 + 6)) a0 q_40 (fun r_45 M_46 => (((((cc + 1) + 1) + 1) + 1) + 1) + 1 ≤ Cc ∧ (((((zz + 4) + 4) + 4) + 4) + 4) + 4 ≤ Zz ∧ ∀ q_47 : Nat, frs M_46 q_47 → ∃ n_48 : Nat, kM (wN M_46 q_47 100 4) q_47 = (100, n_48) ∧ vp_in 0 n_48 ∧ ∃ n_49 : Nat, kM (wI (wN M_46 q_47 100 4) q_47 (0 : Int32).toNatClampNeg (i5 + 3)) q_47 = (100, n_49) ∧ vp_in 1 n_49 ∧ ∃ n_50 : Nat, kM (wI (wI (wN M_46 q_47 100 4) q_47 (0 : Int32).toNatClampNeg (i5 + 3)) q_47 (1 : Int32).toNatClampNeg i5) q_47 = (100, n_50) ∧ vp_in 2 n_50 ∧ ∃ n_51 : Nat, kM (wI (wI (wI (wN M_46 q_47 100 4) q_47 (0 : Int32).toNatClampNeg (i5 + 3)) q_47 (1 : Int32).toNatClampNeg i5) q_47 (2 : Int32).toNatClampNeg (i5 + 4)) q_47 = (100, n_51) ∧ vp_in 3 n_51 ∧ (((((((cc + 1) + 1) + 1) + 1) + 1) + 1) ≤ Cc ∧ ((((((zz + 4) + 4) + 4) + 4) + 4) + 4) ≤ Zz) ∧ kM (wI (wI (wI (wI (wN M_46 q_47 100 4) q_47 (0 : Int32).toNatClampNeg (i5 + 3)) q_47 (1 : Int32).toNatClampNeg i5) q_47 (2 : Int32).toNatClampNeg (i5 + 4)) q_47 (3 : Int32).toNatClampNeg (i5 + 7)) a0 = (9, 13) ∧ T_X9_newFace (wI (wI (wI (wI (wN M_46 q_47 100 4) q_47 (0 : Int32).toNatClampNeg (i5 + 3)) q_47 (1 : Int32).toNatClampNeg i5) q_47 (2 : Int32).toNatClampNeg (i5 + 4)) q_47 (3 : Int32).toNatClampNeg (i5 + 7)) a0 q_47 (fun r_52 M_53 => (((((((cc + 1) + 1) + 1) + 1) + 1) + 1) ≤ Cc ∧ ((((((zz + 4) + 4) + 4) + 4) + 4) + 4) ≤ Zz) ∧ kM M_53 a0 = (9, 13) ∧ T_X9_table M_53 a0 (fun M_55 => ((((((cc + 1) + 1) + 1) + 1) + 1) + 1) ≤ Cc ∧ ((((((zz + 4) + 4) + 4) + 4) + 4) + 4) ≤ Zz ∧ Q i5 M_55)))))))) ∧ (¬ 8 ≤ i6 → ((i6 - i6 / 4 * 4) = 1 → K145 a0 i1 i2 i3 i4 i5 i6 a0 i1 i4 M cc zz) ∧ (¬ (i6 - i6 / 4 * 4) = 1 → (¬ (i6 - i6 / 4 * 4) = 2 → K145 a0 i1 i2 i3 i4 i5 i6 a0 i1 0 M cc zz) ∧ ((i6 - i6 / 4 * 4) = 2 → K145 a0 i1 i2 i3 i4 i5 i6 a0 i1 i4 M cc zz)))
def S_X9_box_145 (K68 : Nat → Mm → Nat → Nat → Prop) (K99 : Nat → Mm → Nat → Nat → Prop) (K114 : Nat → Int32 → Int32 → Int32 → Int32 → Int32 → Int32 → Mm → Nat → Nat → Prop) (K145 : Nat → Int32 → Int32 → Int32 → Int32 → Int32 → Int32 → Nat → Int32 → Int32 → Mm → Nat → Nat → Prop) (K161 : Nat → Int32 → Int32 → Int32 → Int32 → Int32 → Int32 → Nat → Int32 → Int32 → Int32 → Mm → Nat → Nat → Prop) (K175 : Nat → Int32 → Int32 → Int32 → Int32 → Int32 → Int32 → Nat → Int32 → Int32 → Int32 → Int32 → Mm → Nat → Nat → Prop) (Cc Zz : Nat) (Q : Int32 → Mm → Prop) (M : Mm) (a0 : Nat) (i1 : Int32) (i2 : Int32) (i3 : Int32) (i4 : Int32) (i5 : Int32) (i6 : Int32) (as0 : Nat) (is1 : Int32) (is2 : Int32) (cc zz : Nat) : Prop := ((i6 - i6 / 4 * 4) ≤ 1 → K161 a0 i1 i2 i3 i4 i5 i6 as0 (is1 + is2) i2 0 M cc zz) ∧ (¬ (i6 - i6 / 4 * 4) ≤ 1 → K161 a0 i1 i2 i3 i4 i5 i6 as0 (is1 + is2) i2 i4 M cc zz)
def S_X9_box_161 (K68 : Nat → Mm → Nat → Nat → Prop) (K99 : Nat → Mm → Nat → Nat → Prop) (K114 : Nat → Int32 → Int32 → Int32 → Int32 → Int32 → Int32 → Mm → Nat → Nat → Prop) (K145 : Nat → Int32 → Int32 → Int32 → Int32 → Int32 → Int32 → Nat → Int32 → Int32 → Mm → Nat → Nat → Prop) (K161 : Nat → Int32 → Int32 → Int32 → Int32 → Int32 → Int32 → Nat → Int32 → Int32 → Int32 → Mm → Nat → Nat → Prop) (K175 : Nat → Int32 → Int32 → Int32 → Int32 → Int32 → Int32 → Nat → Int32 → Int32 → Int32 → Int32 → Mm → Nat → Nat → Prop) (Cc Zz : Nat) (Q : Int32 → Mm → Prop) (M : Mm) (a0 : Nat) (i1 : Int32) (i2 : Int32) (i3 : Int32) (i4 : Int32) (i5 : Int32) (i6 : Int32) (as0 : Nat) (is1 : Int32) (is2 : Int32) (is3 : Int32) (cc zz : Nat) : Prop := (i6 ≤ 3 → K175 a0 i1 i2 i3 i4 i5 i6 as0 is1 (is2 + is3) i3 0 M cc zz) ∧ (¬ i6 ≤ 3 → K175 a0 i1 i2 i3 i4 i5 i6 as0 is1 (is2 + is3) i3 i4 M cc zz)
def S_X9_box_175 (K68 : Nat → Mm → Nat → Nat → Prop) (K99 : Nat → Mm → Nat → Nat → Prop) (K114 : Nat → Int32 → Int32 → Int32 → Int32 → Int32 → Int32 → Mm → Nat → Nat → Prop) (K145 : Nat → Int32 → Int32 → Int32 → Int32 → Int32 → Int32 → Nat → Int32 → Int32 → Mm → Nat → Nat → Prop) (K161 : Nat → Int32 → Int32 → Int32 → Int32 → Int32 → Int32 → Nat → Int32 → Int32 → Int32 → Mm → Nat → Nat → Prop) (K175 : Nat → Int32 → Int32 → Int32 → Int32 → Int32 → Int32 → Nat → Int32 → Int32 → Int32 → Int32 → Mm → Nat → Nat → Prop) (Cc Zz : Nat) (Q : Int32 → Mm → Prop) (M : Mm) (a0 : Nat) (i1 : Int32) (i2 : Int32) (i3 : Int32) (i4 : Int32) (i5 : Int32) (i6 : Int32) (as0 : Nat) (is1 : Int32) (is2 : Int32) (is3 : Int32) (is4 : Int32) (cc zz : Nat) : Prop := ∃ dc_58 ds_58 : Nat, (cc + dc_58 ≤ Cc ∧ zz + ds_58 ≤ Zz) ∧ kM M as0 = (9, 13) ∧ T_X9_newPoint dc_58 ds_58 M as0 is1 is2 (is3 + is4) (fun r_56 M_57 => K114 a0 i1 i2 i3 i4 i5 (i6 + 1) M_57 (cc + dc_58) (zz + ds_58))
def T_X9_box (Cc Zz : Nat) (M : Mm) (a0 : Nat) (i1 : Int32) (i2 : Int32) (i3 : Int32) (i4 : Int32) (Q : Int32 → Mm → Prop) : Prop := ∀ (K68 : Nat → Mm → Nat → Nat → Prop) (K99 : Nat → Mm → Nat → Nat → Prop) (K114 : Nat → Int32 → Int32 → Int32 → Int32 → Int32 → Int32 → Mm → Nat → Nat → Prop) (K145 : Nat → Int32 → Int32 → Int32 → Int32 → Int32 → Int32 → Nat → Int32 → Int32 → Mm → Nat → Nat → Prop) (K161 : Nat → Int32 → Int32 → Int32 → Int32 → Int32 → Int32 → Nat → Int32 → Int32 → Int32 → Mm → Nat → Nat → Prop) (K175 : Nat → Int32 → Int32 → Int32 → Int32 → Int32 → Int32 → Nat → Int32 → Int32 → Int32 → Int32 → Mm → Nat → Nat → Prop), (∀ (a0 : Nat) (M : Mm) (cc zz : Nat), S_X9_box_68 K68 K99 K114 K145 K161 K175 Cc Zz Q M a0 cc zz → K68 a0 M cc zz) → (∀ (a0 : Nat) (M : Mm) (cc zz : Nat), S_X9_box_99 K68 K99 K114 K145 K161 K175 Cc Zz Q M a0 cc zz → K99 a0 M cc zz) → (∀ (a0 : Nat) (i1 : Int32) (i2 : Int32) (i3 : Int32) (i4 : Int32) (i5 : Int32) (i6 : Int32) (M : Mm) (cc zz : Nat), S_X9_box_114 K68 K99 K114 K145 K161 K175 Cc Zz Q M a0 i1 i2 i3 i4 i5 i6 cc zz → K114 a0 i1 i2 i3 i4 i5 i6 M cc zz) → (∀ (a0 : Nat) (i1 : Int32) (i2 : Int32) (i3 : Int32) (i4 : Int32) (i5 : Int32) (i6 : Int32) (as0 : Nat) (is1 : Int32) (is2 : Int32) (M : Mm) (cc zz : Nat), S_X9_box_145 K68 K99 K114 K145 K161 K175 Cc Zz Q M a0 i1 i2 i3 i4 i5 i6 as0 is1 is2 cc zz → K145 a0 i1 i2 i3 i4 i5 i6 as0 is1 is2 M cc zz) → (∀ (a0 : Nat) (i1 : Int32) (i2 : Int32) (i3 : Int32) (i4 : Int32) (i5 : Int32) (i6 : Int32) (as0 : Nat) (is1 : Int32) (is2 : Int32) (is3 : Int32) (M : Mm) (cc zz : Nat), S_X9_box_161 K68 K99 K114 K145 K161 K175 Cc Zz Q M a0 i1 i2 i3 i4 i5 i6 as0 is1 is2 is3 cc zz → K161 a0 i1 i2 i3 i4 i5 i6 as0 is1 is2 is3 M cc zz) → (∀ (a0 : Nat) (i1 : Int32) (i2 : Int32) (i3 : Int32) (i4 : Int32) (i5 : Int32) (i6 : Int32) (as0 : Nat) (is1 : Int32) (is2 : Int32) (is3 : Int32) (is4 : Int32) (M : Mm) (cc zz : Nat), S_X9_box_175 K68 K99 K114 K145 K161 K175 Cc Zz Q M a0 i1 i2 i3 i4 i5 i6 as0 is1 is2 is3 is4 cc zz → K175 a0 i1 i2 i3 i4 i5 i6 as0 is1 is2 is3 is4 M cc zz) → kM M a0 = (9, 13) ∧ (0 ≤ Cc ∧ 0 ≤ Zz) ∧ T_X9_is (wI M a0 0 0) i4 1 500 (fun r_1 => (r_1 = 0 → K68 a0 (wI M a0 0 0) 0 0) ∧ (¬ r_1 = 0 → (0 ≤ Cc ∧ 0 ≤ Zz) ∧ T_X9_isNear (wI M a0 0 0) i1 (fun r_2 => (r_2 = 0 → K68 a0 (wI M a0 0 0) 0 0) ∧ (¬ r_2 = 0 → (0 ≤ Cc ∧ 0 ≤ Zz) ∧ T_X9_isNear (wI M a0 0 0) i2 (fun r_3 => (r_3 = 0 → K68 a0 (wI M a0 0 0) 0 0) ∧ (¬ r_3 = 0 → (0 ≤ Cc ∧ 0 ≤ Zz) ∧ T_X9_isNear (wI M a0 0 0) i3 (fun r_4 => (r_4 = 0 → K68 a0 (wI M a0 0 0) 0 0) ∧ (¬ r_4 = 0 → (0 ≤ Cc ∧ 0 ≤ Zz) ∧ T_X9_isNear (wI M a0 0 0) (i1 + i4) (fun r_5 => (r_5 = 0 → K68 a0 (wI M a0 0 0) 0 0) ∧ (¬ r_5 = 0 → (0 ≤ Cc ∧ 0 ≤ Zz) ∧ T_X9_isNear (wI M a0 0 0) (i2 + i4) (fun r_6 => (r_6 = 0 → K68 a0 (wI M a0 0 0) 0 0) ∧ (¬ r_6 = 0 → (0 ≤ Cc ∧ 0 ≤ Zz) ∧ T_X9_isNear (wI M a0 0 0) (i3 + i4) (fun r_7 => (¬ r_7 = 0 → kM (wI M a0 0 0) a0 = (9, 13) ∧ (100 < ((iM (wI M a0 0 0) a0 3) + 8) → K99 a0 (wI M a0 0 0) 0 0) ∧ (¬ 100 < ((iM (wI M a0 0 0) a0 3) + 8) → kM (wI M a0 0 0) a0 = (9, 13) ∧ (((iM (wI M a0 0 0) a0 5) + 6) ≤ 160 → kM (wI M a0 0 0) a0 = (9, 13) ∧ K114 a0 i1 i2 i3 i4 (iM (wI M a0 0 0) a0 3) 0 (wI M a0 0 0) 0 0) ∧ (¬ ((iM (wI M a0 0 0) a0 5) + 6) ≤ 160 → K99 a0 (wI M a0 0 0) 0 0))) ∧ (r_7 = 0 → K68 a0 (wI M a0 0 0) 0 0))))))))))))))
theorem inX9_box_X9 : ∀ w ∈ wsX90, w ∈ wsX9_box := by decide +kernel
set_option maxRecDepth 100000 in
set_option maxHeartbeats 4000000 in
theorem b_X9_box_68 {p : Program} {l : Launch} {e : Env} {s : State} {m : MethodId} {args : Array Value} {below : List Frame} {meth : Method} {c : Code} {D : va_G} {cA : Nat → ClassId} {lo : Nat} (C : Cx p s m args c cX9_box 7 RX9 wsX9_box D cA lo) (hr : meth.sig.returnType = (some .int)) (hlk : meth.locks = false) {Q : Int32 → Mm → Prop} {Cc Zz : Nat} (M : Mm) (a0 : Nat) (cc zz : Nat) (h : S_X9_box_68 (fun (a0 : Nat) (M : Mm) (cc zz : Nat) => QW p l e ({ frames := 3, cells := Cc, slots := Zz, locals := 84 } : Room) s m args below meth c (MQ below (QiM D cA lo Q) args s Cc Zz (fun q => lo ≤ q)) 7 D cA lo cc zz M 68 [(0, .ref a0)] []) (fun (a0 : Nat) (M : Mm) (cc zz : Nat) => QW p l e ({ frames := 3, cells := Cc, slots := Zz, locals := 84 } : Room) s m args below meth c (MQ below (QiM D cA lo Q) args s Cc Zz (fun q => lo ≤ q)) 7 D cA lo cc zz M 99 [(0, .ref a0)] []) (fun (a0 : Nat) (i1 : Int32) (i2 : Int32) (i3 : Int32) (i4 : Int32) (i5 : Int32) (i6 : Int32) (M : Mm) (cc zz : Nat) => QW p l e ({ frames := 3, cells := Cc, slots := Zz, locals := 84 } : Room) s m args below meth c (MQ below (QiM D cA lo Q) args s Cc Zz (fun q => lo ≤ q)) 7 D cA lo cc zz M 114 [(0, .ref a0), (1, .int i1), (2, .int i2), (3, .int i3), (4, .int i4), (5, .int i5), (6, .int i6)] []) (fun (a0 : Nat) (i1 : Int32) (i2 : Int32) (i3 : Int32) (i4 : Int32) (i5 : Int32) (i6 : Int32) (as0 : Nat) (is1 : Int32) (is2 : Int32) (M : Mm) (cc zz : Nat) => QW p l e ({ frames := 3, cells := Cc, slots := Zz, locals := 84 } : Room) s m args below meth c (MQ below (QiM D cA lo Q) args s Cc Zz (fun q => lo ≤ q)) 7 D cA lo cc zz M 145 [(0, .ref a0), (1, .int i1), (2, .int i2), (3, .int i3), (4, .int i4), (5, .int i5), (6, .int i6)] [.int is2, .int is1, .ref as0]) (fun (a0 : Nat) (i1 : Int32) (i2 : Int32) (i3 : Int32) (i4 : Int32) (i5 : Int32) (i6 : Int32) (as0 : Nat) (is1 : Int32) (is2 : Int32) (is3 : Int32) (M : Mm) (cc zz : Nat) => QW p l e ({ frames := 3, cells := Cc, slots := Zz, locals := 84 } : Room) s m args below meth c (MQ below (QiM D cA lo Q) args s Cc Zz (fun q => lo ≤ q)) 7 D cA lo cc zz M 161 [(0, .ref a0), (1, .int i1), (2, .int i2), (3, .int i3), (4, .int i4), (5, .int i5), (6, .int i6)] [.int is3, .int is2, .int is1, .ref as0]) (fun (a0 : Nat) (i1 : Int32) (i2 : Int32) (i3 : Int32) (i4 : Int32) (i5 : Int32) (i6 : Int32) (as0 : Nat) (is1 : Int32) (is2 : Int32) (is3 : Int32) (is4 : Int32) (M : Mm) (cc zz : Nat) => QW p l e ({ frames := 3, cells := Cc, slots := Zz, locals := 84 } : Room) s m args below meth c (MQ below (QiM D cA lo Q) args s Cc Zz (fun q => lo ≤ q)) 7 D cA lo cc zz M 175 [(0, .ref a0), (1, .int i1), (2, .int i2), (3, .int i3), (4, .int i4), (5, .int i5), (6, .int i6)] [.int is4, .int is3, .int is2, .int is1, .ref as0]) Cc Zz Q M a0 cc zz) : QW p l e ({ frames := 3, cells := Cc, slots := Zz, locals := 84 } : Room) s m args below meth c (MQ below (QiM D cA lo Q) args s Cc Zz (fun q => lo ≤ q)) 7 D cA lo cc zz M 68 [(0, .ref a0)] [] := by
  unfold S_X9_box_68 at h
  refine q_aload_n C dX9_box_68 rfl (j := 0) rfl ?_
  refine q_iconst (v := 1) C dX9_box_69 (by decide) ?_
  have hcz := h.1
  have h := h.2
  refine q_ci (q_runV (As := [.int 1]) (st := []) C (c_X9_refuse l D cA lo h.2) (cwV 1 C.2.2.2.2.1 gX9_box_X9_refuse rfl rfl rfl (by decide +kernel) ⟨Nat.le_of_ble_eq_true rfl, Nat.le_of_ble_eq_true rfl⟩) h.1 (by decide) rfl rfl rfl (Nat.le_of_ble_eq_true rfl) dX9_box_70 ⟨Nat.le_trans (Nat.le_of_eq (Nat.add_zero _)) hcz.1, Nat.le_trans (Nat.le_of_eq (Nat.add_zero _)) hcz.2⟩) (fun r_8 M_9 h => ?_)
  exact q_iret C hr hlk dX9_box_73 h.1 h.2.1 h.2.2
set_option maxRecDepth 100000 in
set_option maxHeartbeats 4000000 in
theorem b_X9_box_99 {p : Program} {l : Launch} {e : Env} {s : State} {m : MethodId} {args : Array Value} {below : List Frame} {meth : Method} {c : Code} {D : va_G} {cA : Nat → ClassId} {lo : Nat} (C : Cx p s m args c cX9_box 7 RX9 wsX9_box D cA lo) (hr : meth.sig.returnType = (some .int)) (hlk : meth.locks = false) {Q : Int32 → Mm → Prop} {Cc Zz : Nat} (M : Mm) (a0 : Nat) (cc zz : Nat) (h : S_X9_box_99 (fun (a0 : Nat) (M : Mm) (cc zz : Nat) => QW p l e ({ frames := 3, cells := Cc, slots := Zz, locals := 84 } : Room) s m args below meth c (MQ below (QiM D cA lo Q) args s Cc Zz (fun q => lo ≤ q)) 7 D cA lo cc zz M 68 [(0, .ref a0)] []) (fun (a0 : Nat) (M : Mm) (cc zz : Nat) => QW p l e ({ frames := 3, cells := Cc, slots := Zz, locals := 84 } : Room) s m args below meth c (MQ below (QiM D cA lo Q) args s Cc Zz (fun q => lo ≤ q)) 7 D cA lo cc zz M 99 [(0, .ref a0)] []) (fun (a0 : Nat) (i1 : Int32) (i2 : Int32) (i3 : Int32) (i4 : Int32) (i5 : Int32) (i6 : Int32) (M : Mm) (cc zz : Nat) => QW p l e ({ frames := 3, cells := Cc, slots := Zz, locals := 84 } : Room) s m args below meth c (MQ below (QiM D cA lo Q) args s Cc Zz (fun q => lo ≤ q)) 7 D cA lo cc zz M 114 [(0, .ref a0), (1, .int i1), (2, .int i2), (3, .int i3), (4, .int i4), (5, .int i5), (6, .int i6)] []) (fun (a0 : Nat) (i1 : Int32) (i2 : Int32) (i3 : Int32) (i4 : Int32) (i5 : Int32) (i6 : Int32) (as0 : Nat) (is1 : Int32) (is2 : Int32) (M : Mm) (cc zz : Nat) => QW p l e ({ frames := 3, cells := Cc, slots := Zz, locals := 84 } : Room) s m args below meth c (MQ below (QiM D cA lo Q) args s Cc Zz (fun q => lo ≤ q)) 7 D cA lo cc zz M 145 [(0, .ref a0), (1, .int i1), (2, .int i2), (3, .int i3), (4, .int i4), (5, .int i5), (6, .int i6)] [.int is2, .int is1, .ref as0]) (fun (a0 : Nat) (i1 : Int32) (i2 : Int32) (i3 : Int32) (i4 : Int32) (i5 : Int32) (i6 : Int32) (as0 : Nat) (is1 : Int32) (is2 : Int32) (is3 : Int32) (M : Mm) (cc zz : Nat) => QW p l e ({ frames := 3, cells := Cc, slots := Zz, locals := 84 } : Room) s m args below meth c (MQ below (QiM D cA lo Q) args s Cc Zz (fun q => lo ≤ q)) 7 D cA lo cc zz M 161 [(0, .ref a0), (1, .int i1), (2, .int i2), (3, .int i3), (4, .int i4), (5, .int i5), (6, .int i6)] [.int is3, .int is2, .int is1, .ref as0]) (fun (a0 : Nat) (i1 : Int32) (i2 : Int32) (i3 : Int32) (i4 : Int32) (i5 : Int32) (i6 : Int32) (as0 : Nat) (is1 : Int32) (is2 : Int32) (is3 : Int32) (is4 : Int32) (M : Mm) (cc zz : Nat) => QW p l e ({ frames := 3, cells := Cc, slots := Zz, locals := 84 } : Room) s m args below meth c (MQ below (QiM D cA lo Q) args s Cc Zz (fun q => lo ≤ q)) 7 D cA lo cc zz M 175 [(0, .ref a0), (1, .int i1), (2, .int i2), (3, .int i3), (4, .int i4), (5, .int i5), (6, .int i6)] [.int is4, .int is3, .int is2, .int is1, .ref as0]) Cc Zz Q M a0 cc zz) : QW p l e ({ frames := 3, cells := Cc, slots := Zz, locals := 84 } : Room) s m args below meth c (MQ below (QiM D cA lo Q) args s Cc Zz (fun q => lo ≤ q)) 7 D cA lo cc zz M 99 [(0, .ref a0)] [] := by
  unfold S_X9_box_99 at h
  refine q_aload_n C dX9_box_99 rfl (j := 0) rfl ?_
  refine q_iconst (v := 2) C dX9_box_100 (by decide) ?_
  have hcz := h.1
  have h := h.2
  refine q_ci (q_runV (As := [.int 2]) (st := []) C (c_X9_refuse l D cA lo h.2) (cwV 1 C.2.2.2.2.1 gX9_box_X9_refuse rfl rfl rfl (by decide +kernel) ⟨Nat.le_of_ble_eq_true rfl, Nat.le_of_ble_eq_true rfl⟩) h.1 (by decide) rfl rfl rfl (Nat.le_of_ble_eq_true rfl) dX9_box_101 ⟨Nat.le_trans (Nat.le_of_eq (Nat.add_zero _)) hcz.1, Nat.le_trans (Nat.le_of_eq (Nat.add_zero _)) hcz.2⟩) (fun r_10 M_11 h => ?_)
  exact q_iret C hr hlk dX9_box_104 h.1 h.2.1 h.2.2
set_option maxRecDepth 100000 in
set_option maxHeartbeats 4000000 in
theorem b_X9_box_114 {p : Program} {l : Launch} {e : Env} {s : State} {m : MethodId} {args : Array Value} {below : List Frame} {meth : Method} {c : Code} {D : va_G} {cA : Nat → ClassId} {lo : Nat} (C : Cx p s m args c cX9_box 7 RX9 wsX9_box D cA lo) (hr : meth.sig.returnType = (some .int)) (hlk : meth.locks = false) {Q : Int32 → Mm → Prop} {Cc Zz : Nat} (M : Mm) (a0 : Nat) (i1 : Int32) (i2 : Int32) (i3 : Int32) (i4 : Int32) (i5 : Int32) (i6 : Int32) (cc zz : Nat) (h : S_X9_box_114 (fun (a0 : Nat) (M : Mm) (cc zz : Nat) => QW p l e ({ frames := 3, cells := Cc, slots := Zz, locals := 84 } : Room) s m args below meth c (MQ below (QiM D cA lo Q) args s Cc Zz (fun q => lo ≤ q)) 7 D cA lo cc zz M 68 [(0, .ref a0)] []) (fun (a0 : Nat) (M : Mm) (cc zz : Nat) => QW p l e ({ frames := 3, cells := Cc, slots := Zz, locals := 84 } : Room) s m args below meth c (MQ below (QiM D cA lo Q) args s Cc Zz (fun q => lo ≤ q)) 7 D cA lo cc zz M 99 [(0, .ref a0)] []) (fun (a0 : Nat) (i1 : Int32) (i2 : Int32) (i3 : Int32) (i4 : Int32) (i5 : Int32) (i6 : Int32) (M : Mm) (cc zz : Nat) => QW p l e ({ frames := 3, cells := Cc, slots := Zz, locals := 84 } : Room) s m args below meth c (MQ below (QiM D cA lo Q) args s Cc Zz (fun q => lo ≤ q)) 7 D cA lo cc zz M 114 [(0, .ref a0), (1, .int i1), (2, .int i2), (3, .int i3), (4, .int i4), (5, .int i5), (6, .int i6)] []) (fun (a0 : Nat) (i1 : Int32) (i2 : Int32) (i3 : Int32) (i4 : Int32) (i5 : Int32) (i6 : Int32) (as0 : Nat) (is1 : Int32) (is2 : Int32) (M : Mm) (cc zz : Nat) => QW p l e ({ frames := 3, cells := Cc, slots := Zz, locals := 84 } : Room) s m args below meth c (MQ below (QiM D cA lo Q) args s Cc Zz (fun q => lo ≤ q)) 7 D cA lo cc zz M 145 [(0, .ref a0), (1, .int i1), (2, .int i2), (3, .int i3), (4, .int i4), (5, .int i5), (6, .int i6)] [.int is2, .int is1, .ref as0]) (fun (a0 : Nat) (i1 : Int32) (i2 : Int32) (i3 : Int32) (i4 : Int32) (i5 : Int32) (i6 : Int32) (as0 : Nat) (is1 : Int32) (is2 : Int32) (is3 : Int32) (M : Mm) (cc zz : Nat) => QW p l e ({ frames := 3, cells := Cc, slots := Zz, locals := 84 } : Room) s m args below meth c (MQ below (QiM D cA lo Q) args s Cc Zz (fun q => lo ≤ q)) 7 D cA lo cc zz M 161 [(0, .ref a0), (1, .int i1), (2, .int i2), (3, .int i3), (4, .int i4), (5, .int i5), (6, .int i6)] [.int is3, .int is2, .int is1, .ref as0]) (fun (a0 : Nat) (i1 : Int32) (i2 : Int32) (i3 : Int32) (i4 : Int32) (i5 : Int32) (i6 : Int32) (as0 : Nat) (is1 : Int32) (is2 : Int32) (is3 : Int32) (is4 : Int32) (M : Mm) (cc zz : Nat) => QW p l e ({ frames := 3, cells := Cc, slots := Zz, locals := 84 } : Room) s m args below meth c (MQ below (QiM D cA lo Q) args s Cc Zz (fun q => lo ≤ q)) 7 D cA lo cc zz M 175 [(0, .ref a0), (1, .int i1), (2, .int i2), (3, .int i3), (4, .int i4), (5, .int i5), (6, .int i6)] [.int is4, .int is3, .int is2, .int is1, .ref as0]) Cc Zz Q M a0 i1 i2 i3 i4 i5 i6 cc zz) : QW p l e ({ frames := 3, cells := Cc, slots := Zz, locals := 84 } : Room) s m args below meth c (MQ below (QiM D cA lo Q) args s Cc Zz (fun q => lo ≤ q)) 7 D cA lo cc zz M 114 [(0, .ref a0), (1, .int i1), (2, .int i2), (3, .int i3), (4, .int i4), (5, .int i5), (6, .int i6)] [] := by
  unfold S_X9_box_114 at h
  refine q_iload C dX9_box_114 (j := 6) rfl ?_
  refine q_bipush (v := 8) C dX9_box_116 (by decide) ?_
  refine q_icmp_ge (tgt := 186) C dX9_box_118 (by decide) (fun z => ?_) (fun z => ?_)
  · have h := h.1 z
    refine q_aload_n C dX9_box_186 rfl (j := 0) rfl ?_
    refine q_iconst (v := 4) C dX9_box_187 (by decide) ?_
    refine q_newI (N := 4) C (by decide +kernel) (by decide) (by decide) (by decide) ⟨h.1, h.2.1⟩ dX9_box_188 (fun q_12 hq _ => ?_)
    have h := h.2.2 q_12 hq
    refine q_dup C dX9_box_190 rfl ?_
    refine q_iconst (v := 0) C dX9_box_191 (by decide) ?_
    refine q_iload C dX9_box_192 (j := 5) rfl ?_
    obtain ⟨n_13, z1, z2, h⟩ := h
    refine q_iast C z1 z2 dX9_box_194 ?_
    refine q_dup C dX9_box_195 rfl ?_
    refine q_iconst (v := 1) C dX9_box_196 (by decide) ?_
    refine q_iload C dX9_box_197 (j := 5) rfl ?_
    refine q_iconst (v := 3) C dX9_box_199 (by decide) ?_
    refine q_iadd C dX9_box_200 ?_
    obtain ⟨n_14, z1, z2, h⟩ := h
    refine q_iast C z1 z2 dX9_box_201 ?_
    refine q_dup C dX9_box_202 rfl ?_
    refine q_iconst (v := 2) C dX9_box_203 (by decide) ?_
    refine q_iload C dX9_box_204 (j := 5) rfl ?_
    refine q_iconst (v := 2) C dX9_box_206 (by decide) ?_
    refine q_iadd C dX9_box_207 ?_
    obtain ⟨n_15, z1, z2, h⟩ := h
    refine q_iast C z1 z2 dX9_box_208 ?_
    refine q_dup C dX9_box_209 rfl ?_
    refine q_iconst (v := 3) C dX9_box_210 (by decide) ?_
    refine q_iload C dX9_box_211 (j := 5) rfl ?_
    refine q_iconst (v := 1) C dX9_box_213 (by decide) ?_
    refine q_iadd C dX9_box_214 ?_
    obtain ⟨n_16, z1, z2, h⟩ := h
    refine q_iast C z1 z2 dX9_box_215 ?_
    have hcz := h.1
    have h := h.2
    refine q_ci (q_runV (As := [.ref q_12]) (st := []) C (c_X9_newFace l D cA lo h.2) (cwV 1 C.2.2.2.2.1 gX9_box_X9_newFace rfl rfl rfl (by decide +kernel) ⟨Nat.le_of_ble_eq_true rfl, Nat.le_of_ble_eq_true rfl⟩) h.1 (by decide) rfl rfl rfl (Nat.le_of_ble_eq_true rfl) dX9_box_216 ⟨Nat.le_trans (Nat.le_of_eq (Nat.add_zero _)) hcz.1, Nat.le_trans (Nat.le_of_eq (Nat.add_zero _)) hcz.2⟩) (fun r_17 M_18 h => ?_)
    refine q_pop C dX9_box_219 rfl ?_
    refine q_aload_n C dX9_box_220 rfl (j := 0) rfl ?_
    refine q_iconst (v := 4) C dX9_box_221 (by decide) ?_
    refine q_newI (N := 4) C (by decide +kernel) (by decide) (by decide) (by decide) ⟨h.1, h.2.1⟩ dX9_box_222 (fun q_19 hq _ => ?_)
    have h := h.2.2 q_19 hq
    refine q_dup C dX9_box_224 rfl ?_
    refine q_iconst (v := 0) C dX9_box_225 (by decide) ?_
    refine q_iload C dX9_box_226 (j := 5) rfl ?_
    refine q_iconst (v := 4) C dX9_box_228 (by decide) ?_
    refine q_iadd C dX9_box_229 ?_
    obtain ⟨n_20, z1, z2, h⟩ := h
    refine q_iast C z1 z2 dX9_box_230 ?_
    refine q_dup C dX9_box_231 rfl ?_
    refine q_iconst (v := 1) C dX9_box_232 (by decide) ?_
    refine q_iload C dX9_box_233 (j := 5) rfl ?_
    refine q_iconst (v := 5) C dX9_box_235 (by decide) ?_
    refine q_iadd C dX9_box_236 ?_
    obtain ⟨n_21, z1, z2, h⟩ := h
    refine q_iast C z1 z2 dX9_box_237 ?_
    refine q_dup C dX9_box_238 rfl ?_
    refine q_iconst (v := 2) C dX9_box_239 (by decide) ?_
    refine q_iload C dX9_box_240 (j := 5) rfl ?_
    refine q_bipush (v := 6) C dX9_box_242 (by decide) ?_
    refine q_iadd C dX9_box_244 ?_
    obtain ⟨n_22, z1, z2, h⟩ := h
    refine q_iast C z1 z2 dX9_box_245 ?_
    refine q_dup C dX9_box_246 rfl ?_
    refine q_iconst (v := 3) C dX9_box_247 (by decide) ?_
    refine q_iload C dX9_box_248 (j := 5) rfl ?_
    refine q_bipush (v := 7) C dX9_box_250 (by decide) ?_
    refine q_iadd C dX9_box_252 ?_
    obtain ⟨n_23, z1, z2, h⟩ := h
    refine q_iast C z1 z2 dX9_box_253 ?_
    have hcz := h.1
    have h := h.2
    refine q_ci (q_runV (As := [.ref q_19]) (st := []) C (c_X9_newFace l D cA lo h.2) (cwV 1 C.2.2.2.2.1 gX9_box_X9_newFace rfl rfl rfl (by decide +kernel) ⟨Nat.le_of_ble_eq_true rfl, Nat.le_of_ble_eq_true rfl⟩) h.1 (by decide) rfl rfl rfl (Nat.le_of_ble_eq_true rfl) dX9_box_254 ⟨Nat.le_trans (Nat.le_of_eq (Nat.add_zero _)) hcz.1, Nat.le_trans (Nat.le_of_eq (Nat.add_zero _)) hcz.2⟩) (fun r_24 M_25 h => ?_)
    refine q_pop C dX9_box_257 rfl ?_
    refine q_aload_n C dX9_box_258 rfl (j := 0) rfl ?_
    refine q_iconst (v := 4) C dX9_box_259 (by decide) ?_
    refine q_newI (N := 4) C (by decide +kernel) (by decide) (by decide) (by decide) ⟨h.1, h.2.1⟩ dX9_box_260 (fun q_26 hq _ => ?_)
    have h := h.2.2 q_26 hq
    refine q_dup C dX9_box_262 rfl ?_
    refine q_iconst (v := 0) C dX9_box_263 (by decide) ?_
    refine q_iload C dX9_box_264 (j := 5) rfl ?_
    obtain ⟨n_27, z1, z2, h⟩ := h
    refine q_iast C z1 z2 dX9_box_266 ?_
    refine q_dup C dX9_box_267 rfl ?_
    refine q_iconst (v := 1) C dX9_box_268 (by decide) ?_
    refine q_iload C dX9_box_269 (j := 5) rfl ?_
    refine q_iconst (v := 1) C dX9_box_271 (by decide) ?_
    refine q_iadd C dX9_box_272 ?_
    obtain ⟨n_28, z1, z2, h⟩ := h
    refine q_iast C z1 z2 dX9_box_273 ?_
    refine q_dup C dX9_box_274 rfl ?_
    refine q_iconst (v := 2) C dX9_box_275 (by decide) ?_
    refine q_iload C dX9_box_276 (j := 5) rfl ?_
    refine q_iconst (v := 5) C dX9_box_278 (by decide) ?_
    refine q_iadd C dX9_box_279 ?_
    obtain ⟨n_29, z1, z2, h⟩ := h
    refine q_iast C z1 z2 dX9_box_280 ?_
    refine q_dup C dX9_box_281 rfl ?_
    refine q_iconst (v := 3) C dX9_box_282 (by decide) ?_
    refine q_iload C dX9_box_283 (j := 5) rfl ?_
    refine q_iconst (v := 4) C dX9_box_285 (by decide) ?_
    refine q_iadd C dX9_box_286 ?_
    obtain ⟨n_30, z1, z2, h⟩ := h
    refine q_iast C z1 z2 dX9_box_287 ?_
    have hcz := h.1
    have h := h.2
    refine q_ci (q_runV (As := [.ref q_26]) (st := []) C (c_X9_newFace l D cA lo h.2) (cwV 1 C.2.2.2.2.1 gX9_box_X9_newFace rfl rfl rfl (by decide +kernel) ⟨Nat.le_of_ble_eq_true rfl, Nat.le_of_ble_eq_true rfl⟩) h.1 (by decide) rfl rfl rfl (Nat.le_of_ble_eq_true rfl) dX9_box_288 ⟨Nat.le_trans (Nat.le_of_eq (Nat.add_zero _)) hcz.1, Nat.le_trans (Nat.le_of_eq (Nat.add_zero _)) hcz.2⟩) (fun r_31 M_32 h => ?_)
    refine q_pop C dX9_box_291 rfl ?_
    refine q_aload_n C dX9_box_292 rfl (j := 0) rfl ?_
    refine q_iconst (v := 4) C dX9_box_293 (by decide) ?_
    refine q_newI (N := 4) C (by decide +kernel) (by decide) (by decide) (by decide) ⟨h.1, h.2.1⟩ dX9_box_294 (fun q_33 hq _ => ?_)
    have h := h.2.2 q_33 hq
    refine q_dup C dX9_box_296 rfl ?_
    refine q_iconst (v := 0) C dX9_box_297 (by decide) ?_
    refine q_iload C dX9_box_298 (j := 5) rfl ?_
    refine q_iconst (v := 1) C dX9_box_300 (by decide) ?_
    refine q_iadd C dX9_box_301 ?_
    obtain ⟨n_34, z1, z2, h⟩ := h
    refine q_iast C z1 z2 dX9_box_302 ?_
    refine q_dup C dX9_box_303 rfl ?_
    refine q_iconst (v := 1) C dX9_box_304 (by decide) ?_
    refine q_iload C dX9_box_305 (j := 5) rfl ?_
    refine q_iconst (v := 2) C dX9_box_307 (by decide) ?_
    refine q_iadd C dX9_box_308 ?_
    obtain ⟨n_35, z1, z2, h⟩ := h
    refine q_iast C z1 z2 dX9_box_309 ?_
    refine q_dup C dX9_box_310 rfl ?_
    refine q_iconst (v := 2) C dX9_box_311 (by decide) ?_
    refine q_iload C dX9_box_312 (j := 5) rfl ?_
    refine q_bipush (v := 6) C dX9_box_314 (by decide) ?_
    refine q_iadd C dX9_box_316 ?_
    obtain ⟨n_36, z1, z2, h⟩ := h
    refine q_iast C z1 z2 dX9_box_317 ?_
    refine q_dup C dX9_box_318 rfl ?_
    refine q_iconst (v := 3) C dX9_box_319 (by decide) ?_
    refine q_iload C dX9_box_320 (j := 5) rfl ?_
    refine q_iconst (v := 5) C dX9_box_322 (by decide) ?_
    refine q_iadd C dX9_box_323 ?_
    obtain ⟨n_37, z1, z2, h⟩ := h
    refine q_iast C z1 z2 dX9_box_324 ?_
    have hcz := h.1
    have h := h.2
    refine q_ci (q_runV (As := [.ref q_33]) (st := []) C (c_X9_newFace l D cA lo h.2) (cwV 1 C.2.2.2.2.1 gX9_box_X9_newFace rfl rfl rfl (by decide +kernel) ⟨Nat.le_of_ble_eq_true rfl, Nat.le_of_ble_eq_true rfl⟩) h.1 (by decide) rfl rfl rfl (Nat.le_of_ble_eq_true rfl) dX9_box_325 ⟨Nat.le_trans (Nat.le_of_eq (Nat.add_zero _)) hcz.1, Nat.le_trans (Nat.le_of_eq (Nat.add_zero _)) hcz.2⟩) (fun r_38 M_39 h => ?_)
    refine q_pop C dX9_box_328 rfl ?_
    refine q_aload_n C dX9_box_329 rfl (j := 0) rfl ?_
    refine q_iconst (v := 4) C dX9_box_330 (by decide) ?_
    refine q_newI (N := 4) C (by decide +kernel) (by decide) (by decide) (by decide) ⟨h.1, h.2.1⟩ dX9_box_331 (fun q_40 hq _ => ?_)
    have h := h.2.2 q_40 hq
    refine q_dup C dX9_box_333 rfl ?_
    refine q_iconst (v := 0) C dX9_box_334 (by decide) ?_
    refine q_iload C dX9_box_335 (j := 5) rfl ?_
    refine q_iconst (v := 2) C dX9_box_337 (by decide) ?_
    refine q_iadd C dX9_box_338 ?_
    obtain ⟨n_41, z1, z2, h⟩ := h
    refine q_iast C z1 z2 dX9_box_339 ?_
    refine q_dup C dX9_box_340 rfl ?_
    refine q_iconst (v := 1) C dX9_box_341 (by decide) ?_
    refine q_iload C dX9_box_342 (j := 5) rfl ?_
    refine q_iconst (v := 3) C dX9_box_344 (by decide) ?_
    refine q_iadd C dX9_box_345 ?_
    obtain ⟨n_42, z1, z2, h⟩ := h
    refine q_iast C z1 z2 dX9_box_346 ?_
    refine q_dup C dX9_box_347 rfl ?_
    refine q_iconst (v := 2) C dX9_box_348 (by decide) ?_
    refine q_iload C dX9_box_349 (j := 5) rfl ?_
    refine q_bipush (v := 7) C dX9_box_351 (by decide) ?_
    refine q_iadd C dX9_box_353 ?_
    obtain ⟨n_43, z1, z2, h⟩ := h
    refine q_iast C z1 z2 dX9_box_354 ?_
    refine q_dup C dX9_box_355 rfl ?_
    refine q_iconst (v := 3) C dX9_box_356 (by decide) ?_
    refine q_iload C dX9_box_357 (j := 5) rfl ?_
    refine q_bipush (v := 6) C dX9_box_359 (by decide) ?_
    refine q_iadd C dX9_box_361 ?_
    obtain ⟨n_44, z1, z2, h⟩ := h
    refine q_iast C z1 z2 dX9_box_362 ?_
    have hcz := h.1
    have h := h.2
    refine q_ci (q_runV (As := [.ref q_40]) (st := []) C (c_X9_newFace l D cA lo h.2) (cwV 1 C.2.2.2.2.1 gX9_box_X9_newFace rfl rfl rfl (by decide +kernel) ⟨Nat.le_of_ble_eq_true rfl, Nat.le_of_ble_eq_true rfl⟩) h.1 (by decide) rfl rfl rfl (Nat.le_of_ble_eq_true rfl) dX9_box_363 ⟨Nat.le_trans (Nat.le_of_eq (Nat.add_zero _)) hcz.1, Nat.le_trans (Nat.le_of_eq (Nat.add_zero _)) hcz.2⟩) (fun r_45 M_46 h => ?_)
    refine q_pop C dX9_box_366 rfl ?_
    refine q_aload_n C dX9_box_367 rfl (j := 0) rfl ?_
    refine q_iconst (v := 4) C dX9_box_368 (by decide) ?_
    refine q_newI (N := 4) C (by decide +kernel) (by decide) (by decide) (by decide) ⟨h.1, h.2.1⟩ dX9_box_369 (fun q_47 hq _ => ?_)
    have h := h.2.2 q_47 hq
    refine q_dup C dX9_box_371 rfl ?_
    refine q_iconst (v := 0) C dX9_box_372 (by decide) ?_
    refine q_iload C dX9_box_373 (j := 5) rfl ?_
    refine q_iconst (v := 3) C dX9_box_375 (by decide) ?_
    refine q_iadd C dX9_box_376 ?_
    obtain ⟨n_48, z1, z2, h⟩ := h
    refine q_iast C z1 z2 dX9_box_377 ?_
    refine q_dup C dX9_box_378 rfl ?_
    refine q_iconst (v := 1) C dX9_box_379 (by decide) ?_
    refine q_iload C dX9_box_380 (j := 5) rfl ?_
    obtain ⟨n_49, z1, z2, h⟩ := h
    refine q_iast C z1 z2 dX9_box_382 ?_
    refine q_dup C dX9_box_383 rfl ?_
    refine q_iconst (v := 2) C dX9_box_384 (by decide) ?_
    refine q_iload C dX9_box_385 (j := 5) rfl ?_
    refine q_iconst (v := 4) C dX9_box_387 (by decide) ?_
    refine q_iadd C dX9_box_388 ?_
    obtain ⟨n_50, z1, z2, h⟩ := h
    refine q_iast C z1 z2 dX9_box_389 ?_
    refine q_dup C dX9_box_390 rfl ?_
    refine q_iconst (v := 3) C dX9_box_391 (by decide) ?_
    refine q_iload C dX9_box_392 (j := 5) rfl ?_
    refine q_bipush (v := 7) C dX9_box_394 (by decide) ?_
    refine q_iadd C dX9_box_396 ?_
    obtain ⟨n_51, z1, z2, h⟩ := h
    refine q_iast C z1 z2 dX9_box_397 ?_
    have hcz := h.1
    have h := h.2
    refine q_ci (q_runV (As := [.ref q_47]) (st := []) C (c_X9_newFace l D cA lo h.2) (cwV 1 C.2.2.2.2.1 gX9_box_X9_newFace rfl rfl rfl (by decide +kernel) ⟨Nat.le_of_ble_eq_true rfl, Nat.le_of_ble_eq_true rfl⟩) h.1 (by decide) rfl rfl rfl (Nat.le_of_ble_eq_true rfl) dX9_box_398 ⟨Nat.le_trans (Nat.le_of_eq (Nat.add_zero _)) hcz.1, Nat.le_trans (Nat.le_of_eq (Nat.add_zero _)) hcz.2⟩) (fun r_52 M_53 h => ?_)
    refine q_pop C dX9_box_401 rfl ?_
    refine q_aload_n C dX9_box_402 rfl (j := 0) rfl ?_
    have hcz := h.1
    have h := h.2
    refine q_cv (q_runV (As := []) (st := []) C (c_X9_table l D cA lo h.2) (cwV 0 C.2.2.2.2.1 gX9_box_X9_table rfl rfl rfl (by decide +kernel) ⟨Nat.le_of_ble_eq_true rfl, Nat.le_of_ble_eq_true rfl⟩) h.1 (by decide) rfl rfl rfl (Nat.le_of_ble_eq_true rfl) dX9_box_403 ⟨Nat.le_trans (Nat.le_of_eq (Nat.add_zero _)) hcz.1, Nat.le_trans (Nat.le_of_eq (Nat.add_zero _)) hcz.2⟩) (fun M_55 h => ?_)
    refine q_iload C dX9_box_406 (j := 5) rfl ?_
    exact q_iret C hr hlk dX9_box_408 h.1 h.2.1 h.2.2
  · have h := h.2 z
    refine q_aload_n C dX9_box_121 rfl (j := 0) rfl ?_
    refine q_iload_n C dX9_box_122 rfl (j := 1) rfl ?_
    refine q_iload C dX9_box_123 (j := 6) rfl ?_
    refine q_iconst (v := 4) C dX9_box_125 (by decide) ?_
    refine q_irem C dX9_box_126 (by decide) ?_
    refine q_iconst (v := 1) C dX9_box_127 (by decide) ?_
    refine q_icmp_eq (tgt := 139) C dX9_box_128 (by decide) (fun z => ?_) (fun z => ?_)
    · have h := h.1 z
      refine q_iload C dX9_box_139 (j := 4) rfl ?_
      refine q_goto (tgt := 145) C dX9_box_141 (by decide) ?_
      exact q_sub [0, 1, 2, 3, 4, 5, 6] rfl h
    · have h := h.2 z
      refine q_iload C dX9_box_131 (j := 6) rfl ?_
      refine q_iconst (v := 4) C dX9_box_133 (by decide) ?_
      refine q_irem C dX9_box_134 (by decide) ?_
      refine q_iconst (v := 2) C dX9_box_135 (by decide) ?_
      refine q_icmp_ne (tgt := 144) C dX9_box_136 (by decide) (fun z => ?_) (fun z => ?_)
      · have h := h.1 z
        refine q_iconst (v := 0) C dX9_box_144 (by decide) ?_
        exact q_sub [0, 1, 2, 3, 4, 5, 6] rfl h
      · have h := h.2 z
        refine q_iload C dX9_box_139 (j := 4) rfl ?_
        refine q_goto (tgt := 145) C dX9_box_141 (by decide) ?_
        exact q_sub [0, 1, 2, 3, 4, 5, 6] rfl h
set_option maxRecDepth 100000 in
set_option maxHeartbeats 4000000 in
theorem b_X9_box_145 {p : Program} {l : Launch} {e : Env} {s : State} {m : MethodId} {args : Array Value} {below : List Frame} {meth : Method} {c : Code} {D : va_G} {cA : Nat → ClassId} {lo : Nat} (C : Cx p s m args c cX9_box 7 RX9 wsX9_box D cA lo) (hr : meth.sig.returnType = (some .int)) (hlk : meth.locks = false) {Q : Int32 → Mm → Prop} {Cc Zz : Nat} (M : Mm) (a0 : Nat) (i1 : Int32) (i2 : Int32) (i3 : Int32) (i4 : Int32) (i5 : Int32) (i6 : Int32) (as0 : Nat) (is1 : Int32) (is2 : Int32) (cc zz : Nat) (h : S_X9_box_145 (fun (a0 : Nat) (M : Mm) (cc zz : Nat) => QW p l e ({ frames := 3, cells := Cc, slots := Zz, locals := 84 } : Room) s m args below meth c (MQ below (QiM D cA lo Q) args s Cc Zz (fun q => lo ≤ q)) 7 D cA lo cc zz M 68 [(0, .ref a0)] []) (fun (a0 : Nat) (M : Mm) (cc zz : Nat) => QW p l e ({ frames := 3, cells := Cc, slots := Zz, locals := 84 } : Room) s m args below meth c (MQ below (QiM D cA lo Q) args s Cc Zz (fun q => lo ≤ q)) 7 D cA lo cc zz M 99 [(0, .ref a0)] []) (fun (a0 : Nat) (i1 : Int32) (i2 : Int32) (i3 : Int32) (i4 : Int32) (i5 : Int32) (i6 : Int32) (M : Mm) (cc zz : Nat) => QW p l e ({ frames := 3, cells := Cc, slots := Zz, locals := 84 } : Room) s m args below meth c (MQ below (QiM D cA lo Q) args s Cc Zz (fun q => lo ≤ q)) 7 D cA lo cc zz M 114 [(0, .ref a0), (1, .int i1), (2, .int i2), (3, .int i3), (4, .int i4), (5, .int i5), (6, .int i6)] []) (fun (a0 : Nat) (i1 : Int32) (i2 : Int32) (i3 : Int32) (i4 : Int32) (i5 : Int32) (i6 : Int32) (as0 : Nat) (is1 : Int32) (is2 : Int32) (M : Mm) (cc zz : Nat) => QW p l e ({ frames := 3, cells := Cc, slots := Zz, locals := 84 } : Room) s m args below meth c (MQ below (QiM D cA lo Q) args s Cc Zz (fun q => lo ≤ q)) 7 D cA lo cc zz M 145 [(0, .ref a0), (1, .int i1), (2, .int i2), (3, .int i3), (4, .int i4), (5, .int i5), (6, .int i6)] [.int is2, .int is1, .ref as0]) (fun (a0 : Nat) (i1 : Int32) (i2 : Int32) (i3 : Int32) (i4 : Int32) (i5 : Int32) (i6 : Int32) (as0 : Nat) (is1 : Int32) (is2 : Int32) (is3 : Int32) (M : Mm) (cc zz : Nat) => QW p l e ({ frames := 3, cells := Cc, slots := Zz, locals := 84 } : Room) s m args below meth c (MQ below (QiM D cA lo Q) args s Cc Zz (fun q => lo ≤ q)) 7 D cA lo cc zz M 161 [(0, .ref a0), (1, .int i1), (2, .int i2), (3, .int i3), (4, .int i4), (5, .int i5), (6, .int i6)] [.int is3, .int is2, .int is1, .ref as0]) (fun (a0 : Nat) (i1 : Int32) (i2 : Int32) (i3 : Int32) (i4 : Int32) (i5 : Int32) (i6 : Int32) (as0 : Nat) (is1 : Int32) (is2 : Int32) (is3 : Int32) (is4 : Int32) (M : Mm) (cc zz : Nat) => QW p l e ({ frames := 3, cells := Cc, slots := Zz, locals := 84 } : Room) s m args below meth c (MQ below (QiM D cA lo Q) args s Cc Zz (fun q => lo ≤ q)) 7 D cA lo cc zz M 175 [(0, .ref a0), (1, .int i1), (2, .int i2), (3, .int i3), (4, .int i4), (5, .int i5), (6, .int i6)] [.int is4, .int is3, .int is2, .int is1, .ref as0]) Cc Zz Q M a0 i1 i2 i3 i4 i5 i6 as0 is1 is2 cc zz) : QW p l e ({ frames := 3, cells := Cc, slots := Zz, locals := 84 } : Room) s m args below meth c (MQ below (QiM D cA lo Q) args s Cc Zz (fun q => lo ≤ q)) 7 D cA lo cc zz M 145 [(0, .ref a0), (1, .int i1), (2, .int i2), (3, .int i3), (4, .int i4), (5, .int i5), (6, .int i6)] [.int is2, .int is1, .ref as0] := by
  unfold S_X9_box_145 at h
  refine q_iadd C dX9_box_145 ?_
  refine q_iload_n C dX9_box_146 rfl (j := 2) rfl ?_
  refine q_iload C dX9_box_147 (j := 6) rfl ?_
  refine q_iconst (v := 4) C dX9_box_149 (by decide) ?_
  refine q_irem C dX9_box_150 (by decide) ?_
  refine q_iconst (v := 1) C dX9_box_151 (by decide) ?_
  refine q_icmp_le (tgt := 160) C dX9_box_152 (by decide) (fun z => ?_) (fun z => ?_)
  · have h := h.1 z
    refine q_iconst (v := 0) C dX9_box_160 (by decide) ?_
    exact q_sub [0, 1, 2, 3, 4, 5, 6] rfl h
  · have h := h.2 z
    refine q_iload C dX9_box_155 (j := 4) rfl ?_
    refine q_goto (tgt := 161) C dX9_box_157 (by decide) ?_
    exact q_sub [0, 1, 2, 3, 4, 5, 6] rfl h
set_option maxRecDepth 100000 in
set_option maxHeartbeats 4000000 in
theorem b_X9_box_161 {p : Program} {l : Launch} {e : Env} {s : State} {m : MethodId} {args : Array Value} {below : List Frame} {meth : Method} {c : Code} {D : va_G} {cA : Nat → ClassId} {lo : Nat} (C : Cx p s m args c cX9_box 7 RX9 wsX9_box D cA lo) (hr : meth.sig.returnType = (some .int)) (hlk : meth.locks = false) {Q : Int32 → Mm → Prop} {Cc Zz : Nat} (M : Mm) (a0 : Nat) (i1 : Int32) (i2 : Int32) (i3 : Int32) (i4 : Int32) (i5 : Int32) (i6 : Int32) (as0 : Nat) (is1 : Int32) (is2 : Int32) (is3 : Int32) (cc zz : Nat) (h : S_X9_box_161 (fun (a0 : Nat) (M : Mm) (cc zz : Nat) => QW p l e ({ frames := 3, cells := Cc, slots := Zz, locals := 84 } : Room) s m args below meth c (MQ below (QiM D cA lo Q) args s Cc Zz (fun q => lo ≤ q)) 7 D cA lo cc zz M 68 [(0, .ref a0)] []) (fun (a0 : Nat) (M : Mm) (cc zz : Nat) => QW p l e ({ frames := 3, cells := Cc, slots := Zz, locals := 84 } : Room) s m args below meth c (MQ below (QiM D cA lo Q) args s Cc Zz (fun q => lo ≤ q)) 7 D cA lo cc zz M 99 [(0, .ref a0)] []) (fun (a0 : Nat) (i1 : Int32) (i2 : Int32) (i3 : Int32) (i4 : Int32) (i5 : Int32) (i6 : Int32) (M : Mm) (cc zz : Nat) => QW p l e ({ frames := 3, cells := Cc, slots := Zz, locals := 84 } : Room) s m args below meth c (MQ below (QiM D cA lo Q) args s Cc Zz (fun q => lo ≤ q)) 7 D cA lo cc zz M 114 [(0, .ref a0), (1, .int i1), (2, .int i2), (3, .int i3), (4, .int i4), (5, .int i5), (6, .int i6)] []) (fun (a0 : Nat) (i1 : Int32) (i2 : Int32) (i3 : Int32) (i4 : Int32) (i5 : Int32) (i6 : Int32) (as0 : Nat) (is1 : Int32) (is2 : Int32) (M : Mm) (cc zz : Nat) => QW p l e ({ frames := 3, cells := Cc, slots := Zz, locals := 84 } : Room) s m args below meth c (MQ below (QiM D cA lo Q) args s Cc Zz (fun q => lo ≤ q)) 7 D cA lo cc zz M 145 [(0, .ref a0), (1, .int i1), (2, .int i2), (3, .int i3), (4, .int i4), (5, .int i5), (6, .int i6)] [.int is2, .int is1, .ref as0]) (fun (a0 : Nat) (i1 : Int32) (i2 : Int32) (i3 : Int32) (i4 : Int32) (i5 : Int32) (i6 : Int32) (as0 : Nat) (is1 : Int32) (is2 : Int32) (is3 : Int32) (M : Mm) (cc zz : Nat) => QW p l e ({ frames := 3, cells := Cc, slots := Zz, locals := 84 } : Room) s m args below meth c (MQ below (QiM D cA lo Q) args s Cc Zz (fun q => lo ≤ q)) 7 D cA lo cc zz M 161 [(0, .ref a0), (1, .int i1), (2, .int i2), (3, .int i3), (4, .int i4), (5, .int i5), (6, .int i6)] [.int is3, .int is2, .int is1, .ref as0]) (fun (a0 : Nat) (i1 : Int32) (i2 : Int32) (i3 : Int32) (i4 : Int32) (i5 : Int32) (i6 : Int32) (as0 : Nat) (is1 : Int32) (is2 : Int32) (is3 : Int32) (is4 : Int32) (M : Mm) (cc zz : Nat) => QW p l e ({ frames := 3, cells := Cc, slots := Zz, locals := 84 } : Room) s m args below meth c (MQ below (QiM D cA lo Q) args s Cc Zz (fun q => lo ≤ q)) 7 D cA lo cc zz M 175 [(0, .ref a0), (1, .int i1), (2, .int i2), (3, .int i3), (4, .int i4), (5, .int i5), (6, .int i6)] [.int is4, .int is3, .int is2, .int is1, .ref as0]) Cc Zz Q M a0 i1 i2 i3 i4 i5 i6 as0 is1 is2 is3 cc zz) : QW p l e ({ frames := 3, cells := Cc, slots := Zz, locals := 84 } : Room) s m args below meth c (MQ below (QiM D cA lo Q) args s Cc Zz (fun q => lo ≤ q)) 7 D cA lo cc zz M 161 [(0, .ref a0), (1, .int i1), (2, .int i2), (3, .int i3), (4, .int i4), (5, .int i5), (6, .int i6)] [.int is3, .int is2, .int is1, .ref as0] := by
  unfold S_X9_box_161 at h
  refine q_iadd C dX9_box_161 ?_
  refine q_iload_n C dX9_box_162 rfl (j := 3) rfl ?_
  refine q_iload C dX9_box_163 (j := 6) rfl ?_
  refine q_iconst (v := 3) C dX9_box_165 (by decide) ?_
  refine q_icmp_le (tgt := 174) C dX9_box_166 (by decide) (fun z => ?_) (fun z => ?_)
  · have h := h.1 z
    refine q_iconst (v := 0) C dX9_box_174 (by decide) ?_
    exact q_sub [0, 1, 2, 3, 4, 5, 6] rfl h
  · have h := h.2 z
    refine q_iload C dX9_box_169 (j := 4) rfl ?_
    refine q_goto (tgt := 175) C dX9_box_171 (by decide) ?_
    exact q_sub [0, 1, 2, 3, 4, 5, 6] rfl h
set_option maxRecDepth 100000 in
set_option maxHeartbeats 4000000 in
theorem b_X9_box_175 {p : Program} {l : Launch} {e : Env} {s : State} {m : MethodId} {args : Array Value} {below : List Frame} {meth : Method} {c : Code} {D : va_G} {cA : Nat → ClassId} {lo : Nat} (C : Cx p s m args c cX9_box 7 RX9 wsX9_box D cA lo) (hr : meth.sig.returnType = (some .int)) (hlk : meth.locks = false) {Q : Int32 → Mm → Prop} {Cc Zz : Nat} (M : Mm) (a0 : Nat) (i1 : Int32) (i2 : Int32) (i3 : Int32) (i4 : Int32) (i5 : Int32) (i6 : Int32) (as0 : Nat) (is1 : Int32) (is2 : Int32) (is3 : Int32) (is4 : Int32) (cc zz : Nat) (h : S_X9_box_175 (fun (a0 : Nat) (M : Mm) (cc zz : Nat) => QW p l e ({ frames := 3, cells := Cc, slots := Zz, locals := 84 } : Room) s m args below meth c (MQ below (QiM D cA lo Q) args s Cc Zz (fun q => lo ≤ q)) 7 D cA lo cc zz M 68 [(0, .ref a0)] []) (fun (a0 : Nat) (M : Mm) (cc zz : Nat) => QW p l e ({ frames := 3, cells := Cc, slots := Zz, locals := 84 } : Room) s m args below meth c (MQ below (QiM D cA lo Q) args s Cc Zz (fun q => lo ≤ q)) 7 D cA lo cc zz M 99 [(0, .ref a0)] []) (fun (a0 : Nat) (i1 : Int32) (i2 : Int32) (i3 : Int32) (i4 : Int32) (i5 : Int32) (i6 : Int32) (M : Mm) (cc zz : Nat) => QW p l e ({ frames := 3, cells := Cc, slots := Zz, locals := 84 } : Room) s m args below meth c (MQ below (QiM D cA lo Q) args s Cc Zz (fun q => lo ≤ q)) 7 D cA lo cc zz M 114 [(0, .ref a0), (1, .int i1), (2, .int i2), (3, .int i3), (4, .int i4), (5, .int i5), (6, .int i6)] []) (fun (a0 : Nat) (i1 : Int32) (i2 : Int32) (i3 : Int32) (i4 : Int32) (i5 : Int32) (i6 : Int32) (as0 : Nat) (is1 : Int32) (is2 : Int32) (M : Mm) (cc zz : Nat) => QW p l e ({ frames := 3, cells := Cc, slots := Zz, locals := 84 } : Room) s m args below meth c (MQ below (QiM D cA lo Q) args s Cc Zz (fun q => lo ≤ q)) 7 D cA lo cc zz M 145 [(0, .ref a0), (1, .int i1), (2, .int i2), (3, .int i3), (4, .int i4), (5, .int i5), (6, .int i6)] [.int is2, .int is1, .ref as0]) (fun (a0 : Nat) (i1 : Int32) (i2 : Int32) (i3 : Int32) (i4 : Int32) (i5 : Int32) (i6 : Int32) (as0 : Nat) (is1 : Int32) (is2 : Int32) (is3 : Int32) (M : Mm) (cc zz : Nat) => QW p l e ({ frames := 3, cells := Cc, slots := Zz, locals := 84 } : Room) s m args below meth c (MQ below (QiM D cA lo Q) args s Cc Zz (fun q => lo ≤ q)) 7 D cA lo cc zz M 161 [(0, .ref a0), (1, .int i1), (2, .int i2), (3, .int i3), (4, .int i4), (5, .int i5), (6, .int i6)] [.int is3, .int is2, .int is1, .ref as0]) (fun (a0 : Nat) (i1 : Int32) (i2 : Int32) (i3 : Int32) (i4 : Int32) (i5 : Int32) (i6 : Int32) (as0 : Nat) (is1 : Int32) (is2 : Int32) (is3 : Int32) (is4 : Int32) (M : Mm) (cc zz : Nat) => QW p l e ({ frames := 3, cells := Cc, slots := Zz, locals := 84 } : Room) s m args below meth c (MQ below (QiM D cA lo Q) args s Cc Zz (fun q => lo ≤ q)) 7 D cA lo cc zz M 175 [(0, .ref a0), (1, .int i1), (2, .int i2), (3, .int i3), (4, .int i4), (5, .int i5), (6, .int i6)] [.int is4, .int is3, .int is2, .int is1, .ref as0]) Cc Zz Q M a0 i1 i2 i3 i4 i5 i6 as0 is1 is2 is3 is4 cc zz) : QW p l e ({ frames := 3, cells := Cc, slots := Zz, locals := 84 } : Room) s m args below meth c (MQ below (QiM D cA lo Q) args s Cc Zz (fun q => lo ≤ q)) 7 D cA lo cc zz M 175 [(0, .ref a0), (1, .int i1), (2, .int i2), (3, .int i3), (4, .int i4), (5, .int i5), (6, .int i6)] [.int is4, .int is3, .int is2, .int is1, .ref as0] := by
  unfold S_X9_box_175 at h
  refine q_iadd C dX9_box_175 ?_
  obtain ⟨dc_58, ds_58, hcz, h⟩ := h
  refine q_ci (q_runV (As := [.int is1, .int is2, .int (is3 + is4)]) (st := []) C (c_X9_newPoint l D cA lo h.2) (cwV 3 C.2.2.2.2.1 gX9_box_X9_newPoint rfl rfl rfl (by decide +kernel) ⟨Nat.le_of_ble_eq_true rfl, Nat.le_of_ble_eq_true rfl⟩) h.1 (by decide) rfl rfl rfl (Nat.le_of_ble_eq_true rfl) dX9_box_176 hcz) (fun r_56 M_57 h => ?_)
  refine q_pop C dX9_box_179 rfl ?_
  refine q_iinc (v := (i6 + 1)) (lv' := [(6, .int (i6 + 1)), (0, .ref a0), (1, .int i1), (2, .int i2), (3, .int i3), (4, .int i4), (5, .int i5)]) C dX9_box_180 (j := 6) rfl rfl (by decide) rfl ?_
  refine q_goto (tgt := 114) C dX9_box_183 (by decide) ?_
  exact q_sub [1, 2, 3, 4, 5, 6, 0] rfl h
set_option maxRecDepth 100000 in
set_option maxHeartbeats 4000000 in
theorem c_X9_box (l : Launch) (D : va_G) (cA : Nat → ClassId) (lo : Nat) {M : Mm} {a0 : Nat} {i1 : Int32} {i2 : Int32} {i3 : Int32} {i4 : Int32} {Cc Zz : Nat} {Q : Int32 → Mm → Prop} (h : T_X9_box Cc Zz M a0 i1 i2 i3 i4 Q) : Met l yX9_box wsX9_box ({ frames := 3, cells := Cc, slots := Zz, locals := 84 } : Room) (PcM D cA lo [.ref a0, .int i1, .int i2, .int i3, .int i4] M) (QiM D cA lo Q) Cc Zz (fun q => lo ≤ q) := by
  refine q_start (cc := cX9_box) (nL := 7) (ret := (some .int)) (by decide) rfl rfl (Nat.le_of_ble_eq_true rfl) ?_
  intro p e s m args below meth c C hr hlk hin
  unfold T_X9_box at h
  have h := h (fun (a0 : Nat) (M : Mm) (cc zz : Nat) => QW p l e ({ frames := 3, cells := Cc, slots := Zz, locals := 84 } : Room) s m args below meth c (MQ below (QiM D cA lo Q) args s Cc Zz (fun q => lo ≤ q)) 7 D cA lo cc zz M 68 [(0, .ref a0)] []) (fun (a0 : Nat) (M : Mm) (cc zz : Nat) => QW p l e ({ frames := 3, cells := Cc, slots := Zz, locals := 84 } : Room) s m args below meth c (MQ below (QiM D cA lo Q) args s Cc Zz (fun q => lo ≤ q)) 7 D cA lo cc zz M 99 [(0, .ref a0)] []) (fun (a0 : Nat) (i1 : Int32) (i2 : Int32) (i3 : Int32) (i4 : Int32) (i5 : Int32) (i6 : Int32) (M : Mm) (cc zz : Nat) => QW p l e ({ frames := 3, cells := Cc, slots := Zz, locals := 84 } : Room) s m args below meth c (MQ below (QiM D cA lo Q) args s Cc Zz (fun q => lo ≤ q)) 7 D cA lo cc zz M 114 [(0, .ref a0), (1, .int i1), (2, .int i2), (3, .int i3), (4, .int i4), (5, .int i5), (6, .int i6)] []) (fun (a0 : Nat) (i1 : Int32) (i2 : Int32) (i3 : Int32) (i4 : Int32) (i5 : Int32) (i6 : Int32) (as0 : Nat) (is1 : Int32) (is2 : Int32) (M : Mm) (cc zz : Nat) => QW p l e ({ frames := 3, cells := Cc, slots := Zz, locals := 84 } : Room) s m args below meth c (MQ below (QiM D cA lo Q) args s Cc Zz (fun q => lo ≤ q)) 7 D cA lo cc zz M 145 [(0, .ref a0), (1, .int i1), (2, .int i2), (3, .int i3), (4, .int i4), (5, .int i5), (6, .int i6)] [.int is2, .int is1, .ref as0]) (fun (a0 : Nat) (i1 : Int32) (i2 : Int32) (i3 : Int32) (i4 : Int32) (i5 : Int32) (i6 : Int32) (as0 : Nat) (is1 : Int32) (is2 : Int32) (is3 : Int32) (M : Mm) (cc zz : Nat) => QW p l e ({ frames := 3, cells := Cc, slots := Zz, locals := 84 } : Room) s m args below meth c (MQ below (QiM D cA lo Q) args s Cc Zz (fun q => lo ≤ q)) 7 D cA lo cc zz M 161 [(0, .ref a0), (1, .int i1), (2, .int i2), (3, .int i3), (4, .int i4), (5, .int i5), (6, .int i6)] [.int is3, .int is2, .int is1, .ref as0]) (fun (a0 : Nat) (i1 : Int32) (i2 : Int32) (i3 : Int32) (i4 : Int32) (i5 : Int32) (i6 : Int32) (as0 : Nat) (is1 : Int32) (is2 : Int32) (is3 : Int32) (is4 : Int32) (M : Mm) (cc zz : Nat) => QW p l e ({ frames := 3, cells := Cc, slots := Zz, locals := 84 } : Room) s m args below meth c (MQ below (QiM D cA lo Q) args s Cc Zz (fun q => lo ≤ q)) 7 D cA lo cc zz M 175 [(0, .ref a0), (1, .int i1), (2, .int i2), (3, .int i3), (4, .int i4), (5, .int i5), (6, .int i6)] [.int is4, .int is3, .int is2, .int is1, .ref as0]) (fun a0 M cc zz h => b_X9_box_68 C hr hlk M a0 cc zz h) (fun a0 M cc zz h => b_X9_box_99 C hr hlk M a0 cc zz h) (fun a0 i1 i2 i3 i4 i5 i6 M cc zz h => b_X9_box_114 C hr hlk M a0 i1 i2 i3 i4 i5 i6 cc zz h) (fun a0 i1 i2 i3 i4 i5 i6 as0 is1 is2 M cc zz h => b_X9_box_145 C hr hlk M a0 i1 i2 i3 i4 i5 i6 as0 is1 is2 cc zz h) (fun a0 i1 i2 i3 i4 i5 i6 as0 is1 is2 is3 M cc zz h => b_X9_box_161 C hr hlk M a0 i1 i2 i3 i4 i5 i6 as0 is1 is2 is3 cc zz h) (fun a0 i1 i2 i3 i4 i5 i6 as0 is1 is2 is3 is4 M cc zz h => b_X9_box_175 C hr hlk M a0 i1 i2 i3 i4 i5 i6 as0 is1 is2 is3 is4 cc zz h)
  refine q_aload_n C dX9_box_0 rfl (j := 0) rfl ?_
  refine q_iconst (v := 0) C dX9_box_1 (by decide) ?_
  refine q_putI (ci := 9) (k0 := 0) (T := TX9) (v := 0) (ty := .int) C inX9_box_X9 tyX9 tyX9_ok nmX9 rfl (by decide) h.1 (by decide) rfl (by decide +kernel) rfl (by decide +kernel) rfl rfl rfl dX9_box_2 ?_
  have h := h.2
  refine q_iload C dX9_box_5 (j := 4) rfl ?_
  refine q_iconst (v := 1) C dX9_box_7 (by decide) ?_
  refine q_sipush (v := 500) C dX9_box_8 (by decide) ?_
  have hcz := h.1
  have h := h.2
  refine q_ci (q_runS (As := [.int i4, .int 1, .int 500]) (st := []) C (c_X9_is l D cA lo h) (va_cwS 3 C.2.2.2.2.1 gX9_box_X9_is rfl rfl rfl (by decide +kernel) ⟨Nat.le_of_ble_eq_true rfl, Nat.le_of_ble_eq_true rfl⟩) rfl rfl (Nat.le_of_ble_eq_true rfl) dX9_box_11 ⟨Nat.le_trans (Nat.le_of_eq (Nat.add_zero _)) hcz.1, Nat.le_trans (Nat.le_of_eq (Nat.add_zero _)) hcz.2⟩) (fun r_1 M_z h => ?_)
  refine q_mem h.1 ?_
  have h := h.2
  refine q_if_eq (tgt := 68) C dX9_box_14 (by decide) (fun z => ?_) (fun z => ?_)
  · have h := h.1 z
    exact q_sub [0] rfl h
  · have h := h.2 z
    refine q_iload_n C dX9_box_17 rfl (j := 1) rfl ?_
    have hcz := h.1
    have h := h.2
    refine q_ci (q_runS (As := [.int i1]) (st := []) C (c_X9_isNear l D cA lo h) (va_cwS 1 C.2.2.2.2.1 gX9_box_X9_isNear rfl rfl rfl (by decide +kernel) ⟨Nat.le_of_ble_eq_true rfl, Nat.le_of_ble_eq_true rfl⟩) rfl rfl (Nat.le_of_ble_eq_true rfl) dX9_box_18 ⟨Nat.le_trans (Nat.le_of_eq (Nat.add_zero _)) hcz.1, Nat.le_trans (Nat.le_of_eq (Nat.add_zero _)) hcz.2⟩) (fun r_2 M_z h => ?_)
    refine q_mem h.1 ?_
    have h := h.2
    refine q_if_eq (tgt := 68) C dX9_box_21 (by decide) (fun z => ?_) (fun z => ?_)
    · have h := h.1 z
      exact q_sub [0] rfl h
    · have h := h.2 z
      refine q_iload_n C dX9_box_24 rfl (j := 2) rfl ?_
      have hcz := h.1
      have h := h.2
      refine q_ci (q_runS (As := [.int i2]) (st := []) C (c_X9_isNear l D cA lo h) (va_cwS 1 C.2.2.2.2.1 gX9_box_X9_isNear rfl rfl rfl (by decide +kernel) ⟨Nat.le_of_ble_eq_true rfl, Nat.le_of_ble_eq_true rfl⟩) rfl rfl (Nat.le_of_ble_eq_true rfl) dX9_box_25 ⟨Nat.le_trans (Nat.le_of_eq (Nat.add_zero _)) hcz.1, Nat.le_trans (Nat.le_of_eq (Nat.add_zero _)) hcz.2⟩) (fun r_3 M_z h => ?_)
      refine q_mem h.1 ?_
      have h := h.2
      refine q_if_eq (tgt := 68) C dX9_box_28 (by decide) (fun z => ?_) (fun z => ?_)
      · have h := h.1 z
        exact q_sub [0] rfl h
      · have h := h.2 z
        refine q_iload_n C dX9_box_31 rfl (j := 3) rfl ?_
        have hcz := h.1
        have h := h.2
        refine q_ci (q_runS (As := [.int i3]) (st := []) C (c_X9_isNear l D cA lo h) (va_cwS 1 C.2.2.2.2.1 gX9_box_X9_isNear rfl rfl rfl (by decide +kernel) ⟨Nat.le_of_ble_eq_true rfl, Nat.le_of_ble_eq_true rfl⟩) rfl rfl (Nat.le_of_ble_eq_true rfl) dX9_box_32 ⟨Nat.le_trans (Nat.le_of_eq (Nat.add_zero _)) hcz.1, Nat.le_trans (Nat.le_of_eq (Nat.add_zero _)) hcz.2⟩) (fun r_4 M_z h => ?_)
        refine q_mem h.1 ?_
        have h := h.2
        refine q_if_eq (tgt := 68) C dX9_box_35 (by decide) (fun z => ?_) (fun z => ?_)
        · have h := h.1 z
          exact q_sub [0] rfl h
        · have h := h.2 z
          refine q_iload_n C dX9_box_38 rfl (j := 1) rfl ?_
          refine q_iload C dX9_box_39 (j := 4) rfl ?_
          refine q_iadd C dX9_box_41 ?_
          have hcz := h.1
          have h := h.2
          refine q_ci (q_runS (As := [.int (i1 + i4)]) (st := []) C (c_X9_isNear l D cA lo h) (va_cwS 1 C.2.2.2.2.1 gX9_box_X9_isNear rfl rfl rfl (by decide +kernel) ⟨Nat.le_of_ble_eq_true rfl, Nat.le_of_ble_eq_true rfl⟩) rfl rfl (Nat.le_of_ble_eq_true rfl) dX9_box_42 ⟨Nat.le_trans (Nat.le_of_eq (Nat.add_zero _)) hcz.1, Nat.le_trans (Nat.le_of_eq (Nat.add_zero _)) hcz.2⟩) (fun r_5 M_z h => ?_)
          refine q_mem h.1 ?_
          have h := h.2
          refine q_if_eq (tgt := 68) C dX9_box_45 (by decide) (fun z => ?_) (fun z => ?_)
          · have h := h.1 z
            exact q_sub [0] rfl h
          · have h := h.2 z
            refine q_iload_n C dX9_box_48 rfl (j := 2) rfl ?_
            refine q_iload C dX9_box_49 (j := 4) rfl ?_
            refine q_iadd C dX9_box_51 ?_
            have hcz := h.1
            have h := h.2
            refine q_ci (q_runS (As := [.int (i2 + i4)]) (st := []) C (c_X9_isNear l D cA lo h) (va_cwS 1 C.2.2.2.2.1 gX9_box_X9_isNear rfl rfl rfl (by decide +kernel) ⟨Nat.le_of_ble_eq_true rfl, Nat.le_of_ble_eq_true rfl⟩) rfl rfl (Nat.le_of_ble_eq_true rfl) dX9_box_52 ⟨Nat.le_trans (Nat.le_of_eq (Nat.add_zero _)) hcz.1, Nat.le_trans (Nat.le_of_eq (Nat.add_zero _)) hcz.2⟩) (fun r_6 M_z h => ?_)
            refine q_mem h.1 ?_
            have h := h.2
            refine q_if_eq (tgt := 68) C dX9_box_55 (by decide) (fun z => ?_) (fun z => ?_)
            · have h := h.1 z
              exact q_sub [0] rfl h
            · have h := h.2 z
              refine q_iload_n C dX9_box_58 rfl (j := 3) rfl ?_
              refine q_iload C dX9_box_59 (j := 4) rfl ?_
              refine q_iadd C dX9_box_61 ?_
              have hcz := h.1
              have h := h.2
              refine q_ci (q_runS (As := [.int (i3 + i4)]) (st := []) C (c_X9_isNear l D cA lo h) (va_cwS 1 C.2.2.2.2.1 gX9_box_X9_isNear rfl rfl rfl (by decide +kernel) ⟨Nat.le_of_ble_eq_true rfl, Nat.le_of_ble_eq_true rfl⟩) rfl rfl (Nat.le_of_ble_eq_true rfl) dX9_box_62 ⟨Nat.le_trans (Nat.le_of_eq (Nat.add_zero _)) hcz.1, Nat.le_trans (Nat.le_of_eq (Nat.add_zero _)) hcz.2⟩) (fun r_7 M_z h => ?_)
              refine q_mem h.1 ?_
              have h := h.2
              refine q_if_ne (tgt := 74) C dX9_box_65 (by decide) (fun z => ?_) (fun z => ?_)
              · have h := h.1 z
                refine q_aload_n C dX9_box_74 rfl (j := 0) rfl ?_
                refine q_getI (ci := 9) (k0 := 3) (T := TX9) C inX9_box_X9 rfl (by decide) h.1 (by decide) rfl (by decide +kernel) rfl dX9_box_75 ?_
                have h := h.2
                refine q_bipush (v := 8) C dX9_box_78 (by decide) ?_
                refine q_iadd C dX9_box_80 ?_
                refine q_bipush (v := 100) C dX9_box_81 (by decide) ?_
                refine q_icmp_gt (tgt := 99) C dX9_box_83 (by decide) (fun z => ?_) (fun z => ?_)
                · have h := h.1 z
                  exact q_sub [0] rfl h
                · have h := h.2 z
                  refine q_aload_n C dX9_box_86 rfl (j := 0) rfl ?_
                  refine q_getI (ci := 9) (k0 := 5) (T := TX9) C inX9_box_X9 rfl (by decide) h.1 (by decide) rfl (by decide +kernel) rfl dX9_box_87 ?_
                  have h := h.2
                  refine q_bipush (v := 6) C dX9_box_90 (by decide) ?_
                  refine q_iadd C dX9_box_92 ?_
                  refine q_sipush (v := 160) C dX9_box_93 (by decide) ?_
                  refine q_icmp_le (tgt := 105) C dX9_box_96 (by decide) (fun z => ?_) (fun z => ?_)
                  · have h := h.1 z
                    refine q_aload_n C dX9_box_105 rfl (j := 0) rfl ?_
                    refine q_getI (ci := 9) (k0 := 3) (T := TX9) C inX9_box_X9 rfl (by decide) h.1 (by decide) rfl (by decide +kernel) rfl dX9_box_106 ?_
                    have h := h.2
                    refine q_istore (lv' := [(5, .int (iM (wI M a0 0 0) a0 3)), (0, .ref a0), (1, .int i1), (2, .int i2), (3, .int i3), (4, .int i4)]) C dX9_box_109 (by decide) rfl ?_
                    refine q_iconst (v := 0) C dX9_box_111 (by decide) ?_
                    refine q_istore (lv' := [(6, .int 0), (5, .int (iM (wI M a0 0 0) a0 3)), (0, .ref a0), (1, .int i1), (2, .int i2), (3, .int i3), (4, .int i4)]) C dX9_box_112 (by decide) rfl ?_
                    exact q_sub [2, 3, 4, 5, 6, 1, 0] rfl h
                  · have h := h.2 z
                    exact q_sub [0] rfl h
              · have h := h.2 z
                exact q_sub [0] rfl h
def S_X9_split_21 (K21 : Nat → Mm → Prop) (Q : Int32 → Mm → Prop) (M : Mm) (a0 : Nat) : Prop := kM M a0 = (9, 13) ∧ T_X9_refuse M a0 1 (fun r_3 M_4 => Q r_3 M_4)
def T_X9_split (M : Mm) (a0 : Nat) (i1 : Int32) (i2 : Int32) (Q : Int32 → Mm → Prop) : Prop := ∀ (K21 : Nat → Mm → Prop), (∀ (a0 : Nat) (M : Mm), S_X9_split_21 K21 Q M a0 → K21 a0 M) → kM M a0 = (9, 13) ∧ kM (wI M a0 0 0) a0 = (9, 13) ∧ T_X9_isPoint (wI M a0 0 0) a0 i1 (fun r_1 => (r_1 = 0 → K21 a0 (wI M a0 0 0)) ∧ (¬ r_1 = 0 → kM (wI M a0 0 0) a0 = (9, 13) ∧ T_X9_isPoint (wI M a0 0 0) a0 i2 (fun r_2 => (¬ r_2 = 0 → False) ∧ (r_2 = 0 → K21 a0 (wI M a0 0 0)))))
theorem inX9_split_X9 : ∀ w ∈ wsX90, w ∈ wsX9_split := by decide +kernel
set_option maxRecDepth 100000 in
set_option maxHeartbeats 4000000 in
theorem b_X9_split_21 {p : Program} {l : Launch} {e : Env} {s : State} {m : MethodId} {args : Array Value} {below : List Frame} {meth : Method} {c : Code} {D : va_G} {cA : Nat → ClassId} {lo : Nat} (C : Cx p s m args c cX9_split 6 RX9 wsX9_split D cA lo) (hr : meth.sig.returnType = (some .int)) (hlk : meth.locks = false) {Q : Int32 → Mm → Prop} (M : Mm) (a0 : Nat) (h : S_X9_split_21 (fun (a0 : Nat) (M : Mm) => QW p l e ({ frames := 2, cells := 0, slots := 0, locals := 43 } : Room) s m args below meth c (MQ below (QiM D cA lo Q) args s 0 0 (fun q => lo ≤ q)) 6 D cA lo 0 0 M 21 [(0, .ref a0)] []) Q M a0) : QW p l e ({ frames := 2, cells := 0, slots := 0, locals := 43 } : Room) s m args below meth c (MQ below (QiM D cA lo Q) args s 0 0 (fun q => lo ≤ q)) 6 D cA lo 0 0 M 21 [(0, .ref a0)] [] := by
  unfold S_X9_split_21 at h
  refine q_aload_n C dX9_split_21 rfl (j := 0) rfl ?_
  refine q_iconst (v := 1) C dX9_split_22 (by decide) ?_
  refine q_ci (q_runV (As := [.int 1]) (st := []) C (c_X9_refuse l D cA lo h.2) (cwV 1 C.2.2.2.2.1 gX9_split_X9_refuse rfl rfl rfl (by decide +kernel) ⟨Nat.le_of_ble_eq_true rfl, Nat.le_of_ble_eq_true rfl⟩) h.1 (by decide) rfl rfl rfl (Nat.le_of_ble_eq_true rfl) dX9_split_23 ⟨Nat.le_of_ble_eq_true rfl, Nat.le_of_ble_eq_true rfl⟩) (fun r_3 M_4 h => ?_)
  exact q_iret C hr hlk dX9_split_26 (Nat.le_of_ble_eq_true rfl) (Nat.le_of_ble_eq_true rfl) h
set_option maxRecDepth 100000 in
set_option maxHeartbeats 4000000 in
theorem c_X9_split (l : Launch) (D : va_G) (cA : Nat → ClassId) (lo : Nat) {M : Mm} {a0 : Nat} {i1 : Int32} {i2 : Int32} {Q : Int32 → Mm → Prop} (h : T_X9_split M a0 i1 i2 Q) : Met l yX9_split wsX9_split ({ frames := 2, cells := 0, slots := 0, locals := 43 } : Room) (PcM D cA lo [.ref a0, .int i1, .int i2] M) (QiM D cA lo Q) 0 0 (fun q => lo ≤ q) := by
  refine q_start (cc := cX9_split) (nL := 6) (ret := (some .int)) (by decide) rfl rfl (Nat.le_of_ble_eq_true rfl) ?_
  intro p e s m args below meth c C hr hlk hin
  unfold T_X9_split at h
  have h := h (fun (a0 : Nat) (M : Mm) => QW p l e ({ frames := 2, cells := 0, slots := 0, locals := 43 } : Room) s m args below meth c (MQ below (QiM D cA lo Q) args s 0 0 (fun q => lo ≤ q)) 6 D cA lo 0 0 M 21 [(0, .ref a0)] []) (fun a0 M h => b_X9_split_21 C hr hlk M a0 h)
  refine q_aload_n C dX9_split_0 rfl (j := 0) rfl ?_
  refine q_iconst (v := 0) C dX9_split_1 (by decide) ?_
  refine q_putI (ci := 9) (k0 := 0) (T := TX9) (v := 0) (ty := .int) C inX9_split_X9 tyX9 tyX9_ok nmX9 rfl (by decide) h.1 (by decide) rfl (by decide +kernel) rfl (by decide +kernel) rfl rfl rfl dX9_split_2 ?_
  have h := h.2
  refine q_aload_n C dX9_split_5 rfl (j := 0) rfl ?_
  refine q_iload_n C dX9_split_6 rfl (j := 1) rfl ?_
  refine q_ci (q_runV (As := [.int i1]) (st := []) C (c_X9_isPoint l D cA lo h.2) (cwV 1 C.2.2.2.2.1 gX9_split_X9_isPoint rfl rfl rfl (by decide +kernel) ⟨Nat.le_of_ble_eq_true rfl, Nat.le_of_ble_eq_true rfl⟩) h.1 (by decide) rfl rfl rfl (Nat.le_of_ble_eq_true rfl) dX9_split_7 ⟨Nat.le_of_ble_eq_true rfl, Nat.le_of_ble_eq_true rfl⟩) (fun r_1 M_z h => ?_)
  refine q_mem h.1 ?_
  have h := h.2
  refine q_if_eq (tgt := 21) C dX9_split_10 (by decide) (fun z => ?_) (fun z => ?_)
  · have h := h.1 z
    exact q_sub [0] rfl h
  · have h := h.2 z
    refine q_aload_n C dX9_split_13 rfl (j := 0) rfl ?_
    refine q_iload_n C dX9_split_14 rfl (j := 2) rfl ?_
    refine q_ci (q_runV (As := [.int i2]) (st := []) C (c_X9_isPoint l D cA lo h.2) (cwV 1 C.2.2.2.2.1 gX9_split_X9_isPoint rfl rfl rfl (by decide +kernel) ⟨Nat.le_of_ble_eq_true rfl, Nat.le_of_ble_eq_true rfl⟩) h.1 (by decide) rfl rfl rfl (Nat.le_of_ble_eq_true rfl) dX9_split_15 ⟨Nat.le_of_ble_eq_true rfl, Nat.le_of_ble_eq_true rfl⟩) (fun r_2 M_z h => ?_)
    refine q_mem h.1 ?_
    have h := h.2
    refine q_if_ne (tgt := 27) C dX9_split_18 (by decide) (fun z => ?_) (fun z => ?_)
    · have h := h.1 z
      refine q_aload_n C dX9_split_27 rfl (j := 0) rfl ?_
      refine q_iload_n C dX9_split_28 rfl (j := 1) rfl ?_
      refine q_iload_n C dX9_split_29 rfl (j := 2) rfl ?_
      exact h.elim
    · have h := h.2 z
      exact q_sub [0] rfl h
def T_X9_cut (M : Mm) (a0 : Nat) (i1 : Int32) (i2 : Int32) (i3 : Int32) (Q : Int32 → Mm → Prop) : Prop := kM M a0 = (9, 13) ∧ kM (wI M a0 0 0) a0 = (9, 13) ∧ T_X9_isFace (wI M a0 0 0) a0 i1 (fun r_1 => (¬ r_1 = 0 → False) ∧ (r_1 = 0 → kM (wI M a0 0 0) a0 = (9, 13) ∧ T_X9_refuse (wI M a0 0 0) a0 1 (fun r_2 M_3 => Q r_2 M_3)))
theorem inX9_cut_X9 : ∀ w ∈ wsX90, w ∈ wsX9_cut := by decide +kernel
set_option maxRecDepth 100000 in
set_option maxHeartbeats 4000000 in
theorem c_X9_cut (l : Launch) (D : va_G) (cA : Nat → ClassId) (lo : Nat) {M : Mm} {a0 : Nat} {i1 : Int32} {i2 : Int32} {i3 : Int32} {Q : Int32 → Mm → Prop} (h : T_X9_cut M a0 i1 i2 i3 Q) : Met l yX9_cut wsX9_cut ({ frames := 2, cells := 0, slots := 0, locals := 43 } : Room) (PcM D cA lo [.ref a0, .int i1, .int i2, .int i3] M) (QiM D cA lo Q) 0 0 (fun q => lo ≤ q) := by
  refine q_start (cc := cX9_cut) (nL := 7) (ret := (some .int)) (by decide) rfl rfl (Nat.le_of_ble_eq_true rfl) ?_
  intro p e s m args below meth c C hr hlk hin
  unfold T_X9_cut at h
  refine q_aload_n C dX9_cut_0 rfl (j := 0) rfl ?_
  refine q_iconst (v := 0) C dX9_cut_1 (by decide) ?_
  refine q_putI (ci := 9) (k0 := 0) (T := TX9) (v := 0) (ty := .int) C inX9_cut_X9 tyX9 tyX9_ok nmX9 rfl (by decide) h.1 (by decide) rfl (by decide +kernel) rfl (by decide +kernel) rfl rfl rfl dX9_cut_2 ?_
  have h := h.2
  refine q_aload_n C dX9_cut_5 rfl (j := 0) rfl ?_
  refine q_iload_n C dX9_cut_6 rfl (j := 1) rfl ?_
  refine q_ci (q_runV (As := [.int i1]) (st := []) C (c_X9_isFace l D cA lo h.2) (cwV 1 C.2.2.2.2.1 gX9_cut_X9_isFace rfl rfl rfl (by decide +kernel) ⟨Nat.le_of_ble_eq_true rfl, Nat.le_of_ble_eq_true rfl⟩) h.1 (by decide) rfl rfl rfl (Nat.le_of_ble_eq_true rfl) dX9_cut_7 ⟨Nat.le_of_ble_eq_true rfl, Nat.le_of_ble_eq_true rfl⟩) (fun r_1 M_z h => ?_)
  refine q_mem h.1 ?_
  have h := h.2
  refine q_if_ne (tgt := 19) C dX9_cut_10 (by decide) (fun z => ?_) (fun z => ?_)
  · have h := h.1 z
    refine q_aload_n C dX9_cut_19 rfl (j := 0) rfl ?_
    refine q_iload_n C dX9_cut_20 rfl (j := 1) rfl ?_
    refine q_iload_n C dX9_cut_21 rfl (j := 2) rfl ?_
    exact h.elim
  · have h := h.2 z
    refine q_aload_n C dX9_cut_13 rfl (j := 0) rfl ?_
    refine q_iconst (v := 1) C dX9_cut_14 (by decide) ?_
    refine q_ci (q_runV (As := [.int 1]) (st := []) C (c_X9_refuse l D cA lo h.2) (cwV 1 C.2.2.2.2.1 gX9_cut_X9_refuse rfl rfl rfl (by decide +kernel) ⟨Nat.le_of_ble_eq_true rfl, Nat.le_of_ble_eq_true rfl⟩) h.1 (by decide) rfl rfl rfl (Nat.le_of_ble_eq_true rfl) dX9_cut_15 ⟨Nat.le_of_ble_eq_true rfl, Nat.le_of_ble_eq_true rfl⟩) (fun r_2 M_3 h => ?_)
    exact q_iret C hr hlk dX9_cut_18 (Nat.le_of_ble_eq_true rfl) (Nat.le_of_ble_eq_true rfl) h
def S_X9_join__21 (K21 : Nat → Mm → Prop) (K53 : Nat → Mm → Prop) (Q : Int32 → Mm → Prop) (M : Mm) (a0 : Nat) : Prop := kM M a0 = (9, 13) ∧ T_X9_refuse M a0 1 (fun r_15 M_16 => Q r_15 M_16)
def S_X9_join__53 (K21 : Nat → Mm → Prop) (K53 : Nat → Mm → Prop) (Q : Int32 → Mm → Prop) (M : Mm) (a0 : Nat) : Prop := kM M a0 = (9, 13) ∧ T_X9_refuse M a0 2 (fun r_17 M_18 => Q r_17 M_18)
def T_X9_join_ (M : Mm) (a0 : Nat) (i1 : Int32) (i2 : Int32) (Q : Int32 → Mm → Prop) : Prop := ∀ (K21 : Nat → Mm → Prop) (K53 : Nat → Mm → Prop), (∀ (a0 : Nat) (M : Mm), S_X9_join__21 K21 K53 Q M a0 → K21 a0 M) → (∀ (a0 : Nat) (M : Mm), S_X9_join__53 K21 K53 Q M a0 → K53 a0 M) → kM M a0 = (9, 13) ∧ kM (wI M a0 0 0) a0 = (9, 13) ∧ T_X9_isPoint (wI M a0 0 0) a0 i1 (fun r_1 => (r_1 = 0 → K21 a0 (wI M a0 0 0)) ∧ (¬ r_1 = 0 → kM (wI M a0 0 0) a0 = (9, 13) ∧ T_X9_isPoint (wI M a0 0 0) a0 i2 (fun r_2 => (¬ r_2 = 0 → kM (wI M a0 0 0) a0 = (9, 13) ∧ ∃ a_3 : Nat, rM (wI M a0 0 0) a0 6 = some a_3 ∧ ∃ n_4 : Nat, kM (wI M a0 0 0) a_3 = (121, n_4) ∧ vp_in i1 n_4 ∧ ∃ a_5 : Nat, rM (wI M a0 0 0) a_3 i1.toNatClampNeg = some a_5 ∧ ∃ n_6 : Nat, kM (wI M a0 0 0) a_5 = (100, n_6) ∧ vp_in i2 n_6 ∧ ((iM (wI M a0 0 0) a_5 i2.toNatClampNeg) = (-1) → K53 a0 (wI M a0 0 0)) ∧ (¬ (iM (wI M a0 0 0) a_5 i2.toNatClampNeg) = (-1) → kM (wI M a0 0 0) a0 = (9, 13) ∧ ∃ a_7 : Nat, rM (wI M a0 0 0) a0 6 = some a_7 ∧ ∃ n_8 : Nat, kM (wI M a0 0 0) a_7 = (121, n_8) ∧ vp_in i2 n_8 ∧ ∃ a_9 : Nat, rM (wI M a0 0 0) a_7 i2.toNatClampNeg = some a_9 ∧ ∃ n_10 : Nat, kM (wI M a0 0 0) a_9 = (100, n_10) ∧ vp_in i1 n_10 ∧ (¬ (iM (wI M a0 0 0) a_9 i1.toNatClampNeg) = (-1) → kM (wI M a0 0 0) a0 = (9, 13) ∧ ∃ a_11 : Nat, rM (wI M a0 0 0) a0 6 = some a_11 ∧ ∃ n_12 : Nat, kM (wI M a0 0 0) a_11 = (121, n_12) ∧ vp_in i2 n_12 ∧ ∃ a_13 : Nat, rM (wI M a0 0 0) a_11 i2.toNatClampNeg = some a_13 ∧ ∃ n_14 : Nat, kM (wI M a0 0 0) a_13 = (100, n_14) ∧ vp_in i1 n_14 ∧ False) ∧ ((iM (wI M a0 0 0) a_9 i1.toNatClampNeg) = (-1) → K53 a0 (wI M a0 0 0)))) ∧ (r_2 = 0 → K21 a0 (wI M a0 0 0)))))
theorem inX9_join__X9 : ∀ w ∈ wsX90, w ∈ wsX9_join_ := by decide +kernel
set_option maxRecDepth 100000 in
set_option maxHeartbeats 4000000 in
theorem b_X9_join__21 {p : Program} {l : Launch} {e : Env} {s : State} {m : MethodId} {args : Array Value} {below : List Frame} {meth : Method} {c : Code} {D : va_G} {cA : Nat → ClassId} {lo : Nat} (C : Cx p s m args c cX9_join_ 4 RX9 wsX9_join_ D cA lo) (hr : meth.sig.returnType = (some .int)) (hlk : meth.locks = false) {Q : Int32 → Mm → Prop} (M : Mm) (a0 : Nat) (h : S_X9_join__21 (fun (a0 : Nat) (M : Mm) => QW p l e ({ frames := 2, cells := 0, slots := 0, locals := 43 } : Room) s m args below meth c (MQ below (QiM D cA lo Q) args s 0 0 (fun q => lo ≤ q)) 4 D cA lo 0 0 M 21 [(0, .ref a0)] []) (fun (a0 : Nat) (M : Mm) => QW p l e ({ frames := 2, cells := 0, slots := 0, locals := 43 } : Room) s m args below meth c (MQ below (QiM D cA lo Q) args s 0 0 (fun q => lo ≤ q)) 4 D cA lo 0 0 M 53 [(0, .ref a0)] []) Q M a0) : QW p l e ({ frames := 2, cells := 0, slots := 0, locals := 43 } : Room) s m args below meth c (MQ below (QiM D cA lo Q) args s 0 0 (fun q => lo ≤ q)) 4 D cA lo 0 0 M 21 [(0, .ref a0)] [] := by
  unfold S_X9_join__21 at h
  refine q_aload_n C dX9_join__21 rfl (j := 0) rfl ?_
  refine q_iconst (v := 1) C dX9_join__22 (by decide) ?_
  refine q_ci (q_runV (As := [.int 1]) (st := []) C (c_X9_refuse l D cA lo h.2) (cwV 1 C.2.2.2.2.1 gX9_join__X9_refuse rfl rfl rfl (by decide +kernel) ⟨Nat.le_of_ble_eq_true rfl, Nat.le_of_ble_eq_true rfl⟩) h.1 (by decide) rfl rfl rfl (Nat.le_of_ble_eq_true rfl) dX9_join__23 ⟨Nat.le_of_ble_eq_true rfl, Nat.le_of_ble_eq_true rfl⟩) (fun r_15 M_16 h => ?_)
  exact q_iret C hr hlk dX9_join__26 (Nat.le_of_ble_eq_true rfl) (Nat.le_of_ble_eq_true rfl) h
set_option maxRecDepth 100000 in
set_option maxHeartbeats 4000000 in
theorem b_X9_join__53 {p : Program} {l : Launch} {e : Env} {s : State} {m : MethodId} {args : Array Value} {below : List Frame} {meth : Method} {c : Code} {D : va_G} {cA : Nat → ClassId} {lo : Nat} (C : Cx p s m args c cX9_join_ 4 RX9 wsX9_join_ D cA lo) (hr : meth.sig.returnType = (some .int)) (hlk : meth.locks = false) {Q : Int32 → Mm → Prop} (M : Mm) (a0 : Nat) (h : S_X9_join__53 (fun (a0 : Nat) (M : Mm) => QW p l e ({ frames := 2, cells := 0, slots := 0, locals := 43 } : Room) s m args below meth c (MQ below (QiM D cA lo Q) args s 0 0 (fun q => lo ≤ q)) 4 D cA lo 0 0 M 21 [(0, .ref a0)] []) (fun (a0 : Nat) (M : Mm) => QW p l e ({ frames := 2, cells := 0, slots := 0, locals := 43 } : Room) s m args below meth c (MQ below (QiM D cA lo Q) args s 0 0 (fun q => lo ≤ q)) 4 D cA lo 0 0 M 53 [(0, .ref a0)] []) Q M a0) : QW p l e ({ frames := 2, cells := 0, slots := 0, locals := 43 } : Room) s m args below meth c (MQ below (QiM D cA lo Q) args s 0 0 (fun q => lo ≤ q)) 4 D cA lo 0 0 M 53 [(0, .ref a0)] [] := by
  unfold S_X9_join__53 at h
  refine q_aload_n C dX9_join__53 rfl (j := 0) rfl ?_
  refine q_iconst (v := 2) C dX9_join__54 (by decide) ?_
  refine q_ci (q_runV (As := [.int 2]) (st := []) C (c_X9_refuse l D cA lo h.2) (cwV 1 C.2.2.2.2.1 gX9_join__X9_refuse rfl rfl rfl (by decide +kernel) ⟨Nat.le_of_ble_eq_true rfl, Nat.le_of_ble_eq_true rfl⟩) h.1 (by decide) rfl rfl rfl (Nat.le_of_ble_eq_true rfl) dX9_join__55 ⟨Nat.le_of_ble_eq_true rfl, Nat.le_of_ble_eq_true rfl⟩) (fun r_17 M_18 h => ?_)
  exact q_iret C hr hlk dX9_join__58 (Nat.le_of_ble_eq_true rfl) (Nat.le_of_ble_eq_true rfl) h
set_option maxRecDepth 100000 in
set_option maxHeartbeats 4000000 in
theorem c_X9_join_ (l : Launch) (D : va_G) (cA : Nat → ClassId) (lo : Nat) {M : Mm} {a0 : Nat} {i1 : Int32} {i2 : Int32} {Q : Int32 → Mm → Prop} (h : T_X9_join_ M a0 i1 i2 Q) : Met l yX9_join_ wsX9_join_ ({ frames := 2, cells := 0, slots := 0, locals := 43 } : Room) (PcM D cA lo [.ref a0, .int i1, .int i2] M) (QiM D cA lo Q) 0 0 (fun q => lo ≤ q) := by
  refine q_start (cc := cX9_join_) (nL := 4) (ret := (some .int)) (by decide) rfl rfl (Nat.le_of_ble_eq_true rfl) ?_
  intro p e s m args below meth c C hr hlk hin
  unfold T_X9_join_ at h
  have h := h (fun (a0 : Nat) (M : Mm) => QW p l e ({ frames := 2, cells := 0, slots := 0, locals := 43 } : Room) s m args below meth c (MQ below (QiM D cA lo Q) args s 0 0 (fun q => lo ≤ q)) 4 D cA lo 0 0 M 21 [(0, .ref a0)] []) (fun (a0 : Nat) (M : Mm) => QW p l e ({ frames := 2, cells := 0, slots := 0, locals := 43 } : Room) s m args below meth c (MQ below (QiM D cA lo Q) args s 0 0 (fun q => lo ≤ q)) 4 D cA lo 0 0 M 53 [(0, .ref a0)] []) (fun a0 M h => b_X9_join__21 C hr hlk M a0 h) (fun a0 M h => b_X9_join__53 C hr hlk M a0 h)
  refine q_aload_n C dX9_join__0 rfl (j := 0) rfl ?_
  refine q_iconst (v := 0) C dX9_join__1 (by decide) ?_
  refine q_putI (ci := 9) (k0 := 0) (T := TX9) (v := 0) (ty := .int) C inX9_join__X9 tyX9 tyX9_ok nmX9 rfl (by decide) h.1 (by decide) rfl (by decide +kernel) rfl (by decide +kernel) rfl rfl rfl dX9_join__2 ?_
  have h := h.2
  refine q_aload_n C dX9_join__5 rfl (j := 0) rfl ?_
  refine q_iload_n C dX9_join__6 rfl (j := 1) rfl ?_
  refine q_ci (q_runV (As := [.int i1]) (st := []) C (c_X9_isPoint l D cA lo h.2) (cwV 1 C.2.2.2.2.1 gX9_join__X9_isPoint rfl rfl rfl (by decide +kernel) ⟨Nat.le_of_ble_eq_true rfl, Nat.le_of_ble_eq_true rfl⟩) h.1 (by decide) rfl rfl rfl (Nat.le_of_ble_eq_true rfl) dX9_join__7 ⟨Nat.le_of_ble_eq_true rfl, Nat.le_of_ble_eq_true rfl⟩) (fun r_1 M_z h => ?_)
  refine q_mem h.1 ?_
  have h := h.2
  refine q_if_eq (tgt := 21) C dX9_join__10 (by decide) (fun z => ?_) (fun z => ?_)
  · have h := h.1 z
    exact q_sub [0] rfl h
  · have h := h.2 z
    refine q_aload_n C dX9_join__13 rfl (j := 0) rfl ?_
    refine q_iload_n C dX9_join__14 rfl (j := 2) rfl ?_
    refine q_ci (q_runV (As := [.int i2]) (st := []) C (c_X9_isPoint l D cA lo h.2) (cwV 1 C.2.2.2.2.1 gX9_join__X9_isPoint rfl rfl rfl (by decide +kernel) ⟨Nat.le_of_ble_eq_true rfl, Nat.le_of_ble_eq_true rfl⟩) h.1 (by decide) rfl rfl rfl (Nat.le_of_ble_eq_true rfl) dX9_join__15 ⟨Nat.le_of_ble_eq_true rfl, Nat.le_of_ble_eq_true rfl⟩) (fun r_2 M_z h => ?_)
    refine q_mem h.1 ?_
    have h := h.2
    refine q_if_ne (tgt := 27) C dX9_join__18 (by decide) (fun z => ?_) (fun z => ?_)
    · have h := h.1 z
      refine q_aload_n C dX9_join__27 rfl (j := 0) rfl ?_
      refine q_getR (ci := 9) (k0 := 6) (T := TX9) C inX9_join__X9 rfl (by decide) h.1 (by decide) rfl (by decide +kernel) rfl dX9_join__28 ?_
      obtain ⟨a_3, z, h⟩ := h.2
      refine q_ref z ?_
      refine q_iload_n C dX9_join__31 rfl (j := 1) rfl ?_
      obtain ⟨n_4, z1, z2, h⟩ := h
      refine q_gald C z1 z2 dX9_join__32 ?_
      obtain ⟨a_5, z, h⟩ := h
      refine q_ref z ?_
      refine q_iload_n C dX9_join__33 rfl (j := 2) rfl ?_
      obtain ⟨n_6, z1, z2, h⟩ := h
      refine q_iald C z1 z2 dX9_join__34 ?_
      refine q_istore_n (lv' := [(3, .int (iM (wI M a0 0 0) a_5 i2.toNatClampNeg)), (0, .ref a0), (1, .int i1), (2, .int i2)]) C dX9_join__35 rfl (by decide) rfl ?_
      refine q_iload_n C dX9_join__36 rfl (j := 0) rfl ?_
      refine q_iconst (v := (-1)) C dX9_join__37 (by decide) ?_
      refine q_icmp_eq (tgt := 53) C dX9_join__38 (by decide) (fun z => ?_) (fun z => ?_)
      · have h := h.1 z
        exact q_sub [1] rfl h
      · have h := h.2 z
        refine q_aload_n C dX9_join__41 rfl (j := 1) rfl ?_
        refine q_getR (ci := 9) (k0 := 6) (T := TX9) C inX9_join__X9 rfl (by decide) h.1 (by decide) rfl (by decide +kernel) rfl dX9_join__42 ?_
        obtain ⟨a_7, z, h⟩ := h.2
        refine q_ref z ?_
        refine q_iload_n C dX9_join__45 rfl (j := 3) rfl ?_
        obtain ⟨n_8, z1, z2, h⟩ := h
        refine q_gald C z1 z2 dX9_join__46 ?_
        obtain ⟨a_9, z, h⟩ := h
        refine q_ref z ?_
        refine q_iload_n C dX9_join__47 rfl (j := 2) rfl ?_
        obtain ⟨n_10, z1, z2, h⟩ := h
        refine q_iald C z1 z2 dX9_join__48 ?_
        refine q_iconst (v := (-1)) C dX9_join__49 (by decide) ?_
        refine q_icmp_ne (tgt := 59) C dX9_join__50 (by decide) (fun z => ?_) (fun z => ?_)
        · have h := h.1 z
          refine q_aload_n C dX9_join__59 rfl (j := 1) rfl ?_
          refine q_iload_n C dX9_join__60 rfl (j := 0) rfl ?_
          refine q_aload_n C dX9_join__61 rfl (j := 1) rfl ?_
          refine q_getR (ci := 9) (k0 := 6) (T := TX9) C inX9_join__X9 rfl (by decide) h.1 (by decide) rfl (by decide +kernel) rfl dX9_join__62 ?_
          obtain ⟨a_11, z, h⟩ := h.2
          refine q_ref z ?_
          refine q_iload_n C dX9_join__65 rfl (j := 3) rfl ?_
          obtain ⟨n_12, z1, z2, h⟩ := h
          refine q_gald C z1 z2 dX9_join__66 ?_
          obtain ⟨a_13, z, h⟩ := h
          refine q_ref z ?_
          refine q_iload_n C dX9_join__67 rfl (j := 2) rfl ?_
          obtain ⟨n_14, z1, z2, h⟩ := h
          refine q_iald C z1 z2 dX9_join__68 ?_
          refine q_iload_n C dX9_join__69 rfl (j := 2) rfl ?_
          refine q_iload_n C dX9_join__70 rfl (j := 3) rfl ?_
          exact h.elim
        · have h := h.2 z
          exact q_sub [1] rfl h
    · have h := h.2 z
      exact q_sub [0] rfl h
def S_X9_collapse_21 (K21 : Nat → Mm → Prop) (Q : Int32 → Mm → Prop) (M : Mm) (a0 : Nat) : Prop := kM M a0 = (9, 13) ∧ T_X9_refuse M a0 1 (fun r_3 M_4 => Q r_3 M_4)
def T_X9_collapse (M : Mm) (a0 : Nat) (i1 : Int32) (i2 : Int32) (Q : Int32 → Mm → Prop) : Prop := ∀ (K21 : Nat → Mm → Prop), (∀ (a0 : Nat) (M : Mm), S_X9_collapse_21 K21 Q M a0 → K21 a0 M) → kM M a0 = (9, 13) ∧ kM (wI M a0 0 0) a0 = (9, 13) ∧ T_X9_isPoint (wI M a0 0 0) a0 i1 (fun r_1 => (r_1 = 0 → K21 a0 (wI M a0 0 0)) ∧ (¬ r_1 = 0 → kM (wI M a0 0 0) a0 = (9, 13) ∧ T_X9_isPoint (wI M a0 0 0) a0 i2 (fun r_2 => (¬ r_2 = 0 → False) ∧ (r_2 = 0 → K21 a0 (wI M a0 0 0)))))
theorem inX9_collapse_X9 : ∀ w ∈ wsX90, w ∈ wsX9_collapse := by decide +kernel
set_option maxRecDepth 100000 in
set_option maxHeartbeats 4000000 in
theorem b_X9_collapse_21 {p : Program} {l : Launch} {e : Env} {s : State} {m : MethodId} {args : Array Value} {below : List Frame} {meth : Method} {c : Code} {D : va_G} {cA : Nat → ClassId} {lo : Nat} (C : Cx p s m args c cX9_collapse 4 RX9 wsX9_collapse D cA lo) (hr : meth.sig.returnType = (some .int)) (hlk : meth.locks = false) {Q : Int32 → Mm → Prop} (M : Mm) (a0 : Nat) (h : S_X9_collapse_21 (fun (a0 : Nat) (M : Mm) => QW p l e ({ frames := 2, cells := 0, slots := 0, locals := 43 } : Room) s m args below meth c (MQ below (QiM D cA lo Q) args s 0 0 (fun q => lo ≤ q)) 4 D cA lo 0 0 M 21 [(0, .ref a0)] []) Q M a0) : QW p l e ({ frames := 2, cells := 0, slots := 0, locals := 43 } : Room) s m args below meth c (MQ below (QiM D cA lo Q) args s 0 0 (fun q => lo ≤ q)) 4 D cA lo 0 0 M 21 [(0, .ref a0)] [] := by
  unfold S_X9_collapse_21 at h
  refine q_aload_n C dX9_collapse_21 rfl (j := 0) rfl ?_
  refine q_iconst (v := 1) C dX9_collapse_22 (by decide) ?_
  refine q_ci (q_runV (As := [.int 1]) (st := []) C (c_X9_refuse l D cA lo h.2) (cwV 1 C.2.2.2.2.1 gX9_collapse_X9_refuse rfl rfl rfl (by decide +kernel) ⟨Nat.le_of_ble_eq_true rfl, Nat.le_of_ble_eq_true rfl⟩) h.1 (by decide) rfl rfl rfl (Nat.le_of_ble_eq_true rfl) dX9_collapse_23 ⟨Nat.le_of_ble_eq_true rfl, Nat.le_of_ble_eq_true rfl⟩) (fun r_3 M_4 h => ?_)
  exact q_iret C hr hlk dX9_collapse_26 (Nat.le_of_ble_eq_true rfl) (Nat.le_of_ble_eq_true rfl) h
set_option maxRecDepth 100000 in
set_option maxHeartbeats 4000000 in
theorem c_X9_collapse (l : Launch) (D : va_G) (cA : Nat → ClassId) (lo : Nat) {M : Mm} {a0 : Nat} {i1 : Int32} {i2 : Int32} {Q : Int32 → Mm → Prop} (h : T_X9_collapse M a0 i1 i2 Q) : Met l yX9_collapse wsX9_collapse ({ frames := 2, cells := 0, slots := 0, locals := 43 } : Room) (PcM D cA lo [.ref a0, .int i1, .int i2] M) (QiM D cA lo Q) 0 0 (fun q => lo ≤ q) := by
  refine q_start (cc := cX9_collapse) (nL := 4) (ret := (some .int)) (by decide) rfl rfl (Nat.le_of_ble_eq_true rfl) ?_
  intro p e s m args below meth c C hr hlk hin
  unfold T_X9_collapse at h
  have h := h (fun (a0 : Nat) (M : Mm) => QW p l e ({ frames := 2, cells := 0, slots := 0, locals := 43 } : Room) s m args below meth c (MQ below (QiM D cA lo Q) args s 0 0 (fun q => lo ≤ q)) 4 D cA lo 0 0 M 21 [(0, .ref a0)] []) (fun a0 M h => b_X9_collapse_21 C hr hlk M a0 h)
  refine q_aload_n C dX9_collapse_0 rfl (j := 0) rfl ?_
  refine q_iconst (v := 0) C dX9_collapse_1 (by decide) ?_
  refine q_putI (ci := 9) (k0 := 0) (T := TX9) (v := 0) (ty := .int) C inX9_collapse_X9 tyX9 tyX9_ok nmX9 rfl (by decide) h.1 (by decide) rfl (by decide +kernel) rfl (by decide +kernel) rfl rfl rfl dX9_collapse_2 ?_
  have h := h.2
  refine q_aload_n C dX9_collapse_5 rfl (j := 0) rfl ?_
  refine q_iload_n C dX9_collapse_6 rfl (j := 1) rfl ?_
  refine q_ci (q_runV (As := [.int i1]) (st := []) C (c_X9_isPoint l D cA lo h.2) (cwV 1 C.2.2.2.2.1 gX9_collapse_X9_isPoint rfl rfl rfl (by decide +kernel) ⟨Nat.le_of_ble_eq_true rfl, Nat.le_of_ble_eq_true rfl⟩) h.1 (by decide) rfl rfl rfl (Nat.le_of_ble_eq_true rfl) dX9_collapse_7 ⟨Nat.le_of_ble_eq_true rfl, Nat.le_of_ble_eq_true rfl⟩) (fun r_1 M_z h => ?_)
  refine q_mem h.1 ?_
  have h := h.2
  refine q_if_eq (tgt := 21) C dX9_collapse_10 (by decide) (fun z => ?_) (fun z => ?_)
  · have h := h.1 z
    exact q_sub [0] rfl h
  · have h := h.2 z
    refine q_aload_n C dX9_collapse_13 rfl (j := 0) rfl ?_
    refine q_iload_n C dX9_collapse_14 rfl (j := 2) rfl ?_
    refine q_ci (q_runV (As := [.int i2]) (st := []) C (c_X9_isPoint l D cA lo h.2) (cwV 1 C.2.2.2.2.1 gX9_collapse_X9_isPoint rfl rfl rfl (by decide +kernel) ⟨Nat.le_of_ble_eq_true rfl, Nat.le_of_ble_eq_true rfl⟩) h.1 (by decide) rfl rfl rfl (Nat.le_of_ble_eq_true rfl) dX9_collapse_15 ⟨Nat.le_of_ble_eq_true rfl, Nat.le_of_ble_eq_true rfl⟩) (fun r_2 M_z h => ?_)
    refine q_mem h.1 ?_
    have h := h.2
    refine q_if_ne (tgt := 27) C dX9_collapse_18 (by decide) (fun z => ?_) (fun z => ?_)
    · have h := h.1 z
      refine q_aload_n C dX9_collapse_27 rfl (j := 0) rfl ?_
      refine q_iload_n C dX9_collapse_28 rfl (j := 1) rfl ?_
      refine q_iload_n C dX9_collapse_29 rfl (j := 2) rfl ?_
      exact h.elim
    · have h := h.2 z
      exact q_sub [0] rfl h
def S_X9_flip_21 (K21 : Nat → Mm → Prop) (Q : Int32 → Mm → Prop) (M : Mm) (a0 : Nat) : Prop := kM M a0 = (9, 13) ∧ T_X9_refuse M a0 1 (fun r_7 M_8 => Q r_7 M_8)
def T_X9_flip (M : Mm) (a0 : Nat) (i1 : Int32) (i2 : Int32) (Q : Int32 → Mm → Prop) : Prop := ∀ (K21 : Nat → Mm → Prop), (∀ (a0 : Nat) (M : Mm), S_X9_flip_21 K21 Q M a0 → K21 a0 M) → kM M a0 = (9, 13) ∧ kM (wI M a0 0 0) a0 = (9, 13) ∧ T_X9_isPoint (wI M a0 0 0) a0 i1 (fun r_1 => (r_1 = 0 → K21 a0 (wI M a0 0 0)) ∧ (¬ r_1 = 0 → kM (wI M a0 0 0) a0 = (9, 13) ∧ T_X9_isPoint (wI M a0 0 0) a0 i2 (fun r_2 => (¬ r_2 = 0 → kM (wI M a0 0 0) a0 = (9, 13) ∧ ∃ a_3 : Nat, rM (wI M a0 0 0) a0 6 = some a_3 ∧ ∃ n_4 : Nat, kM (wI M a0 0 0) a_3 = (121, n_4) ∧ vp_in i1 n_4 ∧ ∃ a_5 : Nat, rM (wI M a0 0 0) a_3 i1.toNatClampNeg = some a_5 ∧ ∃ n_6 : Nat, kM (wI M a0 0 0) a_5 = (100, n_6) ∧ vp_in i2 n_6 ∧ False) ∧ (r_2 = 0 → K21 a0 (wI M a0 0 0)))))
theorem inX9_flip_X9 : ∀ w ∈ wsX90, w ∈ wsX9_flip := by decide +kernel
set_option maxRecDepth 100000 in
set_option maxHeartbeats 4000000 in
theorem b_X9_flip_21 {p : Program} {l : Launch} {e : Env} {s : State} {m : MethodId} {args : Array Value} {below : List Frame} {meth : Method} {c : Code} {D : va_G} {cA : Nat → ClassId} {lo : Nat} (C : Cx p s m args c cX9_flip 4 RX9 wsX9_flip D cA lo) (hr : meth.sig.returnType = (some .int)) (hlk : meth.locks = false) {Q : Int32 → Mm → Prop} (M : Mm) (a0 : Nat) (h : S_X9_flip_21 (fun (a0 : Nat) (M : Mm) => QW p l e ({ frames := 2, cells := 0, slots := 0, locals := 43 } : Room) s m args below meth c (MQ below (QiM D cA lo Q) args s 0 0 (fun q => lo ≤ q)) 4 D cA lo 0 0 M 21 [(0, .ref a0)] []) Q M a0) : QW p l e ({ frames := 2, cells := 0, slots := 0, locals := 43 } : Room) s m args below meth c (MQ below (QiM D cA lo Q) args s 0 0 (fun q => lo ≤ q)) 4 D cA lo 0 0 M 21 [(0, .ref a0)] [] := by
  unfold S_X9_flip_21 at h
  refine q_aload_n C dX9_flip_21 rfl (j := 0) rfl ?_
  refine q_iconst (v := 1) C dX9_flip_22 (by decide) ?_
  refine q_ci (q_runV (As := [.int 1]) (st := []) C (c_X9_refuse l D cA lo h.2) (cwV 1 C.2.2.2.2.1 gX9_flip_X9_refuse rfl rfl rfl (by decide +kernel) ⟨Nat.le_of_ble_eq_true rfl, Nat.le_of_ble_eq_true rfl⟩) h.1 (by decide) rfl rfl rfl (Nat.le_of_ble_eq_true rfl) dX9_flip_23 ⟨Nat.le_of_ble_eq_true rfl, Nat.le_of_ble_eq_true rfl⟩) (fun r_7 M_8 h => ?_)
  exact q_iret C hr hlk dX9_flip_26 (Nat.le_of_ble_eq_true rfl) (Nat.le_of_ble_eq_true rfl) h
set_option maxRecDepth 100000 in
set_option maxHeartbeats 4000000 in
theorem c_X9_flip (l : Launch) (D : va_G) (cA : Nat → ClassId) (lo : Nat) {M : Mm} {a0 : Nat} {i1 : Int32} {i2 : Int32} {Q : Int32 → Mm → Prop} (h : T_X9_flip M a0 i1 i2 Q) : Met l yX9_flip wsX9_flip ({ frames := 2, cells := 0, slots := 0, locals := 43 } : Room) (PcM D cA lo [.ref a0, .int i1, .int i2] M) (QiM D cA lo Q) 0 0 (fun q => lo ≤ q) := by
  refine q_start (cc := cX9_flip) (nL := 4) (ret := (some .int)) (by decide) rfl rfl (Nat.le_of_ble_eq_true rfl) ?_
  intro p e s m args below meth c C hr hlk hin
  unfold T_X9_flip at h
  have h := h (fun (a0 : Nat) (M : Mm) => QW p l e ({ frames := 2, cells := 0, slots := 0, locals := 43 } : Room) s m args below meth c (MQ below (QiM D cA lo Q) args s 0 0 (fun q => lo ≤ q)) 4 D cA lo 0 0 M 21 [(0, .ref a0)] []) (fun a0 M h => b_X9_flip_21 C hr hlk M a0 h)
  refine q_aload_n C dX9_flip_0 rfl (j := 0) rfl ?_
  refine q_iconst (v := 0) C dX9_flip_1 (by decide) ?_
  refine q_putI (ci := 9) (k0 := 0) (T := TX9) (v := 0) (ty := .int) C inX9_flip_X9 tyX9 tyX9_ok nmX9 rfl (by decide) h.1 (by decide) rfl (by decide +kernel) rfl (by decide +kernel) rfl rfl rfl dX9_flip_2 ?_
  have h := h.2
  refine q_aload_n C dX9_flip_5 rfl (j := 0) rfl ?_
  refine q_iload_n C dX9_flip_6 rfl (j := 1) rfl ?_
  refine q_ci (q_runV (As := [.int i1]) (st := []) C (c_X9_isPoint l D cA lo h.2) (cwV 1 C.2.2.2.2.1 gX9_flip_X9_isPoint rfl rfl rfl (by decide +kernel) ⟨Nat.le_of_ble_eq_true rfl, Nat.le_of_ble_eq_true rfl⟩) h.1 (by decide) rfl rfl rfl (Nat.le_of_ble_eq_true rfl) dX9_flip_7 ⟨Nat.le_of_ble_eq_true rfl, Nat.le_of_ble_eq_true rfl⟩) (fun r_1 M_z h => ?_)
  refine q_mem h.1 ?_
  have h := h.2
  refine q_if_eq (tgt := 21) C dX9_flip_10 (by decide) (fun z => ?_) (fun z => ?_)
  · have h := h.1 z
    exact q_sub [0] rfl h
  · have h := h.2 z
    refine q_aload_n C dX9_flip_13 rfl (j := 0) rfl ?_
    refine q_iload_n C dX9_flip_14 rfl (j := 2) rfl ?_
    refine q_ci (q_runV (As := [.int i2]) (st := []) C (c_X9_isPoint l D cA lo h.2) (cwV 1 C.2.2.2.2.1 gX9_flip_X9_isPoint rfl rfl rfl (by decide +kernel) ⟨Nat.le_of_ble_eq_true rfl, Nat.le_of_ble_eq_true rfl⟩) h.1 (by decide) rfl rfl rfl (Nat.le_of_ble_eq_true rfl) dX9_flip_15 ⟨Nat.le_of_ble_eq_true rfl, Nat.le_of_ble_eq_true rfl⟩) (fun r_2 M_z h => ?_)
    refine q_mem h.1 ?_
    have h := h.2
    refine q_if_ne (tgt := 27) C dX9_flip_18 (by decide) (fun z => ?_) (fun z => ?_)
    · have h := h.1 z
      refine q_aload_n C dX9_flip_27 rfl (j := 0) rfl ?_
      refine q_aload_n C dX9_flip_28 rfl (j := 0) rfl ?_
      refine q_getR (ci := 9) (k0 := 6) (T := TX9) C inX9_flip_X9 rfl (by decide) h.1 (by decide) rfl (by decide +kernel) rfl dX9_flip_29 ?_
      obtain ⟨a_3, z, h⟩ := h.2
      refine q_ref z ?_
      refine q_iload_n C dX9_flip_32 rfl (j := 1) rfl ?_
      obtain ⟨n_4, z1, z2, h⟩ := h
      refine q_gald C z1 z2 dX9_flip_33 ?_
      obtain ⟨a_5, z, h⟩ := h
      refine q_ref z ?_
      refine q_iload_n C dX9_flip_34 rfl (j := 2) rfl ?_
      obtain ⟨n_6, z1, z2, h⟩ := h
      refine q_iald C z1 z2 dX9_flip_35 ?_
      exact h.elim
    · have h := h.2 z
      exact q_sub [0] rfl h
def S_X9_draw_57 (K57 : Nat → Int32 → Int32 → Int32 → Int32 → Nat → Nat → Nat → Int32 → Int32 → Mm → Nat → Nat → Prop) (K164 : Nat → Mm → Nat → Nat → Prop) (K180 : Nat → Int32 → Int32 → Int32 → Int32 → Nat → Nat → Int32 → Mm → Nat → Nat → Prop) (K74 : Nat → Int32 → Int32 → Int32 → Int32 → Nat → Nat → Nat → Int32 → Int32 → Int32 → Int32 → Mm → Nat → Nat → Prop) (K249 : Nat → Int32 → Nat → Nat → Int32 → Mm → Nat → Nat → Prop) (K119 : Nat → Mm → Nat → Nat → Prop) (Cc Zz : Nat) (Q : Int32 → Mm → Prop) (M : Mm) (a0 : Nat) (i1 : Int32) (i2 : Int32) (i3 : Int32) (i4 : Int32) (a5 : Nat) (a6 : Nat) (a7 : Nat) (i8 : Int32) (i9 : Int32) (cc zz : Nat) : Prop := (i8 ≤ i9 → kM M a0 = (9, 13) ∧ ∃ k_14 n_13 : Nat, kM M a5 = (k_14, n_13) ∧ ak k_14 ∧ (100 < ((iM M a0 3) + (nI n_13)) → K164 a0 M cc zz) ∧ (¬ 100 < ((iM M a0 3) + (nI n_13)) → kM M a0 = (9, 13) ∧ ∃ k_16 n_15 : Nat, kM M a5 = (k_16, n_15) ∧ ak k_16 ∧ (((iM M a0 5) + (nI n_15)) ≤ 160 → ∃ k_18 n_17 : Nat, kM M a5 = (k_18, n_17) ∧ ak k_18 ∧ (¬ (nI n_17) < 0) ∧ (nI n_17).toNatClampNeg ≤ 1000 ∧ cc + 1 ≤ Cc ∧ zz + (nI n_17).toNatClampNeg ≤ Zz ∧ ∀ q_19 : Nat, frs M q_19 → K180 a0 i1 i2 i3 i4 a5 q_19 0 (wN M q_19 100 (nI n_17).toNatClampNeg) (cc + 1) (zz + (nI n_17).toNatClampNeg)) ∧ (¬ ((iM M a0 5) + (nI n_15)) ≤ 160 → K164 a0 M cc zz))) ∧ (¬ i8 ≤ i9 → ∃ n_20 : Nat, kM M a7 = (100, n_20) ∧ vp_in i9 n_20 ∧ K74 a0 i1 i2 i3 i4 a5 a6 a7 i8 i9 (iM M a7 i9.toNatClampNeg) 0 M cc zz)
def S_X9_draw_164 (K57 : Nat → Int32 → Int32 → Int32 → Int32 → Nat → Nat → Nat → Int32 → Int32 → Mm → Nat → Nat → Prop) (K164 : Nat → Mm → Nat → Nat → Prop) (K180 : Nat → Int32 → Int32 → Int32 → Int32 → Nat → Nat → Int32 → Mm → Nat → Nat → Prop) (K74 : Nat → Int32 → Int32 → Int32 → Int32 → Nat → Nat → Nat → Int32 → Int32 → Int32 → Int32 → Mm → Nat → Nat → Prop) (K249 : Nat → Int32 → Nat → Nat → Int32 → Mm → Nat → Nat → Prop) (K119 : Nat → Mm → Nat → Nat → Prop) (Cc Zz : Nat) (Q : Int32 → Mm → Prop) (M : Mm) (a0 : Nat) (cc zz : Nat) : Prop := (cc ≤ Cc ∧ zz ≤ Zz) ∧ kM M a0 = (9, 13) ∧ T_X9_refuse M a0 3 (fun r_21 M_22 => cc ≤ Cc ∧ zz ≤ Zz ∧ Q r_21 M_22)
def S_X9_draw_180 (K57 : Nat → Int32 → Int32 → Int32 → Int32 → Nat → Nat → Nat → Int32 → Int32 → Mm → Nat → Nat → Prop) (K164 : Nat → Mm → Nat → Nat → Prop) (K180 : Nat → Int32 → Int32 → Int32 → Int32 → Nat → Nat → Int32 → Mm → Nat → Nat → Prop) (K74 : Nat → Int32 → Int32 → Int32 → Int32 → Nat → Nat → Nat → Int32 → Int32 → Int32 → Int32 → Mm → Nat → Nat → Prop) (K249 : Nat → Int32 → Nat → Nat → Int32 → Mm → Nat → Nat → Prop) (K119 : Nat → Mm → Nat → Nat → Prop) (Cc Zz : Nat) (Q : Int32 → Mm → Prop) (M : Mm) (a0 : Nat) (i1 : Int32) (i2 : Int32) (i3 : Int32) (i4 : Int32) (a5 : Nat) (a7 : Nat) (i8 : Int32) (cc zz : Nat) : Prop := ∃ k_24 n_23 : Nat, kM M a5 = (k_24, n_23) ∧ ak k_24 ∧ ((nI n_23) ≤ i8 → K249 a0 i1 a5 a7 0 M cc zz) ∧ (¬ (nI n_23) ≤ i8 → kM M a0 = (9, 13) ∧ ∃ a_25 : Nat, rM M a0 1 = some a_25 ∧ ∃ n_26 : Nat, kM M a5 = (100, n_26) ∧ vp_in i8 n_26 ∧ ∃ n_27 : Nat, kM M a_25 = (121, n_27) ∧ vp_in (iM M a5 i8.toNatClampNeg) n_27 ∧ ∃ a_28 : Nat, rM M a_25 (iM M a5 i8.toNatClampNeg).toNatClampNeg = some a_28 ∧ ∃ n_29 : Nat, kM M a_28 = (100, n_29) ∧ vp_in 0 n_29 ∧ kM M a0 = (9, 13) ∧ ∃ a_30 : Nat, rM M a0 1 = some a_30 ∧ ∃ n_31 : Nat, kM M a5 = (100, n_31) ∧ vp_in i8 n_31 ∧ ∃ n_32 : Nat, kM M a_30 = (121, n_32) ∧ vp_in (iM M a5 i8.toNatClampNeg) n_32 ∧ ∃ a_33 : Nat, rM M a_30 (iM M a5 i8.toNatClampNeg).toNatClampNeg = some a_33 ∧ ∃ n_34 : Nat, kM M a_33 = (100, n_34) ∧ vp_in 1 n_34 ∧ kM M a0 = (9, 13) ∧ ∃ a_35 : Nat, rM M a0 1 = some a_35 ∧ ∃ n_36 : Nat, kM M a5 = (100, n_36) ∧ vp_in i8 n_36 ∧ ∃ n_37 : Nat, kM M a_35 = (121, n_37) ∧ vp_in (iM M a5 i8.toNatClampNeg) n_37 ∧ ∃ a_38 : Nat, rM M a_35 (iM M a5 i8.toNatClampNeg).toNatClampNeg = some a_38 ∧ ∃ n_39 : Nat, kM M a_38 = (100, n_39) ∧ vp_in 2 n_39 ∧ ∃ dc_42 ds_42 : Nat, (cc + dc_42 ≤ Cc ∧ zz + ds_42 ≤ Zz) ∧ kM M a0 = (9, 13) ∧ T_X9_newPoint dc_42 ds_42 M a0 ((iM M a_28 (0 : Int32).toNatClampNeg) + i2) ((iM M a_33 (1 : Int32).toNatClampNeg) + i3) ((iM M a_38 (2 : Int32).toNatClampNeg) + i4) (fun r_40 M_41 => ∃ n_43 : Nat, kM M_41 a7 = (100, n_43) ∧ vp_in i8 n_43 ∧ K180 a0 i1 i2 i3 i4 a5 a7 (i8 + 1) (wI M_41 a7 i8.toNatClampNeg r_40) (cc + dc_42) (zz + ds_42)))
def S_X9_draw_74 (K57 : Nat → Int32 → Int32 → Int32 → Int32 → Nat → Nat → Nat → Int32 → Int32 → Mm → Nat → Nat → Prop) (K164 : Nat → Mm → Nat → Nat → Prop) (K180 : Nat → Int32 → Int32 → Int32 → Int32 → Nat → Nat → Int32 → Mm → Nat → Nat → Prop) (K74 : Nat → Int32 → Int32 → Int32 → Int32 → Nat → Nat → Nat → Int32 → Int32 → Int32 → Int32 → Mm → Nat → Nat → Prop) (K249 : Nat → Int32 → Nat → Nat → Int32 → Mm → Nat → Nat → Prop) (K119 : Nat → Mm → Nat → Nat → Prop) (Cc Zz : Nat) (Q : Int32 → Mm → Prop) (M : Mm) (a0 : Nat) (i1 : Int32) (i2 : Int32) (i3 : Int32) (i4 : Int32) (a5 : Nat) (a6 : Nat) (a7 : Nat) (i8 : Int32) (i9 : Int32) (i10 : Int32) (i11 : Int32) (cc zz : Nat) : Prop := (3 ≤ i11 → K57 a0 i1 i2 i3 i4 a5 a6 a7 i8 (i9 + 1) M cc zz) ∧ (¬ 3 ≤ i11 → ∃ n_44 : Nat, kM M a6 = (100, n_44) ∧ vp_in i11 n_44 ∧ (cc ≤ Cc ∧ zz ≤ Zz) ∧ T_X9_is M (iM M a6 i11.toNatClampNeg) (-1000) 1000 (fun r_45 => (r_45 = 0 → K119 a0 M cc zz) ∧ (¬ r_45 = 0 → kM M a0 = (9, 13) ∧ ∃ a_46 : Nat, rM M a0 1 = some a_46 ∧ ∃ n_47 : Nat, kM M a_46 = (121, n_47) ∧ vp_in i10 n_47 ∧ ∃ a_48 : Nat, rM M a_46 i10.toNatClampNeg = some a_48 ∧ ∃ n_49 : Nat, kM M a_48 = (100, n_49) ∧ vp_in i11 n_49 ∧ ∃ n_50 : Nat, kM M a6 = (100, n_50) ∧ vp_in i11 n_50 ∧ (cc ≤ Cc ∧ zz ≤ Zz) ∧ T_X9_isNear M ((iM M a_48 i11.toNatClampNeg) + (iM M a6 i11.toNatClampNeg)) (fun r_51 => (¬ r_51 = 0 → K74 a0 i1 i2 i3 i4 a5 a6 a7 i8 i9 i10 (i11 + 1) M cc zz) ∧ (r_51 = 0 → K119 a0 M cc zz)))))
def S_X9_draw_249 (K57 : Nat → Int32 → Int32 → Int32 → Int32 → Nat → Nat → Nat → Int32 → Int32 → Mm → Nat → Nat → Prop) (K164 : Nat → Mm → Nat → Nat → Prop) (K180 : Nat → Int32 → Int32 → Int32 → Int32 → Nat → Nat → Int32 → Mm → Nat → Nat → Prop) (K74 : Nat → Int32 → Int32 → Int32 → Int32 → Nat → Nat → Nat → Int32 → Int32 → Int32 → Int32 → Mm → Nat → Nat → Prop) (K249 : Nat → Int32 → Nat → Nat → Int32 → Mm → Nat → Nat → Prop) (K119 : Nat → Mm → Nat → Nat → Prop) (Cc Zz : Nat) (Q : Int32 → Mm → Prop) (M : Mm) (a0 : Nat) (i1 : Int32) (a5 : Nat) (a7 : Nat) (i8 : Int32) (cc zz : Nat) : Prop := ∃ k_53 n_52 : Nat, kM M a5 = (k_53, n_52) ∧ ak k_53 ∧ ((nI n_52) ≤ i8 → kM M a0 = (9, 13) ∧ ∃ a_54 : Nat, rM M a0 4 = some a_54 ∧ ∃ n_55 n_56 : Nat, kM M a_54 = (121, n_55) ∧ vp_in i1 n_55 ∧ kM M a7 = (100, n_56) ∧ (cc ≤ Cc ∧ zz ≤ Zz) ∧ kM (wR M a_54 i1.toNatClampNeg (some a7)) a0 = (9, 13) ∧ T_X9_table (wR M a_54 i1.toNatClampNeg (some a7)) a0 (fun M_58 => ∃ n_59 : Nat, kM M_58 a7 = (100, n_59) ∧ vp_in 0 n_59 ∧ cc ≤ Cc ∧ zz ≤ Zz ∧ Q (iM M_58 a7 (0 : Int32).toNatClampNeg) M_58)) ∧ (¬ (nI n_52) ≤ i8 → ∃ k_61 n_60 : Nat, kM M a5 = (k_61, n_60) ∧ ak k_61 ∧ (¬ (nI n_60) = 0) ∧ cc + 1 ≤ Cc ∧ zz + 4 ≤ Zz ∧ ∀ q_62 : Nat, frs M q_62 → ∃ n_63 : Nat, kM (wN M q_62 100 4) a5 = (100, n_63) ∧ vp_in i8 n_63 ∧ ∃ n_64 : Nat, kM (wN M q_62 100 4) q_62 = (100, n_64) ∧ vp_in 0 n_64 ∧ ∃ n_65 : Nat, kM (wI (wN M q_62 100 4) q_62 (0 : Int32).toNatClampNeg (iM (wN M q_62 100 4) a5 i8.toNatClampNeg)) a5 = (100, n_65) ∧ vp_in ((i8 + 1) - (i8 + 1) / (nI n_60) * (nI n_60)) n_65 ∧ ∃ n_66 : Nat, kM (wI (wN M q_62 100 4) q_62 (0 : Int32).toNatClampNeg (iM (wN M q_62 100 4) a5 i8.toNatClampNeg)) q_62 = (100, n_66) ∧ vp_in 1 n_66 ∧ ∃ n_67 : Nat, kM (wI (wI (wN M q_62 100 4) q_62 (0 : Int32).toNatClampNeg (iM (wN M q_62 100 4) a5 i8.toNatClampNeg)) q_62 (1 : Int32).toNatClampNeg (iM (wI (wN M q_62 100 4) q_62 (0 : Int32).toNatClampNeg (iM (wN M q_62 100 4) a5 i8.toNatClampNeg)) a5 ((i8 + 1) - (i8 + 1) / (nI n_60) * (nI n_60)).toNatClampNeg)) a7 = (100, n_67) ∧ vp_in ((i8 + 1) - (i8 + 1) / (nI n_60) * (nI n_60)) n_67 ∧ ∃ n_68 : Nat, kM (wI (wI (wN M q_62 100 4) q_62 (0 : Int32).toNatClampNeg (iM (wN M q_62 100 4) a5 i8.toNatClampNeg)) q_62 (1 : Int32).toNatClampNeg (iM (wI (wN M q_62 100 4) q_62 (0 : Int32).toNatClampNeg (iM (wN M q_62 100 4) a5 i8.toNatClampNeg)) a5 ((i8 + 1) - (i8 + 1) / (nI n_60) * (nI n_60)).toNatClampNeg)) q_62 = (100, n_68) ∧ vp_in 2 n_68 ∧ ∃ n_69 : Nat, kM (wI (wI (wI (wN M q_62 100 4) q_62 (0 : Int32).toNatClampNeg (iM (wN M q_62 100 4) a5 i8.toNatClampNeg)) q_62 (1 : Int32).toNatClampNeg (iM (wI (wN M q_62 100 4) q_62 (0 : Int32).toNatClampNeg (iM (wN M q_62 100 4) a5 i8.toNatClampNeg)) a5 ((i8 + 1) - (i8 + 1) / (nI n_60) * (nI n_60)).toNatClampNeg)) q_62 (2 : Int32).toNatClampNeg (iM (wI (wI (wN M q_62 100 4) q_62 (0 : Int32).toNatClampNeg (iM (wN M q_62 100 4) a5 i8.toNatClampNeg)) q_62 (1 : Int32).toNatClampNeg (iM (wI (wN M q_62 100 4) q_62 (0 : Int32).toNatClampNeg (iM (wN M q_62 100 4) a5 i8.toNatClampNeg)) a5 ((i8 + 1) - (i8 + 1) / (nI n_60) * (nI n_60)).toNatClampNeg)) a7 ((i8 + 1) - (i8 + 1) / (nI n_60) * (nI n_60)).toNatClampNeg)) a7 = (100, n_69) ∧ vp_in i8 n_69 ∧ ∃ n_70 : Nat, kM (wI (wI (wI (wN M q_62 100 4) q_62 (0 : Int32).toNatClampNeg (iM (wN M q_62 100 4) a5 i8.toNatClampNeg)) q_62 (1 : Int32).toNatClampNeg (iM (wI (wN M q_62 100 4) q_62 (0 : Int32).toNatClampNeg (iM (wN M q_62 100 4) a5 i8.toNatClampNeg)) a5 ((i8 + 1) - (i8 + 1) / (nI n_60) * (nI n_60)).toNatClampNeg)) q_62 (2 : Int32).toNatClampNeg (iM (wI (wI (wN M q_62 100 4) q_62 (0 : Int32).toNatClampNeg (iM (wN M q_62 100 4) a5 i8.toNatClampNeg)) q_62 (1 : Int32).toNatClampNeg (iM (wI (wN M q_62 100 4) q_62 (0 : Int32).toNatClampNeg (iM (wN M q_62 100 4) a5 i8.toNatClampNeg)) a5 ((i8 + 1) - (i8 + 1) / (nI n_60) * (nI n_60)).toNatClampNeg)) a7 ((i8 + 1) - (i8 + 1) / (nI n_60) * (nI n_60)).toNatClampNeg)) q_62 = (100, n_70) ∧ vp_in 3 n_70 ∧ ((cc + 1) ≤ Cc ∧ (zz + 4) ≤ Zz) ∧ kM (wI (wI (wI (wI (wN M q_62 100 4) q_62 (0 : Int32).toNatClampNeg (iM (wN M q_62 100 4) a5 i8.toNatClampNeg)) q_62 (1 : Int32).toNatClampNeg (iM (wI (wN M q_62 100 4) q_62 (0 : Int32).toNatClampNeg (iM (wN M q_62 100 4) a5 i8.toNatClampNeg)) a5 ((i8 + 1) - (i8 + 1) / (nI n_60) * (nI n_60)).toNatClampNeg)) q_62 (2 : Int32).toNatClampNeg (iM (wI (wI (wN M q_62 100 4) q_62 (0 : Int32).toNatClampNeg (iM (wN M q_62 100 4) a5 i8.toNatClampNeg)) q_62 (1 : Int32).toNatClampNeg (iM (wI (wN M q_62 100 4) q_62 (0 : Int32).toNatClampNeg (iM (wN M q_62 100 4) a5 i8.toNatClampNeg)) a5 ((i8 + 1) - (i8 + 1) / (nI n_60) * (nI n_60)).toNatClampNeg)) a7 ((i8 + 1) - (i8 + 1) / (nI n_60) * (nI n_60)).toNatClampNeg)) q_62 (3 : Int32).toNatClampNeg (iM (wI (wI (wI (wN M q_62 100 4) q_62 (0 : Int32).toNatClampNeg (iM (wN M q_62 100 4) a5 i8.toNatClampNeg)) q_62 (1 : Int32).toNatClampNeg (iM (wI (wN M q_62 100 4) q_62 (0 : Int32).toNatClampNeg (iM (wN M q_62 100 4) a5 i8.toNatClampNeg)) a5 ((i8 + 1) - (i8 + 1) / (nI n_60) * (nI n_60)).toNatClampNeg)) q_62 (2 : Int32).toNatClampNeg (iM (wI (wI (wN M q_62 100 4) q_62 (0 : Int32).toNatClampNeg (iM (wN M q_62 100 4) a5 i8.toNatClampNeg)) q_62 (1 : Int32).toNatClampNeg (iM (wI (wN M q_62 100 4) q_62 (0 : Int32).toNatClampNeg (iM (wN M q_62 100 4) a5 i8.toNatClampNeg)) a5 ((i8 + 1) - (i8 + 1) / (nI n_60) * (nI n_60)).toNatClampNeg)) a7 ((i8 + 1) - (i8 + 1) / (nI n_60) * (nI n_60)).toNatClampNeg)) a7 i8.toNatClampNeg)) a0 = (9, 13) ∧ T_X9_newFace (wI (wI (wI (wI (wN M q_62 100 4) q_62 (0 : Int32).toNatClampNeg (iM (wN M q_62 100 4) a5 i8.toNatClampNeg)) q_62 (1 : Int32).toNatClampNeg (iM (wI (wN M q_62 100 4) q_62 (0 : Int32).toNatClampNeg (iM (wN M q_62 100 4) a5 i8.toNatClampNeg)) a5 ((i8 + 1) - (i8 + 1) / (nI n_60) * (nI n_60)).toNatClampNeg)) q_62 (2 : Int32).toNatClampNeg (iM (wI (wI (wN M q_62 100 4) q_62 (0 : Int32).toNatClampNeg (iM (wN M q_62 100 4) a5 i8.toNatClampNeg)) q_62 (1 : Int32).toNatClampNeg (iM (wI (wN M q_62 100 4) q_62 (0 : Int32).toNatClampNeg (iM (wN M q_62 100 4) a5 i8.toNatClampNeg)) a5 ((i8 + 1) - (i8 + 1) / (nI n_60) * (nI n_60)).toNatClampNeg)) a7 ((i8 + 1) - (i8 + 1) / (nI n_60) * (nI n_60)).toNatClampNeg)) q_62 (3 : Int32).toNatClampNeg (iM (wI (wI (wI (wN M q_62 100 4) q_62 (0 : Int32).toNatClampNeg (iM (wN M q_62 100 4) a5 i8.toNatClampNeg)) q_62 (1 : Int32).toNatClampNeg (iM (wI (wN M q_62 100 4) q_62 (0 : Int32).toNatClampNeg (iM (wN M q_62 100 4) a5 i8.toNatClampNeg)) a5 ((i8 + 1) - (i8 + 1) / (nI n_60) * (nI n_60)).toNatClampNeg)) q_62 (2 : Int32).toNatClampNeg (iM (wI (wI (wN M q_62 100 4) q_62 (0 : Int32).toNatClampNeg (iM (wN M q_62 100 4) a5 i8.toNatClampNeg)) q_62 (1 : Int32).toNatClampNeg (iM (wI (wN M q_62 100 4) q_62 (0 : Int32).toNatClampNeg (iM (wN M q_62 100 4) a5 i8.toNatClampNeg)) a5 ((i8 + 1) - (i8 + 1) / (nI n_60) * (nI n_60)).toNatClampNeg)) a7 ((i8 + 1) - (i8 + 1) / (nI n_60) * (nI n_60)).toNatClampNeg)) a7 i8.toNatClampNeg)) a0 q_62 (fun r_71 M_72 => K249 a0 i1 a5 a7 (i8 + 1) M_72 (cc + 1) (zz + 4)))
def S_X9_draw_119 (K57 : Nat → Int32 → Int32 → Int32 → Int32 → Nat → Nat → Nat → Int32 → Int32 → Mm → Nat → Nat → Prop) (K164 : Nat → Mm → Nat → Nat → Prop) (K180 : Nat → Int32 → Int32 → Int32 → Int32 → Nat → Nat → Int32 → Mm → Nat → Nat → Prop) (K74 : Nat → Int32 → Int32 → Int32 → Int32 → Nat → Nat → Nat → Int32 → Int32 → Int32 → Int32 → Mm → Nat → Nat → Prop) (K249 : Nat → Int32 → Nat → Nat → Int32 → Mm → Nat → Nat → Prop) (K119 : Nat → Mm → Nat → Nat → Prop) (Cc Zz : Nat) (Q : Int32 → Mm → Prop) (M : Mm) (a0 : Nat) (cc zz : Nat) : Prop := (cc ≤ Cc ∧ zz ≤ Zz) ∧ kM M a0 = (9, 13) ∧ T_X9_refuse M a0 2 (fun r_73 M_74 => cc ≤ Cc ∧ zz ≤ Zz ∧ Q r_73 M_74)
def T_X9_draw (Cc Zz : Nat) (M : Mm) (a0 : Nat) (i1 : Int32) (i2 : Int32) (i3 : Int32) (i4 : Int32) (Q : Int32 → Mm → Prop) : Prop := ∀ (K57 : Nat → Int32 → Int32 → Int32 → Int32 → Nat → Nat → Nat → Int32 → Int32 → Mm → Nat → Nat → Prop) (K164 : Nat → Mm → Nat → Nat → Prop) (K180 : Nat → Int32 → Int32 → Int32 → Int32 → Nat → Nat → Int32 → Mm → Nat → Nat → Prop) (K74 : Nat → Int32 → Int32 → Int32 → Int32 → Nat → Nat → Nat → Int32 → Int32 → Int32 → Int32 → Mm → Nat → Nat → Prop) (K249 : Nat → Int32 → Nat → Nat → Int32 → Mm → Nat → Nat → Prop) (K119 : Nat → Mm → Nat → Nat → Prop), (∀ (a0 : Nat) (i1 : Int32) (i2 : Int32) (i3 : Int32) (i4 : Int32) (a5 : Nat) (a6 : Nat) (a7 : Nat) (i8 : Int32) (i9 : Int32) (M : Mm) (cc zz : Nat), S_X9_draw_57 K57 K164 K180 K74 K249 K119 Cc Zz Q M a0 i1 i2 i3 i4 a5 a6 a7 i8 i9 cc zz → K57 a0 i1 i2 i3 i4 a5 a6 a7 i8 i9 M cc zz) → (∀ (a0 : Nat) (M : Mm) (cc zz : Nat), S_X9_draw_164 K57 K164 K180 K74 K249 K119 Cc Zz Q M a0 cc zz → K164 a0 M cc zz) → (∀ (a0 : Nat) (i1 : Int32) (i2 : Int32) (i3 : Int32) (i4 : Int32) (a5 : Nat) (a7 : Nat) (i8 : Int32) (M : Mm) (cc zz : Nat), S_X9_draw_180 K57 K164 K180 K74 K249 K119 Cc Zz Q M a0 i1 i2 i3 i4 a5 a7 i8 cc zz → K180 a0 i1 i2 i3 i4 a5 a7 i8 M cc zz) → (∀ (a0 : Nat) (i1 : Int32) (i2 : Int32) (i3 : Int32) (i4 : Int32) (a5 : Nat) (a6 : Nat) (a7 : Nat) (i8 : Int32) (i9 : Int32) (i10 : Int32) (i11 : Int32) (M : Mm) (cc zz : Nat), S_X9_draw_74 K57 K164 K180 K74 K249 K119 Cc Zz Q M a0 i1 i2 i3 i4 a5 a6 a7 i8 i9 i10 i11 cc zz → K74 a0 i1 i2 i3 i4 a5 a6 a7 i8 i9 i10 i11 M cc zz) → (∀ (a0 : Nat) (i1 : Int32) (a5 : Nat) (a7 : Nat) (i8 : Int32) (M : Mm) (cc zz : Nat), S_X9_draw_249 K57 K164 K180 K74 K249 K119 Cc Zz Q M a0 i1 a5 a7 i8 cc zz → K249 a0 i1 a5 a7 i8 M cc zz) → (∀ (a0 : Nat) (M : Mm) (cc zz : Nat), S_X9_draw_119 K57 K164 K180 K74 K249 K119 Cc Zz Q M a0 cc zz → K119 a0 M cc zz) → kM M a0 = (9, 13) ∧ (0 ≤ Cc ∧ 0 ≤ Zz) ∧ kM (wI M a0 0 0) a0 = (9, 13) ∧ T_X9_isFace (wI M a0 0 0) a0 i1 (fun r_1 => (¬ r_1 = 0 → kM (wI M a0 0 0) a0 = (9, 13) ∧ ∃ a_2 : Nat, rM (wI M a0 0 0) a0 4 = some a_2 ∧ ∃ n_3 : Nat, kM (wI M a0 0 0) a_2 = (121, n_3) ∧ vp_in i1 n_3 ∧ ∃ a_4 : Nat, rM (wI M a0 0 0) a_2 i1.toNatClampNeg = some a_4 ∧ 0 + 1 ≤ Cc ∧ 0 + 3 ≤ Zz ∧ ∀ q_5 : Nat, frs (wI M a0 0 0) q_5 → ∃ n_6 : Nat, kM (wN (wI M a0 0 0) q_5 100 3) q_5 = (100, n_6) ∧ vp_in 0 n_6 ∧ ∃ n_7 : Nat, kM (wI (wN (wI M a0 0 0) q_5 100 3) q_5 (0 : Int32).toNatClampNeg i2) q_5 = (100, n_7) ∧ vp_in 1 n_7 ∧ ∃ n_8 : Nat, kM (wI (wI (wN (wI M a0 0 0) q_5 100 3) q_5 (0 : Int32).toNatClampNeg i2) q_5 (1 : Int32).toNatClampNeg i3) q_5 = (100, n_8) ∧ vp_in 2 n_8 ∧ ∃ k_10 n_9 : Nat, kM (wI (wI (wI (wN (wI M a0 0 0) q_5 100 3) q_5 (0 : Int32).toNatClampNeg i2) q_5 (1 : Int32).toNatClampNeg i3) q_5 (2 : Int32).toNatClampNeg i4) a_4 = (k_10, n_9) ∧ ak k_10 ∧ K57 a0 i1 i2 i3 i4 a_4 q_5 a_4 (nI n_9) 0 (wI (wI (wI (wN (wI M a0 0 0) q_5 100 3) q_5 (0 : Int32).toNatClampNeg i2) q_5 (1 : Int32).toNatClampNeg i3) q_5 (2 : Int32).toNatClampNeg i4) (0 + 1) (0 + 3)) ∧ (r_1 = 0 → (0 ≤ Cc ∧ 0 ≤ Zz) ∧ kM (wI M a0 0 0) a0 = (9, 13) ∧ T_X9_refuse (wI M a0 0 0) a0 1 (fun r_11 M_12 => 0 ≤ Cc ∧ 0 ≤ Zz ∧ Q r_11 M_12)))
theorem inX9_draw_X9 : ∀ w ∈ wsX90, w ∈ wsX9_draw := by decide +kernel
set_option maxRecDepth 100000 in
set_option maxHeartbeats 4000000 in
theorem b_X9_draw_57 {p : Program} {l : Launch} {e : Env} {s : State} {m : MethodId} {args : Array Value} {below : List Frame} {meth : Method} {c : Code} {D : va_G} {cA : Nat → ClassId} {lo : Nat} (C : Cx p s m args c cX9_draw 12 RX9 wsX9_draw D cA lo) (hr : meth.sig.returnType = (some .int)) (hlk : meth.locks = false) {Q : Int32 → Mm → Prop} {Cc Zz : Nat} (M : Mm) (a0 : Nat) (i1 : Int32) (i2 : Int32) (i3 : Int32) (i4 : Int32) (a5 : Nat) (a6 : Nat) (a7 : Nat) (i8 : Int32) (i9 : Int32) (cc zz : Nat) (h : S_X9_draw_57 (fun (a0 : Nat) (i1 : Int32) (i2 : Int32) (i3 : Int32) (i4 : Int32) (a5 : Nat) (a6 : Nat) (a7 : Nat) (i8 : Int32) (i9 : Int32) (M : Mm) (cc zz : Nat) => QW p l e ({ frames := 3, cells := Cc, slots := Zz, locals := 84 } : Room) s m args below meth c (MQ below (QiM D cA lo Q) args s Cc Zz (fun q => lo ≤ q)) 12 D cA lo cc zz M 57 [(0, .ref a0), (1, .int i1), (2, .int i2), (3, .int i3), (4, .int i4), (5, .ref a5), (6, .ref a6), (7, .ref a7), (8, .int i8), (9, .int i9)] []) (fun (a0 : Nat) (M : Mm) (cc zz : Nat) => QW p l e ({ frames := 3, cells := Cc, slots := Zz, locals := 84 } : Room) s m args below meth c (MQ below (QiM D cA lo Q) args s Cc Zz (fun q => lo ≤ q)) 12 D cA lo cc zz M 164 [(0, .ref a0)] []) (fun (a0 : Nat) (i1 : Int32) (i2 : Int32) (i3 : Int32) (i4 : Int32) (a5 : Nat) (a7 : Nat) (i8 : Int32) (M : Mm) (cc zz : Nat) => QW p l e ({ frames := 3, cells := Cc, slots := Zz, locals := 84 } : Room) s m args below meth c (MQ below (QiM D cA lo Q) args s Cc Zz (fun q => lo ≤ q)) 12 D cA lo cc zz M 180 [(0, .ref a0), (1, .int i1), (2, .int i2), (3, .int i3), (4, .int i4), (5, .ref a5), (7, .ref a7), (8, .int i8)] []) (fun (a0 : Nat) (i1 : Int32) (i2 : Int32) (i3 : Int32) (i4 : Int32) (a5 : Nat) (a6 : Nat) (a7 : Nat) (i8 : Int32) (i9 : Int32) (i10 : Int32) (i11 : Int32) (M : Mm) (cc zz : Nat) => QW p l e ({ frames := 3, cells := Cc, slots := Zz, locals := 84 } : Room) s m args below meth c (MQ below (QiM D cA lo Q) args s Cc Zz (fun q => lo ≤ q)) 12 D cA lo cc zz M 74 [(0, .ref a0), (1, .int i1), (2, .int i2), (3, .int i3), (4, .int i4), (5, .ref a5), (6, .ref a6), (7, .ref a7), (8, .int i8), (9, .int i9), (10, .int i10), (11, .int i11)] []) (fun (a0 : Nat) (i1 : Int32) (a5 : Nat) (a7 : Nat) (i8 : Int32) (M : Mm) (cc zz : Nat) => QW p l e ({ frames := 3, cells := Cc, slots := Zz, locals := 84 } : Room) s m args below meth c (MQ below (QiM D cA lo Q) args s Cc Zz (fun q => lo ≤ q)) 12 D cA lo cc zz M 249 [(0, .ref a0), (1, .int i1), (5, .ref a5), (7, .ref a7), (8, .int i8)] []) (fun (a0 : Nat) (M : Mm) (cc zz : Nat) => QW p l e ({ frames := 3, cells := Cc, slots := Zz, locals := 84 } : Room) s m args below meth c (MQ below (QiM D cA lo Q) args s Cc Zz (fun q => lo ≤ q)) 12 D cA lo cc zz M 119 [(0, .ref a0)] []) Cc Zz Q M a0 i1 i2 i3 i4 a5 a6 a7 i8 i9 cc zz) : QW p l e ({ frames := 3, cells := Cc, slots := Zz, locals := 84 } : Room) s m args below meth c (MQ below (QiM D cA lo Q) args s Cc Zz (fun q => lo ≤ q)) 12 D cA lo cc zz M 57 [(0, .ref a0), (1, .int i1), (2, .int i2), (3, .int i3), (4, .int i4), (5, .ref a5), (6, .ref a6), (7, .ref a7), (8, .int i8), (9, .int i9)] [] := by
  unfold S_X9_draw_57 at h
  refine q_iload C dX9_draw_57 (j := 9) rfl ?_
  refine q_iload C dX9_draw_59 (j := 8) rfl ?_
  refine q_icmp_ge (tgt := 137) C dX9_draw_61 (by decide) (fun z => ?_) (fun z => ?_)
  · have h := h.1 z
    refine q_aload_n C dX9_draw_137 rfl (j := 0) rfl ?_
    refine q_getI (ci := 9) (k0 := 3) (T := TX9) C inX9_draw_X9 rfl (by decide) h.1 (by decide) rfl (by decide +kernel) rfl dX9_draw_138 ?_
    have h := h.2
    refine q_aload C dX9_draw_141 (j := 5) rfl ?_
    obtain ⟨k_14, n_13, z1, z2, h⟩ := h
    refine q_alen C z1 z2 dX9_draw_143 ?_
    refine q_iadd C dX9_draw_144 ?_
    refine q_bipush (v := 100) C dX9_draw_145 (by decide) ?_
    refine q_icmp_gt (tgt := 164) C dX9_draw_147 (by decide) (fun z => ?_) (fun z => ?_)
    · have h := h.1 z
      exact q_sub [0] rfl h
    · have h := h.2 z
      refine q_aload_n C dX9_draw_150 rfl (j := 0) rfl ?_
      refine q_getI (ci := 9) (k0 := 5) (T := TX9) C inX9_draw_X9 rfl (by decide) h.1 (by decide) rfl (by decide +kernel) rfl dX9_draw_151 ?_
      have h := h.2
      refine q_aload C dX9_draw_154 (j := 5) rfl ?_
      obtain ⟨k_16, n_15, z1, z2, h⟩ := h
      refine q_alen C z1 z2 dX9_draw_156 ?_
      refine q_iadd C dX9_draw_157 ?_
      refine q_sipush (v := 160) C dX9_draw_158 (by decide) ?_
      refine q_icmp_le (tgt := 170) C dX9_draw_161 (by decide) (fun z => ?_) (fun z => ?_)
      · have h := h.1 z
        refine q_aload C dX9_draw_170 (j := 5) rfl ?_
        obtain ⟨k_18, n_17, z1, z2, h⟩ := h
        refine q_alen C z1 z2 dX9_draw_172 ?_
        refine q_newI (N := (nI n_17).toNatClampNeg) C (by decide +kernel) h.1 rfl (Nat.le_trans (Nat.mul_le_mul_right _ h.2.1) (by decide)) ⟨h.2.2.1, h.2.2.2.1⟩ dX9_draw_173 (fun q_19 hq _ => ?_)
        have h := h.2.2.2.2 q_19 hq
        refine q_astore (lv' := [(7, .ref q_19), (0, .ref a0), (1, .int i1), (2, .int i2), (3, .int i3), (4, .int i4), (5, .ref a5), (6, .ref a6), (8, .int i8), (9, .int i9)]) C dX9_draw_175 (by decide) rfl ?_
        refine q_iconst (v := 0) C dX9_draw_177 (by decide) ?_
        refine q_istore (lv' := [(8, .int 0), (7, .ref q_19), (0, .ref a0), (1, .int i1), (2, .int i2), (3, .int i3), (4, .int i4), (5, .ref a5), (6, .ref a6), (9, .int i9)]) C dX9_draw_178 (by decide) rfl ?_
        exact q_sub [2, 3, 4, 5, 6, 7, 1, 0] rfl h
      · have h := h.2 z
        exact q_sub [0] rfl h
  · have h := h.2 z
    refine q_aload C dX9_draw_64 (j := 7) rfl ?_
    refine q_iload C dX9_draw_66 (j := 9) rfl ?_
    obtain ⟨n_20, z1, z2, h⟩ := h
    refine q_iald C z1 z2 dX9_draw_68 ?_
    refine q_istore (lv' := [(10, .int (iM M a7 i9.toNatClampNeg)), (0, .ref a0), (1, .int i1), (2, .int i2), (3, .int i3), (4, .int i4), (5, .ref a5), (6, .ref a6), (7, .ref a7), (8, .int i8), (9, .int i9)]) C dX9_draw_69 (by decide) rfl ?_
    refine q_iconst (v := 0) C dX9_draw_71 (by decide) ?_
    refine q_istore (lv' := [(11, .int 0), (10, .int (iM M a7 i9.toNatClampNeg)), (0, .ref a0), (1, .int i1), (2, .int i2), (3, .int i3), (4, .int i4), (5, .ref a5), (6, .ref a6), (7, .ref a7), (8, .int i8), (9, .int i9)]) C dX9_draw_72 (by decide) rfl ?_
    exact q_sub [2, 3, 4, 5, 6, 7, 8, 9, 10, 11, 1, 0] rfl h
set_option maxRecDepth 100000 in
set_option maxHeartbeats 4000000 in
theorem b_X9_draw_164 {p : Program} {l : Launch} {e : Env} {s : State} {m : MethodId} {args : Array Value} {below : List Frame} {meth : Method} {c : Code} {D : va_G} {cA : Nat → ClassId} {lo : Nat} (C : Cx p s m args c cX9_draw 12 RX9 wsX9_draw D cA lo) (hr : meth.sig.returnType = (some .int)) (hlk : meth.locks = false) {Q : Int32 → Mm → Prop} {Cc Zz : Nat} (M : Mm) (a0 : Nat) (cc zz : Nat) (h : S_X9_draw_164 (fun (a0 : Nat) (i1 : Int32) (i2 : Int32) (i3 : Int32) (i4 : Int32) (a5 : Nat) (a6 : Nat) (a7 : Nat) (i8 : Int32) (i9 : Int32) (M : Mm) (cc zz : Nat) => QW p l e ({ frames := 3, cells := Cc, slots := Zz, locals := 84 } : Room) s m args below meth c (MQ below (QiM D cA lo Q) args s Cc Zz (fun q => lo ≤ q)) 12 D cA lo cc zz M 57 [(0, .ref a0), (1, .int i1), (2, .int i2), (3, .int i3), (4, .int i4), (5, .ref a5), (6, .ref a6), (7, .ref a7), (8, .int i8), (9, .int i9)] []) (fun (a0 : Nat) (M : Mm) (cc zz : Nat) => QW p l e ({ frames := 3, cells := Cc, slots := Zz, locals := 84 } : Room) s m args below meth c (MQ below (QiM D cA lo Q) args s Cc Zz (fun q => lo ≤ q)) 12 D cA lo cc zz M 164 [(0, .ref a0)] []) (fun (a0 : Nat) (i1 : Int32) (i2 : Int32) (i3 : Int32) (i4 : Int32) (a5 : Nat) (a7 : Nat) (i8 : Int32) (M : Mm) (cc zz : Nat) => QW p l e ({ frames := 3, cells := Cc, slots := Zz, locals := 84 } : Room) s m args below meth c (MQ below (QiM D cA lo Q) args s Cc Zz (fun q => lo ≤ q)) 12 D cA lo cc zz M 180 [(0, .ref a0), (1, .int i1), (2, .int i2), (3, .int i3), (4, .int i4), (5, .ref a5), (7, .ref a7), (8, .int i8)] []) (fun (a0 : Nat) (i1 : Int32) (i2 : Int32) (i3 : Int32) (i4 : Int32) (a5 : Nat) (a6 : Nat) (a7 : Nat) (i8 : Int32) (i9 : Int32) (i10 : Int32) (i11 : Int32) (M : Mm) (cc zz : Nat) => QW p l e ({ frames := 3, cells := Cc, slots := Zz, locals := 84 } : Room) s m args below meth c (MQ below (QiM D cA lo Q) args s Cc Zz (fun q => lo ≤ q)) 12 D cA lo cc zz M 74 [(0, .ref a0), (1, .int i1), (2, .int i2), (3, .int i3), (4, .int i4), (5, .ref a5), (6, .ref a6), (7, .ref a7), (8, .int i8), (9, .int i9), (10, .int i10), (11, .int i11)] []) (fun (a0 : Nat) (i1 : Int32) (a5 : Nat) (a7 : Nat) (i8 : Int32) (M : Mm) (cc zz : Nat) => QW p l e ({ frames := 3, cells := Cc, slots := Zz, locals := 84 } : Room) s m args below meth c (MQ below (QiM D cA lo Q) args s Cc Zz (fun q => lo ≤ q)) 12 D cA lo cc zz M 249 [(0, .ref a0), (1, .int i1), (5, .ref a5), (7, .ref a7), (8, .int i8)] []) (fun (a0 : Nat) (M : Mm) (cc zz : Nat) => QW p l e ({ frames := 3, cells := Cc, slots := Zz, locals := 84 } : Room) s m args below meth c (MQ below (QiM D cA lo Q) args s Cc Zz (fun q => lo ≤ q)) 12 D cA lo cc zz M 119 [(0, .ref a0)] []) Cc Zz Q M a0 cc zz) : QW p l e ({ frames := 3, cells := Cc, slots := Zz, locals := 84 } : Room) s m args below meth c (MQ below (QiM D cA lo Q) args s Cc Zz (fun q => lo ≤ q)) 12 D cA lo cc zz M 164 [(0, .ref a0)] [] := by
  unfold S_X9_draw_164 at h
  refine q_aload_n C dX9_draw_164 rfl (j := 0) rfl ?_
  refine q_iconst (v := 3) C dX9_draw_165 (by decide) ?_
  have hcz := h.1
  have h := h.2
  refine q_ci (q_runV (As := [.int 3]) (st := []) C (c_X9_refuse l D cA lo h.2) (cwV 1 C.2.2.2.2.1 gX9_draw_X9_refuse rfl rfl rfl (by decide +kernel) ⟨Nat.le_of_ble_eq_true rfl, Nat.le_of_ble_eq_true rfl⟩) h.1 (by decide) rfl rfl rfl (Nat.le_of_ble_eq_true rfl) dX9_draw_166 ⟨Nat.le_trans (Nat.le_of_eq (Nat.add_zero _)) hcz.1, Nat.le_trans (Nat.le_of_eq (Nat.add_zero _)) hcz.2⟩) (fun r_21 M_22 h => ?_)
  exact q_iret C hr hlk dX9_draw_169 h.1 h.2.1 h.2.2
set_option maxRecDepth 100000 in
set_option maxHeartbeats 4000000 in
theorem b_X9_draw_180 {p : Program} {l : Launch} {e : Env} {s : State} {m : MethodId} {args : Array Value} {below : List Frame} {meth : Method} {c : Code} {D : va_G} {cA : Nat → ClassId} {lo : Nat} (C : Cx p s m args c cX9_draw 12 RX9 wsX9_draw D cA lo) (hr : meth.sig.returnType = (some .int)) (hlk : meth.locks = false) {Q : Int32 → Mm → Prop} {Cc Zz : Nat} (M : Mm) (a0 : Nat) (i1 : Int32) (i2 : Int32) (i3 : Int32) (i4 : Int32) (a5 : Nat) (a7 : Nat) (i8 : Int32) (cc zz : Nat) (h : S_X9_draw_180 (fun (a0 : Nat) (i1 : Int32) (i2 : Int32) (i3 : Int32) (i4 : Int32) (a5 : Nat) (a6 : Nat) (a7 : Nat) (i8 : Int32) (i9 : Int32) (M : Mm) (cc zz : Nat) => QW p l e ({ frames := 3, cells := Cc, slots := Zz, locals := 84 } : Room) s m args below meth c (MQ below (QiM D cA lo Q) args s Cc Zz (fun q => lo ≤ q)) 12 D cA lo cc zz M 57 [(0, .ref a0), (1, .int i1), (2, .int i2), (3, .int i3), (4, .int i4), (5, .ref a5), (6, .ref a6), (7, .ref a7), (8, .int i8), (9, .int i9)] []) (fun (a0 : Nat) (M : Mm) (cc zz : Nat) => QW p l e ({ frames := 3, cells := Cc, slots := Zz, locals := 84 } : Room) s m args below meth c (MQ below (QiM D cA lo Q) args s Cc Zz (fun q => lo ≤ q)) 12 D cA lo cc zz M 164 [(0, .ref a0)] []) (fun (a0 : Nat) (i1 : Int32) (i2 : Int32) (i3 : Int32) (i4 : Int32) (a5 : Nat) (a7 : Nat) (i8 : Int32) (M : Mm) (cc zz : Nat) => QW p l e ({ frames := 3, cells := Cc, slots := Zz, locals := 84 } : Room) s m args below meth c (MQ below (QiM D cA lo Q) args s Cc Zz (fun q => lo ≤ q)) 12 D cA lo cc zz M 180 [(0, .ref a0), (1, .int i1), (2, .int i2), (3, .int i3), (4, .int i4), (5, .ref a5), (7, .ref a7), (8, .int i8)] []) (fun (a0 : Nat) (i1 : Int32) (i2 : Int32) (i3 : Int32) (i4 : Int32) (a5 : Nat) (a6 : Nat) (a7 : Nat) (i8 : Int32) (i9 : Int32) (i10 : Int32) (i11 : Int32) (M : Mm) (cc zz : Nat) => QW p l e ({ frames := 3, cells := Cc, slots := Zz, locals := 84 } : Room) s m args below meth c (MQ below (QiM D cA lo Q) args s Cc Zz (fun q => lo ≤ q)) 12 D cA lo cc zz M 74 [(0, .ref a0), (1, .int i1), (2, .int i2), (3, .int i3), (4, .int i4), (5, .ref a5), (6, .ref a6), (7, .ref a7), (8, .int i8), (9, .int i9), (10, .int i10), (11, .int i11)] []) (fun (a0 : Nat) (i1 : Int32) (a5 : Nat) (a7 : Nat) (i8 : Int32) (M : Mm) (cc zz : Nat) => QW p l e ({ frames := 3, cells := Cc, slots := Zz, locals := 84 } : Room) s m args below meth c (MQ below (QiM D cA lo Q) args s Cc Zz (fun q => lo ≤ q)) 12 D cA lo cc zz M 249 [(0, .ref a0), (1, .int i1), (5, .ref a5), (7, .ref a7), (8, .int i8)] []) (fun (a0 : Nat) (M : Mm) (cc zz : Nat) => QW p l e ({ frames := 3, cells := Cc, slots := Zz, locals := 84 } : Room) s m args below meth c (MQ below (QiM D cA lo Q) args s Cc Zz (fun q => lo ≤ q)) 12 D cA lo cc zz M 119 [(0, .ref a0)] []) Cc Zz Q M a0 i1 i2 i3 i4 a5 a7 i8 cc zz) : QW p l e ({ frames := 3, cells := Cc, slots := Zz, locals := 84 } : Room) s m args below meth c (MQ below (QiM D cA lo Q) args s Cc Zz (fun q => lo ≤ q)) 12 D cA lo cc zz M 180 [(0, .ref a0), (1, .int i1), (2, .int i2), (3, .int i3), (4, .int i4), (5, .ref a5), (7, .ref a7), (8, .int i8)] [] := by
  unfold S_X9_draw_180 at h
  refine q_iload C dX9_draw_180 (j := 7) rfl ?_
  refine q_aload C dX9_draw_182 (j := 5) rfl ?_
  obtain ⟨k_24, n_23, z1, z2, h⟩ := h
  refine q_alen C z1 z2 dX9_draw_184 ?_
  refine q_icmp_ge (tgt := 246) C dX9_draw_185 (by decide) (fun z => ?_) (fun z => ?_)
  · have h := h.1 z
    refine q_iconst (v := 0) C dX9_draw_246 (by decide) ?_
    refine q_istore (lv' := [(8, .int 0), (0, .ref a0), (1, .int i1), (2, .int i2), (3, .int i3), (4, .int i4), (5, .ref a5), (7, .ref a7)]) C dX9_draw_247 (by decide) rfl ?_
    exact q_sub [1, 2, 6, 7, 0] rfl h
  · have h := h.2 z
    refine q_aload C dX9_draw_188 (j := 6) rfl ?_
    refine q_iload C dX9_draw_190 (j := 7) rfl ?_
    refine q_aload_n C dX9_draw_192 rfl (j := 0) rfl ?_
    refine q_aload_n C dX9_draw_193 rfl (j := 0) rfl ?_
    refine q_getR (ci := 9) (k0 := 1) (T := TX9) C inX9_draw_X9 rfl (by decide) h.1 (by decide) rfl (by decide +kernel) rfl dX9_draw_194 ?_
    obtain ⟨a_25, z, h⟩ := h.2
    refine q_ref z ?_
    refine q_aload C dX9_draw_197 (j := 5) rfl ?_
    refine q_iload C dX9_draw_199 (j := 7) rfl ?_
    obtain ⟨n_26, z1, z2, h⟩ := h
    refine q_iald C z1 z2 dX9_draw_201 ?_
    obtain ⟨n_27, z1, z2, h⟩ := h
    refine q_gald C z1 z2 dX9_draw_202 ?_
    obtain ⟨a_28, z, h⟩ := h
    refine q_ref z ?_
    refine q_iconst (v := 0) C dX9_draw_203 (by decide) ?_
    obtain ⟨n_29, z1, z2, h⟩ := h
    refine q_iald C z1 z2 dX9_draw_204 ?_
    refine q_iload_n C dX9_draw_205 rfl (j := 2) rfl ?_
    refine q_iadd C dX9_draw_206 ?_
    refine q_aload_n C dX9_draw_207 rfl (j := 0) rfl ?_
    refine q_getR (ci := 9) (k0 := 1) (T := TX9) C inX9_draw_X9 rfl (by decide) h.1 (by decide) rfl (by decide +kernel) rfl dX9_draw_208 ?_
    obtain ⟨a_30, z, h⟩ := h.2
    refine q_ref z ?_
    refine q_aload C dX9_draw_211 (j := 5) rfl ?_
    refine q_iload C dX9_draw_213 (j := 7) rfl ?_
    obtain ⟨n_31, z1, z2, h⟩ := h
    refine q_iald C z1 z2 dX9_draw_215 ?_
    obtain ⟨n_32, z1, z2, h⟩ := h
    refine q_gald C z1 z2 dX9_draw_216 ?_
    obtain ⟨a_33, z, h⟩ := h
    refine q_ref z ?_
    refine q_iconst (v := 1) C dX9_draw_217 (by decide) ?_
    obtain ⟨n_34, z1, z2, h⟩ := h
    refine q_iald C z1 z2 dX9_draw_218 ?_
    refine q_iload_n C dX9_draw_219 rfl (j := 3) rfl ?_
    refine q_iadd C dX9_draw_220 ?_
    refine q_aload_n C dX9_draw_221 rfl (j := 0) rfl ?_
    refine q_getR (ci := 9) (k0 := 1) (T := TX9) C inX9_draw_X9 rfl (by decide) h.1 (by decide) rfl (by decide +kernel) rfl dX9_draw_222 ?_
    obtain ⟨a_35, z, h⟩ := h.2
    refine q_ref z ?_
    refine q_aload C dX9_draw_225 (j := 5) rfl ?_
    refine q_iload C dX9_draw_227 (j := 7) rfl ?_
    obtain ⟨n_36, z1, z2, h⟩ := h
    refine q_iald C z1 z2 dX9_draw_229 ?_
    obtain ⟨n_37, z1, z2, h⟩ := h
    refine q_gald C z1 z2 dX9_draw_230 ?_
    obtain ⟨a_38, z, h⟩ := h
    refine q_ref z ?_
    refine q_iconst (v := 2) C dX9_draw_231 (by decide) ?_
    obtain ⟨n_39, z1, z2, h⟩ := h
    refine q_iald C z1 z2 dX9_draw_232 ?_
    refine q_iload C dX9_draw_233 (j := 4) rfl ?_
    refine q_iadd C dX9_draw_235 ?_
    obtain ⟨dc_42, ds_42, hcz, h⟩ := h
    refine q_ci (q_runV (As := [.int ((iM M a_28 (0 : Int32).toNatClampNeg) + i2), .int ((iM M a_33 (1 : Int32).toNatClampNeg) + i3), .int ((iM M a_38 (2 : Int32).toNatClampNeg) + i4)]) (st := [.int i8, .ref a7]) C (c_X9_newPoint l D cA lo h.2) (cwV 3 C.2.2.2.2.1 gX9_draw_X9_newPoint rfl rfl rfl (by decide +kernel) ⟨Nat.le_of_ble_eq_true rfl, Nat.le_of_ble_eq_true rfl⟩) h.1 (by decide) rfl rfl rfl (Nat.le_of_ble_eq_true rfl) dX9_draw_236 hcz) (fun r_40 M_41 h => ?_)
    obtain ⟨n_43, z1, z2, h⟩ := h
    refine q_iast C z1 z2 dX9_draw_239 ?_
    refine q_iinc (v := (i8 + 1)) (lv' := [(8, .int (i8 + 1)), (0, .ref a0), (1, .int i1), (2, .int i2), (3, .int i3), (4, .int i4), (5, .ref a5), (7, .ref a7)]) C dX9_draw_240 (j := 7) rfl rfl (by decide) rfl ?_
    refine q_goto (tgt := 180) C dX9_draw_243 (by decide) ?_
    exact q_sub [1, 2, 3, 4, 5, 6, 7, 0] rfl h
set_option maxRecDepth 100000 in
set_option maxHeartbeats 4000000 in
theorem b_X9_draw_74 {p : Program} {l : Launch} {e : Env} {s : State} {m : MethodId} {args : Array Value} {below : List Frame} {meth : Method} {c : Code} {D : va_G} {cA : Nat → ClassId} {lo : Nat} (C : Cx p s m args c cX9_draw 12 RX9 wsX9_draw D cA lo) (hr : meth.sig.returnType = (some .int)) (hlk : meth.locks = false) {Q : Int32 → Mm → Prop} {Cc Zz : Nat} (M : Mm) (a0 : Nat) (i1 : Int32) (i2 : Int32) (i3 : Int32) (i4 : Int32) (a5 : Nat) (a6 : Nat) (a7 : Nat) (i8 : Int32) (i9 : Int32) (i10 : Int32) (i11 : Int32) (cc zz : Nat) (h : S_X9_draw_74 (fun (a0 : Nat) (i1 : Int32) (i2 : Int32) (i3 : Int32) (i4 : Int32) (a5 : Nat) (a6 : Nat) (a7 : Nat) (i8 : Int32) (i9 : Int32) (M : Mm) (cc zz : Nat) => QW p l e ({ frames := 3, cells := Cc, slots := Zz, locals := 84 } : Room) s m args below meth c (MQ below (QiM D cA lo Q) args s Cc Zz (fun q => lo ≤ q)) 12 D cA lo cc zz M 57 [(0, .ref a0), (1, .int i1), (2, .int i2), (3, .int i3), (4, .int i4), (5, .ref a5), (6, .ref a6), (7, .ref a7), (8, .int i8), (9, .int i9)] []) (fun (a0 : Nat) (M : Mm) (cc zz : Nat) => QW p l e ({ frames := 3, cells := Cc, slots := Zz, locals := 84 } : Room) s m args below meth c (MQ below (QiM D cA lo Q) args s Cc Zz (fun q => lo ≤ q)) 12 D cA lo cc zz M 164 [(0, .ref a0)] []) (fun (a0 : Nat) (i1 : Int32) (i2 : Int32) (i3 : Int32) (i4 : Int32) (a5 : Nat) (a7 : Nat) (i8 : Int32) (M : Mm) (cc zz : Nat) => QW p l e ({ frames := 3, cells := Cc, slots := Zz, locals := 84 } : Room) s m args below meth c (MQ below (QiM D cA lo Q) args s Cc Zz (fun q => lo ≤ q)) 12 D cA lo cc zz M 180 [(0, .ref a0), (1, .int i1), (2, .int i2), (3, .int i3), (4, .int i4), (5, .ref a5), (7, .ref a7), (8, .int i8)] []) (fun (a0 : Nat) (i1 : Int32) (i2 : Int32) (i3 : Int32) (i4 : Int32) (a5 : Nat) (a6 : Nat) (a7 : Nat) (i8 : Int32) (i9 : Int32) (i10 : Int32) (i11 : Int32) (M : Mm) (cc zz : Nat) => QW p l e ({ frames := 3, cells := Cc, slots := Zz, locals := 84 } : Room) s m args below meth c (MQ below (QiM D cA lo Q) args s Cc Zz (fun q => lo ≤ q)) 12 D cA lo cc zz M 74 [(0, .ref a0), (1, .int i1), (2, .int i2), (3, .int i3), (4, .int i4), (5, .ref a5), (6, .ref a6), (7, .ref a7), (8, .int i8), (9, .int i9), (10, .int i10), (11, .int i11)] []) (fun (a0 : Nat) (i1 : Int32) (a5 : Nat) (a7 : Nat) (i8 : Int32) (M : Mm) (cc zz : Nat) => QW p l e ({ frames := 3, cells := Cc, slots := Zz, locals := 84 } : Room) s m args below meth c (MQ below (QiM D cA lo Q) args s Cc Zz (fun q => lo ≤ q)) 12 D cA lo cc zz M 249 [(0, .ref a0), (1, .int i1), (5, .ref a5), (7, .ref a7), (8, .int i8)] []) (fun (a0 : Nat) (M : Mm) (cc zz : Nat) => QW p l e ({ frames := 3, cells := Cc, slots := Zz, locals := 84 } : Room) s m args below meth c (MQ below (QiM D cA lo Q) args s Cc Zz (fun q => lo ≤ q)) 12 D cA lo cc zz M 119 [(0, .ref a0)] []) Cc Zz Q M a0 i1 i2 i3 i4 a5 a6 a7 i8 i9 i10 i11 cc zz) : QW p l e ({ frames := 3, cells := Cc, slots := Zz, locals := 84 } : Room) s m args below meth c (MQ below (QiM D cA lo Q) args s Cc Zz (fun q => lo ≤ q)) 12 D cA lo cc zz M 74 [(0, .ref a0), (1, .int i1), (2, .int i2), (3, .int i3), (4, .int i4), (5, .ref a5), (6, .ref a6), (7, .ref a7), (8, .int i8), (9, .int i9), (10, .int i10), (11, .int i11)] [] := by
  unfold S_X9_draw_74 at h
  refine q_iload C dX9_draw_74 (j := 11) rfl ?_
  refine q_iconst (v := 3) C dX9_draw_76 (by decide) ?_
  refine q_icmp_ge (tgt := 131) C dX9_draw_77 (by decide) (fun z => ?_) (fun z => ?_)
  · have h := h.1 z
    refine q_iinc (v := (i9 + 1)) (lv' := [(9, .int (i9 + 1)), (0, .ref a0), (1, .int i1), (2, .int i2), (3, .int i3), (4, .int i4), (5, .ref a5), (6, .ref a6), (7, .ref a7), (8, .int i8), (10, .int i10), (11, .int i11)]) C dX9_draw_131 (j := 9) rfl rfl (by decide) rfl ?_
    refine q_goto (tgt := 57) C dX9_draw_134 (by decide) ?_
    exact q_sub [1, 2, 3, 4, 5, 6, 7, 8, 9, 0] rfl h
  · have h := h.2 z
    refine q_aload C dX9_draw_80 (j := 6) rfl ?_
    refine q_iload C dX9_draw_82 (j := 11) rfl ?_
    obtain ⟨n_44, z1, z2, h⟩ := h
    refine q_iald C z1 z2 dX9_draw_84 ?_
    refine q_sipush (v := (-1000)) C dX9_draw_85 (by decide) ?_
    refine q_sipush (v := 1000) C dX9_draw_88 (by decide) ?_
    have hcz := h.1
    have h := h.2
    refine q_ci (q_runS (As := [.int (iM M a6 i11.toNatClampNeg), .int (-1000), .int 1000]) (st := []) C (c_X9_is l D cA lo h) (va_cwS 3 C.2.2.2.2.1 gX9_draw_X9_is rfl rfl rfl (by decide +kernel) ⟨Nat.le_of_ble_eq_true rfl, Nat.le_of_ble_eq_true rfl⟩) rfl rfl (Nat.le_of_ble_eq_true rfl) dX9_draw_91 ⟨Nat.le_trans (Nat.le_of_eq (Nat.add_zero _)) hcz.1, Nat.le_trans (Nat.le_of_eq (Nat.add_zero _)) hcz.2⟩) (fun r_45 M_z h => ?_)
    refine q_mem h.1 ?_
    have h := h.2
    refine q_if_eq (tgt := 119) C dX9_draw_94 (by decide) (fun z => ?_) (fun z => ?_)
    · have h := h.1 z
      exact q_sub [0] rfl h
    · have h := h.2 z
      refine q_aload_n C dX9_draw_97 rfl (j := 0) rfl ?_
      refine q_getR (ci := 9) (k0 := 1) (T := TX9) C inX9_draw_X9 rfl (by decide) h.1 (by decide) rfl (by decide +kernel) rfl dX9_draw_98 ?_
      obtain ⟨a_46, z, h⟩ := h.2
      refine q_ref z ?_
      refine q_iload C dX9_draw_101 (j := 10) rfl ?_
      obtain ⟨n_47, z1, z2, h⟩ := h
      refine q_gald C z1 z2 dX9_draw_103 ?_
      obtain ⟨a_48, z, h⟩ := h
      refine q_ref z ?_
      refine q_iload C dX9_draw_104 (j := 11) rfl ?_
      obtain ⟨n_49, z1, z2, h⟩ := h
      refine q_iald C z1 z2 dX9_draw_106 ?_
      refine q_aload C dX9_draw_107 (j := 6) rfl ?_
      refine q_iload C dX9_draw_109 (j := 11) rfl ?_
      obtain ⟨n_50, z1, z2, h⟩ := h
      refine q_iald C z1 z2 dX9_draw_111 ?_
      refine q_iadd C dX9_draw_112 ?_
      have hcz := h.1
      have h := h.2
      refine q_ci (q_runS (As := [.int ((iM M a_48 i11.toNatClampNeg) + (iM M a6 i11.toNatClampNeg))]) (st := []) C (c_X9_isNear l D cA lo h) (va_cwS 1 C.2.2.2.2.1 gX9_draw_X9_isNear rfl rfl rfl (by decide +kernel) ⟨Nat.le_of_ble_eq_true rfl, Nat.le_of_ble_eq_true rfl⟩) rfl rfl (Nat.le_of_ble_eq_true rfl) dX9_draw_113 ⟨Nat.le_trans (Nat.le_of_eq (Nat.add_zero _)) hcz.1, Nat.le_trans (Nat.le_of_eq (Nat.add_zero _)) hcz.2⟩) (fun r_51 M_z h => ?_)
      refine q_mem h.1 ?_
      have h := h.2
      refine q_if_ne (tgt := 125) C dX9_draw_116 (by decide) (fun z => ?_) (fun z => ?_)
      · have h := h.1 z
        refine q_iinc (v := (i11 + 1)) (lv' := [(11, .int (i11 + 1)), (0, .ref a0), (1, .int i1), (2, .int i2), (3, .int i3), (4, .int i4), (5, .ref a5), (6, .ref a6), (7, .ref a7), (8, .int i8), (9, .int i9), (10, .int i10)]) C dX9_draw_125 (j := 11) rfl rfl (by decide) rfl ?_
        refine q_goto (tgt := 74) C dX9_draw_128 (by decide) ?_
        exact q_sub [1, 2, 3, 4, 5, 6, 7, 8, 9, 10, 11, 0] rfl h
      · have h := h.2 z
        exact q_sub [0] rfl h
set_option maxRecDepth 100000 in
set_option maxHeartbeats 4000000 in
theorem b_X9_draw_249 {p : Program} {l : Launch} {e : Env} {s : State} {m : MethodId} {args : Array Value} {below : List Frame} {meth : Method} {c : Code} {D : va_G} {cA : Nat → ClassId} {lo : Nat} (C : Cx p s m args c cX9_draw 12 RX9 wsX9_draw D cA lo) (hr : meth.sig.returnType = (some .int)) (hlk : meth.locks = false) {Q : Int32 → Mm → Prop} {Cc Zz : Nat} (M : Mm) (a0 : Nat) (i1 : Int32) (a5 : Nat) (a7 : Nat) (i8 : Int32) (cc zz : Nat) (h : S_X9_draw_249 (fun (a0 : Nat) (i1 : Int32) (i2 : Int32) (i3 : Int32) (i4 : Int32) (a5 : Nat) (a6 : Nat) (a7 : Nat) (i8 : Int32) (i9 : Int32) (M : Mm) (cc zz : Nat) => QW p l e ({ frames := 3, cells := Cc, slots := Zz, locals := 84 } : Room) s m args below meth c (MQ below (QiM D cA lo Q) args s Cc Zz (fun q => lo ≤ q)) 12 D cA lo cc zz M 57 [(0, .ref a0), (1, .int i1), (2, .int i2), (3, .int i3), (4, .int i4), (5, .ref a5), (6, .ref a6), (7, .ref a7), (8, .int i8), (9, .int i9)] []) (fun (a0 : Nat) (M : Mm) (cc zz : Nat) => QW p l e ({ frames := 3, cells := Cc, slots := Zz, locals := 84 } : Room) s m args below meth c (MQ below (QiM D cA lo Q) args s Cc Zz (fun q => lo ≤ q)) 12 D cA lo cc zz M 164 [(0, .ref a0)] []) (fun (a0 : Nat) (i1 : Int32) (i2 : Int32) (i3 : Int32) (i4 : Int32) (a5 : Nat) (a7 : Nat) (i8 : Int32) (M : Mm) (cc zz : Nat) => QW p l e ({ frames := 3, cells := Cc, slots := Zz, locals := 84 } : Room) s m args below meth c (MQ below (QiM D cA lo Q) args s Cc Zz (fun q => lo ≤ q)) 12 D cA lo cc zz M 180 [(0, .ref a0), (1, .int i1), (2, .int i2), (3, .int i3), (4, .int i4), (5, .ref a5), (7, .ref a7), (8, .int i8)] []) (fun (a0 : Nat) (i1 : Int32) (i2 : Int32) (i3 : Int32) (i4 : Int32) (a5 : Nat) (a6 : Nat) (a7 : Nat) (i8 : Int32) (i9 : Int32) (i10 : Int32) (i11 : Int32) (M : Mm) (cc zz : Nat) => QW p l e ({ frames := 3, cells := Cc, slots := Zz, locals := 84 } : Room) s m args below meth c (MQ below (QiM D cA lo Q) args s Cc Zz (fun q => lo ≤ q)) 12 D cA lo cc zz M 74 [(0, .ref a0), (1, .int i1), (2, .int i2), (3, .int i3), (4, .int i4), (5, .ref a5), (6, .ref a6), (7, .ref a7), (8, .int i8), (9, .int i9), (10, .int i10), (11, .int i11)] []) (fun (a0 : Nat) (i1 : Int32) (a5 : Nat) (a7 : Nat) (i8 : Int32) (M : Mm) (cc zz : Nat) => QW p l e ({ frames := 3, cells := Cc, slots := Zz, locals := 84 } : Room) s m args below meth c (MQ below (QiM D cA lo Q) args s Cc Zz (fun q => lo ≤ q)) 12 D cA lo cc zz M 249 [(0, .ref a0), (1, .int i1), (5, .ref a5), (7, .ref a7), (8, .int i8)] []) (fun (a0 : Nat) (M : Mm) (cc zz : Nat) => QW p l e ({ frames := 3, cells := Cc, slots := Zz, locals := 84 } : Room) s m args below meth c (MQ below (QiM D cA lo Q) args s Cc Zz (fun q => lo ≤ q)) 12 D cA lo cc zz M 119 [(0, .ref a0)] []) Cc Zz Q M a0 i1 a5 a7 i8 cc zz) : QW p l e ({ frames := 3, cells := Cc, slots := Zz, locals := 84 } : Room) s m args below meth c (MQ below (QiM D cA lo Q) args s Cc Zz (fun q => lo ≤ q)) 12 D cA lo cc zz M 249 [(0, .ref a0), (1, .int i1), (5, .ref a5), (7, .ref a7), (8, .int i8)] [] := by
  unfold S_X9_draw_249 at h
  refine q_iload C dX9_draw_249 (j := 4) rfl ?_
  refine q_aload C dX9_draw_251 (j := 2) rfl ?_
  obtain ⟨k_53, n_52, z1, z2, h⟩ := h
  refine q_alen C z1 z2 dX9_draw_253 ?_
  refine q_icmp_ge (tgt := 313) C dX9_draw_254 (by decide) (fun z => ?_) (fun z => ?_)
  · have h := h.1 z
    refine q_aload_n C dX9_draw_313 rfl (j := 0) rfl ?_
    refine q_getR (ci := 9) (k0 := 4) (T := TX9) C inX9_draw_X9 rfl (by decide) h.1 (by decide) rfl (by decide +kernel) rfl dX9_draw_314 ?_
    obtain ⟨a_54, z, h⟩ := h.2
    refine q_ref z ?_
    refine q_iload_n C dX9_draw_317 rfl (j := 1) rfl ?_
    refine q_aload C dX9_draw_318 (j := 3) rfl ?_
    obtain ⟨n_55, n_56, z1, z2, z3, h⟩ := h
    refine q_rastG C z1 z2 z3 dX9_draw_320 ?_
    refine q_aload_n C dX9_draw_321 rfl (j := 0) rfl ?_
    have hcz := h.1
    have h := h.2
    refine q_cv (q_runV (As := []) (st := []) C (c_X9_table l D cA lo h.2) (cwV 0 C.2.2.2.2.1 gX9_draw_X9_table rfl rfl rfl (by decide +kernel) ⟨Nat.le_of_ble_eq_true rfl, Nat.le_of_ble_eq_true rfl⟩) h.1 (by decide) rfl rfl rfl (Nat.le_of_ble_eq_true rfl) dX9_draw_322 ⟨Nat.le_trans (Nat.le_of_eq (Nat.add_zero _)) hcz.1, Nat.le_trans (Nat.le_of_eq (Nat.add_zero _)) hcz.2⟩) (fun M_58 h => ?_)
    refine q_aload C dX9_draw_325 (j := 3) rfl ?_
    refine q_iconst (v := 0) C dX9_draw_327 (by decide) ?_
    obtain ⟨n_59, z1, z2, h⟩ := h
    refine q_iald C z1 z2 dX9_draw_328 ?_
    exact q_iret C hr hlk dX9_draw_329 h.1 h.2.1 h.2.2
  · have h := h.2 z
    refine q_iload C dX9_draw_257 (j := 4) rfl ?_
    refine q_iconst (v := 1) C dX9_draw_259 (by decide) ?_
    refine q_iadd C dX9_draw_260 ?_
    refine q_aload C dX9_draw_261 (j := 2) rfl ?_
    obtain ⟨k_61, n_60, z1, z2, h⟩ := h
    refine q_alen C z1 z2 dX9_draw_263 ?_
    refine q_irem C dX9_draw_264 h.1 ?_
    have h := h.2
    refine q_istore (lv' := [(9, .int ((i8 + 1) - (i8 + 1) / (nI n_60) * (nI n_60))), (0, .ref a0), (1, .int i1), (5, .ref a5), (7, .ref a7), (8, .int i8)]) C dX9_draw_265 (by decide) rfl ?_
    refine q_aload_n C dX9_draw_267 rfl (j := 1) rfl ?_
    refine q_iconst (v := 4) C dX9_draw_268 (by decide) ?_
    refine q_newI (N := 4) C (by decide +kernel) (by decide) (by decide) (by decide) ⟨h.1, h.2.1⟩ dX9_draw_269 (fun q_62 hq _ => ?_)
    have h := h.2.2 q_62 hq
    refine q_dup C dX9_draw_271 rfl ?_
    refine q_iconst (v := 0) C dX9_draw_272 (by decide) ?_
    refine q_aload C dX9_draw_273 (j := 3) rfl ?_
    refine q_iload C dX9_draw_275 (j := 5) rfl ?_
    obtain ⟨n_63, z1, z2, h⟩ := h
    refine q_iald C z1 z2 dX9_draw_277 ?_
    obtain ⟨n_64, z1, z2, h⟩ := h
    refine q_iast C z1 z2 dX9_draw_278 ?_
    refine q_dup C dX9_draw_279 rfl ?_
    refine q_iconst (v := 1) C dX9_draw_280 (by decide) ?_
    refine q_aload C dX9_draw_281 (j := 3) rfl ?_
    refine q_iload C dX9_draw_283 (j := 0) rfl ?_
    obtain ⟨n_65, z1, z2, h⟩ := h
    refine q_iald C z1 z2 dX9_draw_285 ?_
    obtain ⟨n_66, z1, z2, h⟩ := h
    refine q_iast C z1 z2 dX9_draw_286 ?_
    refine q_dup C dX9_draw_287 rfl ?_
    refine q_iconst (v := 2) C dX9_draw_288 (by decide) ?_
    refine q_aload C dX9_draw_289 (j := 4) rfl ?_
    refine q_iload C dX9_draw_291 (j := 0) rfl ?_
    obtain ⟨n_67, z1, z2, h⟩ := h
    refine q_iald C z1 z2 dX9_draw_293 ?_
    obtain ⟨n_68, z1, z2, h⟩ := h
    refine q_iast C z1 z2 dX9_draw_294 ?_
    refine q_dup C dX9_draw_295 rfl ?_
    refine q_iconst (v := 3) C dX9_draw_296 (by decide) ?_
    refine q_aload C dX9_draw_297 (j := 4) rfl ?_
    refine q_iload C dX9_draw_299 (j := 5) rfl ?_
    obtain ⟨n_69, z1, z2, h⟩ := h
    refine q_iald C z1 z2 dX9_draw_301 ?_
    obtain ⟨n_70, z1, z2, h⟩ := h
    refine q_iast C z1 z2 dX9_draw_302 ?_
    have hcz := h.1
    have h := h.2
    refine q_ci (q_runV (As := [.ref q_62]) (st := []) C (c_X9_newFace l D cA lo h.2) (cwV 1 C.2.2.2.2.1 gX9_draw_X9_newFace rfl rfl rfl (by decide +kernel) ⟨Nat.le_of_ble_eq_true rfl, Nat.le_of_ble_eq_true rfl⟩) h.1 (by decide) rfl rfl rfl (Nat.le_of_ble_eq_true rfl) dX9_draw_303 ⟨Nat.le_trans (Nat.le_of_eq (Nat.add_zero _)) hcz.1, Nat.le_trans (Nat.le_of_eq (Nat.add_zero _)) hcz.2⟩) (fun r_71 M_72 h => ?_)
    refine q_pop C dX9_draw_306 rfl ?_
    refine q_iinc (v := (i8 + 1)) (lv' := [(8, .int (i8 + 1)), (9, .int ((i8 + 1) - (i8 + 1) / (nI n_60) * (nI n_60))), (0, .ref a0), (1, .int i1), (5, .ref a5), (7, .ref a7)]) C dX9_draw_307 (j := 5) rfl rfl (by decide) rfl ?_
    refine q_goto (tgt := 249) C dX9_draw_310 (by decide) ?_
    exact q_sub [2, 3, 4, 5, 0] rfl h
set_option maxRecDepth 100000 in
set_option maxHeartbeats 4000000 in
theorem b_X9_draw_119 {p : Program} {l : Launch} {e : Env} {s : State} {m : MethodId} {args : Array Value} {below : List Frame} {meth : Method} {c : Code} {D : va_G} {cA : Nat → ClassId} {lo : Nat} (C : Cx p s m args c cX9_draw 12 RX9 wsX9_draw D cA lo) (hr : meth.sig.returnType = (some .int)) (hlk : meth.locks = false) {Q : Int32 → Mm → Prop} {Cc Zz : Nat} (M : Mm) (a0 : Nat) (cc zz : Nat) (h : S_X9_draw_119 (fun (a0 : Nat) (i1 : Int32) (i2 : Int32) (i3 : Int32) (i4 : Int32) (a5 : Nat) (a6 : Nat) (a7 : Nat) (i8 : Int32) (i9 : Int32) (M : Mm) (cc zz : Nat) => QW p l e ({ frames := 3, cells := Cc, slots := Zz, locals := 84 } : Room) s m args below meth c (MQ below (QiM D cA lo Q) args s Cc Zz (fun q => lo ≤ q)) 12 D cA lo cc zz M 57 [(0, .ref a0), (1, .int i1), (2, .int i2), (3, .int i3), (4, .int i4), (5, .ref a5), (6, .ref a6), (7, .ref a7), (8, .int i8), (9, .int i9)] []) (fun (a0 : Nat) (M : Mm) (cc zz : Nat) => QW p l e ({ frames := 3, cells := Cc, slots := Zz, locals := 84 } : Room) s m args below meth c (MQ below (QiM D cA lo Q) args s Cc Zz (fun q => lo ≤ q)) 12 D cA lo cc zz M 164 [(0, .ref a0)] []) (fun (a0 : Nat) (i1 : Int32) (i2 : Int32) (i3 : Int32) (i4 : Int32) (a5 : Nat) (a7 : Nat) (i8 : Int32) (M : Mm) (cc zz : Nat) => QW p l e ({ frames := 3, cells := Cc, slots := Zz, locals := 84 } : Room) s m args below meth c (MQ below (QiM D cA lo Q) args s Cc Zz (fun q => lo ≤ q)) 12 D cA lo cc zz M 180 [(0, .ref a0), (1, .int i1), (2, .int i2), (3, .int i3), (4, .int i4), (5, .ref a5), (7, .ref a7), (8, .int i8)] []) (fun (a0 : Nat) (i1 : Int32) (i2 : Int32) (i3 : Int32) (i4 : Int32) (a5 : Nat) (a6 : Nat) (a7 : Nat) (i8 : Int32) (i9 : Int32) (i10 : Int32) (i11 : Int32) (M : Mm) (cc zz : Nat) => QW p l e ({ frames := 3, cells := Cc, slots := Zz, locals := 84 } : Room) s m args below meth c (MQ below (QiM D cA lo Q) args s Cc Zz (fun q => lo ≤ q)) 12 D cA lo cc zz M 74 [(0, .ref a0), (1, .int i1), (2, .int i2), (3, .int i3), (4, .int i4), (5, .ref a5), (6, .ref a6), (7, .ref a7), (8, .int i8), (9, .int i9), (10, .int i10), (11, .int i11)] []) (fun (a0 : Nat) (i1 : Int32) (a5 : Nat) (a7 : Nat) (i8 : Int32) (M : Mm) (cc zz : Nat) => QW p l e ({ frames := 3, cells := Cc, slots := Zz, locals := 84 } : Room) s m args below meth c (MQ below (QiM D cA lo Q) args s Cc Zz (fun q => lo ≤ q)) 12 D cA lo cc zz M 249 [(0, .ref a0), (1, .int i1), (5, .ref a5), (7, .ref a7), (8, .int i8)] []) (fun (a0 : Nat) (M : Mm) (cc zz : Nat) => QW p l e ({ frames := 3, cells := Cc, slots := Zz, locals := 84 } : Room) s m args below meth c (MQ below (QiM D cA lo Q) args s Cc Zz (fun q => lo ≤ q)) 12 D cA lo cc zz M 119 [(0, .ref a0)] []) Cc Zz Q M a0 cc zz) : QW p l e ({ frames := 3, cells := Cc, slots := Zz, locals := 84 } : Room) s m args below meth c (MQ below (QiM D cA lo Q) args s Cc Zz (fun q => lo ≤ q)) 12 D cA lo cc zz M 119 [(0, .ref a0)] [] := by
  unfold S_X9_draw_119 at h
  refine q_aload_n C dX9_draw_119 rfl (j := 0) rfl ?_
  refine q_iconst (v := 2) C dX9_draw_120 (by decide) ?_
  have hcz := h.1
  have h := h.2
  refine q_ci (q_runV (As := [.int 2]) (st := []) C (c_X9_refuse l D cA lo h.2) (cwV 1 C.2.2.2.2.1 gX9_draw_X9_refuse rfl rfl rfl (by decide +kernel) ⟨Nat.le_of_ble_eq_true rfl, Nat.le_of_ble_eq_true rfl⟩) h.1 (by decide) rfl rfl rfl (Nat.le_of_ble_eq_true rfl) dX9_draw_121 ⟨Nat.le_trans (Nat.le_of_eq (Nat.add_zero _)) hcz.1, Nat.le_trans (Nat.le_of_eq (Nat.add_zero _)) hcz.2⟩) (fun r_73 M_74 h => ?_)
  exact q_iret C hr hlk dX9_draw_124 h.1 h.2.1 h.2.2
set_option maxRecDepth 100000 in
set_option maxHeartbeats 4000000 in
theorem c_X9_draw (l : Launch) (D : va_G) (cA : Nat → ClassId) (lo : Nat) {M : Mm} {a0 : Nat} {i1 : Int32} {i2 : Int32} {i3 : Int32} {i4 : Int32} {Cc Zz : Nat} {Q : Int32 → Mm → Prop} (h : T_X9_draw Cc Zz M a0 i1 i2 i3 i4 Q) : Met l yX9_draw wsX9_draw ({ frames := 3, cells := Cc, slots := Zz, locals := 84 } : Room) (PcM D cA lo [.ref a0, .int i1, .int i2, .int i3, .int i4] M) (QiM D cA lo Q) Cc Zz (fun q => lo ≤ q) := by
  refine q_start (cc := cX9_draw) (nL := 12) (ret := (some .int)) (by decide) rfl rfl (Nat.le_of_ble_eq_true rfl) ?_
  intro p e s m args below meth c C hr hlk hin
  unfold T_X9_draw at h
  have h := h (fun (a0 : Nat) (i1 : Int32) (i2 : Int32) (i3 : Int32) (i4 : Int32) (a5 : Nat) (a6 : Nat) (a7 : Nat) (i8 : Int32) (i9 : Int32) (M : Mm) (cc zz : Nat) => QW p l e ({ frames := 3, cells := Cc, slots := Zz, locals := 84 } : Room) s m args below meth c (MQ below (QiM D cA lo Q) args s Cc Zz (fun q => lo ≤ q)) 12 D cA lo cc zz M 57 [(0, .ref a0), (1, .int i1), (2, .int i2), (3, .int i3), (4, .int i4), (5, .ref a5), (6, .ref a6), (7, .ref a7), (8, .int i8), (9, .int i9)] []) (fun (a0 : Nat) (M : Mm) (cc zz : Nat) => QW p l e ({ frames := 3, cells := Cc, slots := Zz, locals := 84 } : Room) s m args below meth c (MQ below (QiM D cA lo Q) args s Cc Zz (fun q => lo ≤ q)) 12 D cA lo cc zz M 164 [(0, .ref a0)] []) (fun (a0 : Nat) (i1 : Int32) (i2 : Int32) (i3 : Int32) (i4 : Int32) (a5 : Nat) (a7 : Nat) (i8 : Int32) (M : Mm) (cc zz : Nat) => QW p l e ({ frames := 3, cells := Cc, slots := Zz, locals := 84 } : Room) s m args below meth c (MQ below (QiM D cA lo Q) args s Cc Zz (fun q => lo ≤ q)) 12 D cA lo cc zz M 180 [(0, .ref a0), (1, .int i1), (2, .int i2), (3, .int i3), (4, .int i4), (5, .ref a5), (7, .ref a7), (8, .int i8)] []) (fun (a0 : Nat) (i1 : Int32) (i2 : Int32) (i3 : Int32) (i4 : Int32) (a5 : Nat) (a6 : Nat) (a7 : Nat) (i8 : Int32) (i9 : Int32) (i10 : Int32) (i11 : Int32) (M : Mm) (cc zz : Nat) => QW p l e ({ frames := 3, cells := Cc, slots := Zz, locals := 84 } : Room) s m args below meth c (MQ below (QiM D cA lo Q) args s Cc Zz (fun q => lo ≤ q)) 12 D cA lo cc zz M 74 [(0, .ref a0), (1, .int i1), (2, .int i2), (3, .int i3), (4, .int i4), (5, .ref a5), (6, .ref a6), (7, .ref a7), (8, .int i8), (9, .int i9), (10, .int i10), (11, .int i11)] []) (fun (a0 : Nat) (i1 : Int32) (a5 : Nat) (a7 : Nat) (i8 : Int32) (M : Mm) (cc zz : Nat) => QW p l e ({ frames := 3, cells := Cc, slots := Zz, locals := 84 } : Room) s m args below meth c (MQ below (QiM D cA lo Q) args s Cc Zz (fun q => lo ≤ q)) 12 D cA lo cc zz M 249 [(0, .ref a0), (1, .int i1), (5, .ref a5), (7, .ref a7), (8, .int i8)] []) (fun (a0 : Nat) (M : Mm) (cc zz : Nat) => QW p l e ({ frames := 3, cells := Cc, slots := Zz, locals := 84 } : Room) s m args below meth c (MQ below (QiM D cA lo Q) args s Cc Zz (fun q => lo ≤ q)) 12 D cA lo cc zz M 119 [(0, .ref a0)] []) (fun a0 i1 i2 i3 i4 a5 a6 a7 i8 i9 M cc zz h => b_X9_draw_57 C hr hlk M a0 i1 i2 i3 i4 a5 a6 a7 i8 i9 cc zz h) (fun a0 M cc zz h => b_X9_draw_164 C hr hlk M a0 cc zz h) (fun a0 i1 i2 i3 i4 a5 a7 i8 M cc zz h => b_X9_draw_180 C hr hlk M a0 i1 i2 i3 i4 a5 a7 i8 cc zz h) (fun a0 i1 i2 i3 i4 a5 a6 a7 i8 i9 i10 i11 M cc zz h => b_X9_draw_74 C hr hlk M a0 i1 i2 i3 i4 a5 a6 a7 i8 i9 i10 i11 cc zz h) (fun a0 i1 a5 a7 i8 M cc zz h => b_X9_draw_249 C hr hlk M a0 i1 a5 a7 i8 cc zz h) (fun a0 M cc zz h => b_X9_draw_119 C hr hlk M a0 cc zz h)
  refine q_aload_n C dX9_draw_0 rfl (j := 0) rfl ?_
  refine q_iconst (v := 0) C dX9_draw_1 (by decide) ?_
  refine q_putI (ci := 9) (k0 := 0) (T := TX9) (v := 0) (ty := .int) C inX9_draw_X9 tyX9 tyX9_ok nmX9 rfl (by decide) h.1 (by decide) rfl (by decide +kernel) rfl (by decide +kernel) rfl rfl rfl dX9_draw_2 ?_
  have h := h.2
  refine q_aload_n C dX9_draw_5 rfl (j := 0) rfl ?_
  refine q_iload_n C dX9_draw_6 rfl (j := 1) rfl ?_
  have hcz := h.1
  have h := h.2
  refine q_ci (q_runV (As := [.int i1]) (st := []) C (c_X9_isFace l D cA lo h.2) (cwV 1 C.2.2.2.2.1 gX9_draw_X9_isFace rfl rfl rfl (by decide +kernel) ⟨Nat.le_of_ble_eq_true rfl, Nat.le_of_ble_eq_true rfl⟩) h.1 (by decide) rfl rfl rfl (Nat.le_of_ble_eq_true rfl) dX9_draw_7 ⟨Nat.le_trans (Nat.le_of_eq (Nat.add_zero _)) hcz.1, Nat.le_trans (Nat.le_of_eq (Nat.add_zero _)) hcz.2⟩) (fun r_1 M_z h => ?_)
  refine q_mem h.1 ?_
  have h := h.2
  refine q_if_ne (tgt := 19) C dX9_draw_10 (by decide) (fun z => ?_) (fun z => ?_)
  · have h := h.1 z
    refine q_aload_n C dX9_draw_19 rfl (j := 0) rfl ?_
    refine q_getR (ci := 9) (k0 := 4) (T := TX9) C inX9_draw_X9 rfl (by decide) h.1 (by decide) rfl (by decide +kernel) rfl dX9_draw_20 ?_
    obtain ⟨a_2, z, h⟩ := h.2
    refine q_ref z ?_
    refine q_iload_n C dX9_draw_23 rfl (j := 1) rfl ?_
    obtain ⟨n_3, z1, z2, h⟩ := h
    refine q_gald C z1 z2 dX9_draw_24 ?_
    obtain ⟨a_4, z, h⟩ := h
    refine q_ref z ?_
    refine q_astore (lv' := [(5, .ref a_4), (0, .ref a0), (1, .int i1), (2, .int i2), (3, .int i3), (4, .int i4)]) C dX9_draw_25 (by decide) rfl ?_
    refine q_iconst (v := 3) C dX9_draw_27 (by decide) ?_
    refine q_newI (N := 3) C (by decide +kernel) (by decide) (by decide) (by decide) ⟨h.1, h.2.1⟩ dX9_draw_28 (fun q_5 hq _ => ?_)
    have h := h.2.2 q_5 hq
    refine q_dup C dX9_draw_30 rfl ?_
    refine q_iconst (v := 0) C dX9_draw_31 (by decide) ?_
    refine q_iload_n C dX9_draw_32 rfl (j := 3) rfl ?_
    obtain ⟨n_6, z1, z2, h⟩ := h
    refine q_iast C z1 z2 dX9_draw_33 ?_
    refine q_dup C dX9_draw_34 rfl ?_
    refine q_iconst (v := 1) C dX9_draw_35 (by decide) ?_
    refine q_iload_n C dX9_draw_36 rfl (j := 4) rfl ?_
    obtain ⟨n_7, z1, z2, h⟩ := h
    refine q_iast C z1 z2 dX9_draw_37 ?_
    refine q_dup C dX9_draw_38 rfl ?_
    refine q_iconst (v := 2) C dX9_draw_39 (by decide) ?_
    refine q_iload C dX9_draw_40 (j := 5) rfl ?_
    obtain ⟨n_8, z1, z2, h⟩ := h
    refine q_iast C z1 z2 dX9_draw_42 ?_
    refine q_astore (lv' := [(6, .ref q_5), (5, .ref a_4), (0, .ref a0), (1, .int i1), (2, .int i2), (3, .int i3), (4, .int i4)]) C dX9_draw_43 (by decide) rfl ?_
    refine q_aload C dX9_draw_45 (j := 1) rfl ?_
    refine q_astore (lv' := [(7, .ref a_4), (6, .ref q_5), (5, .ref a_4), (0, .ref a0), (1, .int i1), (2, .int i2), (3, .int i3), (4, .int i4)]) C dX9_draw_47 (by decide) rfl ?_
    refine q_aload C dX9_draw_49 (j := 0) rfl ?_
    obtain ⟨k_10, n_9, z1, z2, h⟩ := h
    refine q_alen C z1 z2 dX9_draw_51 ?_
    refine q_istore (lv' := [(8, .int (nI n_9)), (7, .ref a_4), (6, .ref q_5), (5, .ref a_4), (0, .ref a0), (1, .int i1), (2, .int i2), (3, .int i3), (4, .int i4)]) C dX9_draw_52 (by decide) rfl ?_
    refine q_iconst (v := 0) C dX9_draw_54 (by decide) ?_
    refine q_istore (lv' := [(9, .int 0), (8, .int (nI n_9)), (7, .ref a_4), (6, .ref q_5), (5, .ref a_4), (0, .ref a0), (1, .int i1), (2, .int i2), (3, .int i3), (4, .int i4)]) C dX9_draw_55 (by decide) rfl ?_
    exact q_sub [5, 6, 7, 8, 9, 4, 3, 2, 1, 0] rfl h
  · have h := h.2 z
    refine q_aload_n C dX9_draw_13 rfl (j := 0) rfl ?_
    refine q_iconst (v := 1) C dX9_draw_14 (by decide) ?_
    have hcz := h.1
    have h := h.2
    refine q_ci (q_runV (As := [.int 1]) (st := []) C (c_X9_refuse l D cA lo h.2) (cwV 1 C.2.2.2.2.1 gX9_draw_X9_refuse rfl rfl rfl (by decide +kernel) ⟨Nat.le_of_ble_eq_true rfl, Nat.le_of_ble_eq_true rfl⟩) h.1 (by decide) rfl rfl rfl (Nat.le_of_ble_eq_true rfl) dX9_draw_15 ⟨Nat.le_trans (Nat.le_of_eq (Nat.add_zero _)) hcz.1, Nat.le_trans (Nat.le_of_eq (Nat.add_zero _)) hcz.2⟩) (fun r_11 M_12 h => ?_)
    exact q_iret C hr hlk dX9_draw_18 h.1 h.2.1 h.2.2
