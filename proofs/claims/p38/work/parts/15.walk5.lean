def S_X7_forgetFaces_2 (K2 : Nat → Int32 → Mm → Prop) (Q : Mm → Prop) (M : Mm) (a0 : Nat) (i1 : Int32) : Prop := (160 ≤ i1 → Q M) ∧ (¬ 160 ≤ i1 → kM M a0 = (7, 6) ∧ ∃ a_1 : Nat, rM M a0 2 = some a_1 ∧ ∃ n_2 : Nat, kM M a_1 = (101, n_2) ∧ vp_in i1 n_2 ∧ K2 a0 (i1 + 1) (wI M a_1 i1.toNatClampNeg (vp_nar .boolean 0)))
def T_X7_forgetFaces (M : Mm) (a0 : Nat) (Q : Mm → Prop) : Prop := ∀ (K2 : Nat → Int32 → Mm → Prop), (∀ (a0 : Nat) (i1 : Int32) (M : Mm), S_X7_forgetFaces_2 K2 Q M a0 i1 → K2 a0 i1 M) → K2 a0 0 M
theorem inX7_forgetFaces_X7 : ∀ w ∈ wsX70, w ∈ wsX7_forgetFaces := by decide +kernel
set_option maxRecDepth 100000 in
set_option maxHeartbeats 4000000 in
theorem b_X7_forgetFaces_2 {p : Program} {l : Launch} {e : Env} {s : State} {m : MethodId} {args : Array Value} {below : List Frame} {meth : Method} {c : Code} {D : va_G} {cA : Nat → ClassId} {lo : Nat} (C : Cx p s m args c cX7_forgetFaces 2 RX7 wsX7_forgetFaces D cA lo) (hr : meth.sig.returnType = none) (hlk : meth.locks = false) {Q : Mm → Prop} (M : Mm) (a0 : Nat) (i1 : Int32) (h : S_X7_forgetFaces_2 (fun (a0 : Nat) (i1 : Int32) (M : Mm) => QW p l e ({ frames := 0, cells := 0, slots := 0, locals := 0 } : Room) s m args below meth c (MQ below (QvM D cA lo Q) args s 0 0 (fun q => lo ≤ q)) 2 D cA lo 0 0 M 2 [(0, .ref a0), (1, .int i1)] []) Q M a0 i1) : QW p l e ({ frames := 0, cells := 0, slots := 0, locals := 0 } : Room) s m args below meth c (MQ below (QvM D cA lo Q) args s 0 0 (fun q => lo ≤ q)) 2 D cA lo 0 0 M 2 [(0, .ref a0), (1, .int i1)] [] := by
  unfold S_X7_forgetFaces_2 at h
  refine q_iload_n C dX7_forgetFaces_2 rfl (j := 1) rfl ?_
  refine q_sipush (v := 160) C dX7_forgetFaces_3 (by decide) ?_
  refine q_icmp_ge (tgt := 22) C dX7_forgetFaces_6 (by decide) (fun z => ?_) (fun z => ?_)
  · have h := h.1 z
    exact q_vret C hr hlk dX7_forgetFaces_22 (Nat.le_of_ble_eq_true rfl) (Nat.le_of_ble_eq_true rfl) h
  · have h := h.2 z
    refine q_aload_n C dX7_forgetFaces_9 rfl (j := 0) rfl ?_
    refine q_getR (ci := 7) (k0 := 2) (T := TX7) C inX7_forgetFaces_X7 rfl (by decide) h.1 (by decide) rfl (by decide +kernel) rfl dX7_forgetFaces_10 ?_
    obtain ⟨a_1, z, h⟩ := h.2
    refine q_ref z ?_
    refine q_iload_n C dX7_forgetFaces_13 rfl (j := 1) rfl ?_
    refine q_iconst (v := 0) C dX7_forgetFaces_14 (by decide) ?_
    obtain ⟨n_2, z1, z2, h⟩ := h
    refine q_zast C z1 z2 dX7_forgetFaces_15 ?_
    refine q_iinc (v := (i1 + 1)) (lv' := [(1, .int (i1 + 1)), (0, .ref a0)]) C dX7_forgetFaces_16 (j := 1) rfl rfl (by decide) rfl ?_
    refine q_goto (tgt := 2) C dX7_forgetFaces_19 (by decide) ?_
    exact q_sub [1, 0] rfl h
set_option maxRecDepth 100000 in
set_option maxHeartbeats 4000000 in
theorem c_X7_forgetFaces (l : Launch) (D : va_G) (cA : Nat → ClassId) (lo : Nat) {M : Mm} {a0 : Nat} {Q : Mm → Prop} (h : T_X7_forgetFaces M a0 Q) : Met l yX7_forgetFaces wsX7_forgetFaces ({ frames := 0, cells := 0, slots := 0, locals := 0 } : Room) (PcM D cA lo [.ref a0] M) (QvM D cA lo Q) 0 0 (fun q => lo ≤ q) := by
  refine q_start (cc := cX7_forgetFaces) (nL := 2) (ret := none) (by decide) rfl rfl (Nat.le_of_ble_eq_true rfl) ?_
  intro p e s m args below meth c C hr hlk hin
  unfold T_X7_forgetFaces at h
  have h := h (fun (a0 : Nat) (i1 : Int32) (M : Mm) => QW p l e ({ frames := 0, cells := 0, slots := 0, locals := 0 } : Room) s m args below meth c (MQ below (QvM D cA lo Q) args s 0 0 (fun q => lo ≤ q)) 2 D cA lo 0 0 M 2 [(0, .ref a0), (1, .int i1)] []) (fun a0 i1 M h => b_X7_forgetFaces_2 C hr hlk M a0 i1 h)
  refine q_iconst (v := 0) C dX7_forgetFaces_0 (by decide) ?_
  refine q_istore_n (lv' := [(1, .int 0), (0, .ref a0)]) C dX7_forgetFaces_1 rfl (by decide) rfl ?_
  exact q_sub [1, 0] rfl h
def T_X7_see (M : Mm) (a0 : Nat) (i1 : Int32) (Q : Int32 → Mm → Prop) : Prop := T_X8_isFaceNumber M i1 (fun r_1 => (r_1 = 0 → Q 0 M) ∧ (¬ r_1 = 0 → kM M a0 = (7, 6) ∧ ∃ a_2 : Nat, rM M a0 2 = some a_2 ∧ ∃ n_3 : Nat, kM M a_2 = (101, n_3) ∧ vp_in i1 n_3 ∧ ((iM M a_2 i1.toNatClampNeg) = 0 → kM M a0 = (7, 6) ∧ ∃ a_4 : Nat, rM M a0 2 = some a_4 ∧ ∃ n_5 : Nat, kM M a_4 = (101, n_5) ∧ vp_in i1 n_5 ∧ Q 1 (wI M a_4 i1.toNatClampNeg (vp_nar .boolean 1))) ∧ (¬ (iM M a_2 i1.toNatClampNeg) = 0 → Q 0 M)))
theorem inX7_see_X7 : ∀ w ∈ wsX70, w ∈ wsX7_see := by decide +kernel
set_option maxRecDepth 100000 in
set_option maxHeartbeats 4000000 in
theorem c_X7_see (l : Launch) (D : va_G) (cA : Nat → ClassId) (lo : Nat) {M : Mm} {a0 : Nat} {i1 : Int32} {Q : Int32 → Mm → Prop} (h : T_X7_see M a0 i1 Q) : Met l yX7_see wsX7_see ({ frames := 1, cells := 0, slots := 0, locals := 20 } : Room) (PcM D cA lo [.ref a0, .int i1] M) (QiM D cA lo Q) 0 0 (fun q => lo ≤ q) := by
  refine q_start (cc := cX7_see) (nL := 2) (ret := (some .boolean)) (by decide) rfl rfl (Nat.le_of_ble_eq_true rfl) ?_
  intro p e s m args below meth c C hr hlk hin
  unfold T_X7_see at h
  refine q_iload_n C dX7_see_0 rfl (j := 1) rfl ?_
  refine q_ci (q_runSN (As := [.int i1]) (st := []) C (c_X8_isFaceNumber l D cA lo h) ⟨va_cnB (host := "QuarryMesh") 1 C.2.2.2.2.1 gX7_see_X8_isFaceNumber_n114 rfl rfl rfl (C.2.2.2.2.2.2.2.1 (RX7, 114, yX8_isFaceNumber, "QuarryMesh") (List.mem_of_getElem? (i := 8) rfl)) (C.2.2.2.2.1 _ (by decide +kernel)) (by decide +kernel) ⟨Nat.le_of_ble_eq_true rfl, Nat.le_of_ble_eq_true rfl⟩, C.2.2.2.2.1 _ (by decide +kernel), trivial⟩ rfl rfl (Nat.le_of_ble_eq_true rfl) dX7_see_1 ⟨Nat.le_of_ble_eq_true rfl, Nat.le_of_ble_eq_true rfl⟩) (fun r_1 M_z h => ?_)
  refine q_mem h.1 ?_
  have h := h.2
  refine q_if_eq (tgt := 16) C dX7_see_4 (by decide) (fun z => ?_) (fun z => ?_)
  · have h := h.1 z
    refine q_iconst (v := 0) C dX7_see_16 (by decide) ?_
    exact q_zret C hr hlk dX7_see_17 (Nat.le_of_ble_eq_true rfl) (Nat.le_of_ble_eq_true rfl) (Or.inl rfl) h
  · have h := h.2 z
    refine q_aload_n C dX7_see_7 rfl (j := 0) rfl ?_
    refine q_getR (ci := 7) (k0 := 2) (T := TX7) C inX7_see_X7 rfl (by decide) h.1 (by decide) rfl (by decide +kernel) rfl dX7_see_8 ?_
    obtain ⟨a_2, z, h⟩ := h.2
    refine q_ref z ?_
    refine q_iload_n C dX7_see_11 rfl (j := 1) rfl ?_
    obtain ⟨n_3, z1, z2, h⟩ := h
    refine q_zald C z1 z2 dX7_see_12 ?_
    refine q_if_eq (tgt := 18) C dX7_see_13 (by decide) (fun z => ?_) (fun z => ?_)
    · have h := h.1 z
      refine q_aload_n C dX7_see_18 rfl (j := 0) rfl ?_
      refine q_getR (ci := 7) (k0 := 2) (T := TX7) C inX7_see_X7 rfl (by decide) h.1 (by decide) rfl (by decide +kernel) rfl dX7_see_19 ?_
      obtain ⟨a_4, z, h⟩ := h.2
      refine q_ref z ?_
      refine q_iload_n C dX7_see_22 rfl (j := 1) rfl ?_
      refine q_iconst (v := 1) C dX7_see_23 (by decide) ?_
      obtain ⟨n_5, z1, z2, h⟩ := h
      refine q_zast C z1 z2 dX7_see_24 ?_
      refine q_iconst (v := 1) C dX7_see_25 (by decide) ?_
      exact q_zret C hr hlk dX7_see_26 (Nat.le_of_ble_eq_true rfl) (Nat.le_of_ble_eq_true rfl) (Or.inr rfl) h
    · have h := h.2 z
      refine q_iconst (v := 0) C dX7_see_16 (by decide) ?_
      exact q_zret C hr hlk dX7_see_17 (Nat.le_of_ble_eq_true rfl) (Nat.le_of_ble_eq_true rfl) (Or.inl rfl) h
def T_X7_enqueue (M : Mm) (a0 : Nat) (i1 : Int32) (Q : Mm → Prop) : Prop := kM M a0 = (7, 6) ∧ ((iM M a0 5) < 0 → Q M) ∧ (¬ (iM M a0 5) < 0 → kM M a0 = (7, 6) ∧ (160 ≤ (iM M a0 5) → Q M) ∧ (¬ 160 ≤ (iM M a0 5) → kM M a0 = (7, 6) ∧ ∃ a_1 : Nat, rM M a0 3 = some a_1 ∧ kM M a0 = (7, 6) ∧ ∃ n_2 : Nat, kM M a_1 = (100, n_2) ∧ vp_in (iM M a0 5) n_2 ∧ kM (wI M a_1 (iM M a0 5).toNatClampNeg i1) a0 = (7, 6) ∧ kM (wI M a_1 (iM M a0 5).toNatClampNeg i1) a0 = (7, 6) ∧ Q (wI (wI M a_1 (iM M a0 5).toNatClampNeg i1) a0 5 ((iM (wI M a_1 (iM M a0 5).toNatClampNeg i1) a0 5) + 1))))
theorem inX7_enqueue_X7 : ∀ w ∈ wsX70, w ∈ wsX7_enqueue := by decide +kernel
set_option maxRecDepth 100000 in
set_option maxHeartbeats 4000000 in
theorem c_X7_enqueue (l : Launch) (D : va_G) (cA : Nat → ClassId) (lo : Nat) {M : Mm} {a0 : Nat} {i1 : Int32} {Q : Mm → Prop} (h : T_X7_enqueue M a0 i1 Q) : Met l yX7_enqueue wsX7_enqueue ({ frames := 0, cells := 0, slots := 0, locals := 0 } : Room) (PcM D cA lo [.ref a0, .int i1] M) (QvM D cA lo Q) 0 0 (fun q => lo ≤ q) := by
  refine q_start (cc := cX7_enqueue) (nL := 2) (ret := none) (by decide) rfl rfl (Nat.le_of_ble_eq_true rfl) ?_
  intro p e s m args below meth c C hr hlk hin
  unfold T_X7_enqueue at h
  refine q_aload_n C dX7_enqueue_0 rfl (j := 0) rfl ?_
  refine q_getI (ci := 7) (k0 := 5) (T := TX7) C inX7_enqueue_X7 rfl (by decide) h.1 (by decide) rfl (by decide +kernel) rfl dX7_enqueue_1 ?_
  have h := h.2
  refine q_if_lt (tgt := 37) C dX7_enqueue_4 (by decide) (fun z => ?_) (fun z => ?_)
  · have h := h.1 z
    exact q_vret C hr hlk dX7_enqueue_37 (Nat.le_of_ble_eq_true rfl) (Nat.le_of_ble_eq_true rfl) h
  · have h := h.2 z
    refine q_aload_n C dX7_enqueue_7 rfl (j := 0) rfl ?_
    refine q_getI (ci := 7) (k0 := 5) (T := TX7) C inX7_enqueue_X7 rfl (by decide) h.1 (by decide) rfl (by decide +kernel) rfl dX7_enqueue_8 ?_
    have h := h.2
    refine q_sipush (v := 160) C dX7_enqueue_11 (by decide) ?_
    refine q_icmp_ge (tgt := 37) C dX7_enqueue_14 (by decide) (fun z => ?_) (fun z => ?_)
    · have h := h.1 z
      exact q_vret C hr hlk dX7_enqueue_37 (Nat.le_of_ble_eq_true rfl) (Nat.le_of_ble_eq_true rfl) h
    · have h := h.2 z
      refine q_aload_n C dX7_enqueue_17 rfl (j := 0) rfl ?_
      refine q_getR (ci := 7) (k0 := 3) (T := TX7) C inX7_enqueue_X7 rfl (by decide) h.1 (by decide) rfl (by decide +kernel) rfl dX7_enqueue_18 ?_
      obtain ⟨a_1, z, h⟩ := h.2
      refine q_ref z ?_
      refine q_aload_n C dX7_enqueue_21 rfl (j := 0) rfl ?_
      refine q_getI (ci := 7) (k0 := 5) (T := TX7) C inX7_enqueue_X7 rfl (by decide) h.1 (by decide) rfl (by decide +kernel) rfl dX7_enqueue_22 ?_
      have h := h.2
      refine q_iload_n C dX7_enqueue_25 rfl (j := 1) rfl ?_
      obtain ⟨n_2, z1, z2, h⟩ := h
      refine q_iast C z1 z2 dX7_enqueue_26 ?_
      refine q_aload_n C dX7_enqueue_27 rfl (j := 0) rfl ?_
      refine q_dup C dX7_enqueue_28 rfl ?_
      refine q_getI (ci := 7) (k0 := 5) (T := TX7) C inX7_enqueue_X7 rfl (by decide) h.1 (by decide) rfl (by decide +kernel) rfl dX7_enqueue_29 ?_
      have h := h.2
      refine q_iconst (v := 1) C dX7_enqueue_32 (by decide) ?_
      refine q_iadd C dX7_enqueue_33 ?_
      refine q_putI (ci := 7) (k0 := 5) (T := TX7) (v := ((iM (wI M a_1 (iM M a0 5).toNatClampNeg i1) a0 5) + 1)) (ty := .int) C inX7_enqueue_X7 tyX7 tyX7_ok nmX7 rfl (by decide) h.1 (by decide) rfl (by decide +kernel) rfl (by decide +kernel) rfl rfl rfl dX7_enqueue_34 ?_
      have h := h.2
      exact q_vret C hr hlk dX7_enqueue_37 (Nat.le_of_ble_eq_true rfl) (Nat.le_of_ble_eq_true rfl) h
def S_X7_seeShell_12 (K12 : Nat → Int32 → Mm → Prop) (K44 : Nat → Int32 → Nat → Int32 → Mm → Prop) (Q : Mm → Prop) (M : Mm) (a0 : Nat) (i2 : Int32) : Prop := kM M a0 = (7, 6) ∧ ((iM M a0 5) ≤ i2 → Q M) ∧ (¬ (iM M a0 5) ≤ i2 → (160 ≤ i2 → Q M) ∧ (¬ 160 ≤ i2 → kM M a0 = (7, 6) ∧ ∃ a_3 : Nat, rM M a0 0 = some a_3 ∧ kM M a0 = (7, 6) ∧ ∃ a_4 : Nat, rM M a0 3 = some a_4 ∧ ∃ n_5 : Nat, kM M a_4 = (100, n_5) ∧ vp_in i2 n_5 ∧ kM M a_3 = (1, 5) ∧ T_X1_ring M a_3 (iM M a_4 i2.toNatClampNeg) (fun r_6 => K44 a0 i2 r_6 0 M)))
def S_X7_seeShell_44 (K12 : Nat → Int32 → Mm → Prop) (K44 : Nat → Int32 → Nat → Int32 → Mm → Prop) (Q : Mm → Prop) (M : Mm) (a0 : Nat) (i2 : Int32) (a3 : Nat) (i4 : Int32) : Prop := kM M a3 = (5, 2) ∧ T_X5_length M a3 (fun r_7 => (r_7 ≤ i4 → K12 a0 (i2 + 1) M) ∧ (¬ r_7 ≤ i4 → kM M a0 = (7, 6) ∧ ∃ a_8 : Nat, rM M a0 0 = some a_8 ∧ kM M a3 = (5, 2) ∧ T_X5_get M a3 (i4 + 1) (fun r_9 => kM M a3 = (5, 2) ∧ T_X5_get M a3 i4 (fun r_10 => kM M a_8 = (1, 5) ∧ T_X1_owner M a_8 r_9 r_10 (fun r_11 => kM M a0 = (7, 6) ∧ T_X7_see M a0 r_11 (fun r_12 M_13 => (r_12 = 0 → K44 a0 i2 a3 (i4 + 1) M_13) ∧ (¬ r_12 = 0 → kM M_13 a0 = (7, 6) ∧ T_X7_enqueue M_13 a0 r_11 (fun M_15 => K44 a0 i2 a3 (i4 + 1) M_15))))))))
def T_X7_seeShell (M : Mm) (a0 : Nat) (i1 : Int32) (Q : Mm → Prop) : Prop := ∀ (K12 : Nat → Int32 → Mm → Prop) (K44 : Nat → Int32 → Nat → Int32 → Mm → Prop), (∀ (a0 : Nat) (i2 : Int32) (M : Mm), S_X7_seeShell_12 K12 K44 Q M a0 i2 → K12 a0 i2 M) → (∀ (a0 : Nat) (i2 : Int32) (a3 : Nat) (i4 : Int32) (M : Mm), S_X7_seeShell_44 K12 K44 Q M a0 i2 a3 i4 → K44 a0 i2 a3 i4 M) → kM M a0 = (7, 6) ∧ kM (wI M a0 5 0) a0 = (7, 6) ∧ T_X7_enqueue (wI M a0 5 0) a0 i1 (fun M_2 => K12 a0 0 M_2)
theorem inX7_seeShell_X7 : ∀ w ∈ wsX70, w ∈ wsX7_seeShell := by decide +kernel
set_option maxRecDepth 100000 in
set_option maxHeartbeats 4000000 in
theorem b_X7_seeShell_12 {p : Program} {l : Launch} {e : Env} {s : State} {m : MethodId} {args : Array Value} {below : List Frame} {meth : Method} {c : Code} {D : va_G} {cA : Nat → ClassId} {lo : Nat} (C : Cx p s m args c cX7_seeShell 6 RX7 wsX7_seeShell D cA lo) (hr : meth.sig.returnType = none) (hlk : meth.locks = false) {Q : Mm → Prop} (M : Mm) (a0 : Nat) (i2 : Int32) (h : S_X7_seeShell_12 (fun (a0 : Nat) (i2 : Int32) (M : Mm) => QW p l e ({ frames := 2, cells := 0, slots := 0, locals := 41 } : Room) s m args below meth c (MQ below (QvM D cA lo Q) args s 0 0 (fun q => lo ≤ q)) 6 D cA lo 0 0 M 12 [(0, .ref a0), (2, .int i2)] []) (fun (a0 : Nat) (i2 : Int32) (a3 : Nat) (i4 : Int32) (M : Mm) => QW p l e ({ frames := 2, cells := 0, slots := 0, locals := 41 } : Room) s m args below meth c (MQ below (QvM D cA lo Q) args s 0 0 (fun q => lo ≤ q)) 6 D cA lo 0 0 M 44 [(0, .ref a0), (2, .int i2), (3, .ref a3), (4, .int i4)] []) Q M a0 i2) : QW p l e ({ frames := 2, cells := 0, slots := 0, locals := 41 } : Room) s m args below meth c (MQ below (QvM D cA lo Q) args s 0 0 (fun q => lo ≤ q)) 6 D cA lo 0 0 M 12 [(0, .ref a0), (2, .int i2)] [] := by
  unfold S_X7_seeShell_12 at h
  refine q_iload_n C dX7_seeShell_12 rfl (j := 1) rfl ?_
  refine q_aload_n C dX7_seeShell_13 rfl (j := 0) rfl ?_
  refine q_getI (ci := 7) (k0 := 5) (T := TX7) C inX7_seeShell_X7 rfl (by decide) h.1 (by decide) rfl (by decide +kernel) rfl dX7_seeShell_14 ?_
  have h := h.2
  refine q_icmp_ge (tgt := 103) C dX7_seeShell_17 (by decide) (fun z => ?_) (fun z => ?_)
  · have h := h.1 z
    exact q_vret C hr hlk dX7_seeShell_103 (Nat.le_of_ble_eq_true rfl) (Nat.le_of_ble_eq_true rfl) h
  · have h := h.2 z
    refine q_iload_n C dX7_seeShell_20 rfl (j := 1) rfl ?_
    refine q_sipush (v := 160) C dX7_seeShell_21 (by decide) ?_
    refine q_icmp_ge (tgt := 103) C dX7_seeShell_24 (by decide) (fun z => ?_) (fun z => ?_)
    · have h := h.1 z
      exact q_vret C hr hlk dX7_seeShell_103 (Nat.le_of_ble_eq_true rfl) (Nat.le_of_ble_eq_true rfl) h
    · have h := h.2 z
      refine q_aload_n C dX7_seeShell_27 rfl (j := 0) rfl ?_
      refine q_getR (ci := 7) (k0 := 0) (T := TX7) C inX7_seeShell_X7 rfl (by decide) h.1 (by decide) rfl (by decide +kernel) rfl dX7_seeShell_28 ?_
      obtain ⟨a_3, z, h⟩ := h.2
      refine q_ref z ?_
      refine q_aload_n C dX7_seeShell_31 rfl (j := 0) rfl ?_
      refine q_getR (ci := 7) (k0 := 3) (T := TX7) C inX7_seeShell_X7 rfl (by decide) h.1 (by decide) rfl (by decide +kernel) rfl dX7_seeShell_32 ?_
      obtain ⟨a_4, z, h⟩ := h.2
      refine q_ref z ?_
      refine q_iload_n C dX7_seeShell_35 rfl (j := 1) rfl ?_
      obtain ⟨n_5, z1, z2, h⟩ := h
      refine q_iald C z1 z2 dX7_seeShell_36 ?_
      refine q_cr (q_runV (As := [.int (iM M a_4 i2.toNatClampNeg)]) (st := []) C (c_X1_ring l D cA lo h.2) (cwV 1 C.2.2.2.2.1 gX7_seeShell_X1_ring rfl rfl rfl (by decide +kernel) ⟨Nat.le_of_ble_eq_true rfl, Nat.le_of_ble_eq_true rfl⟩) h.1 (by decide) rfl rfl rfl (Nat.le_of_ble_eq_true rfl) dX7_seeShell_37 ⟨Nat.le_of_ble_eq_true rfl, Nat.le_of_ble_eq_true rfl⟩) (fun r_6 M_z h => ?_)
      refine q_mem h.1 ?_
      have h := h.2
      refine q_astore_n (lv' := [(3, .ref r_6), (0, .ref a0), (2, .int i2)]) C dX7_seeShell_40 rfl (by decide) rfl ?_
      refine q_iconst (v := 0) C dX7_seeShell_41 (by decide) ?_
      refine q_istore (lv' := [(4, .int 0), (3, .ref r_6), (0, .ref a0), (2, .int i2)]) C dX7_seeShell_42 (by decide) rfl ?_
      exact q_sub [2, 3, 1, 0] rfl h
set_option maxRecDepth 100000 in
set_option maxHeartbeats 4000000 in
theorem b_X7_seeShell_44 {p : Program} {l : Launch} {e : Env} {s : State} {m : MethodId} {args : Array Value} {below : List Frame} {meth : Method} {c : Code} {D : va_G} {cA : Nat → ClassId} {lo : Nat} (C : Cx p s m args c cX7_seeShell 6 RX7 wsX7_seeShell D cA lo) (hr : meth.sig.returnType = none) (hlk : meth.locks = false) {Q : Mm → Prop} (M : Mm) (a0 : Nat) (i2 : Int32) (a3 : Nat) (i4 : Int32) (h : S_X7_seeShell_44 (fun (a0 : Nat) (i2 : Int32) (M : Mm) => QW p l e ({ frames := 2, cells := 0, slots := 0, locals := 41 } : Room) s m args below meth c (MQ below (QvM D cA lo Q) args s 0 0 (fun q => lo ≤ q)) 6 D cA lo 0 0 M 12 [(0, .ref a0), (2, .int i2)] []) (fun (a0 : Nat) (i2 : Int32) (a3 : Nat) (i4 : Int32) (M : Mm) => QW p l e ({ frames := 2, cells := 0, slots := 0, locals := 41 } : Room) s m args below meth c (MQ below (QvM D cA lo Q) args s 0 0 (fun q => lo ≤ q)) 6 D cA lo 0 0 M 44 [(0, .ref a0), (2, .int i2), (3, .ref a3), (4, .int i4)] []) Q M a0 i2 a3 i4) : QW p l e ({ frames := 2, cells := 0, slots := 0, locals := 41 } : Room) s m args below meth c (MQ below (QvM D cA lo Q) args s 0 0 (fun q => lo ≤ q)) 6 D cA lo 0 0 M 44 [(0, .ref a0), (2, .int i2), (3, .ref a3), (4, .int i4)] [] := by
  unfold S_X7_seeShell_44 at h
  refine q_iload C dX7_seeShell_44 (j := 3) rfl ?_
  refine q_aload_n C dX7_seeShell_46 rfl (j := 2) rfl ?_
  refine q_ci (q_runV (As := []) (st := [.int i4]) C (c_X5_length l D cA lo h.2) (cwV 0 C.2.2.2.2.1 gX7_seeShell_X5_length rfl rfl rfl (by decide +kernel) ⟨Nat.le_of_ble_eq_true rfl, Nat.le_of_ble_eq_true rfl⟩) h.1 (by decide) rfl rfl rfl (Nat.le_of_ble_eq_true rfl) dX7_seeShell_47 ⟨Nat.le_of_ble_eq_true rfl, Nat.le_of_ble_eq_true rfl⟩) (fun r_7 M_z h => ?_)
  refine q_mem h.1 ?_
  have h := h.2
  refine q_icmp_ge (tgt := 97) C dX7_seeShell_50 (by decide) (fun z => ?_) (fun z => ?_)
  · have h := h.1 z
    refine q_iinc (v := (i2 + 1)) (lv' := [(2, .int (i2 + 1)), (0, .ref a0), (3, .ref a3), (4, .int i4)]) C dX7_seeShell_97 (j := 1) rfl rfl (by decide) rfl ?_
    refine q_goto (tgt := 12) C dX7_seeShell_100 (by decide) ?_
    exact q_sub [1, 0] rfl h
  · have h := h.2 z
    refine q_aload_n C dX7_seeShell_53 rfl (j := 0) rfl ?_
    refine q_getR (ci := 7) (k0 := 0) (T := TX7) C inX7_seeShell_X7 rfl (by decide) h.1 (by decide) rfl (by decide +kernel) rfl dX7_seeShell_54 ?_
    obtain ⟨a_8, z, h⟩ := h.2
    refine q_ref z ?_
    refine q_aload_n C dX7_seeShell_57 rfl (j := 2) rfl ?_
    refine q_iload C dX7_seeShell_58 (j := 3) rfl ?_
    refine q_iconst (v := 1) C dX7_seeShell_60 (by decide) ?_
    refine q_iadd C dX7_seeShell_61 ?_
    refine q_ci (q_runV (As := [.int (i4 + 1)]) (st := [.ref a_8]) C (c_X5_get l D cA lo h.2) (cwV 1 C.2.2.2.2.1 gX7_seeShell_X5_get rfl rfl rfl (by decide +kernel) ⟨Nat.le_of_ble_eq_true rfl, Nat.le_of_ble_eq_true rfl⟩) h.1 (by decide) rfl rfl rfl (Nat.le_of_ble_eq_true rfl) dX7_seeShell_62 ⟨Nat.le_of_ble_eq_true rfl, Nat.le_of_ble_eq_true rfl⟩) (fun r_9 M_z h => ?_)
    refine q_mem h.1 ?_
    have h := h.2
    refine q_aload_n C dX7_seeShell_65 rfl (j := 2) rfl ?_
    refine q_iload C dX7_seeShell_66 (j := 3) rfl ?_
    refine q_ci (q_runV (As := [.int i4]) (st := [.int r_9, .ref a_8]) C (c_X5_get l D cA lo h.2) (cwV 1 C.2.2.2.2.1 gX7_seeShell_X5_get rfl rfl rfl (by decide +kernel) ⟨Nat.le_of_ble_eq_true rfl, Nat.le_of_ble_eq_true rfl⟩) h.1 (by decide) rfl rfl rfl (Nat.le_of_ble_eq_true rfl) dX7_seeShell_68 ⟨Nat.le_of_ble_eq_true rfl, Nat.le_of_ble_eq_true rfl⟩) (fun r_10 M_z h => ?_)
    refine q_mem h.1 ?_
    have h := h.2
    refine q_ci (q_runV (As := [.int r_9, .int r_10]) (st := []) C (c_X1_owner l D cA lo h.2) (cwV 2 C.2.2.2.2.1 gX7_seeShell_X1_owner rfl rfl rfl (by decide +kernel) ⟨Nat.le_of_ble_eq_true rfl, Nat.le_of_ble_eq_true rfl⟩) h.1 (by decide) rfl rfl rfl (Nat.le_of_ble_eq_true rfl) dX7_seeShell_71 ⟨Nat.le_of_ble_eq_true rfl, Nat.le_of_ble_eq_true rfl⟩) (fun r_11 M_z h => ?_)
    refine q_mem h.1 ?_
    have h := h.2
    refine q_istore (lv' := [(5, .int r_11), (0, .ref a0), (2, .int i2), (3, .ref a3), (4, .int i4)]) C dX7_seeShell_74 (by decide) rfl ?_
    refine q_aload_n C dX7_seeShell_76 rfl (j := 1) rfl ?_
    refine q_iload C dX7_seeShell_77 (j := 0) rfl ?_
    refine q_ci (q_runV (As := [.int r_11]) (st := []) C (c_X7_see l D cA lo h.2) (cwV 1 C.2.2.2.2.1 gX7_seeShell_X7_see rfl rfl rfl (by decide +kernel) ⟨Nat.le_of_ble_eq_true rfl, Nat.le_of_ble_eq_true rfl⟩) h.1 (by decide) rfl rfl rfl (Nat.le_of_ble_eq_true rfl) dX7_seeShell_79 ⟨Nat.le_of_ble_eq_true rfl, Nat.le_of_ble_eq_true rfl⟩) (fun r_12 M_13 h => ?_)
    refine q_if_eq (tgt := 91) C dX7_seeShell_82 (by decide) (fun z => ?_) (fun z => ?_)
    · have h := h.1 z
      refine q_iinc (v := (i4 + 1)) (lv' := [(4, .int (i4 + 1)), (5, .int r_11), (0, .ref a0), (2, .int i2), (3, .ref a3)]) C dX7_seeShell_91 (j := 4) rfl rfl (by decide) rfl ?_
      refine q_goto (tgt := 44) C dX7_seeShell_94 (by decide) ?_
      exact q_sub [2, 3, 4, 0] rfl h
    · have h := h.2 z
      refine q_aload_n C dX7_seeShell_85 rfl (j := 1) rfl ?_
      refine q_iload C dX7_seeShell_86 (j := 0) rfl ?_
      refine q_cv (q_runV (As := [.int r_11]) (st := []) C (c_X7_enqueue l D cA lo h.2) (cwV 1 C.2.2.2.2.1 gX7_seeShell_X7_enqueue rfl rfl rfl (by decide +kernel) ⟨Nat.le_of_ble_eq_true rfl, Nat.le_of_ble_eq_true rfl⟩) h.1 (by decide) rfl rfl rfl (Nat.le_of_ble_eq_true rfl) dX7_seeShell_88 ⟨Nat.le_of_ble_eq_true rfl, Nat.le_of_ble_eq_true rfl⟩) (fun M_15 h => ?_)
      refine q_iinc (v := (i4 + 1)) (lv' := [(4, .int (i4 + 1)), (5, .int r_11), (0, .ref a0), (2, .int i2), (3, .ref a3)]) C dX7_seeShell_91 (j := 4) rfl rfl (by decide) rfl ?_
      refine q_goto (tgt := 44) C dX7_seeShell_94 (by decide) ?_
      exact q_sub [2, 3, 4, 0] rfl h
set_option maxRecDepth 100000 in
set_option maxHeartbeats 4000000 in
theorem c_X7_seeShell (l : Launch) (D : va_G) (cA : Nat → ClassId) (lo : Nat) {M : Mm} {a0 : Nat} {i1 : Int32} {Q : Mm → Prop} (h : T_X7_seeShell M a0 i1 Q) : Met l yX7_seeShell wsX7_seeShell ({ frames := 2, cells := 0, slots := 0, locals := 41 } : Room) (PcM D cA lo [.ref a0, .int i1] M) (QvM D cA lo Q) 0 0 (fun q => lo ≤ q) := by
  refine q_start (cc := cX7_seeShell) (nL := 6) (ret := none) (by decide) rfl rfl (Nat.le_of_ble_eq_true rfl) ?_
  intro p e s m args below meth c C hr hlk hin
  unfold T_X7_seeShell at h
  have h := h (fun (a0 : Nat) (i2 : Int32) (M : Mm) => QW p l e ({ frames := 2, cells := 0, slots := 0, locals := 41 } : Room) s m args below meth c (MQ below (QvM D cA lo Q) args s 0 0 (fun q => lo ≤ q)) 6 D cA lo 0 0 M 12 [(0, .ref a0), (2, .int i2)] []) (fun (a0 : Nat) (i2 : Int32) (a3 : Nat) (i4 : Int32) (M : Mm) => QW p l e ({ frames := 2, cells := 0, slots := 0, locals := 41 } : Room) s m args below meth c (MQ below (QvM D cA lo Q) args s 0 0 (fun q => lo ≤ q)) 6 D cA lo 0 0 M 44 [(0, .ref a0), (2, .int i2), (3, .ref a3), (4, .int i4)] []) (fun a0 i2 M h => b_X7_seeShell_12 C hr hlk M a0 i2 h) (fun a0 i2 a3 i4 M h => b_X7_seeShell_44 C hr hlk M a0 i2 a3 i4 h)
  refine q_aload_n C dX7_seeShell_0 rfl (j := 0) rfl ?_
  refine q_iconst (v := 0) C dX7_seeShell_1 (by decide) ?_
  refine q_putI (ci := 7) (k0 := 5) (T := TX7) (v := 0) (ty := .int) C inX7_seeShell_X7 tyX7 tyX7_ok nmX7 rfl (by decide) h.1 (by decide) rfl (by decide +kernel) rfl (by decide +kernel) rfl rfl rfl dX7_seeShell_2 ?_
  have h := h.2
  refine q_aload_n C dX7_seeShell_5 rfl (j := 0) rfl ?_
  refine q_iload_n C dX7_seeShell_6 rfl (j := 1) rfl ?_
  refine q_cv (q_runV (As := [.int i1]) (st := []) C (c_X7_enqueue l D cA lo h.2) (cwV 1 C.2.2.2.2.1 gX7_seeShell_X7_enqueue rfl rfl rfl (by decide +kernel) ⟨Nat.le_of_ble_eq_true rfl, Nat.le_of_ble_eq_true rfl⟩) h.1 (by decide) rfl rfl rfl (Nat.le_of_ble_eq_true rfl) dX7_seeShell_7 ⟨Nat.le_of_ble_eq_true rfl, Nat.le_of_ble_eq_true rfl⟩) (fun M_2 h => ?_)
  refine q_iconst (v := 0) C dX7_seeShell_10 (by decide) ?_
  refine q_istore_n (lv' := [(2, .int 0), (0, .ref a0), (1, .int i1)]) C dX7_seeShell_11 rfl (by decide) rfl ?_
  exact q_sub [1, 0] rfl h
def S_X7_shellCount_8 (K8 : Nat → Int32 → Int32 → Mm → Prop) (Q : Int32 → Mm → Prop) (M : Mm) (a0 : Nat) (i1 : Int32) (i2 : Int32) : Prop := kM M a0 = (7, 6) ∧ ∃ a_3 : Nat, rM M a0 0 = some a_3 ∧ kM M a_3 = (1, 5) ∧ T_X1_ever M a_3 (fun r_4 => (r_4 ≤ i2 → Q i1 M) ∧ (¬ r_4 ≤ i2 → kM M a0 = (7, 6) ∧ ∃ a_5 : Nat, rM M a0 0 = some a_5 ∧ kM M a_5 = (1, 5) ∧ T_X1_has M a_5 i2 (fun r_6 => (r_6 = 0 → K8 a0 i1 (i2 + 1) M) ∧ (¬ r_6 = 0 → kM M a0 = (7, 6) ∧ T_X7_see M a0 i2 (fun r_7 M_8 => (r_7 = 0 → K8 a0 i1 (i2 + 1) M_8) ∧ (¬ r_7 = 0 → kM M_8 a0 = (7, 6) ∧ T_X7_seeShell M_8 a0 i2 (fun M_10 => K8 a0 (i1 + 1) (i2 + 1) M_10)))))))
def T_X7_shellCount (M : Mm) (a0 : Nat) (Q : Int32 → Mm → Prop) : Prop := ∀ (K8 : Nat → Int32 → Int32 → Mm → Prop), (∀ (a0 : Nat) (i1 : Int32) (i2 : Int32) (M : Mm), S_X7_shellCount_8 K8 Q M a0 i1 i2 → K8 a0 i1 i2 M) → kM M a0 = (7, 6) ∧ T_X7_forgetFaces M a0 (fun M_2 => K8 a0 0 0 M_2)
theorem inX7_shellCount_X7 : ∀ w ∈ wsX70, w ∈ wsX7_shellCount := by decide +kernel
set_option maxRecDepth 100000 in
set_option maxHeartbeats 4000000 in
theorem b_X7_shellCount_8 {p : Program} {l : Launch} {e : Env} {s : State} {m : MethodId} {args : Array Value} {below : List Frame} {meth : Method} {c : Code} {D : va_G} {cA : Nat → ClassId} {lo : Nat} (C : Cx p s m args c cX7_shellCount 3 RX7 wsX7_shellCount D cA lo) (hr : meth.sig.returnType = (some .int)) (hlk : meth.locks = false) {Q : Int32 → Mm → Prop} (M : Mm) (a0 : Nat) (i1 : Int32) (i2 : Int32) (h : S_X7_shellCount_8 (fun (a0 : Nat) (i1 : Int32) (i2 : Int32) (M : Mm) => QW p l e ({ frames := 3, cells := 0, slots := 0, locals := 66 } : Room) s m args below meth c (MQ below (QiM D cA lo Q) args s 0 0 (fun q => lo ≤ q)) 3 D cA lo 0 0 M 8 [(0, .ref a0), (1, .int i1), (2, .int i2)] []) Q M a0 i1 i2) : QW p l e ({ frames := 3, cells := 0, slots := 0, locals := 66 } : Room) s m args below meth c (MQ below (QiM D cA lo Q) args s 0 0 (fun q => lo ≤ q)) 3 D cA lo 0 0 M 8 [(0, .ref a0), (1, .int i1), (2, .int i2)] [] := by
  unfold S_X7_shellCount_8 at h
  refine q_iload_n C dX7_shellCount_8 rfl (j := 2) rfl ?_
  refine q_aload_n C dX7_shellCount_9 rfl (j := 0) rfl ?_
  refine q_getR (ci := 7) (k0 := 0) (T := TX7) C inX7_shellCount_X7 rfl (by decide) h.1 (by decide) rfl (by decide +kernel) rfl dX7_shellCount_10 ?_
  obtain ⟨a_3, z, h⟩ := h.2
  refine q_ref z ?_
  refine q_ci (q_runV (As := []) (st := [.int i2]) C (c_X1_ever l D cA lo h.2) (cwV 0 C.2.2.2.2.1 gX7_shellCount_X1_ever rfl rfl rfl (by decide +kernel) ⟨Nat.le_of_ble_eq_true rfl, Nat.le_of_ble_eq_true rfl⟩) h.1 (by decide) rfl rfl rfl (Nat.le_of_ble_eq_true rfl) dX7_shellCount_13 ⟨Nat.le_of_ble_eq_true rfl, Nat.le_of_ble_eq_true rfl⟩) (fun r_4 M_z h => ?_)
  refine q_mem h.1 ?_
  have h := h.2
  refine q_icmp_ge (tgt := 52) C dX7_shellCount_16 (by decide) (fun z => ?_) (fun z => ?_)
  · have h := h.1 z
    refine q_iload_n C dX7_shellCount_52 rfl (j := 1) rfl ?_
    exact q_iret C hr hlk dX7_shellCount_53 (Nat.le_of_ble_eq_true rfl) (Nat.le_of_ble_eq_true rfl) h
  · have h := h.2 z
    refine q_aload_n C dX7_shellCount_19 rfl (j := 0) rfl ?_
    refine q_getR (ci := 7) (k0 := 0) (T := TX7) C inX7_shellCount_X7 rfl (by decide) h.1 (by decide) rfl (by decide +kernel) rfl dX7_shellCount_20 ?_
    obtain ⟨a_5, z, h⟩ := h.2
    refine q_ref z ?_
    refine q_iload_n C dX7_shellCount_23 rfl (j := 2) rfl ?_
    refine q_ci (q_runV (As := [.int i2]) (st := []) C (c_X1_has l D cA lo h.2) (cwV 1 C.2.2.2.2.1 gX7_shellCount_X1_has rfl rfl rfl (by decide +kernel) ⟨Nat.le_of_ble_eq_true rfl, Nat.le_of_ble_eq_true rfl⟩) h.1 (by decide) rfl rfl rfl (Nat.le_of_ble_eq_true rfl) dX7_shellCount_24 ⟨Nat.le_of_ble_eq_true rfl, Nat.le_of_ble_eq_true rfl⟩) (fun r_6 M_z h => ?_)
    refine q_mem h.1 ?_
    have h := h.2
    refine q_if_eq (tgt := 46) C dX7_shellCount_27 (by decide) (fun z => ?_) (fun z => ?_)
    · have h := h.1 z
      refine q_iinc (v := (i2 + 1)) (lv' := [(2, .int (i2 + 1)), (0, .ref a0), (1, .int i1)]) C dX7_shellCount_46 (j := 2) rfl rfl (by decide) rfl ?_
      refine q_goto (tgt := 8) C dX7_shellCount_49 (by decide) ?_
      exact q_sub [1, 2, 0] rfl h
    · have h := h.2 z
      refine q_aload_n C dX7_shellCount_30 rfl (j := 0) rfl ?_
      refine q_iload_n C dX7_shellCount_31 rfl (j := 2) rfl ?_
      refine q_ci (q_runV (As := [.int i2]) (st := []) C (c_X7_see l D cA lo h.2) (cwV 1 C.2.2.2.2.1 gX7_shellCount_X7_see rfl rfl rfl (by decide +kernel) ⟨Nat.le_of_ble_eq_true rfl, Nat.le_of_ble_eq_true rfl⟩) h.1 (by decide) rfl rfl rfl (Nat.le_of_ble_eq_true rfl) dX7_shellCount_32 ⟨Nat.le_of_ble_eq_true rfl, Nat.le_of_ble_eq_true rfl⟩) (fun r_7 M_8 h => ?_)
      refine q_if_eq (tgt := 46) C dX7_shellCount_35 (by decide) (fun z => ?_) (fun z => ?_)
      · have h := h.1 z
        refine q_iinc (v := (i2 + 1)) (lv' := [(2, .int (i2 + 1)), (0, .ref a0), (1, .int i1)]) C dX7_shellCount_46 (j := 2) rfl rfl (by decide) rfl ?_
        refine q_goto (tgt := 8) C dX7_shellCount_49 (by decide) ?_
        exact q_sub [1, 2, 0] rfl h
      · have h := h.2 z
        refine q_iinc (v := (i1 + 1)) (lv' := [(1, .int (i1 + 1)), (0, .ref a0), (2, .int i2)]) C dX7_shellCount_38 (j := 1) rfl rfl (by decide) rfl ?_
        refine q_aload_n C dX7_shellCount_41 rfl (j := 1) rfl ?_
        refine q_iload_n C dX7_shellCount_42 rfl (j := 2) rfl ?_
        refine q_cv (q_runV (As := [.int i2]) (st := []) C (c_X7_seeShell l D cA lo h.2) (cwV 1 C.2.2.2.2.1 gX7_shellCount_X7_seeShell rfl rfl rfl (by decide +kernel) ⟨Nat.le_of_ble_eq_true rfl, Nat.le_of_ble_eq_true rfl⟩) h.1 (by decide) rfl rfl rfl (Nat.le_of_ble_eq_true rfl) dX7_shellCount_43 ⟨Nat.le_of_ble_eq_true rfl, Nat.le_of_ble_eq_true rfl⟩) (fun M_10 h => ?_)
        refine q_iinc (v := (i2 + 1)) (lv' := [(2, .int (i2 + 1)), (1, .int (i1 + 1)), (0, .ref a0)]) C dX7_shellCount_46 (j := 2) rfl rfl (by decide) rfl ?_
        refine q_goto (tgt := 8) C dX7_shellCount_49 (by decide) ?_
        exact q_sub [2, 1, 0] rfl h
set_option maxRecDepth 100000 in
set_option maxHeartbeats 4000000 in
theorem c_X7_shellCount (l : Launch) (D : va_G) (cA : Nat → ClassId) (lo : Nat) {M : Mm} {a0 : Nat} {Q : Int32 → Mm → Prop} (h : T_X7_shellCount M a0 Q) : Met l yX7_shellCount wsX7_shellCount ({ frames := 3, cells := 0, slots := 0, locals := 66 } : Room) (PcM D cA lo [.ref a0] M) (QiM D cA lo Q) 0 0 (fun q => lo ≤ q) := by
  refine q_start (cc := cX7_shellCount) (nL := 3) (ret := (some .int)) (by decide) rfl rfl (Nat.le_of_ble_eq_true rfl) ?_
  intro p e s m args below meth c C hr hlk hin
  unfold T_X7_shellCount at h
  have h := h (fun (a0 : Nat) (i1 : Int32) (i2 : Int32) (M : Mm) => QW p l e ({ frames := 3, cells := 0, slots := 0, locals := 66 } : Room) s m args below meth c (MQ below (QiM D cA lo Q) args s 0 0 (fun q => lo ≤ q)) 3 D cA lo 0 0 M 8 [(0, .ref a0), (1, .int i1), (2, .int i2)] []) (fun a0 i1 i2 M h => b_X7_shellCount_8 C hr hlk M a0 i1 i2 h)
  refine q_aload_n C dX7_shellCount_0 rfl (j := 0) rfl ?_
  refine q_cv (q_runV (As := []) (st := []) C (c_X7_forgetFaces l D cA lo h.2) (cwV 0 C.2.2.2.2.1 gX7_shellCount_X7_forgetFaces rfl rfl rfl (by decide +kernel) ⟨Nat.le_of_ble_eq_true rfl, Nat.le_of_ble_eq_true rfl⟩) h.1 (by decide) rfl rfl rfl (Nat.le_of_ble_eq_true rfl) dX7_shellCount_1 ⟨Nat.le_of_ble_eq_true rfl, Nat.le_of_ble_eq_true rfl⟩) (fun M_2 h => ?_)
  refine q_iconst (v := 0) C dX7_shellCount_4 (by decide) ?_
  refine q_istore_n (lv' := [(1, .int 0), (0, .ref a0)]) C dX7_shellCount_5 rfl (by decide) rfl ?_
  refine q_iconst (v := 0) C dX7_shellCount_6 (by decide) ?_
  refine q_istore_n (lv' := [(2, .int 0), (1, .int 0), (0, .ref a0)]) C dX7_shellCount_7 rfl (by decide) rfl ?_
  exact q_sub [2, 1, 0] rfl h
def S_X7_seeFan_21 (K21 : Nat → Int32 → Int32 → Int32 → Int32 → Mm → Prop) (K61 : Nat → Int32 → Int32 → Mm → Prop) (K82 : Nat → Int32 → Int32 → Int32 → Mm → Prop) (Q : Mm → Prop) (M : Mm) (a0 : Nat) (i1 : Int32) (i2 : Int32) (i3 : Int32) (i4 : Int32) : Prop := (160 ≤ i4 → K61 a0 i1 i2 M) ∧ (¬ 160 ≤ i4 → kM M a0 = (7, 6) ∧ T_X7_see M a0 i3 (fun r_5 M_6 => (r_5 = 0 → K61 a0 i1 i2 M_6) ∧ (¬ r_5 = 0 → kM M_6 a0 = (7, 6) ∧ ∃ a_7 : Nat, rM M_6 a0 0 = some a_7 ∧ kM M_6 a0 = (7, 6) ∧ ∃ a_8 : Nat, rM M_6 a0 0 = some a_8 ∧ kM M_6 a_8 = (1, 5) ∧ T_X1_after M_6 a_8 i3 i1 (fun r_9 => kM M_6 a_7 = (1, 5) ∧ T_X1_owner M_6 a_7 r_9 i1 (fun r_10 => K21 a0 i1 i2 r_10 (i4 + 1) M_6)))))
def S_X7_seeFan_61 (K21 : Nat → Int32 → Int32 → Int32 → Int32 → Mm → Prop) (K61 : Nat → Int32 → Int32 → Mm → Prop) (K82 : Nat → Int32 → Int32 → Int32 → Mm → Prop) (Q : Mm → Prop) (M : Mm) (a0 : Nat) (i1 : Int32) (i2 : Int32) : Prop := kM M a0 = (7, 6) ∧ ∃ a_11 : Nat, rM M a0 0 = some a_11 ∧ kM M a0 = (7, 6) ∧ ∃ a_12 : Nat, rM M a0 0 = some a_12 ∧ kM M a_12 = (1, 5) ∧ T_X1_before M a_12 i2 i1 (fun r_13 => kM M a_11 = (1, 5) ∧ T_X1_owner M a_11 i1 r_13 (fun r_14 => K82 a0 i1 r_14 0 M))
def S_X7_seeFan_82 (K21 : Nat → Int32 → Int32 → Int32 → Int32 → Mm → Prop) (K61 : Nat → Int32 → Int32 → Mm → Prop) (K82 : Nat → Int32 → Int32 → Int32 → Mm → Prop) (Q : Mm → Prop) (M : Mm) (a0 : Nat) (i1 : Int32) (i3 : Int32) (i4 : Int32) : Prop := (160 ≤ i4 → Q M) ∧ (¬ 160 ≤ i4 → kM M a0 = (7, 6) ∧ T_X7_see M a0 i3 (fun r_15 M_16 => (r_15 = 0 → Q M_16) ∧ (¬ r_15 = 0 → kM M_16 a0 = (7, 6) ∧ ∃ a_17 : Nat, rM M_16 a0 0 = some a_17 ∧ kM M_16 a0 = (7, 6) ∧ ∃ a_18 : Nat, rM M_16 a0 0 = some a_18 ∧ kM M_16 a_18 = (1, 5) ∧ T_X1_before M_16 a_18 i3 i1 (fun r_19 => kM M_16 a_17 = (1, 5) ∧ T_X1_owner M_16 a_17 i1 r_19 (fun r_20 => K82 a0 i1 r_20 (i4 + 1) M_16)))))
def T_X7_seeFan (M : Mm) (a0 : Nat) (i1 : Int32) (i2 : Int32) (Q : Mm → Prop) : Prop := ∀ (K21 : Nat → Int32 → Int32 → Int32 → Int32 → Mm → Prop) (K61 : Nat → Int32 → Int32 → Mm → Prop) (K82 : Nat → Int32 → Int32 → Int32 → Mm → Prop), (∀ (a0 : Nat) (i1 : Int32) (i2 : Int32) (i3 : Int32) (i4 : Int32) (M : Mm), S_X7_seeFan_21 K21 K61 K82 Q M a0 i1 i2 i3 i4 → K21 a0 i1 i2 i3 i4 M) → (∀ (a0 : Nat) (i1 : Int32) (i2 : Int32) (M : Mm), S_X7_seeFan_61 K21 K61 K82 Q M a0 i1 i2 → K61 a0 i1 i2 M) → (∀ (a0 : Nat) (i1 : Int32) (i3 : Int32) (i4 : Int32) (M : Mm), S_X7_seeFan_82 K21 K61 K82 Q M a0 i1 i3 i4 → K82 a0 i1 i3 i4 M) → kM M a0 = (7, 6) ∧ ∃ a_1 : Nat, rM M a0 0 = some a_1 ∧ kM M a0 = (7, 6) ∧ ∃ a_2 : Nat, rM M a0 0 = some a_2 ∧ kM M a_2 = (1, 5) ∧ T_X1_after M a_2 i2 i1 (fun r_3 => kM M a_1 = (1, 5) ∧ T_X1_owner M a_1 r_3 i1 (fun r_4 => K21 a0 i1 i2 r_4 0 M))
theorem inX7_seeFan_X7 : ∀ w ∈ wsX70, w ∈ wsX7_seeFan := by decide +kernel
set_option maxRecDepth 100000 in
set_option maxHeartbeats 4000000 in
theorem b_X7_seeFan_21 {p : Program} {l : Launch} {e : Env} {s : State} {m : MethodId} {args : Array Value} {below : List Frame} {meth : Method} {c : Code} {D : va_G} {cA : Nat → ClassId} {lo : Nat} (C : Cx p s m args c cX7_seeFan 5 RX7 wsX7_seeFan D cA lo) (hr : meth.sig.returnType = none) (hlk : meth.locks = false) {Q : Mm → Prop} (M : Mm) (a0 : Nat) (i1 : Int32) (i2 : Int32) (i3 : Int32) (i4 : Int32) (h : S_X7_seeFan_21 (fun (a0 : Nat) (i1 : Int32) (i2 : Int32) (i3 : Int32) (i4 : Int32) (M : Mm) => QW p l e ({ frames := 2, cells := 0, slots := 0, locals := 45 } : Room) s m args below meth c (MQ below (QvM D cA lo Q) args s 0 0 (fun q => lo ≤ q)) 5 D cA lo 0 0 M 21 [(0, .ref a0), (1, .int i1), (2, .int i2), (3, .int i3), (4, .int i4)] []) (fun (a0 : Nat) (i1 : Int32) (i2 : Int32) (M : Mm) => QW p l e ({ frames := 2, cells := 0, slots := 0, locals := 45 } : Room) s m args below meth c (MQ below (QvM D cA lo Q) args s 0 0 (fun q => lo ≤ q)) 5 D cA lo 0 0 M 61 [(0, .ref a0), (1, .int i1), (2, .int i2)] []) (fun (a0 : Nat) (i1 : Int32) (i3 : Int32) (i4 : Int32) (M : Mm) => QW p l e ({ frames := 2, cells := 0, slots := 0, locals := 45 } : Room) s m args below meth c (MQ below (QvM D cA lo Q) args s 0 0 (fun q => lo ≤ q)) 5 D cA lo 0 0 M 82 [(0, .ref a0), (1, .int i1), (3, .int i3), (4, .int i4)] []) Q M a0 i1 i2 i3 i4) : QW p l e ({ frames := 2, cells := 0, slots := 0, locals := 45 } : Room) s m args below meth c (MQ below (QvM D cA lo Q) args s 0 0 (fun q => lo ≤ q)) 5 D cA lo 0 0 M 21 [(0, .ref a0), (1, .int i1), (2, .int i2), (3, .int i3), (4, .int i4)] [] := by
  unfold S_X7_seeFan_21 at h
  refine q_iload C dX7_seeFan_21 (j := 4) rfl ?_
  refine q_sipush (v := 160) C dX7_seeFan_23 (by decide) ?_
  refine q_icmp_ge (tgt := 61) C dX7_seeFan_26 (by decide) (fun z => ?_) (fun z => ?_)
  · have h := h.1 z
    exact q_sub [0, 1, 2] rfl h
  · have h := h.2 z
    refine q_aload_n C dX7_seeFan_29 rfl (j := 0) rfl ?_
    refine q_iload_n C dX7_seeFan_30 rfl (j := 3) rfl ?_
    refine q_ci (q_runV (As := [.int i3]) (st := []) C (c_X7_see l D cA lo h.2) (cwV 1 C.2.2.2.2.1 gX7_seeFan_X7_see rfl rfl rfl (by decide +kernel) ⟨Nat.le_of_ble_eq_true rfl, Nat.le_of_ble_eq_true rfl⟩) h.1 (by decide) rfl rfl rfl (Nat.le_of_ble_eq_true rfl) dX7_seeFan_31 ⟨Nat.le_of_ble_eq_true rfl, Nat.le_of_ble_eq_true rfl⟩) (fun r_5 M_6 h => ?_)
    refine q_if_eq (tgt := 61) C dX7_seeFan_34 (by decide) (fun z => ?_) (fun z => ?_)
    · have h := h.1 z
      exact q_sub [0, 1, 2] rfl h
    · have h := h.2 z
      refine q_aload_n C dX7_seeFan_37 rfl (j := 0) rfl ?_
      refine q_getR (ci := 7) (k0 := 0) (T := TX7) C inX7_seeFan_X7 rfl (by decide) h.1 (by decide) rfl (by decide +kernel) rfl dX7_seeFan_38 ?_
      obtain ⟨a_7, z, h⟩ := h.2
      refine q_ref z ?_
      refine q_aload_n C dX7_seeFan_41 rfl (j := 0) rfl ?_
      refine q_getR (ci := 7) (k0 := 0) (T := TX7) C inX7_seeFan_X7 rfl (by decide) h.1 (by decide) rfl (by decide +kernel) rfl dX7_seeFan_42 ?_
      obtain ⟨a_8, z, h⟩ := h.2
      refine q_ref z ?_
      refine q_iload_n C dX7_seeFan_45 rfl (j := 3) rfl ?_
      refine q_iload_n C dX7_seeFan_46 rfl (j := 1) rfl ?_
      refine q_ci (q_runV (As := [.int i3, .int i1]) (st := [.ref a_7]) C (c_X1_after l D cA lo h.2) (cwV 2 C.2.2.2.2.1 gX7_seeFan_X1_after rfl rfl rfl (by decide +kernel) ⟨Nat.le_of_ble_eq_true rfl, Nat.le_of_ble_eq_true rfl⟩) h.1 (by decide) rfl rfl rfl (Nat.le_of_ble_eq_true rfl) dX7_seeFan_47 ⟨Nat.le_of_ble_eq_true rfl, Nat.le_of_ble_eq_true rfl⟩) (fun r_9 M_z h => ?_)
      refine q_mem h.1 ?_
      have h := h.2
      refine q_iload_n C dX7_seeFan_50 rfl (j := 1) rfl ?_
      refine q_ci (q_runV (As := [.int r_9, .int i1]) (st := []) C (c_X1_owner l D cA lo h.2) (cwV 2 C.2.2.2.2.1 gX7_seeFan_X1_owner rfl rfl rfl (by decide +kernel) ⟨Nat.le_of_ble_eq_true rfl, Nat.le_of_ble_eq_true rfl⟩) h.1 (by decide) rfl rfl rfl (Nat.le_of_ble_eq_true rfl) dX7_seeFan_51 ⟨Nat.le_of_ble_eq_true rfl, Nat.le_of_ble_eq_true rfl⟩) (fun r_10 M_z h => ?_)
      refine q_mem h.1 ?_
      have h := h.2
      refine q_istore_n (lv' := [(3, .int r_10), (0, .ref a0), (1, .int i1), (2, .int i2), (4, .int i4)]) C dX7_seeFan_54 rfl (by decide) rfl ?_
      refine q_iinc (v := (i4 + 1)) (lv' := [(4, .int (i4 + 1)), (3, .int r_10), (0, .ref a0), (1, .int i1), (2, .int i2)]) C dX7_seeFan_55 (j := 4) rfl rfl (by decide) rfl ?_
      refine q_goto (tgt := 21) C dX7_seeFan_58 (by decide) ?_
      exact q_sub [2, 3, 4, 1, 0] rfl h
set_option maxRecDepth 100000 in
set_option maxHeartbeats 4000000 in
theorem b_X7_seeFan_61 {p : Program} {l : Launch} {e : Env} {s : State} {m : MethodId} {args : Array Value} {below : List Frame} {meth : Method} {c : Code} {D : va_G} {cA : Nat → ClassId} {lo : Nat} (C : Cx p s m args c cX7_seeFan 5 RX7 wsX7_seeFan D cA lo) (hr : meth.sig.returnType = none) (hlk : meth.locks = false) {Q : Mm → Prop} (M : Mm) (a0 : Nat) (i1 : Int32) (i2 : Int32) (h : S_X7_seeFan_61 (fun (a0 : Nat) (i1 : Int32) (i2 : Int32) (i3 : Int32) (i4 : Int32) (M : Mm) => QW p l e ({ frames := 2, cells := 0, slots := 0, locals := 45 } : Room) s m args below meth c (MQ below (QvM D cA lo Q) args s 0 0 (fun q => lo ≤ q)) 5 D cA lo 0 0 M 21 [(0, .ref a0), (1, .int i1), (2, .int i2), (3, .int i3), (4, .int i4)] []) (fun (a0 : Nat) (i1 : Int32) (i2 : Int32) (M : Mm) => QW p l e ({ frames := 2, cells := 0, slots := 0, locals := 45 } : Room) s m args below meth c (MQ below (QvM D cA lo Q) args s 0 0 (fun q => lo ≤ q)) 5 D cA lo 0 0 M 61 [(0, .ref a0), (1, .int i1), (2, .int i2)] []) (fun (a0 : Nat) (i1 : Int32) (i3 : Int32) (i4 : Int32) (M : Mm) => QW p l e ({ frames := 2, cells := 0, slots := 0, locals := 45 } : Room) s m args below meth c (MQ below (QvM D cA lo Q) args s 0 0 (fun q => lo ≤ q)) 5 D cA lo 0 0 M 82 [(0, .ref a0), (1, .int i1), (3, .int i3), (4, .int i4)] []) Q M a0 i1 i2) : QW p l e ({ frames := 2, cells := 0, slots := 0, locals := 45 } : Room) s m args below meth c (MQ below (QvM D cA lo Q) args s 0 0 (fun q => lo ≤ q)) 5 D cA lo 0 0 M 61 [(0, .ref a0), (1, .int i1), (2, .int i2)] [] := by
  unfold S_X7_seeFan_61 at h
  refine q_aload_n C dX7_seeFan_61 rfl (j := 0) rfl ?_
  refine q_getR (ci := 7) (k0 := 0) (T := TX7) C inX7_seeFan_X7 rfl (by decide) h.1 (by decide) rfl (by decide +kernel) rfl dX7_seeFan_62 ?_
  obtain ⟨a_11, z, h⟩ := h.2
  refine q_ref z ?_
  refine q_iload_n C dX7_seeFan_65 rfl (j := 1) rfl ?_
  refine q_aload_n C dX7_seeFan_66 rfl (j := 0) rfl ?_
  refine q_getR (ci := 7) (k0 := 0) (T := TX7) C inX7_seeFan_X7 rfl (by decide) h.1 (by decide) rfl (by decide +kernel) rfl dX7_seeFan_67 ?_
  obtain ⟨a_12, z, h⟩ := h.2
  refine q_ref z ?_
  refine q_iload_n C dX7_seeFan_70 rfl (j := 2) rfl ?_
  refine q_iload_n C dX7_seeFan_71 rfl (j := 1) rfl ?_
  refine q_ci (q_runV (As := [.int i2, .int i1]) (st := [.int i1, .ref a_11]) C (c_X1_before l D cA lo h.2) (cwV 2 C.2.2.2.2.1 gX7_seeFan_X1_before rfl rfl rfl (by decide +kernel) ⟨Nat.le_of_ble_eq_true rfl, Nat.le_of_ble_eq_true rfl⟩) h.1 (by decide) rfl rfl rfl (Nat.le_of_ble_eq_true rfl) dX7_seeFan_72 ⟨Nat.le_of_ble_eq_true rfl, Nat.le_of_ble_eq_true rfl⟩) (fun r_13 M_z h => ?_)
  refine q_mem h.1 ?_
  have h := h.2
  refine q_ci (q_runV (As := [.int i1, .int r_13]) (st := []) C (c_X1_owner l D cA lo h.2) (cwV 2 C.2.2.2.2.1 gX7_seeFan_X1_owner rfl rfl rfl (by decide +kernel) ⟨Nat.le_of_ble_eq_true rfl, Nat.le_of_ble_eq_true rfl⟩) h.1 (by decide) rfl rfl rfl (Nat.le_of_ble_eq_true rfl) dX7_seeFan_75 ⟨Nat.le_of_ble_eq_true rfl, Nat.le_of_ble_eq_true rfl⟩) (fun r_14 M_z h => ?_)
  refine q_mem h.1 ?_
  have h := h.2
  refine q_istore_n (lv' := [(3, .int r_14), (0, .ref a0), (1, .int i1), (2, .int i2)]) C dX7_seeFan_78 rfl (by decide) rfl ?_
  refine q_iconst (v := 0) C dX7_seeFan_79 (by decide) ?_
  refine q_istore (lv' := [(4, .int 0), (3, .int r_14), (0, .ref a0), (1, .int i1), (2, .int i2)]) C dX7_seeFan_80 (by decide) rfl ?_
  exact q_sub [2, 3, 1, 0] rfl h
set_option maxRecDepth 100000 in
set_option maxHeartbeats 4000000 in
theorem b_X7_seeFan_82 {p : Program} {l : Launch} {e : Env} {s : State} {m : MethodId} {args : Array Value} {below : List Frame} {meth : Method} {c : Code} {D : va_G} {cA : Nat → ClassId} {lo : Nat} (C : Cx p s m args c cX7_seeFan 5 RX7 wsX7_seeFan D cA lo) (hr : meth.sig.returnType = none) (hlk : meth.locks = false) {Q : Mm → Prop} (M : Mm) (a0 : Nat) (i1 : Int32) (i3 : Int32) (i4 : Int32) (h : S_X7_seeFan_82 (fun (a0 : Nat) (i1 : Int32) (i2 : Int32) (i3 : Int32) (i4 : Int32) (M : Mm) => QW p l e ({ frames := 2, cells := 0, slots := 0, locals := 45 } : Room) s m args below meth c (MQ below (QvM D cA lo Q) args s 0 0 (fun q => lo ≤ q)) 5 D cA lo 0 0 M 21 [(0, .ref a0), (1, .int i1), (2, .int i2), (3, .int i3), (4, .int i4)] []) (fun (a0 : Nat) (i1 : Int32) (i2 : Int32) (M : Mm) => QW p l e ({ frames := 2, cells := 0, slots := 0, locals := 45 } : Room) s m args below meth c (MQ below (QvM D cA lo Q) args s 0 0 (fun q => lo ≤ q)) 5 D cA lo 0 0 M 61 [(0, .ref a0), (1, .int i1), (2, .int i2)] []) (fun (a0 : Nat) (i1 : Int32) (i3 : Int32) (i4 : Int32) (M : Mm) => QW p l e ({ frames := 2, cells := 0, slots := 0, locals := 45 } : Room) s m args below meth c (MQ below (QvM D cA lo Q) args s 0 0 (fun q => lo ≤ q)) 5 D cA lo 0 0 M 82 [(0, .ref a0), (1, .int i1), (3, .int i3), (4, .int i4)] []) Q M a0 i1 i3 i4) : QW p l e ({ frames := 2, cells := 0, slots := 0, locals := 45 } : Room) s m args below meth c (MQ below (QvM D cA lo Q) args s 0 0 (fun q => lo ≤ q)) 5 D cA lo 0 0 M 82 [(0, .ref a0), (1, .int i1), (3, .int i3), (4, .int i4)] [] := by
  unfold S_X7_seeFan_82 at h
  refine q_iload C dX7_seeFan_82 (j := 3) rfl ?_
  refine q_sipush (v := 160) C dX7_seeFan_84 (by decide) ?_
  refine q_icmp_ge (tgt := 122) C dX7_seeFan_87 (by decide) (fun z => ?_) (fun z => ?_)
  · have h := h.1 z
    exact q_vret C hr hlk dX7_seeFan_122 (Nat.le_of_ble_eq_true rfl) (Nat.le_of_ble_eq_true rfl) h
  · have h := h.2 z
    refine q_aload_n C dX7_seeFan_90 rfl (j := 0) rfl ?_
    refine q_iload_n C dX7_seeFan_91 rfl (j := 2) rfl ?_
    refine q_ci (q_runV (As := [.int i3]) (st := []) C (c_X7_see l D cA lo h.2) (cwV 1 C.2.2.2.2.1 gX7_seeFan_X7_see rfl rfl rfl (by decide +kernel) ⟨Nat.le_of_ble_eq_true rfl, Nat.le_of_ble_eq_true rfl⟩) h.1 (by decide) rfl rfl rfl (Nat.le_of_ble_eq_true rfl) dX7_seeFan_92 ⟨Nat.le_of_ble_eq_true rfl, Nat.le_of_ble_eq_true rfl⟩) (fun r_15 M_16 h => ?_)
    refine q_if_eq (tgt := 122) C dX7_seeFan_95 (by decide) (fun z => ?_) (fun z => ?_)
    · have h := h.1 z
      exact q_vret C hr hlk dX7_seeFan_122 (Nat.le_of_ble_eq_true rfl) (Nat.le_of_ble_eq_true rfl) h
    · have h := h.2 z
      refine q_aload_n C dX7_seeFan_98 rfl (j := 0) rfl ?_
      refine q_getR (ci := 7) (k0 := 0) (T := TX7) C inX7_seeFan_X7 rfl (by decide) h.1 (by decide) rfl (by decide +kernel) rfl dX7_seeFan_99 ?_
      obtain ⟨a_17, z, h⟩ := h.2
      refine q_ref z ?_
      refine q_iload_n C dX7_seeFan_102 rfl (j := 1) rfl ?_
      refine q_aload_n C dX7_seeFan_103 rfl (j := 0) rfl ?_
      refine q_getR (ci := 7) (k0 := 0) (T := TX7) C inX7_seeFan_X7 rfl (by decide) h.1 (by decide) rfl (by decide +kernel) rfl dX7_seeFan_104 ?_
      obtain ⟨a_18, z, h⟩ := h.2
      refine q_ref z ?_
      refine q_iload_n C dX7_seeFan_107 rfl (j := 2) rfl ?_
      refine q_iload_n C dX7_seeFan_108 rfl (j := 1) rfl ?_
      refine q_ci (q_runV (As := [.int i3, .int i1]) (st := [.int i1, .ref a_17]) C (c_X1_before l D cA lo h.2) (cwV 2 C.2.2.2.2.1 gX7_seeFan_X1_before rfl rfl rfl (by decide +kernel) ⟨Nat.le_of_ble_eq_true rfl, Nat.le_of_ble_eq_true rfl⟩) h.1 (by decide) rfl rfl rfl (Nat.le_of_ble_eq_true rfl) dX7_seeFan_109 ⟨Nat.le_of_ble_eq_true rfl, Nat.le_of_ble_eq_true rfl⟩) (fun r_19 M_z h => ?_)
      refine q_mem h.1 ?_
      have h := h.2
      refine q_ci (q_runV (As := [.int i1, .int r_19]) (st := []) C (c_X1_owner l D cA lo h.2) (cwV 2 C.2.2.2.2.1 gX7_seeFan_X1_owner rfl rfl rfl (by decide +kernel) ⟨Nat.le_of_ble_eq_true rfl, Nat.le_of_ble_eq_true rfl⟩) h.1 (by decide) rfl rfl rfl (Nat.le_of_ble_eq_true rfl) dX7_seeFan_112 ⟨Nat.le_of_ble_eq_true rfl, Nat.le_of_ble_eq_true rfl⟩) (fun r_20 M_z h => ?_)
      refine q_mem h.1 ?_
      have h := h.2
      refine q_istore_n (lv' := [(3, .int r_20), (0, .ref a0), (1, .int i1), (4, .int i4)]) C dX7_seeFan_115 rfl (by decide) rfl ?_
      refine q_iinc (v := (i4 + 1)) (lv' := [(4, .int (i4 + 1)), (3, .int r_20), (0, .ref a0), (1, .int i1)]) C dX7_seeFan_116 (j := 3) rfl rfl (by decide) rfl ?_
      refine q_goto (tgt := 82) C dX7_seeFan_119 (by decide) ?_
      exact q_sub [2, 3, 1, 0] rfl h
set_option maxRecDepth 100000 in
set_option maxHeartbeats 4000000 in
theorem c_X7_seeFan (l : Launch) (D : va_G) (cA : Nat → ClassId) (lo : Nat) {M : Mm} {a0 : Nat} {i1 : Int32} {i2 : Int32} {Q : Mm → Prop} (h : T_X7_seeFan M a0 i1 i2 Q) : Met l yX7_seeFan wsX7_seeFan ({ frames := 2, cells := 0, slots := 0, locals := 45 } : Room) (PcM D cA lo [.ref a0, .int i1, .int i2] M) (QvM D cA lo Q) 0 0 (fun q => lo ≤ q) := by
  refine q_start (cc := cX7_seeFan) (nL := 5) (ret := none) (by decide) rfl rfl (Nat.le_of_ble_eq_true rfl) ?_
  intro p e s m args below meth c C hr hlk hin
  unfold T_X7_seeFan at h
  have h := h (fun (a0 : Nat) (i1 : Int32) (i2 : Int32) (i3 : Int32) (i4 : Int32) (M : Mm) => QW p l e ({ frames := 2, cells := 0, slots := 0, locals := 45 } : Room) s m args below meth c (MQ below (QvM D cA lo Q) args s 0 0 (fun q => lo ≤ q)) 5 D cA lo 0 0 M 21 [(0, .ref a0), (1, .int i1), (2, .int i2), (3, .int i3), (4, .int i4)] []) (fun (a0 : Nat) (i1 : Int32) (i2 : Int32) (M : Mm) => QW p l e ({ frames := 2, cells := 0, slots := 0, locals := 45 } : Room) s m args below meth c (MQ below (QvM D cA lo Q) args s 0 0 (fun q => lo ≤ q)) 5 D cA lo 0 0 M 61 [(0, .ref a0), (1, .int i1), (2, .int i2)] []) (fun (a0 : Nat) (i1 : Int32) (i3 : Int32) (i4 : Int32) (M : Mm) => QW p l e ({ frames := 2, cells := 0, slots := 0, locals := 45 } : Room) s m args below meth c (MQ below (QvM D cA lo Q) args s 0 0 (fun q => lo ≤ q)) 5 D cA lo 0 0 M 82 [(0, .ref a0), (1, .int i1), (3, .int i3), (4, .int i4)] []) (fun a0 i1 i2 i3 i4 M h => b_X7_seeFan_21 C hr hlk M a0 i1 i2 i3 i4 h) (fun a0 i1 i2 M h => b_X7_seeFan_61 C hr hlk M a0 i1 i2 h) (fun a0 i1 i3 i4 M h => b_X7_seeFan_82 C hr hlk M a0 i1 i3 i4 h)
  refine q_aload_n C dX7_seeFan_0 rfl (j := 0) rfl ?_
  refine q_getR (ci := 7) (k0 := 0) (T := TX7) C inX7_seeFan_X7 rfl (by decide) h.1 (by decide) rfl (by decide +kernel) rfl dX7_seeFan_1 ?_
  obtain ⟨a_1, z, h⟩ := h.2
  refine q_ref z ?_
  refine q_aload_n C dX7_seeFan_4 rfl (j := 0) rfl ?_
  refine q_getR (ci := 7) (k0 := 0) (T := TX7) C inX7_seeFan_X7 rfl (by decide) h.1 (by decide) rfl (by decide +kernel) rfl dX7_seeFan_5 ?_
  obtain ⟨a_2, z, h⟩ := h.2
  refine q_ref z ?_
  refine q_iload_n C dX7_seeFan_8 rfl (j := 2) rfl ?_
  refine q_iload_n C dX7_seeFan_9 rfl (j := 1) rfl ?_
  refine q_ci (q_runV (As := [.int i2, .int i1]) (st := [.ref a_1]) C (c_X1_after l D cA lo h.2) (cwV 2 C.2.2.2.2.1 gX7_seeFan_X1_after rfl rfl rfl (by decide +kernel) ⟨Nat.le_of_ble_eq_true rfl, Nat.le_of_ble_eq_true rfl⟩) h.1 (by decide) rfl rfl rfl (Nat.le_of_ble_eq_true rfl) dX7_seeFan_10 ⟨Nat.le_of_ble_eq_true rfl, Nat.le_of_ble_eq_true rfl⟩) (fun r_3 M_z h => ?_)
  refine q_mem h.1 ?_
  have h := h.2
  refine q_iload_n C dX7_seeFan_13 rfl (j := 1) rfl ?_
  refine q_ci (q_runV (As := [.int r_3, .int i1]) (st := []) C (c_X1_owner l D cA lo h.2) (cwV 2 C.2.2.2.2.1 gX7_seeFan_X1_owner rfl rfl rfl (by decide +kernel) ⟨Nat.le_of_ble_eq_true rfl, Nat.le_of_ble_eq_true rfl⟩) h.1 (by decide) rfl rfl rfl (Nat.le_of_ble_eq_true rfl) dX7_seeFan_14 ⟨Nat.le_of_ble_eq_true rfl, Nat.le_of_ble_eq_true rfl⟩) (fun r_4 M_z h => ?_)
  refine q_mem h.1 ?_
  have h := h.2
  refine q_istore_n (lv' := [(3, .int r_4), (0, .ref a0), (1, .int i1), (2, .int i2)]) C dX7_seeFan_17 rfl (by decide) rfl ?_
  refine q_iconst (v := 0) C dX7_seeFan_18 (by decide) ?_
  refine q_istore (lv' := [(4, .int 0), (3, .int r_4), (0, .ref a0), (1, .int i1), (2, .int i2)]) C dX7_seeFan_19 (by decide) rfl ?_
  exact q_sub [2, 3, 4, 1, 0] rfl h
def S_X7_fanCount_8 (K8 : Nat → Int32 → Int32 → Int32 → Mm → Prop) (Q : Int32 → Mm → Prop) (M : Mm) (a0 : Nat) (i1 : Int32) (i2 : Int32) (i3 : Int32) : Prop := (100 ≤ i3 → Q i2 M) ∧ (¬ 100 ≤ i3 → kM M a0 = (7, 6) ∧ ∃ a_3 : Nat, rM M a0 0 = some a_3 ∧ kM M a_3 = (1, 5) ∧ T_X1_owner M a_3 i1 i3 (fun r_4 => kM M a0 = (7, 6) ∧ T_X7_see M a0 r_4 (fun r_5 M_6 => (r_5 = 0 → K8 a0 i1 i2 (i3 + 1) M_6) ∧ (¬ r_5 = 0 → kM M_6 a0 = (7, 6) ∧ T_X7_seeFan M_6 a0 i1 r_4 (fun M_8 => K8 a0 i1 (i2 + 1) (i3 + 1) M_8)))))
def T_X7_fanCount (M : Mm) (a0 : Nat) (i1 : Int32) (Q : Int32 → Mm → Prop) : Prop := ∀ (K8 : Nat → Int32 → Int32 → Int32 → Mm → Prop), (∀ (a0 : Nat) (i1 : Int32) (i2 : Int32) (i3 : Int32) (M : Mm), S_X7_fanCount_8 K8 Q M a0 i1 i2 i3 → K8 a0 i1 i2 i3 M) → kM M a0 = (7, 6) ∧ T_X7_forgetFaces M a0 (fun M_2 => K8 a0 i1 0 0 M_2)
theorem inX7_fanCount_X7 : ∀ w ∈ wsX70, w ∈ wsX7_fanCount := by decide +kernel
set_option maxRecDepth 100000 in
set_option maxHeartbeats 4000000 in
theorem b_X7_fanCount_8 {p : Program} {l : Launch} {e : Env} {s : State} {m : MethodId} {args : Array Value} {below : List Frame} {meth : Method} {c : Code} {D : va_G} {cA : Nat → ClassId} {lo : Nat} (C : Cx p s m args c cX7_fanCount 5 RX7 wsX7_fanCount D cA lo) (hr : meth.sig.returnType = (some .int)) (hlk : meth.locks = false) {Q : Int32 → Mm → Prop} (M : Mm) (a0 : Nat) (i1 : Int32) (i2 : Int32) (i3 : Int32) (h : S_X7_fanCount_8 (fun (a0 : Nat) (i1 : Int32) (i2 : Int32) (i3 : Int32) (M : Mm) => QW p l e ({ frames := 3, cells := 0, slots := 0, locals := 69 } : Room) s m args below meth c (MQ below (QiM D cA lo Q) args s 0 0 (fun q => lo ≤ q)) 5 D cA lo 0 0 M 8 [(0, .ref a0), (1, .int i1), (2, .int i2), (3, .int i3)] []) Q M a0 i1 i2 i3) : QW p l e ({ frames := 3, cells := 0, slots := 0, locals := 69 } : Room) s m args below meth c (MQ below (QiM D cA lo Q) args s 0 0 (fun q => lo ≤ q)) 5 D cA lo 0 0 M 8 [(0, .ref a0), (1, .int i1), (2, .int i2), (3, .int i3)] [] := by
  unfold S_X7_fanCount_8 at h
  refine q_iload_n C dX7_fanCount_8 rfl (j := 3) rfl ?_
  refine q_bipush (v := 100) C dX7_fanCount_9 (by decide) ?_
  refine q_icmp_ge (tgt := 50) C dX7_fanCount_11 (by decide) (fun z => ?_) (fun z => ?_)
  · have h := h.1 z
    refine q_iload_n C dX7_fanCount_50 rfl (j := 2) rfl ?_
    exact q_iret C hr hlk dX7_fanCount_51 (Nat.le_of_ble_eq_true rfl) (Nat.le_of_ble_eq_true rfl) h
  · have h := h.2 z
    refine q_aload_n C dX7_fanCount_14 rfl (j := 0) rfl ?_
    refine q_getR (ci := 7) (k0 := 0) (T := TX7) C inX7_fanCount_X7 rfl (by decide) h.1 (by decide) rfl (by decide +kernel) rfl dX7_fanCount_15 ?_
    obtain ⟨a_3, z, h⟩ := h.2
    refine q_ref z ?_
    refine q_iload_n C dX7_fanCount_18 rfl (j := 1) rfl ?_
    refine q_iload_n C dX7_fanCount_19 rfl (j := 3) rfl ?_
    refine q_ci (q_runV (As := [.int i1, .int i3]) (st := []) C (c_X1_owner l D cA lo h.2) (cwV 2 C.2.2.2.2.1 gX7_fanCount_X1_owner rfl rfl rfl (by decide +kernel) ⟨Nat.le_of_ble_eq_true rfl, Nat.le_of_ble_eq_true rfl⟩) h.1 (by decide) rfl rfl rfl (Nat.le_of_ble_eq_true rfl) dX7_fanCount_20 ⟨Nat.le_of_ble_eq_true rfl, Nat.le_of_ble_eq_true rfl⟩) (fun r_4 M_z h => ?_)
    refine q_mem h.1 ?_
    have h := h.2
    refine q_istore (lv' := [(4, .int r_4), (0, .ref a0), (1, .int i1), (2, .int i2), (3, .int i3)]) C dX7_fanCount_23 (by decide) rfl ?_
    refine q_aload_n C dX7_fanCount_25 rfl (j := 1) rfl ?_
    refine q_iload C dX7_fanCount_26 (j := 0) rfl ?_
    refine q_ci (q_runV (As := [.int r_4]) (st := []) C (c_X7_see l D cA lo h.2) (cwV 1 C.2.2.2.2.1 gX7_fanCount_X7_see rfl rfl rfl (by decide +kernel) ⟨Nat.le_of_ble_eq_true rfl, Nat.le_of_ble_eq_true rfl⟩) h.1 (by decide) rfl rfl rfl (Nat.le_of_ble_eq_true rfl) dX7_fanCount_28 ⟨Nat.le_of_ble_eq_true rfl, Nat.le_of_ble_eq_true rfl⟩) (fun r_5 M_6 h => ?_)
    refine q_if_eq (tgt := 44) C dX7_fanCount_31 (by decide) (fun z => ?_) (fun z => ?_)
    · have h := h.1 z
      refine q_iinc (v := (i3 + 1)) (lv' := [(3, .int (i3 + 1)), (4, .int r_4), (0, .ref a0), (1, .int i1), (2, .int i2)]) C dX7_fanCount_44 (j := 4) rfl rfl (by decide) rfl ?_
      refine q_goto (tgt := 8) C dX7_fanCount_47 (by decide) ?_
      exact q_sub [2, 3, 4, 0] rfl h
    · have h := h.2 z
      refine q_iinc (v := (i2 + 1)) (lv' := [(2, .int (i2 + 1)), (4, .int r_4), (0, .ref a0), (1, .int i1), (3, .int i3)]) C dX7_fanCount_34 (j := 3) rfl rfl (by decide) rfl ?_
      refine q_aload_n C dX7_fanCount_37 rfl (j := 2) rfl ?_
      refine q_iload_n C dX7_fanCount_38 rfl (j := 3) rfl ?_
      refine q_iload C dX7_fanCount_39 (j := 1) rfl ?_
      refine q_cv (q_runV (As := [.int i1, .int r_4]) (st := []) C (c_X7_seeFan l D cA lo h.2) (cwV 2 C.2.2.2.2.1 gX7_fanCount_X7_seeFan rfl rfl rfl (by decide +kernel) ⟨Nat.le_of_ble_eq_true rfl, Nat.le_of_ble_eq_true rfl⟩) h.1 (by decide) rfl rfl rfl (Nat.le_of_ble_eq_true rfl) dX7_fanCount_41 ⟨Nat.le_of_ble_eq_true rfl, Nat.le_of_ble_eq_true rfl⟩) (fun M_8 h => ?_)
      refine q_iinc (v := (i3 + 1)) (lv' := [(3, .int (i3 + 1)), (2, .int (i2 + 1)), (4, .int r_4), (0, .ref a0), (1, .int i1)]) C dX7_fanCount_44 (j := 4) rfl rfl (by decide) rfl ?_
      refine q_goto (tgt := 8) C dX7_fanCount_47 (by decide) ?_
      exact q_sub [3, 4, 1, 0] rfl h
set_option maxRecDepth 100000 in
set_option maxHeartbeats 4000000 in
theorem c_X7_fanCount (l : Launch) (D : va_G) (cA : Nat → ClassId) (lo : Nat) {M : Mm} {a0 : Nat} {i1 : Int32} {Q : Int32 → Mm → Prop} (h : T_X7_fanCount M a0 i1 Q) : Met l yX7_fanCount wsX7_fanCount ({ frames := 3, cells := 0, slots := 0, locals := 69 } : Room) (PcM D cA lo [.ref a0, .int i1] M) (QiM D cA lo Q) 0 0 (fun q => lo ≤ q) := by
  refine q_start (cc := cX7_fanCount) (nL := 5) (ret := (some .int)) (by decide) rfl rfl (Nat.le_of_ble_eq_true rfl) ?_
  intro p e s m args below meth c C hr hlk hin
  unfold T_X7_fanCount at h
  have h := h (fun (a0 : Nat) (i1 : Int32) (i2 : Int32) (i3 : Int32) (M : Mm) => QW p l e ({ frames := 3, cells := 0, slots := 0, locals := 69 } : Room) s m args below meth c (MQ below (QiM D cA lo Q) args s 0 0 (fun q => lo ≤ q)) 5 D cA lo 0 0 M 8 [(0, .ref a0), (1, .int i1), (2, .int i2), (3, .int i3)] []) (fun a0 i1 i2 i3 M h => b_X7_fanCount_8 C hr hlk M a0 i1 i2 i3 h)
  refine q_aload_n C dX7_fanCount_0 rfl (j := 0) rfl ?_
  refine q_cv (q_runV (As := []) (st := []) C (c_X7_forgetFaces l D cA lo h.2) (cwV 0 C.2.2.2.2.1 gX7_fanCount_X7_forgetFaces rfl rfl rfl (by decide +kernel) ⟨Nat.le_of_ble_eq_true rfl, Nat.le_of_ble_eq_true rfl⟩) h.1 (by decide) rfl rfl rfl (Nat.le_of_ble_eq_true rfl) dX7_fanCount_1 ⟨Nat.le_of_ble_eq_true rfl, Nat.le_of_ble_eq_true rfl⟩) (fun M_2 h => ?_)
  refine q_iconst (v := 0) C dX7_fanCount_4 (by decide) ?_
  refine q_istore_n (lv' := [(2, .int 0), (0, .ref a0), (1, .int i1)]) C dX7_fanCount_5 rfl (by decide) rfl ?_
  refine q_iconst (v := 0) C dX7_fanCount_6 (by decide) ?_
  refine q_istore_n (lv' := [(3, .int 0), (2, .int 0), (0, .ref a0), (1, .int i1)]) C dX7_fanCount_7 rfl (by decide) rfl ?_
  exact q_sub [2, 3, 1, 0] rfl h
def T_X7_reach (M : Mm) (a0 : Nat) (i1 : Int32) (i2 : Int32) (Q : Mm → Prop) : Prop := T_X8_isPointNumber M i1 (fun r_1 => (r_1 = 0 → Q M) ∧ (¬ r_1 = 0 → kM M a0 = (7, 6) ∧ ∃ a_2 : Nat, rM M a0 4 = some a_2 ∧ ∃ n_3 : Nat, kM M a_2 = (100, n_3) ∧ vp_in i1 n_3 ∧ kM (wI M a_2 i1.toNatClampNeg i2) a0 = (7, 6) ∧ T_X7_enqueue (wI M a_2 i1.toNatClampNeg i2) a0 i1 (fun M_5 => Q M_5)))
theorem inX7_reach_X7 : ∀ w ∈ wsX70, w ∈ wsX7_reach := by decide +kernel
set_option maxRecDepth 100000 in
set_option maxHeartbeats 4000000 in
theorem c_X7_reach (l : Launch) (D : va_G) (cA : Nat → ClassId) (lo : Nat) {M : Mm} {a0 : Nat} {i1 : Int32} {i2 : Int32} {Q : Mm → Prop} (h : T_X7_reach M a0 i1 i2 Q) : Met l yX7_reach wsX7_reach ({ frames := 1, cells := 0, slots := 0, locals := 21 } : Room) (PcM D cA lo [.ref a0, .int i1, .int i2] M) (QvM D cA lo Q) 0 0 (fun q => lo ≤ q) := by
  refine q_start (cc := cX7_reach) (nL := 3) (ret := none) (by decide) rfl rfl (Nat.le_of_ble_eq_true rfl) ?_
  intro p e s m args below meth c C hr hlk hin
  unfold T_X7_reach at h
  refine q_iload_n C dX7_reach_0 rfl (j := 1) rfl ?_
  refine q_ci (q_runSN (As := [.int i1]) (st := []) C (c_X8_isPointNumber l D cA lo h) ⟨va_cnB (host := "QuarryMesh") 1 C.2.2.2.2.1 gX7_reach_X8_isPointNumber_n111 rfl rfl rfl (C.2.2.2.2.2.2.2.1 (RX7, 111, yX8_isPointNumber, "QuarryMesh") (List.mem_of_getElem? (i := 12) rfl)) (C.2.2.2.2.1 _ (by decide +kernel)) (by decide +kernel) ⟨Nat.le_of_ble_eq_true rfl, Nat.le_of_ble_eq_true rfl⟩, C.2.2.2.2.1 _ (by decide +kernel), trivial⟩ rfl rfl (Nat.le_of_ble_eq_true rfl) dX7_reach_1 ⟨Nat.le_of_ble_eq_true rfl, Nat.le_of_ble_eq_true rfl⟩) (fun r_1 M_z h => ?_)
  refine q_mem h.1 ?_
  have h := h.2
  refine q_if_eq (tgt := 19) C dX7_reach_4 (by decide) (fun z => ?_) (fun z => ?_)
  · have h := h.1 z
    exact q_vret C hr hlk dX7_reach_19 (Nat.le_of_ble_eq_true rfl) (Nat.le_of_ble_eq_true rfl) h
  · have h := h.2 z
    refine q_aload_n C dX7_reach_7 rfl (j := 0) rfl ?_
    refine q_getR (ci := 7) (k0 := 4) (T := TX7) C inX7_reach_X7 rfl (by decide) h.1 (by decide) rfl (by decide +kernel) rfl dX7_reach_8 ?_
    obtain ⟨a_2, z, h⟩ := h.2
    refine q_ref z ?_
    refine q_iload_n C dX7_reach_11 rfl (j := 1) rfl ?_
    refine q_iload_n C dX7_reach_12 rfl (j := 2) rfl ?_
    obtain ⟨n_3, z1, z2, h⟩ := h
    refine q_iast C z1 z2 dX7_reach_13 ?_
    refine q_aload_n C dX7_reach_14 rfl (j := 0) rfl ?_
    refine q_iload_n C dX7_reach_15 rfl (j := 1) rfl ?_
    refine q_cv (q_runV (As := [.int i1]) (st := []) C (c_X7_enqueue l D cA lo h.2) (cwV 1 C.2.2.2.2.1 gX7_reach_X7_enqueue rfl rfl rfl (by decide +kernel) ⟨Nat.le_of_ble_eq_true rfl, Nat.le_of_ble_eq_true rfl⟩) h.1 (by decide) rfl rfl rfl (Nat.le_of_ble_eq_true rfl) dX7_reach_16 ⟨Nat.le_of_ble_eq_true rfl, Nat.le_of_ble_eq_true rfl⟩) (fun M_5 h => ?_)
    exact q_vret C hr hlk dX7_reach_19 (Nat.le_of_ble_eq_true rfl) (Nat.le_of_ble_eq_true rfl) h
def T_X7_distanceOf (M : Mm) (a0 : Nat) (i1 : Int32) (Q : Int32 → Prop) : Prop := T_X8_isPointNumber M i1 (fun r_1 => (r_1 = 0 → Q (-1)) ∧ (¬ r_1 = 0 → kM M a0 = (7, 6) ∧ ∃ a_2 : Nat, rM M a0 4 = some a_2 ∧ ∃ n_3 : Nat, kM M a_2 = (100, n_3) ∧ vp_in i1 n_3 ∧ Q (iM M a_2 i1.toNatClampNeg)))
theorem inX7_distanceOf_X7 : ∀ w ∈ wsX70, w ∈ wsX7_distanceOf := by decide +kernel
set_option maxRecDepth 100000 in
set_option maxHeartbeats 4000000 in
theorem c_X7_distanceOf (l : Launch) (D : va_G) (cA : Nat → ClassId) (lo : Nat) {M : Mm} {a0 : Nat} {i1 : Int32} {Q : Int32 → Prop} (h : T_X7_distanceOf M a0 i1 Q) : Met l yX7_distanceOf wsX7_distanceOf ({ frames := 1, cells := 0, slots := 0, locals := 20 } : Room) (PcM D cA lo [.ref a0, .int i1] M) (QiM D cA lo (fun r M1 => M1 = M ∧ Q r)) 0 0 (fun q => lo ≤ q) := by
  refine q_start (cc := cX7_distanceOf) (nL := 2) (ret := (some .int)) (by decide) rfl rfl (Nat.le_of_ble_eq_true rfl) ?_
  intro p e s m args below meth c C hr hlk hin
  unfold T_X7_distanceOf at h
  refine q_iload_n C dX7_distanceOf_0 rfl (j := 1) rfl ?_
  refine q_ci (q_runSN (As := [.int i1]) (st := []) C (c_X8_isPointNumber l D cA lo h) ⟨va_cnB (host := "QuarryMesh") 1 C.2.2.2.2.1 gX7_distanceOf_X8_isPointNumber_n111 rfl rfl rfl (C.2.2.2.2.2.2.2.1 (RX7, 111, yX8_isPointNumber, "QuarryMesh") (List.mem_of_getElem? (i := 12) rfl)) (C.2.2.2.2.1 _ (by decide +kernel)) (by decide +kernel) ⟨Nat.le_of_ble_eq_true rfl, Nat.le_of_ble_eq_true rfl⟩, C.2.2.2.2.1 _ (by decide +kernel), trivial⟩ rfl rfl (Nat.le_of_ble_eq_true rfl) dX7_distanceOf_1 ⟨Nat.le_of_ble_eq_true rfl, Nat.le_of_ble_eq_true rfl⟩) (fun r_1 M_z h => ?_)
  refine q_mem h.1 ?_
  have h := h.2
  refine q_if_eq (tgt := 16) C dX7_distanceOf_4 (by decide) (fun z => ?_) (fun z => ?_)
  · have h := h.1 z
    refine q_iconst (v := (-1)) C dX7_distanceOf_16 (by decide) ?_
    exact q_iret C hr hlk dX7_distanceOf_17 (Nat.le_of_ble_eq_true rfl) (Nat.le_of_ble_eq_true rfl) ⟨rfl, h⟩
  · have h := h.2 z
    refine q_aload_n C dX7_distanceOf_7 rfl (j := 0) rfl ?_
    refine q_getR (ci := 7) (k0 := 4) (T := TX7) C inX7_distanceOf_X7 rfl (by decide) h.1 (by decide) rfl (by decide +kernel) rfl dX7_distanceOf_8 ?_
    obtain ⟨a_2, z, h⟩ := h.2
    refine q_ref z ?_
    refine q_iload_n C dX7_distanceOf_11 rfl (j := 1) rfl ?_
    obtain ⟨n_3, z1, z2, h⟩ := h
    refine q_iald C z1 z2 dX7_distanceOf_12 ?_
    refine q_goto (tgt := 17) C dX7_distanceOf_13 (by decide) ?_
    exact q_iret C hr hlk dX7_distanceOf_17 (Nat.le_of_ble_eq_true rfl) (Nat.le_of_ble_eq_true rfl) ⟨rfl, h⟩
def S_X7_wayLength_2 (K2 : Nat → Int32 → Int32 → Int32 → Mm → Prop) (K34 : Nat → Int32 → Int32 → Mm → Prop) (K72 : Nat → Int32 → Int32 → Int32 → Int32 → Mm → Prop) (Q : Int32 → Mm → Prop) (M : Mm) (a0 : Nat) (i1 : Int32) (i2 : Int32) (i3 : Int32) : Prop := (100 ≤ i3 → kM M a0 = (7, 6) ∧ kM (wI M a0 5 0) a0 = (7, 6) ∧ T_X7_reach (wI M a0 5 0) a0 i1 0 (fun M_2 => K34 a0 i2 0 M_2)) ∧ (¬ 100 ≤ i3 → kM M a0 = (7, 6) ∧ ∃ a_3 : Nat, rM M a0 4 = some a_3 ∧ ∃ n_4 : Nat, kM M a_3 = (100, n_4) ∧ vp_in i3 n_4 ∧ K2 a0 i1 i2 (i3 + 1) (wI M a_3 i3.toNatClampNeg (-1)))
def S_X7_wayLength_34 (K2 : Nat → Int32 → Int32 → Int32 → Mm → Prop) (K34 : Nat → Int32 → Int32 → Mm → Prop) (K72 : Nat → Int32 → Int32 → Int32 → Int32 → Mm → Prop) (Q : Int32 → Mm → Prop) (M : Mm) (a0 : Nat) (i2 : Int32) (i3 : Int32) : Prop := kM M a0 = (7, 6) ∧ ((iM M a0 5) ≤ i3 → Q (-1) M) ∧ (¬ (iM M a0 5) ≤ i3 → (100 ≤ i3 → Q (-1) M) ∧ (¬ 100 ≤ i3 → kM M a0 = (7, 6) ∧ ∃ a_5 : Nat, rM M a0 3 = some a_5 ∧ ∃ n_6 : Nat, kM M a_5 = (100, n_6) ∧ vp_in i3 n_6 ∧ (¬ (iM M a_5 i3.toNatClampNeg) = i2 → K72 a0 i2 i3 (iM M a_5 i3.toNatClampNeg) 0 M) ∧ ((iM M a_5 i3.toNatClampNeg) = i2 → kM M a0 = (7, 6) ∧ T_X7_distanceOf M a0 (iM M a_5 i3.toNatClampNeg) (fun r_7 => Q r_7 M))))
def S_X7_wayLength_72 (K2 : Nat → Int32 → Int32 → Int32 → Mm → Prop) (K34 : Nat → Int32 → Int32 → Mm → Prop) (K72 : Nat → Int32 → Int32 → Int32 → Int32 → Mm → Prop) (Q : Int32 → Mm → Prop) (M : Mm) (a0 : Nat) (i2 : Int32) (i3 : Int32) (i4 : Int32) (i5 : Int32) : Prop := (100 ≤ i5 → K34 a0 i2 (i3 + 1) M) ∧ (¬ 100 ≤ i5 → kM M a0 = (7, 6) ∧ ∃ a_8 : Nat, rM M a0 4 = some a_8 ∧ ∃ n_9 : Nat, kM M a_8 = (100, n_9) ∧ vp_in i5 n_9 ∧ (¬ (iM M a_8 i5.toNatClampNeg) = (-1) → K72 a0 i2 i3 i4 (i5 + 1) M) ∧ ((iM M a_8 i5.toNatClampNeg) = (-1) → kM M a0 = (7, 6) ∧ ∃ a_10 : Nat, rM M a0 0 = some a_10 ∧ kM M a_10 = (1, 5) ∧ T_X1_isEdge M a_10 i4 i5 (fun r_11 => (r_11 = 0 → K72 a0 i2 i3 i4 (i5 + 1) M) ∧ (¬ r_11 = 0 → kM M a0 = (7, 6) ∧ T_X7_distanceOf M a0 i4 (fun r_12 => kM M a0 = (7, 6) ∧ T_X7_reach M a0 i5 (r_12 + 1) (fun M_14 => K72 a0 i2 i3 i4 (i5 + 1) M_14))))))
def T_X7_wayLength (M : Mm) (a0 : Nat) (i1 : Int32) (i2 : Int32) (Q : Int32 → Mm → Prop) : Prop := ∀ (K2 : Nat → Int32 → Int32 → Int32 → Mm → Prop) (K34 : Nat → Int32 → Int32 → Mm → Prop) (K72 : Nat → Int32 → Int32 → Int32 → Int32 → Mm → Prop), (∀ (a0 : Nat) (i1 : Int32) (i2 : Int32) (i3 : Int32) (M : Mm), S_X7_wayLength_2 K2 K34 K72 Q M a0 i1 i2 i3 → K2 a0 i1 i2 i3 M) → (∀ (a0 : Nat) (i2 : Int32) (i3 : Int32) (M : Mm), S_X7_wayLength_34 K2 K34 K72 Q M a0 i2 i3 → K34 a0 i2 i3 M) → (∀ (a0 : Nat) (i2 : Int32) (i3 : Int32) (i4 : Int32) (i5 : Int32) (M : Mm), S_X7_wayLength_72 K2 K34 K72 Q M a0 i2 i3 i4 i5 → K72 a0 i2 i3 i4 i5 M) → K2 a0 i1 i2 0 M
theorem inX7_wayLength_X7 : ∀ w ∈ wsX70, w ∈ wsX7_wayLength := by decide +kernel
set_option maxRecDepth 100000 in
set_option maxHeartbeats 4000000 in
theorem b_X7_wayLength_2 {p : Program} {l : Launch} {e : Env} {s : State} {m : MethodId} {args : Array Value} {below : List Frame} {meth : Method} {c : Code} {D : va_G} {cA : Nat → ClassId} {lo : Nat} (C : Cx p s m args c cX7_wayLength 6 RX7 wsX7_wayLength D cA lo) (hr : meth.sig.returnType = (some .int)) (hlk : meth.locks = false) {Q : Int32 → Mm → Prop} (M : Mm) (a0 : Nat) (i1 : Int32) (i2 : Int32) (i3 : Int32) (h : S_X7_wayLength_2 (fun (a0 : Nat) (i1 : Int32) (i2 : Int32) (i3 : Int32) (M : Mm) => QW p l e ({ frames := 2, cells := 0, slots := 0, locals := 44 } : Room) s m args below meth c (MQ below (QiM D cA lo Q) args s 0 0 (fun q => lo ≤ q)) 6 D cA lo 0 0 M 2 [(0, .ref a0), (1, .int i1), (2, .int i2), (3, .int i3)] []) (fun (a0 : Nat) (i2 : Int32) (i3 : Int32) (M : Mm) => QW p l e ({ frames := 2, cells := 0, slots := 0, locals := 44 } : Room) s m args below meth c (MQ below (QiM D cA lo Q) args s 0 0 (fun q => lo ≤ q)) 6 D cA lo 0 0 M 34 [(0, .ref a0), (2, .int i2), (3, .int i3)] []) (fun (a0 : Nat) (i2 : Int32) (i3 : Int32) (i4 : Int32) (i5 : Int32) (M : Mm) => QW p l e ({ frames := 2, cells := 0, slots := 0, locals := 44 } : Room) s m args below meth c (MQ below (QiM D cA lo Q) args s 0 0 (fun q => lo ≤ q)) 6 D cA lo 0 0 M 72 [(0, .ref a0), (2, .int i2), (3, .int i3), (4, .int i4), (5, .int i5)] []) Q M a0 i1 i2 i3) : QW p l e ({ frames := 2, cells := 0, slots := 0, locals := 44 } : Room) s m args below meth c (MQ below (QiM D cA lo Q) args s 0 0 (fun q => lo ≤ q)) 6 D cA lo 0 0 M 2 [(0, .ref a0), (1, .int i1), (2, .int i2), (3, .int i3)] [] := by
  unfold S_X7_wayLength_2 at h
  refine q_iload_n C dX7_wayLength_2 rfl (j := 3) rfl ?_
  refine q_bipush (v := 100) C dX7_wayLength_3 (by decide) ?_
  refine q_icmp_ge (tgt := 21) C dX7_wayLength_5 (by decide) (fun z => ?_) (fun z => ?_)
  · have h := h.1 z
    refine q_aload_n C dX7_wayLength_21 rfl (j := 0) rfl ?_
    refine q_iconst (v := 0) C dX7_wayLength_22 (by decide) ?_
    refine q_putI (ci := 7) (k0 := 5) (T := TX7) (v := 0) (ty := .int) C inX7_wayLength_X7 tyX7 tyX7_ok nmX7 rfl (by decide) h.1 (by decide) rfl (by decide +kernel) rfl (by decide +kernel) rfl rfl rfl dX7_wayLength_23 ?_
    have h := h.2
    refine q_aload_n C dX7_wayLength_26 rfl (j := 0) rfl ?_
    refine q_iload_n C dX7_wayLength_27 rfl (j := 1) rfl ?_
    refine q_iconst (v := 0) C dX7_wayLength_28 (by decide) ?_
    refine q_cv (q_runV (As := [.int i1, .int 0]) (st := []) C (c_X7_reach l D cA lo h.2) (cwV 2 C.2.2.2.2.1 gX7_wayLength_X7_reach rfl rfl rfl (by decide +kernel) ⟨Nat.le_of_ble_eq_true rfl, Nat.le_of_ble_eq_true rfl⟩) h.1 (by decide) rfl rfl rfl (Nat.le_of_ble_eq_true rfl) dX7_wayLength_29 ⟨Nat.le_of_ble_eq_true rfl, Nat.le_of_ble_eq_true rfl⟩) (fun M_2 h => ?_)
    refine q_iconst (v := 0) C dX7_wayLength_32 (by decide) ?_
    refine q_istore_n (lv' := [(3, .int 0), (0, .ref a0), (1, .int i1), (2, .int i2)]) C dX7_wayLength_33 rfl (by decide) rfl ?_
    exact q_sub [1, 3, 0] rfl h
  · have h := h.2 z
    refine q_aload_n C dX7_wayLength_8 rfl (j := 0) rfl ?_
    refine q_getR (ci := 7) (k0 := 4) (T := TX7) C inX7_wayLength_X7 rfl (by decide) h.1 (by decide) rfl (by decide +kernel) rfl dX7_wayLength_9 ?_
    obtain ⟨a_3, z, h⟩ := h.2
    refine q_ref z ?_
    refine q_iload_n C dX7_wayLength_12 rfl (j := 3) rfl ?_
    refine q_iconst (v := (-1)) C dX7_wayLength_13 (by decide) ?_
    obtain ⟨n_4, z1, z2, h⟩ := h
    refine q_iast C z1 z2 dX7_wayLength_14 ?_
    refine q_iinc (v := (i3 + 1)) (lv' := [(3, .int (i3 + 1)), (0, .ref a0), (1, .int i1), (2, .int i2)]) C dX7_wayLength_15 (j := 3) rfl rfl (by decide) rfl ?_
    refine q_goto (tgt := 2) C dX7_wayLength_18 (by decide) ?_
    exact q_sub [1, 2, 3, 0] rfl h
set_option maxRecDepth 100000 in
set_option maxHeartbeats 4000000 in
theorem b_X7_wayLength_34 {p : Program} {l : Launch} {e : Env} {s : State} {m : MethodId} {args : Array Value} {below : List Frame} {meth : Method} {c : Code} {D : va_G} {cA : Nat → ClassId} {lo : Nat} (C : Cx p s m args c cX7_wayLength 6 RX7 wsX7_wayLength D cA lo) (hr : meth.sig.returnType = (some .int)) (hlk : meth.locks = false) {Q : Int32 → Mm → Prop} (M : Mm) (a0 : Nat) (i2 : Int32) (i3 : Int32) (h : S_X7_wayLength_34 (fun (a0 : Nat) (i1 : Int32) (i2 : Int32) (i3 : Int32) (M : Mm) => QW p l e ({ frames := 2, cells := 0, slots := 0, locals := 44 } : Room) s m args below meth c (MQ below (QiM D cA lo Q) args s 0 0 (fun q => lo ≤ q)) 6 D cA lo 0 0 M 2 [(0, .ref a0), (1, .int i1), (2, .int i2), (3, .int i3)] []) (fun (a0 : Nat) (i2 : Int32) (i3 : Int32) (M : Mm) => QW p l e ({ frames := 2, cells := 0, slots := 0, locals := 44 } : Room) s m args below meth c (MQ below (QiM D cA lo Q) args s 0 0 (fun q => lo ≤ q)) 6 D cA lo 0 0 M 34 [(0, .ref a0), (2, .int i2), (3, .int i3)] []) (fun (a0 : Nat) (i2 : Int32) (i3 : Int32) (i4 : Int32) (i5 : Int32) (M : Mm) => QW p l e ({ frames := 2, cells := 0, slots := 0, locals := 44 } : Room) s m args below meth c (MQ below (QiM D cA lo Q) args s 0 0 (fun q => lo ≤ q)) 6 D cA lo 0 0 M 72 [(0, .ref a0), (2, .int i2), (3, .int i3), (4, .int i4), (5, .int i5)] []) Q M a0 i2 i3) : QW p l e ({ frames := 2, cells := 0, slots := 0, locals := 44 } : Room) s m args below meth c (MQ below (QiM D cA lo Q) args s 0 0 (fun q => lo ≤ q)) 6 D cA lo 0 0 M 34 [(0, .ref a0), (2, .int i2), (3, .int i3)] [] := by
  unfold S_X7_wayLength_34 at h
  refine q_iload_n C dX7_wayLength_34 rfl (j := 2) rfl ?_
  refine q_aload_n C dX7_wayLength_35 rfl (j := 0) rfl ?_
  refine q_getI (ci := 7) (k0 := 5) (T := TX7) C inX7_wayLength_X7 rfl (by decide) h.1 (by decide) rfl (by decide +kernel) rfl dX7_wayLength_36 ?_
  have h := h.2
  refine q_icmp_ge (tgt := 130) C dX7_wayLength_39 (by decide) (fun z => ?_) (fun z => ?_)
  · have h := h.1 z
    refine q_iconst (v := (-1)) C dX7_wayLength_130 (by decide) ?_
    exact q_iret C hr hlk dX7_wayLength_131 (Nat.le_of_ble_eq_true rfl) (Nat.le_of_ble_eq_true rfl) h
  · have h := h.2 z
    refine q_iload_n C dX7_wayLength_42 rfl (j := 2) rfl ?_
    refine q_bipush (v := 100) C dX7_wayLength_43 (by decide) ?_
    refine q_icmp_ge (tgt := 130) C dX7_wayLength_45 (by decide) (fun z => ?_) (fun z => ?_)
    · have h := h.1 z
      refine q_iconst (v := (-1)) C dX7_wayLength_130 (by decide) ?_
      exact q_iret C hr hlk dX7_wayLength_131 (Nat.le_of_ble_eq_true rfl) (Nat.le_of_ble_eq_true rfl) h
    · have h := h.2 z
      refine q_aload_n C dX7_wayLength_48 rfl (j := 0) rfl ?_
      refine q_getR (ci := 7) (k0 := 3) (T := TX7) C inX7_wayLength_X7 rfl (by decide) h.1 (by decide) rfl (by decide +kernel) rfl dX7_wayLength_49 ?_
      obtain ⟨a_5, z, h⟩ := h.2
      refine q_ref z ?_
      refine q_iload_n C dX7_wayLength_52 rfl (j := 2) rfl ?_
      obtain ⟨n_6, z1, z2, h⟩ := h
      refine q_iald C z1 z2 dX7_wayLength_53 ?_
      refine q_istore (lv' := [(4, .int (iM M a_5 i3.toNatClampNeg)), (0, .ref a0), (2, .int i2), (3, .int i3)]) C dX7_wayLength_54 (by decide) rfl ?_
      refine q_iload C dX7_wayLength_56 (j := 0) rfl ?_
      refine q_iload_n C dX7_wayLength_58 rfl (j := 2) rfl ?_
      refine q_icmp_ne (tgt := 69) C dX7_wayLength_59 (by decide) (fun z => ?_) (fun z => ?_)
      · have h := h.1 z
        refine q_iconst (v := 0) C dX7_wayLength_69 (by decide) ?_
        refine q_istore (lv' := [(5, .int 0), (4, .int (iM M a_5 i3.toNatClampNeg)), (0, .ref a0), (2, .int i2), (3, .int i3)]) C dX7_wayLength_70 (by decide) rfl ?_
        exact q_sub [2, 3, 4, 1, 0] rfl h
      · have h := h.2 z
        refine q_aload_n C dX7_wayLength_62 rfl (j := 1) rfl ?_
        refine q_iload C dX7_wayLength_63 (j := 0) rfl ?_
        refine q_ci (q_runV (As := [.int (iM M a_5 i3.toNatClampNeg)]) (st := []) C (c_X7_distanceOf l D cA lo h.2) (cwV 1 C.2.2.2.2.1 gX7_wayLength_X7_distanceOf rfl rfl rfl (by decide +kernel) ⟨Nat.le_of_ble_eq_true rfl, Nat.le_of_ble_eq_true rfl⟩) h.1 (by decide) rfl rfl rfl (Nat.le_of_ble_eq_true rfl) dX7_wayLength_65 ⟨Nat.le_of_ble_eq_true rfl, Nat.le_of_ble_eq_true rfl⟩) (fun r_7 M_z h => ?_)
        refine q_mem h.1 ?_
        have h := h.2
        exact q_iret C hr hlk dX7_wayLength_68 (Nat.le_of_ble_eq_true rfl) (Nat.le_of_ble_eq_true rfl) h
set_option maxRecDepth 100000 in
set_option maxHeartbeats 4000000 in
theorem b_X7_wayLength_72 {p : Program} {l : Launch} {e : Env} {s : State} {m : MethodId} {args : Array Value} {below : List Frame} {meth : Method} {c : Code} {D : va_G} {cA : Nat → ClassId} {lo : Nat} (C : Cx p s m args c cX7_wayLength 6 RX7 wsX7_wayLength D cA lo) (hr : meth.sig.returnType = (some .int)) (hlk : meth.locks = false) {Q : Int32 → Mm → Prop} (M : Mm) (a0 : Nat) (i2 : Int32) (i3 : Int32) (i4 : Int32) (i5 : Int32) (h : S_X7_wayLength_72 (fun (a0 : Nat) (i1 : Int32) (i2 : Int32) (i3 : Int32) (M : Mm) => QW p l e ({ frames := 2, cells := 0, slots := 0, locals := 44 } : Room) s m args below meth c (MQ below (QiM D cA lo Q) args s 0 0 (fun q => lo ≤ q)) 6 D cA lo 0 0 M 2 [(0, .ref a0), (1, .int i1), (2, .int i2), (3, .int i3)] []) (fun (a0 : Nat) (i2 : Int32) (i3 : Int32) (M : Mm) => QW p l e ({ frames := 2, cells := 0, slots := 0, locals := 44 } : Room) s m args below meth c (MQ below (QiM D cA lo Q) args s 0 0 (fun q => lo ≤ q)) 6 D cA lo 0 0 M 34 [(0, .ref a0), (2, .int i2), (3, .int i3)] []) (fun (a0 : Nat) (i2 : Int32) (i3 : Int32) (i4 : Int32) (i5 : Int32) (M : Mm) => QW p l e ({ frames := 2, cells := 0, slots := 0, locals := 44 } : Room) s m args below meth c (MQ below (QiM D cA lo Q) args s 0 0 (fun q => lo ≤ q)) 6 D cA lo 0 0 M 72 [(0, .ref a0), (2, .int i2), (3, .int i3), (4, .int i4), (5, .int i5)] []) Q M a0 i2 i3 i4 i5) : QW p l e ({ frames := 2, cells := 0, slots := 0, locals := 44 } : Room) s m args below meth c (MQ below (QiM D cA lo Q) args s 0 0 (fun q => lo ≤ q)) 6 D cA lo 0 0 M 72 [(0, .ref a0), (2, .int i2), (3, .int i3), (4, .int i4), (5, .int i5)] [] := by
  unfold S_X7_wayLength_72 at h
  refine q_iload C dX7_wayLength_72 (j := 4) rfl ?_
  refine q_bipush (v := 100) C dX7_wayLength_74 (by decide) ?_
  refine q_icmp_ge (tgt := 124) C dX7_wayLength_76 (by decide) (fun z => ?_) (fun z => ?_)
  · have h := h.1 z
    refine q_iinc (v := (i3 + 1)) (lv' := [(3, .int (i3 + 1)), (0, .ref a0), (2, .int i2), (4, .int i4), (5, .int i5)]) C dX7_wayLength_124 (j := 2) rfl rfl (by decide) rfl ?_
    refine q_goto (tgt := 34) C dX7_wayLength_127 (by decide) ?_
    exact q_sub [1, 2, 0] rfl h
  · have h := h.2 z
    refine q_aload_n C dX7_wayLength_79 rfl (j := 0) rfl ?_
    refine q_getR (ci := 7) (k0 := 4) (T := TX7) C inX7_wayLength_X7 rfl (by decide) h.1 (by decide) rfl (by decide +kernel) rfl dX7_wayLength_80 ?_
    obtain ⟨a_8, z, h⟩ := h.2
    refine q_ref z ?_
    refine q_iload C dX7_wayLength_83 (j := 4) rfl ?_
    obtain ⟨n_9, z1, z2, h⟩ := h
    refine q_iald C z1 z2 dX7_wayLength_85 ?_
    refine q_iconst (v := (-1)) C dX7_wayLength_86 (by decide) ?_
    refine q_icmp_ne (tgt := 118) C dX7_wayLength_87 (by decide) (fun z => ?_) (fun z => ?_)
    · have h := h.1 z
      refine q_iinc (v := (i5 + 1)) (lv' := [(5, .int (i5 + 1)), (0, .ref a0), (2, .int i2), (3, .int i3), (4, .int i4)]) C dX7_wayLength_118 (j := 4) rfl rfl (by decide) rfl ?_
      refine q_goto (tgt := 72) C dX7_wayLength_121 (by decide) ?_
      exact q_sub [1, 2, 3, 4, 0] rfl h
    · have h := h.2 z
      refine q_aload_n C dX7_wayLength_90 rfl (j := 0) rfl ?_
      refine q_getR (ci := 7) (k0 := 0) (T := TX7) C inX7_wayLength_X7 rfl (by decide) h.1 (by decide) rfl (by decide +kernel) rfl dX7_wayLength_91 ?_
      obtain ⟨a_10, z, h⟩ := h.2
      refine q_ref z ?_
      refine q_iload C dX7_wayLength_94 (j := 3) rfl ?_
      refine q_iload C dX7_wayLength_96 (j := 4) rfl ?_
      refine q_ci (q_runV (As := [.int i4, .int i5]) (st := []) C (c_X1_isEdge l D cA lo h.2) (cwV 2 C.2.2.2.2.1 gX7_wayLength_X1_isEdge rfl rfl rfl (by decide +kernel) ⟨Nat.le_of_ble_eq_true rfl, Nat.le_of_ble_eq_true rfl⟩) h.1 (by decide) rfl rfl rfl (Nat.le_of_ble_eq_true rfl) dX7_wayLength_98 ⟨Nat.le_of_ble_eq_true rfl, Nat.le_of_ble_eq_true rfl⟩) (fun r_11 M_z h => ?_)
      refine q_mem h.1 ?_
      have h := h.2
      refine q_if_eq (tgt := 118) C dX7_wayLength_101 (by decide) (fun z => ?_) (fun z => ?_)
      · have h := h.1 z
        refine q_iinc (v := (i5 + 1)) (lv' := [(5, .int (i5 + 1)), (0, .ref a0), (2, .int i2), (3, .int i3), (4, .int i4)]) C dX7_wayLength_118 (j := 4) rfl rfl (by decide) rfl ?_
        refine q_goto (tgt := 72) C dX7_wayLength_121 (by decide) ?_
        exact q_sub [1, 2, 3, 4, 0] rfl h
      · have h := h.2 z
        refine q_aload_n C dX7_wayLength_104 rfl (j := 0) rfl ?_
        refine q_iload C dX7_wayLength_105 (j := 4) rfl ?_
        refine q_aload_n C dX7_wayLength_107 rfl (j := 0) rfl ?_
        refine q_iload C dX7_wayLength_108 (j := 3) rfl ?_
        refine q_ci (q_runV (As := [.int i4]) (st := [.int i5, .ref a0]) C (c_X7_distanceOf l D cA lo h.2) (cwV 1 C.2.2.2.2.1 gX7_wayLength_X7_distanceOf rfl rfl rfl (by decide +kernel) ⟨Nat.le_of_ble_eq_true rfl, Nat.le_of_ble_eq_true rfl⟩) h.1 (by decide) rfl rfl rfl (Nat.le_of_ble_eq_true rfl) dX7_wayLength_110 ⟨Nat.le_of_ble_eq_true rfl, Nat.le_of_ble_eq_true rfl⟩) (fun r_12 M_z h => ?_)
        refine q_mem h.1 ?_
        have h := h.2
        refine q_iconst (v := 1) C dX7_wayLength_113 (by decide) ?_
        refine q_iadd C dX7_wayLength_114 ?_
        refine q_cv (q_runV (As := [.int i5, .int (r_12 + 1)]) (st := []) C (c_X7_reach l D cA lo h.2) (cwV 2 C.2.2.2.2.1 gX7_wayLength_X7_reach rfl rfl rfl (by decide +kernel) ⟨Nat.le_of_ble_eq_true rfl, Nat.le_of_ble_eq_true rfl⟩) h.1 (by decide) rfl rfl rfl (Nat.le_of_ble_eq_true rfl) dX7_wayLength_115 ⟨Nat.le_of_ble_eq_true rfl, Nat.le_of_ble_eq_true rfl⟩) (fun M_14 h => ?_)
        refine q_iinc (v := (i5 + 1)) (lv' := [(5, .int (i5 + 1)), (0, .ref a0), (2, .int i2), (3, .int i3), (4, .int i4)]) C dX7_wayLength_118 (j := 4) rfl rfl (by decide) rfl ?_
        refine q_goto (tgt := 72) C dX7_wayLength_121 (by decide) ?_
        exact q_sub [1, 2, 3, 4, 0] rfl h
set_option maxRecDepth 100000 in
set_option maxHeartbeats 4000000 in
theorem c_X7_wayLength (l : Launch) (D : va_G) (cA : Nat → ClassId) (lo : Nat) {M : Mm} {a0 : Nat} {i1 : Int32} {i2 : Int32} {Q : Int32 → Mm → Prop} (h : T_X7_wayLength M a0 i1 i2 Q) : Met l yX7_wayLength wsX7_wayLength ({ frames := 2, cells := 0, slots := 0, locals := 44 } : Room) (PcM D cA lo [.ref a0, .int i1, .int i2] M) (QiM D cA lo Q) 0 0 (fun q => lo ≤ q) := by
  refine q_start (cc := cX7_wayLength) (nL := 6) (ret := (some .int)) (by decide) rfl rfl (Nat.le_of_ble_eq_true rfl) ?_
  intro p e s m args below meth c C hr hlk hin
  unfold T_X7_wayLength at h
  have h := h (fun (a0 : Nat) (i1 : Int32) (i2 : Int32) (i3 : Int32) (M : Mm) => QW p l e ({ frames := 2, cells := 0, slots := 0, locals := 44 } : Room) s m args below meth c (MQ below (QiM D cA lo Q) args s 0 0 (fun q => lo ≤ q)) 6 D cA lo 0 0 M 2 [(0, .ref a0), (1, .int i1), (2, .int i2), (3, .int i3)] []) (fun (a0 : Nat) (i2 : Int32) (i3 : Int32) (M : Mm) => QW p l e ({ frames := 2, cells := 0, slots := 0, locals := 44 } : Room) s m args below meth c (MQ below (QiM D cA lo Q) args s 0 0 (fun q => lo ≤ q)) 6 D cA lo 0 0 M 34 [(0, .ref a0), (2, .int i2), (3, .int i3)] []) (fun (a0 : Nat) (i2 : Int32) (i3 : Int32) (i4 : Int32) (i5 : Int32) (M : Mm) => QW p l e ({ frames := 2, cells := 0, slots := 0, locals := 44 } : Room) s m args below meth c (MQ below (QiM D cA lo Q) args s 0 0 (fun q => lo ≤ q)) 6 D cA lo 0 0 M 72 [(0, .ref a0), (2, .int i2), (3, .int i3), (4, .int i4), (5, .int i5)] []) (fun a0 i1 i2 i3 M h => b_X7_wayLength_2 C hr hlk M a0 i1 i2 i3 h) (fun a0 i2 i3 M h => b_X7_wayLength_34 C hr hlk M a0 i2 i3 h) (fun a0 i2 i3 i4 i5 M h => b_X7_wayLength_72 C hr hlk M a0 i2 i3 i4 i5 h)
  refine q_iconst (v := 0) C dX7_wayLength_0 (by decide) ?_
  refine q_istore_n (lv' := [(3, .int 0), (0, .ref a0), (1, .int i1), (2, .int i2)]) C dX7_wayLength_1 rfl (by decide) rfl ?_
  exact q_sub [1, 2, 3, 0] rfl h
def T_X8_init (Cc Zz : Nat) (M : Mm) (a0 : Nat) (Q : Mm → Prop) : Prop := 0 + 1 ≤ Cc ∧ 0 + 4 ≤ Zz ∧ ∀ q_1 : Nat, frs M q_1 → ∃ dc_4 ds_4 : Nat, ((0 + 1) + dc_4 ≤ Cc ∧ (0 + 4) + ds_4 ≤ Zz) ∧ T_X3_init dc_4 ds_4 (wN M q_1 3 4) q_1 (fun M_3 => kM M_3 a0 = (8, 8) ∧ ((0 + 1) + dc_4) + 1 ≤ Cc ∧ ((0 + 4) + ds_4) + 5 ≤ Zz ∧ ∀ q_5 : Nat, frs (wR M_3 a0 0 (some q_1)) q_5 → ∃ dc_8 ds_8 : Nat, ((((0 + 1) + dc_4) + 1) + dc_8 ≤ Cc ∧ (((0 + 4) + ds_4) + 5) + ds_8 ≤ Zz) ∧ T_X1_init dc_8 ds_8 (wN (wR M_3 a0 0 (some q_1)) q_5 1 5) q_5 (fun M_7 => kM M_7 a0 = (8, 8) ∧ ((((0 + 1) + dc_4) + 1) + dc_8) + 1 ≤ Cc ∧ ((((0 + 4) + ds_4) + 5) + ds_8) + 2 ≤ Zz ∧ ∀ q_9 : Nat, frs (wR M_7 a0 1 (some q_5)) q_9 → ∃ dc_12 ds_12 : Nat, ((((((0 + 1) + dc_4) + 1) + dc_8) + 1) + dc_12 ≤ Cc ∧ (((((0 + 4) + ds_4) + 5) + ds_8) + 2) + ds_12 ≤ Zz) ∧ T_X2_init dc_12 ds_12 (wN (wR M_7 a0 1 (some q_5)) q_9 2 2) q_9 (fun M_11 => ((((((0 + 1) + dc_4) + 1) + dc_8) + 1) + dc_12) + 1 ≤ Cc ∧ ((((((0 + 4) + ds_4) + 5) + ds_8) + 2) + ds_12) + 6 ≤ Zz ∧ ∀ q_13 : Nat, frs M_11 q_13 → kM (wN M_11 q_13 7 6) a0 = (8, 8) ∧ ∃ a_14 : Nat, rM (wN M_11 q_13 7 6) a0 1 = some a_14 ∧ ∃ dc_17 ds_17 : Nat, ((((((((0 + 1) + dc_4) + 1) + dc_8) + 1) + dc_12) + 1) + dc_17 ≤ Cc ∧ (((((((0 + 4) + ds_4) + 5) + ds_8) + 2) + ds_12) + 6) + ds_17 ≤ Zz) ∧ T_X7_init dc_17 ds_17 (wN M_11 q_13 7 6) q_13 a_14 q_9 (fun M_16 => kM M_16 a0 = (8, 8) ∧ ((((((((0 + 1) + dc_4) + 1) + dc_8) + 1) + dc_12) + 1) + dc_17) + 1 ≤ Cc ∧ ((((((((0 + 4) + ds_4) + 5) + ds_8) + 2) + ds_12) + 6) + ds_17) + 3 ≤ Zz ∧ ∀ q_18 : Nat, frs (wR M_16 a0 2 (some q_13)) q_18 → kM (wN (wR M_16 a0 2 (some q_13)) q_18 0 3) a0 = (8, 8) ∧ ∃ a_19 : Nat, rM (wN (wR M_16 a0 2 (some q_13)) q_18 0 3) a0 1 = some a_19 ∧ ∃ dc_22 ds_22 : Nat, ((((((((((0 + 1) + dc_4) + 1) + dc_8) + 1) + dc_12) + 1) + dc_17) + 1) + dc_22 ≤ Cc ∧ (((((((((0 + 4) + ds_4) + 5) + ds_8) + 2) + ds_12) + 6) + ds_17) + 3) + ds_22 ≤ Zz) ∧ T_X0_init dc_22 ds_22 (wN (wR M_16 a0 2 (some q_13)) q_18 0 3) q_18 a_19 q_9 (fun M_21 => kM M_21 a0 = (8, 8) ∧ ((((((((((0 + 1) + dc_4) + 1) + dc_8) + 1) + dc_12) + 1) + dc_17) + 1) + dc_22) + 1 ≤ Cc ∧ ((((((((((0 + 4) + ds_4) + 5) + ds_8) + 2) + ds_12) + 6) + ds_17) + 3) + ds_22) + 5 ≤ Zz ∧ ∀ q_23 : Nat, frs (wR M_21 a0 3 (some q_18)) q_23 → kM (wN (wR M_21 a0 3 (some q_18)) q_23 4 5) a0 = (8, 8) ∧ ∃ a_24 : Nat, rM (wN (wR M_21 a0 3 (some q_18)) q_23 4 5) a0 0 = some a_24 ∧ kM (wN (wR M_21 a0 3 (some q_18)) q_23 4 5) a0 = (8, 8) ∧ ∃ a_25 : Nat, rM (wN (wR M_21 a0 3 (some q_18)) q_23 4 5) a0 1 = some a_25 ∧ ∃ dc_28 ds_28 : Nat, ((((((((((((0 + 1) + dc_4) + 1) + dc_8) + 1) + dc_12) + 1) + dc_17) + 1) + dc_22) + 1) + dc_28 ≤ Cc ∧ (((((((((((0 + 4) + ds_4) + 5) + ds_8) + 2) + ds_12) + 6) + ds_17) + 3) + ds_22) + 5) + ds_28 ≤ Zz) ∧ T_X4_init dc_28 ds_28 (wN (wR M_21 a0 3 (some q_18)) q_23 4 5) q_23 a_24 a_25 (fun M_27 => kM M_27 a0 = (8, 8) ∧ ((((((((((((0 + 1) + dc_4) + 1) + dc_8) + 1) + dc_12) + 1) + dc_17) + 1) + dc_22) + 1) + dc_28) + 1 ≤ Cc ∧ ((((((((((((0 + 4) + ds_4) + 5) + ds_8) + 2) + ds_12) + 6) + ds_17) + 3) + ds_22) + 5) + ds_28) + 3 ≤ Zz ∧ ∀ q_29 : Nat, frs (wR M_27 a0 4 (some q_23)) q_29 → kM (wN (wR M_27 a0 4 (some q_23)) q_29 6 3) a0 = (8, 8) ∧ ∃ a_30 : Nat, rM (wN (wR M_27 a0 4 (some q_23)) q_29 6 3) a0 0 = some a_30 ∧ kM (wN (wR M_27 a0 4 (some q_23)) q_29 6 3) a0 = (8, 8) ∧ ∃ a_31 : Nat, rM (wN (wR M_27 a0 4 (some q_23)) q_29 6 3) a0 1 = some a_31 ∧ ∃ dc_34 ds_34 : Nat, ((((((((((((((0 + 1) + dc_4) + 1) + dc_8) + 1) + dc_12) + 1) + dc_17) + 1) + dc_22) + 1) + dc_28) + 1) + dc_34 ≤ Cc ∧ (((((((((((((0 + 4) + ds_4) + 5) + ds_8) + 2) + ds_12) + 6) + ds_17) + 3) + ds_22) + 5) + ds_28) + 3) + ds_34 ≤ Zz) ∧ T_X6_init dc_34 ds_34 (wN (wR M_27 a0 4 (some q_23)) q_29 6 3) q_29 a_30 a_31 (fun M_33 => kM M_33 a0 = (8, 8) ∧ ((((((((((((((0 + 1) + dc_4) + 1) + dc_8) + 1) + dc_12) + 1) + dc_17) + 1) + dc_22) + 1) + dc_28) + 1) + dc_34) + 1 ≤ Cc ∧ ((((((((((((((0 + 4) + ds_4) + 5) + ds_8) + 2) + ds_12) + 6) + ds_17) + 3) + ds_22) + 5) + ds_28) + 3) + ds_34) + 2 ≤ Zz ∧ ∀ q_35 : Nat, frs (wR M_33 a0 5 (some q_29)) q_35 → ∃ dc_38 ds_38 : Nat, ((((((((((((((((0 + 1) + dc_4) + 1) + dc_8) + 1) + dc_12) + 1) + dc_17) + 1) + dc_22) + 1) + dc_28) + 1) + dc_34) + 1) + dc_38 ≤ Cc ∧ (((((((((((((((0 + 4) + ds_4) + 5) + ds_8) + 2) + ds_12) + 6) + ds_17) + 3) + ds_22) + 5) + ds_28) + 3) + ds_34) + 2) + ds_38 ≤ Zz) ∧ T_X5_init dc_38 ds_38 (wN (wR M_33 a0 5 (some q_29)) q_35 5 2) q_35 (fun M_37 => kM M_37 a0 = (8, 8) ∧ ((((((((((((((((0 + 1) + dc_4) + 1) + dc_8) + 1) + dc_12) + 1) + dc_17) + 1) + dc_22) + 1) + dc_28) + 1) + dc_34) + 1) + dc_38) + 1 ≤ Cc ∧ ((((((((((((((((0 + 4) + ds_4) + 5) + ds_8) + 2) + ds_12) + 6) + ds_17) + 3) + ds_22) + 5) + ds_28) + 3) + ds_34) + 2) + ds_38) + 2 ≤ Zz ∧ ∀ q_39 : Nat, frs (wR M_37 a0 6 (some q_35)) q_39 → ∃ dc_42 ds_42 : Nat, ((((((((((((((((((0 + 1) + dc_4) + 1) + dc_8) + 1) + dc_12) + 1) + dc_17) + 1) + dc_22) + 1) + dc_28) + 1) + dc_34) + 1) + dc_38) + 1) + dc_42 ≤ Cc ∧ (((((((((((((((((0 + 4) + ds_4) + 5) + ds_8) + 2) + ds_12) + 6) + ds_17) + 3) + ds_22) + 5) + ds_28) + 3) + ds_34) + 2) + ds_38) + 2) + ds_42 ≤ Zz) ∧ T_X5_init dc_42 ds_42 (wN (wR M_37 a0 6 (some q_35)) q_39 5 2) q_39 (fun M_41 => kM M_41 a0 = (8, 8) ∧ ((((((((((((((((((0 + 1) + dc_4) + 1) + dc_8) + 1) + dc_12) + 1) + dc_17) + 1) + dc_22) + 1) + dc_28) + 1) + dc_34) + 1) + dc_38) + 1) + dc_42) ≤ Cc ∧ ((((((((((((((((((0 + 4) + ds_4) + 5) + ds_8) + 2) + ds_12) + 6) + ds_17) + 3) + ds_22) + 5) + ds_28) + 3) + ds_34) + 2) + ds_38) + 2) + ds_42) ≤ Zz ∧ Q (wR M_41 a0 7 (some q_39)))))))))))
theorem inX8_init_X0 : ∀ w ∈ wsX00, w ∈ wsX8_init := by decide +kernel
theorem inX8_init_X1 : ∀ w ∈ wsX10, w ∈ wsX8_init := by decide +kernel
theorem inX8_init_X2 : ∀ w ∈ wsX20, w ∈ wsX8_init := by decide +kernel
theorem inX8_init_X3 : ∀ w ∈ wsX30, w ∈ wsX8_init := by decide +kernel
theorem inX8_init_X4 : ∀ w ∈ wsX40, w ∈ wsX8_init := by decide +kernel
theorem inX8_init_X5 : ∀ w ∈ wsX50, w ∈ wsX8_init := by decide +kernel
theorem inX8_init_X6 : ∀ w ∈ wsX60, w ∈ wsX8_init := by decide +kernel
theorem inX8_init_X7 : ∀ w ∈ wsX70, w ∈ wsX8_init := by decide +kernel
theorem inX8_init_X8 : ∀ w ∈ wsX80, w ∈ wsX8_init := by decide +kernel
set_option maxRecDepth 100000 in
set_option maxHeartbeats 4000000 in
theorem c_X8_init (l : Launch) (D : va_G) (cA : Nat → ClassId) (lo : Nat) {M : Mm} {a0 : Nat} {Cc Zz : Nat} {Q : Mm → Prop} (h : T_X8_init Cc Zz M a0 Q) : Met l yX8_init wsX8_init ({ frames := 3, cells := Cc, slots := Zz, locals := 62 } : Room) (PcM D cA lo [.ref a0] M) (QvM D cA lo Q) Cc Zz (fun q => lo ≤ q) := by
  refine q_start (cc := cX8_init) (nL := 2) (ret := none) (by decide) rfl rfl (Nat.le_of_ble_eq_true rfl) ?_
  intro p e s m args below meth c C hr hlk hin
  unfold T_X8_init at h
  refine q_aload_n C dX8_init_0 rfl (j := 0) rfl ?_
  refine q_objInit C (by decide +kernel) (by decide +kernel) (by decide +kernel) dX8_init_1 ⟨Nat.le_of_ble_eq_true rfl, Nat.le_of_ble_eq_true rfl⟩ ?_
  refine q_aload_n C dX8_init_4 rfl (j := 0) rfl ?_
  refine q_new (ci := 3) (T := TX3) C inX8_init_X3 tyX3 tyX3_ok (by decide +kernel) (by decide +kernel) (by decide +kernel) rfl (by decide) (by decide +kernel) ⟨h.1, h.2.1⟩ dX8_init_5 (fun q_1 hq _ => ?_)
  have h := h.2.2 q_1 hq
  refine q_dup C dX8_init_8 rfl ?_
  obtain ⟨dc_4, ds_4, hcz, h⟩ := h
  refine q_cv (q_runIN (As := []) (st := [.ref q_1, .ref a0]) C (c_X3_init l D cA lo h) ⟨va_cnB (host := "QuarryMesh") 0 C.2.2.2.2.1 gX8_init_X3_init_n11 rfl rfl rfl (C.2.2.2.2.2.2.2.1 (RX8, 11, yX3_init, "QuarryMesh") (List.mem_of_getElem? (i := 0) rfl)) (C.2.2.2.2.1 _ (by decide +kernel)) (by decide +kernel) ⟨Nat.le_of_ble_eq_true rfl, Nat.le_of_ble_eq_true rfl⟩, rfl, C.2.2.2.2.1 _ (by decide +kernel)⟩ rfl rfl (Nat.le_of_ble_eq_true rfl) dX8_init_9 hcz) (fun M_3 h => ?_)
  refine q_putFR (ci := 8) (k0 := 0) (T := TX8) (v := (some q_1)) (ty := .object "QuarryMesh$Points") C inX8_init_X8 tyX8 tyX8_ok nmX8 rfl (by decide) h.1 (by decide) rfl (by decide +kernel) rfl hin rfl (by decide +kernel) rfl rfl rfl dX8_init_12 ?_
  have h := h.2
  refine q_aload_n C dX8_init_15 rfl (j := 0) rfl ?_
  refine q_new (ci := 1) (T := TX1) C inX8_init_X1 tyX1 tyX1_ok (by decide +kernel) (by decide +kernel) (by decide +kernel) rfl (by decide) (by decide +kernel) ⟨h.1, h.2.1⟩ dX8_init_16 (fun q_5 hq _ => ?_)
  have h := h.2.2 q_5 hq
  refine q_dup C dX8_init_19 rfl ?_
  obtain ⟨dc_8, ds_8, hcz, h⟩ := h
  refine q_cv (q_runI (As := []) (st := [.ref q_5, .ref a0]) C (c_X1_init l D cA lo h) (cwI 0 C.2.2.2.2.1 gX8_init_X1_init rfl rfl rfl (C.2.2.2.2.1 _ (by decide +kernel)) (C.2.2.2.2.1 _ (by decide +kernel)) (C.2.2.2.2.1 _ (by decide +kernel)) rfl (by decide +kernel) ⟨Nat.le_of_ble_eq_true rfl, Nat.le_of_ble_eq_true rfl⟩) rfl rfl (Nat.le_of_ble_eq_true rfl) dX8_init_20 hcz) (fun M_7 h => ?_)
  refine q_putFR (ci := 8) (k0 := 1) (T := TX8) (v := (some q_5)) (ty := .object "QuarryMesh$Faces") C inX8_init_X8 tyX8 tyX8_ok nmX8 rfl (by decide) h.1 (by decide) rfl (by decide +kernel) rfl hin rfl (by decide +kernel) rfl rfl rfl dX8_init_23 ?_
  have h := h.2
  refine q_new (ci := 2) (T := TX2) C inX8_init_X2 tyX2 tyX2_ok (by decide +kernel) (by decide +kernel) (by decide +kernel) rfl (by decide) (by decide +kernel) ⟨h.1, h.2.1⟩ dX8_init_26 (fun q_9 hq _ => ?_)
  have h := h.2.2 q_9 hq
  refine q_dup C dX8_init_29 rfl ?_
  obtain ⟨dc_12, ds_12, hcz, h⟩ := h
  refine q_cv (q_runIN (As := []) (st := [.ref q_9]) C (c_X2_init l D cA lo h) ⟨va_cnB (host := "QuarryMesh") 0 C.2.2.2.2.1 gX8_init_X2_init_n25 rfl rfl rfl (C.2.2.2.2.2.2.2.1 (RX8, 25, yX2_init, "QuarryMesh") (List.mem_of_getElem? (i := 2) rfl)) (C.2.2.2.2.1 _ (by decide +kernel)) (by decide +kernel) ⟨Nat.le_of_ble_eq_true rfl, Nat.le_of_ble_eq_true rfl⟩, rfl, C.2.2.2.2.1 _ (by decide +kernel)⟩ rfl rfl (Nat.le_of_ble_eq_true rfl) dX8_init_30 hcz) (fun M_11 h => ?_)
  refine q_astore_n (lv' := [(1, .ref q_9), (0, .ref a0)]) C dX8_init_33 rfl (by decide) rfl ?_
  refine q_aload_n C dX8_init_34 rfl (j := 1) rfl ?_
  refine q_new (ci := 7) (T := TX7) C inX8_init_X7 tyX7 tyX7_ok (by decide +kernel) (by decide +kernel) (by decide +kernel) rfl (by decide) (by decide +kernel) ⟨h.1, h.2.1⟩ dX8_init_35 (fun q_13 hq _ => ?_)
  have h := h.2.2 q_13 hq
  refine q_dup C dX8_init_38 rfl ?_
  refine q_aload_n C dX8_init_39 rfl (j := 1) rfl ?_
  refine q_getR (ci := 8) (k0 := 1) (T := TX8) C inX8_init_X8 rfl (by decide) h.1 (by decide) rfl (by decide +kernel) rfl dX8_init_40 ?_
  obtain ⟨a_14, z, h⟩ := h.2
  refine q_ref z ?_
  refine q_aload_n C dX8_init_43 rfl (j := 0) rfl ?_
  obtain ⟨dc_17, ds_17, hcz, h⟩ := h
  refine q_cv (q_runI (As := [.ref a_14, .ref q_9]) (st := [.ref q_13, .ref a0]) C (c_X7_init l D cA lo h) (cwI 2 C.2.2.2.2.1 gX8_init_X7_init rfl rfl rfl (C.2.2.2.2.1 _ (by decide +kernel)) (C.2.2.2.2.1 _ (by decide +kernel)) (C.2.2.2.2.1 _ (by decide +kernel)) rfl (by decide +kernel) ⟨Nat.le_of_ble_eq_true rfl, Nat.le_of_ble_eq_true rfl⟩) rfl rfl (Nat.le_of_ble_eq_true rfl) dX8_init_44 hcz) (fun M_16 h => ?_)
  refine q_putFR (ci := 8) (k0 := 2) (T := TX8) (v := (some q_13)) (ty := .object "QuarryMesh$Survey") C inX8_init_X8 tyX8 tyX8_ok nmX8 rfl (by decide) h.1 (by decide) rfl (by decide +kernel) rfl hin rfl (by decide +kernel) rfl rfl rfl dX8_init_47 ?_
  have h := h.2
  refine q_aload_n C dX8_init_50 rfl (j := 1) rfl ?_
  refine q_new (ci := 0) (T := TX0) C inX8_init_X0 tyX0 tyX0_ok (by decide +kernel) (by decide +kernel) (by decide +kernel) rfl (by decide) (by decide +kernel) ⟨h.1, h.2.1⟩ dX8_init_51 (fun q_18 hq _ => ?_)
  have h := h.2.2 q_18 hq
  refine q_dup C dX8_init_54 rfl ?_
  refine q_aload_n C dX8_init_55 rfl (j := 1) rfl ?_
  refine q_getR (ci := 8) (k0 := 1) (T := TX8) C inX8_init_X8 rfl (by decide) h.1 (by decide) rfl (by decide +kernel) rfl dX8_init_56 ?_
  obtain ⟨a_19, z, h⟩ := h.2
  refine q_ref z ?_
  refine q_aload_n C dX8_init_59 rfl (j := 0) rfl ?_
  obtain ⟨dc_22, ds_22, hcz, h⟩ := h
  refine q_cv (q_runI (As := [.ref a_19, .ref q_9]) (st := [.ref q_18, .ref a0]) C (c_X0_init l D cA lo h) (cwI 2 C.2.2.2.2.1 gX8_init_X0_init rfl rfl rfl (C.2.2.2.2.1 _ (by decide +kernel)) (C.2.2.2.2.1 _ (by decide +kernel)) (C.2.2.2.2.1 _ (by decide +kernel)) rfl (by decide +kernel) ⟨Nat.le_of_ble_eq_true rfl, Nat.le_of_ble_eq_true rfl⟩) rfl rfl (Nat.le_of_ble_eq_true rfl) dX8_init_60 hcz) (fun M_21 h => ?_)
  refine q_putFR (ci := 8) (k0 := 3) (T := TX8) (v := (some q_18)) (ty := .object "QuarryMesh$Collapsing") C inX8_init_X8 tyX8 tyX8_ok nmX8 rfl (by decide) h.1 (by decide) rfl (by decide +kernel) rfl hin rfl (by decide +kernel) rfl rfl rfl dX8_init_63 ?_
  have h := h.2
  refine q_aload_n C dX8_init_66 rfl (j := 1) rfl ?_
  refine q_new (ci := 4) (T := TX4) C inX8_init_X4 tyX4 tyX4_ok (by decide +kernel) (by decide +kernel) (by decide +kernel) rfl (by decide) (by decide +kernel) ⟨h.1, h.2.1⟩ dX8_init_67 (fun q_23 hq _ => ?_)
  have h := h.2.2 q_23 hq
  refine q_dup C dX8_init_70 rfl ?_
  refine q_aload_n C dX8_init_71 rfl (j := 1) rfl ?_
  refine q_getR (ci := 8) (k0 := 0) (T := TX8) C inX8_init_X8 rfl (by decide) h.1 (by decide) rfl (by decide +kernel) rfl dX8_init_72 ?_
  obtain ⟨a_24, z, h⟩ := h.2
  refine q_ref z ?_
  refine q_aload_n C dX8_init_75 rfl (j := 1) rfl ?_
  refine q_getR (ci := 8) (k0 := 1) (T := TX8) C inX8_init_X8 rfl (by decide) h.1 (by decide) rfl (by decide +kernel) rfl dX8_init_76 ?_
  obtain ⟨a_25, z, h⟩ := h.2
  refine q_ref z ?_
  obtain ⟨dc_28, ds_28, hcz, h⟩ := h
  refine q_cv (q_runI (As := [.ref a_24, .ref a_25]) (st := [.ref q_23, .ref a0]) C (c_X4_init l D cA lo h) (cwI 2 C.2.2.2.2.1 gX8_init_X4_init rfl rfl rfl (C.2.2.2.2.1 _ (by decide +kernel)) (C.2.2.2.2.1 _ (by decide +kernel)) (C.2.2.2.2.1 _ (by decide +kernel)) rfl (by decide +kernel) ⟨Nat.le_of_ble_eq_true rfl, Nat.le_of_ble_eq_true rfl⟩) rfl rfl (Nat.le_of_ble_eq_true rfl) dX8_init_79 hcz) (fun M_27 h => ?_)
  refine q_putFR (ci := 8) (k0 := 4) (T := TX8) (v := (some q_23)) (ty := .object "QuarryMesh$Quartering") C inX8_init_X8 tyX8 tyX8_ok nmX8 rfl (by decide) h.1 (by decide) rfl (by decide +kernel) rfl hin rfl (by decide +kernel) rfl rfl rfl dX8_init_82 ?_
  have h := h.2
  refine q_aload_n C dX8_init_85 rfl (j := 1) rfl ?_
  refine q_new (ci := 6) (T := TX6) C inX8_init_X6 tyX6 tyX6_ok (by decide +kernel) (by decide +kernel) (by decide +kernel) rfl (by decide) (by decide +kernel) ⟨h.1, h.2.1⟩ dX8_init_86 (fun q_29 hq _ => ?_)
  have h := h.2.2 q_29 hq
  refine q_dup C dX8_init_89 rfl ?_
  refine q_aload_n C dX8_init_90 rfl (j := 1) rfl ?_
  refine q_getR (ci := 8) (k0 := 0) (T := TX8) C inX8_init_X8 rfl (by decide) h.1 (by decide) rfl (by decide +kernel) rfl dX8_init_91 ?_
  obtain ⟨a_30, z, h⟩ := h.2
  refine q_ref z ?_
  refine q_aload_n C dX8_init_94 rfl (j := 1) rfl ?_
  refine q_getR (ci := 8) (k0 := 1) (T := TX8) C inX8_init_X8 rfl (by decide) h.1 (by decide) rfl (by decide +kernel) rfl dX8_init_95 ?_
  obtain ⟨a_31, z, h⟩ := h.2
  refine q_ref z ?_
  obtain ⟨dc_34, ds_34, hcz, h⟩ := h
  refine q_cv (q_runI (As := [.ref a_30, .ref a_31]) (st := [.ref q_29, .ref a0]) C (c_X6_init l D cA lo h) (cwI 2 C.2.2.2.2.1 gX8_init_X6_init rfl rfl rfl (C.2.2.2.2.1 _ (by decide +kernel)) (C.2.2.2.2.1 _ (by decide +kernel)) (C.2.2.2.2.1 _ (by decide +kernel)) rfl (by decide +kernel) ⟨Nat.le_of_ble_eq_true rfl, Nat.le_of_ble_eq_true rfl⟩) rfl rfl (Nat.le_of_ble_eq_true rfl) dX8_init_98 hcz) (fun M_33 h => ?_)
  refine q_putFR (ci := 8) (k0 := 5) (T := TX8) (v := (some q_29)) (ty := .object "QuarryMesh$Smoothing") C inX8_init_X8 tyX8 tyX8_ok nmX8 rfl (by decide) h.1 (by decide) rfl (by decide +kernel) rfl hin rfl (by decide +kernel) rfl rfl rfl dX8_init_101 ?_
  have h := h.2
  refine q_aload_n C dX8_init_104 rfl (j := 1) rfl ?_
  refine q_new (ci := 5) (T := TX5) C inX8_init_X5 tyX5 tyX5_ok (by decide +kernel) (by decide +kernel) (by decide +kernel) rfl (by decide) (by decide +kernel) ⟨h.1, h.2.1⟩ dX8_init_105 (fun q_35 hq _ => ?_)
  have h := h.2.2 q_35 hq
  refine q_dup C dX8_init_108 rfl ?_
  obtain ⟨dc_38, ds_38, hcz, h⟩ := h
  refine q_cv (q_runIN (As := []) (st := [.ref q_35, .ref a0]) C (c_X5_init l D cA lo h) ⟨va_cnB (host := "QuarryMesh") 0 C.2.2.2.2.1 gX8_init_X5_init_n60 rfl rfl rfl (C.2.2.2.2.2.2.2.1 (RX8, 60, yX5_init, "QuarryMesh") (List.mem_of_getElem? (i := 5) rfl)) (C.2.2.2.2.1 _ (by decide +kernel)) (by decide +kernel) ⟨Nat.le_of_ble_eq_true rfl, Nat.le_of_ble_eq_true rfl⟩, rfl, C.2.2.2.2.1 _ (by decide +kernel)⟩ rfl rfl (Nat.le_of_ble_eq_true rfl) dX8_init_109 hcz) (fun M_37 h => ?_)
  refine q_putFR (ci := 8) (k0 := 6) (T := TX8) (v := (some q_35)) (ty := .object "QuarryMesh$Ring") C inX8_init_X8 tyX8 tyX8_ok nmX8 rfl (by decide) h.1 (by decide) rfl (by decide +kernel) rfl hin rfl (by decide +kernel) rfl rfl rfl dX8_init_112 ?_
  have h := h.2
  refine q_aload_n C dX8_init_115 rfl (j := 1) rfl ?_
  refine q_new (ci := 5) (T := TX5) C inX8_init_X5 tyX5 tyX5_ok (by decide +kernel) (by decide +kernel) (by decide +kernel) rfl (by decide) (by decide +kernel) ⟨h.1, h.2.1⟩ dX8_init_116 (fun q_39 hq _ => ?_)
  have h := h.2.2 q_39 hq
  refine q_dup C dX8_init_119 rfl ?_
  obtain ⟨dc_42, ds_42, hcz, h⟩ := h
  refine q_cv (q_runIN (As := []) (st := [.ref q_39, .ref a0]) C (c_X5_init l D cA lo h) ⟨va_cnB (host := "QuarryMesh") 0 C.2.2.2.2.1 gX8_init_X5_init_n60 rfl rfl rfl (C.2.2.2.2.2.2.2.1 (RX8, 60, yX5_init, "QuarryMesh") (List.mem_of_getElem? (i := 5) rfl)) (C.2.2.2.2.1 _ (by decide +kernel)) (by decide +kernel) ⟨Nat.le_of_ble_eq_true rfl, Nat.le_of_ble_eq_true rfl⟩, rfl, C.2.2.2.2.1 _ (by decide +kernel)⟩ rfl rfl (Nat.le_of_ble_eq_true rfl) dX8_init_120 hcz) (fun M_41 h => ?_)
  refine q_putFR (ci := 8) (k0 := 7) (T := TX8) (v := (some q_39)) (ty := .object "QuarryMesh$Ring") C inX8_init_X8 tyX8 tyX8_ok nmX8 rfl (by decide) h.1 (by decide) rfl (by decide +kernel) rfl hin rfl (by decide +kernel) rfl rfl rfl dX8_init_123 ?_
  have h := h.2
  exact q_vret C hr hlk dX8_init_126 h.1 h.2.1 h.2.2
def T_X8_isInReach (M : Mm) (l0 : Int64) (Q : Int32 → Prop) : Prop := ((lg_cmp l0 (-500)) < 0 → Q 0) ∧ (¬ (lg_cmp l0 (-500)) < 0 → (0 < (lg_cmp l0 500) → Q 0) ∧ (¬ 0 < (lg_cmp l0 500) → Q 1))
set_option maxRecDepth 100000 in
set_option maxHeartbeats 4000000 in
theorem c_X8_isInReach (l : Launch) (D : va_G) (cA : Nat → ClassId) (lo : Nat) {M : Mm} {l0 : Int64} {Q : Int32 → Prop} (h : T_X8_isInReach M l0 Q) : Met l yX8_isInReach wsX8_isInReach ({ frames := 0, cells := 0, slots := 0, locals := 0 } : Room) (PcM D cA lo [.long l0] M) (QiM D cA lo (fun r M1 => M1 = M ∧ Q r)) 0 0 (fun q => lo ≤ q) := by
  refine q_start (cc := cX8_isInReach) (nL := 2) (ret := (some .boolean)) (by decide) rfl rfl (Nat.le_of_ble_eq_true rfl) ?_
  intro p e s m args below meth c C hr hlk hin
  unfold T_X8_isInReach at h
  refine q_lload_n C dX8_isInReach_0 rfl (j := 0) rfl ?_
  refine q_ldc2 (v := (-500)) C (by decide +kernel) dX8_isInReach_1 ?_
  refine q_lcmp C dX8_isInReach_4 ?_
  refine q_if_lt (tgt := 20) C dX8_isInReach_5 (by decide) (fun z => ?_) (fun z => ?_)
  · have h := h.1 z
    refine q_iconst (v := 0) C dX8_isInReach_20 (by decide) ?_
    exact q_zret C hr hlk dX8_isInReach_21 (Nat.le_of_ble_eq_true rfl) (Nat.le_of_ble_eq_true rfl) (Or.inl rfl) ⟨rfl, h⟩
  · have h := h.2 z
    refine q_lload_n C dX8_isInReach_8 rfl (j := 0) rfl ?_
    refine q_ldc2 (v := 500) C (by decide +kernel) dX8_isInReach_9 ?_
    refine q_lcmp C dX8_isInReach_12 ?_
    refine q_if_gt (tgt := 20) C dX8_isInReach_13 (by decide) (fun z => ?_) (fun z => ?_)
    · have h := h.1 z
      refine q_iconst (v := 0) C dX8_isInReach_20 (by decide) ?_
      exact q_zret C hr hlk dX8_isInReach_21 (Nat.le_of_ble_eq_true rfl) (Nat.le_of_ble_eq_true rfl) (Or.inl rfl) ⟨rfl, h⟩
    · have h := h.2 z
      refine q_iconst (v := 1) C dX8_isInReach_16 (by decide) ?_
      refine q_goto (tgt := 21) C dX8_isInReach_17 (by decide) ?_
      exact q_zret C hr hlk dX8_isInReach_21 (Nat.le_of_ble_eq_true rfl) (Nat.le_of_ble_eq_true rfl) (Or.inr rfl) ⟨rfl, h⟩
def T_X8_needArgument (Cc Zz : Nat) (M : Mm) (i0 : Int32) (Q : Mm → Prop) (X : String → Mm → Prop) : Prop := (¬ i0 = 0 → 0 ≤ Cc ∧ 0 ≤ Zz ∧ Q M) ∧ (i0 = 0 → 0 + 1 ≤ Cc ∧ 0 + 6 ≤ Zz ∧ X "java/lang/IllegalArgumentException" M)
set_option maxRecDepth 100000 in
set_option maxHeartbeats 4000000 in
theorem c_X8_needArgument (l : Launch) (hl : l.stackTraces = false) (D : va_G) (cA : Nat → ClassId) (lo : Nat) {M : Mm} {i0 : Int32} {Cc Zz : Nat} {Q : Mm → Prop} {X : String → Mm → Prop} (h : T_X8_needArgument Cc Zz M i0 Q X) : vx_Met l yX8_needArgument wsX8_needArgument ({ frames := 6, cells := Cc, slots := Zz, locals := 90 } : Room) (PcM D cA lo [.int i0] M) (QvM D cA lo Q) (XcM D cA lo X) Cc Zz (fun q => lo ≤ q) := by
  refine q_startX (cc := cX8_needArgument) (nL := 1) (ret := none) (by decide) rfl rfl (Nat.le_of_ble_eq_true rfl) ?_
  intro p e s m args below meth c C hr hlk hin hex
  unfold T_X8_needArgument at h
  refine q_iload_n C dX8_needArgument_0 rfl (j := 0) rfl ?_
  refine q_if_ne (tgt := 15) C dX8_needArgument_1 (by decide) (fun z => ?_) (fun z => ?_)
  · have h := h.1 z
    exact q_xret (q_vret C hr hlk dX8_needArgument_15 h.1 h.2.1 h.2.2)
  · have h := h.2 z
    exact q_throw (E := "java/lang/IllegalArgumentException") (text := "not a fitting argument") C hl hlk (fun x hx => hex x hx _) (List.mem_of_getElem? (i := 0) rfl) (by decide +kernel) (by decide +kernel) (by decide +kernel) (by decide +kernel) (by decide +kernel) (by decide +kernel) (by decide +kernel) dX8_needArgument_4 dX8_needArgument_7 dX8_needArgument_8 dX8_needArgument_11 dX8_needArgument_14 ⟨Nat.le_of_ble_eq_true rfl, Nat.le_of_ble_eq_true rfl, h.1, h.2.1⟩ h.1 h.2.1 h.2.2
def S_X8_needPlace_28 (K28 : Mm → Nat → Nat → Prop) (Cc Zz : Nat) (Q : Mm → Prop) (X : String → Mm → Prop) (M : Mm)  (cc zz : Nat) : Prop := ∃ dc_9 ds_9 : Nat, (cc + dc_9 ≤ Cc ∧ zz + ds_9 ≤ Zz) ∧ T_X8_needArgument dc_9 ds_9 M 0 (fun M_8 => (cc + dc_9) ≤ Cc ∧ (zz + ds_9) ≤ Zz ∧ Q M_8) X
def T_X8_needPlace (Cc Zz : Nat) (M : Mm) (i0 : Int32) (i1 : Int32) (i2 : Int32) (Q : Mm → Prop) (X : String → Mm → Prop) : Prop := ∀ (K28 : Mm → Nat → Nat → Prop), (∀  (M : Mm) (cc zz : Nat), S_X8_needPlace_28 K28 Cc Zz Q X M  cc zz → K28  M cc zz) → (0 ≤ Cc ∧ 0 ≤ Zz) ∧ T_X8_isInReach M i0.toInt64 (fun r_1 => (r_1 = 0 → K28 M 0 0) ∧ (¬ r_1 = 0 → (0 ≤ Cc ∧ 0 ≤ Zz) ∧ T_X8_isInReach M i1.toInt64 (fun r_2 => (r_2 = 0 → K28 M 0 0) ∧ (¬ r_2 = 0 → (0 ≤ Cc ∧ 0 ≤ Zz) ∧ T_X8_isInReach M i2.toInt64 (fun r_3 => (r_3 = 0 → K28 M 0 0) ∧ (¬ r_3 = 0 → ∃ dc_6 ds_6 : Nat, (0 + dc_6 ≤ Cc ∧ 0 + ds_6 ≤ Zz) ∧ T_X8_needArgument dc_6 ds_6 M 1 (fun M_5 => (0 + dc_6) ≤ Cc ∧ (0 + ds_6) ≤ Zz ∧ Q M_5) X))))))
set_option maxRecDepth 100000 in
set_option maxHeartbeats 4000000 in
theorem b_X8_needPlace_28 {p : Program} {l : Launch} {e : Env} {s : State} {m : MethodId} {args : Array Value} {below : List Frame} {meth : Method} {c : Code} {D : va_G} {cA : Nat → ClassId} {lo : Nat} (C : Cx p s m args c cX8_needPlace 3 RX8 wsX8_needPlace D cA lo) (hr : meth.sig.returnType = none) (hlk : meth.locks = false) (hl : l.stackTraces = false) (hex : ∀ x ∈ c.exceptionTable.toList, ∀ pc, covers x pc = false) {Q : Mm → Prop} {Cc Zz : Nat} {X : String → Mm → Prop} (M : Mm)  (cc zz : Nat) (h : S_X8_needPlace_28 (fun  (M : Mm) (cc zz : Nat) => QW p l e ({ frames := 7, cells := Cc, slots := Zz, locals := 110 } : Room) s m args below meth c (vx_MQ below (QvM D cA lo Q) (XcM D cA lo X) args s Cc Zz (fun q => lo ≤ q)) 3 D cA lo cc zz M 28 [] []) Cc Zz Q X M  cc zz) : QW p l e ({ frames := 7, cells := Cc, slots := Zz, locals := 110 } : Room) s m args below meth c (vx_MQ below (QvM D cA lo Q) (XcM D cA lo X) args s Cc Zz (fun q => lo ≤ q)) 3 D cA lo cc zz M 28 [] [] := by
  unfold S_X8_needPlace_28 at h
  refine q_iconst (v := 0) C dX8_needPlace_28 (by decide) ?_
  obtain ⟨dc_9, ds_9, hcz, h⟩ := h
  refine q_xv (qx_runS (As := [.int 0]) (st := []) C (c_X8_needArgument l hl D cA lo h) (va_cwS 1 C.2.2.2.2.1 gX8_needPlace_X8_needArgument rfl rfl rfl (by decide +kernel) ⟨Nat.le_of_ble_eq_true rfl, Nat.le_of_ble_eq_true rfl⟩) rfl rfl (Nat.le_of_ble_eq_true rfl) dX8_needPlace_29 hcz) (fun E M_x h => ?_) (fun M_8 h => ?_)
  · exact q_xout (fun x hx => hex x hx _) hlk hcz.1 hcz.2 h
  · exact q_xret (q_vret C hr hlk dX8_needPlace_32 h.1 h.2.1 h.2.2)
set_option maxRecDepth 100000 in
set_option maxHeartbeats 4000000 in
theorem c_X8_needPlace (l : Launch) (hl : l.stackTraces = false) (D : va_G) (cA : Nat → ClassId) (lo : Nat) {M : Mm} {i0 : Int32} {i1 : Int32} {i2 : Int32} {Cc Zz : Nat} {Q : Mm → Prop} {X : String → Mm → Prop} (h : T_X8_needPlace Cc Zz M i0 i1 i2 Q X) : vx_Met l yX8_needPlace wsX8_needPlace ({ frames := 7, cells := Cc, slots := Zz, locals := 110 } : Room) (PcM D cA lo [.int i0, .int i1, .int i2] M) (QvM D cA lo Q) (XcM D cA lo X) Cc Zz (fun q => lo ≤ q) := by
  refine q_startX (cc := cX8_needPlace) (nL := 3) (ret := none) (by decide) rfl rfl (Nat.le_of_ble_eq_true rfl) ?_
  intro p e s m args below meth c C hr hlk hin hex
  unfold T_X8_needPlace at h
  have h := h (fun  (M : Mm) (cc zz : Nat) => QW p l e ({ frames := 7, cells := Cc, slots := Zz, locals := 110 } : Room) s m args below meth c (vx_MQ below (QvM D cA lo Q) (XcM D cA lo X) args s Cc Zz (fun q => lo ≤ q)) 3 D cA lo cc zz M 28 [] []) (fun M cc zz h => b_X8_needPlace_28 C hr hlk hl hex M  cc zz h)
  refine q_iload_n C dX8_needPlace_0 rfl (j := 0) rfl ?_
  refine q_i2l C dX8_needPlace_1 ?_
  have hcz := h.1
  have h := h.2
  refine q_ci (q_runS (As := [.long i0.toInt64]) (st := []) C (c_X8_isInReach l D cA lo h) (va_cwS 1 C.2.2.2.2.1 gX8_needPlace_X8_isInReach rfl rfl rfl (by decide +kernel) ⟨Nat.le_of_ble_eq_true rfl, Nat.le_of_ble_eq_true rfl⟩) rfl rfl (Nat.le_of_ble_eq_true rfl) dX8_needPlace_2 ⟨Nat.le_trans (Nat.le_of_eq (Nat.add_zero _)) hcz.1, Nat.le_trans (Nat.le_of_eq (Nat.add_zero _)) hcz.2⟩) (fun r_1 M_z h => ?_)
  refine q_mem h.1 ?_
  have h := h.2
  refine q_if_eq (tgt := 28) C dX8_needPlace_5 (by decide) (fun z => ?_) (fun z => ?_)
  · have h := h.1 z
    exact q_sub [] rfl h
  · have h := h.2 z
    refine q_iload_n C dX8_needPlace_8 rfl (j := 1) rfl ?_
    refine q_i2l C dX8_needPlace_9 ?_
    have hcz := h.1
    have h := h.2
    refine q_ci (q_runS (As := [.long i1.toInt64]) (st := []) C (c_X8_isInReach l D cA lo h) (va_cwS 1 C.2.2.2.2.1 gX8_needPlace_X8_isInReach rfl rfl rfl (by decide +kernel) ⟨Nat.le_of_ble_eq_true rfl, Nat.le_of_ble_eq_true rfl⟩) rfl rfl (Nat.le_of_ble_eq_true rfl) dX8_needPlace_10 ⟨Nat.le_trans (Nat.le_of_eq (Nat.add_zero _)) hcz.1, Nat.le_trans (Nat.le_of_eq (Nat.add_zero _)) hcz.2⟩) (fun r_2 M_z h => ?_)
    refine q_mem h.1 ?_
    have h := h.2
    refine q_if_eq (tgt := 28) C dX8_needPlace_13 (by decide) (fun z => ?_) (fun z => ?_)
    · have h := h.1 z
      exact q_sub [] rfl h
    · have h := h.2 z
      refine q_iload_n C dX8_needPlace_16 rfl (j := 2) rfl ?_
      refine q_i2l C dX8_needPlace_17 ?_
      have hcz := h.1
      have h := h.2
      refine q_ci (q_runS (As := [.long i2.toInt64]) (st := []) C (c_X8_isInReach l D cA lo h) (va_cwS 1 C.2.2.2.2.1 gX8_needPlace_X8_isInReach rfl rfl rfl (by decide +kernel) ⟨Nat.le_of_ble_eq_true rfl, Nat.le_of_ble_eq_true rfl⟩) rfl rfl (Nat.le_of_ble_eq_true rfl) dX8_needPlace_18 ⟨Nat.le_trans (Nat.le_of_eq (Nat.add_zero _)) hcz.1, Nat.le_trans (Nat.le_of_eq (Nat.add_zero _)) hcz.2⟩) (fun r_3 M_z h => ?_)
      refine q_mem h.1 ?_
      have h := h.2
      refine q_if_eq (tgt := 28) C dX8_needPlace_21 (by decide) (fun z => ?_) (fun z => ?_)
      · have h := h.1 z
        exact q_sub [] rfl h
      · have h := h.2 z
        refine q_iconst (v := 1) C dX8_needPlace_24 (by decide) ?_
        refine q_goto (tgt := 29) C dX8_needPlace_25 (by decide) ?_
        obtain ⟨dc_6, ds_6, hcz, h⟩ := h
        refine q_xv (qx_runS (As := [.int 1]) (st := []) C (c_X8_needArgument l hl D cA lo h) (va_cwS 1 C.2.2.2.2.1 gX8_needPlace_X8_needArgument rfl rfl rfl (by decide +kernel) ⟨Nat.le_of_ble_eq_true rfl, Nat.le_of_ble_eq_true rfl⟩) rfl rfl (Nat.le_of_ble_eq_true rfl) dX8_needPlace_29 hcz) (fun E M_x h => ?_) (fun M_5 h => ?_)
        · exact q_xout (fun x hx => hex x hx _) hlk hcz.1 hcz.2 h
        · exact q_xret (q_vret C hr hlk dX8_needPlace_32 h.1 h.2.1 h.2.2)
def T_X8_needState (Cc Zz : Nat) (M : Mm) (i0 : Int32) (Q : Mm → Prop) (X : String → Mm → Prop) : Prop := (¬ i0 = 0 → 0 ≤ Cc ∧ 0 ≤ Zz ∧ Q M) ∧ (i0 = 0 → 0 + 1 ≤ Cc ∧ 0 + 6 ≤ Zz ∧ X "java/lang/IllegalStateException" M)
set_option maxRecDepth 100000 in
set_option maxHeartbeats 4000000 in
theorem c_X8_needState (l : Launch) (hl : l.stackTraces = false) (D : va_G) (cA : Nat → ClassId) (lo : Nat) {M : Mm} {i0 : Int32} {Cc Zz : Nat} {Q : Mm → Prop} {X : String → Mm → Prop} (h : T_X8_needState Cc Zz M i0 Q X) : vx_Met l yX8_needState wsX8_needState ({ frames := 6, cells := Cc, slots := Zz, locals := 90 } : Room) (PcM D cA lo [.int i0] M) (QvM D cA lo Q) (XcM D cA lo X) Cc Zz (fun q => lo ≤ q) := by
  refine q_startX (cc := cX8_needState) (nL := 1) (ret := none) (by decide) rfl rfl (Nat.le_of_ble_eq_true rfl) ?_
  intro p e s m args below meth c C hr hlk hin hex
  unfold T_X8_needState at h
  refine q_iload_n C dX8_needState_0 rfl (j := 0) rfl ?_
  refine q_if_ne (tgt := 15) C dX8_needState_1 (by decide) (fun z => ?_) (fun z => ?_)
  · have h := h.1 z
    exact q_xret (q_vret C hr hlk dX8_needState_15 h.1 h.2.1 h.2.2)
  · have h := h.2 z
    exact q_throw (E := "java/lang/IllegalStateException") (text := "refused") C hl hlk (fun x hx => hex x hx _) (List.mem_of_getElem? (i := 1) rfl) (by decide +kernel) (by decide +kernel) (by decide +kernel) (by decide +kernel) (by decide +kernel) (by decide +kernel) (by decide +kernel) dX8_needState_4 dX8_needState_7 dX8_needState_8 dX8_needState_11 dX8_needState_14 ⟨Nat.le_of_ble_eq_true rfl, Nat.le_of_ble_eq_true rfl, h.1, h.2.1⟩ h.1 h.2.1 h.2.2
def T_X8_point (Cc Zz : Nat) (M : Mm) (a0 : Nat) (i1 : Int32) (i2 : Int32) (i3 : Int32) (Q : Int32 → Mm → Prop) (X : String → Mm → Prop) : Prop := ∃ dc_3 ds_3 : Nat, (0 + dc_3 ≤ Cc ∧ 0 + ds_3 ≤ Zz) ∧ T_X8_needPlace dc_3 ds_3 M i1 i2 i3 (fun M_2 => kM M_2 a0 = (8, 8) ∧ ∃ a_4 : Nat, rM M_2 a0 0 = some a_4 ∧ ((0 + dc_3) ≤ Cc ∧ (0 + ds_3) ≤ Zz) ∧ kM M_2 a_4 = (3, 4) ∧ T_X3_hasRoom M_2 a_4 1 (fun r_5 => ∃ dc_8 ds_8 : Nat, ((0 + dc_3) + dc_8 ≤ Cc ∧ (0 + ds_3) + ds_8 ≤ Zz) ∧ T_X8_needState dc_8 ds_8 M_2 r_5 (fun M_7 => kM M_7 a0 = (8, 8) ∧ ∃ a_9 : Nat, rM M_7 a0 0 = some a_9 ∧ (((0 + dc_3) + dc_8) ≤ Cc ∧ ((0 + ds_3) + ds_8) ≤ Zz) ∧ kM M_7 a_9 = (3, 4) ∧ T_X3_add M_7 a_9 i1 i2 i3 (fun r_10 M_11 => ((0 + dc_3) + dc_8) ≤ Cc ∧ ((0 + ds_3) + ds_8) ≤ Zz ∧ Q r_10 M_11)) X)) X
theorem inX8_point_X8 : ∀ w ∈ wsX80, w ∈ wsX8_point := by decide +kernel
set_option maxRecDepth 100000 in
set_option maxHeartbeats 4000000 in
theorem c_X8_point (l : Launch) (hl : l.stackTraces = false) (D : va_G) (cA : Nat → ClassId) (lo : Nat) {M : Mm} {a0 : Nat} {i1 : Int32} {i2 : Int32} {i3 : Int32} {Cc Zz : Nat} {Q : Int32 → Mm → Prop} {X : String → Mm → Prop} (h : T_X8_point Cc Zz M a0 i1 i2 i3 Q X) : vx_Met l yX8_point wsX8_point ({ frames := 8, cells := Cc, slots := Zz, locals := 132 } : Room) (PcM D cA lo [.ref a0, .int i1, .int i2, .int i3] M) (QiM D cA lo Q) (XcM D cA lo X) Cc Zz (fun q => lo ≤ q) := by
  refine q_startX (cc := cX8_point) (nL := 4) (ret := (some .int)) (by decide) rfl rfl (Nat.le_of_ble_eq_true rfl) ?_
  intro p e s m args below meth c C hr hlk hin hex
  unfold T_X8_point at h
  refine q_iload_n C dX8_point_0 rfl (j := 1) rfl ?_
  refine q_iload_n C dX8_point_1 rfl (j := 2) rfl ?_
  refine q_iload_n C dX8_point_2 rfl (j := 3) rfl ?_
  obtain ⟨dc_3, ds_3, hcz, h⟩ := h
  refine q_xv (qx_runS (As := [.int i1, .int i2, .int i3]) (st := []) C (c_X8_needPlace l hl D cA lo h) (va_cwS 3 C.2.2.2.2.1 gX8_point_X8_needPlace rfl rfl rfl (by decide +kernel) ⟨Nat.le_of_ble_eq_true rfl, Nat.le_of_ble_eq_true rfl⟩) rfl rfl (Nat.le_of_ble_eq_true rfl) dX8_point_3 hcz) (fun E M_x h => ?_) (fun M_2 h => ?_)
  · exact q_xout (fun x hx => hex x hx _) hlk hcz.1 hcz.2 h
  · refine q_aload_n C dX8_point_6 rfl (j := 0) rfl ?_
    refine q_getR (ci := 8) (k0 := 0) (T := TX8) C inX8_point_X8 rfl (by decide) h.1 (by decide) rfl (by decide +kernel) rfl dX8_point_7 ?_
    obtain ⟨a_4, z, h⟩ := h.2
    refine q_ref z ?_
    refine q_iconst (v := 1) C dX8_point_10 (by decide) ?_
    have hcz := h.1
    have h := h.2
    refine q_ci (q_runV (As := [.int 1]) (st := []) C (c_X3_hasRoom l D cA lo h.2) (cwV 1 C.2.2.2.2.1 gX8_point_X3_hasRoom rfl rfl rfl (by decide +kernel) ⟨Nat.le_of_ble_eq_true rfl, Nat.le_of_ble_eq_true rfl⟩) h.1 (by decide) rfl rfl rfl (Nat.le_of_ble_eq_true rfl) dX8_point_11 ⟨Nat.le_trans (Nat.le_of_eq (Nat.add_zero _)) hcz.1, Nat.le_trans (Nat.le_of_eq (Nat.add_zero _)) hcz.2⟩) (fun r_5 M_z h => ?_)
    refine q_mem h.1 ?_
    have h := h.2
    obtain ⟨dc_8, ds_8, hcz, h⟩ := h
    refine q_xv (qx_runS (As := [.int r_5]) (st := []) C (c_X8_needState l hl D cA lo h) (va_cwS 1 C.2.2.2.2.1 gX8_point_X8_needState rfl rfl rfl (by decide +kernel) ⟨Nat.le_of_ble_eq_true rfl, Nat.le_of_ble_eq_true rfl⟩) rfl rfl (Nat.le_of_ble_eq_true rfl) dX8_point_14 hcz) (fun E M_x h => ?_) (fun M_7 h => ?_)
    · exact q_xout (fun x hx => hex x hx _) hlk hcz.1 hcz.2 h
    · refine q_aload_n C dX8_point_17 rfl (j := 0) rfl ?_
      refine q_getR (ci := 8) (k0 := 0) (T := TX8) C inX8_point_X8 rfl (by decide) h.1 (by decide) rfl (by decide +kernel) rfl dX8_point_18 ?_
      obtain ⟨a_9, z, h⟩ := h.2
      refine q_ref z ?_
      refine q_iload_n C dX8_point_21 rfl (j := 1) rfl ?_
      refine q_iload_n C dX8_point_22 rfl (j := 2) rfl ?_
      refine q_iload_n C dX8_point_23 rfl (j := 3) rfl ?_
      have hcz := h.1
      have h := h.2
      refine q_ci (q_runV (As := [.int i1, .int i2, .int i3]) (st := []) C (c_X3_add l D cA lo h.2) (cwV 3 C.2.2.2.2.1 gX8_point_X3_add rfl rfl rfl (by decide +kernel) ⟨Nat.le_of_ble_eq_true rfl, Nat.le_of_ble_eq_true rfl⟩) h.1 (by decide) rfl rfl rfl (Nat.le_of_ble_eq_true rfl) dX8_point_24 ⟨Nat.le_trans (Nat.le_of_eq (Nat.add_zero _)) hcz.1, Nat.le_trans (Nat.le_of_eq (Nat.add_zero _)) hcz.2⟩) (fun r_10 M_11 h => ?_)
      exact q_xret (q_iret C hr hlk dX8_point_27 h.1 h.2.1 h.2.2)
