def T_X5_init (Cc Zz : Nat) (M : Mm) (a0 : Nat) (Q : Mm → Prop) : Prop := 0 + 1 ≤ Cc ∧ 0 + 12 ≤ Zz ∧ ∀ q_1 : Nat, frs M q_1 → kM (wN M q_1 100 12) a0 = (5, 2) ∧ (0 + 1) ≤ Cc ∧ (0 + 12) ≤ Zz ∧ Q (wR (wN M q_1 100 12) a0 0 (some q_1))
theorem inX5_init_X5 : ∀ w ∈ wsX50, w ∈ wsX5_init := by decide +kernel
set_option maxRecDepth 100000 in
set_option maxHeartbeats 4000000 in
theorem c_X5_init (l : Launch) (D : va_G) (cA : Nat → ClassId) (lo : Nat) {M : Mm} {a0 : Nat} {Cc Zz : Nat} {Q : Mm → Prop} (h : T_X5_init Cc Zz M a0 Q) : Met l yX5_init wsX5_init ({ frames := 1, cells := Cc, slots := Zz, locals := 20 } : Room) (PcM D cA lo [.ref a0] M) (QvM D cA lo Q) Cc Zz (fun q => lo ≤ q) := by
  refine q_start (cc := cX5_init) (nL := 1) (ret := none) (by decide) rfl rfl (Nat.le_of_ble_eq_true rfl) ?_
  intro p e s m args below meth c C hr hlk hin
  unfold T_X5_init at h
  refine q_aload_n C dX5_init_0 rfl (j := 0) rfl ?_
  refine q_objInit C (by decide +kernel) (by decide +kernel) (by decide +kernel) dX5_init_1 ⟨Nat.le_of_ble_eq_true rfl, Nat.le_of_ble_eq_true rfl⟩ ?_
  refine q_aload_n C dX5_init_4 rfl (j := 0) rfl ?_
  refine q_bipush (v := 12) C dX5_init_5 (by decide) ?_
  refine q_newI (N := 12) C (by decide +kernel) (by decide) (by decide) (by decide) ⟨h.1, h.2.1⟩ dX5_init_7 (fun q_1 hq _ => ?_)
  have h := h.2.2 q_1 hq
  refine q_putFR (ci := 5) (k0 := 0) (T := TX5) (v := (some q_1)) (ty := .array .int) C inX5_init_X5 tyX5 tyX5_ok nmX5 rfl (by decide) h.1 (by decide) rfl (by decide +kernel) rfl hin rfl (by decide +kernel) rfl rfl rfl dX5_init_9 ?_
  have h := h.2
  exact q_vret C hr hlk dX5_init_12 h.1 h.2.1 h.2.2
def T_X0_init (Cc Zz : Nat) (M : Mm) (a0 : Nat) (a1 : Nat) (a2 : Nat) (Q : Mm → Prop) : Prop := 0 + 1 ≤ Cc ∧ 0 + 2 ≤ Zz ∧ ∀ q_1 : Nat, frs M q_1 → ∃ dc_4 ds_4 : Nat, ((0 + 1) + dc_4 ≤ Cc ∧ (0 + 2) + ds_4 ≤ Zz) ∧ T_X5_init dc_4 ds_4 (wN M q_1 5 2) q_1 (fun M_3 => kM M_3 a0 = (0, 3) ∧ kM (wR M_3 a0 2 (some q_1)) a0 = (0, 3) ∧ kM (wR (wR M_3 a0 2 (some q_1)) a0 0 (some a1)) a0 = (0, 3) ∧ ((0 + 1) + dc_4) ≤ Cc ∧ ((0 + 2) + ds_4) ≤ Zz ∧ Q (wR (wR (wR M_3 a0 2 (some q_1)) a0 0 (some a1)) a0 1 (some a2)))
theorem inX0_init_X0 : ∀ w ∈ wsX00, w ∈ wsX0_init := by decide +kernel
theorem inX0_init_X5 : ∀ w ∈ wsX50, w ∈ wsX0_init := by decide +kernel
set_option maxRecDepth 100000 in
set_option maxHeartbeats 4000000 in
theorem c_X0_init (l : Launch) (D : va_G) (cA : Nat → ClassId) (lo : Nat) {M : Mm} {a0 : Nat} {a1 : Nat} {a2 : Nat} {Cc Zz : Nat} {Q : Mm → Prop} (h : T_X0_init Cc Zz M a0 a1 a2 Q) : Met l yX0_init wsX0_init ({ frames := 2, cells := Cc, slots := Zz, locals := 40 } : Room) (PcM D cA lo [.ref a0, .ref a1, .ref a2] M) (QvM D cA lo Q) Cc Zz (fun q => lo ≤ q) := by
  refine q_start (cc := cX0_init) (nL := 3) (ret := none) (by decide) rfl rfl (Nat.le_of_ble_eq_true rfl) ?_
  intro p e s m args below meth c C hr hlk hin
  unfold T_X0_init at h
  refine q_aload_n C dX0_init_0 rfl (j := 0) rfl ?_
  refine q_objInit C (by decide +kernel) (by decide +kernel) (by decide +kernel) dX0_init_1 ⟨Nat.le_of_ble_eq_true rfl, Nat.le_of_ble_eq_true rfl⟩ ?_
  refine q_aload_n C dX0_init_4 rfl (j := 0) rfl ?_
  refine q_new (ci := 5) (T := TX5) C inX0_init_X5 tyX5 tyX5_ok (by decide +kernel) (by decide +kernel) (by decide +kernel) rfl (by decide) (by decide +kernel) ⟨h.1, h.2.1⟩ dX0_init_5 (fun q_1 hq _ => ?_)
  have h := h.2.2 q_1 hq
  refine q_dup C dX0_init_8 rfl ?_
  obtain ⟨dc_4, ds_4, hcz, h⟩ := h
  refine q_cv (q_runIN (As := []) (st := [.ref q_1, .ref a0]) C (c_X5_init l D cA lo h) ⟨va_cnB (host := "QuarryMesh") 0 C.2.2.2.2.1 gX0_init_X5_init_n11 rfl rfl rfl (C.2.2.2.2.2.2.2.1 (RX0, 11, yX5_init, "QuarryMesh") (List.mem_of_getElem? (i := 3) rfl)) (C.2.2.2.2.1 _ (by decide +kernel)) (by decide +kernel) ⟨Nat.le_of_ble_eq_true rfl, Nat.le_of_ble_eq_true rfl⟩, rfl, C.2.2.2.2.1 _ (by decide +kernel)⟩ rfl rfl (Nat.le_of_ble_eq_true rfl) dX0_init_9 hcz) (fun M_3 h => ?_)
  refine q_putFR (ci := 0) (k0 := 2) (T := TX0) (v := (some q_1)) (ty := .object "QuarryMesh$Ring") C inX0_init_X0 tyX0 tyX0_ok nmX0 rfl (by decide) h.1 (by decide) rfl (by decide +kernel) rfl hin rfl (by decide +kernel) rfl rfl rfl dX0_init_12 ?_
  have h := h.2
  refine q_aload_n C dX0_init_15 rfl (j := 0) rfl ?_
  refine q_aload_n C dX0_init_16 rfl (j := 1) rfl ?_
  refine q_putFR (ci := 0) (k0 := 0) (T := TX0) (v := (some a1)) (ty := .object "QuarryMesh$Faces") C inX0_init_X0 tyX0 tyX0_ok nmX0 rfl (by decide) h.1 (by decide) rfl (by decide +kernel) rfl hin rfl (by decide +kernel) rfl rfl rfl dX0_init_17 ?_
  have h := h.2
  refine q_aload_n C dX0_init_20 rfl (j := 0) rfl ?_
  refine q_aload_n C dX0_init_21 rfl (j := 2) rfl ?_
  refine q_putFR (ci := 0) (k0 := 1) (T := TX0) (v := (some a2)) (ty := .object "QuarryMesh$HalfMarks") C inX0_init_X0 tyX0 tyX0_ok nmX0 rfl (by decide) h.1 (by decide) rfl (by decide +kernel) rfl hin rfl (by decide +kernel) rfl rfl rfl dX0_init_22 ?_
  have h := h.2
  exact q_vret C hr hlk dX0_init_25 h.1 h.2.1 h.2.2
def T_X1_ring (M : Mm) (a0 : Nat) (i1 : Int32) (Q : Nat → Prop) : Prop := (i1 < 0 → kM M a0 = (1, 5) ∧ ∃ a_1 : Nat, rM M a0 1 = some a_1 ∧ Q a_1) ∧ (¬ i1 < 0 → (160 ≤ i1 → kM M a0 = (1, 5) ∧ ∃ a_2 : Nat, rM M a0 1 = some a_2 ∧ Q a_2) ∧ (¬ 160 ≤ i1 → kM M a0 = (1, 5) ∧ ∃ a_3 : Nat, rM M a0 0 = some a_3 ∧ ∃ n_4 : Nat, kM M a_3 = (120, n_4) ∧ vp_in i1 n_4 ∧ ∃ a_5 : Nat, rM M a_3 i1.toNatClampNeg = some a_5 ∧ Q a_5))
theorem inX1_ring_X1 : ∀ w ∈ wsX10, w ∈ wsX1_ring := by decide +kernel
set_option maxRecDepth 100000 in
set_option maxHeartbeats 4000000 in
theorem c_X1_ring (l : Launch) (D : va_G) (cA : Nat → ClassId) (lo : Nat) {M : Mm} {a0 : Nat} {i1 : Int32} {Q : Nat → Prop} (h : T_X1_ring M a0 i1 Q) : Met l yX1_ring wsX1_ring ({ frames := 0, cells := 0, slots := 0, locals := 0 } : Room) (PcM D cA lo [.ref a0, .int i1] M) (QrM D cA lo (fun r M1 => M1 = M ∧ Q r)) 0 0 (fun q => lo ≤ q) := by
  refine q_start (cc := cX1_ring) (nL := 2) (ret := (some (.object "QuarryMesh$Ring"))) (by decide) rfl rfl (Nat.le_of_ble_eq_true rfl) ?_
  intro p e s m args below meth c C hr hlk hin
  unfold T_X1_ring at h
  refine q_iload_n C dX1_ring_0 rfl (j := 1) rfl ?_
  refine q_if_lt (tgt := 20) C dX1_ring_1 (by decide) (fun z => ?_) (fun z => ?_)
  · have h := h.1 z
    refine q_aload_n C dX1_ring_20 rfl (j := 0) rfl ?_
    refine q_getR (ci := 1) (k0 := 1) (T := TX1) C inX1_ring_X1 rfl (by decide) h.1 (by decide) rfl (by decide +kernel) rfl dX1_ring_21 ?_
    obtain ⟨a_1, z, h⟩ := h.2
    refine q_ref z ?_
    exact q_aret C hr (by first | exact Or.inl ⟨_, rfl⟩ | exact Or.inr ⟨_, rfl⟩) hlk dX1_ring_24 (Nat.le_of_ble_eq_true rfl) (Nat.le_of_ble_eq_true rfl) ⟨rfl, h⟩
  · have h := h.2 z
    refine q_iload_n C dX1_ring_4 rfl (j := 1) rfl ?_
    refine q_sipush (v := 160) C dX1_ring_5 (by decide) ?_
    refine q_icmp_ge (tgt := 20) C dX1_ring_8 (by decide) (fun z => ?_) (fun z => ?_)
    · have h := h.1 z
      refine q_aload_n C dX1_ring_20 rfl (j := 0) rfl ?_
      refine q_getR (ci := 1) (k0 := 1) (T := TX1) C inX1_ring_X1 rfl (by decide) h.1 (by decide) rfl (by decide +kernel) rfl dX1_ring_21 ?_
      obtain ⟨a_2, z, h⟩ := h.2
      refine q_ref z ?_
      exact q_aret C hr (by first | exact Or.inl ⟨_, rfl⟩ | exact Or.inr ⟨_, rfl⟩) hlk dX1_ring_24 (Nat.le_of_ble_eq_true rfl) (Nat.le_of_ble_eq_true rfl) ⟨rfl, h⟩
    · have h := h.2 z
      refine q_aload_n C dX1_ring_11 rfl (j := 0) rfl ?_
      refine q_getR (ci := 1) (k0 := 0) (T := TX1) C inX1_ring_X1 rfl (by decide) h.1 (by decide) rfl (by decide +kernel) rfl dX1_ring_12 ?_
      obtain ⟨a_3, z, h⟩ := h.2
      refine q_ref z ?_
      refine q_iload_n C dX1_ring_15 rfl (j := 1) rfl ?_
      obtain ⟨n_4, z1, z2, h⟩ := h
      refine q_rald C z1 z2 dX1_ring_16 ?_
      obtain ⟨a_5, z, h⟩ := h
      refine q_ref z ?_
      refine q_goto (tgt := 24) C dX1_ring_17 (by decide) ?_
      exact q_aret C hr (by first | exact Or.inl ⟨_, rfl⟩ | exact Or.inr ⟨_, rfl⟩) hlk dX1_ring_24 (Nat.le_of_ble_eq_true rfl) (Nat.le_of_ble_eq_true rfl) ⟨rfl, h⟩
def S_X5_placeOf_2 (K2 : Nat → Int32 → Int32 → Prop) (Q : Int32 → Prop) (M : Mm) (a0 : Nat) (i1 : Int32) (i2 : Int32) : Prop := kM M a0 = (5, 2) ∧ ((iM M a0 1) ≤ i2 → Q (-1)) ∧ (¬ (iM M a0 1) ≤ i2 → kM M a0 = (5, 2) ∧ ∃ a_1 : Nat, rM M a0 0 = some a_1 ∧ ∃ n_2 : Nat, kM M a_1 = (100, n_2) ∧ vp_in i2 n_2 ∧ (¬ (iM M a_1 i2.toNatClampNeg) = i1 → K2 a0 i1 (i2 + 1)) ∧ ((iM M a_1 i2.toNatClampNeg) = i1 → Q i2))
def T_X5_placeOf (M : Mm) (a0 : Nat) (i1 : Int32) (Q : Int32 → Prop) : Prop := ∀ (K2 : Nat → Int32 → Int32 → Prop), (∀ (a0 : Nat) (i1 : Int32) (i2 : Int32), S_X5_placeOf_2 K2 Q M a0 i1 i2 → K2 a0 i1 i2) → K2 a0 i1 0
theorem inX5_placeOf_X5 : ∀ w ∈ wsX50, w ∈ wsX5_placeOf := by decide +kernel
set_option maxRecDepth 100000 in
set_option maxHeartbeats 4000000 in
theorem b_X5_placeOf_2 {p : Program} {l : Launch} {e : Env} {s : State} {m : MethodId} {args : Array Value} {below : List Frame} {meth : Method} {c : Code} {D : va_G} {cA : Nat → ClassId} {lo : Nat} (C : Cx p s m args c cX5_placeOf 3 RX5 wsX5_placeOf D cA lo) (hr : meth.sig.returnType = (some .int)) (hlk : meth.locks = false) {Q : Int32 → Prop} {M : Mm} (a0 : Nat) (i1 : Int32) (i2 : Int32) (h : S_X5_placeOf_2 (fun (a0 : Nat) (i1 : Int32) (i2 : Int32) => QW p l e ({ frames := 0, cells := 0, slots := 0, locals := 0 } : Room) s m args below meth c (MQ below (QiM D cA lo (fun r M1 => M1 = M ∧ Q r)) args s 0 0 (fun q => lo ≤ q)) 3 D cA lo 0 0 M 2 [(0, .ref a0), (1, .int i1), (2, .int i2)] []) Q M a0 i1 i2) : QW p l e ({ frames := 0, cells := 0, slots := 0, locals := 0 } : Room) s m args below meth c (MQ below (QiM D cA lo (fun r M1 => M1 = M ∧ Q r)) args s 0 0 (fun q => lo ≤ q)) 3 D cA lo 0 0 M 2 [(0, .ref a0), (1, .int i1), (2, .int i2)] [] := by
  unfold S_X5_placeOf_2 at h
  refine q_iload_n C dX5_placeOf_2 rfl (j := 2) rfl ?_
  refine q_aload_n C dX5_placeOf_3 rfl (j := 0) rfl ?_
  refine q_getI (ci := 5) (k0 := 1) (T := TX5) C inX5_placeOf_X5 rfl (by decide) h.1 (by decide) rfl (by decide +kernel) rfl dX5_placeOf_4 ?_
  have h := h.2
  refine q_icmp_ge (tgt := 28) C dX5_placeOf_7 (by decide) (fun z => ?_) (fun z => ?_)
  · have h := h.1 z
    refine q_iconst (v := (-1)) C dX5_placeOf_28 (by decide) ?_
    exact q_iret C hr hlk dX5_placeOf_29 (Nat.le_of_ble_eq_true rfl) (Nat.le_of_ble_eq_true rfl) ⟨rfl, h⟩
  · have h := h.2 z
    refine q_aload_n C dX5_placeOf_10 rfl (j := 0) rfl ?_
    refine q_getR (ci := 5) (k0 := 0) (T := TX5) C inX5_placeOf_X5 rfl (by decide) h.1 (by decide) rfl (by decide +kernel) rfl dX5_placeOf_11 ?_
    obtain ⟨a_1, z, h⟩ := h.2
    refine q_ref z ?_
    refine q_iload_n C dX5_placeOf_14 rfl (j := 2) rfl ?_
    obtain ⟨n_2, z1, z2, h⟩ := h
    refine q_iald C z1 z2 dX5_placeOf_15 ?_
    refine q_iload_n C dX5_placeOf_16 rfl (j := 1) rfl ?_
    refine q_icmp_ne (tgt := 22) C dX5_placeOf_17 (by decide) (fun z => ?_) (fun z => ?_)
    · have h := h.1 z
      refine q_iinc (v := (i2 + 1)) (lv' := [(2, .int (i2 + 1)), (0, .ref a0), (1, .int i1)]) C dX5_placeOf_22 (j := 2) rfl rfl (by decide) rfl ?_
      refine q_goto (tgt := 2) C dX5_placeOf_25 (by decide) ?_
      exact q_sub [1, 2, 0] rfl h
    · have h := h.2 z
      refine q_iload_n C dX5_placeOf_20 rfl (j := 2) rfl ?_
      exact q_iret C hr hlk dX5_placeOf_21 (Nat.le_of_ble_eq_true rfl) (Nat.le_of_ble_eq_true rfl) ⟨rfl, h⟩
set_option maxRecDepth 100000 in
set_option maxHeartbeats 4000000 in
theorem c_X5_placeOf (l : Launch) (D : va_G) (cA : Nat → ClassId) (lo : Nat) {M : Mm} {a0 : Nat} {i1 : Int32} {Q : Int32 → Prop} (h : T_X5_placeOf M a0 i1 Q) : Met l yX5_placeOf wsX5_placeOf ({ frames := 0, cells := 0, slots := 0, locals := 0 } : Room) (PcM D cA lo [.ref a0, .int i1] M) (QiM D cA lo (fun r M1 => M1 = M ∧ Q r)) 0 0 (fun q => lo ≤ q) := by
  refine q_start (cc := cX5_placeOf) (nL := 3) (ret := (some .int)) (by decide) rfl rfl (Nat.le_of_ble_eq_true rfl) ?_
  intro p e s m args below meth c C hr hlk hin
  unfold T_X5_placeOf at h
  have h := h (fun (a0 : Nat) (i1 : Int32) (i2 : Int32) => QW p l e ({ frames := 0, cells := 0, slots := 0, locals := 0 } : Room) s m args below meth c (MQ below (QiM D cA lo (fun r M1 => M1 = M ∧ Q r)) args s 0 0 (fun q => lo ≤ q)) 3 D cA lo 0 0 M 2 [(0, .ref a0), (1, .int i1), (2, .int i2)] []) (fun a0 i1 i2 h => b_X5_placeOf_2 C hr hlk a0 i1 i2 h)
  refine q_iconst (v := 0) C dX5_placeOf_0 (by decide) ?_
  refine q_istore_n (lv' := [(2, .int 0), (0, .ref a0), (1, .int i1)]) C dX5_placeOf_1 rfl (by decide) rfl ?_
  exact q_sub [1, 2, 0] rfl h
def T_X5_clear (M : Mm) (a0 : Nat) (Q : Mm → Prop) : Prop := kM M a0 = (5, 2) ∧ Q (wI M a0 1 0)
theorem inX5_clear_X5 : ∀ w ∈ wsX50, w ∈ wsX5_clear := by decide +kernel
set_option maxRecDepth 100000 in
set_option maxHeartbeats 4000000 in
theorem c_X5_clear (l : Launch) (D : va_G) (cA : Nat → ClassId) (lo : Nat) {M : Mm} {a0 : Nat} {Q : Mm → Prop} (h : T_X5_clear M a0 Q) : Met l yX5_clear wsX5_clear ({ frames := 0, cells := 0, slots := 0, locals := 0 } : Room) (PcM D cA lo [.ref a0] M) (QvM D cA lo Q) 0 0 (fun q => lo ≤ q) := by
  refine q_start (cc := cX5_clear) (nL := 1) (ret := none) (by decide) rfl rfl (Nat.le_of_ble_eq_true rfl) ?_
  intro p e s m args below meth c C hr hlk hin
  unfold T_X5_clear at h
  refine q_aload_n C dX5_clear_0 rfl (j := 0) rfl ?_
  refine q_iconst (v := 0) C dX5_clear_1 (by decide) ?_
  refine q_putI (ci := 5) (k0 := 1) (T := TX5) (v := 0) (ty := .int) C inX5_clear_X5 tyX5 tyX5_ok nmX5 rfl (by decide) h.1 (by decide) rfl (by decide +kernel) rfl (by decide +kernel) rfl rfl rfl dX5_clear_2 ?_
  have h := h.2
  exact q_vret C hr hlk dX5_clear_5 (Nat.le_of_ble_eq_true rfl) (Nat.le_of_ble_eq_true rfl) h
def T_X5_length (M : Mm) (a0 : Nat) (Q : Int32 → Prop) : Prop := kM M a0 = (5, 2) ∧ Q (iM M a0 1)
theorem inX5_length_X5 : ∀ w ∈ wsX50, w ∈ wsX5_length := by decide +kernel
set_option maxRecDepth 100000 in
set_option maxHeartbeats 4000000 in
theorem c_X5_length (l : Launch) (D : va_G) (cA : Nat → ClassId) (lo : Nat) {M : Mm} {a0 : Nat} {Q : Int32 → Prop} (h : T_X5_length M a0 Q) : Met l yX5_length wsX5_length ({ frames := 0, cells := 0, slots := 0, locals := 0 } : Room) (PcM D cA lo [.ref a0] M) (QiM D cA lo (fun r M1 => M1 = M ∧ Q r)) 0 0 (fun q => lo ≤ q) := by
  refine q_start (cc := cX5_length) (nL := 1) (ret := (some .int)) (by decide) rfl rfl (Nat.le_of_ble_eq_true rfl) ?_
  intro p e s m args below meth c C hr hlk hin
  unfold T_X5_length at h
  refine q_aload_n C dX5_length_0 rfl (j := 0) rfl ?_
  refine q_getI (ci := 5) (k0 := 1) (T := TX5) C inX5_length_X5 rfl (by decide) h.1 (by decide) rfl (by decide +kernel) rfl dX5_length_1 ?_
  have h := h.2
  exact q_iret C hr hlk dX5_length_4 (Nat.le_of_ble_eq_true rfl) (Nat.le_of_ble_eq_true rfl) ⟨rfl, h⟩
def T_X5_get (M : Mm) (a0 : Nat) (i1 : Int32) (Q : Int32 → Prop) : Prop := kM M a0 = (5, 2) ∧ (0 < (iM M a0 1) → kM M a0 = (5, 2) ∧ (¬ (iM M a0 1) = 0) ∧ kM M a0 = (5, 2) ∧ ∃ a_1 : Nat, rM M a0 0 = some a_1 ∧ (0 ≤ (i1 - i1 / (iM M a0 1) * (iM M a0 1)) → ∃ n_2 : Nat, kM M a_1 = (100, n_2) ∧ vp_in (i1 - i1 / (iM M a0 1) * (iM M a0 1)) n_2 ∧ Q (iM M a_1 (i1 - i1 / (iM M a0 1) * (iM M a0 1)).toNatClampNeg)) ∧ (¬ 0 ≤ (i1 - i1 / (iM M a0 1) * (iM M a0 1)) → kM M a0 = (5, 2) ∧ ∃ n_3 : Nat, kM M a_1 = (100, n_3) ∧ vp_in ((i1 - i1 / (iM M a0 1) * (iM M a0 1)) + (iM M a0 1)) n_3 ∧ Q (iM M a_1 ((i1 - i1 / (iM M a0 1) * (iM M a0 1)) + (iM M a0 1)).toNatClampNeg))) ∧ (¬ 0 < (iM M a0 1) → Q (-1))
theorem inX5_get_X5 : ∀ w ∈ wsX50, w ∈ wsX5_get := by decide +kernel
set_option maxRecDepth 100000 in
set_option maxHeartbeats 4000000 in
theorem c_X5_get (l : Launch) (D : va_G) (cA : Nat → ClassId) (lo : Nat) {M : Mm} {a0 : Nat} {i1 : Int32} {Q : Int32 → Prop} (h : T_X5_get M a0 i1 Q) : Met l yX5_get wsX5_get ({ frames := 0, cells := 0, slots := 0, locals := 0 } : Room) (PcM D cA lo [.ref a0, .int i1] M) (QiM D cA lo (fun r M1 => M1 = M ∧ Q r)) 0 0 (fun q => lo ≤ q) := by
  refine q_start (cc := cX5_get) (nL := 3) (ret := (some .int)) (by decide) rfl rfl (Nat.le_of_ble_eq_true rfl) ?_
  intro p e s m args below meth c C hr hlk hin
  unfold T_X5_get at h
  refine q_aload_n C dX5_get_0 rfl (j := 0) rfl ?_
  refine q_getI (ci := 5) (k0 := 1) (T := TX5) C inX5_get_X5 rfl (by decide) h.1 (by decide) rfl (by decide +kernel) rfl dX5_get_1 ?_
  have h := h.2
  refine q_if_gt (tgt := 9) C dX5_get_4 (by decide) (fun z => ?_) (fun z => ?_)
  · have h := h.1 z
    refine q_iload_n C dX5_get_9 rfl (j := 1) rfl ?_
    refine q_aload_n C dX5_get_10 rfl (j := 0) rfl ?_
    refine q_getI (ci := 5) (k0 := 1) (T := TX5) C inX5_get_X5 rfl (by decide) h.1 (by decide) rfl (by decide +kernel) rfl dX5_get_11 ?_
    have h := h.2
    refine q_irem C dX5_get_14 h.1 ?_
    have h := h.2
    refine q_istore_n (lv' := [(2, .int (i1 - i1 / (iM M a0 1) * (iM M a0 1))), (0, .ref a0), (1, .int i1)]) C dX5_get_15 rfl (by decide) rfl ?_
    refine q_aload_n C dX5_get_16 rfl (j := 1) rfl ?_
    refine q_getR (ci := 5) (k0 := 0) (T := TX5) C inX5_get_X5 rfl (by decide) h.1 (by decide) rfl (by decide +kernel) rfl dX5_get_17 ?_
    obtain ⟨a_1, z, h⟩ := h.2
    refine q_ref z ?_
    refine q_iload_n C dX5_get_20 rfl (j := 0) rfl ?_
    refine q_if_ge (tgt := 33) C dX5_get_21 (by decide) (fun z => ?_) (fun z => ?_)
    · have h := h.1 z
      refine q_iload_n C dX5_get_33 rfl (j := 0) rfl ?_
      obtain ⟨n_2, z1, z2, h⟩ := h
      refine q_iald C z1 z2 dX5_get_34 ?_
      exact q_iret C hr hlk dX5_get_35 (Nat.le_of_ble_eq_true rfl) (Nat.le_of_ble_eq_true rfl) ⟨rfl, h⟩
    · have h := h.2 z
      refine q_iload_n C dX5_get_24 rfl (j := 0) rfl ?_
      refine q_aload_n C dX5_get_25 rfl (j := 1) rfl ?_
      refine q_getI (ci := 5) (k0 := 1) (T := TX5) C inX5_get_X5 rfl (by decide) h.1 (by decide) rfl (by decide +kernel) rfl dX5_get_26 ?_
      have h := h.2
      refine q_iadd C dX5_get_29 ?_
      refine q_goto (tgt := 34) C dX5_get_30 (by decide) ?_
      obtain ⟨n_3, z1, z2, h⟩ := h
      refine q_iald C z1 z2 dX5_get_34 ?_
      exact q_iret C hr hlk dX5_get_35 (Nat.le_of_ble_eq_true rfl) (Nat.le_of_ble_eq_true rfl) ⟨rfl, h⟩
  · have h := h.2 z
    refine q_iconst (v := (-1)) C dX5_get_7 (by decide) ?_
    exact q_iret C hr hlk dX5_get_8 (Nat.le_of_ble_eq_true rfl) (Nat.le_of_ble_eq_true rfl) ⟨rfl, h⟩
def T_X5_add (M : Mm) (a0 : Nat) (i1 : Int32) (Q : Mm → Prop) : Prop := kM M a0 = (5, 2) ∧ (12 ≤ (iM M a0 1) → Q M) ∧ (¬ 12 ≤ (iM M a0 1) → kM M a0 = (5, 2) ∧ ∃ a_1 : Nat, rM M a0 0 = some a_1 ∧ kM M a0 = (5, 2) ∧ ∃ n_2 : Nat, kM M a_1 = (100, n_2) ∧ vp_in (iM M a0 1) n_2 ∧ kM (wI M a_1 (iM M a0 1).toNatClampNeg i1) a0 = (5, 2) ∧ kM (wI M a_1 (iM M a0 1).toNatClampNeg i1) a0 = (5, 2) ∧ Q (wI (wI M a_1 (iM M a0 1).toNatClampNeg i1) a0 1 ((iM (wI M a_1 (iM M a0 1).toNatClampNeg i1) a0 1) + 1)))
theorem inX5_add_X5 : ∀ w ∈ wsX50, w ∈ wsX5_add := by decide +kernel
set_option maxRecDepth 100000 in
set_option maxHeartbeats 4000000 in
theorem c_X5_add (l : Launch) (D : va_G) (cA : Nat → ClassId) (lo : Nat) {M : Mm} {a0 : Nat} {i1 : Int32} {Q : Mm → Prop} (h : T_X5_add M a0 i1 Q) : Met l yX5_add wsX5_add ({ frames := 0, cells := 0, slots := 0, locals := 0 } : Room) (PcM D cA lo [.ref a0, .int i1] M) (QvM D cA lo Q) 0 0 (fun q => lo ≤ q) := by
  refine q_start (cc := cX5_add) (nL := 2) (ret := none) (by decide) rfl rfl (Nat.le_of_ble_eq_true rfl) ?_
  intro p e s m args below meth c C hr hlk hin
  unfold T_X5_add at h
  refine q_aload_n C dX5_add_0 rfl (j := 0) rfl ?_
  refine q_getI (ci := 5) (k0 := 1) (T := TX5) C inX5_add_X5 rfl (by decide) h.1 (by decide) rfl (by decide +kernel) rfl dX5_add_1 ?_
  have h := h.2
  refine q_bipush (v := 12) C dX5_add_4 (by decide) ?_
  refine q_icmp_ge (tgt := 29) C dX5_add_6 (by decide) (fun z => ?_) (fun z => ?_)
  · have h := h.1 z
    exact q_vret C hr hlk dX5_add_29 (Nat.le_of_ble_eq_true rfl) (Nat.le_of_ble_eq_true rfl) h
  · have h := h.2 z
    refine q_aload_n C dX5_add_9 rfl (j := 0) rfl ?_
    refine q_getR (ci := 5) (k0 := 0) (T := TX5) C inX5_add_X5 rfl (by decide) h.1 (by decide) rfl (by decide +kernel) rfl dX5_add_10 ?_
    obtain ⟨a_1, z, h⟩ := h.2
    refine q_ref z ?_
    refine q_aload_n C dX5_add_13 rfl (j := 0) rfl ?_
    refine q_getI (ci := 5) (k0 := 1) (T := TX5) C inX5_add_X5 rfl (by decide) h.1 (by decide) rfl (by decide +kernel) rfl dX5_add_14 ?_
    have h := h.2
    refine q_iload_n C dX5_add_17 rfl (j := 1) rfl ?_
    obtain ⟨n_2, z1, z2, h⟩ := h
    refine q_iast C z1 z2 dX5_add_18 ?_
    refine q_aload_n C dX5_add_19 rfl (j := 0) rfl ?_
    refine q_dup C dX5_add_20 rfl ?_
    refine q_getI (ci := 5) (k0 := 1) (T := TX5) C inX5_add_X5 rfl (by decide) h.1 (by decide) rfl (by decide +kernel) rfl dX5_add_21 ?_
    have h := h.2
    refine q_iconst (v := 1) C dX5_add_24 (by decide) ?_
    refine q_iadd C dX5_add_25 ?_
    refine q_putI (ci := 5) (k0 := 1) (T := TX5) (v := ((iM (wI M a_1 (iM M a0 1).toNatClampNeg i1) a0 1) + 1)) (ty := .int) C inX5_add_X5 tyX5 tyX5_ok nmX5 rfl (by decide) h.1 (by decide) rfl (by decide +kernel) rfl (by decide +kernel) rfl rfl rfl dX5_add_26 ?_
    have h := h.2
    exact q_vret C hr hlk dX5_add_29 (Nat.le_of_ble_eq_true rfl) (Nat.le_of_ble_eq_true rfl) h
def S_X0_shape_25 (K25 : Nat → Int32 → Int32 → Nat → Int32 → Mm → Prop) (K37 : Nat → Int32 → Int32 → Nat → Int32 → Int32 → Mm → Prop) (Q : Nat → Mm → Prop) (M : Mm) (a0 : Nat) (i2 : Int32) (i3 : Int32) (a4 : Nat) (is0 : Int32) : Prop := kM M a0 = (0, 3) ∧ ∃ a_4 : Nat, rM M a0 2 = some a_4 ∧ kM M a_4 = (5, 2) ∧ T_X5_clear M a_4 (fun M_6 => K37 a0 i2 i3 a4 is0 0 M_6)
def S_X0_shape_37 (K25 : Nat → Int32 → Int32 → Nat → Int32 → Mm → Prop) (K37 : Nat → Int32 → Int32 → Nat → Int32 → Int32 → Mm → Prop) (Q : Nat → Mm → Prop) (M : Mm) (a0 : Nat) (i2 : Int32) (i3 : Int32) (a4 : Nat) (i5 : Int32) (i6 : Int32) : Prop := kM M a4 = (5, 2) ∧ T_X5_length M a4 (fun r_7 => (r_7 ≤ i6 → kM M a0 = (0, 3) ∧ ∃ a_8 : Nat, rM M a0 2 = some a_8 ∧ Q a_8 M) ∧ (¬ r_7 ≤ i6 → kM M a4 = (5, 2) ∧ T_X5_get M a4 i6 (fun r_9 => (r_9 = i3 → (i5 = 0 → K37 a0 i2 i3 a4 i5 (i6 + 1) M) ∧ (¬ i5 = 0 → kM M a0 = (0, 3) ∧ ∃ a_10 : Nat, rM M a0 2 = some a_10 ∧ kM M a_10 = (5, 2) ∧ T_X5_add M a_10 i2 (fun M_12 => K37 a0 i2 i3 a4 i5 (i6 + 1) M_12))) ∧ (¬ r_9 = i3 → kM M a0 = (0, 3) ∧ ∃ a_13 : Nat, rM M a0 2 = some a_13 ∧ kM M a_13 = (5, 2) ∧ T_X5_add M a_13 r_9 (fun M_15 => K37 a0 i2 i3 a4 i5 (i6 + 1) M_15)))))
def T_X0_shape (M : Mm) (a0 : Nat) (i1 : Int32) (i2 : Int32) (i3 : Int32) (Q : Nat → Mm → Prop) : Prop := ∀ (K25 : Nat → Int32 → Int32 → Nat → Int32 → Mm → Prop) (K37 : Nat → Int32 → Int32 → Nat → Int32 → Int32 → Mm → Prop), (∀ (a0 : Nat) (i2 : Int32) (i3 : Int32) (a4 : Nat) (is0 : Int32) (M : Mm), S_X0_shape_25 K25 K37 Q M a0 i2 i3 a4 is0 → K25 a0 i2 i3 a4 is0 M) → (∀ (a0 : Nat) (i2 : Int32) (i3 : Int32) (a4 : Nat) (i5 : Int32) (i6 : Int32) (M : Mm), S_X0_shape_37 K25 K37 Q M a0 i2 i3 a4 i5 i6 → K37 a0 i2 i3 a4 i5 i6 M) → kM M a0 = (0, 3) ∧ ∃ a_1 : Nat, rM M a0 0 = some a_1 ∧ kM M a_1 = (1, 5) ∧ T_X1_ring M a_1 i1 (fun r_2 => kM M r_2 = (5, 2) ∧ T_X5_placeOf M r_2 i2 (fun r_3 => (¬ r_3 = (-1) → K25 a0 i2 i3 r_2 0 M) ∧ (r_3 = (-1) → K25 a0 i2 i3 r_2 1 M)))
theorem inX0_shape_X0 : ∀ w ∈ wsX00, w ∈ wsX0_shape := by decide +kernel
set_option maxRecDepth 100000 in
set_option maxHeartbeats 4000000 in
theorem b_X0_shape_25 {p : Program} {l : Launch} {e : Env} {s : State} {m : MethodId} {args : Array Value} {below : List Frame} {meth : Method} {c : Code} {D : va_G} {cA : Nat → ClassId} {lo : Nat} (C : Cx p s m args c cX0_shape 8 RX0 wsX0_shape D cA lo) (hr : meth.sig.returnType = (some (.object "QuarryMesh$Ring"))) (hlk : meth.locks = false) {Q : Nat → Mm → Prop} (M : Mm) (a0 : Nat) (i2 : Int32) (i3 : Int32) (a4 : Nat) (is0 : Int32) (h : S_X0_shape_25 (fun (a0 : Nat) (i2 : Int32) (i3 : Int32) (a4 : Nat) (is0 : Int32) (M : Mm) => QW p l e ({ frames := 1, cells := 0, slots := 0, locals := 22 } : Room) s m args below meth c (MQ below (QrM D cA lo Q) args s 0 0 (fun q => lo ≤ q)) 8 D cA lo 0 0 M 25 [(0, .ref a0), (2, .int i2), (3, .int i3), (4, .ref a4)] [.int is0]) (fun (a0 : Nat) (i2 : Int32) (i3 : Int32) (a4 : Nat) (i5 : Int32) (i6 : Int32) (M : Mm) => QW p l e ({ frames := 1, cells := 0, slots := 0, locals := 22 } : Room) s m args below meth c (MQ below (QrM D cA lo Q) args s 0 0 (fun q => lo ≤ q)) 8 D cA lo 0 0 M 37 [(0, .ref a0), (2, .int i2), (3, .int i3), (4, .ref a4), (5, .int i5), (6, .int i6)] []) Q M a0 i2 i3 a4 is0) : QW p l e ({ frames := 1, cells := 0, slots := 0, locals := 22 } : Room) s m args below meth c (MQ below (QrM D cA lo Q) args s 0 0 (fun q => lo ≤ q)) 8 D cA lo 0 0 M 25 [(0, .ref a0), (2, .int i2), (3, .int i3), (4, .ref a4)] [.int is0] := by
  unfold S_X0_shape_25 at h
  refine q_istore (lv' := [(5, .int is0), (0, .ref a0), (2, .int i2), (3, .int i3), (4, .ref a4)]) C dX0_shape_25 (by decide) rfl ?_
  refine q_aload_n C dX0_shape_27 rfl (j := 1) rfl ?_
  refine q_getR (ci := 0) (k0 := 2) (T := TX0) C inX0_shape_X0 rfl (by decide) h.1 (by decide) rfl (by decide +kernel) rfl dX0_shape_28 ?_
  obtain ⟨a_4, z, h⟩ := h.2
  refine q_ref z ?_
  refine q_cv (q_runV (As := []) (st := []) C (c_X5_clear l D cA lo h.2) (cwV 0 C.2.2.2.2.1 gX0_shape_X5_clear rfl rfl rfl (by decide +kernel) ⟨Nat.le_of_ble_eq_true rfl, Nat.le_of_ble_eq_true rfl⟩) h.1 (by decide) rfl rfl rfl (Nat.le_of_ble_eq_true rfl) dX0_shape_31 ⟨Nat.le_of_ble_eq_true rfl, Nat.le_of_ble_eq_true rfl⟩) (fun M_6 h => ?_)
  refine q_iconst (v := 0) C dX0_shape_34 (by decide) ?_
  refine q_istore (lv' := [(6, .int 0), (5, .int is0), (0, .ref a0), (2, .int i2), (3, .int i3), (4, .ref a4)]) C dX0_shape_35 (by decide) rfl ?_
  exact q_sub [2, 3, 4, 5, 1, 0] rfl h
set_option maxRecDepth 100000 in
set_option maxHeartbeats 4000000 in
theorem b_X0_shape_37 {p : Program} {l : Launch} {e : Env} {s : State} {m : MethodId} {args : Array Value} {below : List Frame} {meth : Method} {c : Code} {D : va_G} {cA : Nat → ClassId} {lo : Nat} (C : Cx p s m args c cX0_shape 8 RX0 wsX0_shape D cA lo) (hr : meth.sig.returnType = (some (.object "QuarryMesh$Ring"))) (hlk : meth.locks = false) {Q : Nat → Mm → Prop} (M : Mm) (a0 : Nat) (i2 : Int32) (i3 : Int32) (a4 : Nat) (i5 : Int32) (i6 : Int32) (h : S_X0_shape_37 (fun (a0 : Nat) (i2 : Int32) (i3 : Int32) (a4 : Nat) (is0 : Int32) (M : Mm) => QW p l e ({ frames := 1, cells := 0, slots := 0, locals := 22 } : Room) s m args below meth c (MQ below (QrM D cA lo Q) args s 0 0 (fun q => lo ≤ q)) 8 D cA lo 0 0 M 25 [(0, .ref a0), (2, .int i2), (3, .int i3), (4, .ref a4)] [.int is0]) (fun (a0 : Nat) (i2 : Int32) (i3 : Int32) (a4 : Nat) (i5 : Int32) (i6 : Int32) (M : Mm) => QW p l e ({ frames := 1, cells := 0, slots := 0, locals := 22 } : Room) s m args below meth c (MQ below (QrM D cA lo Q) args s 0 0 (fun q => lo ≤ q)) 8 D cA lo 0 0 M 37 [(0, .ref a0), (2, .int i2), (3, .int i3), (4, .ref a4), (5, .int i5), (6, .int i6)] []) Q M a0 i2 i3 a4 i5 i6) : QW p l e ({ frames := 1, cells := 0, slots := 0, locals := 22 } : Room) s m args below meth c (MQ below (QrM D cA lo Q) args s 0 0 (fun q => lo ≤ q)) 8 D cA lo 0 0 M 37 [(0, .ref a0), (2, .int i2), (3, .int i3), (4, .ref a4), (5, .int i5), (6, .int i6)] [] := by
  unfold S_X0_shape_37 at h
  refine q_iload C dX0_shape_37 (j := 5) rfl ?_
  refine q_aload C dX0_shape_39 (j := 3) rfl ?_
  refine q_ci (q_runV (As := []) (st := [.int i6]) C (c_X5_length l D cA lo h.2) (cwV 0 C.2.2.2.2.1 gX0_shape_X5_length rfl rfl rfl (by decide +kernel) ⟨Nat.le_of_ble_eq_true rfl, Nat.le_of_ble_eq_true rfl⟩) h.1 (by decide) rfl rfl rfl (Nat.le_of_ble_eq_true rfl) dX0_shape_41 ⟨Nat.le_of_ble_eq_true rfl, Nat.le_of_ble_eq_true rfl⟩) (fun r_7 M_z h => ?_)
  refine q_mem h.1 ?_
  have h := h.2
  refine q_icmp_ge (tgt := 93) C dX0_shape_44 (by decide) (fun z => ?_) (fun z => ?_)
  · have h := h.1 z
    refine q_aload_n C dX0_shape_93 rfl (j := 0) rfl ?_
    refine q_getR (ci := 0) (k0 := 2) (T := TX0) C inX0_shape_X0 rfl (by decide) h.1 (by decide) rfl (by decide +kernel) rfl dX0_shape_94 ?_
    obtain ⟨a_8, z, h⟩ := h.2
    refine q_ref z ?_
    exact q_aret C hr (by first | exact Or.inl ⟨_, rfl⟩ | exact Or.inr ⟨_, rfl⟩) hlk dX0_shape_97 (Nat.le_of_ble_eq_true rfl) (Nat.le_of_ble_eq_true rfl) h
  · have h := h.2 z
    refine q_aload C dX0_shape_47 (j := 3) rfl ?_
    refine q_iload C dX0_shape_49 (j := 5) rfl ?_
    refine q_ci (q_runV (As := [.int i6]) (st := []) C (c_X5_get l D cA lo h.2) (cwV 1 C.2.2.2.2.1 gX0_shape_X5_get rfl rfl rfl (by decide +kernel) ⟨Nat.le_of_ble_eq_true rfl, Nat.le_of_ble_eq_true rfl⟩) h.1 (by decide) rfl rfl rfl (Nat.le_of_ble_eq_true rfl) dX0_shape_51 ⟨Nat.le_of_ble_eq_true rfl, Nat.le_of_ble_eq_true rfl⟩) (fun r_9 M_z h => ?_)
    refine q_mem h.1 ?_
    have h := h.2
    refine q_istore (lv' := [(7, .int r_9), (0, .ref a0), (2, .int i2), (3, .int i3), (4, .ref a4), (5, .int i5), (6, .int i6)]) C dX0_shape_54 (by decide) rfl ?_
    refine q_iload C dX0_shape_56 (j := 0) rfl ?_
    refine q_iload_n C dX0_shape_58 rfl (j := 3) rfl ?_
    refine q_icmp_eq (tgt := 74) C dX0_shape_59 (by decide) (fun z => ?_) (fun z => ?_)
    · have h := h.1 z
      refine q_iload C dX0_shape_74 (j := 5) rfl ?_
      refine q_if_eq (tgt := 87) C dX0_shape_76 (by decide) (fun z => ?_) (fun z => ?_)
      · have h := h.1 z
        refine q_iinc (v := (i6 + 1)) (lv' := [(6, .int (i6 + 1)), (7, .int r_9), (0, .ref a0), (2, .int i2), (3, .int i3), (4, .ref a4), (5, .int i5)]) C dX0_shape_87 (j := 6) rfl rfl (by decide) rfl ?_
        refine q_goto (tgt := 37) C dX0_shape_90 (by decide) ?_
        exact q_sub [2, 3, 4, 5, 6, 0] rfl h
      · have h := h.2 z
        refine q_aload_n C dX0_shape_79 rfl (j := 1) rfl ?_
        refine q_getR (ci := 0) (k0 := 2) (T := TX0) C inX0_shape_X0 rfl (by decide) h.1 (by decide) rfl (by decide +kernel) rfl dX0_shape_80 ?_
        obtain ⟨a_10, z, h⟩ := h.2
        refine q_ref z ?_
        refine q_iload_n C dX0_shape_83 rfl (j := 2) rfl ?_
        refine q_cv (q_runV (As := [.int i2]) (st := []) C (c_X5_add l D cA lo h.2) (cwV 1 C.2.2.2.2.1 gX0_shape_X5_add rfl rfl rfl (by decide +kernel) ⟨Nat.le_of_ble_eq_true rfl, Nat.le_of_ble_eq_true rfl⟩) h.1 (by decide) rfl rfl rfl (Nat.le_of_ble_eq_true rfl) dX0_shape_84 ⟨Nat.le_of_ble_eq_true rfl, Nat.le_of_ble_eq_true rfl⟩) (fun M_12 h => ?_)
        refine q_iinc (v := (i6 + 1)) (lv' := [(6, .int (i6 + 1)), (7, .int r_9), (0, .ref a0), (2, .int i2), (3, .int i3), (4, .ref a4), (5, .int i5)]) C dX0_shape_87 (j := 6) rfl rfl (by decide) rfl ?_
        refine q_goto (tgt := 37) C dX0_shape_90 (by decide) ?_
        exact q_sub [2, 3, 4, 5, 6, 0] rfl h
    · have h := h.2 z
      refine q_aload_n C dX0_shape_62 rfl (j := 1) rfl ?_
      refine q_getR (ci := 0) (k0 := 2) (T := TX0) C inX0_shape_X0 rfl (by decide) h.1 (by decide) rfl (by decide +kernel) rfl dX0_shape_63 ?_
      obtain ⟨a_13, z, h⟩ := h.2
      refine q_ref z ?_
      refine q_iload C dX0_shape_66 (j := 0) rfl ?_
      refine q_cv (q_runV (As := [.int r_9]) (st := []) C (c_X5_add l D cA lo h.2) (cwV 1 C.2.2.2.2.1 gX0_shape_X5_add rfl rfl rfl (by decide +kernel) ⟨Nat.le_of_ble_eq_true rfl, Nat.le_of_ble_eq_true rfl⟩) h.1 (by decide) rfl rfl rfl (Nat.le_of_ble_eq_true rfl) dX0_shape_68 ⟨Nat.le_of_ble_eq_true rfl, Nat.le_of_ble_eq_true rfl⟩) (fun M_15 h => ?_)
      refine q_goto (tgt := 87) C dX0_shape_71 (by decide) ?_
      refine q_iinc (v := (i6 + 1)) (lv' := [(6, .int (i6 + 1)), (7, .int r_9), (0, .ref a0), (2, .int i2), (3, .int i3), (4, .ref a4), (5, .int i5)]) C dX0_shape_87 (j := 6) rfl rfl (by decide) rfl ?_
      refine q_goto (tgt := 37) C dX0_shape_90 (by decide) ?_
      exact q_sub [2, 3, 4, 5, 6, 0] rfl h
set_option maxRecDepth 100000 in
set_option maxHeartbeats 4000000 in
theorem c_X0_shape (l : Launch) (D : va_G) (cA : Nat → ClassId) (lo : Nat) {M : Mm} {a0 : Nat} {i1 : Int32} {i2 : Int32} {i3 : Int32} {Q : Nat → Mm → Prop} (h : T_X0_shape M a0 i1 i2 i3 Q) : Met l yX0_shape wsX0_shape ({ frames := 1, cells := 0, slots := 0, locals := 22 } : Room) (PcM D cA lo [.ref a0, .int i1, .int i2, .int i3] M) (QrM D cA lo Q) 0 0 (fun q => lo ≤ q) := by
  refine q_start (cc := cX0_shape) (nL := 8) (ret := (some (.object "QuarryMesh$Ring"))) (by decide) rfl rfl (Nat.le_of_ble_eq_true rfl) ?_
  intro p e s m args below meth c C hr hlk hin
  unfold T_X0_shape at h
  have h := h (fun (a0 : Nat) (i2 : Int32) (i3 : Int32) (a4 : Nat) (is0 : Int32) (M : Mm) => QW p l e ({ frames := 1, cells := 0, slots := 0, locals := 22 } : Room) s m args below meth c (MQ below (QrM D cA lo Q) args s 0 0 (fun q => lo ≤ q)) 8 D cA lo 0 0 M 25 [(0, .ref a0), (2, .int i2), (3, .int i3), (4, .ref a4)] [.int is0]) (fun (a0 : Nat) (i2 : Int32) (i3 : Int32) (a4 : Nat) (i5 : Int32) (i6 : Int32) (M : Mm) => QW p l e ({ frames := 1, cells := 0, slots := 0, locals := 22 } : Room) s m args below meth c (MQ below (QrM D cA lo Q) args s 0 0 (fun q => lo ≤ q)) 8 D cA lo 0 0 M 37 [(0, .ref a0), (2, .int i2), (3, .int i3), (4, .ref a4), (5, .int i5), (6, .int i6)] []) (fun a0 i2 i3 a4 is0 M h => b_X0_shape_25 C hr hlk M a0 i2 i3 a4 is0 h) (fun a0 i2 i3 a4 i5 i6 M h => b_X0_shape_37 C hr hlk M a0 i2 i3 a4 i5 i6 h)
  refine q_aload_n C dX0_shape_0 rfl (j := 0) rfl ?_
  refine q_getR (ci := 0) (k0 := 0) (T := TX0) C inX0_shape_X0 rfl (by decide) h.1 (by decide) rfl (by decide +kernel) rfl dX0_shape_1 ?_
  obtain ⟨a_1, z, h⟩ := h.2
  refine q_ref z ?_
  refine q_iload_n C dX0_shape_4 rfl (j := 1) rfl ?_
  refine q_cr (q_runV (As := [.int i1]) (st := []) C (c_X1_ring l D cA lo h.2) (cwV 1 C.2.2.2.2.1 gX0_shape_X1_ring rfl rfl rfl (by decide +kernel) ⟨Nat.le_of_ble_eq_true rfl, Nat.le_of_ble_eq_true rfl⟩) h.1 (by decide) rfl rfl rfl (Nat.le_of_ble_eq_true rfl) dX0_shape_5 ⟨Nat.le_of_ble_eq_true rfl, Nat.le_of_ble_eq_true rfl⟩) (fun r_2 M_z h => ?_)
  refine q_mem h.1 ?_
  have h := h.2
  refine q_astore (lv' := [(4, .ref r_2), (0, .ref a0), (1, .int i1), (2, .int i2), (3, .int i3)]) C dX0_shape_8 (by decide) rfl ?_
  refine q_aload C dX0_shape_10 (j := 0) rfl ?_
  refine q_iload_n C dX0_shape_12 rfl (j := 3) rfl ?_
  refine q_ci (q_runV (As := [.int i2]) (st := []) C (c_X5_placeOf l D cA lo h.2) (cwV 1 C.2.2.2.2.1 gX0_shape_X5_placeOf rfl rfl rfl (by decide +kernel) ⟨Nat.le_of_ble_eq_true rfl, Nat.le_of_ble_eq_true rfl⟩) h.1 (by decide) rfl rfl rfl (Nat.le_of_ble_eq_true rfl) dX0_shape_13 ⟨Nat.le_of_ble_eq_true rfl, Nat.le_of_ble_eq_true rfl⟩) (fun r_3 M_z h => ?_)
  refine q_mem h.1 ?_
  have h := h.2
  refine q_iconst (v := (-1)) C dX0_shape_16 (by decide) ?_
  refine q_icmp_ne (tgt := 24) C dX0_shape_17 (by decide) (fun z => ?_) (fun z => ?_)
  · have h := h.1 z
    refine q_iconst (v := 0) C dX0_shape_24 (by decide) ?_
    exact q_sub [1, 3, 4, 0] rfl h
  · have h := h.2 z
    refine q_iconst (v := 1) C dX0_shape_20 (by decide) ?_
    refine q_goto (tgt := 25) C dX0_shape_21 (by decide) ?_
    exact q_sub [1, 3, 4, 0] rfl h
def T_X2_takeOff (M : Mm) (a0 : Nat) (Q : Mm → Prop) : Prop := kM M a0 = (2, 2) ∧ kM M a0 = (2, 2) ∧ Q (wI M a0 1 ((iM M a0 1) + 1))
theorem inX2_takeOff_X2 : ∀ w ∈ wsX20, w ∈ wsX2_takeOff := by decide +kernel
set_option maxRecDepth 100000 in
set_option maxHeartbeats 4000000 in
theorem c_X2_takeOff (l : Launch) (D : va_G) (cA : Nat → ClassId) (lo : Nat) {M : Mm} {a0 : Nat} {Q : Mm → Prop} (h : T_X2_takeOff M a0 Q) : Met l yX2_takeOff wsX2_takeOff ({ frames := 0, cells := 0, slots := 0, locals := 0 } : Room) (PcM D cA lo [.ref a0] M) (QvM D cA lo Q) 0 0 (fun q => lo ≤ q) := by
  refine q_start (cc := cX2_takeOff) (nL := 1) (ret := none) (by decide) rfl rfl (Nat.le_of_ble_eq_true rfl) ?_
  intro p e s m args below meth c C hr hlk hin
  unfold T_X2_takeOff at h
  refine q_aload_n C dX2_takeOff_0 rfl (j := 0) rfl ?_
  refine q_dup C dX2_takeOff_1 rfl ?_
  refine q_getI (ci := 2) (k0 := 1) (T := TX2) C inX2_takeOff_X2 rfl (by decide) h.1 (by decide) rfl (by decide +kernel) rfl dX2_takeOff_2 ?_
  have h := h.2
  refine q_iconst (v := 1) C dX2_takeOff_5 (by decide) ?_
  refine q_iadd C dX2_takeOff_6 ?_
  refine q_putI (ci := 2) (k0 := 1) (T := TX2) (v := ((iM M a0 1) + 1)) (ty := .int) C inX2_takeOff_X2 tyX2 tyX2_ok nmX2 rfl (by decide) h.1 (by decide) rfl (by decide +kernel) rfl (by decide +kernel) rfl rfl rfl dX2_takeOff_7 ?_
  have h := h.2
  exact q_vret C hr hlk dX2_takeOff_10 (Nat.le_of_ble_eq_true rfl) (Nat.le_of_ble_eq_true rfl) h
def T_X1_owner (M : Mm) (a0 : Nat) (i1 : Int32) (i2 : Int32) (Q : Int32 → Prop) : Prop := (i1 < 0 → Q (-1)) ∧ (¬ i1 < 0 → (100 ≤ i1 → Q (-1)) ∧ (¬ 100 ≤ i1 → (i2 < 0 → Q (-1)) ∧ (¬ i2 < 0 → (i2 < 100 → kM M a0 = (1, 5) ∧ ∃ a_1 : Nat, rM M a0 2 = some a_1 ∧ ∃ n_2 : Nat, kM M a_1 = (100, n_2) ∧ vp_in ((i1 * 100) + i2) n_2 ∧ Q ((iM M a_1 ((i1 * 100) + i2).toNatClampNeg) - 1)) ∧ (¬ i2 < 100 → Q (-1)))))
theorem inX1_owner_X1 : ∀ w ∈ wsX10, w ∈ wsX1_owner := by decide +kernel
set_option maxRecDepth 100000 in
set_option maxHeartbeats 4000000 in
theorem c_X1_owner (l : Launch) (D : va_G) (cA : Nat → ClassId) (lo : Nat) {M : Mm} {a0 : Nat} {i1 : Int32} {i2 : Int32} {Q : Int32 → Prop} (h : T_X1_owner M a0 i1 i2 Q) : Met l yX1_owner wsX1_owner ({ frames := 0, cells := 0, slots := 0, locals := 0 } : Room) (PcM D cA lo [.ref a0, .int i1, .int i2] M) (QiM D cA lo (fun r M1 => M1 = M ∧ Q r)) 0 0 (fun q => lo ≤ q) := by
  refine q_start (cc := cX1_owner) (nL := 3) (ret := (some .int)) (by decide) rfl rfl (Nat.le_of_ble_eq_true rfl) ?_
  intro p e s m args below meth c C hr hlk hin
  unfold T_X1_owner at h
  refine q_iload_n C dX1_owner_0 rfl (j := 1) rfl ?_
  refine q_if_lt (tgt := 20) C dX1_owner_1 (by decide) (fun z => ?_) (fun z => ?_)
  · have h := h.1 z
    refine q_iconst (v := (-1)) C dX1_owner_20 (by decide) ?_
    exact q_iret C hr hlk dX1_owner_21 (Nat.le_of_ble_eq_true rfl) (Nat.le_of_ble_eq_true rfl) ⟨rfl, h⟩
  · have h := h.2 z
    refine q_iload_n C dX1_owner_4 rfl (j := 1) rfl ?_
    refine q_bipush (v := 100) C dX1_owner_5 (by decide) ?_
    refine q_icmp_ge (tgt := 20) C dX1_owner_7 (by decide) (fun z => ?_) (fun z => ?_)
    · have h := h.1 z
      refine q_iconst (v := (-1)) C dX1_owner_20 (by decide) ?_
      exact q_iret C hr hlk dX1_owner_21 (Nat.le_of_ble_eq_true rfl) (Nat.le_of_ble_eq_true rfl) ⟨rfl, h⟩
    · have h := h.2 z
      refine q_iload_n C dX1_owner_10 rfl (j := 2) rfl ?_
      refine q_if_lt (tgt := 20) C dX1_owner_11 (by decide) (fun z => ?_) (fun z => ?_)
      · have h := h.1 z
        refine q_iconst (v := (-1)) C dX1_owner_20 (by decide) ?_
        exact q_iret C hr hlk dX1_owner_21 (Nat.le_of_ble_eq_true rfl) (Nat.le_of_ble_eq_true rfl) ⟨rfl, h⟩
      · have h := h.2 z
        refine q_iload_n C dX1_owner_14 rfl (j := 2) rfl ?_
        refine q_bipush (v := 100) C dX1_owner_15 (by decide) ?_
        refine q_icmp_lt (tgt := 22) C dX1_owner_17 (by decide) (fun z => ?_) (fun z => ?_)
        · have h := h.1 z
          refine q_aload_n C dX1_owner_22 rfl (j := 0) rfl ?_
          refine q_getR (ci := 1) (k0 := 2) (T := TX1) C inX1_owner_X1 rfl (by decide) h.1 (by decide) rfl (by decide +kernel) rfl dX1_owner_23 ?_
          obtain ⟨a_1, z, h⟩ := h.2
          refine q_ref z ?_
          refine q_iload_n C dX1_owner_26 rfl (j := 1) rfl ?_
          refine q_bipush (v := 100) C dX1_owner_27 (by decide) ?_
          refine q_imul C dX1_owner_29 ?_
          refine q_iload_n C dX1_owner_30 rfl (j := 2) rfl ?_
          refine q_iadd C dX1_owner_31 ?_
          obtain ⟨n_2, z1, z2, h⟩ := h
          refine q_iald C z1 z2 dX1_owner_32 ?_
          refine q_iconst (v := 1) C dX1_owner_33 (by decide) ?_
          refine q_isub C dX1_owner_34 ?_
          exact q_iret C hr hlk dX1_owner_35 (Nat.le_of_ble_eq_true rfl) (Nat.le_of_ble_eq_true rfl) ⟨rfl, h⟩
        · have h := h.2 z
          refine q_iconst (v := (-1)) C dX1_owner_20 (by decide) ?_
          exact q_iret C hr hlk dX1_owner_21 (Nat.le_of_ble_eq_true rfl) (Nat.le_of_ble_eq_true rfl) ⟨rfl, h⟩
def T_X8_isPointNumber (M : Mm) (i0 : Int32) (Q : Int32 → Prop) : Prop := (i0 < 0 → Q 0) ∧ (¬ i0 < 0 → (100 ≤ i0 → Q 0) ∧ (¬ 100 ≤ i0 → Q 1))
set_option maxRecDepth 100000 in
set_option maxHeartbeats 4000000 in
theorem c_X8_isPointNumber (l : Launch) (D : va_G) (cA : Nat → ClassId) (lo : Nat) {M : Mm} {i0 : Int32} {Q : Int32 → Prop} (h : T_X8_isPointNumber M i0 Q) : Met l yX8_isPointNumber wsX8_isPointNumber ({ frames := 0, cells := 0, slots := 0, locals := 0 } : Room) (PcM D cA lo [.int i0] M) (QiM D cA lo (fun r M1 => M1 = M ∧ Q r)) 0 0 (fun q => lo ≤ q) := by
  refine q_start (cc := cX8_isPointNumber) (nL := 1) (ret := (some .boolean)) (by decide) rfl rfl (Nat.le_of_ble_eq_true rfl) ?_
  intro p e s m args below meth c C hr hlk hin
  unfold T_X8_isPointNumber at h
  refine q_iload_n C dX8_isPointNumber_0 rfl (j := 0) rfl ?_
  refine q_if_lt (tgt := 14) C dX8_isPointNumber_1 (by decide) (fun z => ?_) (fun z => ?_)
  · have h := h.1 z
    refine q_iconst (v := 0) C dX8_isPointNumber_14 (by decide) ?_
    exact q_zret C hr hlk dX8_isPointNumber_15 (Nat.le_of_ble_eq_true rfl) (Nat.le_of_ble_eq_true rfl) (Or.inl rfl) ⟨rfl, h⟩
  · have h := h.2 z
    refine q_iload_n C dX8_isPointNumber_4 rfl (j := 0) rfl ?_
    refine q_bipush (v := 100) C dX8_isPointNumber_5 (by decide) ?_
    refine q_icmp_ge (tgt := 14) C dX8_isPointNumber_7 (by decide) (fun z => ?_) (fun z => ?_)
    · have h := h.1 z
      refine q_iconst (v := 0) C dX8_isPointNumber_14 (by decide) ?_
      exact q_zret C hr hlk dX8_isPointNumber_15 (Nat.le_of_ble_eq_true rfl) (Nat.le_of_ble_eq_true rfl) (Or.inl rfl) ⟨rfl, h⟩
    · have h := h.2 z
      refine q_iconst (v := 1) C dX8_isPointNumber_10 (by decide) ?_
      refine q_goto (tgt := 15) C dX8_isPointNumber_11 (by decide) ?_
      exact q_zret C hr hlk dX8_isPointNumber_15 (Nat.le_of_ble_eq_true rfl) (Nat.le_of_ble_eq_true rfl) (Or.inr rfl) ⟨rfl, h⟩
def T_X2_mark (M : Mm) (a0 : Nat) (i1 : Int32) (i2 : Int32) (Q : Int32 → Mm → Prop) : Prop := T_X8_isPointNumber M i1 (fun r_1 => (r_1 = 0 → Q 0 M) ∧ (¬ r_1 = 0 → T_X8_isPointNumber M i2 (fun r_2 => (r_2 = 0 → Q 0 M) ∧ (¬ r_2 = 0 → kM M a0 = (2, 2) ∧ ∃ a_3 : Nat, rM M a0 0 = some a_3 ∧ ∃ n_4 : Nat, kM M a_3 = (100, n_4) ∧ vp_in ((i1 * 100) + i2) n_4 ∧ kM M a0 = (2, 2) ∧ (¬ (iM M a_3 ((i1 * 100) + i2).toNatClampNeg) = (iM M a0 1) → kM M a0 = (2, 2) ∧ ∃ a_5 : Nat, rM M a0 0 = some a_5 ∧ kM M a0 = (2, 2) ∧ ∃ n_6 : Nat, kM M a_5 = (100, n_6) ∧ vp_in ((i1 * 100) + i2) n_6 ∧ Q 1 (wI M a_5 ((i1 * 100) + i2).toNatClampNeg (iM M a0 1))) ∧ ((iM M a_3 ((i1 * 100) + i2).toNatClampNeg) = (iM M a0 1) → Q 0 M)))))
theorem inX2_mark_X2 : ∀ w ∈ wsX20, w ∈ wsX2_mark := by decide +kernel
set_option maxRecDepth 100000 in
set_option maxHeartbeats 4000000 in
theorem c_X2_mark (l : Launch) (D : va_G) (cA : Nat → ClassId) (lo : Nat) {M : Mm} {a0 : Nat} {i1 : Int32} {i2 : Int32} {Q : Int32 → Mm → Prop} (h : T_X2_mark M a0 i1 i2 Q) : Met l yX2_mark wsX2_mark ({ frames := 1, cells := 0, slots := 0, locals := 20 } : Room) (PcM D cA lo [.ref a0, .int i1, .int i2] M) (QiM D cA lo Q) 0 0 (fun q => lo ≤ q) := by
  refine q_start (cc := cX2_mark) (nL := 3) (ret := (some .boolean)) (by decide) rfl rfl (Nat.le_of_ble_eq_true rfl) ?_
  intro p e s m args below meth c C hr hlk hin
  unfold T_X2_mark at h
  refine q_iload_n C dX2_mark_0 rfl (j := 1) rfl ?_
  refine q_ci (q_runSN (As := [.int i1]) (st := []) C (c_X8_isPointNumber l D cA lo h) ⟨va_cnB (host := "QuarryMesh") 1 C.2.2.2.2.1 gX2_mark_X8_isPointNumber_n19 rfl rfl rfl (C.2.2.2.2.2.2.2.1 (RX2, 19, yX8_isPointNumber, "QuarryMesh") (List.mem_of_getElem? (i := 7) rfl)) (C.2.2.2.2.1 _ (by decide +kernel)) (by decide +kernel) ⟨Nat.le_of_ble_eq_true rfl, Nat.le_of_ble_eq_true rfl⟩, C.2.2.2.2.1 _ (by decide +kernel), trivial⟩ rfl rfl (Nat.le_of_ble_eq_true rfl) dX2_mark_1 ⟨Nat.le_of_ble_eq_true rfl, Nat.le_of_ble_eq_true rfl⟩) (fun r_1 M_z h => ?_)
  refine q_mem h.1 ?_
  have h := h.2
  refine q_if_eq (tgt := 32) C dX2_mark_4 (by decide) (fun z => ?_) (fun z => ?_)
  · have h := h.1 z
    refine q_iconst (v := 0) C dX2_mark_32 (by decide) ?_
    exact q_zret C hr hlk dX2_mark_33 (Nat.le_of_ble_eq_true rfl) (Nat.le_of_ble_eq_true rfl) (Or.inl rfl) h
  · have h := h.2 z
    refine q_iload_n C dX2_mark_7 rfl (j := 2) rfl ?_
    refine q_ci (q_runSN (As := [.int i2]) (st := []) C (c_X8_isPointNumber l D cA lo h) ⟨va_cnB (host := "QuarryMesh") 1 C.2.2.2.2.1 gX2_mark_X8_isPointNumber_n19 rfl rfl rfl (C.2.2.2.2.2.2.2.1 (RX2, 19, yX8_isPointNumber, "QuarryMesh") (List.mem_of_getElem? (i := 7) rfl)) (C.2.2.2.2.1 _ (by decide +kernel)) (by decide +kernel) ⟨Nat.le_of_ble_eq_true rfl, Nat.le_of_ble_eq_true rfl⟩, C.2.2.2.2.1 _ (by decide +kernel), trivial⟩ rfl rfl (Nat.le_of_ble_eq_true rfl) dX2_mark_8 ⟨Nat.le_of_ble_eq_true rfl, Nat.le_of_ble_eq_true rfl⟩) (fun r_2 M_z h => ?_)
    refine q_mem h.1 ?_
    have h := h.2
    refine q_if_eq (tgt := 32) C dX2_mark_11 (by decide) (fun z => ?_) (fun z => ?_)
    · have h := h.1 z
      refine q_iconst (v := 0) C dX2_mark_32 (by decide) ?_
      exact q_zret C hr hlk dX2_mark_33 (Nat.le_of_ble_eq_true rfl) (Nat.le_of_ble_eq_true rfl) (Or.inl rfl) h
    · have h := h.2 z
      refine q_aload_n C dX2_mark_14 rfl (j := 0) rfl ?_
      refine q_getR (ci := 2) (k0 := 0) (T := TX2) C inX2_mark_X2 rfl (by decide) h.1 (by decide) rfl (by decide +kernel) rfl dX2_mark_15 ?_
      obtain ⟨a_3, z, h⟩ := h.2
      refine q_ref z ?_
      refine q_iload_n C dX2_mark_18 rfl (j := 1) rfl ?_
      refine q_bipush (v := 100) C dX2_mark_19 (by decide) ?_
      refine q_imul C dX2_mark_21 ?_
      refine q_iload_n C dX2_mark_22 rfl (j := 2) rfl ?_
      refine q_iadd C dX2_mark_23 ?_
      obtain ⟨n_4, z1, z2, h⟩ := h
      refine q_iald C z1 z2 dX2_mark_24 ?_
      refine q_aload_n C dX2_mark_25 rfl (j := 0) rfl ?_
      refine q_getI (ci := 2) (k0 := 1) (T := TX2) C inX2_mark_X2 rfl (by decide) h.1 (by decide) rfl (by decide +kernel) rfl dX2_mark_26 ?_
      have h := h.2
      refine q_icmp_ne (tgt := 34) C dX2_mark_29 (by decide) (fun z => ?_) (fun z => ?_)
      · have h := h.1 z
        refine q_aload_n C dX2_mark_34 rfl (j := 0) rfl ?_
        refine q_getR (ci := 2) (k0 := 0) (T := TX2) C inX2_mark_X2 rfl (by decide) h.1 (by decide) rfl (by decide +kernel) rfl dX2_mark_35 ?_
        obtain ⟨a_5, z, h⟩ := h.2
        refine q_ref z ?_
        refine q_iload_n C dX2_mark_38 rfl (j := 1) rfl ?_
        refine q_bipush (v := 100) C dX2_mark_39 (by decide) ?_
        refine q_imul C dX2_mark_41 ?_
        refine q_iload_n C dX2_mark_42 rfl (j := 2) rfl ?_
        refine q_iadd C dX2_mark_43 ?_
        refine q_aload_n C dX2_mark_44 rfl (j := 0) rfl ?_
        refine q_getI (ci := 2) (k0 := 1) (T := TX2) C inX2_mark_X2 rfl (by decide) h.1 (by decide) rfl (by decide +kernel) rfl dX2_mark_45 ?_
        have h := h.2
        obtain ⟨n_6, z1, z2, h⟩ := h
        refine q_iast C z1 z2 dX2_mark_48 ?_
        refine q_iconst (v := 1) C dX2_mark_49 (by decide) ?_
        exact q_zret C hr hlk dX2_mark_50 (Nat.le_of_ble_eq_true rfl) (Nat.le_of_ble_eq_true rfl) (Or.inr rfl) h
      · have h := h.2 z
        refine q_iconst (v := 0) C dX2_mark_32 (by decide) ?_
        exact q_zret C hr hlk dX2_mark_33 (Nat.le_of_ble_eq_true rfl) (Nat.le_of_ble_eq_true rfl) (Or.inl rfl) h
def S_X0_halvesFit_2 (K2 : Nat → Nat → Int32 → Int32 → Mm → Prop) (K67 : Nat → Nat → Int32 → Int32 → Int32 → Int32 → Int32 → Mm → Prop) (Q : Int32 → Mm → Prop) (M : Mm) (a0 : Nat) (a1 : Nat) (i2 : Int32) (i3 : Int32) : Prop := kM M a1 = (5, 2) ∧ T_X5_length M a1 (fun r_1 => (r_1 ≤ i3 → Q 1 M) ∧ (¬ r_1 ≤ i3 → kM M a1 = (5, 2) ∧ T_X5_get M a1 i3 (fun r_2 => kM M a1 = (5, 2) ∧ T_X5_get M a1 (i3 + 1) (fun r_3 => kM M a0 = (0, 3) ∧ ∃ a_4 : Nat, rM M a0 0 = some a_4 ∧ kM M a_4 = (1, 5) ∧ T_X1_owner M a_4 r_2 r_3 (fun r_5 => (r_5 = (-1) → K67 a0 a1 i2 i3 r_2 r_3 0 M) ∧ (¬ r_5 = (-1) → kM M a0 = (0, 3) ∧ ∃ a_6 : Nat, rM M a0 0 = some a_6 ∧ kM M a_6 = (1, 5) ∧ T_X1_ring M a_6 r_5 (fun r_7 => kM M r_7 = (5, 2) ∧ T_X5_placeOf M r_7 i2 (fun r_8 => (¬ r_8 = (-1) → K67 a0 a1 i2 i3 r_2 r_3 0 M) ∧ (r_8 = (-1) → K67 a0 a1 i2 i3 r_2 r_3 1 M)))))))))
def S_X0_halvesFit_67 (K2 : Nat → Nat → Int32 → Int32 → Mm → Prop) (K67 : Nat → Nat → Int32 → Int32 → Int32 → Int32 → Int32 → Mm → Prop) (Q : Int32 → Mm → Prop) (M : Mm) (a0 : Nat) (a1 : Nat) (i2 : Int32) (i3 : Int32) (i4 : Int32) (i5 : Int32) (is0 : Int32) : Prop := (¬ is0 = 0 → Q 0 M) ∧ (is0 = 0 → kM M a0 = (0, 3) ∧ ∃ a_9 : Nat, rM M a0 1 = some a_9 ∧ kM M a_9 = (2, 2) ∧ T_X2_mark M a_9 i4 i5 (fun r_10 M_11 => (¬ r_10 = 0 → K2 a0 a1 i2 (i3 + 1) M_11) ∧ (r_10 = 0 → Q 0 M_11)))
def T_X0_halvesFit (M : Mm) (a0 : Nat) (a1 : Nat) (i2 : Int32) (Q : Int32 → Mm → Prop) : Prop := ∀ (K2 : Nat → Nat → Int32 → Int32 → Mm → Prop) (K67 : Nat → Nat → Int32 → Int32 → Int32 → Int32 → Int32 → Mm → Prop), (∀ (a0 : Nat) (a1 : Nat) (i2 : Int32) (i3 : Int32) (M : Mm), S_X0_halvesFit_2 K2 K67 Q M a0 a1 i2 i3 → K2 a0 a1 i2 i3 M) → (∀ (a0 : Nat) (a1 : Nat) (i2 : Int32) (i3 : Int32) (i4 : Int32) (i5 : Int32) (is0 : Int32) (M : Mm), S_X0_halvesFit_67 K2 K67 Q M a0 a1 i2 i3 i4 i5 is0 → K67 a0 a1 i2 i3 i4 i5 is0 M) → K2 a0 a1 i2 0 M
theorem inX0_halvesFit_X0 : ∀ w ∈ wsX00, w ∈ wsX0_halvesFit := by decide +kernel
set_option maxRecDepth 100000 in
set_option maxHeartbeats 4000000 in
theorem b_X0_halvesFit_2 {p : Program} {l : Launch} {e : Env} {s : State} {m : MethodId} {args : Array Value} {below : List Frame} {meth : Method} {c : Code} {D : va_G} {cA : Nat → ClassId} {lo : Nat} (C : Cx p s m args c cX0_halvesFit 8 RX0 wsX0_halvesFit D cA lo) (hr : meth.sig.returnType = (some .boolean)) (hlk : meth.locks = false) {Q : Int32 → Mm → Prop} (M : Mm) (a0 : Nat) (a1 : Nat) (i2 : Int32) (i3 : Int32) (h : S_X0_halvesFit_2 (fun (a0 : Nat) (a1 : Nat) (i2 : Int32) (i3 : Int32) (M : Mm) => QW p l e ({ frames := 2, cells := 0, slots := 0, locals := 42 } : Room) s m args below meth c (MQ below (QiM D cA lo Q) args s 0 0 (fun q => lo ≤ q)) 8 D cA lo 0 0 M 2 [(0, .ref a0), (1, .ref a1), (2, .int i2), (3, .int i3)] []) (fun (a0 : Nat) (a1 : Nat) (i2 : Int32) (i3 : Int32) (i4 : Int32) (i5 : Int32) (is0 : Int32) (M : Mm) => QW p l e ({ frames := 2, cells := 0, slots := 0, locals := 42 } : Room) s m args below meth c (MQ below (QiM D cA lo Q) args s 0 0 (fun q => lo ≤ q)) 8 D cA lo 0 0 M 67 [(0, .ref a0), (1, .ref a1), (2, .int i2), (3, .int i3), (4, .int i4), (5, .int i5)] [.int is0]) Q M a0 a1 i2 i3) : QW p l e ({ frames := 2, cells := 0, slots := 0, locals := 42 } : Room) s m args below meth c (MQ below (QiM D cA lo Q) args s 0 0 (fun q => lo ≤ q)) 8 D cA lo 0 0 M 2 [(0, .ref a0), (1, .ref a1), (2, .int i2), (3, .int i3)] [] := by
  unfold S_X0_halvesFit_2 at h
  refine q_iload_n C dX0_halvesFit_2 rfl (j := 3) rfl ?_
  refine q_aload_n C dX0_halvesFit_3 rfl (j := 1) rfl ?_
  refine q_ci (q_runV (As := []) (st := [.int i3]) C (c_X5_length l D cA lo h.2) (cwV 0 C.2.2.2.2.1 gX0_halvesFit_X5_length rfl rfl rfl (by decide +kernel) ⟨Nat.le_of_ble_eq_true rfl, Nat.le_of_ble_eq_true rfl⟩) h.1 (by decide) rfl rfl rfl (Nat.le_of_ble_eq_true rfl) dX0_halvesFit_4 ⟨Nat.le_of_ble_eq_true rfl, Nat.le_of_ble_eq_true rfl⟩) (fun r_1 M_z h => ?_)
  refine q_mem h.1 ?_
  have h := h.2
  refine q_icmp_ge (tgt := 96) C dX0_halvesFit_7 (by decide) (fun z => ?_) (fun z => ?_)
  · have h := h.1 z
    refine q_iconst (v := 1) C dX0_halvesFit_96 (by decide) ?_
    exact q_zret C hr hlk dX0_halvesFit_97 (Nat.le_of_ble_eq_true rfl) (Nat.le_of_ble_eq_true rfl) (Or.inr rfl) h
  · have h := h.2 z
    refine q_aload_n C dX0_halvesFit_10 rfl (j := 1) rfl ?_
    refine q_iload_n C dX0_halvesFit_11 rfl (j := 3) rfl ?_
    refine q_ci (q_runV (As := [.int i3]) (st := []) C (c_X5_get l D cA lo h.2) (cwV 1 C.2.2.2.2.1 gX0_halvesFit_X5_get rfl rfl rfl (by decide +kernel) ⟨Nat.le_of_ble_eq_true rfl, Nat.le_of_ble_eq_true rfl⟩) h.1 (by decide) rfl rfl rfl (Nat.le_of_ble_eq_true rfl) dX0_halvesFit_12 ⟨Nat.le_of_ble_eq_true rfl, Nat.le_of_ble_eq_true rfl⟩) (fun r_2 M_z h => ?_)
    refine q_mem h.1 ?_
    have h := h.2
    refine q_istore (lv' := [(4, .int r_2), (0, .ref a0), (1, .ref a1), (2, .int i2), (3, .int i3)]) C dX0_halvesFit_15 (by decide) rfl ?_
    refine q_aload_n C dX0_halvesFit_17 rfl (j := 2) rfl ?_
    refine q_iload_n C dX0_halvesFit_18 rfl (j := 4) rfl ?_
    refine q_iconst (v := 1) C dX0_halvesFit_19 (by decide) ?_
    refine q_iadd C dX0_halvesFit_20 ?_
    refine q_ci (q_runV (As := [.int (i3 + 1)]) (st := []) C (c_X5_get l D cA lo h.2) (cwV 1 C.2.2.2.2.1 gX0_halvesFit_X5_get rfl rfl rfl (by decide +kernel) ⟨Nat.le_of_ble_eq_true rfl, Nat.le_of_ble_eq_true rfl⟩) h.1 (by decide) rfl rfl rfl (Nat.le_of_ble_eq_true rfl) dX0_halvesFit_21 ⟨Nat.le_of_ble_eq_true rfl, Nat.le_of_ble_eq_true rfl⟩) (fun r_3 M_z h => ?_)
    refine q_mem h.1 ?_
    have h := h.2
    refine q_istore (lv' := [(5, .int r_3), (4, .int r_2), (0, .ref a0), (1, .ref a1), (2, .int i2), (3, .int i3)]) C dX0_halvesFit_24 (by decide) rfl ?_
    refine q_aload_n C dX0_halvesFit_26 rfl (j := 2) rfl ?_
    refine q_getR (ci := 0) (k0 := 0) (T := TX0) C inX0_halvesFit_X0 rfl (by decide) h.1 (by decide) rfl (by decide +kernel) rfl dX0_halvesFit_27 ?_
    obtain ⟨a_4, z, h⟩ := h.2
    refine q_ref z ?_
    refine q_iload C dX0_halvesFit_30 (j := 1) rfl ?_
    refine q_iload C dX0_halvesFit_32 (j := 0) rfl ?_
    refine q_ci (q_runV (As := [.int r_2, .int r_3]) (st := []) C (c_X1_owner l D cA lo h.2) (cwV 2 C.2.2.2.2.1 gX0_halvesFit_X1_owner rfl rfl rfl (by decide +kernel) ⟨Nat.le_of_ble_eq_true rfl, Nat.le_of_ble_eq_true rfl⟩) h.1 (by decide) rfl rfl rfl (Nat.le_of_ble_eq_true rfl) dX0_halvesFit_34 ⟨Nat.le_of_ble_eq_true rfl, Nat.le_of_ble_eq_true rfl⟩) (fun r_5 M_z h => ?_)
    refine q_mem h.1 ?_
    have h := h.2
    refine q_istore (lv' := [(6, .int r_5), (5, .int r_3), (4, .int r_2), (0, .ref a0), (1, .ref a1), (2, .int i2), (3, .int i3)]) C dX0_halvesFit_37 (by decide) rfl ?_
    refine q_iload C dX0_halvesFit_39 (j := 0) rfl ?_
    refine q_iconst (v := (-1)) C dX0_halvesFit_41 (by decide) ?_
    refine q_icmp_eq (tgt := 66) C dX0_halvesFit_42 (by decide) (fun z => ?_) (fun z => ?_)
    · have h := h.1 z
      refine q_iconst (v := 0) C dX0_halvesFit_66 (by decide) ?_
      exact q_sub [3, 4, 5, 6, 2, 1] rfl h
    · have h := h.2 z
      refine q_aload_n C dX0_halvesFit_45 rfl (j := 3) rfl ?_
      refine q_getR (ci := 0) (k0 := 0) (T := TX0) C inX0_halvesFit_X0 rfl (by decide) h.1 (by decide) rfl (by decide +kernel) rfl dX0_halvesFit_46 ?_
      obtain ⟨a_6, z, h⟩ := h.2
      refine q_ref z ?_
      refine q_iload C dX0_halvesFit_49 (j := 0) rfl ?_
      refine q_cr (q_runV (As := [.int r_5]) (st := []) C (c_X1_ring l D cA lo h.2) (cwV 1 C.2.2.2.2.1 gX0_halvesFit_X1_ring rfl rfl rfl (by decide +kernel) ⟨Nat.le_of_ble_eq_true rfl, Nat.le_of_ble_eq_true rfl⟩) h.1 (by decide) rfl rfl rfl (Nat.le_of_ble_eq_true rfl) dX0_halvesFit_51 ⟨Nat.le_of_ble_eq_true rfl, Nat.le_of_ble_eq_true rfl⟩) (fun r_7 M_z h => ?_)
      refine q_mem h.1 ?_
      have h := h.2
      refine q_iload_n C dX0_halvesFit_54 rfl (j := 5) rfl ?_
      refine q_ci (q_runV (As := [.int i2]) (st := []) C (c_X5_placeOf l D cA lo h.2) (cwV 1 C.2.2.2.2.1 gX0_halvesFit_X5_placeOf rfl rfl rfl (by decide +kernel) ⟨Nat.le_of_ble_eq_true rfl, Nat.le_of_ble_eq_true rfl⟩) h.1 (by decide) rfl rfl rfl (Nat.le_of_ble_eq_true rfl) dX0_halvesFit_55 ⟨Nat.le_of_ble_eq_true rfl, Nat.le_of_ble_eq_true rfl⟩) (fun r_8 M_z h => ?_)
      refine q_mem h.1 ?_
      have h := h.2
      refine q_iconst (v := (-1)) C dX0_halvesFit_58 (by decide) ?_
      refine q_icmp_ne (tgt := 66) C dX0_halvesFit_59 (by decide) (fun z => ?_) (fun z => ?_)
      · have h := h.1 z
        refine q_iconst (v := 0) C dX0_halvesFit_66 (by decide) ?_
        exact q_sub [3, 4, 5, 6, 2, 1] rfl h
      · have h := h.2 z
        refine q_iconst (v := 1) C dX0_halvesFit_62 (by decide) ?_
        refine q_goto (tgt := 67) C dX0_halvesFit_63 (by decide) ?_
        exact q_sub [3, 4, 5, 6, 2, 1] rfl h
set_option maxRecDepth 100000 in
set_option maxHeartbeats 4000000 in
theorem b_X0_halvesFit_67 {p : Program} {l : Launch} {e : Env} {s : State} {m : MethodId} {args : Array Value} {below : List Frame} {meth : Method} {c : Code} {D : va_G} {cA : Nat → ClassId} {lo : Nat} (C : Cx p s m args c cX0_halvesFit 8 RX0 wsX0_halvesFit D cA lo) (hr : meth.sig.returnType = (some .boolean)) (hlk : meth.locks = false) {Q : Int32 → Mm → Prop} (M : Mm) (a0 : Nat) (a1 : Nat) (i2 : Int32) (i3 : Int32) (i4 : Int32) (i5 : Int32) (is0 : Int32) (h : S_X0_halvesFit_67 (fun (a0 : Nat) (a1 : Nat) (i2 : Int32) (i3 : Int32) (M : Mm) => QW p l e ({ frames := 2, cells := 0, slots := 0, locals := 42 } : Room) s m args below meth c (MQ below (QiM D cA lo Q) args s 0 0 (fun q => lo ≤ q)) 8 D cA lo 0 0 M 2 [(0, .ref a0), (1, .ref a1), (2, .int i2), (3, .int i3)] []) (fun (a0 : Nat) (a1 : Nat) (i2 : Int32) (i3 : Int32) (i4 : Int32) (i5 : Int32) (is0 : Int32) (M : Mm) => QW p l e ({ frames := 2, cells := 0, slots := 0, locals := 42 } : Room) s m args below meth c (MQ below (QiM D cA lo Q) args s 0 0 (fun q => lo ≤ q)) 8 D cA lo 0 0 M 67 [(0, .ref a0), (1, .ref a1), (2, .int i2), (3, .int i3), (4, .int i4), (5, .int i5)] [.int is0]) Q M a0 a1 i2 i3 i4 i5 is0) : QW p l e ({ frames := 2, cells := 0, slots := 0, locals := 42 } : Room) s m args below meth c (MQ below (QiM D cA lo Q) args s 0 0 (fun q => lo ≤ q)) 8 D cA lo 0 0 M 67 [(0, .ref a0), (1, .ref a1), (2, .int i2), (3, .int i3), (4, .int i4), (5, .int i5)] [.int is0] := by
  unfold S_X0_halvesFit_67 at h
  refine q_istore (lv' := [(7, .int is0), (0, .ref a0), (1, .ref a1), (2, .int i2), (3, .int i3), (4, .int i4), (5, .int i5)]) C dX0_halvesFit_67 (by decide) rfl ?_
  refine q_iload C dX0_halvesFit_69 (j := 0) rfl ?_
  refine q_if_ne (tgt := 88) C dX0_halvesFit_71 (by decide) (fun z => ?_) (fun z => ?_)
  · have h := h.1 z
    refine q_iconst (v := 0) C dX0_halvesFit_88 (by decide) ?_
    exact q_zret C hr hlk dX0_halvesFit_89 (Nat.le_of_ble_eq_true rfl) (Nat.le_of_ble_eq_true rfl) (Or.inl rfl) h
  · have h := h.2 z
    refine q_aload_n C dX0_halvesFit_74 rfl (j := 1) rfl ?_
    refine q_getR (ci := 0) (k0 := 1) (T := TX0) C inX0_halvesFit_X0 rfl (by decide) h.1 (by decide) rfl (by decide +kernel) rfl dX0_halvesFit_75 ?_
    obtain ⟨a_9, z, h⟩ := h.2
    refine q_ref z ?_
    refine q_iload C dX0_halvesFit_78 (j := 5) rfl ?_
    refine q_iload C dX0_halvesFit_80 (j := 6) rfl ?_
    refine q_ci (q_runV (As := [.int i4, .int i5]) (st := []) C (c_X2_mark l D cA lo h.2) (cwV 2 C.2.2.2.2.1 gX0_halvesFit_X2_mark rfl rfl rfl (by decide +kernel) ⟨Nat.le_of_ble_eq_true rfl, Nat.le_of_ble_eq_true rfl⟩) h.1 (by decide) rfl rfl rfl (Nat.le_of_ble_eq_true rfl) dX0_halvesFit_82 ⟨Nat.le_of_ble_eq_true rfl, Nat.le_of_ble_eq_true rfl⟩) (fun r_10 M_11 h => ?_)
    refine q_if_ne (tgt := 90) C dX0_halvesFit_85 (by decide) (fun z => ?_) (fun z => ?_)
    · have h := h.1 z
      refine q_iinc (v := (i3 + 1)) (lv' := [(3, .int (i3 + 1)), (7, .int is0), (0, .ref a0), (1, .ref a1), (2, .int i2), (4, .int i4), (5, .int i5)]) C dX0_halvesFit_90 (j := 4) rfl rfl (by decide) rfl ?_
      refine q_goto (tgt := 2) C dX0_halvesFit_93 (by decide) ?_
      exact q_sub [2, 3, 4, 0] rfl h
    · have h := h.2 z
      refine q_iconst (v := 0) C dX0_halvesFit_88 (by decide) ?_
      exact q_zret C hr hlk dX0_halvesFit_89 (Nat.le_of_ble_eq_true rfl) (Nat.le_of_ble_eq_true rfl) (Or.inl rfl) h
set_option maxRecDepth 100000 in
set_option maxHeartbeats 4000000 in
theorem c_X0_halvesFit (l : Launch) (D : va_G) (cA : Nat → ClassId) (lo : Nat) {M : Mm} {a0 : Nat} {a1 : Nat} {i2 : Int32} {Q : Int32 → Mm → Prop} (h : T_X0_halvesFit M a0 a1 i2 Q) : Met l yX0_halvesFit wsX0_halvesFit ({ frames := 2, cells := 0, slots := 0, locals := 42 } : Room) (PcM D cA lo [.ref a0, .ref a1, .int i2] M) (QiM D cA lo Q) 0 0 (fun q => lo ≤ q) := by
  refine q_start (cc := cX0_halvesFit) (nL := 8) (ret := (some .boolean)) (by decide) rfl rfl (Nat.le_of_ble_eq_true rfl) ?_
  intro p e s m args below meth c C hr hlk hin
  unfold T_X0_halvesFit at h
  have h := h (fun (a0 : Nat) (a1 : Nat) (i2 : Int32) (i3 : Int32) (M : Mm) => QW p l e ({ frames := 2, cells := 0, slots := 0, locals := 42 } : Room) s m args below meth c (MQ below (QiM D cA lo Q) args s 0 0 (fun q => lo ≤ q)) 8 D cA lo 0 0 M 2 [(0, .ref a0), (1, .ref a1), (2, .int i2), (3, .int i3)] []) (fun (a0 : Nat) (a1 : Nat) (i2 : Int32) (i3 : Int32) (i4 : Int32) (i5 : Int32) (is0 : Int32) (M : Mm) => QW p l e ({ frames := 2, cells := 0, slots := 0, locals := 42 } : Room) s m args below meth c (MQ below (QiM D cA lo Q) args s 0 0 (fun q => lo ≤ q)) 8 D cA lo 0 0 M 67 [(0, .ref a0), (1, .ref a1), (2, .int i2), (3, .int i3), (4, .int i4), (5, .int i5)] [.int is0]) (fun a0 a1 i2 i3 M h => b_X0_halvesFit_2 C hr hlk M a0 a1 i2 i3 h) (fun a0 a1 i2 i3 i4 i5 is0 M h => b_X0_halvesFit_67 C hr hlk M a0 a1 i2 i3 i4 i5 is0 h)
  refine q_iconst (v := 0) C dX0_halvesFit_0 (by decide) ?_
  refine q_istore_n (lv' := [(3, .int 0), (0, .ref a0), (1, .ref a1), (2, .int i2)]) C dX0_halvesFit_1 rfl (by decide) rfl ?_
  exact q_sub [1, 2, 3, 0] rfl h
def T_X1_left (M : Mm) (a0 : Nat) (Q : Int32 → Prop) : Prop := kM M a0 = (1, 5) ∧ Q (iM M a0 4)
theorem inX1_left_X1 : ∀ w ∈ wsX10, w ∈ wsX1_left := by decide +kernel
set_option maxRecDepth 100000 in
set_option maxHeartbeats 4000000 in
theorem c_X1_left (l : Launch) (D : va_G) (cA : Nat → ClassId) (lo : Nat) {M : Mm} {a0 : Nat} {Q : Int32 → Prop} (h : T_X1_left M a0 Q) : Met l yX1_left wsX1_left ({ frames := 0, cells := 0, slots := 0, locals := 0 } : Room) (PcM D cA lo [.ref a0] M) (QiM D cA lo (fun r M1 => M1 = M ∧ Q r)) 0 0 (fun q => lo ≤ q) := by
  refine q_start (cc := cX1_left) (nL := 1) (ret := (some .int)) (by decide) rfl rfl (Nat.le_of_ble_eq_true rfl) ?_
  intro p e s m args below meth c C hr hlk hin
  unfold T_X1_left at h
  refine q_aload_n C dX1_left_0 rfl (j := 0) rfl ?_
  refine q_getI (ci := 1) (k0 := 4) (T := TX1) C inX1_left_X1 rfl (by decide) h.1 (by decide) rfl (by decide +kernel) rfl dX1_left_1 ?_
  have h := h.2
  exact q_iret C hr hlk dX1_left_4 (Nat.le_of_ble_eq_true rfl) (Nat.le_of_ble_eq_true rfl) ⟨rfl, h⟩
def S_X0_fits_12 (K12 : Nat → Int32 → Int32 → Int32 → Int32 → Mm → Prop) (Q : Int32 → Mm → Prop) (M : Mm) (a0 : Nat) (i1 : Int32) (i2 : Int32) (i3 : Int32) (i4 : Int32) : Prop := (100 ≤ i4 → kM M a0 = (0, 3) ∧ ∃ a_4 : Nat, rM M a0 0 = some a_4 ∧ kM M a_4 = (1, 5) ∧ T_X1_left M a_4 (fun r_5 => (r_5 ≤ i3 → Q 0 M) ∧ (¬ r_5 ≤ i3 → Q 1 M))) ∧ (¬ 100 ≤ i4 → kM M a0 = (0, 3) ∧ ∃ a_6 : Nat, rM M a0 0 = some a_6 ∧ kM M a_6 = (1, 5) ∧ T_X1_owner M a_6 i2 i4 (fun r_7 => (r_7 = (-1) → K12 a0 i1 i2 i3 (i4 + 1) M) ∧ (¬ r_7 = (-1) → kM M a0 = (0, 3) ∧ T_X0_shape M a0 r_7 i1 i2 (fun r_8 M_9 => kM M_9 r_8 = (5, 2) ∧ T_X5_length M_9 r_8 (fun r_10 => (3 ≤ r_10 → kM M_9 a0 = (0, 3) ∧ T_X0_halvesFit M_9 a0 r_8 i2 (fun r_11 M_12 => (¬ r_11 = 0 → K12 a0 i1 i2 i3 (i4 + 1) M_12) ∧ (r_11 = 0 → Q 0 M_12))) ∧ (¬ 3 ≤ r_10 → K12 a0 i1 i2 (i3 + 1) (i4 + 1) M_9))))))
def T_X0_fits (M : Mm) (a0 : Nat) (i1 : Int32) (i2 : Int32) (Q : Int32 → Mm → Prop) : Prop := ∀ (K12 : Nat → Int32 → Int32 → Int32 → Int32 → Mm → Prop), (∀ (a0 : Nat) (i1 : Int32) (i2 : Int32) (i3 : Int32) (i4 : Int32) (M : Mm), S_X0_fits_12 K12 Q M a0 i1 i2 i3 i4 → K12 a0 i1 i2 i3 i4 M) → kM M a0 = (0, 3) ∧ ∃ a_1 : Nat, rM M a0 1 = some a_1 ∧ kM M a_1 = (2, 2) ∧ T_X2_takeOff M a_1 (fun M_3 => K12 a0 i1 i2 0 0 M_3)
theorem inX0_fits_X0 : ∀ w ∈ wsX00, w ∈ wsX0_fits := by decide +kernel
set_option maxRecDepth 100000 in
set_option maxHeartbeats 4000000 in
theorem b_X0_fits_12 {p : Program} {l : Launch} {e : Env} {s : State} {m : MethodId} {args : Array Value} {below : List Frame} {meth : Method} {c : Code} {D : va_G} {cA : Nat → ClassId} {lo : Nat} (C : Cx p s m args c cX0_fits 7 RX0 wsX0_fits D cA lo) (hr : meth.sig.returnType = (some .boolean)) (hlk : meth.locks = false) {Q : Int32 → Mm → Prop} (M : Mm) (a0 : Nat) (i1 : Int32) (i2 : Int32) (i3 : Int32) (i4 : Int32) (h : S_X0_fits_12 (fun (a0 : Nat) (i1 : Int32) (i2 : Int32) (i3 : Int32) (i4 : Int32) (M : Mm) => QW p l e ({ frames := 3, cells := 0, slots := 0, locals := 69 } : Room) s m args below meth c (MQ below (QiM D cA lo Q) args s 0 0 (fun q => lo ≤ q)) 7 D cA lo 0 0 M 12 [(0, .ref a0), (1, .int i1), (2, .int i2), (3, .int i3), (4, .int i4)] []) Q M a0 i1 i2 i3 i4) : QW p l e ({ frames := 3, cells := 0, slots := 0, locals := 69 } : Room) s m args below meth c (MQ below (QiM D cA lo Q) args s 0 0 (fun q => lo ≤ q)) 7 D cA lo 0 0 M 12 [(0, .ref a0), (1, .int i1), (2, .int i2), (3, .int i3), (4, .int i4)] [] := by
  unfold S_X0_fits_12 at h
  refine q_iload C dX0_fits_12 (j := 4) rfl ?_
  refine q_bipush (v := 100) C dX0_fits_14 (by decide) ?_
  refine q_icmp_ge (tgt := 80) C dX0_fits_16 (by decide) (fun z => ?_) (fun z => ?_)
  · have h := h.1 z
    refine q_iload_n C dX0_fits_80 rfl (j := 3) rfl ?_
    refine q_aload_n C dX0_fits_81 rfl (j := 0) rfl ?_
    refine q_getR (ci := 0) (k0 := 0) (T := TX0) C inX0_fits_X0 rfl (by decide) h.1 (by decide) rfl (by decide +kernel) rfl dX0_fits_82 ?_
    obtain ⟨a_4, z, h⟩ := h.2
    refine q_ref z ?_
    refine q_ci (q_runV (As := []) (st := [.int i3]) C (c_X1_left l D cA lo h.2) (cwV 0 C.2.2.2.2.1 gX0_fits_X1_left rfl rfl rfl (by decide +kernel) ⟨Nat.le_of_ble_eq_true rfl, Nat.le_of_ble_eq_true rfl⟩) h.1 (by decide) rfl rfl rfl (Nat.le_of_ble_eq_true rfl) dX0_fits_85 ⟨Nat.le_of_ble_eq_true rfl, Nat.le_of_ble_eq_true rfl⟩) (fun r_5 M_z h => ?_)
    refine q_mem h.1 ?_
    have h := h.2
    refine q_icmp_ge (tgt := 95) C dX0_fits_88 (by decide) (fun z => ?_) (fun z => ?_)
    · have h := h.1 z
      refine q_iconst (v := 0) C dX0_fits_95 (by decide) ?_
      exact q_zret C hr hlk dX0_fits_96 (Nat.le_of_ble_eq_true rfl) (Nat.le_of_ble_eq_true rfl) (Or.inl rfl) h
    · have h := h.2 z
      refine q_iconst (v := 1) C dX0_fits_91 (by decide) ?_
      refine q_goto (tgt := 96) C dX0_fits_92 (by decide) ?_
      exact q_zret C hr hlk dX0_fits_96 (Nat.le_of_ble_eq_true rfl) (Nat.le_of_ble_eq_true rfl) (Or.inr rfl) h
  · have h := h.2 z
    refine q_aload_n C dX0_fits_19 rfl (j := 0) rfl ?_
    refine q_getR (ci := 0) (k0 := 0) (T := TX0) C inX0_fits_X0 rfl (by decide) h.1 (by decide) rfl (by decide +kernel) rfl dX0_fits_20 ?_
    obtain ⟨a_6, z, h⟩ := h.2
    refine q_ref z ?_
    refine q_iload_n C dX0_fits_23 rfl (j := 2) rfl ?_
    refine q_iload C dX0_fits_24 (j := 4) rfl ?_
    refine q_ci (q_runV (As := [.int i2, .int i4]) (st := []) C (c_X1_owner l D cA lo h.2) (cwV 2 C.2.2.2.2.1 gX0_fits_X1_owner rfl rfl rfl (by decide +kernel) ⟨Nat.le_of_ble_eq_true rfl, Nat.le_of_ble_eq_true rfl⟩) h.1 (by decide) rfl rfl rfl (Nat.le_of_ble_eq_true rfl) dX0_fits_26 ⟨Nat.le_of_ble_eq_true rfl, Nat.le_of_ble_eq_true rfl⟩) (fun r_7 M_z h => ?_)
    refine q_mem h.1 ?_
    have h := h.2
    refine q_istore (lv' := [(5, .int r_7), (0, .ref a0), (1, .int i1), (2, .int i2), (3, .int i3), (4, .int i4)]) C dX0_fits_29 (by decide) rfl ?_
    refine q_iload C dX0_fits_31 (j := 0) rfl ?_
    refine q_iconst (v := (-1)) C dX0_fits_33 (by decide) ?_
    refine q_icmp_eq (tgt := 74) C dX0_fits_34 (by decide) (fun z => ?_) (fun z => ?_)
    · have h := h.1 z
      refine q_iinc (v := (i4 + 1)) (lv' := [(4, .int (i4 + 1)), (5, .int r_7), (0, .ref a0), (1, .int i1), (2, .int i2), (3, .int i3)]) C dX0_fits_74 (j := 5) rfl rfl (by decide) rfl ?_
      refine q_goto (tgt := 12) C dX0_fits_77 (by decide) ?_
      exact q_sub [2, 3, 4, 5, 0] rfl h
    · have h := h.2 z
      refine q_aload_n C dX0_fits_37 rfl (j := 1) rfl ?_
      refine q_iload C dX0_fits_38 (j := 0) rfl ?_
      refine q_iload_n C dX0_fits_40 rfl (j := 2) rfl ?_
      refine q_iload_n C dX0_fits_41 rfl (j := 3) rfl ?_
      refine q_cr (q_runV (As := [.int r_7, .int i1, .int i2]) (st := []) C (c_X0_shape l D cA lo h.2) (cwV 3 C.2.2.2.2.1 gX0_fits_X0_shape rfl rfl rfl (by decide +kernel) ⟨Nat.le_of_ble_eq_true rfl, Nat.le_of_ble_eq_true rfl⟩) h.1 (by decide) rfl rfl rfl (Nat.le_of_ble_eq_true rfl) dX0_fits_42 ⟨Nat.le_of_ble_eq_true rfl, Nat.le_of_ble_eq_true rfl⟩) (fun r_8 M_9 h => ?_)
      refine q_astore (lv' := [(6, .ref r_8), (5, .int r_7), (0, .ref a0), (1, .int i1), (2, .int i2), (3, .int i3), (4, .int i4)]) C dX0_fits_45 (by decide) rfl ?_
      refine q_aload C dX0_fits_47 (j := 0) rfl ?_
      refine q_ci (q_runV (As := []) (st := []) C (c_X5_length l D cA lo h.2) (cwV 0 C.2.2.2.2.1 gX0_fits_X5_length rfl rfl rfl (by decide +kernel) ⟨Nat.le_of_ble_eq_true rfl, Nat.le_of_ble_eq_true rfl⟩) h.1 (by decide) rfl rfl rfl (Nat.le_of_ble_eq_true rfl) dX0_fits_49 ⟨Nat.le_of_ble_eq_true rfl, Nat.le_of_ble_eq_true rfl⟩) (fun r_10 M_z h => ?_)
      refine q_mem h.1 ?_
      have h := h.2
      refine q_iconst (v := 3) C dX0_fits_52 (by decide) ?_
      refine q_icmp_ge (tgt := 62) C dX0_fits_53 (by decide) (fun z => ?_) (fun z => ?_)
      · have h := h.1 z
        refine q_aload_n C dX0_fits_62 rfl (j := 2) rfl ?_
        refine q_aload C dX0_fits_63 (j := 0) rfl ?_
        refine q_iload_n C dX0_fits_65 rfl (j := 4) rfl ?_
        refine q_ci (q_runV (As := [.ref r_8, .int i2]) (st := []) C (c_X0_halvesFit l D cA lo h.2) (cwV 2 C.2.2.2.2.1 gX0_fits_X0_halvesFit rfl rfl rfl (by decide +kernel) ⟨Nat.le_of_ble_eq_true rfl, Nat.le_of_ble_eq_true rfl⟩) h.1 (by decide) rfl rfl rfl (Nat.le_of_ble_eq_true rfl) dX0_fits_66 ⟨Nat.le_of_ble_eq_true rfl, Nat.le_of_ble_eq_true rfl⟩) (fun r_11 M_12 h => ?_)
        refine q_if_ne (tgt := 74) C dX0_fits_69 (by decide) (fun z => ?_) (fun z => ?_)
        · have h := h.1 z
          refine q_iinc (v := (i4 + 1)) (lv' := [(4, .int (i4 + 1)), (6, .ref r_8), (5, .int r_7), (0, .ref a0), (1, .int i1), (2, .int i2), (3, .int i3)]) C dX0_fits_74 (j := 6) rfl rfl (by decide) rfl ?_
          refine q_goto (tgt := 12) C dX0_fits_77 (by decide) ?_
          exact q_sub [3, 4, 5, 6, 0] rfl h
        · have h := h.2 z
          refine q_iconst (v := 0) C dX0_fits_72 (by decide) ?_
          exact q_zret C hr hlk dX0_fits_73 (Nat.le_of_ble_eq_true rfl) (Nat.le_of_ble_eq_true rfl) (Or.inl rfl) h
      · have h := h.2 z
        refine q_iinc (v := (i3 + 1)) (lv' := [(3, .int (i3 + 1)), (6, .ref r_8), (5, .int r_7), (0, .ref a0), (1, .int i1), (2, .int i2), (4, .int i4)]) C dX0_fits_56 (j := 5) rfl rfl (by decide) rfl ?_
        refine q_goto (tgt := 74) C dX0_fits_59 (by decide) ?_
        refine q_iinc (v := (i4 + 1)) (lv' := [(4, .int (i4 + 1)), (3, .int (i3 + 1)), (6, .ref r_8), (5, .int r_7), (0, .ref a0), (1, .int i1), (2, .int i2)]) C dX0_fits_74 (j := 6) rfl rfl (by decide) rfl ?_
        refine q_goto (tgt := 12) C dX0_fits_77 (by decide) ?_
        exact q_sub [4, 5, 6, 1, 0] rfl h
set_option maxRecDepth 100000 in
set_option maxHeartbeats 4000000 in
theorem c_X0_fits (l : Launch) (D : va_G) (cA : Nat → ClassId) (lo : Nat) {M : Mm} {a0 : Nat} {i1 : Int32} {i2 : Int32} {Q : Int32 → Mm → Prop} (h : T_X0_fits M a0 i1 i2 Q) : Met l yX0_fits wsX0_fits ({ frames := 3, cells := 0, slots := 0, locals := 69 } : Room) (PcM D cA lo [.ref a0, .int i1, .int i2] M) (QiM D cA lo Q) 0 0 (fun q => lo ≤ q) := by
  refine q_start (cc := cX0_fits) (nL := 7) (ret := (some .boolean)) (by decide) rfl rfl (Nat.le_of_ble_eq_true rfl) ?_
  intro p e s m args below meth c C hr hlk hin
  unfold T_X0_fits at h
  have h := h (fun (a0 : Nat) (i1 : Int32) (i2 : Int32) (i3 : Int32) (i4 : Int32) (M : Mm) => QW p l e ({ frames := 3, cells := 0, slots := 0, locals := 69 } : Room) s m args below meth c (MQ below (QiM D cA lo Q) args s 0 0 (fun q => lo ≤ q)) 7 D cA lo 0 0 M 12 [(0, .ref a0), (1, .int i1), (2, .int i2), (3, .int i3), (4, .int i4)] []) (fun a0 i1 i2 i3 i4 M h => b_X0_fits_12 C hr hlk M a0 i1 i2 i3 i4 h)
  refine q_aload_n C dX0_fits_0 rfl (j := 0) rfl ?_
  refine q_getR (ci := 0) (k0 := 1) (T := TX0) C inX0_fits_X0 rfl (by decide) h.1 (by decide) rfl (by decide +kernel) rfl dX0_fits_1 ?_
  obtain ⟨a_1, z, h⟩ := h.2
  refine q_ref z ?_
  refine q_cv (q_runV (As := []) (st := []) C (c_X2_takeOff l D cA lo h.2) (cwV 0 C.2.2.2.2.1 gX0_fits_X2_takeOff rfl rfl rfl (by decide +kernel) ⟨Nat.le_of_ble_eq_true rfl, Nat.le_of_ble_eq_true rfl⟩) h.1 (by decide) rfl rfl rfl (Nat.le_of_ble_eq_true rfl) dX0_fits_4 ⟨Nat.le_of_ble_eq_true rfl, Nat.le_of_ble_eq_true rfl⟩) (fun M_3 h => ?_)
  refine q_iconst (v := 0) C dX0_fits_7 (by decide) ?_
  refine q_istore_n (lv' := [(3, .int 0), (0, .ref a0), (1, .int i1), (2, .int i2)]) C dX0_fits_8 rfl (by decide) rfl ?_
  refine q_iconst (v := 0) C dX0_fits_9 (by decide) ?_
  refine q_istore (lv' := [(4, .int 0), (3, .int 0), (0, .ref a0), (1, .int i1), (2, .int i2)]) C dX0_fits_10 (by decide) rfl ?_
  exact q_sub [2, 3, 4, 1, 0] rfl h
