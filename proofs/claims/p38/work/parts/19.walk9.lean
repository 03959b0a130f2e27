def S_X8_mixFace_30 (K30 : Nat → Nat → Int64 → Int32 → Prop) (K64 : Nat → Nat → Int64 → Int32 → Prop) (Q : Int64 → Prop) (M : Mm) (a0 : Nat) (a4 : Nat) (l5 : Int64) (i7 : Int32) : Prop := kM M a4 = (5, 2) ∧ T_X5_length M a4 (fun r_6 => (r_6 ≤ i7 → K64 a0 a4 l5 0) ∧ (¬ r_6 ≤ i7 → kM M a4 = (5, 2) ∧ T_X5_get M a4 i7 (fun r_7 => T_X8_mix M l5 r_7.toInt64 (fun r_8 => K30 a0 a4 r_8 (i7 + 1)))))
def S_X8_mixFace_64 (K30 : Nat → Nat → Int64 → Int32 → Prop) (K64 : Nat → Nat → Int64 → Int32 → Prop) (Q : Int64 → Prop) (M : Mm) (a0 : Nat) (a4 : Nat) (l5 : Int64) (i7 : Int32) : Prop := (3 ≤ i7 → Q l5) ∧ (¬ 3 ≤ i7 → kM M a0 = (8, 8) ∧ ∃ a_9 : Nat, rM M a0 0 = some a_9 ∧ kM M a_9 = (3, 4) ∧ T_X3_normalOf M a_9 a4 i7 (fun r_10 => T_X8_mix M l5 r_10.toInt64 (fun r_11 => K64 a0 a4 r_11 (i7 + 1))))
def T_X8_mixFace (M : Mm) (a0 : Nat) (l1 : Int64) (i3 : Int32) (Q : Int64 → Prop) : Prop := ∀ (K30 : Nat → Nat → Int64 → Int32 → Prop) (K64 : Nat → Nat → Int64 → Int32 → Prop), (∀ (a0 : Nat) (a4 : Nat) (l5 : Int64) (i7 : Int32), S_X8_mixFace_30 K30 K64 Q M a0 a4 l5 i7 → K30 a0 a4 l5 i7) → (∀ (a0 : Nat) (a4 : Nat) (l5 : Int64) (i7 : Int32), S_X8_mixFace_64 K30 K64 Q M a0 a4 l5 i7 → K64 a0 a4 l5 i7) → kM M a0 = (8, 8) ∧ ∃ a_1 : Nat, rM M a0 1 = some a_1 ∧ kM M a_1 = (1, 5) ∧ T_X1_ring M a_1 i3 (fun r_2 => T_X8_mix M l1 i3.toInt64 (fun r_3 => kM M r_2 = (5, 2) ∧ T_X5_length M r_2 (fun r_4 => T_X8_mix M r_3 r_4.toInt64 (fun r_5 => K30 a0 r_2 r_5 0))))
theorem inX8_mixFace_X8 : ∀ w ∈ wsX80, w ∈ wsX8_mixFace := by decide +kernel
set_option maxRecDepth 100000 in
set_option maxHeartbeats 4000000 in
theorem b_X8_mixFace_30 {p : Program} {l : Launch} {e : Env} {s : State} {m : MethodId} {args : Array Value} {below : List Frame} {meth : Method} {c : Code} {D : va_G} {cA : Nat → ClassId} {lo : Nat} (C : Cx p s m args c cX8_mixFace 8 RX8 wsX8_mixFace D cA lo) (hr : meth.sig.returnType = (some .long)) (hlk : meth.locks = false) {Q : Int64 → Prop} {M : Mm} (a0 : Nat) (a4 : Nat) (l5 : Int64) (i7 : Int32) (h : S_X8_mixFace_30 (fun (a0 : Nat) (a4 : Nat) (l5 : Int64) (i7 : Int32) => QW p l e ({ frames := 3, cells := 0, slots := 0, locals := 70 } : Room) s m args below meth c (MQ below (QlM D cA lo (fun r M1 => M1 = M ∧ Q r)) args s 0 0 (fun q => lo ≤ q)) 8 D cA lo 0 0 M 30 [(0, .ref a0), (4, .ref a4), (5, .long l5), (7, .int i7)] []) (fun (a0 : Nat) (a4 : Nat) (l5 : Int64) (i7 : Int32) => QW p l e ({ frames := 3, cells := 0, slots := 0, locals := 70 } : Room) s m args below meth c (MQ below (QlM D cA lo (fun r M1 => M1 = M ∧ Q r)) args s 0 0 (fun q => lo ≤ q)) 8 D cA lo 0 0 M 64 [(0, .ref a0), (4, .ref a4), (5, .long l5), (7, .int i7)] []) Q M a0 a4 l5 i7) : QW p l e ({ frames := 3, cells := 0, slots := 0, locals := 70 } : Room) s m args below meth c (MQ below (QlM D cA lo (fun r M1 => M1 = M ∧ Q r)) args s 0 0 (fun q => lo ≤ q)) 8 D cA lo 0 0 M 30 [(0, .ref a0), (4, .ref a4), (5, .long l5), (7, .int i7)] [] := by
  unfold S_X8_mixFace_30 at h
  refine q_iload C dX8_mixFace_30 (j := 3) rfl ?_
  refine q_aload C dX8_mixFace_32 (j := 1) rfl ?_
  refine q_ci (q_runV (As := []) (st := [.int i7]) C (c_X5_length l D cA lo h.2) (cwV 0 C.2.2.2.2.1 gX8_mixFace_X5_length rfl rfl rfl (by decide +kernel) ⟨Nat.le_of_ble_eq_true rfl, Nat.le_of_ble_eq_true rfl⟩) h.1 (by decide) rfl rfl rfl (Nat.le_of_ble_eq_true rfl) dX8_mixFace_34 ⟨Nat.le_of_ble_eq_true rfl, Nat.le_of_ble_eq_true rfl⟩) (fun r_6 M_z h => ?_)
  refine q_mem h.1 ?_
  have h := h.2
  refine q_icmp_ge (tgt := 61) C dX8_mixFace_37 (by decide) (fun z => ?_) (fun z => ?_)
  · have h := h.1 z
    refine q_iconst (v := 0) C dX8_mixFace_61 (by decide) ?_
    refine q_istore (lv' := [(7, .int 0), (0, .ref a0), (4, .ref a4), (5, .long l5)]) C dX8_mixFace_62 (by decide) rfl ?_
    exact q_sub [1, 2, 3, 0] rfl h
  · have h := h.2 z
    refine q_lload C dX8_mixFace_40 (j := 2) rfl ?_
    refine q_aload C dX8_mixFace_42 (j := 1) rfl ?_
    refine q_iload C dX8_mixFace_44 (j := 3) rfl ?_
    refine q_ci (q_runV (As := [.int i7]) (st := [.long l5]) C (c_X5_get l D cA lo h.2) (cwV 1 C.2.2.2.2.1 gX8_mixFace_X5_get rfl rfl rfl (by decide +kernel) ⟨Nat.le_of_ble_eq_true rfl, Nat.le_of_ble_eq_true rfl⟩) h.1 (by decide) rfl rfl rfl (Nat.le_of_ble_eq_true rfl) dX8_mixFace_46 ⟨Nat.le_of_ble_eq_true rfl, Nat.le_of_ble_eq_true rfl⟩) (fun r_7 M_z h => ?_)
    refine q_mem h.1 ?_
    have h := h.2
    refine q_i2l C dX8_mixFace_49 ?_
    refine q_cl (q_runS (As := [.long l5, .long r_7.toInt64]) (st := []) C (c_X8_mix l D cA lo h) (va_cwS 2 C.2.2.2.2.1 gX8_mixFace_X8_mix rfl rfl rfl (by decide +kernel) ⟨Nat.le_of_ble_eq_true rfl, Nat.le_of_ble_eq_true rfl⟩) rfl rfl (Nat.le_of_ble_eq_true rfl) dX8_mixFace_50 ⟨Nat.le_of_ble_eq_true rfl, Nat.le_of_ble_eq_true rfl⟩) (fun r_8 M_z h => ?_)
    refine q_mem h.1 ?_
    have h := h.2
    refine q_lstore (lv' := [(5, .long r_8), (0, .ref a0), (4, .ref a4), (7, .int i7)]) C dX8_mixFace_53 (by decide) rfl ?_
    refine q_iinc (v := (i7 + 1)) (lv' := [(7, .int (i7 + 1)), (5, .long r_8), (0, .ref a0), (4, .ref a4)]) C dX8_mixFace_55 (j := 3) rfl rfl (by decide) rfl ?_
    refine q_goto (tgt := 30) C dX8_mixFace_58 (by decide) ?_
    exact q_sub [2, 3, 1, 0] rfl h
set_option maxRecDepth 100000 in
set_option maxHeartbeats 4000000 in
theorem b_X8_mixFace_64 {p : Program} {l : Launch} {e : Env} {s : State} {m : MethodId} {args : Array Value} {below : List Frame} {meth : Method} {c : Code} {D : va_G} {cA : Nat → ClassId} {lo : Nat} (C : Cx p s m args c cX8_mixFace 8 RX8 wsX8_mixFace D cA lo) (hr : meth.sig.returnType = (some .long)) (hlk : meth.locks = false) {Q : Int64 → Prop} {M : Mm} (a0 : Nat) (a4 : Nat) (l5 : Int64) (i7 : Int32) (h : S_X8_mixFace_64 (fun (a0 : Nat) (a4 : Nat) (l5 : Int64) (i7 : Int32) => QW p l e ({ frames := 3, cells := 0, slots := 0, locals := 70 } : Room) s m args below meth c (MQ below (QlM D cA lo (fun r M1 => M1 = M ∧ Q r)) args s 0 0 (fun q => lo ≤ q)) 8 D cA lo 0 0 M 30 [(0, .ref a0), (4, .ref a4), (5, .long l5), (7, .int i7)] []) (fun (a0 : Nat) (a4 : Nat) (l5 : Int64) (i7 : Int32) => QW p l e ({ frames := 3, cells := 0, slots := 0, locals := 70 } : Room) s m args below meth c (MQ below (QlM D cA lo (fun r M1 => M1 = M ∧ Q r)) args s 0 0 (fun q => lo ≤ q)) 8 D cA lo 0 0 M 64 [(0, .ref a0), (4, .ref a4), (5, .long l5), (7, .int i7)] []) Q M a0 a4 l5 i7) : QW p l e ({ frames := 3, cells := 0, slots := 0, locals := 70 } : Room) s m args below meth c (MQ below (QlM D cA lo (fun r M1 => M1 = M ∧ Q r)) args s 0 0 (fun q => lo ≤ q)) 8 D cA lo 0 0 M 64 [(0, .ref a0), (4, .ref a4), (5, .long l5), (7, .int i7)] [] := by
  unfold S_X8_mixFace_64 at h
  refine q_iload C dX8_mixFace_64 (j := 3) rfl ?_
  refine q_iconst (v := 3) C dX8_mixFace_66 (by decide) ?_
  refine q_icmp_ge (tgt := 95) C dX8_mixFace_67 (by decide) (fun z => ?_) (fun z => ?_)
  · have h := h.1 z
    refine q_lload C dX8_mixFace_95 (j := 2) rfl ?_
    exact q_lret C hr hlk dX8_mixFace_97 (Nat.le_of_ble_eq_true rfl) (Nat.le_of_ble_eq_true rfl) ⟨rfl, h⟩
  · have h := h.2 z
    refine q_lload C dX8_mixFace_70 (j := 2) rfl ?_
    refine q_aload_n C dX8_mixFace_72 rfl (j := 0) rfl ?_
    refine q_getR (ci := 8) (k0 := 0) (T := TX8) C inX8_mixFace_X8 rfl (by decide) h.1 (by decide) rfl (by decide +kernel) rfl dX8_mixFace_73 ?_
    obtain ⟨a_9, z, h⟩ := h.2
    refine q_ref z ?_
    refine q_aload C dX8_mixFace_76 (j := 1) rfl ?_
    refine q_iload C dX8_mixFace_78 (j := 3) rfl ?_
    refine q_ci (q_runV (As := [.ref a4, .int i7]) (st := [.long l5]) C (c_X3_normalOf l D cA lo h.2) (cwV 2 C.2.2.2.2.1 gX8_mixFace_X3_normalOf rfl rfl rfl (by decide +kernel) ⟨Nat.le_of_ble_eq_true rfl, Nat.le_of_ble_eq_true rfl⟩) h.1 (by decide) rfl rfl rfl (Nat.le_of_ble_eq_true rfl) dX8_mixFace_80 ⟨Nat.le_of_ble_eq_true rfl, Nat.le_of_ble_eq_true rfl⟩) (fun r_10 M_z h => ?_)
    refine q_mem h.1 ?_
    have h := h.2
    refine q_i2l C dX8_mixFace_83 ?_
    refine q_cl (q_runS (As := [.long l5, .long r_10.toInt64]) (st := []) C (c_X8_mix l D cA lo h) (va_cwS 2 C.2.2.2.2.1 gX8_mixFace_X8_mix rfl rfl rfl (by decide +kernel) ⟨Nat.le_of_ble_eq_true rfl, Nat.le_of_ble_eq_true rfl⟩) rfl rfl (Nat.le_of_ble_eq_true rfl) dX8_mixFace_84 ⟨Nat.le_of_ble_eq_true rfl, Nat.le_of_ble_eq_true rfl⟩) (fun r_11 M_z h => ?_)
    refine q_mem h.1 ?_
    have h := h.2
    refine q_lstore (lv' := [(5, .long r_11), (0, .ref a0), (4, .ref a4), (7, .int i7)]) C dX8_mixFace_87 (by decide) rfl ?_
    refine q_iinc (v := (i7 + 1)) (lv' := [(7, .int (i7 + 1)), (5, .long r_11), (0, .ref a0), (4, .ref a4)]) C dX8_mixFace_89 (j := 3) rfl rfl (by decide) rfl ?_
    refine q_goto (tgt := 64) C dX8_mixFace_92 (by decide) ?_
    exact q_sub [2, 3, 1, 0] rfl h
set_option maxRecDepth 100000 in
set_option maxHeartbeats 4000000 in
theorem c_X8_mixFace (l : Launch) (D : va_G) (cA : Nat → ClassId) (lo : Nat) {M : Mm} {a0 : Nat} {l1 : Int64} {i3 : Int32} {Q : Int64 → Prop} (h : T_X8_mixFace M a0 l1 i3 Q) : Met l yX8_mixFace wsX8_mixFace ({ frames := 3, cells := 0, slots := 0, locals := 70 } : Room) (PcM D cA lo [.ref a0, .long l1, .int i3] M) (QlM D cA lo (fun r M1 => M1 = M ∧ Q r)) 0 0 (fun q => lo ≤ q) := by
  refine q_start (cc := cX8_mixFace) (nL := 8) (ret := (some .long)) (by decide) rfl rfl (Nat.le_of_ble_eq_true rfl) ?_
  intro p e s m args below meth c C hr hlk hin
  unfold T_X8_mixFace at h
  have h := h (fun (a0 : Nat) (a4 : Nat) (l5 : Int64) (i7 : Int32) => QW p l e ({ frames := 3, cells := 0, slots := 0, locals := 70 } : Room) s m args below meth c (MQ below (QlM D cA lo (fun r M1 => M1 = M ∧ Q r)) args s 0 0 (fun q => lo ≤ q)) 8 D cA lo 0 0 M 30 [(0, .ref a0), (4, .ref a4), (5, .long l5), (7, .int i7)] []) (fun (a0 : Nat) (a4 : Nat) (l5 : Int64) (i7 : Int32) => QW p l e ({ frames := 3, cells := 0, slots := 0, locals := 70 } : Room) s m args below meth c (MQ below (QlM D cA lo (fun r M1 => M1 = M ∧ Q r)) args s 0 0 (fun q => lo ≤ q)) 8 D cA lo 0 0 M 64 [(0, .ref a0), (4, .ref a4), (5, .long l5), (7, .int i7)] []) (fun a0 a4 l5 i7 h => b_X8_mixFace_30 C hr hlk a0 a4 l5 i7 h) (fun a0 a4 l5 i7 h => b_X8_mixFace_64 C hr hlk a0 a4 l5 i7 h)
  refine q_aload_n C dX8_mixFace_0 rfl (j := 0) rfl ?_
  refine q_getR (ci := 8) (k0 := 1) (T := TX8) C inX8_mixFace_X8 rfl (by decide) h.1 (by decide) rfl (by decide +kernel) rfl dX8_mixFace_1 ?_
  obtain ⟨a_1, z, h⟩ := h.2
  refine q_ref z ?_
  refine q_iload_n C dX8_mixFace_4 rfl (j := 2) rfl ?_
  refine q_cr (q_runV (As := [.int i3]) (st := []) C (c_X1_ring l D cA lo h.2) (cwV 1 C.2.2.2.2.1 gX8_mixFace_X1_ring rfl rfl rfl (by decide +kernel) ⟨Nat.le_of_ble_eq_true rfl, Nat.le_of_ble_eq_true rfl⟩) h.1 (by decide) rfl rfl rfl (Nat.le_of_ble_eq_true rfl) dX8_mixFace_5 ⟨Nat.le_of_ble_eq_true rfl, Nat.le_of_ble_eq_true rfl⟩) (fun r_2 M_z h => ?_)
  refine q_mem h.1 ?_
  have h := h.2
  refine q_astore (lv' := [(4, .ref r_2), (0, .ref a0), (1, .long l1), (3, .int i3)]) C dX8_mixFace_8 (by decide) rfl ?_
  refine q_lload_n C dX8_mixFace_10 rfl (j := 2) rfl ?_
  refine q_iload_n C dX8_mixFace_11 rfl (j := 3) rfl ?_
  refine q_i2l C dX8_mixFace_12 ?_
  refine q_cl (q_runS (As := [.long l1, .long i3.toInt64]) (st := []) C (c_X8_mix l D cA lo h) (va_cwS 2 C.2.2.2.2.1 gX8_mixFace_X8_mix rfl rfl rfl (by decide +kernel) ⟨Nat.le_of_ble_eq_true rfl, Nat.le_of_ble_eq_true rfl⟩) rfl rfl (Nat.le_of_ble_eq_true rfl) dX8_mixFace_13 ⟨Nat.le_of_ble_eq_true rfl, Nat.le_of_ble_eq_true rfl⟩) (fun r_3 M_z h => ?_)
  refine q_mem h.1 ?_
  have h := h.2
  refine q_aload C dX8_mixFace_16 (j := 0) rfl ?_
  refine q_ci (q_runV (As := []) (st := [.long r_3]) C (c_X5_length l D cA lo h.2) (cwV 0 C.2.2.2.2.1 gX8_mixFace_X5_length rfl rfl rfl (by decide +kernel) ⟨Nat.le_of_ble_eq_true rfl, Nat.le_of_ble_eq_true rfl⟩) h.1 (by decide) rfl rfl rfl (Nat.le_of_ble_eq_true rfl) dX8_mixFace_18 ⟨Nat.le_of_ble_eq_true rfl, Nat.le_of_ble_eq_true rfl⟩) (fun r_4 M_z h => ?_)
  refine q_mem h.1 ?_
  have h := h.2
  refine q_i2l C dX8_mixFace_21 ?_
  refine q_cl (q_runS (As := [.long r_3, .long r_4.toInt64]) (st := []) C (c_X8_mix l D cA lo h) (va_cwS 2 C.2.2.2.2.1 gX8_mixFace_X8_mix rfl rfl rfl (by decide +kernel) ⟨Nat.le_of_ble_eq_true rfl, Nat.le_of_ble_eq_true rfl⟩) rfl rfl (Nat.le_of_ble_eq_true rfl) dX8_mixFace_22 ⟨Nat.le_of_ble_eq_true rfl, Nat.le_of_ble_eq_true rfl⟩) (fun r_5 M_z h => ?_)
  refine q_mem h.1 ?_
  have h := h.2
  refine q_lstore (lv' := [(5, .long r_5), (4, .ref r_2), (0, .ref a0), (1, .long l1), (3, .int i3)]) C dX8_mixFace_25 (by decide) rfl ?_
  refine q_iconst (v := 0) C dX8_mixFace_27 (by decide) ?_
  refine q_istore (lv' := [(7, .int 0), (5, .long r_5), (4, .ref r_2), (0, .ref a0), (1, .long l1), (3, .int i3)]) C dX8_mixFace_28 (by decide) rfl ?_
  exact q_sub [3, 2, 1, 0] rfl h
def S_X8_digest_80 (K80 : Nat → Int64 → Int32 → Mm → Prop) (K117 : Nat → Int64 → Int32 → Mm → Prop) (Q : Int64 → Mm → Prop) (M : Mm) (a0 : Nat) (l1 : Int64) (i3 : Int32) : Prop := kM M a0 = (8, 8) ∧ ∃ a_20 : Nat, rM M a0 0 = some a_20 ∧ kM M a_20 = (3, 4) ∧ T_X3_ever M a_20 (fun r_21 => (r_21 ≤ i3 → K117 a0 l1 0 M) ∧ (¬ r_21 ≤ i3 → kM M a0 = (8, 8) ∧ ∃ a_22 : Nat, rM M a0 0 = some a_22 ∧ kM M a_22 = (3, 4) ∧ T_X3_has M a_22 i3 (fun r_23 => (r_23 = 0 → K80 a0 l1 (i3 + 1) M) ∧ (¬ r_23 = 0 → kM M a0 = (8, 8) ∧ T_X8_mixPoint M a0 l1 i3 (fun r_24 M_25 => K80 a0 r_24 (i3 + 1) M_25)))))
def S_X8_digest_117 (K80 : Nat → Int64 → Int32 → Mm → Prop) (K117 : Nat → Int64 → Int32 → Mm → Prop) (Q : Int64 → Mm → Prop) (M : Mm) (a0 : Nat) (l1 : Int64) (i3 : Int32) : Prop := kM M a0 = (8, 8) ∧ ∃ a_26 : Nat, rM M a0 1 = some a_26 ∧ kM M a_26 = (1, 5) ∧ T_X1_ever M a_26 (fun r_27 => (r_27 ≤ i3 → kM M a0 = (8, 8) ∧ T_X8_countPairs M a0 1 (fun r_28 M_29 => T_X8_mix M_29 l1 r_28.toInt64 (fun r_30 => kM M_29 a0 = (8, 8) ∧ T_X8_countPairs M_29 a0 2 (fun r_31 M_32 => T_X8_mix M_32 r_30 r_31.toInt64 (fun r_33 => Q r_33 M_32))))) ∧ (¬ r_27 ≤ i3 → kM M a0 = (8, 8) ∧ ∃ a_34 : Nat, rM M a0 1 = some a_34 ∧ kM M a_34 = (1, 5) ∧ T_X1_has M a_34 i3 (fun r_35 => (r_35 = 0 → K117 a0 l1 (i3 + 1) M) ∧ (¬ r_35 = 0 → kM M a0 = (8, 8) ∧ T_X8_mixFace M a0 l1 i3 (fun r_36 => K117 a0 r_36 (i3 + 1) M)))))
def T_X8_digest (M : Mm) (a0 : Nat) (Q : Int64 → Mm → Prop) : Prop := ∀ (K80 : Nat → Int64 → Int32 → Mm → Prop) (K117 : Nat → Int64 → Int32 → Mm → Prop), (∀ (a0 : Nat) (l1 : Int64) (i3 : Int32) (M : Mm), S_X8_digest_80 K80 K117 Q M a0 l1 i3 → K80 a0 l1 i3 M) → (∀ (a0 : Nat) (l1 : Int64) (i3 : Int32) (M : Mm), S_X8_digest_117 K80 K117 Q M a0 l1 i3 → K117 a0 l1 i3 M) → kM M a0 = (8, 8) ∧ ∃ a_1 : Nat, rM M a0 0 = some a_1 ∧ kM M a_1 = (3, 4) ∧ T_X3_left M a_1 (fun r_2 => T_X8_mix M 58071 r_2.toInt64 (fun r_3 => kM M a0 = (8, 8) ∧ ∃ a_4 : Nat, rM M a0 1 = some a_4 ∧ kM M a_4 = (1, 5) ∧ T_X1_edgeCount M a_4 (fun r_5 => T_X8_mix M r_3 r_5.toInt64 (fun r_6 => kM M a0 = (8, 8) ∧ ∃ a_7 : Nat, rM M a0 1 = some a_7 ∧ kM M a_7 = (1, 5) ∧ T_X1_left M a_7 (fun r_8 => T_X8_mix M r_6 r_8.toInt64 (fun r_9 => kM M a0 = (8, 8) ∧ ∃ a_10 : Nat, rM M a0 2 = some a_10 ∧ kM M a_10 = (7, 6) ∧ T_X7_holeCount M a_10 (fun r_11 M_12 => T_X8_mix M_12 r_9 r_11.toInt64 (fun r_13 => kM M_12 a0 = (8, 8) ∧ ∃ a_14 : Nat, rM M_12 a0 2 = some a_14 ∧ kM M_12 a_14 = (7, 6) ∧ T_X7_shellCount M_12 a_14 (fun r_15 M_16 => T_X8_mix M_16 r_13 r_15.toInt64 (fun r_17 => kM M_16 a0 = (8, 8) ∧ T_X8_wholeBulk M_16 a0 (fun r_18 => T_X8_mix M_16 r_17 r_18 (fun r_19 => K80 a0 r_19 0 M_16))))))))))))
theorem inX8_digest_X8 : ∀ w ∈ wsX80, w ∈ wsX8_digest := by decide +kernel
set_option maxRecDepth 100000 in
set_option maxHeartbeats 4000000 in
theorem b_X8_digest_80 {p : Program} {l : Launch} {e : Env} {s : State} {m : MethodId} {args : Array Value} {below : List Frame} {meth : Method} {c : Code} {D : va_G} {cA : Nat → ClassId} {lo : Nat} (C : Cx p s m args c cX8_digest 4 RX8 wsX8_digest D cA lo) (hr : meth.sig.returnType = (some .long)) (hlk : meth.locks = false) {Q : Int64 → Mm → Prop} (M : Mm) (a0 : Nat) (l1 : Int64) (i3 : Int32) (h : S_X8_digest_80 (fun (a0 : Nat) (l1 : Int64) (i3 : Int32) (M : Mm) => QW p l e ({ frames := 6, cells := 0, slots := 0, locals := 145 } : Room) s m args below meth c (MQ below (QlM D cA lo Q) args s 0 0 (fun q => lo ≤ q)) 4 D cA lo 0 0 M 80 [(0, .ref a0), (1, .long l1), (3, .int i3)] []) (fun (a0 : Nat) (l1 : Int64) (i3 : Int32) (M : Mm) => QW p l e ({ frames := 6, cells := 0, slots := 0, locals := 145 } : Room) s m args below meth c (MQ below (QlM D cA lo Q) args s 0 0 (fun q => lo ≤ q)) 4 D cA lo 0 0 M 117 [(0, .ref a0), (1, .long l1), (3, .int i3)] []) Q M a0 l1 i3) : QW p l e ({ frames := 6, cells := 0, slots := 0, locals := 145 } : Room) s m args below meth c (MQ below (QlM D cA lo Q) args s 0 0 (fun q => lo ≤ q)) 4 D cA lo 0 0 M 80 [(0, .ref a0), (1, .long l1), (3, .int i3)] [] := by
  unfold S_X8_digest_80 at h
  refine q_iload_n C dX8_digest_80 rfl (j := 2) rfl ?_
  refine q_aload_n C dX8_digest_81 rfl (j := 0) rfl ?_
  refine q_getR (ci := 8) (k0 := 0) (T := TX8) C inX8_digest_X8 rfl (by decide) h.1 (by decide) rfl (by decide +kernel) rfl dX8_digest_82 ?_
  obtain ⟨a_20, z, h⟩ := h.2
  refine q_ref z ?_
  refine q_ci (q_runV (As := []) (st := [.int i3]) C (c_X3_ever l D cA lo h.2) (cwV 0 C.2.2.2.2.1 gX8_digest_X3_ever rfl rfl rfl (by decide +kernel) ⟨Nat.le_of_ble_eq_true rfl, Nat.le_of_ble_eq_true rfl⟩) h.1 (by decide) rfl rfl rfl (Nat.le_of_ble_eq_true rfl) dX8_digest_85 ⟨Nat.le_of_ble_eq_true rfl, Nat.le_of_ble_eq_true rfl⟩) (fun r_21 M_z h => ?_)
  refine q_mem h.1 ?_
  have h := h.2
  refine q_icmp_ge (tgt := 115) C dX8_digest_88 (by decide) (fun z => ?_) (fun z => ?_)
  · have h := h.1 z
    refine q_iconst (v := 0) C dX8_digest_115 (by decide) ?_
    refine q_istore_n (lv' := [(3, .int 0), (0, .ref a0), (1, .long l1)]) C dX8_digest_116 rfl (by decide) rfl ?_
    exact q_sub [1, 2, 0] rfl h
  · have h := h.2 z
    refine q_aload_n C dX8_digest_91 rfl (j := 0) rfl ?_
    refine q_getR (ci := 8) (k0 := 0) (T := TX8) C inX8_digest_X8 rfl (by decide) h.1 (by decide) rfl (by decide +kernel) rfl dX8_digest_92 ?_
    obtain ⟨a_22, z, h⟩ := h.2
    refine q_ref z ?_
    refine q_iload_n C dX8_digest_95 rfl (j := 2) rfl ?_
    refine q_ci (q_runV (As := [.int i3]) (st := []) C (c_X3_has l D cA lo h.2) (cwV 1 C.2.2.2.2.1 gX8_digest_X3_has rfl rfl rfl (by decide +kernel) ⟨Nat.le_of_ble_eq_true rfl, Nat.le_of_ble_eq_true rfl⟩) h.1 (by decide) rfl rfl rfl (Nat.le_of_ble_eq_true rfl) dX8_digest_96 ⟨Nat.le_of_ble_eq_true rfl, Nat.le_of_ble_eq_true rfl⟩) (fun r_23 M_z h => ?_)
    refine q_mem h.1 ?_
    have h := h.2
    refine q_if_eq (tgt := 109) C dX8_digest_99 (by decide) (fun z => ?_) (fun z => ?_)
    · have h := h.1 z
      refine q_iinc (v := (i3 + 1)) (lv' := [(3, .int (i3 + 1)), (0, .ref a0), (1, .long l1)]) C dX8_digest_109 (j := 2) rfl rfl (by decide) rfl ?_
      refine q_goto (tgt := 80) C dX8_digest_112 (by decide) ?_
      exact q_sub [1, 2, 0] rfl h
    · have h := h.2 z
      refine q_aload_n C dX8_digest_102 rfl (j := 0) rfl ?_
      refine q_lload_n C dX8_digest_103 rfl (j := 1) rfl ?_
      refine q_iload_n C dX8_digest_104 rfl (j := 2) rfl ?_
      refine q_cl (q_runV (As := [.long l1, .int i3]) (st := []) C (c_X8_mixPoint l D cA lo h.2) (cwV 2 C.2.2.2.2.1 gX8_digest_X8_mixPoint rfl rfl rfl (by decide +kernel) ⟨Nat.le_of_ble_eq_true rfl, Nat.le_of_ble_eq_true rfl⟩) h.1 (by decide) rfl rfl rfl (Nat.le_of_ble_eq_true rfl) dX8_digest_105 ⟨Nat.le_of_ble_eq_true rfl, Nat.le_of_ble_eq_true rfl⟩) (fun r_24 M_25 h => ?_)
      refine q_lstore_n (lv' := [(1, .long r_24), (0, .ref a0), (3, .int i3)]) C dX8_digest_108 rfl (by decide) rfl ?_
      refine q_iinc (v := (i3 + 1)) (lv' := [(3, .int (i3 + 1)), (1, .long r_24), (0, .ref a0)]) C dX8_digest_109 (j := 2) rfl rfl (by decide) rfl ?_
      refine q_goto (tgt := 80) C dX8_digest_112 (by decide) ?_
      exact q_sub [2, 1, 0] rfl h
set_option maxRecDepth 100000 in
set_option maxHeartbeats 4000000 in
theorem b_X8_digest_117 {p : Program} {l : Launch} {e : Env} {s : State} {m : MethodId} {args : Array Value} {below : List Frame} {meth : Method} {c : Code} {D : va_G} {cA : Nat → ClassId} {lo : Nat} (C : Cx p s m args c cX8_digest 4 RX8 wsX8_digest D cA lo) (hr : meth.sig.returnType = (some .long)) (hlk : meth.locks = false) {Q : Int64 → Mm → Prop} (M : Mm) (a0 : Nat) (l1 : Int64) (i3 : Int32) (h : S_X8_digest_117 (fun (a0 : Nat) (l1 : Int64) (i3 : Int32) (M : Mm) => QW p l e ({ frames := 6, cells := 0, slots := 0, locals := 145 } : Room) s m args below meth c (MQ below (QlM D cA lo Q) args s 0 0 (fun q => lo ≤ q)) 4 D cA lo 0 0 M 80 [(0, .ref a0), (1, .long l1), (3, .int i3)] []) (fun (a0 : Nat) (l1 : Int64) (i3 : Int32) (M : Mm) => QW p l e ({ frames := 6, cells := 0, slots := 0, locals := 145 } : Room) s m args below meth c (MQ below (QlM D cA lo Q) args s 0 0 (fun q => lo ≤ q)) 4 D cA lo 0 0 M 117 [(0, .ref a0), (1, .long l1), (3, .int i3)] []) Q M a0 l1 i3) : QW p l e ({ frames := 6, cells := 0, slots := 0, locals := 145 } : Room) s m args below meth c (MQ below (QlM D cA lo Q) args s 0 0 (fun q => lo ≤ q)) 4 D cA lo 0 0 M 117 [(0, .ref a0), (1, .long l1), (3, .int i3)] [] := by
  unfold S_X8_digest_117 at h
  refine q_iload_n C dX8_digest_117 rfl (j := 2) rfl ?_
  refine q_aload_n C dX8_digest_118 rfl (j := 0) rfl ?_
  refine q_getR (ci := 8) (k0 := 1) (T := TX8) C inX8_digest_X8 rfl (by decide) h.1 (by decide) rfl (by decide +kernel) rfl dX8_digest_119 ?_
  obtain ⟨a_26, z, h⟩ := h.2
  refine q_ref z ?_
  refine q_ci (q_runV (As := []) (st := [.int i3]) C (c_X1_ever l D cA lo h.2) (cwV 0 C.2.2.2.2.1 gX8_digest_X1_ever rfl rfl rfl (by decide +kernel) ⟨Nat.le_of_ble_eq_true rfl, Nat.le_of_ble_eq_true rfl⟩) h.1 (by decide) rfl rfl rfl (Nat.le_of_ble_eq_true rfl) dX8_digest_122 ⟨Nat.le_of_ble_eq_true rfl, Nat.le_of_ble_eq_true rfl⟩) (fun r_27 M_z h => ?_)
  refine q_mem h.1 ?_
  have h := h.2
  refine q_icmp_ge (tgt := 152) C dX8_digest_125 (by decide) (fun z => ?_) (fun z => ?_)
  · have h := h.1 z
    refine q_lload_n C dX8_digest_152 rfl (j := 1) rfl ?_
    refine q_aload_n C dX8_digest_153 rfl (j := 0) rfl ?_
    refine q_iconst (v := 1) C dX8_digest_154 (by decide) ?_
    refine q_ci (q_runV (As := [.int 1]) (st := [.long l1]) C (c_X8_countPairs l D cA lo h.2) (cwV 1 C.2.2.2.2.1 gX8_digest_X8_countPairs rfl rfl rfl (by decide +kernel) ⟨Nat.le_of_ble_eq_true rfl, Nat.le_of_ble_eq_true rfl⟩) h.1 (by decide) rfl rfl rfl (Nat.le_of_ble_eq_true rfl) dX8_digest_155 ⟨Nat.le_of_ble_eq_true rfl, Nat.le_of_ble_eq_true rfl⟩) (fun r_28 M_29 h => ?_)
    refine q_i2l C dX8_digest_158 ?_
    refine q_cl (q_runS (As := [.long l1, .long r_28.toInt64]) (st := []) C (c_X8_mix l D cA lo h) (va_cwS 2 C.2.2.2.2.1 gX8_digest_X8_mix rfl rfl rfl (by decide +kernel) ⟨Nat.le_of_ble_eq_true rfl, Nat.le_of_ble_eq_true rfl⟩) rfl rfl (Nat.le_of_ble_eq_true rfl) dX8_digest_159 ⟨Nat.le_of_ble_eq_true rfl, Nat.le_of_ble_eq_true rfl⟩) (fun r_30 M_z h => ?_)
    refine q_mem h.1 ?_
    have h := h.2
    refine q_lstore_n (lv' := [(1, .long r_30), (0, .ref a0), (3, .int i3)]) C dX8_digest_162 rfl (by decide) rfl ?_
    refine q_lload_n C dX8_digest_163 rfl (j := 0) rfl ?_
    refine q_aload_n C dX8_digest_164 rfl (j := 1) rfl ?_
    refine q_iconst (v := 2) C dX8_digest_165 (by decide) ?_
    refine q_ci (q_runV (As := [.int 2]) (st := [.long r_30]) C (c_X8_countPairs l D cA lo h.2) (cwV 1 C.2.2.2.2.1 gX8_digest_X8_countPairs rfl rfl rfl (by decide +kernel) ⟨Nat.le_of_ble_eq_true rfl, Nat.le_of_ble_eq_true rfl⟩) h.1 (by decide) rfl rfl rfl (Nat.le_of_ble_eq_true rfl) dX8_digest_166 ⟨Nat.le_of_ble_eq_true rfl, Nat.le_of_ble_eq_true rfl⟩) (fun r_31 M_32 h => ?_)
    refine q_i2l C dX8_digest_169 ?_
    refine q_cl (q_runS (As := [.long r_30, .long r_31.toInt64]) (st := []) C (c_X8_mix l D cA lo h) (va_cwS 2 C.2.2.2.2.1 gX8_digest_X8_mix rfl rfl rfl (by decide +kernel) ⟨Nat.le_of_ble_eq_true rfl, Nat.le_of_ble_eq_true rfl⟩) rfl rfl (Nat.le_of_ble_eq_true rfl) dX8_digest_170 ⟨Nat.le_of_ble_eq_true rfl, Nat.le_of_ble_eq_true rfl⟩) (fun r_33 M_z h => ?_)
    refine q_mem h.1 ?_
    have h := h.2
    exact q_lret C hr hlk dX8_digest_173 (Nat.le_of_ble_eq_true rfl) (Nat.le_of_ble_eq_true rfl) h
  · have h := h.2 z
    refine q_aload_n C dX8_digest_128 rfl (j := 0) rfl ?_
    refine q_getR (ci := 8) (k0 := 1) (T := TX8) C inX8_digest_X8 rfl (by decide) h.1 (by decide) rfl (by decide +kernel) rfl dX8_digest_129 ?_
    obtain ⟨a_34, z, h⟩ := h.2
    refine q_ref z ?_
    refine q_iload_n C dX8_digest_132 rfl (j := 2) rfl ?_
    refine q_ci (q_runV (As := [.int i3]) (st := []) C (c_X1_has l D cA lo h.2) (cwV 1 C.2.2.2.2.1 gX8_digest_X1_has rfl rfl rfl (by decide +kernel) ⟨Nat.le_of_ble_eq_true rfl, Nat.le_of_ble_eq_true rfl⟩) h.1 (by decide) rfl rfl rfl (Nat.le_of_ble_eq_true rfl) dX8_digest_133 ⟨Nat.le_of_ble_eq_true rfl, Nat.le_of_ble_eq_true rfl⟩) (fun r_35 M_z h => ?_)
    refine q_mem h.1 ?_
    have h := h.2
    refine q_if_eq (tgt := 146) C dX8_digest_136 (by decide) (fun z => ?_) (fun z => ?_)
    · have h := h.1 z
      refine q_iinc (v := (i3 + 1)) (lv' := [(3, .int (i3 + 1)), (0, .ref a0), (1, .long l1)]) C dX8_digest_146 (j := 2) rfl rfl (by decide) rfl ?_
      refine q_goto (tgt := 117) C dX8_digest_149 (by decide) ?_
      exact q_sub [1, 2, 0] rfl h
    · have h := h.2 z
      refine q_aload_n C dX8_digest_139 rfl (j := 0) rfl ?_
      refine q_lload_n C dX8_digest_140 rfl (j := 1) rfl ?_
      refine q_iload_n C dX8_digest_141 rfl (j := 2) rfl ?_
      refine q_cl (q_runV (As := [.long l1, .int i3]) (st := []) C (c_X8_mixFace l D cA lo h.2) (cwV 2 C.2.2.2.2.1 gX8_digest_X8_mixFace rfl rfl rfl (by decide +kernel) ⟨Nat.le_of_ble_eq_true rfl, Nat.le_of_ble_eq_true rfl⟩) h.1 (by decide) rfl rfl rfl (Nat.le_of_ble_eq_true rfl) dX8_digest_142 ⟨Nat.le_of_ble_eq_true rfl, Nat.le_of_ble_eq_true rfl⟩) (fun r_36 M_z h => ?_)
      refine q_mem h.1 ?_
      have h := h.2
      refine q_lstore_n (lv' := [(1, .long r_36), (0, .ref a0), (3, .int i3)]) C dX8_digest_145 rfl (by decide) rfl ?_
      refine q_iinc (v := (i3 + 1)) (lv' := [(3, .int (i3 + 1)), (1, .long r_36), (0, .ref a0)]) C dX8_digest_146 (j := 2) rfl rfl (by decide) rfl ?_
      refine q_goto (tgt := 117) C dX8_digest_149 (by decide) ?_
      exact q_sub [2, 1, 0] rfl h
set_option maxRecDepth 100000 in
set_option maxHeartbeats 4000000 in
theorem c_X8_digest (l : Launch) (D : va_G) (cA : Nat → ClassId) (lo : Nat) {M : Mm} {a0 : Nat} {Q : Int64 → Mm → Prop} (h : T_X8_digest M a0 Q) : Met l yX8_digest wsX8_digest ({ frames := 6, cells := 0, slots := 0, locals := 145 } : Room) (PcM D cA lo [.ref a0] M) (QlM D cA lo Q) 0 0 (fun q => lo ≤ q) := by
  refine q_start (cc := cX8_digest) (nL := 4) (ret := (some .long)) (by decide) rfl rfl (Nat.le_of_ble_eq_true rfl) ?_
  intro p e s m args below meth c C hr hlk hin
  unfold T_X8_digest at h
  have h := h (fun (a0 : Nat) (l1 : Int64) (i3 : Int32) (M : Mm) => QW p l e ({ frames := 6, cells := 0, slots := 0, locals := 145 } : Room) s m args below meth c (MQ below (QlM D cA lo Q) args s 0 0 (fun q => lo ≤ q)) 4 D cA lo 0 0 M 80 [(0, .ref a0), (1, .long l1), (3, .int i3)] []) (fun (a0 : Nat) (l1 : Int64) (i3 : Int32) (M : Mm) => QW p l e ({ frames := 6, cells := 0, slots := 0, locals := 145 } : Room) s m args below meth c (MQ below (QlM D cA lo Q) args s 0 0 (fun q => lo ≤ q)) 4 D cA lo 0 0 M 117 [(0, .ref a0), (1, .long l1), (3, .int i3)] []) (fun a0 l1 i3 M h => b_X8_digest_80 C hr hlk M a0 l1 i3 h) (fun a0 l1 i3 M h => b_X8_digest_117 C hr hlk M a0 l1 i3 h)
  refine q_ldc2 (v := 58071) C (by decide +kernel) dX8_digest_0 ?_
  refine q_lstore_n (lv' := [(1, .long 58071), (0, .ref a0)]) C dX8_digest_3 rfl (by decide) rfl ?_
  refine q_lload_n C dX8_digest_4 rfl (j := 0) rfl ?_
  refine q_aload_n C dX8_digest_5 rfl (j := 1) rfl ?_
  refine q_getR (ci := 8) (k0 := 0) (T := TX8) C inX8_digest_X8 rfl (by decide) h.1 (by decide) rfl (by decide +kernel) rfl dX8_digest_6 ?_
  obtain ⟨a_1, z, h⟩ := h.2
  refine q_ref z ?_
  refine q_ci (q_runV (As := []) (st := [.long 58071]) C (c_X3_left l D cA lo h.2) (cwV 0 C.2.2.2.2.1 gX8_digest_X3_left rfl rfl rfl (by decide +kernel) ⟨Nat.le_of_ble_eq_true rfl, Nat.le_of_ble_eq_true rfl⟩) h.1 (by decide) rfl rfl rfl (Nat.le_of_ble_eq_true rfl) dX8_digest_9 ⟨Nat.le_of_ble_eq_true rfl, Nat.le_of_ble_eq_true rfl⟩) (fun r_2 M_z h => ?_)
  refine q_mem h.1 ?_
  have h := h.2
  refine q_i2l C dX8_digest_12 ?_
  refine q_cl (q_runS (As := [.long 58071, .long r_2.toInt64]) (st := []) C (c_X8_mix l D cA lo h) (va_cwS 2 C.2.2.2.2.1 gX8_digest_X8_mix rfl rfl rfl (by decide +kernel) ⟨Nat.le_of_ble_eq_true rfl, Nat.le_of_ble_eq_true rfl⟩) rfl rfl (Nat.le_of_ble_eq_true rfl) dX8_digest_13 ⟨Nat.le_of_ble_eq_true rfl, Nat.le_of_ble_eq_true rfl⟩) (fun r_3 M_z h => ?_)
  refine q_mem h.1 ?_
  have h := h.2
  refine q_lstore_n (lv' := [(1, .long r_3), (0, .ref a0)]) C dX8_digest_16 rfl (by decide) rfl ?_
  refine q_lload_n C dX8_digest_17 rfl (j := 0) rfl ?_
  refine q_aload_n C dX8_digest_18 rfl (j := 1) rfl ?_
  refine q_getR (ci := 8) (k0 := 1) (T := TX8) C inX8_digest_X8 rfl (by decide) h.1 (by decide) rfl (by decide +kernel) rfl dX8_digest_19 ?_
  obtain ⟨a_4, z, h⟩ := h.2
  refine q_ref z ?_
  refine q_ci (q_runV (As := []) (st := [.long r_3]) C (c_X1_edgeCount l D cA lo h.2) (cwV 0 C.2.2.2.2.1 gX8_digest_X1_edgeCount rfl rfl rfl (by decide +kernel) ⟨Nat.le_of_ble_eq_true rfl, Nat.le_of_ble_eq_true rfl⟩) h.1 (by decide) rfl rfl rfl (Nat.le_of_ble_eq_true rfl) dX8_digest_22 ⟨Nat.le_of_ble_eq_true rfl, Nat.le_of_ble_eq_true rfl⟩) (fun r_5 M_z h => ?_)
  refine q_mem h.1 ?_
  have h := h.2
  refine q_i2l C dX8_digest_25 ?_
  refine q_cl (q_runS (As := [.long r_3, .long r_5.toInt64]) (st := []) C (c_X8_mix l D cA lo h) (va_cwS 2 C.2.2.2.2.1 gX8_digest_X8_mix rfl rfl rfl (by decide +kernel) ⟨Nat.le_of_ble_eq_true rfl, Nat.le_of_ble_eq_true rfl⟩) rfl rfl (Nat.le_of_ble_eq_true rfl) dX8_digest_26 ⟨Nat.le_of_ble_eq_true rfl, Nat.le_of_ble_eq_true rfl⟩) (fun r_6 M_z h => ?_)
  refine q_mem h.1 ?_
  have h := h.2
  refine q_lstore_n (lv' := [(1, .long r_6), (0, .ref a0)]) C dX8_digest_29 rfl (by decide) rfl ?_
  refine q_lload_n C dX8_digest_30 rfl (j := 0) rfl ?_
  refine q_aload_n C dX8_digest_31 rfl (j := 1) rfl ?_
  refine q_getR (ci := 8) (k0 := 1) (T := TX8) C inX8_digest_X8 rfl (by decide) h.1 (by decide) rfl (by decide +kernel) rfl dX8_digest_32 ?_
  obtain ⟨a_7, z, h⟩ := h.2
  refine q_ref z ?_
  refine q_ci (q_runV (As := []) (st := [.long r_6]) C (c_X1_left l D cA lo h.2) (cwV 0 C.2.2.2.2.1 gX8_digest_X1_left rfl rfl rfl (by decide +kernel) ⟨Nat.le_of_ble_eq_true rfl, Nat.le_of_ble_eq_true rfl⟩) h.1 (by decide) rfl rfl rfl (Nat.le_of_ble_eq_true rfl) dX8_digest_35 ⟨Nat.le_of_ble_eq_true rfl, Nat.le_of_ble_eq_true rfl⟩) (fun r_8 M_z h => ?_)
  refine q_mem h.1 ?_
  have h := h.2
  refine q_i2l C dX8_digest_38 ?_
  refine q_cl (q_runS (As := [.long r_6, .long r_8.toInt64]) (st := []) C (c_X8_mix l D cA lo h) (va_cwS 2 C.2.2.2.2.1 gX8_digest_X8_mix rfl rfl rfl (by decide +kernel) ⟨Nat.le_of_ble_eq_true rfl, Nat.le_of_ble_eq_true rfl⟩) rfl rfl (Nat.le_of_ble_eq_true rfl) dX8_digest_39 ⟨Nat.le_of_ble_eq_true rfl, Nat.le_of_ble_eq_true rfl⟩) (fun r_9 M_z h => ?_)
  refine q_mem h.1 ?_
  have h := h.2
  refine q_lstore_n (lv' := [(1, .long r_9), (0, .ref a0)]) C dX8_digest_42 rfl (by decide) rfl ?_
  refine q_lload_n C dX8_digest_43 rfl (j := 0) rfl ?_
  refine q_aload_n C dX8_digest_44 rfl (j := 1) rfl ?_
  refine q_getR (ci := 8) (k0 := 2) (T := TX8) C inX8_digest_X8 rfl (by decide) h.1 (by decide) rfl (by decide +kernel) rfl dX8_digest_45 ?_
  obtain ⟨a_10, z, h⟩ := h.2
  refine q_ref z ?_
  refine q_ci (q_runV (As := []) (st := [.long r_9]) C (c_X7_holeCount l D cA lo h.2) (cwV 0 C.2.2.2.2.1 gX8_digest_X7_holeCount rfl rfl rfl (by decide +kernel) ⟨Nat.le_of_ble_eq_true rfl, Nat.le_of_ble_eq_true rfl⟩) h.1 (by decide) rfl rfl rfl (Nat.le_of_ble_eq_true rfl) dX8_digest_48 ⟨Nat.le_of_ble_eq_true rfl, Nat.le_of_ble_eq_true rfl⟩) (fun r_11 M_12 h => ?_)
  refine q_i2l C dX8_digest_51 ?_
  refine q_cl (q_runS (As := [.long r_9, .long r_11.toInt64]) (st := []) C (c_X8_mix l D cA lo h) (va_cwS 2 C.2.2.2.2.1 gX8_digest_X8_mix rfl rfl rfl (by decide +kernel) ⟨Nat.le_of_ble_eq_true rfl, Nat.le_of_ble_eq_true rfl⟩) rfl rfl (Nat.le_of_ble_eq_true rfl) dX8_digest_52 ⟨Nat.le_of_ble_eq_true rfl, Nat.le_of_ble_eq_true rfl⟩) (fun r_13 M_z h => ?_)
  refine q_mem h.1 ?_
  have h := h.2
  refine q_lstore_n (lv' := [(1, .long r_13), (0, .ref a0)]) C dX8_digest_55 rfl (by decide) rfl ?_
  refine q_lload_n C dX8_digest_56 rfl (j := 0) rfl ?_
  refine q_aload_n C dX8_digest_57 rfl (j := 1) rfl ?_
  refine q_getR (ci := 8) (k0 := 2) (T := TX8) C inX8_digest_X8 rfl (by decide) h.1 (by decide) rfl (by decide +kernel) rfl dX8_digest_58 ?_
  obtain ⟨a_14, z, h⟩ := h.2
  refine q_ref z ?_
  refine q_ci (q_runV (As := []) (st := [.long r_13]) C (c_X7_shellCount l D cA lo h.2) (cwV 0 C.2.2.2.2.1 gX8_digest_X7_shellCount rfl rfl rfl (by decide +kernel) ⟨Nat.le_of_ble_eq_true rfl, Nat.le_of_ble_eq_true rfl⟩) h.1 (by decide) rfl rfl rfl (Nat.le_of_ble_eq_true rfl) dX8_digest_61 ⟨Nat.le_of_ble_eq_true rfl, Nat.le_of_ble_eq_true rfl⟩) (fun r_15 M_16 h => ?_)
  refine q_i2l C dX8_digest_64 ?_
  refine q_cl (q_runS (As := [.long r_13, .long r_15.toInt64]) (st := []) C (c_X8_mix l D cA lo h) (va_cwS 2 C.2.2.2.2.1 gX8_digest_X8_mix rfl rfl rfl (by decide +kernel) ⟨Nat.le_of_ble_eq_true rfl, Nat.le_of_ble_eq_true rfl⟩) rfl rfl (Nat.le_of_ble_eq_true rfl) dX8_digest_65 ⟨Nat.le_of_ble_eq_true rfl, Nat.le_of_ble_eq_true rfl⟩) (fun r_17 M_z h => ?_)
  refine q_mem h.1 ?_
  have h := h.2
  refine q_lstore_n (lv' := [(1, .long r_17), (0, .ref a0)]) C dX8_digest_68 rfl (by decide) rfl ?_
  refine q_lload_n C dX8_digest_69 rfl (j := 0) rfl ?_
  refine q_aload_n C dX8_digest_70 rfl (j := 1) rfl ?_
  refine q_cl (q_runV (As := []) (st := [.long r_17]) C (c_X8_wholeBulk l D cA lo h.2) (cwV 0 C.2.2.2.2.1 gX8_digest_X8_wholeBulk rfl rfl rfl (by decide +kernel) ⟨Nat.le_of_ble_eq_true rfl, Nat.le_of_ble_eq_true rfl⟩) h.1 (by decide) rfl rfl rfl (Nat.le_of_ble_eq_true rfl) dX8_digest_71 ⟨Nat.le_of_ble_eq_true rfl, Nat.le_of_ble_eq_true rfl⟩) (fun r_18 M_z h => ?_)
  refine q_mem h.1 ?_
  have h := h.2
  refine q_cl (q_runS (As := [.long r_17, .long r_18]) (st := []) C (c_X8_mix l D cA lo h) (va_cwS 2 C.2.2.2.2.1 gX8_digest_X8_mix rfl rfl rfl (by decide +kernel) ⟨Nat.le_of_ble_eq_true rfl, Nat.le_of_ble_eq_true rfl⟩) rfl rfl (Nat.le_of_ble_eq_true rfl) dX8_digest_74 ⟨Nat.le_of_ble_eq_true rfl, Nat.le_of_ble_eq_true rfl⟩) (fun r_19 M_z h => ?_)
  refine q_mem h.1 ?_
  have h := h.2
  refine q_lstore_n (lv' := [(1, .long r_19), (0, .ref a0)]) C dX8_digest_77 rfl (by decide) rfl ?_
  refine q_iconst (v := 0) C dX8_digest_78 (by decide) ?_
  refine q_istore_n (lv' := [(3, .int 0), (1, .long r_19), (0, .ref a0)]) C dX8_digest_79 rfl (by decide) rfl ?_
  exact q_sub [2, 1, 0] rfl h
