set_option maxRecDepth 100000 in
set_option maxHeartbeats 4000000 in
theorem b_L_act_586 {p : Program} {l : Launch} {e : Env} {s : State} {m : MethodId} {args : Array Value} {below : List Frame} {meth : Method} {c : Code} {D : va_G} {cA : Nat → ClassId} {lo : Nat} (C : Cx p s m args c cL_act 13 RL wsL_act D cA lo) (hr : meth.sig.returnType = (some .boolean)) (hlk : meth.locks = false) (hl : l.stackTraces = false) (htab : c.exceptionTable.toList = tableOf hhL_act) {Q : Int32 → Mm → Prop} {Cc Zz : Nat} {X : String → Mm → Prop} (M : Mm) (a0 : Nat) (i1 : Int32) (i2 : Int32) (i3 : Int32) (i4 : Int32) (i5 : Int32) (cc zz : Nat) (h : S_L_act_586 (fun (a0 : Nat) (i1 : Int32) (i2 : Int32) (i3 : Int32) (i4 : Int32) (i5 : Int32) (i6 : Int32) (i7 : Int32) (M : Mm) (cc zz : Nat) => QW p l e ({ frames := 9, cells := Cc, slots := Zz, locals := 159 } : Room) s m args below meth c (vx_MQ below (QiM D cA lo Q) (XcM D cA lo X) args s Cc Zz (fun q => lo ≤ q)) 13 D cA lo cc zz M 114 [(0, .ref a0), (1, .int i1), (2, .int i2), (3, .int i3), (4, .int i4), (5, .int i5), (6, .int i6), (7, .int i7)] []) (fun (a0 : Nat) (i1 : Int32) (i2 : Int32) (i3 : Int32) (i4 : Int32) (i6 : Int32) (i7 : Int32) (as0 : Nat) (M : Mm) (cc zz : Nat) => QW p l e ({ frames := 9, cells := Cc, slots := Zz, locals := 159 } : Room) s m args below meth c (vx_MQ below (QiM D cA lo Q) (XcM D cA lo X) args s Cc Zz (fun q => lo ≤ q)) 13 D cA lo cc zz M 109 [(0, .ref a0), (1, .int i1), (2, .int i2), (3, .int i3), (4, .int i4), (6, .int i6), (7, .int i7)] [.ref as0]) (fun (a0 : Nat) (i1 : Int32) (i2 : Int32) (i3 : Int32) (i4 : Int32) (M : Mm) (cc zz : Nat) => QW p l e ({ frames := 9, cells := Cc, slots := Zz, locals := 159 } : Room) s m args below meth c (vx_MQ below (QiM D cA lo Q) (XcM D cA lo X) args s Cc Zz (fun q => lo ≤ q)) 13 D cA lo cc zz M 188 [(0, .ref a0), (1, .int i1), (2, .int i2), (3, .int i3), (4, .int i4)] []) (fun (a0 : Nat) (i1 : Int32) (i2 : Int32) (i3 : Int32) (i4 : Int32) (M : Mm) (cc zz : Nat) => QW p l e ({ frames := 9, cells := Cc, slots := Zz, locals := 159 } : Room) s m args below meth c (vx_MQ below (QiM D cA lo Q) (XcM D cA lo X) args s Cc Zz (fun q => lo ≤ q)) 13 D cA lo cc zz M 272 [(0, .ref a0), (1, .int i1), (2, .int i2), (3, .int i3), (4, .int i4)] []) (fun (a0 : Nat) (i2 : Int32) (i3 : Int32) (i4 : Int32) (i6 : Int32) (i7 : Int32) (M : Mm) (cc zz : Nat) => QW p l e ({ frames := 9, cells := Cc, slots := Zz, locals := 159 } : Room) s m args below meth c (vx_MQ below (QiM D cA lo Q) (XcM D cA lo X) args s Cc Zz (fun q => lo ≤ q)) 13 D cA lo cc zz M 350 [(0, .ref a0), (2, .int i2), (3, .int i3), (4, .int i4), (6, .int i6), (7, .int i7)] []) (fun (a0 : Nat) (i1 : Int32) (i2 : Int32) (i3 : Int32) (i4 : Int32) (i5 : Int32) (i6 : Int32) (M : Mm) (cc zz : Nat) => QW p l e ({ frames := 9, cells := Cc, slots := Zz, locals := 159 } : Room) s m args below meth c (vx_MQ below (QiM D cA lo Q) (XcM D cA lo X) args s Cc Zz (fun q => lo ≤ q)) 13 D cA lo cc zz M 409 [(0, .ref a0), (1, .int i1), (2, .int i2), (3, .int i3), (4, .int i4), (5, .int i5), (6, .int i6)] []) (fun (a0 : Nat) (i2 : Int32) (i3 : Int32) (i4 : Int32) (i6 : Int32) (i7 : Int32) (M : Mm) (cc zz : Nat) => QW p l e ({ frames := 9, cells := Cc, slots := Zz, locals := 159 } : Room) s m args below meth c (vx_MQ below (QiM D cA lo Q) (XcM D cA lo X) args s Cc Zz (fun q => lo ≤ q)) 13 D cA lo cc zz M 475 [(0, .ref a0), (2, .int i2), (3, .int i3), (4, .int i4), (6, .int i6), (7, .int i7)] []) (fun (a0 : Nat) (i2 : Int32) (i3 : Int32) (i4 : Int32) (i6 : Int32) (i7 : Int32) (M : Mm) (cc zz : Nat) => QW p l e ({ frames := 9, cells := Cc, slots := Zz, locals := 159 } : Room) s m args below meth c (vx_MQ below (QiM D cA lo Q) (XcM D cA lo X) args s Cc Zz (fun q => lo ≤ q)) 13 D cA lo cc zz M 518 [(0, .ref a0), (2, .int i2), (3, .int i3), (4, .int i4), (6, .int i6), (7, .int i7)] []) (fun (a0 : Nat) (i2 : Int32) (i3 : Int32) (i4 : Int32) (i6 : Int32) (i7 : Int32) (M : Mm) (cc zz : Nat) => QW p l e ({ frames := 9, cells := Cc, slots := Zz, locals := 159 } : Room) s m args below meth c (vx_MQ below (QiM D cA lo Q) (XcM D cA lo X) args s Cc Zz (fun q => lo ≤ q)) 13 D cA lo cc zz M 552 [(0, .ref a0), (2, .int i2), (3, .int i3), (4, .int i4), (6, .int i6), (7, .int i7)] []) (fun (a0 : Nat) (i1 : Int32) (i2 : Int32) (i3 : Int32) (i4 : Int32) (i5 : Int32) (M : Mm) (cc zz : Nat) => QW p l e ({ frames := 9, cells := Cc, slots := Zz, locals := 159 } : Room) s m args below meth c (vx_MQ below (QiM D cA lo Q) (XcM D cA lo X) args s Cc Zz (fun q => lo ≤ q)) 13 D cA lo cc zz M 586 [(0, .ref a0), (1, .int i1), (2, .int i2), (3, .int i3), (4, .int i4), (5, .int i5)] []) (fun (a0 : Nat) (i2 : Int32) (i3 : Int32) (i4 : Int32) (i6 : Int32) (i7 : Int32) (M : Mm) (cc zz : Nat) => QW p l e ({ frames := 9, cells := Cc, slots := Zz, locals := 159 } : Room) s m args below meth c (vx_MQ below (QiM D cA lo Q) (XcM D cA lo X) args s Cc Zz (fun q => lo ≤ q)) 13 D cA lo cc zz M 660 [(0, .ref a0), (2, .int i2), (3, .int i3), (4, .int i4), (6, .int i6), (7, .int i7)] []) (fun (a0 : Nat) (i1 : Int32) (i2 : Int32) (i3 : Int32) (i4 : Int32) (M : Mm) (cc zz : Nat) => QW p l e ({ frames := 9, cells := Cc, slots := Zz, locals := 159 } : Room) s m args below meth c (vx_MQ below (QiM D cA lo Q) (XcM D cA lo X) args s Cc Zz (fun q => lo ≤ q)) 13 D cA lo cc zz M 710 [(0, .ref a0), (1, .int i1), (2, .int i2), (3, .int i3), (4, .int i4)] []) (fun (a0 : Nat) (i2 : Int32) (i3 : Int32) (i4 : Int32) (i5 : Int32) (M : Mm) (cc zz : Nat) => QW p l e ({ frames := 9, cells := Cc, slots := Zz, locals := 159 } : Room) s m args below meth c (vx_MQ below (QiM D cA lo Q) (XcM D cA lo X) args s Cc Zz (fun q => lo ≤ q)) 13 D cA lo cc zz M 766 [(0, .ref a0), (2, .int i2), (3, .int i3), (4, .int i4), (5, .int i5)] []) (fun (a0 : Nat) (i1 : Int32) (i2 : Int32) (i3 : Int32) (i4 : Int32) (M : Mm) (cc zz : Nat) => QW p l e ({ frames := 9, cells := Cc, slots := Zz, locals := 159 } : Room) s m args below meth c (vx_MQ below (QiM D cA lo Q) (XcM D cA lo X) args s Cc Zz (fun q => lo ≤ q)) 13 D cA lo cc zz M 802 [(0, .ref a0), (1, .int i1), (2, .int i2), (3, .int i3), (4, .int i4)] []) (fun (a0 : Nat) (i2 : Int32) (i3 : Int32) (i4 : Int32) (i8 : Int32) (as0 : Nat) (is1 : Int32) (is2 : Int32) (is3 : Int32) (is4 : Int32) (M : Mm) (cc zz : Nat) => QW p l e ({ frames := 9, cells := Cc, slots := Zz, locals := 159 } : Room) s m args below meth c (vx_MQ below (QiM D cA lo Q) (XcM D cA lo X) args s Cc Zz (fun q => lo ≤ q)) 13 D cA lo cc zz M 238 [(0, .ref a0), (2, .int i2), (3, .int i3), (4, .int i4), (8, .int i8)] [.int is4, .int is3, .int is2, .int is1, .ref as0]) (fun (a0 : Nat) (i2 : Int32) (i3 : Int32) (i4 : Int32) (as0 : Nat) (M : Mm) (cc zz : Nat) => QW p l e ({ frames := 9, cells := Cc, slots := Zz, locals := 159 } : Room) s m args below meth c (vx_MQ below (QiM D cA lo Q) (XcM D cA lo X) args s Cc Zz (fun q => lo ≤ q)) 13 D cA lo cc zz M 834 [(0, .ref a0), (2, .int i2), (3, .int i3), (4, .int i4)] [.ref as0]) (fun (a0 : Nat) (i2 : Int32) (i3 : Int32) (i4 : Int32) (as0 : Nat) (M : Mm) (cc zz : Nat) => QW p l e ({ frames := 9, cells := Cc, slots := Zz, locals := 159 } : Room) s m args below meth c (vx_MQ below (QiM D cA lo Q) (XcM D cA lo X) args s Cc Zz (fun q => lo ≤ q)) 13 D cA lo cc zz M 867 [(0, .ref a0), (2, .int i2), (3, .int i3), (4, .int i4)] [.ref as0]) (fun (a0 : Nat) (i2 : Int32) (i3 : Int32) (i4 : Int32) (as0 : Nat) (M : Mm) (cc zz : Nat) => QW p l e ({ frames := 9, cells := Cc, slots := Zz, locals := 159 } : Room) s m args below meth c (vx_MQ below (QiM D cA lo Q) (XcM D cA lo X) args s Cc Zz (fun q => lo ≤ q)) 13 D cA lo cc zz M 900 [(0, .ref a0), (2, .int i2), (3, .int i3), (4, .int i4)] [.ref as0]) Cc Zz Q X M a0 i1 i2 i3 i4 i5 cc zz) : QW p l e ({ frames := 9, cells := Cc, slots := Zz, locals := 159 } : Room) s m args below meth c (vx_MQ below (QiM D cA lo Q) (XcM D cA lo X) args s Cc Zz (fun q => lo ≤ q)) 13 D cA lo cc zz M 586 [(0, .ref a0), (1, .int i1), (2, .int i2), (3, .int i3), (4, .int i4), (5, .int i5)] [] := by
  unfold S_L_act_586 at h
  refine q_iload_n C dL_act_586 rfl (j := 1) rfl ?_
  refine q_bipush (v := 8) C dL_act_587 (by decide) ?_
  refine q_ishr C dL_act_589 ?_
  refine q_iconst (v := 4) C dL_act_590 (by decide) ?_
  have hcz := h.1
  have h := h.2
  refine q_ci (q_runS (As := [.int (i1 >>> (8 &&& 31)), .int 4]) (st := []) C (c_L_below l D cA lo h) (va_cwS 2 C.2.2.2.2.1 gL_act_L_below rfl rfl rfl (by decide +kernel) ⟨Nat.le_of_ble_eq_true rfl, Nat.le_of_ble_eq_true rfl⟩) rfl rfl (Nat.le_of_ble_eq_true rfl) dL_act_591 ⟨Nat.le_trans (Nat.le_of_eq (Nat.add_zero _)) hcz.1, Nat.le_trans (Nat.le_of_eq (Nat.add_zero _)) hcz.2⟩) (fun r_81 M_z h => ?_)
  refine q_mem h.1 ?_
  have h := h.2
  refine q_if_ne (tgt := 637) C dL_act_594 (by decide) (fun z => ?_) (fun z => ?_)
  · have h := h.1 z
    refine q_aload_n C dL_act_637 rfl (j := 0) rfl ?_
    have hcz := h.1
    have h := h.2
    refine q_ci (q_runV (As := []) (st := []) C (c_X8_smooth l D cA lo h.2) (cwV 0 C.2.2.2.2.1 gL_act_X8_smooth rfl rfl rfl (by decide +kernel) ⟨Nat.le_of_ble_eq_true rfl, Nat.le_of_ble_eq_true rfl⟩) h.1 (by decide) rfl rfl rfl (Nat.le_of_ble_eq_true rfl) dL_act_638 ⟨Nat.le_trans (Nat.le_of_eq (Nat.add_zero _)) hcz.1, Nat.le_trans (Nat.le_of_eq (Nat.add_zero _)) hcz.2⟩) (fun r_82 M_83 h => ?_)
    refine q_iload_n C dL_act_641 rfl (j := 2) rfl ?_
    refine q_icmp_gt (tgt := 658) C dL_act_642 (by decide) (fun z => ?_) (fun z => ?_)
    · have h := h.1 z
      refine q_iconst (v := 0) C dL_act_658 (by decide) ?_
      exact q_xret (q_zret C hr hlk dL_act_659 h.1 h.2.1 (Or.inl rfl) h.2.2)
    · have h := h.2 z
      refine q_aload_n C dL_act_645 rfl (j := 0) rfl ?_
      have hcz := h.1
      have h := h.2
      refine q_ci (q_runV (As := []) (st := []) C (c_X8_faces l D cA lo h.2) (cwV 0 C.2.2.2.2.1 gL_act_X8_faces rfl rfl rfl (by decide +kernel) ⟨Nat.le_of_ble_eq_true rfl, Nat.le_of_ble_eq_true rfl⟩) h.1 (by decide) rfl rfl rfl (Nat.le_of_ble_eq_true rfl) dL_act_646 ⟨Nat.le_trans (Nat.le_of_eq (Nat.add_zero _)) hcz.1, Nat.le_trans (Nat.le_of_eq (Nat.add_zero _)) hcz.2⟩) (fun r_84 M_z h => ?_)
      refine q_mem h.1 ?_
      have h := h.2
      refine q_iload C dL_act_649 (j := 4) rfl ?_
      refine q_icmp_ne (tgt := 658) C dL_act_651 (by decide) (fun z => ?_) (fun z => ?_)
      · have h := h.1 z
        refine q_iconst (v := 0) C dL_act_658 (by decide) ?_
        exact q_xret (q_zret C hr hlk dL_act_659 h.1 h.2.1 (Or.inl rfl) h.2.2)
      · have h := h.2 z
        refine q_iconst (v := 1) C dL_act_654 (by decide) ?_
        refine q_goto (tgt := 659) C dL_act_655 (by decide) ?_
        exact q_xret (q_zret C hr hlk dL_act_659 h.1 h.2.1 (Or.inr rfl) h.2.2)
  · have h := h.2 z
    refine q_aload_n C dL_act_597 rfl (j := 0) rfl ?_
    refine q_iload C dL_act_598 (j := 5) rfl ?_
    refine q_iload_n C dL_act_600 rfl (j := 1) rfl ?_
    refine q_iconst (v := 4) C dL_act_601 (by decide) ?_
    refine q_ishr C dL_act_602 ?_
    refine q_bipush (v := 20) C dL_act_603 (by decide) ?_
    have hcz := h.1
    have h := h.2
    refine q_ci (q_runS (As := [.int (i1 >>> (4 &&& 31)), .int 20]) (st := [.int i5, .ref a0]) C (c_L_below l D cA lo h) (va_cwS 2 C.2.2.2.2.1 gL_act_L_below rfl rfl rfl (by decide +kernel) ⟨Nat.le_of_ble_eq_true rfl, Nat.le_of_ble_eq_true rfl⟩) rfl rfl (Nat.le_of_ble_eq_true rfl) dL_act_605 ⟨Nat.le_trans (Nat.le_of_eq (Nat.add_zero _)) hcz.1, Nat.le_trans (Nat.le_of_eq (Nat.add_zero _)) hcz.2⟩) (fun r_85 M_z h => ?_)
    refine q_mem h.1 ?_
    have h := h.2
    refine q_iconst (v := 3) C dL_act_608 (by decide) ?_
    refine q_iload_n C dL_act_609 rfl (j := 1) rfl ?_
    refine q_bipush (v := 6) C dL_act_610 (by decide) ?_
    refine q_ishr C dL_act_612 ?_
    refine q_bipush (v := 20) C dL_act_613 (by decide) ?_
    have hcz := h.1
    have h := h.2
    refine q_ci (q_runS (As := [.int (i1 >>> (6 &&& 31)), .int 20]) (st := [.int 3, .int r_85, .int i5, .ref a0]) C (c_L_below l D cA lo h) (va_cwS 2 C.2.2.2.2.1 gL_act_L_below rfl rfl rfl (by decide +kernel) ⟨Nat.le_of_ble_eq_true rfl, Nat.le_of_ble_eq_true rfl⟩) rfl rfl (Nat.le_of_ble_eq_true rfl) dL_act_615 ⟨Nat.le_trans (Nat.le_of_eq (Nat.add_zero _)) hcz.1, Nat.le_trans (Nat.le_of_eq (Nat.add_zero _)) hcz.2⟩) (fun r_86 M_z h => ?_)
    refine q_mem h.1 ?_
    have h := h.2
    obtain ⟨dc_89, ds_89, hcz, h⟩ := h
    refine q_xi (qx_runV (As := [.int i5, .int r_85, .int 3, .int r_86]) (st := []) C (c_X8_draw l hl D cA lo h.2) (cwV 4 C.2.2.2.2.1 gL_act_X8_draw rfl rfl rfl (by decide +kernel) ⟨Nat.le_of_ble_eq_true rfl, Nat.le_of_ble_eq_true rfl⟩) h.1 (by decide) rfl rfl rfl (Nat.le_of_ble_eq_true rfl) dL_act_618 hcz) (fun E M_x h => ?_) (fun r_87 M_88 h => ?_)
    · rcases h with ⟨rfl, h⟩ | ⟨rfl, h⟩ | ⟨rfl, h⟩
      · have h := h
        refine q_catch (name := "") C htab (List.take 8 hhL_act) (586, 636, 834, 58) (List.drop 9 hhL_act) (by decide) (by decide) (by decide +kernel) (by decide) (by decide) (by decide +kernel) (fun qx => ?_)
        have h := h qx
        exact q_sub [0, 2, 3, 4] rfl h
      · have h := h
        refine q_catch (name := "") C htab (List.take 22 hhL_act) (586, 636, 867, 120) (List.drop 23 hhL_act) (by decide) (by decide) (by decide +kernel) (by decide) (by decide) (by decide +kernel) (fun qx => ?_)
        have h := h qx
        exact q_sub [0, 2, 3, 4] rfl h
      · have h := h
        refine q_catch (name := "") C htab (List.take 36 hhL_act) (586, 636, 900, 122) (List.drop 37 hhL_act) (by decide) (by decide) (by decide +kernel) (by decide) (by decide) (by decide +kernel) (fun qx => ?_)
        have h := h qx
        exact q_sub [0, 2, 3, 4] rfl h
    · refine q_if_lt (tgt := 635) C dL_act_621 (by decide) (fun z => ?_) (fun z => ?_)
      · have h := h.1 z
        refine q_iconst (v := 0) C dL_act_635 (by decide) ?_
        exact q_xret (q_zret C hr hlk dL_act_636 h.1 h.2.1 (Or.inl rfl) h.2.2)
      · have h := h.2 z
        refine q_aload_n C dL_act_624 rfl (j := 0) rfl ?_
        have hcz := h.1
        have h := h.2
        refine q_ci (q_runV (As := []) (st := []) C (c_X8_holes l D cA lo h.2) (cwV 0 C.2.2.2.2.1 gL_act_X8_holes rfl rfl rfl (by decide +kernel) ⟨Nat.le_of_ble_eq_true rfl, Nat.le_of_ble_eq_true rfl⟩) h.1 (by decide) rfl rfl rfl (Nat.le_of_ble_eq_true rfl) dL_act_625 ⟨Nat.le_trans (Nat.le_of_eq (Nat.add_zero _)) hcz.1, Nat.le_trans (Nat.le_of_eq (Nat.add_zero _)) hcz.2⟩) (fun r_90 M_91 h => ?_)
        refine q_if_lt (tgt := 635) C dL_act_628 (by decide) (fun z => ?_) (fun z => ?_)
        · have h := h.1 z
          refine q_iconst (v := 0) C dL_act_635 (by decide) ?_
          exact q_xret (q_zret C hr hlk dL_act_636 h.1 h.2.1 (Or.inl rfl) h.2.2)
        · have h := h.2 z
          refine q_iconst (v := 1) C dL_act_631 (by decide) ?_
          refine q_goto (tgt := 636) C dL_act_632 (by decide) ?_
          exact q_xret (q_zret C hr hlk dL_act_636 h.1 h.2.1 (Or.inr rfl) h.2.2)
set_option maxRecDepth 100000 in
set_option maxHeartbeats 4000000 in
theorem b_L_act_660 {p : Program} {l : Launch} {e : Env} {s : State} {m : MethodId} {args : Array Value} {below : List Frame} {meth : Method} {c : Code} {D : va_G} {cA : Nat → ClassId} {lo : Nat} (C : Cx p s m args c cL_act 13 RL wsL_act D cA lo) (hr : meth.sig.returnType = (some .boolean)) (hlk : meth.locks = false) (hl : l.stackTraces = false) (htab : c.exceptionTable.toList = tableOf hhL_act) {Q : Int32 → Mm → Prop} {Cc Zz : Nat} {X : String → Mm → Prop} (M : Mm) (a0 : Nat) (i2 : Int32) (i3 : Int32) (i4 : Int32) (i6 : Int32) (i7 : Int32) (cc zz : Nat) (h : S_L_act_660 (fun (a0 : Nat) (i1 : Int32) (i2 : Int32) (i3 : Int32) (i4 : Int32) (i5 : Int32) (i6 : Int32) (i7 : Int32) (M : Mm) (cc zz : Nat) => QW p l e ({ frames := 9, cells := Cc, slots := Zz, locals := 159 } : Room) s m args below meth c (vx_MQ below (QiM D cA lo Q) (XcM D cA lo X) args s Cc Zz (fun q => lo ≤ q)) 13 D cA lo cc zz M 114 [(0, .ref a0), (1, .int i1), (2, .int i2), (3, .int i3), (4, .int i4), (5, .int i5), (6, .int i6), (7, .int i7)] []) (fun (a0 : Nat) (i1 : Int32) (i2 : Int32) (i3 : Int32) (i4 : Int32) (i6 : Int32) (i7 : Int32) (as0 : Nat) (M : Mm) (cc zz : Nat) => QW p l e ({ frames := 9, cells := Cc, slots := Zz, locals := 159 } : Room) s m args below meth c (vx_MQ below (QiM D cA lo Q) (XcM D cA lo X) args s Cc Zz (fun q => lo ≤ q)) 13 D cA lo cc zz M 109 [(0, .ref a0), (1, .int i1), (2, .int i2), (3, .int i3), (4, .int i4), (6, .int i6), (7, .int i7)] [.ref as0]) (fun (a0 : Nat) (i1 : Int32) (i2 : Int32) (i3 : Int32) (i4 : Int32) (M : Mm) (cc zz : Nat) => QW p l e ({ frames := 9, cells := Cc, slots := Zz, locals := 159 } : Room) s m args below meth c (vx_MQ below (QiM D cA lo Q) (XcM D cA lo X) args s Cc Zz (fun q => lo ≤ q)) 13 D cA lo cc zz M 188 [(0, .ref a0), (1, .int i1), (2, .int i2), (3, .int i3), (4, .int i4)] []) (fun (a0 : Nat) (i1 : Int32) (i2 : Int32) (i3 : Int32) (i4 : Int32) (M : Mm) (cc zz : Nat) => QW p l e ({ frames := 9, cells := Cc, slots := Zz, locals := 159 } : Room) s m args below meth c (vx_MQ below (QiM D cA lo Q) (XcM D cA lo X) args s Cc Zz (fun q => lo ≤ q)) 13 D cA lo cc zz M 272 [(0, .ref a0), (1, .int i1), (2, .int i2), (3, .int i3), (4, .int i4)] []) (fun (a0 : Nat) (i2 : Int32) (i3 : Int32) (i4 : Int32) (i6 : Int32) (i7 : Int32) (M : Mm) (cc zz : Nat) => QW p l e ({ frames := 9, cells := Cc, slots := Zz, locals := 159 } : Room) s m args below meth c (vx_MQ below (QiM D cA lo Q) (XcM D cA lo X) args s Cc Zz (fun q => lo ≤ q)) 13 D cA lo cc zz M 350 [(0, .ref a0), (2, .int i2), (3, .int i3), (4, .int i4), (6, .int i6), (7, .int i7)] []) (fun (a0 : Nat) (i1 : Int32) (i2 : Int32) (i3 : Int32) (i4 : Int32) (i5 : Int32) (i6 : Int32) (M : Mm) (cc zz : Nat) => QW p l e ({ frames := 9, cells := Cc, slots := Zz, locals := 159 } : Room) s m args below meth c (vx_MQ below (QiM D cA lo Q) (XcM D cA lo X) args s Cc Zz (fun q => lo ≤ q)) 13 D cA lo cc zz M 409 [(0, .ref a0), (1, .int i1), (2, .int i2), (3, .int i3), (4, .int i4), (5, .int i5), (6, .int i6)] []) (fun (a0 : Nat) (i2 : Int32) (i3 : Int32) (i4 : Int32) (i6 : Int32) (i7 : Int32) (M : Mm) (cc zz : Nat) => QW p l e ({ frames := 9, cells := Cc, slots := Zz, locals := 159 } : Room) s m args below meth c (vx_MQ below (QiM D cA lo Q) (XcM D cA lo X) args s Cc Zz (fun q => lo ≤ q)) 13 D cA lo cc zz M 475 [(0, .ref a0), (2, .int i2), (3, .int i3), (4, .int i4), (6, .int i6), (7, .int i7)] []) (fun (a0 : Nat) (i2 : Int32) (i3 : Int32) (i4 : Int32) (i6 : Int32) (i7 : Int32) (M : Mm) (cc zz : Nat) => QW p l e ({ frames := 9, cells := Cc, slots := Zz, locals := 159 } : Room) s m args below meth c (vx_MQ below (QiM D cA lo Q) (XcM D cA lo X) args s Cc Zz (fun q => lo ≤ q)) 13 D cA lo cc zz M 518 [(0, .ref a0), (2, .int i2), (3, .int i3), (4, .int i4), (6, .int i6), (7, .int i7)] []) (fun (a0 : Nat) (i2 : Int32) (i3 : Int32) (i4 : Int32) (i6 : Int32) (i7 : Int32) (M : Mm) (cc zz : Nat) => QW p l e ({ frames := 9, cells := Cc, slots := Zz, locals := 159 } : Room) s m args below meth c (vx_MQ below (QiM D cA lo Q) (XcM D cA lo X) args s Cc Zz (fun q => lo ≤ q)) 13 D cA lo cc zz M 552 [(0, .ref a0), (2, .int i2), (3, .int i3), (4, .int i4), (6, .int i6), (7, .int i7)] []) (fun (a0 : Nat) (i1 : Int32) (i2 : Int32) (i3 : Int32) (i4 : Int32) (i5 : Int32) (M : Mm) (cc zz : Nat) => QW p l e ({ frames := 9, cells := Cc, slots := Zz, locals := 159 } : Room) s m args below meth c (vx_MQ below (QiM D cA lo Q) (XcM D cA lo X) args s Cc Zz (fun q => lo ≤ q)) 13 D cA lo cc zz M 586 [(0, .ref a0), (1, .int i1), (2, .int i2), (3, .int i3), (4, .int i4), (5, .int i5)] []) (fun (a0 : Nat) (i2 : Int32) (i3 : Int32) (i4 : Int32) (i6 : Int32) (i7 : Int32) (M : Mm) (cc zz : Nat) => QW p l e ({ frames := 9, cells := Cc, slots := Zz, locals := 159 } : Room) s m args below meth c (vx_MQ below (QiM D cA lo Q) (XcM D cA lo X) args s Cc Zz (fun q => lo ≤ q)) 13 D cA lo cc zz M 660 [(0, .ref a0), (2, .int i2), (3, .int i3), (4, .int i4), (6, .int i6), (7, .int i7)] []) (fun (a0 : Nat) (i1 : Int32) (i2 : Int32) (i3 : Int32) (i4 : Int32) (M : Mm) (cc zz : Nat) => QW p l e ({ frames := 9, cells := Cc, slots := Zz, locals := 159 } : Room) s m args below meth c (vx_MQ below (QiM D cA lo Q) (XcM D cA lo X) args s Cc Zz (fun q => lo ≤ q)) 13 D cA lo cc zz M 710 [(0, .ref a0), (1, .int i1), (2, .int i2), (3, .int i3), (4, .int i4)] []) (fun (a0 : Nat) (i2 : Int32) (i3 : Int32) (i4 : Int32) (i5 : Int32) (M : Mm) (cc zz : Nat) => QW p l e ({ frames := 9, cells := Cc, slots := Zz, locals := 159 } : Room) s m args below meth c (vx_MQ below (QiM D cA lo Q) (XcM D cA lo X) args s Cc Zz (fun q => lo ≤ q)) 13 D cA lo cc zz M 766 [(0, .ref a0), (2, .int i2), (3, .int i3), (4, .int i4), (5, .int i5)] []) (fun (a0 : Nat) (i1 : Int32) (i2 : Int32) (i3 : Int32) (i4 : Int32) (M : Mm) (cc zz : Nat) => QW p l e ({ frames := 9, cells := Cc, slots := Zz, locals := 159 } : Room) s m args below meth c (vx_MQ below (QiM D cA lo Q) (XcM D cA lo X) args s Cc Zz (fun q => lo ≤ q)) 13 D cA lo cc zz M 802 [(0, .ref a0), (1, .int i1), (2, .int i2), (3, .int i3), (4, .int i4)] []) (fun (a0 : Nat) (i2 : Int32) (i3 : Int32) (i4 : Int32) (i8 : Int32) (as0 : Nat) (is1 : Int32) (is2 : Int32) (is3 : Int32) (is4 : Int32) (M : Mm) (cc zz : Nat) => QW p l e ({ frames := 9, cells := Cc, slots := Zz, locals := 159 } : Room) s m args below meth c (vx_MQ below (QiM D cA lo Q) (XcM D cA lo X) args s Cc Zz (fun q => lo ≤ q)) 13 D cA lo cc zz M 238 [(0, .ref a0), (2, .int i2), (3, .int i3), (4, .int i4), (8, .int i8)] [.int is4, .int is3, .int is2, .int is1, .ref as0]) (fun (a0 : Nat) (i2 : Int32) (i3 : Int32) (i4 : Int32) (as0 : Nat) (M : Mm) (cc zz : Nat) => QW p l e ({ frames := 9, cells := Cc, slots := Zz, locals := 159 } : Room) s m args below meth c (vx_MQ below (QiM D cA lo Q) (XcM D cA lo X) args s Cc Zz (fun q => lo ≤ q)) 13 D cA lo cc zz M 834 [(0, .ref a0), (2, .int i2), (3, .int i3), (4, .int i4)] [.ref as0]) (fun (a0 : Nat) (i2 : Int32) (i3 : Int32) (i4 : Int32) (as0 : Nat) (M : Mm) (cc zz : Nat) => QW p l e ({ frames := 9, cells := Cc, slots := Zz, locals := 159 } : Room) s m args below meth c (vx_MQ below (QiM D cA lo Q) (XcM D cA lo X) args s Cc Zz (fun q => lo ≤ q)) 13 D cA lo cc zz M 867 [(0, .ref a0), (2, .int i2), (3, .int i3), (4, .int i4)] [.ref as0]) (fun (a0 : Nat) (i2 : Int32) (i3 : Int32) (i4 : Int32) (as0 : Nat) (M : Mm) (cc zz : Nat) => QW p l e ({ frames := 9, cells := Cc, slots := Zz, locals := 159 } : Room) s m args below meth c (vx_MQ below (QiM D cA lo Q) (XcM D cA lo X) args s Cc Zz (fun q => lo ≤ q)) 13 D cA lo cc zz M 900 [(0, .ref a0), (2, .int i2), (3, .int i3), (4, .int i4)] [.ref as0]) Cc Zz Q X M a0 i2 i3 i4 i6 i7 cc zz) : QW p l e ({ frames := 9, cells := Cc, slots := Zz, locals := 159 } : Room) s m args below meth c (vx_MQ below (QiM D cA lo Q) (XcM D cA lo X) args s Cc Zz (fun q => lo ≤ q)) 13 D cA lo cc zz M 660 [(0, .ref a0), (2, .int i2), (3, .int i3), (4, .int i4), (6, .int i6), (7, .int i7)] [] := by
  unfold S_L_act_660 at h
  refine q_aload_n C dL_act_660 rfl (j := 0) rfl ?_
  have hcz := h.1
  have h := h.2
  refine q_ci (q_runV (As := []) (st := []) C (c_X8_holes l D cA lo h.2) (cwV 0 C.2.2.2.2.1 gL_act_X8_holes rfl rfl rfl (by decide +kernel) ⟨Nat.le_of_ble_eq_true rfl, Nat.le_of_ble_eq_true rfl⟩) h.1 (by decide) rfl rfl rfl (Nat.le_of_ble_eq_true rfl) dL_act_661 ⟨Nat.le_trans (Nat.le_of_eq (Nat.add_zero _)) hcz.1, Nat.le_trans (Nat.le_of_eq (Nat.add_zero _)) hcz.2⟩) (fun r_92 M_93 h => ?_)
  refine q_istore (lv' := [(10, .int r_92), (0, .ref a0), (2, .int i2), (3, .int i3), (4, .int i4), (6, .int i6), (7, .int i7)]) C dL_act_664 (by decide) rfl ?_
  refine q_aload_n C dL_act_666 rfl (j := 1) rfl ?_
  refine q_iload C dL_act_667 (j := 6) rfl ?_
  refine q_iload C dL_act_669 (j := 5) rfl ?_
  obtain ⟨dc_96, ds_96, hcz, h⟩ := h
  refine q_xi (qx_runV (As := [.int i7, .int i6]) (st := []) C (c_X8_hole l hl D cA lo h.2) (cwV 2 C.2.2.2.2.1 gL_act_X8_hole rfl rfl rfl (by decide +kernel) ⟨Nat.le_of_ble_eq_true rfl, Nat.le_of_ble_eq_true rfl⟩) h.1 (by decide) rfl rfl rfl (Nat.le_of_ble_eq_true rfl) dL_act_671 hcz) (fun E M_x h => ?_) (fun r_94 M_95 h => ?_)
  · rcases h with ⟨rfl, h⟩ | ⟨rfl, h⟩ | ⟨rfl, h⟩
    · have h := h
      refine q_catch (name := "") C htab (List.take 10 hhL_act) (660, 709, 834, 58) (List.drop 11 hhL_act) (by decide) (by decide) (by decide +kernel) (by decide) (by decide) (by decide +kernel) (fun qx => ?_)
      have h := h qx
      exact q_sub [1, 2, 3, 4] rfl h
    · have h := h
      refine q_catch (name := "") C htab (List.take 24 hhL_act) (660, 709, 867, 120) (List.drop 25 hhL_act) (by decide) (by decide) (by decide +kernel) (by decide) (by decide) (by decide +kernel) (fun qx => ?_)
      have h := h qx
      exact q_sub [1, 2, 3, 4] rfl h
    · have h := h
      refine q_catch (name := "") C htab (List.take 38 hhL_act) (660, 709, 900, 122) (List.drop 39 hhL_act) (by decide) (by decide) (by decide +kernel) (by decide) (by decide) (by decide +kernel) (fun qx => ?_)
      have h := h qx
      exact q_sub [1, 2, 3, 4] rfl h
  · refine q_istore (lv' := [(11, .int r_94), (10, .int r_92), (0, .ref a0), (2, .int i2), (3, .int i3), (4, .int i4), (6, .int i6), (7, .int i7)]) C dL_act_674 (by decide) rfl ?_
    refine q_aload_n C dL_act_676 rfl (j := 2) rfl ?_
    refine q_aload_n C dL_act_677 rfl (j := 2) rfl ?_
    refine q_iload C dL_act_678 (j := 7) rfl ?_
    refine q_iload C dL_act_680 (j := 6) rfl ?_
    obtain ⟨dc_99, ds_99, hcz, h⟩ := h
    refine q_xi (qx_runV (As := [.int i7, .int i6]) (st := [.ref a0]) C (c_X8_fill l hl D cA lo h.2) (cwV 2 C.2.2.2.2.1 gL_act_X8_fill rfl rfl rfl (by decide +kernel) ⟨Nat.le_of_ble_eq_true rfl, Nat.le_of_ble_eq_true rfl⟩) h.1 (by decide) rfl rfl rfl (Nat.le_of_ble_eq_true rfl) dL_act_682 hcz) (fun E M_x h => ?_) (fun r_97 M_98 h => ?_)
    · rcases h with ⟨rfl, h⟩ | ⟨rfl, h⟩ | ⟨rfl, h⟩
      · have h := h
        refine q_catch (name := "") C htab (List.take 10 hhL_act) (660, 709, 834, 58) (List.drop 11 hhL_act) (by decide) (by decide) (by decide +kernel) (by decide) (by decide) (by decide +kernel) (fun qx => ?_)
        have h := h qx
        exact q_sub [2, 3, 4, 5] rfl h
      · have h := h
        refine q_catch (name := "") C htab (List.take 24 hhL_act) (660, 709, 867, 120) (List.drop 25 hhL_act) (by decide) (by decide) (by decide +kernel) (by decide) (by decide) (by decide +kernel) (fun qx => ?_)
        have h := h qx
        exact q_sub [2, 3, 4, 5] rfl h
      · have h := h
        refine q_catch (name := "") C htab (List.take 38 hhL_act) (660, 709, 900, 122) (List.drop 39 hhL_act) (by decide) (by decide) (by decide +kernel) (by decide) (by decide) (by decide +kernel) (fun qx => ?_)
        have h := h qx
        exact q_sub [2, 3, 4, 5] rfl h
    · obtain ⟨dc_102, ds_102, hcz, h⟩ := h
      refine q_xi (qx_runV (As := [.int r_97]) (st := []) C (c_X8_size l hl D cA lo h.2) (cwV 1 C.2.2.2.2.1 gL_act_X8_size rfl rfl rfl (by decide +kernel) ⟨Nat.le_of_ble_eq_true rfl, Nat.le_of_ble_eq_true rfl⟩) h.1 (by decide) rfl rfl rfl (Nat.le_of_ble_eq_true rfl) dL_act_685 hcz) (fun E M_x h => ?_) (fun r_100 M_101 h => ?_)
      · rcases h with ⟨rfl, h⟩ | ⟨rfl, h⟩ | ⟨rfl, h⟩
        · have h := h
          refine q_catch (name := "") C htab (List.take 10 hhL_act) (660, 709, 834, 58) (List.drop 11 hhL_act) (by decide) (by decide) (by decide +kernel) (by decide) (by decide) (by decide +kernel) (fun qx => ?_)
          have h := h qx
          exact q_sub [2, 3, 4, 5] rfl h
        · have h := h
          refine q_catch (name := "") C htab (List.take 24 hhL_act) (660, 709, 867, 120) (List.drop 25 hhL_act) (by decide) (by decide) (by decide +kernel) (by decide) (by decide) (by decide +kernel) (fun qx => ?_)
          have h := h qx
          exact q_sub [2, 3, 4, 5] rfl h
        · have h := h
          refine q_catch (name := "") C htab (List.take 38 hhL_act) (660, 709, 900, 122) (List.drop 39 hhL_act) (by decide) (by decide) (by decide +kernel) (by decide) (by decide) (by decide +kernel) (fun qx => ?_)
          have h := h qx
          exact q_sub [2, 3, 4, 5] rfl h
      · refine q_iload C dL_act_688 (j := 0) rfl ?_
        refine q_icmp_ne (tgt := 708) C dL_act_690 (by decide) (fun z => ?_) (fun z => ?_)
        · have h := h.1 z
          refine q_iconst (v := 0) C dL_act_708 (by decide) ?_
          exact q_xret (q_zret C hr hlk dL_act_709 h.1 h.2.1 (Or.inl rfl) h.2.2)
        · have h := h.2 z
          refine q_aload_n C dL_act_693 rfl (j := 2) rfl ?_
          have hcz := h.1
          have h := h.2
          refine q_ci (q_runV (As := []) (st := []) C (c_X8_holes l D cA lo h.2) (cwV 0 C.2.2.2.2.1 gL_act_X8_holes rfl rfl rfl (by decide +kernel) ⟨Nat.le_of_ble_eq_true rfl, Nat.le_of_ble_eq_true rfl⟩) h.1 (by decide) rfl rfl rfl (Nat.le_of_ble_eq_true rfl) dL_act_694 ⟨Nat.le_trans (Nat.le_of_eq (Nat.add_zero _)) hcz.1, Nat.le_trans (Nat.le_of_eq (Nat.add_zero _)) hcz.2⟩) (fun r_103 M_104 h => ?_)
          refine q_iload C dL_act_697 (j := 1) rfl ?_
          refine q_iconst (v := 1) C dL_act_699 (by decide) ?_
          refine q_isub C dL_act_700 ?_
          refine q_icmp_ne (tgt := 708) C dL_act_701 (by decide) (fun z => ?_) (fun z => ?_)
          · have h := h.1 z
            refine q_iconst (v := 0) C dL_act_708 (by decide) ?_
            exact q_xret (q_zret C hr hlk dL_act_709 h.1 h.2.1 (Or.inl rfl) h.2.2)
          · have h := h.2 z
            refine q_iconst (v := 1) C dL_act_704 (by decide) ?_
            refine q_goto (tgt := 709) C dL_act_705 (by decide) ?_
            exact q_xret (q_zret C hr hlk dL_act_709 h.1 h.2.1 (Or.inr rfl) h.2.2)
set_option maxRecDepth 100000 in
set_option maxHeartbeats 4000000 in
theorem b_L_act_710 {p : Program} {l : Launch} {e : Env} {s : State} {m : MethodId} {args : Array Value} {below : List Frame} {meth : Method} {c : Code} {D : va_G} {cA : Nat → ClassId} {lo : Nat} (C : Cx p s m args c cL_act 13 RL wsL_act D cA lo) (hr : meth.sig.returnType = (some .boolean)) (hlk : meth.locks = false) (hl : l.stackTraces = false) (htab : c.exceptionTable.toList = tableOf hhL_act) {Q : Int32 → Mm → Prop} {Cc Zz : Nat} {X : String → Mm → Prop} (M : Mm) (a0 : Nat) (i1 : Int32) (i2 : Int32) (i3 : Int32) (i4 : Int32) (cc zz : Nat) (h : S_L_act_710 (fun (a0 : Nat) (i1 : Int32) (i2 : Int32) (i3 : Int32) (i4 : Int32) (i5 : Int32) (i6 : Int32) (i7 : Int32) (M : Mm) (cc zz : Nat) => QW p l e ({ frames := 9, cells := Cc, slots := Zz, locals := 159 } : Room) s m args below meth c (vx_MQ below (QiM D cA lo Q) (XcM D cA lo X) args s Cc Zz (fun q => lo ≤ q)) 13 D cA lo cc zz M 114 [(0, .ref a0), (1, .int i1), (2, .int i2), (3, .int i3), (4, .int i4), (5, .int i5), (6, .int i6), (7, .int i7)] []) (fun (a0 : Nat) (i1 : Int32) (i2 : Int32) (i3 : Int32) (i4 : Int32) (i6 : Int32) (i7 : Int32) (as0 : Nat) (M : Mm) (cc zz : Nat) => QW p l e ({ frames := 9, cells := Cc, slots := Zz, locals := 159 } : Room) s m args below meth c (vx_MQ below (QiM D cA lo Q) (XcM D cA lo X) args s Cc Zz (fun q => lo ≤ q)) 13 D cA lo cc zz M 109 [(0, .ref a0), (1, .int i1), (2, .int i2), (3, .int i3), (4, .int i4), (6, .int i6), (7, .int i7)] [.ref as0]) (fun (a0 : Nat) (i1 : Int32) (i2 : Int32) (i3 : Int32) (i4 : Int32) (M : Mm) (cc zz : Nat) => QW p l e ({ frames := 9, cells := Cc, slots := Zz, locals := 159 } : Room) s m args below meth c (vx_MQ below (QiM D cA lo Q) (XcM D cA lo X) args s Cc Zz (fun q => lo ≤ q)) 13 D cA lo cc zz M 188 [(0, .ref a0), (1, .int i1), (2, .int i2), (3, .int i3), (4, .int i4)] []) (fun (a0 : Nat) (i1 : Int32) (i2 : Int32) (i3 : Int32) (i4 : Int32) (M : Mm) (cc zz : Nat) => QW p l e ({ frames := 9, cells := Cc, slots := Zz, locals := 159 } : Room) s m args below meth c (vx_MQ below (QiM D cA lo Q) (XcM D cA lo X) args s Cc Zz (fun q => lo ≤ q)) 13 D cA lo cc zz M 272 [(0, .ref a0), (1, .int i1), (2, .int i2), (3, .int i3), (4, .int i4)] []) (fun (a0 : Nat) (i2 : Int32) (i3 : Int32) (i4 : Int32) (i6 : Int32) (i7 : Int32) (M : Mm) (cc zz : Nat) => QW p l e ({ frames := 9, cells := Cc, slots := Zz, locals := 159 } : Room) s m args below meth c (vx_MQ below (QiM D cA lo Q) (XcM D cA lo X) args s Cc Zz (fun q => lo ≤ q)) 13 D cA lo cc zz M 350 [(0, .ref a0), (2, .int i2), (3, .int i3), (4, .int i4), (6, .int i6), (7, .int i7)] []) (fun (a0 : Nat) (i1 : Int32) (i2 : Int32) (i3 : Int32) (i4 : Int32) (i5 : Int32) (i6 : Int32) (M : Mm) (cc zz : Nat) => QW p l e ({ frames := 9, cells := Cc, slots := Zz, locals := 159 } : Room) s m args below meth c (vx_MQ below (QiM D cA lo Q) (XcM D cA lo X) args s Cc Zz (fun q => lo ≤ q)) 13 D cA lo cc zz M 409 [(0, .ref a0), (1, .int i1), (2, .int i2), (3, .int i3), (4, .int i4), (5, .int i5), (6, .int i6)] []) (fun (a0 : Nat) (i2 : Int32) (i3 : Int32) (i4 : Int32) (i6 : Int32) (i7 : Int32) (M : Mm) (cc zz : Nat) => QW p l e ({ frames := 9, cells := Cc, slots := Zz, locals := 159 } : Room) s m args below meth c (vx_MQ below (QiM D cA lo Q) (XcM D cA lo X) args s Cc Zz (fun q => lo ≤ q)) 13 D cA lo cc zz M 475 [(0, .ref a0), (2, .int i2), (3, .int i3), (4, .int i4), (6, .int i6), (7, .int i7)] []) (fun (a0 : Nat) (i2 : Int32) (i3 : Int32) (i4 : Int32) (i6 : Int32) (i7 : Int32) (M : Mm) (cc zz : Nat) => QW p l e ({ frames := 9, cells := Cc, slots := Zz, locals := 159 } : Room) s m args below meth c (vx_MQ below (QiM D cA lo Q) (XcM D cA lo X) args s Cc Zz (fun q => lo ≤ q)) 13 D cA lo cc zz M 518 [(0, .ref a0), (2, .int i2), (3, .int i3), (4, .int i4), (6, .int i6), (7, .int i7)] []) (fun (a0 : Nat) (i2 : Int32) (i3 : Int32) (i4 : Int32) (i6 : Int32) (i7 : Int32) (M : Mm) (cc zz : Nat) => QW p l e ({ frames := 9, cells := Cc, slots := Zz, locals := 159 } : Room) s m args below meth c (vx_MQ below (QiM D cA lo Q) (XcM D cA lo X) args s Cc Zz (fun q => lo ≤ q)) 13 D cA lo cc zz M 552 [(0, .ref a0), (2, .int i2), (3, .int i3), (4, .int i4), (6, .int i6), (7, .int i7)] []) (fun (a0 : Nat) (i1 : Int32) (i2 : Int32) (i3 : Int32) (i4 : Int32) (i5 : Int32) (M : Mm) (cc zz : Nat) => QW p l e ({ frames := 9, cells := Cc, slots := Zz, locals := 159 } : Room) s m args below meth c (vx_MQ below (QiM D cA lo Q) (XcM D cA lo X) args s Cc Zz (fun q => lo ≤ q)) 13 D cA lo cc zz M 586 [(0, .ref a0), (1, .int i1), (2, .int i2), (3, .int i3), (4, .int i4), (5, .int i5)] []) (fun (a0 : Nat) (i2 : Int32) (i3 : Int32) (i4 : Int32) (i6 : Int32) (i7 : Int32) (M : Mm) (cc zz : Nat) => QW p l e ({ frames := 9, cells := Cc, slots := Zz, locals := 159 } : Room) s m args below meth c (vx_MQ below (QiM D cA lo Q) (XcM D cA lo X) args s Cc Zz (fun q => lo ≤ q)) 13 D cA lo cc zz M 660 [(0, .ref a0), (2, .int i2), (3, .int i3), (4, .int i4), (6, .int i6), (7, .int i7)] []) (fun (a0 : Nat) (i1 : Int32) (i2 : Int32) (i3 : Int32) (i4 : Int32) (M : Mm) (cc zz : Nat) => QW p l e ({ frames := 9, cells := Cc, slots := Zz, locals := 159 } : Room) s m args below meth c (vx_MQ below (QiM D cA lo Q) (XcM D cA lo X) args s Cc Zz (fun q => lo ≤ q)) 13 D cA lo cc zz M 710 [(0, .ref a0), (1, .int i1), (2, .int i2), (3, .int i3), (4, .int i4)] []) (fun (a0 : Nat) (i2 : Int32) (i3 : Int32) (i4 : Int32) (i5 : Int32) (M : Mm) (cc zz : Nat) => QW p l e ({ frames := 9, cells := Cc, slots := Zz, locals := 159 } : Room) s m args below meth c (vx_MQ below (QiM D cA lo Q) (XcM D cA lo X) args s Cc Zz (fun q => lo ≤ q)) 13 D cA lo cc zz M 766 [(0, .ref a0), (2, .int i2), (3, .int i3), (4, .int i4), (5, .int i5)] []) (fun (a0 : Nat) (i1 : Int32) (i2 : Int32) (i3 : Int32) (i4 : Int32) (M : Mm) (cc zz : Nat) => QW p l e ({ frames := 9, cells := Cc, slots := Zz, locals := 159 } : Room) s m args below meth c (vx_MQ below (QiM D cA lo Q) (XcM D cA lo X) args s Cc Zz (fun q => lo ≤ q)) 13 D cA lo cc zz M 802 [(0, .ref a0), (1, .int i1), (2, .int i2), (3, .int i3), (4, .int i4)] []) (fun (a0 : Nat) (i2 : Int32) (i3 : Int32) (i4 : Int32) (i8 : Int32) (as0 : Nat) (is1 : Int32) (is2 : Int32) (is3 : Int32) (is4 : Int32) (M : Mm) (cc zz : Nat) => QW p l e ({ frames := 9, cells := Cc, slots := Zz, locals := 159 } : Room) s m args below meth c (vx_MQ below (QiM D cA lo Q) (XcM D cA lo X) args s Cc Zz (fun q => lo ≤ q)) 13 D cA lo cc zz M 238 [(0, .ref a0), (2, .int i2), (3, .int i3), (4, .int i4), (8, .int i8)] [.int is4, .int is3, .int is2, .int is1, .ref as0]) (fun (a0 : Nat) (i2 : Int32) (i3 : Int32) (i4 : Int32) (as0 : Nat) (M : Mm) (cc zz : Nat) => QW p l e ({ frames := 9, cells := Cc, slots := Zz, locals := 159 } : Room) s m args below meth c (vx_MQ below (QiM D cA lo Q) (XcM D cA lo X) args s Cc Zz (fun q => lo ≤ q)) 13 D cA lo cc zz M 834 [(0, .ref a0), (2, .int i2), (3, .int i3), (4, .int i4)] [.ref as0]) (fun (a0 : Nat) (i2 : Int32) (i3 : Int32) (i4 : Int32) (as0 : Nat) (M : Mm) (cc zz : Nat) => QW p l e ({ frames := 9, cells := Cc, slots := Zz, locals := 159 } : Room) s m args below meth c (vx_MQ below (QiM D cA lo Q) (XcM D cA lo X) args s Cc Zz (fun q => lo ≤ q)) 13 D cA lo cc zz M 867 [(0, .ref a0), (2, .int i2), (3, .int i3), (4, .int i4)] [.ref as0]) (fun (a0 : Nat) (i2 : Int32) (i3 : Int32) (i4 : Int32) (as0 : Nat) (M : Mm) (cc zz : Nat) => QW p l e ({ frames := 9, cells := Cc, slots := Zz, locals := 159 } : Room) s m args below meth c (vx_MQ below (QiM D cA lo Q) (XcM D cA lo X) args s Cc Zz (fun q => lo ≤ q)) 13 D cA lo cc zz M 900 [(0, .ref a0), (2, .int i2), (3, .int i3), (4, .int i4)] [.ref as0]) Cc Zz Q X M a0 i1 i2 i3 i4 cc zz) : QW p l e ({ frames := 9, cells := Cc, slots := Zz, locals := 159 } : Room) s m args below meth c (vx_MQ below (QiM D cA lo Q) (XcM D cA lo X) args s Cc Zz (fun q => lo ≤ q)) 13 D cA lo cc zz M 710 [(0, .ref a0), (1, .int i1), (2, .int i2), (3, .int i3), (4, .int i4)] [] := by
  unfold S_L_act_710 at h
  refine q_iload_n C dL_act_710 rfl (j := 1) rfl ?_
  refine q_bipush (v := 7) C dL_act_711 (by decide) ?_
  refine q_ishr C dL_act_713 ?_
  refine q_iconst (v := 5) C dL_act_714 (by decide) ?_
  have hcz := h.1
  have h := h.2
  refine q_ci (q_runS (As := [.int (i1 >>> (7 &&& 31)), .int 5]) (st := []) C (c_L_below l D cA lo h) (va_cwS 2 C.2.2.2.2.1 gL_act_L_below rfl rfl rfl (by decide +kernel) ⟨Nat.le_of_ble_eq_true rfl, Nat.le_of_ble_eq_true rfl⟩) rfl rfl (Nat.le_of_ble_eq_true rfl) dL_act_715 ⟨Nat.le_trans (Nat.le_of_eq (Nat.add_zero _)) hcz.1, Nat.le_trans (Nat.le_of_eq (Nat.add_zero _)) hcz.2⟩) (fun r_105 M_z h => ?_)
  refine q_mem h.1 ?_
  have h := h.2
  refine q_if_ne (tgt := 751) C dL_act_718 (by decide) (fun z => ?_) (fun z => ?_)
  · have h := h.1 z
    refine q_aload_n C dL_act_751 rfl (j := 0) rfl ?_
    have hcz := h.1
    have h := h.2
    refine q_ci (q_runV (As := []) (st := []) C (c_X8_turn l D cA lo h.2) (cwV 0 C.2.2.2.2.1 gL_act_X8_turn rfl rfl rfl (by decide +kernel) ⟨Nat.le_of_ble_eq_true rfl, Nat.le_of_ble_eq_true rfl⟩) h.1 (by decide) rfl rfl rfl (Nat.le_of_ble_eq_true rfl) dL_act_752 ⟨Nat.le_trans (Nat.le_of_eq (Nat.add_zero _)) hcz.1, Nat.le_trans (Nat.le_of_eq (Nat.add_zero _)) hcz.2⟩) (fun r_106 M_107 h => ?_)
    refine q_iload C dL_act_755 (j := 4) rfl ?_
    refine q_icmp_ne (tgt := 764) C dL_act_757 (by decide) (fun z => ?_) (fun z => ?_)
    · have h := h.1 z
      refine q_iconst (v := 0) C dL_act_764 (by decide) ?_
      exact q_xret (q_zret C hr hlk dL_act_765 h.1 h.2.1 (Or.inl rfl) h.2.2)
    · have h := h.2 z
      refine q_iconst (v := 1) C dL_act_760 (by decide) ?_
      refine q_goto (tgt := 765) C dL_act_761 (by decide) ?_
      exact q_xret (q_zret C hr hlk dL_act_765 h.1 h.2.1 (Or.inr rfl) h.2.2)
  · have h := h.2 z
    refine q_aload_n C dL_act_721 rfl (j := 0) rfl ?_
    obtain ⟨dc_110, ds_110, hcz, h⟩ := h
    refine q_xi (qx_runV (As := []) (st := []) C (c_X8_quarters l hl D cA lo h.2) (cwV 0 C.2.2.2.2.1 gL_act_X8_quarters rfl rfl rfl (by decide +kernel) ⟨Nat.le_of_ble_eq_true rfl, Nat.le_of_ble_eq_true rfl⟩) h.1 (by decide) rfl rfl rfl (Nat.le_of_ble_eq_true rfl) dL_act_722 hcz) (fun E M_x h => ?_) (fun r_108 M_109 h => ?_)
    · rcases h with ⟨rfl, h⟩ | ⟨rfl, h⟩ | ⟨rfl, h⟩
      · have h := h
        refine q_catch (name := "") C htab (List.take 11 hhL_act) (710, 750, 834, 58) (List.drop 12 hhL_act) (by decide) (by decide) (by decide +kernel) (by decide) (by decide) (by decide +kernel) (fun qx => ?_)
        have h := h qx
        exact q_sub [0, 2, 3, 4] rfl h
      · have h := h
        refine q_catch (name := "") C htab (List.take 25 hhL_act) (710, 750, 867, 120) (List.drop 26 hhL_act) (by decide) (by decide) (by decide +kernel) (by decide) (by decide) (by decide +kernel) (fun qx => ?_)
        have h := h qx
        exact q_sub [0, 2, 3, 4] rfl h
      · have h := h
        refine q_catch (name := "") C htab (List.take 39 hhL_act) (710, 750, 900, 122) (List.drop 40 hhL_act) (by decide) (by decide) (by decide +kernel) (by decide) (by decide) (by decide +kernel) (fun qx => ?_)
        have h := h qx
        exact q_sub [0, 2, 3, 4] rfl h
    · refine q_aload_n C dL_act_725 rfl (j := 0) rfl ?_
      have hcz := h.1
      have h := h.2
      refine q_ci (q_runV (As := []) (st := [.int r_108]) C (c_X8_faces l D cA lo h.2) (cwV 0 C.2.2.2.2.1 gL_act_X8_faces rfl rfl rfl (by decide +kernel) ⟨Nat.le_of_ble_eq_true rfl, Nat.le_of_ble_eq_true rfl⟩) h.1 (by decide) rfl rfl rfl (Nat.le_of_ble_eq_true rfl) dL_act_726 ⟨Nat.le_trans (Nat.le_of_eq (Nat.add_zero _)) hcz.1, Nat.le_trans (Nat.le_of_eq (Nat.add_zero _)) hcz.2⟩) (fun r_111 M_z h => ?_)
      refine q_mem h.1 ?_
      have h := h.2
      refine q_icmp_ne (tgt := 749) C dL_act_729 (by decide) (fun z => ?_) (fun z => ?_)
      · have h := h.1 z
        refine q_iconst (v := 0) C dL_act_749 (by decide) ?_
        exact q_xret (q_zret C hr hlk dL_act_750 h.1 h.2.1 (Or.inl rfl) h.2.2)
      · have h := h.2 z
        refine q_aload_n C dL_act_732 rfl (j := 0) rfl ?_
        have hcz := h.1
        have h := h.2
        refine q_ci (q_runV (As := []) (st := []) C (c_X8_points l D cA lo h.2) (cwV 0 C.2.2.2.2.1 gL_act_X8_points rfl rfl rfl (by decide +kernel) ⟨Nat.le_of_ble_eq_true rfl, Nat.le_of_ble_eq_true rfl⟩) h.1 (by decide) rfl rfl rfl (Nat.le_of_ble_eq_true rfl) dL_act_733 ⟨Nat.le_trans (Nat.le_of_eq (Nat.add_zero _)) hcz.1, Nat.le_trans (Nat.le_of_eq (Nat.add_zero _)) hcz.2⟩) (fun r_112 M_z h => ?_)
        refine q_mem h.1 ?_
        have h := h.2
        refine q_iload_n C dL_act_736 rfl (j := 2) rfl ?_
        refine q_iload_n C dL_act_737 rfl (j := 3) rfl ?_
        refine q_iadd C dL_act_738 ?_
        refine q_iload C dL_act_739 (j := 4) rfl ?_
        refine q_iadd C dL_act_741 ?_
        refine q_icmp_ne (tgt := 749) C dL_act_742 (by decide) (fun z => ?_) (fun z => ?_)
        · have h := h.1 z
          refine q_iconst (v := 0) C dL_act_749 (by decide) ?_
          exact q_xret (q_zret C hr hlk dL_act_750 h.1 h.2.1 (Or.inl rfl) h.2.2)
        · have h := h.2 z
          refine q_iconst (v := 1) C dL_act_745 (by decide) ?_
          refine q_goto (tgt := 750) C dL_act_746 (by decide) ?_
          exact q_xret (q_zret C hr hlk dL_act_750 h.1 h.2.1 (Or.inr rfl) h.2.2)
set_option maxRecDepth 100000 in
set_option maxHeartbeats 4000000 in
theorem b_L_act_766 {p : Program} {l : Launch} {e : Env} {s : State} {m : MethodId} {args : Array Value} {below : List Frame} {meth : Method} {c : Code} {D : va_G} {cA : Nat → ClassId} {lo : Nat} (C : Cx p s m args c cL_act 13 RL wsL_act D cA lo) (hr : meth.sig.returnType = (some .boolean)) (hlk : meth.locks = false) (hl : l.stackTraces = false) (htab : c.exceptionTable.toList = tableOf hhL_act) {Q : Int32 → Mm → Prop} {Cc Zz : Nat} {X : String → Mm → Prop} (M : Mm) (a0 : Nat) (i2 : Int32) (i3 : Int32) (i4 : Int32) (i5 : Int32) (cc zz : Nat) (h : S_L_act_766 (fun (a0 : Nat) (i1 : Int32) (i2 : Int32) (i3 : Int32) (i4 : Int32) (i5 : Int32) (i6 : Int32) (i7 : Int32) (M : Mm) (cc zz : Nat) => QW p l e ({ frames := 9, cells := Cc, slots := Zz, locals := 159 } : Room) s m args below meth c (vx_MQ below (QiM D cA lo Q) (XcM D cA lo X) args s Cc Zz (fun q => lo ≤ q)) 13 D cA lo cc zz M 114 [(0, .ref a0), (1, .int i1), (2, .int i2), (3, .int i3), (4, .int i4), (5, .int i5), (6, .int i6), (7, .int i7)] []) (fun (a0 : Nat) (i1 : Int32) (i2 : Int32) (i3 : Int32) (i4 : Int32) (i6 : Int32) (i7 : Int32) (as0 : Nat) (M : Mm) (cc zz : Nat) => QW p l e ({ frames := 9, cells := Cc, slots := Zz, locals := 159 } : Room) s m args below meth c (vx_MQ below (QiM D cA lo Q) (XcM D cA lo X) args s Cc Zz (fun q => lo ≤ q)) 13 D cA lo cc zz M 109 [(0, .ref a0), (1, .int i1), (2, .int i2), (3, .int i3), (4, .int i4), (6, .int i6), (7, .int i7)] [.ref as0]) (fun (a0 : Nat) (i1 : Int32) (i2 : Int32) (i3 : Int32) (i4 : Int32) (M : Mm) (cc zz : Nat) => QW p l e ({ frames := 9, cells := Cc, slots := Zz, locals := 159 } : Room) s m args below meth c (vx_MQ below (QiM D cA lo Q) (XcM D cA lo X) args s Cc Zz (fun q => lo ≤ q)) 13 D cA lo cc zz M 188 [(0, .ref a0), (1, .int i1), (2, .int i2), (3, .int i3), (4, .int i4)] []) (fun (a0 : Nat) (i1 : Int32) (i2 : Int32) (i3 : Int32) (i4 : Int32) (M : Mm) (cc zz : Nat) => QW p l e ({ frames := 9, cells := Cc, slots := Zz, locals := 159 } : Room) s m args below meth c (vx_MQ below (QiM D cA lo Q) (XcM D cA lo X) args s Cc Zz (fun q => lo ≤ q)) 13 D cA lo cc zz M 272 [(0, .ref a0), (1, .int i1), (2, .int i2), (3, .int i3), (4, .int i4)] []) (fun (a0 : Nat) (i2 : Int32) (i3 : Int32) (i4 : Int32) (i6 : Int32) (i7 : Int32) (M : Mm) (cc zz : Nat) => QW p l e ({ frames := 9, cells := Cc, slots := Zz, locals := 159 } : Room) s m args below meth c (vx_MQ below (QiM D cA lo Q) (XcM D cA lo X) args s Cc Zz (fun q => lo ≤ q)) 13 D cA lo cc zz M 350 [(0, .ref a0), (2, .int i2), (3, .int i3), (4, .int i4), (6, .int i6), (7, .int i7)] []) (fun (a0 : Nat) (i1 : Int32) (i2 : Int32) (i3 : Int32) (i4 : Int32) (i5 : Int32) (i6 : Int32) (M : Mm) (cc zz : Nat) => QW p l e ({ frames := 9, cells := Cc, slots := Zz, locals := 159 } : Room) s m args below meth c (vx_MQ below (QiM D cA lo Q) (XcM D cA lo X) args s Cc Zz (fun q => lo ≤ q)) 13 D cA lo cc zz M 409 [(0, .ref a0), (1, .int i1), (2, .int i2), (3, .int i3), (4, .int i4), (5, .int i5), (6, .int i6)] []) (fun (a0 : Nat) (i2 : Int32) (i3 : Int32) (i4 : Int32) (i6 : Int32) (i7 : Int32) (M : Mm) (cc zz : Nat) => QW p l e ({ frames := 9, cells := Cc, slots := Zz, locals := 159 } : Room) s m args below meth c (vx_MQ below (QiM D cA lo Q) (XcM D cA lo X) args s Cc Zz (fun q => lo ≤ q)) 13 D cA lo cc zz M 475 [(0, .ref a0), (2, .int i2), (3, .int i3), (4, .int i4), (6, .int i6), (7, .int i7)] []) (fun (a0 : Nat) (i2 : Int32) (i3 : Int32) (i4 : Int32) (i6 : Int32) (i7 : Int32) (M : Mm) (cc zz : Nat) => QW p l e ({ frames := 9, cells := Cc, slots := Zz, locals := 159 } : Room) s m args below meth c (vx_MQ below (QiM D cA lo Q) (XcM D cA lo X) args s Cc Zz (fun q => lo ≤ q)) 13 D cA lo cc zz M 518 [(0, .ref a0), (2, .int i2), (3, .int i3), (4, .int i4), (6, .int i6), (7, .int i7)] []) (fun (a0 : Nat) (i2 : Int32) (i3 : Int32) (i4 : Int32) (i6 : Int32) (i7 : Int32) (M : Mm) (cc zz : Nat) => QW p l e ({ frames := 9, cells := Cc, slots := Zz, locals := 159 } : Room) s m args below meth c (vx_MQ below (QiM D cA lo Q) (XcM D cA lo X) args s Cc Zz (fun q => lo ≤ q)) 13 D cA lo cc zz M 552 [(0, .ref a0), (2, .int i2), (3, .int i3), (4, .int i4), (6, .int i6), (7, .int i7)] []) (fun (a0 : Nat) (i1 : Int32) (i2 : Int32) (i3 : Int32) (i4 : Int32) (i5 : Int32) (M : Mm) (cc zz : Nat) => QW p l e ({ frames := 9, cells := Cc, slots := Zz, locals := 159 } : Room) s m args below meth c (vx_MQ below (QiM D cA lo Q) (XcM D cA lo X) args s Cc Zz (fun q => lo ≤ q)) 13 D cA lo cc zz M 586 [(0, .ref a0), (1, .int i1), (2, .int i2), (3, .int i3), (4, .int i4), (5, .int i5)] []) (fun (a0 : Nat) (i2 : Int32) (i3 : Int32) (i4 : Int32) (i6 : Int32) (i7 : Int32) (M : Mm) (cc zz : Nat) => QW p l e ({ frames := 9, cells := Cc, slots := Zz, locals := 159 } : Room) s m args below meth c (vx_MQ below (QiM D cA lo Q) (XcM D cA lo X) args s Cc Zz (fun q => lo ≤ q)) 13 D cA lo cc zz M 660 [(0, .ref a0), (2, .int i2), (3, .int i3), (4, .int i4), (6, .int i6), (7, .int i7)] []) (fun (a0 : Nat) (i1 : Int32) (i2 : Int32) (i3 : Int32) (i4 : Int32) (M : Mm) (cc zz : Nat) => QW p l e ({ frames := 9, cells := Cc, slots := Zz, locals := 159 } : Room) s m args below meth c (vx_MQ below (QiM D cA lo Q) (XcM D cA lo X) args s Cc Zz (fun q => lo ≤ q)) 13 D cA lo cc zz M 710 [(0, .ref a0), (1, .int i1), (2, .int i2), (3, .int i3), (4, .int i4)] []) (fun (a0 : Nat) (i2 : Int32) (i3 : Int32) (i4 : Int32) (i5 : Int32) (M : Mm) (cc zz : Nat) => QW p l e ({ frames := 9, cells := Cc, slots := Zz, locals := 159 } : Room) s m args below meth c (vx_MQ below (QiM D cA lo Q) (XcM D cA lo X) args s Cc Zz (fun q => lo ≤ q)) 13 D cA lo cc zz M 766 [(0, .ref a0), (2, .int i2), (3, .int i3), (4, .int i4), (5, .int i5)] []) (fun (a0 : Nat) (i1 : Int32) (i2 : Int32) (i3 : Int32) (i4 : Int32) (M : Mm) (cc zz : Nat) => QW p l e ({ frames := 9, cells := Cc, slots := Zz, locals := 159 } : Room) s m args below meth c (vx_MQ below (QiM D cA lo Q) (XcM D cA lo X) args s Cc Zz (fun q => lo ≤ q)) 13 D cA lo cc zz M 802 [(0, .ref a0), (1, .int i1), (2, .int i2), (3, .int i3), (4, .int i4)] []) (fun (a0 : Nat) (i2 : Int32) (i3 : Int32) (i4 : Int32) (i8 : Int32) (as0 : Nat) (is1 : Int32) (is2 : Int32) (is3 : Int32) (is4 : Int32) (M : Mm) (cc zz : Nat) => QW p l e ({ frames := 9, cells := Cc, slots := Zz, locals := 159 } : Room) s m args below meth c (vx_MQ below (QiM D cA lo Q) (XcM D cA lo X) args s Cc Zz (fun q => lo ≤ q)) 13 D cA lo cc zz M 238 [(0, .ref a0), (2, .int i2), (3, .int i3), (4, .int i4), (8, .int i8)] [.int is4, .int is3, .int is2, .int is1, .ref as0]) (fun (a0 : Nat) (i2 : Int32) (i3 : Int32) (i4 : Int32) (as0 : Nat) (M : Mm) (cc zz : Nat) => QW p l e ({ frames := 9, cells := Cc, slots := Zz, locals := 159 } : Room) s m args below meth c (vx_MQ below (QiM D cA lo Q) (XcM D cA lo X) args s Cc Zz (fun q => lo ≤ q)) 13 D cA lo cc zz M 834 [(0, .ref a0), (2, .int i2), (3, .int i3), (4, .int i4)] [.ref as0]) (fun (a0 : Nat) (i2 : Int32) (i3 : Int32) (i4 : Int32) (as0 : Nat) (M : Mm) (cc zz : Nat) => QW p l e ({ frames := 9, cells := Cc, slots := Zz, locals := 159 } : Room) s m args below meth c (vx_MQ below (QiM D cA lo Q) (XcM D cA lo X) args s Cc Zz (fun q => lo ≤ q)) 13 D cA lo cc zz M 867 [(0, .ref a0), (2, .int i2), (3, .int i3), (4, .int i4)] [.ref as0]) (fun (a0 : Nat) (i2 : Int32) (i3 : Int32) (i4 : Int32) (as0 : Nat) (M : Mm) (cc zz : Nat) => QW p l e ({ frames := 9, cells := Cc, slots := Zz, locals := 159 } : Room) s m args below meth c (vx_MQ below (QiM D cA lo Q) (XcM D cA lo X) args s Cc Zz (fun q => lo ≤ q)) 13 D cA lo cc zz M 900 [(0, .ref a0), (2, .int i2), (3, .int i3), (4, .int i4)] [.ref as0]) Cc Zz Q X M a0 i2 i3 i4 i5 cc zz) : QW p l e ({ frames := 9, cells := Cc, slots := Zz, locals := 159 } : Room) s m args below meth c (vx_MQ below (QiM D cA lo Q) (XcM D cA lo X) args s Cc Zz (fun q => lo ≤ q)) 13 D cA lo cc zz M 766 [(0, .ref a0), (2, .int i2), (3, .int i3), (4, .int i4), (5, .int i5)] [] := by
  unfold S_L_act_766 at h
  refine q_aload_n C dL_act_766 rfl (j := 0) rfl ?_
  refine q_iload C dL_act_767 (j := 4) rfl ?_
  obtain ⟨dc_115, ds_115, hcz, h⟩ := h
  refine q_xi (qx_runV (As := [.int i5]) (st := []) C (c_X8_holesWithout l hl D cA lo h.2) (cwV 1 C.2.2.2.2.1 gL_act_X8_holesWithout rfl rfl rfl (by decide +kernel) ⟨Nat.le_of_ble_eq_true rfl, Nat.le_of_ble_eq_true rfl⟩) h.1 (by decide) rfl rfl rfl (Nat.le_of_ble_eq_true rfl) dL_act_769 hcz) (fun E M_x h => ?_) (fun r_113 M_114 h => ?_)
  · rcases h with ⟨rfl, h⟩ | ⟨rfl, h⟩ | ⟨rfl, h⟩
    · have h := h
      refine q_catch (name := "") C htab (List.take 13 hhL_act) (766, 801, 834, 58) (List.drop 14 hhL_act) (by decide) (by decide) (by decide +kernel) (by decide) (by decide) (by decide +kernel) (fun qx => ?_)
      have h := h qx
      exact q_sub [0, 1, 2, 3] rfl h
    · have h := h
      refine q_catch (name := "") C htab (List.take 27 hhL_act) (766, 801, 867, 120) (List.drop 28 hhL_act) (by decide) (by decide) (by decide +kernel) (by decide) (by decide) (by decide +kernel) (fun qx => ?_)
      have h := h qx
      exact q_sub [0, 1, 2, 3] rfl h
    · have h := h
      refine q_catch (name := "") C htab (List.take 41 hhL_act) (766, 801, 900, 122) (List.drop 42 hhL_act) (by decide) (by decide) (by decide +kernel) (by decide) (by decide) (by decide +kernel) (fun qx => ?_)
      have h := h qx
      exact q_sub [0, 1, 2, 3] rfl h
  · refine q_istore (lv' := [(12, .int r_113), (0, .ref a0), (2, .int i2), (3, .int i3), (4, .int i4), (5, .int i5)]) C dL_act_772 (by decide) rfl ?_
    refine q_aload_n C dL_act_774 rfl (j := 1) rfl ?_
    refine q_iload C dL_act_775 (j := 5) rfl ?_
    obtain ⟨dc_118, ds_118, hcz, h⟩ := h
    refine q_xi (qx_runV (As := [.int i5]) (st := []) C (c_X8_dropFace l hl D cA lo h.2) (cwV 1 C.2.2.2.2.1 gL_act_X8_dropFace rfl rfl rfl (by decide +kernel) ⟨Nat.le_of_ble_eq_true rfl, Nat.le_of_ble_eq_true rfl⟩) h.1 (by decide) rfl rfl rfl (Nat.le_of_ble_eq_true rfl) dL_act_777 hcz) (fun E M_x h => ?_) (fun r_116 M_117 h => ?_)
    · rcases h with ⟨rfl, h⟩ | ⟨rfl, h⟩ | ⟨rfl, h⟩
      · have h := h
        refine q_catch (name := "") C htab (List.take 13 hhL_act) (766, 801, 834, 58) (List.drop 14 hhL_act) (by decide) (by decide) (by decide +kernel) (by decide) (by decide) (by decide +kernel) (fun qx => ?_)
        have h := h qx
        exact q_sub [1, 2, 3, 4] rfl h
      · have h := h
        refine q_catch (name := "") C htab (List.take 27 hhL_act) (766, 801, 867, 120) (List.drop 28 hhL_act) (by decide) (by decide) (by decide +kernel) (by decide) (by decide) (by decide +kernel) (fun qx => ?_)
        have h := h qx
        exact q_sub [1, 2, 3, 4] rfl h
      · have h := h
        refine q_catch (name := "") C htab (List.take 41 hhL_act) (766, 801, 900, 122) (List.drop 42 hhL_act) (by decide) (by decide) (by decide +kernel) (by decide) (by decide) (by decide +kernel) (fun qx => ?_)
        have h := h qx
        exact q_sub [1, 2, 3, 4] rfl h
    · refine q_iload C dL_act_780 (j := 4) rfl ?_
      refine q_iconst (v := 1) C dL_act_782 (by decide) ?_
      refine q_isub C dL_act_783 ?_
      refine q_icmp_ne (tgt := 800) C dL_act_784 (by decide) (fun z => ?_) (fun z => ?_)
      · have h := h.1 z
        refine q_iconst (v := 0) C dL_act_800 (by decide) ?_
        exact q_xret (q_zret C hr hlk dL_act_801 h.1 h.2.1 (Or.inl rfl) h.2.2)
      · have h := h.2 z
        refine q_aload_n C dL_act_787 rfl (j := 1) rfl ?_
        have hcz := h.1
        have h := h.2
        refine q_ci (q_runV (As := []) (st := []) C (c_X8_holes l D cA lo h.2) (cwV 0 C.2.2.2.2.1 gL_act_X8_holes rfl rfl rfl (by decide +kernel) ⟨Nat.le_of_ble_eq_true rfl, Nat.le_of_ble_eq_true rfl⟩) h.1 (by decide) rfl rfl rfl (Nat.le_of_ble_eq_true rfl) dL_act_788 ⟨Nat.le_trans (Nat.le_of_eq (Nat.add_zero _)) hcz.1, Nat.le_trans (Nat.le_of_eq (Nat.add_zero _)) hcz.2⟩) (fun r_119 M_120 h => ?_)
        refine q_iload C dL_act_791 (j := 0) rfl ?_
        refine q_icmp_ne (tgt := 800) C dL_act_793 (by decide) (fun z => ?_) (fun z => ?_)
        · have h := h.1 z
          refine q_iconst (v := 0) C dL_act_800 (by decide) ?_
          exact q_xret (q_zret C hr hlk dL_act_801 h.1 h.2.1 (Or.inl rfl) h.2.2)
        · have h := h.2 z
          refine q_iconst (v := 1) C dL_act_796 (by decide) ?_
          refine q_goto (tgt := 801) C dL_act_797 (by decide) ?_
          exact q_xret (q_zret C hr hlk dL_act_801 h.1 h.2.1 (Or.inr rfl) h.2.2)
set_option maxRecDepth 100000 in
set_option maxHeartbeats 4000000 in
theorem b_L_act_802 {p : Program} {l : Launch} {e : Env} {s : State} {m : MethodId} {args : Array Value} {below : List Frame} {meth : Method} {c : Code} {D : va_G} {cA : Nat → ClassId} {lo : Nat} (C : Cx p s m args c cL_act 13 RL wsL_act D cA lo) (hr : meth.sig.returnType = (some .boolean)) (hlk : meth.locks = false) (hl : l.stackTraces = false) (htab : c.exceptionTable.toList = tableOf hhL_act) {Q : Int32 → Mm → Prop} {Cc Zz : Nat} {X : String → Mm → Prop} (M : Mm) (a0 : Nat) (i1 : Int32) (i2 : Int32) (i3 : Int32) (i4 : Int32) (cc zz : Nat) (h : S_L_act_802 (fun (a0 : Nat) (i1 : Int32) (i2 : Int32) (i3 : Int32) (i4 : Int32) (i5 : Int32) (i6 : Int32) (i7 : Int32) (M : Mm) (cc zz : Nat) => QW p l e ({ frames := 9, cells := Cc, slots := Zz, locals := 159 } : Room) s m args below meth c (vx_MQ below (QiM D cA lo Q) (XcM D cA lo X) args s Cc Zz (fun q => lo ≤ q)) 13 D cA lo cc zz M 114 [(0, .ref a0), (1, .int i1), (2, .int i2), (3, .int i3), (4, .int i4), (5, .int i5), (6, .int i6), (7, .int i7)] []) (fun (a0 : Nat) (i1 : Int32) (i2 : Int32) (i3 : Int32) (i4 : Int32) (i6 : Int32) (i7 : Int32) (as0 : Nat) (M : Mm) (cc zz : Nat) => QW p l e ({ frames := 9, cells := Cc, slots := Zz, locals := 159 } : Room) s m args below meth c (vx_MQ below (QiM D cA lo Q) (XcM D cA lo X) args s Cc Zz (fun q => lo ≤ q)) 13 D cA lo cc zz M 109 [(0, .ref a0), (1, .int i1), (2, .int i2), (3, .int i3), (4, .int i4), (6, .int i6), (7, .int i7)] [.ref as0]) (fun (a0 : Nat) (i1 : Int32) (i2 : Int32) (i3 : Int32) (i4 : Int32) (M : Mm) (cc zz : Nat) => QW p l e ({ frames := 9, cells := Cc, slots := Zz, locals := 159 } : Room) s m args below meth c (vx_MQ below (QiM D cA lo Q) (XcM D cA lo X) args s Cc Zz (fun q => lo ≤ q)) 13 D cA lo cc zz M 188 [(0, .ref a0), (1, .int i1), (2, .int i2), (3, .int i3), (4, .int i4)] []) (fun (a0 : Nat) (i1 : Int32) (i2 : Int32) (i3 : Int32) (i4 : Int32) (M : Mm) (cc zz : Nat) => QW p l e ({ frames := 9, cells := Cc, slots := Zz, locals := 159 } : Room) s m args below meth c (vx_MQ below (QiM D cA lo Q) (XcM D cA lo X) args s Cc Zz (fun q => lo ≤ q)) 13 D cA lo cc zz M 272 [(0, .ref a0), (1, .int i1), (2, .int i2), (3, .int i3), (4, .int i4)] []) (fun (a0 : Nat) (i2 : Int32) (i3 : Int32) (i4 : Int32) (i6 : Int32) (i7 : Int32) (M : Mm) (cc zz : Nat) => QW p l e ({ frames := 9, cells := Cc, slots := Zz, locals := 159 } : Room) s m args below meth c (vx_MQ below (QiM D cA lo Q) (XcM D cA lo X) args s Cc Zz (fun q => lo ≤ q)) 13 D cA lo cc zz M 350 [(0, .ref a0), (2, .int i2), (3, .int i3), (4, .int i4), (6, .int i6), (7, .int i7)] []) (fun (a0 : Nat) (i1 : Int32) (i2 : Int32) (i3 : Int32) (i4 : Int32) (i5 : Int32) (i6 : Int32) (M : Mm) (cc zz : Nat) => QW p l e ({ frames := 9, cells := Cc, slots := Zz, locals := 159 } : Room) s m args below meth c (vx_MQ below (QiM D cA lo Q) (XcM D cA lo X) args s Cc Zz (fun q => lo ≤ q)) 13 D cA lo cc zz M 409 [(0, .ref a0), (1, .int i1), (2, .int i2), (3, .int i3), (4, .int i4), (5, .int i5), (6, .int i6)] []) (fun (a0 : Nat) (i2 : Int32) (i3 : Int32) (i4 : Int32) (i6 : Int32) (i7 : Int32) (M : Mm) (cc zz : Nat) => QW p l e ({ frames := 9, cells := Cc, slots := Zz, locals := 159 } : Room) s m args below meth c (vx_MQ below (QiM D cA lo Q) (XcM D cA lo X) args s Cc Zz (fun q => lo ≤ q)) 13 D cA lo cc zz M 475 [(0, .ref a0), (2, .int i2), (3, .int i3), (4, .int i4), (6, .int i6), (7, .int i7)] []) (fun (a0 : Nat) (i2 : Int32) (i3 : Int32) (i4 : Int32) (i6 : Int32) (i7 : Int32) (M : Mm) (cc zz : Nat) => QW p l e ({ frames := 9, cells := Cc, slots := Zz, locals := 159 } : Room) s m args below meth c (vx_MQ below (QiM D cA lo Q) (XcM D cA lo X) args s Cc Zz (fun q => lo ≤ q)) 13 D cA lo cc zz M 518 [(0, .ref a0), (2, .int i2), (3, .int i3), (4, .int i4), (6, .int i6), (7, .int i7)] []) (fun (a0 : Nat) (i2 : Int32) (i3 : Int32) (i4 : Int32) (i6 : Int32) (i7 : Int32) (M : Mm) (cc zz : Nat) => QW p l e ({ frames := 9, cells := Cc, slots := Zz, locals := 159 } : Room) s m args below meth c (vx_MQ below (QiM D cA lo Q) (XcM D cA lo X) args s Cc Zz (fun q => lo ≤ q)) 13 D cA lo cc zz M 552 [(0, .ref a0), (2, .int i2), (3, .int i3), (4, .int i4), (6, .int i6), (7, .int i7)] []) (fun (a0 : Nat) (i1 : Int32) (i2 : Int32) (i3 : Int32) (i4 : Int32) (i5 : Int32) (M : Mm) (cc zz : Nat) => QW p l e ({ frames := 9, cells := Cc, slots := Zz, locals := 159 } : Room) s m args below meth c (vx_MQ below (QiM D cA lo Q) (XcM D cA lo X) args s Cc Zz (fun q => lo ≤ q)) 13 D cA lo cc zz M 586 [(0, .ref a0), (1, .int i1), (2, .int i2), (3, .int i3), (4, .int i4), (5, .int i5)] []) (fun (a0 : Nat) (i2 : Int32) (i3 : Int32) (i4 : Int32) (i6 : Int32) (i7 : Int32) (M : Mm) (cc zz : Nat) => QW p l e ({ frames := 9, cells := Cc, slots := Zz, locals := 159 } : Room) s m args below meth c (vx_MQ below (QiM D cA lo Q) (XcM D cA lo X) args s Cc Zz (fun q => lo ≤ q)) 13 D cA lo cc zz M 660 [(0, .ref a0), (2, .int i2), (3, .int i3), (4, .int i4), (6, .int i6), (7, .int i7)] []) (fun (a0 : Nat) (i1 : Int32) (i2 : Int32) (i3 : Int32) (i4 : Int32) (M : Mm) (cc zz : Nat) => QW p l e ({ frames := 9, cells := Cc, slots := Zz, locals := 159 } : Room) s m args below meth c (vx_MQ below (QiM D cA lo Q) (XcM D cA lo X) args s Cc Zz (fun q => lo ≤ q)) 13 D cA lo cc zz M 710 [(0, .ref a0), (1, .int i1), (2, .int i2), (3, .int i3), (4, .int i4)] []) (fun (a0 : Nat) (i2 : Int32) (i3 : Int32) (i4 : Int32) (i5 : Int32) (M : Mm) (cc zz : Nat) => QW p l e ({ frames := 9, cells := Cc, slots := Zz, locals := 159 } : Room) s m args below meth c (vx_MQ below (QiM D cA lo Q) (XcM D cA lo X) args s Cc Zz (fun q => lo ≤ q)) 13 D cA lo cc zz M 766 [(0, .ref a0), (2, .int i2), (3, .int i3), (4, .int i4), (5, .int i5)] []) (fun (a0 : Nat) (i1 : Int32) (i2 : Int32) (i3 : Int32) (i4 : Int32) (M : Mm) (cc zz : Nat) => QW p l e ({ frames := 9, cells := Cc, slots := Zz, locals := 159 } : Room) s m args below meth c (vx_MQ below (QiM D cA lo Q) (XcM D cA lo X) args s Cc Zz (fun q => lo ≤ q)) 13 D cA lo cc zz M 802 [(0, .ref a0), (1, .int i1), (2, .int i2), (3, .int i3), (4, .int i4)] []) (fun (a0 : Nat) (i2 : Int32) (i3 : Int32) (i4 : Int32) (i8 : Int32) (as0 : Nat) (is1 : Int32) (is2 : Int32) (is3 : Int32) (is4 : Int32) (M : Mm) (cc zz : Nat) => QW p l e ({ frames := 9, cells := Cc, slots := Zz, locals := 159 } : Room) s m args below meth c (vx_MQ below (QiM D cA lo Q) (XcM D cA lo X) args s Cc Zz (fun q => lo ≤ q)) 13 D cA lo cc zz M 238 [(0, .ref a0), (2, .int i2), (3, .int i3), (4, .int i4), (8, .int i8)] [.int is4, .int is3, .int is2, .int is1, .ref as0]) (fun (a0 : Nat) (i2 : Int32) (i3 : Int32) (i4 : Int32) (as0 : Nat) (M : Mm) (cc zz : Nat) => QW p l e ({ frames := 9, cells := Cc, slots := Zz, locals := 159 } : Room) s m args below meth c (vx_MQ below (QiM D cA lo Q) (XcM D cA lo X) args s Cc Zz (fun q => lo ≤ q)) 13 D cA lo cc zz M 834 [(0, .ref a0), (2, .int i2), (3, .int i3), (4, .int i4)] [.ref as0]) (fun (a0 : Nat) (i2 : Int32) (i3 : Int32) (i4 : Int32) (as0 : Nat) (M : Mm) (cc zz : Nat) => QW p l e ({ frames := 9, cells := Cc, slots := Zz, locals := 159 } : Room) s m args below meth c (vx_MQ below (QiM D cA lo Q) (XcM D cA lo X) args s Cc Zz (fun q => lo ≤ q)) 13 D cA lo cc zz M 867 [(0, .ref a0), (2, .int i2), (3, .int i3), (4, .int i4)] [.ref as0]) (fun (a0 : Nat) (i2 : Int32) (i3 : Int32) (i4 : Int32) (as0 : Nat) (M : Mm) (cc zz : Nat) => QW p l e ({ frames := 9, cells := Cc, slots := Zz, locals := 159 } : Room) s m args below meth c (vx_MQ below (QiM D cA lo Q) (XcM D cA lo X) args s Cc Zz (fun q => lo ≤ q)) 13 D cA lo cc zz M 900 [(0, .ref a0), (2, .int i2), (3, .int i3), (4, .int i4)] [.ref as0]) Cc Zz Q X M a0 i1 i2 i3 i4 cc zz) : QW p l e ({ frames := 9, cells := Cc, slots := Zz, locals := 159 } : Room) s m args below meth c (vx_MQ below (QiM D cA lo Q) (XcM D cA lo X) args s Cc Zz (fun q => lo ≤ q)) 13 D cA lo cc zz M 802 [(0, .ref a0), (1, .int i1), (2, .int i2), (3, .int i3), (4, .int i4)] [] := by
  unfold S_L_act_802 at h
  refine q_aload_n C dL_act_802 rfl (j := 0) rfl ?_
  refine q_iload_n C dL_act_803 rfl (j := 1) rfl ?_
  refine q_iconst (v := 4) C dL_act_804 (by decide) ?_
  refine q_ishr C dL_act_805 ?_
  refine q_bipush (v := 90) C dL_act_806 (by decide) ?_
  have hcz := h.1
  have h := h.2
  refine q_ci (q_runS (As := [.int (i1 >>> (4 &&& 31)), .int 90]) (st := [.ref a0]) C (c_L_below l D cA lo h) (va_cwS 2 C.2.2.2.2.1 gL_act_L_below rfl rfl rfl (by decide +kernel) ⟨Nat.le_of_ble_eq_true rfl, Nat.le_of_ble_eq_true rfl⟩) rfl rfl (Nat.le_of_ble_eq_true rfl) dL_act_808 ⟨Nat.le_trans (Nat.le_of_eq (Nat.add_zero _)) hcz.1, Nat.le_trans (Nat.le_of_eq (Nat.add_zero _)) hcz.2⟩) (fun r_121 M_z h => ?_)
  refine q_mem h.1 ?_
  have h := h.2
  refine q_iload_n C dL_act_811 rfl (j := 1) rfl ?_
  refine q_bipush (v := 6) C dL_act_812 (by decide) ?_
  refine q_ishr C dL_act_814 ?_
  refine q_bipush (v := 90) C dL_act_815 (by decide) ?_
  have hcz := h.1
  have h := h.2
  refine q_ci (q_runS (As := [.int (i1 >>> (6 &&& 31)), .int 90]) (st := [.int r_121, .ref a0]) C (c_L_below l D cA lo h) (va_cwS 2 C.2.2.2.2.1 gL_act_L_below rfl rfl rfl (by decide +kernel) ⟨Nat.le_of_ble_eq_true rfl, Nat.le_of_ble_eq_true rfl⟩) rfl rfl (Nat.le_of_ble_eq_true rfl) dL_act_817 ⟨Nat.le_trans (Nat.le_of_eq (Nat.add_zero _)) hcz.1, Nat.le_trans (Nat.le_of_eq (Nat.add_zero _)) hcz.2⟩) (fun r_122 M_z h => ?_)
  refine q_mem h.1 ?_
  have h := h.2
  refine q_iconst (v := 5) C dL_act_820 (by decide) ?_
  obtain ⟨dc_125, ds_125, hcz, h⟩ := h
  refine q_xi (qx_runV (As := [.int r_121, .int r_122, .int 5]) (st := []) C (c_X8_point l hl D cA lo h.2) (cwV 3 C.2.2.2.2.1 gL_act_X8_point rfl rfl rfl (by decide +kernel) ⟨Nat.le_of_ble_eq_true rfl, Nat.le_of_ble_eq_true rfl⟩) h.1 (by decide) rfl rfl rfl (Nat.le_of_ble_eq_true rfl) dL_act_821 hcz) (fun E M_x h => ?_) (fun r_123 M_124 h => ?_)
  · rcases h with ⟨rfl, h⟩ | ⟨rfl, h⟩ | ⟨rfl, h⟩
    · have h := h
      refine q_catch (name := "") C htab (List.take 14 hhL_act) (802, 833, 834, 58) (List.drop 15 hhL_act) (by decide) (by decide) (by decide +kernel) (by decide) (by decide) (by decide +kernel) (fun qx => ?_)
      have h := h qx
      exact q_sub [0, 2, 3, 4] rfl h
    · have h := h
      refine q_catch (name := "") C htab (List.take 28 hhL_act) (802, 833, 867, 120) (List.drop 29 hhL_act) (by decide) (by decide) (by decide +kernel) (by decide) (by decide) (by decide +kernel) (fun qx => ?_)
      have h := h qx
      exact q_sub [0, 2, 3, 4] rfl h
    · have h := h
      refine q_catch (name := "") C htab (List.take 42 hhL_act) (802, 833, 900, 122) (List.drop 43 hhL_act) (by decide) (by decide) (by decide +kernel) (by decide) (by decide) (by decide +kernel) (fun qx => ?_)
      have h := h qx
      exact q_sub [0, 2, 3, 4] rfl h
  · refine q_iload_n C dL_act_824 rfl (j := 2) rfl ?_
    refine q_icmp_lt (tgt := 832) C dL_act_825 (by decide) (fun z => ?_) (fun z => ?_)
    · have h := h.1 z
      refine q_iconst (v := 0) C dL_act_832 (by decide) ?_
      exact q_xret (q_zret C hr hlk dL_act_833 h.1 h.2.1 (Or.inl rfl) h.2.2)
    · have h := h.2 z
      refine q_iconst (v := 1) C dL_act_828 (by decide) ?_
      refine q_goto (tgt := 833) C dL_act_829 (by decide) ?_
      exact q_xret (q_zret C hr hlk dL_act_833 h.1 h.2.1 (Or.inr rfl) h.2.2)
set_option maxRecDepth 100000 in
set_option maxHeartbeats 4000000 in
theorem b_L_act_238 {p : Program} {l : Launch} {e : Env} {s : State} {m : MethodId} {args : Array Value} {below : List Frame} {meth : Method} {c : Code} {D : va_G} {cA : Nat → ClassId} {lo : Nat} (C : Cx p s m args c cL_act 13 RL wsL_act D cA lo) (hr : meth.sig.returnType = (some .boolean)) (hlk : meth.locks = false) (hl : l.stackTraces = false) (htab : c.exceptionTable.toList = tableOf hhL_act) {Q : Int32 → Mm → Prop} {Cc Zz : Nat} {X : String → Mm → Prop} (M : Mm) (a0 : Nat) (i2 : Int32) (i3 : Int32) (i4 : Int32) (i8 : Int32) (as0 : Nat) (is1 : Int32) (is2 : Int32) (is3 : Int32) (is4 : Int32) (cc zz : Nat) (h : S_L_act_238 (fun (a0 : Nat) (i1 : Int32) (i2 : Int32) (i3 : Int32) (i4 : Int32) (i5 : Int32) (i6 : Int32) (i7 : Int32) (M : Mm) (cc zz : Nat) => QW p l e ({ frames := 9, cells := Cc, slots := Zz, locals := 159 } : Room) s m args below meth c (vx_MQ below (QiM D cA lo Q) (XcM D cA lo X) args s Cc Zz (fun q => lo ≤ q)) 13 D cA lo cc zz M 114 [(0, .ref a0), (1, .int i1), (2, .int i2), (3, .int i3), (4, .int i4), (5, .int i5), (6, .int i6), (7, .int i7)] []) (fun (a0 : Nat) (i1 : Int32) (i2 : Int32) (i3 : Int32) (i4 : Int32) (i6 : Int32) (i7 : Int32) (as0 : Nat) (M : Mm) (cc zz : Nat) => QW p l e ({ frames := 9, cells := Cc, slots := Zz, locals := 159 } : Room) s m args below meth c (vx_MQ below (QiM D cA lo Q) (XcM D cA lo X) args s Cc Zz (fun q => lo ≤ q)) 13 D cA lo cc zz M 109 [(0, .ref a0), (1, .int i1), (2, .int i2), (3, .int i3), (4, .int i4), (6, .int i6), (7, .int i7)] [.ref as0]) (fun (a0 : Nat) (i1 : Int32) (i2 : Int32) (i3 : Int32) (i4 : Int32) (M : Mm) (cc zz : Nat) => QW p l e ({ frames := 9, cells := Cc, slots := Zz, locals := 159 } : Room) s m args below meth c (vx_MQ below (QiM D cA lo Q) (XcM D cA lo X) args s Cc Zz (fun q => lo ≤ q)) 13 D cA lo cc zz M 188 [(0, .ref a0), (1, .int i1), (2, .int i2), (3, .int i3), (4, .int i4)] []) (fun (a0 : Nat) (i1 : Int32) (i2 : Int32) (i3 : Int32) (i4 : Int32) (M : Mm) (cc zz : Nat) => QW p l e ({ frames := 9, cells := Cc, slots := Zz, locals := 159 } : Room) s m args below meth c (vx_MQ below (QiM D cA lo Q) (XcM D cA lo X) args s Cc Zz (fun q => lo ≤ q)) 13 D cA lo cc zz M 272 [(0, .ref a0), (1, .int i1), (2, .int i2), (3, .int i3), (4, .int i4)] []) (fun (a0 : Nat) (i2 : Int32) (i3 : Int32) (i4 : Int32) (i6 : Int32) (i7 : Int32) (M : Mm) (cc zz : Nat) => QW p l e ({ frames := 9, cells := Cc, slots := Zz, locals := 159 } : Room) s m args below meth c (vx_MQ below (QiM D cA lo Q) (XcM D cA lo X) args s Cc Zz (fun q => lo ≤ q)) 13 D cA lo cc zz M 350 [(0, .ref a0), (2, .int i2), (3, .int i3), (4, .int i4), (6, .int i6), (7, .int i7)] []) (fun (a0 : Nat) (i1 : Int32) (i2 : Int32) (i3 : Int32) (i4 : Int32) (i5 : Int32) (i6 : Int32) (M : Mm) (cc zz : Nat) => QW p l e ({ frames := 9, cells := Cc, slots := Zz, locals := 159 } : Room) s m args below meth c (vx_MQ below (QiM D cA lo Q) (XcM D cA lo X) args s Cc Zz (fun q => lo ≤ q)) 13 D cA lo cc zz M 409 [(0, .ref a0), (1, .int i1), (2, .int i2), (3, .int i3), (4, .int i4), (5, .int i5), (6, .int i6)] []) (fun (a0 : Nat) (i2 : Int32) (i3 : Int32) (i4 : Int32) (i6 : Int32) (i7 : Int32) (M : Mm) (cc zz : Nat) => QW p l e ({ frames := 9, cells := Cc, slots := Zz, locals := 159 } : Room) s m args below meth c (vx_MQ below (QiM D cA lo Q) (XcM D cA lo X) args s Cc Zz (fun q => lo ≤ q)) 13 D cA lo cc zz M 475 [(0, .ref a0), (2, .int i2), (3, .int i3), (4, .int i4), (6, .int i6), (7, .int i7)] []) (fun (a0 : Nat) (i2 : Int32) (i3 : Int32) (i4 : Int32) (i6 : Int32) (i7 : Int32) (M : Mm) (cc zz : Nat) => QW p l e ({ frames := 9, cells := Cc, slots := Zz, locals := 159 } : Room) s m args below meth c (vx_MQ below (QiM D cA lo Q) (XcM D cA lo X) args s Cc Zz (fun q => lo ≤ q)) 13 D cA lo cc zz M 518 [(0, .ref a0), (2, .int i2), (3, .int i3), (4, .int i4), (6, .int i6), (7, .int i7)] []) (fun (a0 : Nat) (i2 : Int32) (i3 : Int32) (i4 : Int32) (i6 : Int32) (i7 : Int32) (M : Mm) (cc zz : Nat) => QW p l e ({ frames := 9, cells := Cc, slots := Zz, locals := 159 } : Room) s m args below meth c (vx_MQ below (QiM D cA lo Q) (XcM D cA lo X) args s Cc Zz (fun q => lo ≤ q)) 13 D cA lo cc zz M 552 [(0, .ref a0), (2, .int i2), (3, .int i3), (4, .int i4), (6, .int i6), (7, .int i7)] []) (fun (a0 : Nat) (i1 : Int32) (i2 : Int32) (i3 : Int32) (i4 : Int32) (i5 : Int32) (M : Mm) (cc zz : Nat) => QW p l e ({ frames := 9, cells := Cc, slots := Zz, locals := 159 } : Room) s m args below meth c (vx_MQ below (QiM D cA lo Q) (XcM D cA lo X) args s Cc Zz (fun q => lo ≤ q)) 13 D cA lo cc zz M 586 [(0, .ref a0), (1, .int i1), (2, .int i2), (3, .int i3), (4, .int i4), (5, .int i5)] []) (fun (a0 : Nat) (i2 : Int32) (i3 : Int32) (i4 : Int32) (i6 : Int32) (i7 : Int32) (M : Mm) (cc zz : Nat) => QW p l e ({ frames := 9, cells := Cc, slots := Zz, locals := 159 } : Room) s m args below meth c (vx_MQ below (QiM D cA lo Q) (XcM D cA lo X) args s Cc Zz (fun q => lo ≤ q)) 13 D cA lo cc zz M 660 [(0, .ref a0), (2, .int i2), (3, .int i3), (4, .int i4), (6, .int i6), (7, .int i7)] []) (fun (a0 : Nat) (i1 : Int32) (i2 : Int32) (i3 : Int32) (i4 : Int32) (M : Mm) (cc zz : Nat) => QW p l e ({ frames := 9, cells := Cc, slots := Zz, locals := 159 } : Room) s m args below meth c (vx_MQ below (QiM D cA lo Q) (XcM D cA lo X) args s Cc Zz (fun q => lo ≤ q)) 13 D cA lo cc zz M 710 [(0, .ref a0), (1, .int i1), (2, .int i2), (3, .int i3), (4, .int i4)] []) (fun (a0 : Nat) (i2 : Int32) (i3 : Int32) (i4 : Int32) (i5 : Int32) (M : Mm) (cc zz : Nat) => QW p l e ({ frames := 9, cells := Cc, slots := Zz, locals := 159 } : Room) s m args below meth c (vx_MQ below (QiM D cA lo Q) (XcM D cA lo X) args s Cc Zz (fun q => lo ≤ q)) 13 D cA lo cc zz M 766 [(0, .ref a0), (2, .int i2), (3, .int i3), (4, .int i4), (5, .int i5)] []) (fun (a0 : Nat) (i1 : Int32) (i2 : Int32) (i3 : Int32) (i4 : Int32) (M : Mm) (cc zz : Nat) => QW p l e ({ frames := 9, cells := Cc, slots := Zz, locals := 159 } : Room) s m args below meth c (vx_MQ below (QiM D cA lo Q) (XcM D cA lo X) args s Cc Zz (fun q => lo ≤ q)) 13 D cA lo cc zz M 802 [(0, .ref a0), (1, .int i1), (2, .int i2), (3, .int i3), (4, .int i4)] []) (fun (a0 : Nat) (i2 : Int32) (i3 : Int32) (i4 : Int32) (i8 : Int32) (as0 : Nat) (is1 : Int32) (is2 : Int32) (is3 : Int32) (is4 : Int32) (M : Mm) (cc zz : Nat) => QW p l e ({ frames := 9, cells := Cc, slots := Zz, locals := 159 } : Room) s m args below meth c (vx_MQ below (QiM D cA lo Q) (XcM D cA lo X) args s Cc Zz (fun q => lo ≤ q)) 13 D cA lo cc zz M 238 [(0, .ref a0), (2, .int i2), (3, .int i3), (4, .int i4), (8, .int i8)] [.int is4, .int is3, .int is2, .int is1, .ref as0]) (fun (a0 : Nat) (i2 : Int32) (i3 : Int32) (i4 : Int32) (as0 : Nat) (M : Mm) (cc zz : Nat) => QW p l e ({ frames := 9, cells := Cc, slots := Zz, locals := 159 } : Room) s m args below meth c (vx_MQ below (QiM D cA lo Q) (XcM D cA lo X) args s Cc Zz (fun q => lo ≤ q)) 13 D cA lo cc zz M 834 [(0, .ref a0), (2, .int i2), (3, .int i3), (4, .int i4)] [.ref as0]) (fun (a0 : Nat) (i2 : Int32) (i3 : Int32) (i4 : Int32) (as0 : Nat) (M : Mm) (cc zz : Nat) => QW p l e ({ frames := 9, cells := Cc, slots := Zz, locals := 159 } : Room) s m args below meth c (vx_MQ below (QiM D cA lo Q) (XcM D cA lo X) args s Cc Zz (fun q => lo ≤ q)) 13 D cA lo cc zz M 867 [(0, .ref a0), (2, .int i2), (3, .int i3), (4, .int i4)] [.ref as0]) (fun (a0 : Nat) (i2 : Int32) (i3 : Int32) (i4 : Int32) (as0 : Nat) (M : Mm) (cc zz : Nat) => QW p l e ({ frames := 9, cells := Cc, slots := Zz, locals := 159 } : Room) s m args below meth c (vx_MQ below (QiM D cA lo Q) (XcM D cA lo X) args s Cc Zz (fun q => lo ≤ q)) 13 D cA lo cc zz M 900 [(0, .ref a0), (2, .int i2), (3, .int i3), (4, .int i4)] [.ref as0]) Cc Zz Q X M a0 i2 i3 i4 i8 as0 is1 is2 is3 is4 cc zz) : QW p l e ({ frames := 9, cells := Cc, slots := Zz, locals := 159 } : Room) s m args below meth c (vx_MQ below (QiM D cA lo Q) (XcM D cA lo X) args s Cc Zz (fun q => lo ≤ q)) 13 D cA lo cc zz M 238 [(0, .ref a0), (2, .int i2), (3, .int i3), (4, .int i4), (8, .int i8)] [.int is4, .int is3, .int is2, .int is1, .ref as0] := by
  unfold S_L_act_238 at h
  obtain ⟨dc_128, ds_128, hcz, h⟩ := h
  refine q_xi (qx_runV (As := [.int is1, .int is2, .int is3, .int is4]) (st := []) C (c_X8_face l hl D cA lo h.2) (cwV 4 C.2.2.2.2.1 gL_act_X8_face rfl rfl rfl (by decide +kernel) ⟨Nat.le_of_ble_eq_true rfl, Nat.le_of_ble_eq_true rfl⟩) h.1 (by decide) rfl rfl rfl (Nat.le_of_ble_eq_true rfl) dL_act_238 hcz) (fun E M_x h => ?_) (fun r_126 M_127 h => ?_)
  · rcases h with ⟨rfl, h⟩ | ⟨rfl, h⟩ | ⟨rfl, h⟩
    · have h := h
      refine q_catch (name := "") C htab (List.take 1 hhL_act) (114, 271, 834, 58) (List.drop 2 hhL_act) (by decide) (by decide) (by decide +kernel) (by decide) (by decide) (by decide +kernel) (fun qx => ?_)
      have h := h qx
      exact q_sub [0, 1, 2, 3] rfl h
    · have h := h
      refine q_catch (name := "") C htab (List.take 15 hhL_act) (114, 271, 867, 120) (List.drop 16 hhL_act) (by decide) (by decide) (by decide +kernel) (by decide) (by decide) (by decide +kernel) (fun qx => ?_)
      have h := h qx
      exact q_sub [0, 1, 2, 3] rfl h
    · have h := h
      refine q_catch (name := "") C htab (List.take 29 hhL_act) (114, 271, 900, 122) (List.drop 30 hhL_act) (by decide) (by decide) (by decide +kernel) (by decide) (by decide) (by decide +kernel) (fun qx => ?_)
      have h := h qx
      exact q_sub [0, 1, 2, 3] rfl h
  · refine q_pop C dL_act_241 rfl ?_
    refine q_aload_n C dL_act_242 rfl (j := 0) rfl ?_
    have hcz := h.1
    have h := h.2
    refine q_ci (q_runV (As := []) (st := []) C (c_X8_faces l D cA lo h.2) (cwV 0 C.2.2.2.2.1 gL_act_X8_faces rfl rfl rfl (by decide +kernel) ⟨Nat.le_of_ble_eq_true rfl, Nat.le_of_ble_eq_true rfl⟩) h.1 (by decide) rfl rfl rfl (Nat.le_of_ble_eq_true rfl) dL_act_243 ⟨Nat.le_trans (Nat.le_of_eq (Nat.add_zero _)) hcz.1, Nat.le_trans (Nat.le_of_eq (Nat.add_zero _)) hcz.2⟩) (fun r_129 M_z h => ?_)
    refine q_mem h.1 ?_
    have h := h.2
    refine q_iload C dL_act_246 (j := 3) rfl ?_
    refine q_iconst (v := 1) C dL_act_248 (by decide) ?_
    refine q_iadd C dL_act_249 ?_
    refine q_icmp_ne (tgt := 270) C dL_act_250 (by decide) (fun z => ?_) (fun z => ?_)
    · have h := h.1 z
      refine q_iconst (v := 0) C dL_act_270 (by decide) ?_
      exact q_xret (q_zret C hr hlk dL_act_271 h.1 h.2.1 (Or.inl rfl) h.2.2)
    · have h := h.2 z
      refine q_aload_n C dL_act_253 rfl (j := 0) rfl ?_
      refine q_iload C dL_act_254 (j := 4) rfl ?_
      refine q_iload C dL_act_256 (j := 4) rfl ?_
      refine q_iconst (v := 1) C dL_act_258 (by decide) ?_
      refine q_iadd C dL_act_259 ?_
      obtain ⟨dc_132, ds_132, hcz, h⟩ := h
      refine q_xi (qx_runV (As := [.int i8, .int (i8 + 1)]) (st := []) C (c_X8_faceOf l hl D cA lo h.2) (cwV 2 C.2.2.2.2.1 gL_act_X8_faceOf rfl rfl rfl (by decide +kernel) ⟨Nat.le_of_ble_eq_true rfl, Nat.le_of_ble_eq_true rfl⟩) h.1 (by decide) rfl rfl rfl (Nat.le_of_ble_eq_true rfl) dL_act_260 hcz) (fun E M_x h => ?_) (fun r_130 M_131 h => ?_)
      · rcases h with ⟨rfl, h⟩ | ⟨rfl, h⟩ | ⟨rfl, h⟩
        · have h := h
          refine q_catch (name := "") C htab (List.take 1 hhL_act) (114, 271, 834, 58) (List.drop 2 hhL_act) (by decide) (by decide) (by decide +kernel) (by decide) (by decide) (by decide +kernel) (fun qx => ?_)
          have h := h qx
          exact q_sub [0, 1, 2, 3] rfl h
        · have h := h
          refine q_catch (name := "") C htab (List.take 15 hhL_act) (114, 271, 867, 120) (List.drop 16 hhL_act) (by decide) (by decide) (by decide +kernel) (by decide) (by decide) (by decide +kernel) (fun qx => ?_)
          have h := h qx
          exact q_sub [0, 1, 2, 3] rfl h
        · have h := h
          refine q_catch (name := "") C htab (List.take 29 hhL_act) (114, 271, 900, 122) (List.drop 30 hhL_act) (by decide) (by decide) (by decide +kernel) (by decide) (by decide) (by decide +kernel) (fun qx => ?_)
          have h := h qx
          exact q_sub [0, 1, 2, 3] rfl h
      · refine q_if_lt (tgt := 270) C dL_act_263 (by decide) (fun z => ?_) (fun z => ?_)
        · have h := h.1 z
          refine q_iconst (v := 0) C dL_act_270 (by decide) ?_
          exact q_xret (q_zret C hr hlk dL_act_271 h.1 h.2.1 (Or.inl rfl) h.2.2)
        · have h := h.2 z
          refine q_iconst (v := 1) C dL_act_266 (by decide) ?_
          refine q_goto (tgt := 271) C dL_act_267 (by decide) ?_
          exact q_xret (q_zret C hr hlk dL_act_271 h.1 h.2.1 (Or.inr rfl) h.2.2)
set_option maxRecDepth 100000 in
set_option maxHeartbeats 4000000 in
theorem b_L_act_834 {p : Program} {l : Launch} {e : Env} {s : State} {m : MethodId} {args : Array Value} {below : List Frame} {meth : Method} {c : Code} {D : va_G} {cA : Nat → ClassId} {lo : Nat} (C : Cx p s m args c cL_act 13 RL wsL_act D cA lo) (hr : meth.sig.returnType = (some .boolean)) (hlk : meth.locks = false) (hl : l.stackTraces = false) (htab : c.exceptionTable.toList = tableOf hhL_act) {Q : Int32 → Mm → Prop} {Cc Zz : Nat} {X : String → Mm → Prop} (M : Mm) (a0 : Nat) (i2 : Int32) (i3 : Int32) (i4 : Int32) (as0 : Nat) (cc zz : Nat) (h : S_L_act_834 (fun (a0 : Nat) (i1 : Int32) (i2 : Int32) (i3 : Int32) (i4 : Int32) (i5 : Int32) (i6 : Int32) (i7 : Int32) (M : Mm) (cc zz : Nat) => QW p l e ({ frames := 9, cells := Cc, slots := Zz, locals := 159 } : Room) s m args below meth c (vx_MQ below (QiM D cA lo Q) (XcM D cA lo X) args s Cc Zz (fun q => lo ≤ q)) 13 D cA lo cc zz M 114 [(0, .ref a0), (1, .int i1), (2, .int i2), (3, .int i3), (4, .int i4), (5, .int i5), (6, .int i6), (7, .int i7)] []) (fun (a0 : Nat) (i1 : Int32) (i2 : Int32) (i3 : Int32) (i4 : Int32) (i6 : Int32) (i7 : Int32) (as0 : Nat) (M : Mm) (cc zz : Nat) => QW p l e ({ frames := 9, cells := Cc, slots := Zz, locals := 159 } : Room) s m args below meth c (vx_MQ below (QiM D cA lo Q) (XcM D cA lo X) args s Cc Zz (fun q => lo ≤ q)) 13 D cA lo cc zz M 109 [(0, .ref a0), (1, .int i1), (2, .int i2), (3, .int i3), (4, .int i4), (6, .int i6), (7, .int i7)] [.ref as0]) (fun (a0 : Nat) (i1 : Int32) (i2 : Int32) (i3 : Int32) (i4 : Int32) (M : Mm) (cc zz : Nat) => QW p l e ({ frames := 9, cells := Cc, slots := Zz, locals := 159 } : Room) s m args below meth c (vx_MQ below (QiM D cA lo Q) (XcM D cA lo X) args s Cc Zz (fun q => lo ≤ q)) 13 D cA lo cc zz M 188 [(0, .ref a0), (1, .int i1), (2, .int i2), (3, .int i3), (4, .int i4)] []) (fun (a0 : Nat) (i1 : Int32) (i2 : Int32) (i3 : Int32) (i4 : Int32) (M : Mm) (cc zz : Nat) => QW p l e ({ frames := 9, cells := Cc, slots := Zz, locals := 159 } : Room) s m args below meth c (vx_MQ below (QiM D cA lo Q) (XcM D cA lo X) args s Cc Zz (fun q => lo ≤ q)) 13 D cA lo cc zz M 272 [(0, .ref a0), (1, .int i1), (2, .int i2), (3, .int i3), (4, .int i4)] []) (fun (a0 : Nat) (i2 : Int32) (i3 : Int32) (i4 : Int32) (i6 : Int32) (i7 : Int32) (M : Mm) (cc zz : Nat) => QW p l e ({ frames := 9, cells := Cc, slots := Zz, locals := 159 } : Room) s m args below meth c (vx_MQ below (QiM D cA lo Q) (XcM D cA lo X) args s Cc Zz (fun q => lo ≤ q)) 13 D cA lo cc zz M 350 [(0, .ref a0), (2, .int i2), (3, .int i3), (4, .int i4), (6, .int i6), (7, .int i7)] []) (fun (a0 : Nat) (i1 : Int32) (i2 : Int32) (i3 : Int32) (i4 : Int32) (i5 : Int32) (i6 : Int32) (M : Mm) (cc zz : Nat) => QW p l e ({ frames := 9, cells := Cc, slots := Zz, locals := 159 } : Room) s m args below meth c (vx_MQ below (QiM D cA lo Q) (XcM D cA lo X) args s Cc Zz (fun q => lo ≤ q)) 13 D cA lo cc zz M 409 [(0, .ref a0), (1, .int i1), (2, .int i2), (3, .int i3), (4, .int i4), (5, .int i5), (6, .int i6)] []) (fun (a0 : Nat) (i2 : Int32) (i3 : Int32) (i4 : Int32) (i6 : Int32) (i7 : Int32) (M : Mm) (cc zz : Nat) => QW p l e ({ frames := 9, cells := Cc, slots := Zz, locals := 159 } : Room) s m args below meth c (vx_MQ below (QiM D cA lo Q) (XcM D cA lo X) args s Cc Zz (fun q => lo ≤ q)) 13 D cA lo cc zz M 475 [(0, .ref a0), (2, .int i2), (3, .int i3), (4, .int i4), (6, .int i6), (7, .int i7)] []) (fun (a0 : Nat) (i2 : Int32) (i3 : Int32) (i4 : Int32) (i6 : Int32) (i7 : Int32) (M : Mm) (cc zz : Nat) => QW p l e ({ frames := 9, cells := Cc, slots := Zz, locals := 159 } : Room) s m args below meth c (vx_MQ below (QiM D cA lo Q) (XcM D cA lo X) args s Cc Zz (fun q => lo ≤ q)) 13 D cA lo cc zz M 518 [(0, .ref a0), (2, .int i2), (3, .int i3), (4, .int i4), (6, .int i6), (7, .int i7)] []) (fun (a0 : Nat) (i2 : Int32) (i3 : Int32) (i4 : Int32) (i6 : Int32) (i7 : Int32) (M : Mm) (cc zz : Nat) => QW p l e ({ frames := 9, cells := Cc, slots := Zz, locals := 159 } : Room) s m args below meth c (vx_MQ below (QiM D cA lo Q) (XcM D cA lo X) args s Cc Zz (fun q => lo ≤ q)) 13 D cA lo cc zz M 552 [(0, .ref a0), (2, .int i2), (3, .int i3), (4, .int i4), (6, .int i6), (7, .int i7)] []) (fun (a0 : Nat) (i1 : Int32) (i2 : Int32) (i3 : Int32) (i4 : Int32) (i5 : Int32) (M : Mm) (cc zz : Nat) => QW p l e ({ frames := 9, cells := Cc, slots := Zz, locals := 159 } : Room) s m args below meth c (vx_MQ below (QiM D cA lo Q) (XcM D cA lo X) args s Cc Zz (fun q => lo ≤ q)) 13 D cA lo cc zz M 586 [(0, .ref a0), (1, .int i1), (2, .int i2), (3, .int i3), (4, .int i4), (5, .int i5)] []) (fun (a0 : Nat) (i2 : Int32) (i3 : Int32) (i4 : Int32) (i6 : Int32) (i7 : Int32) (M : Mm) (cc zz : Nat) => QW p l e ({ frames := 9, cells := Cc, slots := Zz, locals := 159 } : Room) s m args below meth c (vx_MQ below (QiM D cA lo Q) (XcM D cA lo X) args s Cc Zz (fun q => lo ≤ q)) 13 D cA lo cc zz M 660 [(0, .ref a0), (2, .int i2), (3, .int i3), (4, .int i4), (6, .int i6), (7, .int i7)] []) (fun (a0 : Nat) (i1 : Int32) (i2 : Int32) (i3 : Int32) (i4 : Int32) (M : Mm) (cc zz : Nat) => QW p l e ({ frames := 9, cells := Cc, slots := Zz, locals := 159 } : Room) s m args below meth c (vx_MQ below (QiM D cA lo Q) (XcM D cA lo X) args s Cc Zz (fun q => lo ≤ q)) 13 D cA lo cc zz M 710 [(0, .ref a0), (1, .int i1), (2, .int i2), (3, .int i3), (4, .int i4)] []) (fun (a0 : Nat) (i2 : Int32) (i3 : Int32) (i4 : Int32) (i5 : Int32) (M : Mm) (cc zz : Nat) => QW p l e ({ frames := 9, cells := Cc, slots := Zz, locals := 159 } : Room) s m args below meth c (vx_MQ below (QiM D cA lo Q) (XcM D cA lo X) args s Cc Zz (fun q => lo ≤ q)) 13 D cA lo cc zz M 766 [(0, .ref a0), (2, .int i2), (3, .int i3), (4, .int i4), (5, .int i5)] []) (fun (a0 : Nat) (i1 : Int32) (i2 : Int32) (i3 : Int32) (i4 : Int32) (M : Mm) (cc zz : Nat) => QW p l e ({ frames := 9, cells := Cc, slots := Zz, locals := 159 } : Room) s m args below meth c (vx_MQ below (QiM D cA lo Q) (XcM D cA lo X) args s Cc Zz (fun q => lo ≤ q)) 13 D cA lo cc zz M 802 [(0, .ref a0), (1, .int i1), (2, .int i2), (3, .int i3), (4, .int i4)] []) (fun (a0 : Nat) (i2 : Int32) (i3 : Int32) (i4 : Int32) (i8 : Int32) (as0 : Nat) (is1 : Int32) (is2 : Int32) (is3 : Int32) (is4 : Int32) (M : Mm) (cc zz : Nat) => QW p l e ({ frames := 9, cells := Cc, slots := Zz, locals := 159 } : Room) s m args below meth c (vx_MQ below (QiM D cA lo Q) (XcM D cA lo X) args s Cc Zz (fun q => lo ≤ q)) 13 D cA lo cc zz M 238 [(0, .ref a0), (2, .int i2), (3, .int i3), (4, .int i4), (8, .int i8)] [.int is4, .int is3, .int is2, .int is1, .ref as0]) (fun (a0 : Nat) (i2 : Int32) (i3 : Int32) (i4 : Int32) (as0 : Nat) (M : Mm) (cc zz : Nat) => QW p l e ({ frames := 9, cells := Cc, slots := Zz, locals := 159 } : Room) s m args below meth c (vx_MQ below (QiM D cA lo Q) (XcM D cA lo X) args s Cc Zz (fun q => lo ≤ q)) 13 D cA lo cc zz M 834 [(0, .ref a0), (2, .int i2), (3, .int i3), (4, .int i4)] [.ref as0]) (fun (a0 : Nat) (i2 : Int32) (i3 : Int32) (i4 : Int32) (as0 : Nat) (M : Mm) (cc zz : Nat) => QW p l e ({ frames := 9, cells := Cc, slots := Zz, locals := 159 } : Room) s m args below meth c (vx_MQ below (QiM D cA lo Q) (XcM D cA lo X) args s Cc Zz (fun q => lo ≤ q)) 13 D cA lo cc zz M 867 [(0, .ref a0), (2, .int i2), (3, .int i3), (4, .int i4)] [.ref as0]) (fun (a0 : Nat) (i2 : Int32) (i3 : Int32) (i4 : Int32) (as0 : Nat) (M : Mm) (cc zz : Nat) => QW p l e ({ frames := 9, cells := Cc, slots := Zz, locals := 159 } : Room) s m args below meth c (vx_MQ below (QiM D cA lo Q) (XcM D cA lo X) args s Cc Zz (fun q => lo ≤ q)) 13 D cA lo cc zz M 900 [(0, .ref a0), (2, .int i2), (3, .int i3), (4, .int i4)] [.ref as0]) Cc Zz Q X M a0 i2 i3 i4 as0 cc zz) : QW p l e ({ frames := 9, cells := Cc, slots := Zz, locals := 159 } : Room) s m args below meth c (vx_MQ below (QiM D cA lo Q) (XcM D cA lo X) args s Cc Zz (fun q => lo ≤ q)) 13 D cA lo cc zz M 834 [(0, .ref a0), (2, .int i2), (3, .int i3), (4, .int i4)] [.ref as0] := by
  unfold S_L_act_834 at h
  refine q_astore (lv' := [(8, .ref as0), (0, .ref a0), (2, .int i2), (3, .int i3), (4, .int i4)]) C dL_act_834 (by decide) rfl ?_
  refine q_aload_n C dL_act_836 rfl (j := 1) rfl ?_
  have hcz := h.1
  have h := h.2
  refine q_ci (q_runV (As := []) (st := []) C (c_X8_points l D cA lo h.2) (cwV 0 C.2.2.2.2.1 gL_act_X8_points rfl rfl rfl (by decide +kernel) ⟨Nat.le_of_ble_eq_true rfl, Nat.le_of_ble_eq_true rfl⟩) h.1 (by decide) rfl rfl rfl (Nat.le_of_ble_eq_true rfl) dL_act_837 ⟨Nat.le_trans (Nat.le_of_eq (Nat.add_zero _)) hcz.1, Nat.le_trans (Nat.le_of_eq (Nat.add_zero _)) hcz.2⟩) (fun r_133 M_z h => ?_)
  refine q_mem h.1 ?_
  have h := h.2
  refine q_iload_n C dL_act_840 rfl (j := 2) rfl ?_
  refine q_icmp_ne (tgt := 865) C dL_act_841 (by decide) (fun z => ?_) (fun z => ?_)
  · have h := h.1 z
    refine q_iconst (v := 0) C dL_act_865 (by decide) ?_
    exact q_xret (q_zret C hr hlk dL_act_866 h.1 h.2.1 (Or.inl rfl) h.2.2)
  · have h := h.2 z
    refine q_aload_n C dL_act_844 rfl (j := 1) rfl ?_
    have hcz := h.1
    have h := h.2
    refine q_ci (q_runV (As := []) (st := []) C (c_X8_edges l D cA lo h.2) (cwV 0 C.2.2.2.2.1 gL_act_X8_edges rfl rfl rfl (by decide +kernel) ⟨Nat.le_of_ble_eq_true rfl, Nat.le_of_ble_eq_true rfl⟩) h.1 (by decide) rfl rfl rfl (Nat.le_of_ble_eq_true rfl) dL_act_845 ⟨Nat.le_trans (Nat.le_of_eq (Nat.add_zero _)) hcz.1, Nat.le_trans (Nat.le_of_eq (Nat.add_zero _)) hcz.2⟩) (fun r_134 M_z h => ?_)
    refine q_mem h.1 ?_
    have h := h.2
    refine q_iload_n C dL_act_848 rfl (j := 3) rfl ?_
    refine q_icmp_ne (tgt := 865) C dL_act_849 (by decide) (fun z => ?_) (fun z => ?_)
    · have h := h.1 z
      refine q_iconst (v := 0) C dL_act_865 (by decide) ?_
      exact q_xret (q_zret C hr hlk dL_act_866 h.1 h.2.1 (Or.inl rfl) h.2.2)
    · have h := h.2 z
      refine q_aload_n C dL_act_852 rfl (j := 1) rfl ?_
      have hcz := h.1
      have h := h.2
      refine q_ci (q_runV (As := []) (st := []) C (c_X8_faces l D cA lo h.2) (cwV 0 C.2.2.2.2.1 gL_act_X8_faces rfl rfl rfl (by decide +kernel) ⟨Nat.le_of_ble_eq_true rfl, Nat.le_of_ble_eq_true rfl⟩) h.1 (by decide) rfl rfl rfl (Nat.le_of_ble_eq_true rfl) dL_act_853 ⟨Nat.le_trans (Nat.le_of_eq (Nat.add_zero _)) hcz.1, Nat.le_trans (Nat.le_of_eq (Nat.add_zero _)) hcz.2⟩) (fun r_135 M_z h => ?_)
      refine q_mem h.1 ?_
      have h := h.2
      refine q_iload C dL_act_856 (j := 4) rfl ?_
      refine q_icmp_ne (tgt := 865) C dL_act_858 (by decide) (fun z => ?_) (fun z => ?_)
      · have h := h.1 z
        refine q_iconst (v := 0) C dL_act_865 (by decide) ?_
        exact q_xret (q_zret C hr hlk dL_act_866 h.1 h.2.1 (Or.inl rfl) h.2.2)
      · have h := h.2 z
        refine q_iconst (v := 1) C dL_act_861 (by decide) ?_
        refine q_goto (tgt := 866) C dL_act_862 (by decide) ?_
        exact q_xret (q_zret C hr hlk dL_act_866 h.1 h.2.1 (Or.inr rfl) h.2.2)
set_option maxRecDepth 100000 in
set_option maxHeartbeats 4000000 in
theorem b_L_act_867 {p : Program} {l : Launch} {e : Env} {s : State} {m : MethodId} {args : Array Value} {below : List Frame} {meth : Method} {c : Code} {D : va_G} {cA : Nat → ClassId} {lo : Nat} (C : Cx p s m args c cL_act 13 RL wsL_act D cA lo) (hr : meth.sig.returnType = (some .boolean)) (hlk : meth.locks = false) (hl : l.stackTraces = false) (htab : c.exceptionTable.toList = tableOf hhL_act) {Q : Int32 → Mm → Prop} {Cc Zz : Nat} {X : String → Mm → Prop} (M : Mm) (a0 : Nat) (i2 : Int32) (i3 : Int32) (i4 : Int32) (as0 : Nat) (cc zz : Nat) (h : S_L_act_867 (fun (a0 : Nat) (i1 : Int32) (i2 : Int32) (i3 : Int32) (i4 : Int32) (i5 : Int32) (i6 : Int32) (i7 : Int32) (M : Mm) (cc zz : Nat) => QW p l e ({ frames := 9, cells := Cc, slots := Zz, locals := 159 } : Room) s m args below meth c (vx_MQ below (QiM D cA lo Q) (XcM D cA lo X) args s Cc Zz (fun q => lo ≤ q)) 13 D cA lo cc zz M 114 [(0, .ref a0), (1, .int i1), (2, .int i2), (3, .int i3), (4, .int i4), (5, .int i5), (6, .int i6), (7, .int i7)] []) (fun (a0 : Nat) (i1 : Int32) (i2 : Int32) (i3 : Int32) (i4 : Int32) (i6 : Int32) (i7 : Int32) (as0 : Nat) (M : Mm) (cc zz : Nat) => QW p l e ({ frames := 9, cells := Cc, slots := Zz, locals := 159 } : Room) s m args below meth c (vx_MQ below (QiM D cA lo Q) (XcM D cA lo X) args s Cc Zz (fun q => lo ≤ q)) 13 D cA lo cc zz M 109 [(0, .ref a0), (1, .int i1), (2, .int i2), (3, .int i3), (4, .int i4), (6, .int i6), (7, .int i7)] [.ref as0]) (fun (a0 : Nat) (i1 : Int32) (i2 : Int32) (i3 : Int32) (i4 : Int32) (M : Mm) (cc zz : Nat) => QW p l e ({ frames := 9, cells := Cc, slots := Zz, locals := 159 } : Room) s m args below meth c (vx_MQ below (QiM D cA lo Q) (XcM D cA lo X) args s Cc Zz (fun q => lo ≤ q)) 13 D cA lo cc zz M 188 [(0, .ref a0), (1, .int i1), (2, .int i2), (3, .int i3), (4, .int i4)] []) (fun (a0 : Nat) (i1 : Int32) (i2 : Int32) (i3 : Int32) (i4 : Int32) (M : Mm) (cc zz : Nat) => QW p l e ({ frames := 9, cells := Cc, slots := Zz, locals := 159 } : Room) s m args below meth c (vx_MQ below (QiM D cA lo Q) (XcM D cA lo X) args s Cc Zz (fun q => lo ≤ q)) 13 D cA lo cc zz M 272 [(0, .ref a0), (1, .int i1), (2, .int i2), (3, .int i3), (4, .int i4)] []) (fun (a0 : Nat) (i2 : Int32) (i3 : Int32) (i4 : Int32) (i6 : Int32) (i7 : Int32) (M : Mm) (cc zz : Nat) => QW p l e ({ frames := 9, cells := Cc, slots := Zz, locals := 159 } : Room) s m args below meth c (vx_MQ below (QiM D cA lo Q) (XcM D cA lo X) args s Cc Zz (fun q => lo ≤ q)) 13 D cA lo cc zz M 350 [(0, .ref a0), (2, .int i2), (3, .int i3), (4, .int i4), (6, .int i6), (7, .int i7)] []) (fun (a0 : Nat) (i1 : Int32) (i2 : Int32) (i3 : Int32) (i4 : Int32) (i5 : Int32) (i6 : Int32) (M : Mm) (cc zz : Nat) => QW p l e ({ frames := 9, cells := Cc, slots := Zz, locals := 159 } : Room) s m args below meth c (vx_MQ below (QiM D cA lo Q) (XcM D cA lo X) args s Cc Zz (fun q => lo ≤ q)) 13 D cA lo cc zz M 409 [(0, .ref a0), (1, .int i1), (2, .int i2), (3, .int i3), (4, .int i4), (5, .int i5), (6, .int i6)] []) (fun (a0 : Nat) (i2 : Int32) (i3 : Int32) (i4 : Int32) (i6 : Int32) (i7 : Int32) (M : Mm) (cc zz : Nat) => QW p l e ({ frames := 9, cells := Cc, slots := Zz, locals := 159 } : Room) s m args below meth c (vx_MQ below (QiM D cA lo Q) (XcM D cA lo X) args s Cc Zz (fun q => lo ≤ q)) 13 D cA lo cc zz M 475 [(0, .ref a0), (2, .int i2), (3, .int i3), (4, .int i4), (6, .int i6), (7, .int i7)] []) (fun (a0 : Nat) (i2 : Int32) (i3 : Int32) (i4 : Int32) (i6 : Int32) (i7 : Int32) (M : Mm) (cc zz : Nat) => QW p l e ({ frames := 9, cells := Cc, slots := Zz, locals := 159 } : Room) s m args below meth c (vx_MQ below (QiM D cA lo Q) (XcM D cA lo X) args s Cc Zz (fun q => lo ≤ q)) 13 D cA lo cc zz M 518 [(0, .ref a0), (2, .int i2), (3, .int i3), (4, .int i4), (6, .int i6), (7, .int i7)] []) (fun (a0 : Nat) (i2 : Int32) (i3 : Int32) (i4 : Int32) (i6 : Int32) (i7 : Int32) (M : Mm) (cc zz : Nat) => QW p l e ({ frames := 9, cells := Cc, slots := Zz, locals := 159 } : Room) s m args below meth c (vx_MQ below (QiM D cA lo Q) (XcM D cA lo X) args s Cc Zz (fun q => lo ≤ q)) 13 D cA lo cc zz M 552 [(0, .ref a0), (2, .int i2), (3, .int i3), (4, .int i4), (6, .int i6), (7, .int i7)] []) (fun (a0 : Nat) (i1 : Int32) (i2 : Int32) (i3 : Int32) (i4 : Int32) (i5 : Int32) (M : Mm) (cc zz : Nat) => QW p l e ({ frames := 9, cells := Cc, slots := Zz, locals := 159 } : Room) s m args below meth c (vx_MQ below (QiM D cA lo Q) (XcM D cA lo X) args s Cc Zz (fun q => lo ≤ q)) 13 D cA lo cc zz M 586 [(0, .ref a0), (1, .int i1), (2, .int i2), (3, .int i3), (4, .int i4), (5, .int i5)] []) (fun (a0 : Nat) (i2 : Int32) (i3 : Int32) (i4 : Int32) (i6 : Int32) (i7 : Int32) (M : Mm) (cc zz : Nat) => QW p l e ({ frames := 9, cells := Cc, slots := Zz, locals := 159 } : Room) s m args below meth c (vx_MQ below (QiM D cA lo Q) (XcM D cA lo X) args s Cc Zz (fun q => lo ≤ q)) 13 D cA lo cc zz M 660 [(0, .ref a0), (2, .int i2), (3, .int i3), (4, .int i4), (6, .int i6), (7, .int i7)] []) (fun (a0 : Nat) (i1 : Int32) (i2 : Int32) (i3 : Int32) (i4 : Int32) (M : Mm) (cc zz : Nat) => QW p l e ({ frames := 9, cells := Cc, slots := Zz, locals := 159 } : Room) s m args below meth c (vx_MQ below (QiM D cA lo Q) (XcM D cA lo X) args s Cc Zz (fun q => lo ≤ q)) 13 D cA lo cc zz M 710 [(0, .ref a0), (1, .int i1), (2, .int i2), (3, .int i3), (4, .int i4)] []) (fun (a0 : Nat) (i2 : Int32) (i3 : Int32) (i4 : Int32) (i5 : Int32) (M : Mm) (cc zz : Nat) => QW p l e ({ frames := 9, cells := Cc, slots := Zz, locals := 159 } : Room) s m args below meth c (vx_MQ below (QiM D cA lo Q) (XcM D cA lo X) args s Cc Zz (fun q => lo ≤ q)) 13 D cA lo cc zz M 766 [(0, .ref a0), (2, .int i2), (3, .int i3), (4, .int i4), (5, .int i5)] []) (fun (a0 : Nat) (i1 : Int32) (i2 : Int32) (i3 : Int32) (i4 : Int32) (M : Mm) (cc zz : Nat) => QW p l e ({ frames := 9, cells := Cc, slots := Zz, locals := 159 } : Room) s m args below meth c (vx_MQ below (QiM D cA lo Q) (XcM D cA lo X) args s Cc Zz (fun q => lo ≤ q)) 13 D cA lo cc zz M 802 [(0, .ref a0), (1, .int i1), (2, .int i2), (3, .int i3), (4, .int i4)] []) (fun (a0 : Nat) (i2 : Int32) (i3 : Int32) (i4 : Int32) (i8 : Int32) (as0 : Nat) (is1 : Int32) (is2 : Int32) (is3 : Int32) (is4 : Int32) (M : Mm) (cc zz : Nat) => QW p l e ({ frames := 9, cells := Cc, slots := Zz, locals := 159 } : Room) s m args below meth c (vx_MQ below (QiM D cA lo Q) (XcM D cA lo X) args s Cc Zz (fun q => lo ≤ q)) 13 D cA lo cc zz M 238 [(0, .ref a0), (2, .int i2), (3, .int i3), (4, .int i4), (8, .int i8)] [.int is4, .int is3, .int is2, .int is1, .ref as0]) (fun (a0 : Nat) (i2 : Int32) (i3 : Int32) (i4 : Int32) (as0 : Nat) (M : Mm) (cc zz : Nat) => QW p l e ({ frames := 9, cells := Cc, slots := Zz, locals := 159 } : Room) s m args below meth c (vx_MQ below (QiM D cA lo Q) (XcM D cA lo X) args s Cc Zz (fun q => lo ≤ q)) 13 D cA lo cc zz M 834 [(0, .ref a0), (2, .int i2), (3, .int i3), (4, .int i4)] [.ref as0]) (fun (a0 : Nat) (i2 : Int32) (i3 : Int32) (i4 : Int32) (as0 : Nat) (M : Mm) (cc zz : Nat) => QW p l e ({ frames := 9, cells := Cc, slots := Zz, locals := 159 } : Room) s m args below meth c (vx_MQ below (QiM D cA lo Q) (XcM D cA lo X) args s Cc Zz (fun q => lo ≤ q)) 13 D cA lo cc zz M 867 [(0, .ref a0), (2, .int i2), (3, .int i3), (4, .int i4)] [.ref as0]) (fun (a0 : Nat) (i2 : Int32) (i3 : Int32) (i4 : Int32) (as0 : Nat) (M : Mm) (cc zz : Nat) => QW p l e ({ frames := 9, cells := Cc, slots := Zz, locals := 159 } : Room) s m args below meth c (vx_MQ below (QiM D cA lo Q) (XcM D cA lo X) args s Cc Zz (fun q => lo ≤ q)) 13 D cA lo cc zz M 900 [(0, .ref a0), (2, .int i2), (3, .int i3), (4, .int i4)] [.ref as0]) Cc Zz Q X M a0 i2 i3 i4 as0 cc zz) : QW p l e ({ frames := 9, cells := Cc, slots := Zz, locals := 159 } : Room) s m args below meth c (vx_MQ below (QiM D cA lo Q) (XcM D cA lo X) args s Cc Zz (fun q => lo ≤ q)) 13 D cA lo cc zz M 867 [(0, .ref a0), (2, .int i2), (3, .int i3), (4, .int i4)] [.ref as0] := by
  unfold S_L_act_867 at h
  refine q_astore (lv' := [(8, .ref as0), (0, .ref a0), (2, .int i2), (3, .int i3), (4, .int i4)]) C dL_act_867 (by decide) rfl ?_
  refine q_aload_n C dL_act_869 rfl (j := 1) rfl ?_
  have hcz := h.1
  have h := h.2
  refine q_ci (q_runV (As := []) (st := []) C (c_X8_points l D cA lo h.2) (cwV 0 C.2.2.2.2.1 gL_act_X8_points rfl rfl rfl (by decide +kernel) ⟨Nat.le_of_ble_eq_true rfl, Nat.le_of_ble_eq_true rfl⟩) h.1 (by decide) rfl rfl rfl (Nat.le_of_ble_eq_true rfl) dL_act_870 ⟨Nat.le_trans (Nat.le_of_eq (Nat.add_zero _)) hcz.1, Nat.le_trans (Nat.le_of_eq (Nat.add_zero _)) hcz.2⟩) (fun r_136 M_z h => ?_)
  refine q_mem h.1 ?_
  have h := h.2
  refine q_iload_n C dL_act_873 rfl (j := 2) rfl ?_
  refine q_icmp_ne (tgt := 898) C dL_act_874 (by decide) (fun z => ?_) (fun z => ?_)
  · have h := h.1 z
    refine q_iconst (v := 0) C dL_act_898 (by decide) ?_
    exact q_xret (q_zret C hr hlk dL_act_899 h.1 h.2.1 (Or.inl rfl) h.2.2)
  · have h := h.2 z
    refine q_aload_n C dL_act_877 rfl (j := 1) rfl ?_
    have hcz := h.1
    have h := h.2
    refine q_ci (q_runV (As := []) (st := []) C (c_X8_edges l D cA lo h.2) (cwV 0 C.2.2.2.2.1 gL_act_X8_edges rfl rfl rfl (by decide +kernel) ⟨Nat.le_of_ble_eq_true rfl, Nat.le_of_ble_eq_true rfl⟩) h.1 (by decide) rfl rfl rfl (Nat.le_of_ble_eq_true rfl) dL_act_878 ⟨Nat.le_trans (Nat.le_of_eq (Nat.add_zero _)) hcz.1, Nat.le_trans (Nat.le_of_eq (Nat.add_zero _)) hcz.2⟩) (fun r_137 M_z h => ?_)
    refine q_mem h.1 ?_
    have h := h.2
    refine q_iload_n C dL_act_881 rfl (j := 3) rfl ?_
    refine q_icmp_ne (tgt := 898) C dL_act_882 (by decide) (fun z => ?_) (fun z => ?_)
    · have h := h.1 z
      refine q_iconst (v := 0) C dL_act_898 (by decide) ?_
      exact q_xret (q_zret C hr hlk dL_act_899 h.1 h.2.1 (Or.inl rfl) h.2.2)
    · have h := h.2 z
      refine q_aload_n C dL_act_885 rfl (j := 1) rfl ?_
      have hcz := h.1
      have h := h.2
      refine q_ci (q_runV (As := []) (st := []) C (c_X8_faces l D cA lo h.2) (cwV 0 C.2.2.2.2.1 gL_act_X8_faces rfl rfl rfl (by decide +kernel) ⟨Nat.le_of_ble_eq_true rfl, Nat.le_of_ble_eq_true rfl⟩) h.1 (by decide) rfl rfl rfl (Nat.le_of_ble_eq_true rfl) dL_act_886 ⟨Nat.le_trans (Nat.le_of_eq (Nat.add_zero _)) hcz.1, Nat.le_trans (Nat.le_of_eq (Nat.add_zero _)) hcz.2⟩) (fun r_138 M_z h => ?_)
      refine q_mem h.1 ?_
      have h := h.2
      refine q_iload C dL_act_889 (j := 4) rfl ?_
      refine q_icmp_ne (tgt := 898) C dL_act_891 (by decide) (fun z => ?_) (fun z => ?_)
      · have h := h.1 z
        refine q_iconst (v := 0) C dL_act_898 (by decide) ?_
        exact q_xret (q_zret C hr hlk dL_act_899 h.1 h.2.1 (Or.inl rfl) h.2.2)
      · have h := h.2 z
        refine q_iconst (v := 1) C dL_act_894 (by decide) ?_
        refine q_goto (tgt := 899) C dL_act_895 (by decide) ?_
        exact q_xret (q_zret C hr hlk dL_act_899 h.1 h.2.1 (Or.inr rfl) h.2.2)
set_option maxRecDepth 100000 in
set_option maxHeartbeats 4000000 in
theorem b_L_act_900 {p : Program} {l : Launch} {e : Env} {s : State} {m : MethodId} {args : Array Value} {below : List Frame} {meth : Method} {c : Code} {D : va_G} {cA : Nat → ClassId} {lo : Nat} (C : Cx p s m args c cL_act 13 RL wsL_act D cA lo) (hr : meth.sig.returnType = (some .boolean)) (hlk : meth.locks = false) (hl : l.stackTraces = false) (htab : c.exceptionTable.toList = tableOf hhL_act) {Q : Int32 → Mm → Prop} {Cc Zz : Nat} {X : String → Mm → Prop} (M : Mm) (a0 : Nat) (i2 : Int32) (i3 : Int32) (i4 : Int32) (as0 : Nat) (cc zz : Nat) (h : S_L_act_900 (fun (a0 : Nat) (i1 : Int32) (i2 : Int32) (i3 : Int32) (i4 : Int32) (i5 : Int32) (i6 : Int32) (i7 : Int32) (M : Mm) (cc zz : Nat) => QW p l e ({ frames := 9, cells := Cc, slots := Zz, locals := 159 } : Room) s m args below meth c (vx_MQ below (QiM D cA lo Q) (XcM D cA lo X) args s Cc Zz (fun q => lo ≤ q)) 13 D cA lo cc zz M 114 [(0, .ref a0), (1, .int i1), (2, .int i2), (3, .int i3), (4, .int i4), (5, .int i5), (6, .int i6), (7, .int i7)] []) (fun (a0 : Nat) (i1 : Int32) (i2 : Int32) (i3 : Int32) (i4 : Int32) (i6 : Int32) (i7 : Int32) (as0 : Nat) (M : Mm) (cc zz : Nat) => QW p l e ({ frames := 9, cells := Cc, slots := Zz, locals := 159 } : Room) s m args below meth c (vx_MQ below (QiM D cA lo Q) (XcM D cA lo X) args s Cc Zz (fun q => lo ≤ q)) 13 D cA lo cc zz M 109 [(0, .ref a0), (1, .int i1), (2, .int i2), (3, .int i3), (4, .int i4), (6, .int i6), (7, .int i7)] [.ref as0]) (fun (a0 : Nat) (i1 : Int32) (i2 : Int32) (i3 : Int32) (i4 : Int32) (M : Mm) (cc zz : Nat) => QW p l e ({ frames := 9, cells := Cc, slots := Zz, locals := 159 } : Room) s m args below meth c (vx_MQ below (QiM D cA lo Q) (XcM D cA lo X) args s Cc Zz (fun q => lo ≤ q)) 13 D cA lo cc zz M 188 [(0, .ref a0), (1, .int i1), (2, .int i2), (3, .int i3), (4, .int i4)] []) (fun (a0 : Nat) (i1 : Int32) (i2 : Int32) (i3 : Int32) (i4 : Int32) (M : Mm) (cc zz : Nat) => QW p l e ({ frames := 9, cells := Cc, slots := Zz, locals := 159 } : Room) s m args below meth c (vx_MQ below (QiM D cA lo Q) (XcM D cA lo X) args s Cc Zz (fun q => lo ≤ q)) 13 D cA lo cc zz M 272 [(0, .ref a0), (1, .int i1), (2, .int i2), (3, .int i3), (4, .int i4)] []) (fun (a0 : Nat) (i2 : Int32) (i3 : Int32) (i4 : Int32) (i6 : Int32) (i7 : Int32) (M : Mm) (cc zz : Nat) => QW p l e ({ frames := 9, cells := Cc, slots := Zz, locals := 159 } : Room) s m args below meth c (vx_MQ below (QiM D cA lo Q) (XcM D cA lo X) args s Cc Zz (fun q => lo ≤ q)) 13 D cA lo cc zz M 350 [(0, .ref a0), (2, .int i2), (3, .int i3), (4, .int i4), (6, .int i6), (7, .int i7)] []) (fun (a0 : Nat) (i1 : Int32) (i2 : Int32) (i3 : Int32) (i4 : Int32) (i5 : Int32) (i6 : Int32) (M : Mm) (cc zz : Nat) => QW p l e ({ frames := 9, cells := Cc, slots := Zz, locals := 159 } : Room) s m args below meth c (vx_MQ below (QiM D cA lo Q) (XcM D cA lo X) args s Cc Zz (fun q => lo ≤ q)) 13 D cA lo cc zz M 409 [(0, .ref a0), (1, .int i1), (2, .int i2), (3, .int i3), (4, .int i4), (5, .int i5), (6, .int i6)] []) (fun (a0 : Nat) (i2 : Int32) (i3 : Int32) (i4 : Int32) (i6 : Int32) (i7 : Int32) (M : Mm) (cc zz : Nat) => QW p l e ({ frames := 9, cells := Cc, slots := Zz, locals := 159 } : Room) s m args below meth c (vx_MQ below (QiM D cA lo Q) (XcM D cA lo X) args s Cc Zz (fun q => lo ≤ q)) 13 D cA lo cc zz M 475 [(0, .ref a0), (2, .int i2), (3, .int i3), (4, .int i4), (6, .int i6), (7, .int i7)] []) (fun (a0 : Nat) (i2 : Int32) (i3 : Int32) (i4 : Int32) (i6 : Int32) (i7 : Int32) (M : Mm) (cc zz : Nat) => QW p l e ({ frames := 9, cells := Cc, slots := Zz, locals := 159 } : Room) s m args below meth c (vx_MQ below (QiM D cA lo Q) (XcM D cA lo X) args s Cc Zz (fun q => lo ≤ q)) 13 D cA lo cc zz M 518 [(0, .ref a0), (2, .int i2), (3, .int i3), (4, .int i4), (6, .int i6), (7, .int i7)] []) (fun (a0 : Nat) (i2 : Int32) (i3 : Int32) (i4 : Int32) (i6 : Int32) (i7 : Int32) (M : Mm) (cc zz : Nat) => QW p l e ({ frames := 9, cells := Cc, slots := Zz, locals := 159 } : Room) s m args below meth c (vx_MQ below (QiM D cA lo Q) (XcM D cA lo X) args s Cc Zz (fun q => lo ≤ q)) 13 D cA lo cc zz M 552 [(0, .ref a0), (2, .int i2), (3, .int i3), (4, .int i4), (6, .int i6), (7, .int i7)] []) (fun (a0 : Nat) (i1 : Int32) (i2 : Int32) (i3 : Int32) (i4 : Int32) (i5 : Int32) (M : Mm) (cc zz : Nat) => QW p l e ({ frames := 9, cells := Cc, slots := Zz, locals := 159 } : Room) s m args below meth c (vx_MQ below (QiM D cA lo Q) (XcM D cA lo X) args s Cc Zz (fun q => lo ≤ q)) 13 D cA lo cc zz M 586 [(0, .ref a0), (1, .int i1), (2, .int i2), (3, .int i3), (4, .int i4), (5, .int i5)] []) (fun (a0 : Nat) (i2 : Int32) (i3 : Int32) (i4 : Int32) (i6 : Int32) (i7 : Int32) (M : Mm) (cc zz : Nat) => QW p l e ({ frames := 9, cells := Cc, slots := Zz, locals := 159 } : Room) s m args below meth c (vx_MQ below (QiM D cA lo Q) (XcM D cA lo X) args s Cc Zz (fun q => lo ≤ q)) 13 D cA lo cc zz M 660 [(0, .ref a0), (2, .int i2), (3, .int i3), (4, .int i4), (6, .int i6), (7, .int i7)] []) (fun (a0 : Nat) (i1 : Int32) (i2 : Int32) (i3 : Int32) (i4 : Int32) (M : Mm) (cc zz : Nat) => QW p l e ({ frames := 9, cells := Cc, slots := Zz, locals := 159 } : Room) s m args below meth c (vx_MQ below (QiM D cA lo Q) (XcM D cA lo X) args s Cc Zz (fun q => lo ≤ q)) 13 D cA lo cc zz M 710 [(0, .ref a0), (1, .int i1), (2, .int i2), (3, .int i3), (4, .int i4)] []) (fun (a0 : Nat) (i2 : Int32) (i3 : Int32) (i4 : Int32) (i5 : Int32) (M : Mm) (cc zz : Nat) => QW p l e ({ frames := 9, cells := Cc, slots := Zz, locals := 159 } : Room) s m args below meth c (vx_MQ below (QiM D cA lo Q) (XcM D cA lo X) args s Cc Zz (fun q => lo ≤ q)) 13 D cA lo cc zz M 766 [(0, .ref a0), (2, .int i2), (3, .int i3), (4, .int i4), (5, .int i5)] []) (fun (a0 : Nat) (i1 : Int32) (i2 : Int32) (i3 : Int32) (i4 : Int32) (M : Mm) (cc zz : Nat) => QW p l e ({ frames := 9, cells := Cc, slots := Zz, locals := 159 } : Room) s m args below meth c (vx_MQ below (QiM D cA lo Q) (XcM D cA lo X) args s Cc Zz (fun q => lo ≤ q)) 13 D cA lo cc zz M 802 [(0, .ref a0), (1, .int i1), (2, .int i2), (3, .int i3), (4, .int i4)] []) (fun (a0 : Nat) (i2 : Int32) (i3 : Int32) (i4 : Int32) (i8 : Int32) (as0 : Nat) (is1 : Int32) (is2 : Int32) (is3 : Int32) (is4 : Int32) (M : Mm) (cc zz : Nat) => QW p l e ({ frames := 9, cells := Cc, slots := Zz, locals := 159 } : Room) s m args below meth c (vx_MQ below (QiM D cA lo Q) (XcM D cA lo X) args s Cc Zz (fun q => lo ≤ q)) 13 D cA lo cc zz M 238 [(0, .ref a0), (2, .int i2), (3, .int i3), (4, .int i4), (8, .int i8)] [.int is4, .int is3, .int is2, .int is1, .ref as0]) (fun (a0 : Nat) (i2 : Int32) (i3 : Int32) (i4 : Int32) (as0 : Nat) (M : Mm) (cc zz : Nat) => QW p l e ({ frames := 9, cells := Cc, slots := Zz, locals := 159 } : Room) s m args below meth c (vx_MQ below (QiM D cA lo Q) (XcM D cA lo X) args s Cc Zz (fun q => lo ≤ q)) 13 D cA lo cc zz M 834 [(0, .ref a0), (2, .int i2), (3, .int i3), (4, .int i4)] [.ref as0]) (fun (a0 : Nat) (i2 : Int32) (i3 : Int32) (i4 : Int32) (as0 : Nat) (M : Mm) (cc zz : Nat) => QW p l e ({ frames := 9, cells := Cc, slots := Zz, locals := 159 } : Room) s m args below meth c (vx_MQ below (QiM D cA lo Q) (XcM D cA lo X) args s Cc Zz (fun q => lo ≤ q)) 13 D cA lo cc zz M 867 [(0, .ref a0), (2, .int i2), (3, .int i3), (4, .int i4)] [.ref as0]) (fun (a0 : Nat) (i2 : Int32) (i3 : Int32) (i4 : Int32) (as0 : Nat) (M : Mm) (cc zz : Nat) => QW p l e ({ frames := 9, cells := Cc, slots := Zz, locals := 159 } : Room) s m args below meth c (vx_MQ below (QiM D cA lo Q) (XcM D cA lo X) args s Cc Zz (fun q => lo ≤ q)) 13 D cA lo cc zz M 900 [(0, .ref a0), (2, .int i2), (3, .int i3), (4, .int i4)] [.ref as0]) Cc Zz Q X M a0 i2 i3 i4 as0 cc zz) : QW p l e ({ frames := 9, cells := Cc, slots := Zz, locals := 159 } : Room) s m args below meth c (vx_MQ below (QiM D cA lo Q) (XcM D cA lo X) args s Cc Zz (fun q => lo ≤ q)) 13 D cA lo cc zz M 900 [(0, .ref a0), (2, .int i2), (3, .int i3), (4, .int i4)] [.ref as0] := by
  unfold S_L_act_900 at h
  refine q_astore (lv' := [(8, .ref as0), (0, .ref a0), (2, .int i2), (3, .int i3), (4, .int i4)]) C dL_act_900 (by decide) rfl ?_
  refine q_aload_n C dL_act_902 rfl (j := 1) rfl ?_
  have hcz := h.1
  have h := h.2
  refine q_ci (q_runV (As := []) (st := []) C (c_X8_points l D cA lo h.2) (cwV 0 C.2.2.2.2.1 gL_act_X8_points rfl rfl rfl (by decide +kernel) ⟨Nat.le_of_ble_eq_true rfl, Nat.le_of_ble_eq_true rfl⟩) h.1 (by decide) rfl rfl rfl (Nat.le_of_ble_eq_true rfl) dL_act_903 ⟨Nat.le_trans (Nat.le_of_eq (Nat.add_zero _)) hcz.1, Nat.le_trans (Nat.le_of_eq (Nat.add_zero _)) hcz.2⟩) (fun r_139 M_z h => ?_)
  refine q_mem h.1 ?_
  have h := h.2
  refine q_iload_n C dL_act_906 rfl (j := 2) rfl ?_
  refine q_icmp_ne (tgt := 931) C dL_act_907 (by decide) (fun z => ?_) (fun z => ?_)
  · have h := h.1 z
    refine q_iconst (v := 0) C dL_act_931 (by decide) ?_
    exact q_xret (q_zret C hr hlk dL_act_932 h.1 h.2.1 (Or.inl rfl) h.2.2)
  · have h := h.2 z
    refine q_aload_n C dL_act_910 rfl (j := 1) rfl ?_
    have hcz := h.1
    have h := h.2
    refine q_ci (q_runV (As := []) (st := []) C (c_X8_edges l D cA lo h.2) (cwV 0 C.2.2.2.2.1 gL_act_X8_edges rfl rfl rfl (by decide +kernel) ⟨Nat.le_of_ble_eq_true rfl, Nat.le_of_ble_eq_true rfl⟩) h.1 (by decide) rfl rfl rfl (Nat.le_of_ble_eq_true rfl) dL_act_911 ⟨Nat.le_trans (Nat.le_of_eq (Nat.add_zero _)) hcz.1, Nat.le_trans (Nat.le_of_eq (Nat.add_zero _)) hcz.2⟩) (fun r_140 M_z h => ?_)
    refine q_mem h.1 ?_
    have h := h.2
    refine q_iload_n C dL_act_914 rfl (j := 3) rfl ?_
    refine q_icmp_ne (tgt := 931) C dL_act_915 (by decide) (fun z => ?_) (fun z => ?_)
    · have h := h.1 z
      refine q_iconst (v := 0) C dL_act_931 (by decide) ?_
      exact q_xret (q_zret C hr hlk dL_act_932 h.1 h.2.1 (Or.inl rfl) h.2.2)
    · have h := h.2 z
      refine q_aload_n C dL_act_918 rfl (j := 1) rfl ?_
      have hcz := h.1
      have h := h.2
      refine q_ci (q_runV (As := []) (st := []) C (c_X8_faces l D cA lo h.2) (cwV 0 C.2.2.2.2.1 gL_act_X8_faces rfl rfl rfl (by decide +kernel) ⟨Nat.le_of_ble_eq_true rfl, Nat.le_of_ble_eq_true rfl⟩) h.1 (by decide) rfl rfl rfl (Nat.le_of_ble_eq_true rfl) dL_act_919 ⟨Nat.le_trans (Nat.le_of_eq (Nat.add_zero _)) hcz.1, Nat.le_trans (Nat.le_of_eq (Nat.add_zero _)) hcz.2⟩) (fun r_141 M_z h => ?_)
      refine q_mem h.1 ?_
      have h := h.2
      refine q_iload C dL_act_922 (j := 4) rfl ?_
      refine q_icmp_ne (tgt := 931) C dL_act_924 (by decide) (fun z => ?_) (fun z => ?_)
      · have h := h.1 z
        refine q_iconst (v := 0) C dL_act_931 (by decide) ?_
        exact q_xret (q_zret C hr hlk dL_act_932 h.1 h.2.1 (Or.inl rfl) h.2.2)
      · have h := h.2 z
        refine q_iconst (v := 1) C dL_act_927 (by decide) ?_
        refine q_goto (tgt := 932) C dL_act_928 (by decide) ?_
        exact q_xret (q_zret C hr hlk dL_act_932 h.1 h.2.1 (Or.inr rfl) h.2.2)
set_option maxRecDepth 100000 in
set_option maxHeartbeats 4000000 in
theorem c_L_act (l : Launch) (hl : l.stackTraces = false) (D : va_G) (cA : Nat → ClassId) (lo : Nat) {M : Mm} {a0 : Nat} {i1 : Int32} {Cc Zz : Nat} {Q : Int32 → Mm → Prop} {X : String → Mm → Prop} (h : T_L_act Cc Zz M a0 i1 Q X) : vx_Met l yL_act wsL_act ({ frames := 9, cells := Cc, slots := Zz, locals := 159 } : Room) (PcM D cA lo [.ref a0, .int i1] M) (QiM D cA lo Q) (XcM D cA lo X) Cc Zz (fun q => lo ≤ q) := by
  refine q_startH (hh := hhL_act) (cc := cL_act) (nL := 13) (ret := (some .boolean)) (by decide) rfl rfl (Nat.le_of_ble_eq_true rfl) ?_
  intro p e s m args below meth c C hr hlk htab
  unfold T_L_act at h
  have h := h (fun (a0 : Nat) (i1 : Int32) (i2 : Int32) (i3 : Int32) (i4 : Int32) (i5 : Int32) (i6 : Int32) (i7 : Int32) (M : Mm) (cc zz : Nat) => QW p l e ({ frames := 9, cells := Cc, slots := Zz, locals := 159 } : Room) s m args below meth c (vx_MQ below (QiM D cA lo Q) (XcM D cA lo X) args s Cc Zz (fun q => lo ≤ q)) 13 D cA lo cc zz M 114 [(0, .ref a0), (1, .int i1), (2, .int i2), (3, .int i3), (4, .int i4), (5, .int i5), (6, .int i6), (7, .int i7)] []) (fun (a0 : Nat) (i1 : Int32) (i2 : Int32) (i3 : Int32) (i4 : Int32) (i6 : Int32) (i7 : Int32) (as0 : Nat) (M : Mm) (cc zz : Nat) => QW p l e ({ frames := 9, cells := Cc, slots := Zz, locals := 159 } : Room) s m args below meth c (vx_MQ below (QiM D cA lo Q) (XcM D cA lo X) args s Cc Zz (fun q => lo ≤ q)) 13 D cA lo cc zz M 109 [(0, .ref a0), (1, .int i1), (2, .int i2), (3, .int i3), (4, .int i4), (6, .int i6), (7, .int i7)] [.ref as0]) (fun (a0 : Nat) (i1 : Int32) (i2 : Int32) (i3 : Int32) (i4 : Int32) (M : Mm) (cc zz : Nat) => QW p l e ({ frames := 9, cells := Cc, slots := Zz, locals := 159 } : Room) s m args below meth c (vx_MQ below (QiM D cA lo Q) (XcM D cA lo X) args s Cc Zz (fun q => lo ≤ q)) 13 D cA lo cc zz M 188 [(0, .ref a0), (1, .int i1), (2, .int i2), (3, .int i3), (4, .int i4)] []) (fun (a0 : Nat) (i1 : Int32) (i2 : Int32) (i3 : Int32) (i4 : Int32) (M : Mm) (cc zz : Nat) => QW p l e ({ frames := 9, cells := Cc, slots := Zz, locals := 159 } : Room) s m args below meth c (vx_MQ below (QiM D cA lo Q) (XcM D cA lo X) args s Cc Zz (fun q => lo ≤ q)) 13 D cA lo cc zz M 272 [(0, .ref a0), (1, .int i1), (2, .int i2), (3, .int i3), (4, .int i4)] []) (fun (a0 : Nat) (i2 : Int32) (i3 : Int32) (i4 : Int32) (i6 : Int32) (i7 : Int32) (M : Mm) (cc zz : Nat) => QW p l e ({ frames := 9, cells := Cc, slots := Zz, locals := 159 } : Room) s m args below meth c (vx_MQ below (QiM D cA lo Q) (XcM D cA lo X) args s Cc Zz (fun q => lo ≤ q)) 13 D cA lo cc zz M 350 [(0, .ref a0), (2, .int i2), (3, .int i3), (4, .int i4), (6, .int i6), (7, .int i7)] []) (fun (a0 : Nat) (i1 : Int32) (i2 : Int32) (i3 : Int32) (i4 : Int32) (i5 : Int32) (i6 : Int32) (M : Mm) (cc zz : Nat) => QW p l e ({ frames := 9, cells := Cc, slots := Zz, locals := 159 } : Room) s m args below meth c (vx_MQ below (QiM D cA lo Q) (XcM D cA lo X) args s Cc Zz (fun q => lo ≤ q)) 13 D cA lo cc zz M 409 [(0, .ref a0), (1, .int i1), (2, .int i2), (3, .int i3), (4, .int i4), (5, .int i5), (6, .int i6)] []) (fun (a0 : Nat) (i2 : Int32) (i3 : Int32) (i4 : Int32) (i6 : Int32) (i7 : Int32) (M : Mm) (cc zz : Nat) => QW p l e ({ frames := 9, cells := Cc, slots := Zz, locals := 159 } : Room) s m args below meth c (vx_MQ below (QiM D cA lo Q) (XcM D cA lo X) args s Cc Zz (fun q => lo ≤ q)) 13 D cA lo cc zz M 475 [(0, .ref a0), (2, .int i2), (3, .int i3), (4, .int i4), (6, .int i6), (7, .int i7)] []) (fun (a0 : Nat) (i2 : Int32) (i3 : Int32) (i4 : Int32) (i6 : Int32) (i7 : Int32) (M : Mm) (cc zz : Nat) => QW p l e ({ frames := 9, cells := Cc, slots := Zz, locals := 159 } : Room) s m args below meth c (vx_MQ below (QiM D cA lo Q) (XcM D cA lo X) args s Cc Zz (fun q => lo ≤ q)) 13 D cA lo cc zz M 518 [(0, .ref a0), (2, .int i2), (3, .int i3), (4, .int i4), (6, .int i6), (7, .int i7)] []) (fun (a0 : Nat) (i2 : Int32) (i3 : Int32) (i4 : Int32) (i6 : Int32) (i7 : Int32) (M : Mm) (cc zz : Nat) => QW p l e ({ frames := 9, cells := Cc, slots := Zz, locals := 159 } : Room) s m args below meth c (vx_MQ below (QiM D cA lo Q) (XcM D cA lo X) args s Cc Zz (fun q => lo ≤ q)) 13 D cA lo cc zz M 552 [(0, .ref a0), (2, .int i2), (3, .int i3), (4, .int i4), (6, .int i6), (7, .int i7)] []) (fun (a0 : Nat) (i1 : Int32) (i2 : Int32) (i3 : Int32) (i4 : Int32) (i5 : Int32) (M : Mm) (cc zz : Nat) => QW p l e ({ frames := 9, cells := Cc, slots := Zz, locals := 159 } : Room) s m args below meth c (vx_MQ below (QiM D cA lo Q) (XcM D cA lo X) args s Cc Zz (fun q => lo ≤ q)) 13 D cA lo cc zz M 586 [(0, .ref a0), (1, .int i1), (2, .int i2), (3, .int i3), (4, .int i4), (5, .int i5)] []) (fun (a0 : Nat) (i2 : Int32) (i3 : Int32) (i4 : Int32) (i6 : Int32) (i7 : Int32) (M : Mm) (cc zz : Nat) => QW p l e ({ frames := 9, cells := Cc, slots := Zz, locals := 159 } : Room) s m args below meth c (vx_MQ below (QiM D cA lo Q) (XcM D cA lo X) args s Cc Zz (fun q => lo ≤ q)) 13 D cA lo cc zz M 660 [(0, .ref a0), (2, .int i2), (3, .int i3), (4, .int i4), (6, .int i6), (7, .int i7)] []) (fun (a0 : Nat) (i1 : Int32) (i2 : Int32) (i3 : Int32) (i4 : Int32) (M : Mm) (cc zz : Nat) => QW p l e ({ frames := 9, cells := Cc, slots := Zz, locals := 159 } : Room) s m args below meth c (vx_MQ below (QiM D cA lo Q) (XcM D cA lo X) args s Cc Zz (fun q => lo ≤ q)) 13 D cA lo cc zz M 710 [(0, .ref a0), (1, .int i1), (2, .int i2), (3, .int i3), (4, .int i4)] []) (fun (a0 : Nat) (i2 : Int32) (i3 : Int32) (i4 : Int32) (i5 : Int32) (M : Mm) (cc zz : Nat) => QW p l e ({ frames := 9, cells := Cc, slots := Zz, locals := 159 } : Room) s m args below meth c (vx_MQ below (QiM D cA lo Q) (XcM D cA lo X) args s Cc Zz (fun q => lo ≤ q)) 13 D cA lo cc zz M 766 [(0, .ref a0), (2, .int i2), (3, .int i3), (4, .int i4), (5, .int i5)] []) (fun (a0 : Nat) (i1 : Int32) (i2 : Int32) (i3 : Int32) (i4 : Int32) (M : Mm) (cc zz : Nat) => QW p l e ({ frames := 9, cells := Cc, slots := Zz, locals := 159 } : Room) s m args below meth c (vx_MQ below (QiM D cA lo Q) (XcM D cA lo X) args s Cc Zz (fun q => lo ≤ q)) 13 D cA lo cc zz M 802 [(0, .ref a0), (1, .int i1), (2, .int i2), (3, .int i3), (4, .int i4)] []) (fun (a0 : Nat) (i2 : Int32) (i3 : Int32) (i4 : Int32) (i8 : Int32) (as0 : Nat) (is1 : Int32) (is2 : Int32) (is3 : Int32) (is4 : Int32) (M : Mm) (cc zz : Nat) => QW p l e ({ frames := 9, cells := Cc, slots := Zz, locals := 159 } : Room) s m args below meth c (vx_MQ below (QiM D cA lo Q) (XcM D cA lo X) args s Cc Zz (fun q => lo ≤ q)) 13 D cA lo cc zz M 238 [(0, .ref a0), (2, .int i2), (3, .int i3), (4, .int i4), (8, .int i8)] [.int is4, .int is3, .int is2, .int is1, .ref as0]) (fun (a0 : Nat) (i2 : Int32) (i3 : Int32) (i4 : Int32) (as0 : Nat) (M : Mm) (cc zz : Nat) => QW p l e ({ frames := 9, cells := Cc, slots := Zz, locals := 159 } : Room) s m args below meth c (vx_MQ below (QiM D cA lo Q) (XcM D cA lo X) args s Cc Zz (fun q => lo ≤ q)) 13 D cA lo cc zz M 834 [(0, .ref a0), (2, .int i2), (3, .int i3), (4, .int i4)] [.ref as0]) (fun (a0 : Nat) (i2 : Int32) (i3 : Int32) (i4 : Int32) (as0 : Nat) (M : Mm) (cc zz : Nat) => QW p l e ({ frames := 9, cells := Cc, slots := Zz, locals := 159 } : Room) s m args below meth c (vx_MQ below (QiM D cA lo Q) (XcM D cA lo X) args s Cc Zz (fun q => lo ≤ q)) 13 D cA lo cc zz M 867 [(0, .ref a0), (2, .int i2), (3, .int i3), (4, .int i4)] [.ref as0]) (fun (a0 : Nat) (i2 : Int32) (i3 : Int32) (i4 : Int32) (as0 : Nat) (M : Mm) (cc zz : Nat) => QW p l e ({ frames := 9, cells := Cc, slots := Zz, locals := 159 } : Room) s m args below meth c (vx_MQ below (QiM D cA lo Q) (XcM D cA lo X) args s Cc Zz (fun q => lo ≤ q)) 13 D cA lo cc zz M 900 [(0, .ref a0), (2, .int i2), (3, .int i3), (4, .int i4)] [.ref as0]) (fun a0 i1 i2 i3 i4 i5 i6 i7 M cc zz h => b_L_act_114 C hr hlk hl htab M a0 i1 i2 i3 i4 i5 i6 i7 cc zz h) (fun a0 i1 i2 i3 i4 i6 i7 as0 M cc zz h => b_L_act_109 C hr hlk hl htab M a0 i1 i2 i3 i4 i6 i7 as0 cc zz h) (fun a0 i1 i2 i3 i4 M cc zz h => b_L_act_188 C hr hlk hl htab M a0 i1 i2 i3 i4 cc zz h) (fun a0 i1 i2 i3 i4 M cc zz h => b_L_act_272 C hr hlk hl htab M a0 i1 i2 i3 i4 cc zz h) (fun a0 i2 i3 i4 i6 i7 M cc zz h => b_L_act_350 C hr hlk hl htab M a0 i2 i3 i4 i6 i7 cc zz h) (fun a0 i1 i2 i3 i4 i5 i6 M cc zz h => b_L_act_409 C hr hlk hl htab M a0 i1 i2 i3 i4 i5 i6 cc zz h) (fun a0 i2 i3 i4 i6 i7 M cc zz h => b_L_act_475 C hr hlk hl htab M a0 i2 i3 i4 i6 i7 cc zz h) (fun a0 i2 i3 i4 i6 i7 M cc zz h => b_L_act_518 C hr hlk hl htab M a0 i2 i3 i4 i6 i7 cc zz h) (fun a0 i2 i3 i4 i6 i7 M cc zz h => b_L_act_552 C hr hlk hl htab M a0 i2 i3 i4 i6 i7 cc zz h) (fun a0 i1 i2 i3 i4 i5 M cc zz h => b_L_act_586 C hr hlk hl htab M a0 i1 i2 i3 i4 i5 cc zz h) (fun a0 i2 i3 i4 i6 i7 M cc zz h => b_L_act_660 C hr hlk hl htab M a0 i2 i3 i4 i6 i7 cc zz h) (fun a0 i1 i2 i3 i4 M cc zz h => b_L_act_710 C hr hlk hl htab M a0 i1 i2 i3 i4 cc zz h) (fun a0 i2 i3 i4 i5 M cc zz h => b_L_act_766 C hr hlk hl htab M a0 i2 i3 i4 i5 cc zz h) (fun a0 i1 i2 i3 i4 M cc zz h => b_L_act_802 C hr hlk hl htab M a0 i1 i2 i3 i4 cc zz h) (fun a0 i2 i3 i4 i8 as0 is1 is2 is3 is4 M cc zz h => b_L_act_238 C hr hlk hl htab M a0 i2 i3 i4 i8 as0 is1 is2 is3 is4 cc zz h) (fun a0 i2 i3 i4 as0 M cc zz h => b_L_act_834 C hr hlk hl htab M a0 i2 i3 i4 as0 cc zz h) (fun a0 i2 i3 i4 as0 M cc zz h => b_L_act_867 C hr hlk hl htab M a0 i2 i3 i4 as0 cc zz h) (fun a0 i2 i3 i4 as0 M cc zz h => b_L_act_900 C hr hlk hl htab M a0 i2 i3 i4 as0 cc zz h)
  refine q_aload_n C dL_act_0 rfl (j := 0) rfl ?_
  have hcz := h.1
  have h := h.2
  refine q_ci (q_runV (As := []) (st := []) C (c_X8_points l D cA lo h.2) (cwV 0 C.2.2.2.2.1 gL_act_X8_points rfl rfl rfl (by decide +kernel) ⟨Nat.le_of_ble_eq_true rfl, Nat.le_of_ble_eq_true rfl⟩) h.1 (by decide) rfl rfl rfl (Nat.le_of_ble_eq_true rfl) dL_act_1 ⟨Nat.le_trans (Nat.le_of_eq (Nat.add_zero _)) hcz.1, Nat.le_trans (Nat.le_of_eq (Nat.add_zero _)) hcz.2⟩) (fun r_1 M_z h => ?_)
  refine q_mem h.1 ?_
  have h := h.2
  refine q_istore_n (lv' := [(2, .int r_1), (0, .ref a0), (1, .int i1)]) C dL_act_4 rfl (by decide) rfl ?_
  refine q_aload_n C dL_act_5 rfl (j := 1) rfl ?_
  have hcz := h.1
  have h := h.2
  refine q_ci (q_runV (As := []) (st := []) C (c_X8_edges l D cA lo h.2) (cwV 0 C.2.2.2.2.1 gL_act_X8_edges rfl rfl rfl (by decide +kernel) ⟨Nat.le_of_ble_eq_true rfl, Nat.le_of_ble_eq_true rfl⟩) h.1 (by decide) rfl rfl rfl (Nat.le_of_ble_eq_true rfl) dL_act_6 ⟨Nat.le_trans (Nat.le_of_eq (Nat.add_zero _)) hcz.1, Nat.le_trans (Nat.le_of_eq (Nat.add_zero _)) hcz.2⟩) (fun r_2 M_z h => ?_)
  refine q_mem h.1 ?_
  have h := h.2
  refine q_istore_n (lv' := [(3, .int r_2), (2, .int r_1), (0, .ref a0), (1, .int i1)]) C dL_act_9 rfl (by decide) rfl ?_
  refine q_aload_n C dL_act_10 rfl (j := 2) rfl ?_
  have hcz := h.1
  have h := h.2
  refine q_ci (q_runV (As := []) (st := []) C (c_X8_faces l D cA lo h.2) (cwV 0 C.2.2.2.2.1 gL_act_X8_faces rfl rfl rfl (by decide +kernel) ⟨Nat.le_of_ble_eq_true rfl, Nat.le_of_ble_eq_true rfl⟩) h.1 (by decide) rfl rfl rfl (Nat.le_of_ble_eq_true rfl) dL_act_11 ⟨Nat.le_trans (Nat.le_of_eq (Nat.add_zero _)) hcz.1, Nat.le_trans (Nat.le_of_eq (Nat.add_zero _)) hcz.2⟩) (fun r_3 M_z h => ?_)
  refine q_mem h.1 ?_
  have h := h.2
  refine q_istore (lv' := [(4, .int r_3), (3, .int r_2), (2, .int r_1), (0, .ref a0), (1, .int i1)]) C dL_act_14 (by decide) rfl ?_
  refine q_iload_n C dL_act_16 rfl (j := 4) rfl ?_
  refine q_iconst (v := 4) C dL_act_17 (by decide) ?_
  refine q_ishr C dL_act_18 ?_
  refine q_bipush (v := 30) C dL_act_19 (by decide) ?_
  have hcz := h.1
  have h := h.2
  refine q_ci (q_runS (As := [.int (i1 >>> (4 &&& 31)), .int 30]) (st := []) C (c_L_below l D cA lo h) (va_cwS 2 C.2.2.2.2.1 gL_act_L_below rfl rfl rfl (by decide +kernel) ⟨Nat.le_of_ble_eq_true rfl, Nat.le_of_ble_eq_true rfl⟩) rfl rfl (Nat.le_of_ble_eq_true rfl) dL_act_21 ⟨Nat.le_trans (Nat.le_of_eq (Nat.add_zero _)) hcz.1, Nat.le_trans (Nat.le_of_eq (Nat.add_zero _)) hcz.2⟩) (fun r_4 M_z h => ?_)
  refine q_mem h.1 ?_
  have h := h.2
  refine q_istore (lv' := [(5, .int r_4), (4, .int r_3), (3, .int r_2), (2, .int r_1), (0, .ref a0), (1, .int i1)]) C dL_act_24 (by decide) rfl ?_
  refine q_iload_n C dL_act_26 rfl (j := 5) rfl ?_
  refine q_iconst (v := 5) C dL_act_27 (by decide) ?_
  refine q_ishr C dL_act_28 ?_
  refine q_bipush (v := 24) C dL_act_29 (by decide) ?_
  have hcz := h.1
  have h := h.2
  refine q_ci (q_runS (As := [.int (i1 >>> (5 &&& 31)), .int 24]) (st := []) C (c_L_below l D cA lo h) (va_cwS 2 C.2.2.2.2.1 gL_act_L_below rfl rfl rfl (by decide +kernel) ⟨Nat.le_of_ble_eq_true rfl, Nat.le_of_ble_eq_true rfl⟩) rfl rfl (Nat.le_of_ble_eq_true rfl) dL_act_31 ⟨Nat.le_trans (Nat.le_of_eq (Nat.add_zero _)) hcz.1, Nat.le_trans (Nat.le_of_eq (Nat.add_zero _)) hcz.2⟩) (fun r_5 M_z h => ?_)
  refine q_mem h.1 ?_
  have h := h.2
  refine q_istore (lv' := [(6, .int r_5), (5, .int r_4), (4, .int r_3), (3, .int r_2), (2, .int r_1), (0, .ref a0), (1, .int i1)]) C dL_act_34 (by decide) rfl ?_
  refine q_iload_n C dL_act_36 rfl (j := 6) rfl ?_
  refine q_bipush (v := 7) C dL_act_37 (by decide) ?_
  refine q_ishr C dL_act_39 ?_
  refine q_bipush (v := 24) C dL_act_40 (by decide) ?_
  have hcz := h.1
  have h := h.2
  refine q_ci (q_runS (As := [.int (i1 >>> (7 &&& 31)), .int 24]) (st := []) C (c_L_below l D cA lo h) (va_cwS 2 C.2.2.2.2.1 gL_act_L_below rfl rfl rfl (by decide +kernel) ⟨Nat.le_of_ble_eq_true rfl, Nat.le_of_ble_eq_true rfl⟩) rfl rfl (Nat.le_of_ble_eq_true rfl) dL_act_42 ⟨Nat.le_trans (Nat.le_of_eq (Nat.add_zero _)) hcz.1, Nat.le_trans (Nat.le_of_eq (Nat.add_zero _)) hcz.2⟩) (fun r_6 M_z h => ?_)
  refine q_mem h.1 ?_
  have h := h.2
  refine q_istore (lv' := [(7, .int r_6), (6, .int r_5), (5, .int r_4), (4, .int r_3), (3, .int r_2), (2, .int r_1), (0, .ref a0), (1, .int i1)]) C dL_act_45 (by decide) rfl ?_
  refine q_iload_n C dL_act_47 rfl (j := 7) rfl ?_
  refine q_iconst (v := 3) C dL_act_48 (by decide) ?_
  refine q_ishr C dL_act_49 ?_
  refine q_iconst (v := 5) C dL_act_50 (by decide) ?_
  have hcz := h.1
  have h := h.2
  refine q_ci (q_runS (As := [.int (i1 >>> (3 &&& 31)), .int 5]) (st := []) C (c_L_below l D cA lo h) (va_cwS 2 C.2.2.2.2.1 gL_act_L_below rfl rfl rfl (by decide +kernel) ⟨Nat.le_of_ble_eq_true rfl, Nat.le_of_ble_eq_true rfl⟩) rfl rfl (Nat.le_of_ble_eq_true rfl) dL_act_51 ⟨Nat.le_trans (Nat.le_of_eq (Nat.add_zero _)) hcz.1, Nat.le_trans (Nat.le_of_eq (Nat.add_zero _)) hcz.2⟩) (fun r_7 M_z h => ?_)
  refine q_mem h.1 ?_
  have h := h.2
  refine q_if_le (tgt := 106) C dL_act_54 (by decide) (fun z => ?_) (fun z => ?_)
  · have h := h.1 z
    refine q_goto (tgt := 114) C dL_act_106 (by decide) ?_
    exact q_sub [6, 7, 5, 4, 3, 2, 1, 0] rfl h
  · have h := h.2 z
    refine q_iload C dL_act_57 (j := 2) rfl ?_
    refine q_if_lt (tgt := 106) C dL_act_59 (by decide) (fun z => ?_) (fun z => ?_)
    · have h := h.1 z
      refine q_goto (tgt := 114) C dL_act_106 (by decide) ?_
      exact q_sub [6, 7, 5, 4, 3, 2, 1, 0] rfl h
    · have h := h.2 z
      refine q_iload_n C dL_act_62 rfl (j := 7) rfl ?_
      refine q_bipush (v := 6) C dL_act_63 (by decide) ?_
      refine q_ishr C dL_act_65 ?_
      refine q_aload_n C dL_act_66 rfl (j := 6) rfl ?_
      refine q_iload C dL_act_67 (j := 2) rfl ?_
      obtain ⟨dc_10, ds_10, hcz, h⟩ := h
      refine q_xi (qx_runV (As := [.int r_4]) (st := [.int (i1 >>> (6 &&& 31))]) C (c_X8_size l hl D cA lo h.2) (cwV 1 C.2.2.2.2.1 gL_act_X8_size rfl rfl rfl (by decide +kernel) ⟨Nat.le_of_ble_eq_true rfl, Nat.le_of_ble_eq_true rfl⟩) h.1 (by decide) rfl rfl rfl (Nat.le_of_ble_eq_true rfl) dL_act_69 hcz) (fun E M_x h => ?_) (fun r_8 M_9 h => ?_)
      · obtain ⟨rfl, h⟩ := h
        have h := h
        refine q_catch (name := "") C htab (List.take 0 hhL_act) (47, 106, 109, 58) (List.drop 1 hhL_act) (by decide) (by decide) (by decide +kernel) (by decide) (by decide) (by decide +kernel) (fun qx => ?_)
        have h := h qx
        exact q_sub [6, 7, 5, 4, 3, 1, 0] rfl h
      · have hcz := h.1
        have h := h.2
        refine q_ci (q_runS (As := [.int (i1 >>> (6 &&& 31)), .int r_8]) (st := []) C (c_L_below l D cA lo h) (va_cwS 2 C.2.2.2.2.1 gL_act_L_below rfl rfl rfl (by decide +kernel) ⟨Nat.le_of_ble_eq_true rfl, Nat.le_of_ble_eq_true rfl⟩) rfl rfl (Nat.le_of_ble_eq_true rfl) dL_act_72 ⟨Nat.le_trans (Nat.le_of_eq (Nat.add_zero _)) hcz.1, Nat.le_trans (Nat.le_of_eq (Nat.add_zero _)) hcz.2⟩) (fun r_11 M_z h => ?_)
        refine q_mem h.1 ?_
        have h := h.2
        refine q_istore (lv' := [(8, .int r_11), (7, .int r_6), (6, .int r_5), (5, .int r_4), (4, .int r_3), (3, .int r_2), (2, .int r_1), (0, .ref a0), (1, .int i1)]) C dL_act_75 (by decide) rfl ?_
        refine q_aload_n C dL_act_77 rfl (j := 7) rfl ?_
        refine q_iload C dL_act_78 (j := 3) rfl ?_
        refine q_iload C dL_act_80 (j := 0) rfl ?_
        obtain ⟨dc_14, ds_14, hcz, h⟩ := h
        refine q_xi (qx_runV (As := [.int r_4, .int r_11]) (st := []) C (c_X8_corner l hl D cA lo h.2) (cwV 2 C.2.2.2.2.1 gL_act_X8_corner rfl rfl rfl (by decide +kernel) ⟨Nat.le_of_ble_eq_true rfl, Nat.le_of_ble_eq_true rfl⟩) h.1 (by decide) rfl rfl rfl (Nat.le_of_ble_eq_true rfl) dL_act_82 hcz) (fun E M_x h => ?_) (fun r_12 M_13 h => ?_)
        · obtain ⟨rfl, h⟩ := h
          have h := h
          refine q_catch (name := "") C htab (List.take 0 hhL_act) (47, 106, 109, 58) (List.drop 1 hhL_act) (by decide) (by decide) (by decide +kernel) (by decide) (by decide) (by decide +kernel) (fun qx => ?_)
          have h := h qx
          exact q_sub [7, 8, 6, 5, 4, 2, 1] rfl h
        · refine q_istore (lv' := [(6, .int r_12), (8, .int r_11), (7, .int r_6), (5, .int r_4), (4, .int r_3), (3, .int r_2), (2, .int r_1), (0, .ref a0), (1, .int i1)]) C dL_act_85 (by decide) rfl ?_
          refine q_aload_n C dL_act_87 rfl (j := 7) rfl ?_
          refine q_iload C dL_act_88 (j := 3) rfl ?_
          refine q_iload C dL_act_90 (j := 1) rfl ?_
          refine q_iconst (v := 1) C dL_act_92 (by decide) ?_
          refine q_iadd C dL_act_93 ?_
          refine q_aload_n C dL_act_94 rfl (j := 7) rfl ?_
          refine q_iload C dL_act_95 (j := 3) rfl ?_
          obtain ⟨dc_17, ds_17, hcz, h⟩ := h
          refine q_xi (qx_runV (As := [.int r_4]) (st := [.int (r_11 + 1), .int r_4, .ref a0]) C (c_X8_size l hl D cA lo h.2) (cwV 1 C.2.2.2.2.1 gL_act_X8_size rfl rfl rfl (by decide +kernel) ⟨Nat.le_of_ble_eq_true rfl, Nat.le_of_ble_eq_true rfl⟩) h.1 (by decide) rfl rfl rfl (Nat.le_of_ble_eq_true rfl) dL_act_97 hcz) (fun E M_x h => ?_) (fun r_15 M_16 h => ?_)
          · obtain ⟨rfl, h⟩ := h
            have h := h
            refine q_catch (name := "") C htab (List.take 0 hhL_act) (47, 106, 109, 58) (List.drop 1 hhL_act) (by decide) (by decide) (by decide +kernel) (by decide) (by decide) (by decide +kernel) (fun qx => ?_)
            have h := h qx
            exact q_sub [7, 8, 6, 5, 4, 0, 2] rfl h
          · refine q_irem C dL_act_100 h.1 ?_
            have h := h.2
            obtain ⟨dc_20, ds_20, hcz, h⟩ := h
            refine q_xi (qx_runV (As := [.int r_4, .int ((r_11 + 1) - (r_11 + 1) / r_15 * r_15)]) (st := []) C (c_X8_corner l hl D cA lo h.2) (cwV 2 C.2.2.2.2.1 gL_act_X8_corner rfl rfl rfl (by decide +kernel) ⟨Nat.le_of_ble_eq_true rfl, Nat.le_of_ble_eq_true rfl⟩) h.1 (by decide) rfl rfl rfl (Nat.le_of_ble_eq_true rfl) dL_act_101 hcz) (fun E M_x h => ?_) (fun r_18 M_19 h => ?_)
            · obtain ⟨rfl, h⟩ := h
              have h := h
              refine q_catch (name := "") C htab (List.take 0 hhL_act) (47, 106, 109, 58) (List.drop 1 hhL_act) (by decide) (by decide) (by decide +kernel) (by decide) (by decide) (by decide +kernel) (fun qx => ?_)
              have h := h qx
              exact q_sub [7, 8, 6, 5, 4, 0, 2] rfl h
            · refine q_istore (lv' := [(7, .int r_18), (6, .int r_12), (8, .int r_11), (5, .int r_4), (4, .int r_3), (3, .int r_2), (2, .int r_1), (0, .ref a0), (1, .int i1)]) C dL_act_104 (by decide) rfl ?_
              refine q_goto (tgt := 114) C dL_act_106 (by decide) ?_
              exact q_sub [7, 8, 6, 5, 4, 3, 1, 0] rfl h
