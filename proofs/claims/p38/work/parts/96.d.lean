set_option maxRecDepth 100000 in
set_option maxHeartbeats 8000000 in
theorem b_L_law_10 {p : Program} {l : Launch} {e : Env} {s : State} {m : MethodId} {below : List Frame} {meth : Method} {c : Code} {D : va_G} {cA : Nat → ClassId} {lo scr L : Nat} {xs : Nat → Int32} (C : Cx p s m #[Value.ref scr] c cL_law 5 RL wsL_law D cA lo) (hl : l.stackTraces = false) (hX : va_X scr L xs s s.heap ∧ L < 2 ^ 31) (hbl : scr < s.heap.size ∧ lo = s.heap.size) (hr : meth.sig.returnType = ret) (hlk : meth.locks = false) (M : Mm) (a1 : Nat) (i2 : Int32) (cc zz : Nat) (h : S_L_law_10 (fun (a1 : Nat) (i2 : Int32) (M : Mm) (cc zz : Nat) => QW p l e room_1 s m #[Value.ref scr] below meth c (lw_Z below #[Value.ref scr] s) 5 D cA lo cc zz M 10 [(0, .ref scr), (1, .ref a1), (2, .int i2)] []) (fun (a1 : Nat) (i2 : Int32) (M : Mm) (cc zz : Nat) => QW p l e room_1 s m #[Value.ref scr] below meth c (lw_Z below #[Value.ref scr] s) 5 D cA lo cc zz M 53 [(0, .ref scr), (1, .ref a1), (2, .int i2)] []) 600104 7301314 L xs M a1 i2 cc zz) : QW p l e room_1 s m #[Value.ref scr] below meth c (lw_Z below #[Value.ref scr] s) 5 D cA lo cc zz M 10 [(0, .ref scr), (1, .ref a1), (2, .int i2)] [] := by
  unfold S_L_law_10 at h
  refine q_iload_n C dL_law_10 rfl (j := 2) rfl ?_
  refine q_bipush (v := 9) C dL_law_11 (by decide) ?_
  refine q_icmp_ge (tgt := 51) C dL_law_13 (by decide) (fun z => ?_) (fun z => ?_)
  · have h := h.1 z
    refine q_iconst (v := 0) C dL_law_51 (by decide) ?_
    refine q_istore_n (lv' := [(2, .int 0), (0, .ref scr), (1, .ref a1)]) C dL_law_52 rfl (by decide) rfl ?_
    exact q_sub [1, 2, 0] rfl h
  · have h := h.2 z
    refine q_aload_n C dL_law_16 rfl (j := 1) rfl ?_
    refine q_bipush (v := 20) C dL_law_17 (by decide) ?_
    refine q_iload_n C dL_law_19 rfl (j := 2) rfl ?_
    refine q_iconst (v := 3) C dL_law_20 (by decide) ?_
    refine q_irem C dL_law_21 (by decide) ?_
    refine q_imul C dL_law_22 ?_
    refine q_bipush (v := 20) C dL_law_23 (by decide) ?_
    refine q_iload_n C dL_law_25 rfl (j := 2) rfl ?_
    refine q_iconst (v := 3) C dL_law_26 (by decide) ?_
    refine q_idiv C dL_law_27 (by decide) ?_
    refine q_imul C dL_law_28 ?_
    refine q_aload_n C dL_law_29 rfl (j := 0) rfl ?_
    refine q_iconst (v := 0) C dL_law_30 (by decide) ?_
    refine q_cell hX hbl C h.1 dL_law_31 ?_ (hf := by first | exact h.2.1 | exact h.2.elim (fun dc w => w.elim (fun ds w => ⟨Nat.le_trans (Nat.le_add_right _ _) w.1.1, Nat.le_trans (Nat.le_add_right _ _) w.1.2⟩)))
    have h := h.2
    refine q_iload_n C dL_law_34 rfl (j := 2) rfl ?_
    refine q_ishr C dL_law_35 ?_
    refine q_bipush (v := 9) C dL_law_36 (by decide) ?_
    have hcz := h.1
    have h := h.2
    refine q_ci (q_runS (As := [.int ((celV xs L 0) >>> (i2 &&& 31)), .int 9]) (st := [.int (20 * (i2 / 3)), .int (20 * (i2 - i2 / 3 * 3)), .ref a1]) C (c_L_below l D cA lo h) (va_cwS 2 C.2.2.2.2.1 gL_law_L_below rfl rfl rfl (by decide +kernel) ⟨Nat.le_of_ble_eq_true rfl, Nat.le_of_ble_eq_true rfl⟩) rfl rfl (Nat.le_of_ble_eq_true rfl) dL_law_38 ⟨Nat.le_trans (Nat.le_of_eq (Nat.add_zero _)) hcz.1, Nat.le_trans (Nat.le_of_eq (Nat.add_zero _)) hcz.2⟩) (fun r_5 M_z h => ?_)
    refine q_mem h.1 ?_
    have h := h.2
    obtain ⟨dc_8, ds_8, hcz, h⟩ := h
    refine q_xi (qx_runV (As := [.int (20 * (i2 - i2 / 3 * 3)), .int (20 * (i2 / 3)), .int r_5]) (st := []) C (c_X8_point l hl D cA lo h.2) (cwV 3 C.2.2.2.2.1 gL_law_X8_point rfl rfl rfl (by decide +kernel) ⟨Nat.le_of_ble_eq_true rfl, Nat.le_of_ble_eq_true rfl⟩) h.1 (by decide) rfl rfl rfl (Nat.le_of_ble_eq_true rfl) dL_law_41 hcz) (fun E M_x h => ?_) (fun r_6 M_7 h => ?_)
    · exact h.elim
    · refine q_pop C dL_law_44 rfl ?_
      refine q_iinc (v := (i2 + 1)) (lv' := [(2, .int (i2 + 1)), (0, .ref scr), (1, .ref a1)]) C dL_law_45 (j := 2) rfl rfl (by decide) rfl ?_
      refine q_goto (tgt := 10) C dL_law_48 (by decide) ?_
      exact q_sub [1, 2, 0] rfl h
set_option maxRecDepth 100000 in
set_option maxHeartbeats 8000000 in
theorem b_L_law_53 {p : Program} {l : Launch} {e : Env} {s : State} {m : MethodId} {below : List Frame} {meth : Method} {c : Code} {D : va_G} {cA : Nat → ClassId} {lo scr L : Nat} {xs : Nat → Int32} (C : Cx p s m #[Value.ref scr] c cL_law 5 RL wsL_law D cA lo) (hl : l.stackTraces = false) (hX : va_X scr L xs s s.heap ∧ L < 2 ^ 31) (hbl : scr < s.heap.size ∧ lo = s.heap.size) (hr : meth.sig.returnType = ret) (hlk : meth.locks = false) (M : Mm) (a1 : Nat) (i2 : Int32) (cc zz : Nat) (h : S_L_law_53 (fun (a1 : Nat) (i2 : Int32) (M : Mm) (cc zz : Nat) => QW p l e room_1 s m #[Value.ref scr] below meth c (lw_Z below #[Value.ref scr] s) 5 D cA lo cc zz M 10 [(0, .ref scr), (1, .ref a1), (2, .int i2)] []) (fun (a1 : Nat) (i2 : Int32) (M : Mm) (cc zz : Nat) => QW p l e room_1 s m #[Value.ref scr] below meth c (lw_Z below #[Value.ref scr] s) 5 D cA lo cc zz M 53 [(0, .ref scr), (1, .ref a1), (2, .int i2)] []) 600104 7301314 L xs M a1 i2 cc zz) : QW p l e room_1 s m #[Value.ref scr] below meth c (lw_Z below #[Value.ref scr] s) 5 D cA lo cc zz M 53 [(0, .ref scr), (1, .ref a1), (2, .int i2)] [] := by
  unfold S_L_law_53 at h
  refine q_iload_n C dL_law_53 rfl (j := 2) rfl ?_
  refine q_bipush (v := 40) C dL_law_54 (by decide) ?_
  refine q_icmp_ge (tgt := 142) C dL_law_56 (by decide) (fun z => ?_) (fun z => ?_)
  · have h := h.1 z
    refine q_iconst (v := 1) C dL_law_142 (by decide) ?_
    exact q_lawret hbl C hr hlk dL_law_143 h.1 h.2
  · have h := h.2 z
    refine q_aload_n C dL_law_59 rfl (j := 1) rfl ?_
    refine q_aload_n C dL_law_60 rfl (j := 0) rfl ?_
    refine q_iconst (v := 1) C dL_law_61 (by decide) ?_
    refine q_iload_n C dL_law_62 rfl (j := 2) rfl ?_
    refine q_bipush (v := 28) C dL_law_63 (by decide) ?_
    refine q_irem C dL_law_65 (by decide) ?_
    refine q_iadd C dL_law_66 ?_
    refine q_cell hX hbl C h.1 dL_law_67 ?_ (hf := by first | exact h.2.1 | exact h.2.elim (fun dc w => w.elim (fun ds w => ⟨Nat.le_trans (Nat.le_add_right _ _) w.1.1, Nat.le_trans (Nat.le_add_right _ _) w.1.2⟩)))
    have h := h.2
    refine q_iload_n C dL_law_70 rfl (j := 2) rfl ?_
    refine q_bipush (v := 28) C dL_law_71 (by decide) ?_
    refine q_idiv C dL_law_73 (by decide) ?_
    refine q_bipush (v := 9) C dL_law_74 (by decide) ?_
    refine q_imul C dL_law_76 ?_
    refine q_ishr C dL_law_77 ?_
    obtain ⟨dc_11, ds_11, hcz, h⟩ := h
    refine q_xw (q_runSW (As := [.ref a1, .int ((celV xs L (1 + (i2 - i2 / 28 * 28))) >>> (((i2 / 28) * 9) &&& 31))]) (st := []) C (c_L_act l hl D cA lo h) (vx_cwSW 2 C.2.2.2.2.1 gL_law_L_act rfl rfl rfl (by decide +kernel) ⟨Nat.le_of_ble_eq_true rfl, Nat.le_of_ble_eq_true rfl⟩) rfl rfl (Nat.le_of_ble_eq_true rfl) dL_law_78 hcz) (fun E M_x h => ?_) (fun r_9 M_10 h => ?_)
    · exact h.elim
    · refine q_if_ne (tgt := 86) C dL_law_81 (by decide) (fun z => ?_) (fun z => ?_)
      · have h := h.1 z
        refine q_iload_n C dL_law_86 rfl (j := 2) rfl ?_
        refine q_bipush (v := 13) C dL_law_87 (by decide) ?_
        refine q_irem C dL_law_89 (by decide) ?_
        refine q_bipush (v := 12) C dL_law_90 (by decide) ?_
        refine q_icmp_eq (tgt := 98) C dL_law_92 (by decide) (fun z => ?_) (fun z => ?_)
        · have h := h.1 z
          refine q_aload_n C dL_law_98 rfl (j := 1) rfl ?_
          have hcz := h.1
          have h := h.2
          refine q_cl (q_runV (As := []) (st := []) C (c_X8_digest l D cA lo h.2) (cwV 0 C.2.2.2.2.1 gL_law_X8_digest rfl rfl rfl (by decide +kernel) ⟨Nat.le_of_ble_eq_true rfl, Nat.le_of_ble_eq_true rfl⟩) h.1 (by decide) rfl rfl rfl (Nat.le_of_ble_eq_true rfl) dL_law_99 ⟨Nat.le_trans (Nat.le_of_eq (Nat.add_zero _)) hcz.1, Nat.le_trans (Nat.le_of_eq (Nat.add_zero _)) hcz.2⟩) (fun r_12 M_13 h => ?_)
          refine q_lstore_n (lv' := [(3, .long r_12), (0, .ref scr), (1, .ref a1), (2, .int i2)]) C dL_law_102 rfl (by decide) rfl ?_
          refine q_aload_n C dL_law_103 rfl (j := 2) rfl ?_
          obtain ⟨dc_16, ds_16, hcz, h⟩ := h
          refine q_xi (qx_runS (As := [.ref a1]) (st := []) C (c_L_areRingsRight l hl D cA lo h) (va_cwS 1 C.2.2.2.2.1 gL_law_L_areRingsRight rfl rfl rfl (by decide +kernel) ⟨Nat.le_of_ble_eq_true rfl, Nat.le_of_ble_eq_true rfl⟩) rfl rfl (Nat.le_of_ble_eq_true rfl) dL_law_104 hcz) (fun E M_x h => ?_) (fun r_14 M_15 h => ?_)
          · exact h.elim
          · refine q_if_eq (tgt := 134) C dL_law_107 (by decide) (fun z => ?_) (fun z => ?_)
            · have h := h.1 z
              refine q_iconst (v := 0) C dL_law_134 (by decide) ?_
              exact h.elim
            · have h := h.2 z
              refine q_aload_n C dL_law_110 rfl (j := 2) rfl ?_
              refine q_aload_n C dL_law_111 rfl (j := 1) rfl ?_
              refine q_iload_n C dL_law_112 rfl (j := 3) rfl ?_
              refine q_bipush (v := 28) C dL_law_113 (by decide) ?_
              refine q_irem C dL_law_115 (by decide) ?_
              refine q_cell hX hbl C h.1 dL_law_116 ?_ (hf := by first | exact h.2.1 | exact h.2.elim (fun dc w => w.elim (fun ds w => ⟨Nat.le_trans (Nat.le_add_right _ _) w.1.1, Nat.le_trans (Nat.le_add_right _ _) w.1.2⟩)))
              have h := h.2
              obtain ⟨dc_19, ds_19, hcz, h⟩ := h
              refine q_xi (qx_runS (As := [.ref a1, .int (celV xs L (i2 - i2 / 28 * 28))]) (st := []) C (c_L_isMayRight l hl D cA lo h) (va_cwS 2 C.2.2.2.2.1 gL_law_L_isMayRight rfl rfl rfl (by decide +kernel) ⟨Nat.le_of_ble_eq_true rfl, Nat.le_of_ble_eq_true rfl⟩) rfl rfl (Nat.le_of_ble_eq_true rfl) dL_law_119 hcz) (fun E M_x h => ?_) (fun r_17 M_18 h => ?_)
              · exact h.elim
              · refine q_if_eq (tgt := 134) C dL_law_122 (by decide) (fun z => ?_) (fun z => ?_)
                · have h := h.1 z
                  refine q_iconst (v := 0) C dL_law_134 (by decide) ?_
                  exact h.elim
                · have h := h.2 z
                  refine q_aload_n C dL_law_125 rfl (j := 2) rfl ?_
                  have hcz := h.1
                  have h := h.2
                  refine q_cl (q_runV (As := []) (st := []) C (c_X8_digest l D cA lo h.2) (cwV 0 C.2.2.2.2.1 gL_law_X8_digest rfl rfl rfl (by decide +kernel) ⟨Nat.le_of_ble_eq_true rfl, Nat.le_of_ble_eq_true rfl⟩) h.1 (by decide) rfl rfl rfl (Nat.le_of_ble_eq_true rfl) dL_law_126 ⟨Nat.le_trans (Nat.le_of_eq (Nat.add_zero _)) hcz.1, Nat.le_trans (Nat.le_of_eq (Nat.add_zero _)) hcz.2⟩) (fun r_20 M_21 h => ?_)
                  refine q_lload_n C dL_law_129 rfl (j := 0) rfl ?_
                  refine q_lcmp C dL_law_130 ?_
                  refine q_if_eq (tgt := 136) C dL_law_131 (by decide) (fun z => ?_) (fun z => ?_)
                  · have h := h.1 z
                    refine q_iinc (v := (i2 + 1)) (lv' := [(2, .int (i2 + 1)), (3, .long r_12), (0, .ref scr), (1, .ref a1)]) C dL_law_136 (j := 3) rfl rfl (by decide) rfl ?_
                    refine q_goto (tgt := 53) C dL_law_139 (by decide) ?_
                    exact q_sub [2, 3, 0] rfl h
                  · have h := h.2 z
                    refine q_iconst (v := 0) C dL_law_134 (by decide) ?_
                    exact h.elim
        · have h := h.2 z
          refine q_goto (tgt := 136) C dL_law_95 (by decide) ?_
          refine q_iinc (v := (i2 + 1)) (lv' := [(2, .int (i2 + 1)), (0, .ref scr), (1, .ref a1)]) C dL_law_136 (j := 2) rfl rfl (by decide) rfl ?_
          refine q_goto (tgt := 53) C dL_law_139 (by decide) ?_
          exact q_sub [1, 2, 0] rfl h
      · have h := h.2 z
        refine q_iconst (v := 0) C dL_law_84 (by decide) ?_
        exact h.elim
set_option maxRecDepth 100000 in
set_option maxHeartbeats 8000000 in
theorem c_L_law {p : Program} {l : Launch} {e : Env} {s : State} {m : MethodId} {below : List Frame} {meth : Method} {c : Code} {D : va_G} {cA : Nat → ClassId} {lo scr L : Nat} {xs : Nat → Int32} (C : Cx p s m #[Value.ref scr] c cL_law 5 RL wsL_law D cA lo) (hl : l.stackTraces = false) (hX : va_X scr L xs s s.heap ∧ L < 2 ^ 31) (hbl : scr < s.heap.size ∧ lo = s.heap.size) (hr : meth.sig.returnType = ret) (hlk : meth.locks = false) {M : Mm} (h : T_L_law 600104 7301314 L xs M) : QW p l e room_1 s m #[Value.ref scr] below meth c (lw_Z below #[Value.ref scr] s) 5 D cA lo 0 0 M 0 [(0, .ref scr)] [] := by
  unfold T_L_law at h
  have h := h (fun (a1 : Nat) (i2 : Int32) (M : Mm) (cc zz : Nat) => QW p l e room_1 s m #[Value.ref scr] below meth c (lw_Z below #[Value.ref scr] s) 5 D cA lo cc zz M 10 [(0, .ref scr), (1, .ref a1), (2, .int i2)] []) (fun (a1 : Nat) (i2 : Int32) (M : Mm) (cc zz : Nat) => QW p l e room_1 s m #[Value.ref scr] below meth c (lw_Z below #[Value.ref scr] s) 5 D cA lo cc zz M 53 [(0, .ref scr), (1, .ref a1), (2, .int i2)] []) (fun a1 i2 M cc zz h => b_L_law_10 C hl hX hbl hr hlk M a1 i2 cc zz h) (fun a1 i2 M cc zz h => b_L_law_53 C hl hX hbl hr hlk M a1 i2 cc zz h)
  refine q_new (ci := 8) (T := TX8) C inlX8 tyX8 tyX8_ok (by decide +kernel) (by decide +kernel) (by decide +kernel) rfl (by decide) (by decide +kernel) ⟨h.1, h.2.1⟩ dL_law_0 (fun q_1 hq _ => ?_)
  have h := h.2.2 q_1 hq
  refine q_dup C dL_law_3 rfl ?_
  obtain ⟨dc_4, ds_4, hcz, h⟩ := h
  refine q_cv (q_runI (As := []) (st := [.ref q_1]) C (c_X8_init l D cA lo h) (cwI 0 C.2.2.2.2.1 gL_law_X8_init rfl rfl rfl (C.2.2.2.2.1 _ (by decide +kernel)) (C.2.2.2.2.1 _ (by decide +kernel)) (C.2.2.2.2.1 _ (by decide +kernel)) rfl (by decide +kernel) ⟨Nat.le_of_ble_eq_true rfl, Nat.le_of_ble_eq_true rfl⟩) rfl rfl (Nat.le_of_ble_eq_true rfl) dL_law_4 hcz) (fun M_3 h => ?_)
  refine q_astore_n (lv' := [(1, .ref q_1), (0, .ref scr)]) C dL_law_7 rfl (by decide) rfl ?_
  refine q_iconst (v := 0) C dL_law_8 (by decide) ?_
  refine q_istore_n (lv' := [(2, .int 0), (1, .ref q_1), (0, .ref scr)]) C dL_law_9 rfl (by decide) rfl ?_
  exact q_sub [2, 1, 0] rfl h
