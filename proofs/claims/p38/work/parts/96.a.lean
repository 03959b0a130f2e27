set_option maxRecDepth 100000 in
set_option maxHeartbeats 4000000 in
theorem c_L_below (l : Launch) (D : va_G) (cA : Nat → ClassId) (lo : Nat) {M : Mm} {i0 : Int32} {i1 : Int32} {Q : Int32 → Prop} (h : T_L_below M i0 i1 Q) : Met l yL_below wsL_below ({ frames := 0, cells := 0, slots := 0, locals := 0 } : Room) (PcM D cA lo [.int i0, .int i1] M) (QiM D cA lo (fun r M1 => M1 = M ∧ Q r)) 0 0 (fun q => lo ≤ q) := by
  refine q_start (cc := cL_below) (nL := 2) (ret := (some .int)) (by decide) rfl rfl (Nat.le_of_ble_eq_true rfl) ?_
  intro p e s m args below meth c C hr hlk hin
  unfold T_L_below at h
  refine q_iload_n C dL_below_0 rfl (j := 0) rfl ?_
  refine q_ldc (v := 2147483647) C (by decide +kernel) dL_below_1 ?_
  refine q_iand C dL_below_3 ?_
  refine q_iload_n C dL_below_4 rfl (j := 1) rfl ?_
  refine q_irem C dL_below_5 h.1 ?_
  have h := h.2
  exact q_iret C hr hlk dL_below_6 (Nat.le_of_ble_eq_true rfl) (Nat.le_of_ble_eq_true rfl) ⟨rfl, h⟩
set_option maxRecDepth 100000 in
set_option maxHeartbeats 4000000 in
theorem c_L_sizeOf (l : Launch) (hl : l.stackTraces = false) (D : va_G) (cA : Nat → ClassId) (lo : Nat) {M : Mm} {a0 : Nat} {i1 : Int32} {Cc Zz : Nat} {Q : Int32 → Mm → Prop} {X : String → Mm → Prop} (h : T_L_sizeOf Cc Zz M a0 i1 Q X) : vx_Met l yL_sizeOf wsL_sizeOf ({ frames := 8, cells := Cc, slots := Zz, locals := 132 } : Room) (PcM D cA lo [.ref a0, .int i1] M) (QiM D cA lo Q) (XcM D cA lo X) Cc Zz (fun q => lo ≤ q) := by
  refine q_startH (hh := hhL_sizeOf) (cc := cL_sizeOf) (nL := 3) (ret := (some .int)) (by decide) rfl rfl (Nat.le_of_ble_eq_true rfl) ?_
  intro p e s m args below meth c C hr hlk htab
  unfold T_L_sizeOf at h
  refine q_aload_n C dL_sizeOf_0 rfl (j := 0) rfl ?_
  refine q_iload_n C dL_sizeOf_1 rfl (j := 1) rfl ?_
  obtain ⟨dc_3, ds_3, hcz, h⟩ := h
  refine q_xi (qx_runV (As := [.int i1]) (st := []) C (c_X8_size l hl D cA lo h.2) (cwV 1 C.2.2.2.2.1 gL_sizeOf_X8_size rfl rfl rfl (by decide +kernel) ⟨Nat.le_of_ble_eq_true rfl, Nat.le_of_ble_eq_true rfl⟩) h.1 (by decide) rfl rfl rfl (Nat.le_of_ble_eq_true rfl) dL_sizeOf_2 hcz) (fun E M_x h => ?_) (fun r_1 M_2 h => ?_)
  · obtain ⟨rfl, h⟩ := h
    have h := h
    refine q_catch (name := "") C htab (List.take 0 hhL_sizeOf) (0, 5, 6, 58) (List.drop 1 hhL_sizeOf) (by decide) (by decide) (by decide +kernel) (by decide) (by decide) (by decide +kernel) (fun qx => ?_)
    refine q_astore_n (lv' := [(2, .ref qx), (0, .ref a0), (1, .int i1)]) C dL_sizeOf_6 rfl (by decide) rfl ?_
    refine q_iconst (v := 0) C dL_sizeOf_7 (by decide) ?_
    exact q_xret (q_iret C hr hlk dL_sizeOf_8 h.1 h.2.1 h.2.2)
  · exact q_xret (q_iret C hr hlk dL_sizeOf_5 h.1 h.2.1 h.2.2)
set_option maxRecDepth 100000 in
set_option maxHeartbeats 4000000 in
theorem b_L_areRingsRight_16 {p : Program} {l : Launch} {e : Env} {s : State} {m : MethodId} {args : Array Value} {below : List Frame} {meth : Method} {c : Code} {D : va_G} {cA : Nat → ClassId} {lo : Nat} (C : Cx p s m args c cL_areRingsRight 10 RL wsL_areRingsRight D cA lo) (hr : meth.sig.returnType = (some .boolean)) (hlk : meth.locks = false) (hl : l.stackTraces = false) (hex : ∀ x ∈ c.exceptionTable.toList, ∀ pc, covers x pc = false) {Q : Int32 → Mm → Prop} {Cc Zz : Nat} {X : String → Mm → Prop} (M : Mm) (a0 : Nat) (a1 : Nat) (i2 : Int32) (i3 : Int32) (i4 : Int32) (cc zz : Nat) (h : S_L_areRingsRight_16 (fun (a0 : Nat) (a1 : Nat) (i2 : Int32) (i3 : Int32) (i4 : Int32) (M : Mm) (cc zz : Nat) => QW p l e ({ frames := 9, cells := Cc, slots := Zz, locals := 155 } : Room) s m args below meth c (vx_MQ below (QiM D cA lo Q) (XcM D cA lo X) args s Cc Zz (fun q => lo ≤ q)) 10 D cA lo cc zz M 16 [(0, .ref a0), (1, .ref a1), (2, .int i2), (3, .int i3), (4, .int i4)] []) (fun (a0 : Nat) (a1 : Nat) (i2 : Int32) (i3 : Int32) (i4 : Int32) (i5 : Int32) (M : Mm) (cc zz : Nat) => QW p l e ({ frames := 9, cells := Cc, slots := Zz, locals := 155 } : Room) s m args below meth c (vx_MQ below (QiM D cA lo Q) (XcM D cA lo X) args s Cc Zz (fun q => lo ≤ q)) 10 D cA lo cc zz M 225 [(0, .ref a0), (1, .ref a1), (2, .int i2), (3, .int i3), (4, .int i4), (5, .int i5)] []) (fun (a0 : Nat) (a1 : Nat) (i3 : Int32) (i4 : Int32) (i5 : Int32) (is0 : Int32) (is1 : Int32) (M : Mm) (cc zz : Nat) => QW p l e ({ frames := 9, cells := Cc, slots := Zz, locals := 155 } : Room) s m args below meth c (vx_MQ below (QiM D cA lo Q) (XcM D cA lo X) args s Cc Zz (fun q => lo ≤ q)) 10 D cA lo cc zz M 43 [(0, .ref a0), (1, .ref a1), (3, .int i3), (4, .int i4), (5, .int i5)] [.int is1, .int is0]) (fun (a0 : Nat) (i4 : Int32) (is0 : Int32) (is1 : Int32) (M : Mm) (cc zz : Nat) => QW p l e ({ frames := 9, cells := Cc, slots := Zz, locals := 155 } : Room) s m args below meth c (vx_MQ below (QiM D cA lo Q) (XcM D cA lo X) args s Cc Zz (fun q => lo ≤ q)) 10 D cA lo cc zz M 335 [(0, .ref a0), (4, .int i4)] [.int is1, .int is0]) (fun (a0 : Nat) (a1 : Nat) (i2 : Int32) (i3 : Int32) (i4 : Int32) (i5 : Int32) (i6 : Int32) (M : Mm) (cc zz : Nat) => QW p l e ({ frames := 9, cells := Cc, slots := Zz, locals := 155 } : Room) s m args below meth c (vx_MQ below (QiM D cA lo Q) (XcM D cA lo X) args s Cc Zz (fun q => lo ≤ q)) 10 D cA lo cc zz M 235 [(0, .ref a0), (1, .ref a1), (2, .int i2), (3, .int i3), (4, .int i4), (5, .int i5), (6, .int i6)] []) (fun (a0 : Nat) (a1 : Nat) (i2 : Int32) (i3 : Int32) (i4 : Int32) (i5 : Int32) (i6 : Int32) (M : Mm) (cc zz : Nat) => QW p l e ({ frames := 9, cells := Cc, slots := Zz, locals := 155 } : Room) s m args below meth c (vx_MQ below (QiM D cA lo Q) (XcM D cA lo X) args s Cc Zz (fun q => lo ≤ q)) 10 D cA lo cc zz M 73 [(0, .ref a0), (1, .ref a1), (2, .int i2), (3, .int i3), (4, .int i4), (5, .int i5), (6, .int i6)] []) (fun (a0 : Nat) (a1 : Nat) (i2 : Int32) (i3 : Int32) (i4 : Int32) (i5 : Int32) (i6 : Int32) (i7 : Int32) (i9 : Int32) (M : Mm) (cc zz : Nat) => QW p l e ({ frames := 9, cells := Cc, slots := Zz, locals := 155 } : Room) s m args below meth c (vx_MQ below (QiM D cA lo Q) (XcM D cA lo X) args s Cc Zz (fun q => lo ≤ q)) 10 D cA lo cc zz M 179 [(0, .ref a0), (1, .ref a1), (2, .int i2), (3, .int i3), (4, .int i4), (5, .int i5), (6, .int i6), (7, .int i7), (9, .int i9)] []) Cc Zz Q X M a0 a1 i2 i3 i4 cc zz) : QW p l e ({ frames := 9, cells := Cc, slots := Zz, locals := 155 } : Room) s m args below meth c (vx_MQ below (QiM D cA lo Q) (XcM D cA lo X) args s Cc Zz (fun q => lo ≤ q)) 10 D cA lo cc zz M 16 [(0, .ref a0), (1, .ref a1), (2, .int i2), (3, .int i3), (4, .int i4)] [] := by
  unfold S_L_areRingsRight_16 at h
  refine q_iload C dL_areRingsRight_16 (j := 4) rfl ?_
  refine q_sipush (v := 160) C dL_areRingsRight_18 (by decide) ?_
  refine q_icmp_ge (tgt := 219) C dL_areRingsRight_21 (by decide) (fun z => ?_) (fun z => ?_)
  · have h := h.1 z
    refine q_iconst (v := 0) C dL_areRingsRight_219 (by decide) ?_
    refine q_istore (lv' := [(4, .int 0), (0, .ref a0), (1, .ref a1), (2, .int i2), (3, .int i3)]) C dL_areRingsRight_220 (by decide) rfl ?_
    refine q_iconst (v := 0) C dL_areRingsRight_222 (by decide) ?_
    refine q_istore (lv' := [(5, .int 0), (4, .int 0), (0, .ref a0), (1, .ref a1), (2, .int i2), (3, .int i3)]) C dL_areRingsRight_223 (by decide) rfl ?_
    exact q_sub [2, 3, 4, 5, 1, 0] rfl h
  · have h := h.2 z
    refine q_aload_n C dL_areRingsRight_24 rfl (j := 0) rfl ?_
    refine q_iload C dL_areRingsRight_25 (j := 4) rfl ?_
    obtain ⟨dc_4, ds_4, hcz, h⟩ := h
    refine q_xw (q_runSW (As := [.ref a0, .int i4]) (st := []) C (c_L_sizeOf l hl D cA lo h) (vx_cwSW 2 C.2.2.2.2.1 gL_areRingsRight_L_sizeOf rfl rfl rfl (by decide +kernel) ⟨Nat.le_of_ble_eq_true rfl, Nat.le_of_ble_eq_true rfl⟩) rfl rfl (Nat.le_of_ble_eq_true rfl) dL_areRingsRight_27 hcz) (fun E M_x h => ?_) (fun r_2 M_3 h => ?_)
    · exact h.elim
    · refine q_istore (lv' := [(5, .int r_2), (0, .ref a0), (1, .ref a1), (2, .int i2), (3, .int i3), (4, .int i4)]) C dL_areRingsRight_30 (by decide) rfl ?_
      refine q_iload_n C dL_areRingsRight_32 rfl (j := 3) rfl ?_
      refine q_iload C dL_areRingsRight_33 (j := 0) rfl ?_
      refine q_if_le (tgt := 42) C dL_areRingsRight_35 (by decide) (fun z => ?_) (fun z => ?_)
      · have h := h.1 z
        refine q_iconst (v := 0) C dL_areRingsRight_42 (by decide) ?_
        exact q_sub [1, 2, 4, 5, 0] rfl h
      · have h := h.2 z
        refine q_iconst (v := 1) C dL_areRingsRight_38 (by decide) ?_
        refine q_goto (tgt := 43) C dL_areRingsRight_39 (by decide) ?_
        exact q_sub [1, 2, 4, 5, 0] rfl h
set_option maxRecDepth 100000 in
set_option maxHeartbeats 4000000 in
theorem b_L_areRingsRight_225 {p : Program} {l : Launch} {e : Env} {s : State} {m : MethodId} {args : Array Value} {below : List Frame} {meth : Method} {c : Code} {D : va_G} {cA : Nat → ClassId} {lo : Nat} (C : Cx p s m args c cL_areRingsRight 10 RL wsL_areRingsRight D cA lo) (hr : meth.sig.returnType = (some .boolean)) (hlk : meth.locks = false) (hl : l.stackTraces = false) (hex : ∀ x ∈ c.exceptionTable.toList, ∀ pc, covers x pc = false) {Q : Int32 → Mm → Prop} {Cc Zz : Nat} {X : String → Mm → Prop} (M : Mm) (a0 : Nat) (a1 : Nat) (i2 : Int32) (i3 : Int32) (i4 : Int32) (i5 : Int32) (cc zz : Nat) (h : S_L_areRingsRight_225 (fun (a0 : Nat) (a1 : Nat) (i2 : Int32) (i3 : Int32) (i4 : Int32) (M : Mm) (cc zz : Nat) => QW p l e ({ frames := 9, cells := Cc, slots := Zz, locals := 155 } : Room) s m args below meth c (vx_MQ below (QiM D cA lo Q) (XcM D cA lo X) args s Cc Zz (fun q => lo ≤ q)) 10 D cA lo cc zz M 16 [(0, .ref a0), (1, .ref a1), (2, .int i2), (3, .int i3), (4, .int i4)] []) (fun (a0 : Nat) (a1 : Nat) (i2 : Int32) (i3 : Int32) (i4 : Int32) (i5 : Int32) (M : Mm) (cc zz : Nat) => QW p l e ({ frames := 9, cells := Cc, slots := Zz, locals := 155 } : Room) s m args below meth c (vx_MQ below (QiM D cA lo Q) (XcM D cA lo X) args s Cc Zz (fun q => lo ≤ q)) 10 D cA lo cc zz M 225 [(0, .ref a0), (1, .ref a1), (2, .int i2), (3, .int i3), (4, .int i4), (5, .int i5)] []) (fun (a0 : Nat) (a1 : Nat) (i3 : Int32) (i4 : Int32) (i5 : Int32) (is0 : Int32) (is1 : Int32) (M : Mm) (cc zz : Nat) => QW p l e ({ frames := 9, cells := Cc, slots := Zz, locals := 155 } : Room) s m args below meth c (vx_MQ below (QiM D cA lo Q) (XcM D cA lo X) args s Cc Zz (fun q => lo ≤ q)) 10 D cA lo cc zz M 43 [(0, .ref a0), (1, .ref a1), (3, .int i3), (4, .int i4), (5, .int i5)] [.int is1, .int is0]) (fun (a0 : Nat) (i4 : Int32) (is0 : Int32) (is1 : Int32) (M : Mm) (cc zz : Nat) => QW p l e ({ frames := 9, cells := Cc, slots := Zz, locals := 155 } : Room) s m args below meth c (vx_MQ below (QiM D cA lo Q) (XcM D cA lo X) args s Cc Zz (fun q => lo ≤ q)) 10 D cA lo cc zz M 335 [(0, .ref a0), (4, .int i4)] [.int is1, .int is0]) (fun (a0 : Nat) (a1 : Nat) (i2 : Int32) (i3 : Int32) (i4 : Int32) (i5 : Int32) (i6 : Int32) (M : Mm) (cc zz : Nat) => QW p l e ({ frames := 9, cells := Cc, slots := Zz, locals := 155 } : Room) s m args below meth c (vx_MQ below (QiM D cA lo Q) (XcM D cA lo X) args s Cc Zz (fun q => lo ≤ q)) 10 D cA lo cc zz M 235 [(0, .ref a0), (1, .ref a1), (2, .int i2), (3, .int i3), (4, .int i4), (5, .int i5), (6, .int i6)] []) (fun (a0 : Nat) (a1 : Nat) (i2 : Int32) (i3 : Int32) (i4 : Int32) (i5 : Int32) (i6 : Int32) (M : Mm) (cc zz : Nat) => QW p l e ({ frames := 9, cells := Cc, slots := Zz, locals := 155 } : Room) s m args below meth c (vx_MQ below (QiM D cA lo Q) (XcM D cA lo X) args s Cc Zz (fun q => lo ≤ q)) 10 D cA lo cc zz M 73 [(0, .ref a0), (1, .ref a1), (2, .int i2), (3, .int i3), (4, .int i4), (5, .int i5), (6, .int i6)] []) (fun (a0 : Nat) (a1 : Nat) (i2 : Int32) (i3 : Int32) (i4 : Int32) (i5 : Int32) (i6 : Int32) (i7 : Int32) (i9 : Int32) (M : Mm) (cc zz : Nat) => QW p l e ({ frames := 9, cells := Cc, slots := Zz, locals := 155 } : Room) s m args below meth c (vx_MQ below (QiM D cA lo Q) (XcM D cA lo X) args s Cc Zz (fun q => lo ≤ q)) 10 D cA lo cc zz M 179 [(0, .ref a0), (1, .ref a1), (2, .int i2), (3, .int i3), (4, .int i4), (5, .int i5), (6, .int i6), (7, .int i7), (9, .int i9)] []) Cc Zz Q X M a0 a1 i2 i3 i4 i5 cc zz) : QW p l e ({ frames := 9, cells := Cc, slots := Zz, locals := 155 } : Room) s m args below meth c (vx_MQ below (QiM D cA lo Q) (XcM D cA lo X) args s Cc Zz (fun q => lo ≤ q)) 10 D cA lo cc zz M 225 [(0, .ref a0), (1, .ref a1), (2, .int i2), (3, .int i3), (4, .int i4), (5, .int i5)] [] := by
  unfold S_L_areRingsRight_225 at h
  refine q_iload C dL_areRingsRight_225 (j := 5) rfl ?_
  refine q_bipush (v := 100) C dL_areRingsRight_227 (by decide) ?_
  refine q_icmp_ge (tgt := 284) C dL_areRingsRight_229 (by decide) (fun z => ?_) (fun z => ?_)
  · have h := h.1 z
    refine q_aload_n C dL_areRingsRight_284 rfl (j := 0) rfl ?_
    have hcz := h.1
    have h := h.2
    refine q_ci (q_runV (As := []) (st := []) C (c_X8_faces l D cA lo h.2) (cwV 0 C.2.2.2.2.1 gL_areRingsRight_X8_faces rfl rfl rfl (by decide +kernel) ⟨Nat.le_of_ble_eq_true rfl, Nat.le_of_ble_eq_true rfl⟩) h.1 (by decide) rfl rfl rfl (Nat.le_of_ble_eq_true rfl) dL_areRingsRight_285 ⟨Nat.le_trans (Nat.le_of_eq (Nat.add_zero _)) hcz.1, Nat.le_trans (Nat.le_of_eq (Nat.add_zero _)) hcz.2⟩) (fun r_5 M_z h => ?_)
    refine q_mem h.1 ?_
    have h := h.2
    refine q_iload_n C dL_areRingsRight_288 rfl (j := 2) rfl ?_
    refine q_icmp_ne (tgt := 353) C dL_areRingsRight_289 (by decide) (fun z => ?_) (fun z => ?_)
    · have h := h.1 z
      refine q_iconst (v := 0) C dL_areRingsRight_353 (by decide) ?_
      exact q_xret (q_zret C hr hlk dL_areRingsRight_354 h.1 h.2.1 (Or.inl rfl) h.2.2)
    · have h := h.2 z
      refine q_iconst (v := 2) C dL_areRingsRight_292 (by decide) ?_
      refine q_aload_n C dL_areRingsRight_293 rfl (j := 0) rfl ?_
      have hcz := h.1
      have h := h.2
      refine q_ci (q_runV (As := []) (st := [.int 2]) C (c_X8_edges l D cA lo h.2) (cwV 0 C.2.2.2.2.1 gL_areRingsRight_X8_edges rfl rfl rfl (by decide +kernel) ⟨Nat.le_of_ble_eq_true rfl, Nat.le_of_ble_eq_true rfl⟩) h.1 (by decide) rfl rfl rfl (Nat.le_of_ble_eq_true rfl) dL_areRingsRight_294 ⟨Nat.le_trans (Nat.le_of_eq (Nat.add_zero _)) hcz.1, Nat.le_trans (Nat.le_of_eq (Nat.add_zero _)) hcz.2⟩) (fun r_6 M_z h => ?_)
      refine q_mem h.1 ?_
      have h := h.2
      refine q_imul C dL_areRingsRight_297 ?_
      refine q_iload_n C dL_areRingsRight_298 rfl (j := 3) rfl ?_
      refine q_iload C dL_areRingsRight_299 (j := 4) rfl ?_
      refine q_iadd C dL_areRingsRight_301 ?_
      refine q_icmp_ne (tgt := 353) C dL_areRingsRight_302 (by decide) (fun z => ?_) (fun z => ?_)
      · have h := h.1 z
        refine q_iconst (v := 0) C dL_areRingsRight_353 (by decide) ?_
        exact q_xret (q_zret C hr hlk dL_areRingsRight_354 h.1 h.2.1 (Or.inl rfl) h.2.2)
      · have h := h.2 z
        refine q_aload_n C dL_areRingsRight_305 rfl (j := 0) rfl ?_
        have hcz := h.1
        have h := h.2
        refine q_ci (q_runV (As := []) (st := []) C (c_X8_shells l D cA lo h.2) (cwV 0 C.2.2.2.2.1 gL_areRingsRight_X8_shells rfl rfl rfl (by decide +kernel) ⟨Nat.le_of_ble_eq_true rfl, Nat.le_of_ble_eq_true rfl⟩) h.1 (by decide) rfl rfl rfl (Nat.le_of_ble_eq_true rfl) dL_areRingsRight_306 ⟨Nat.le_trans (Nat.le_of_eq (Nat.add_zero _)) hcz.1, Nat.le_trans (Nat.le_of_eq (Nat.add_zero _)) hcz.2⟩) (fun r_7 M_8 h => ?_)
        refine q_iload_n C dL_areRingsRight_309 rfl (j := 2) rfl ?_
        refine q_icmp_gt (tgt := 353) C dL_areRingsRight_310 (by decide) (fun z => ?_) (fun z => ?_)
        · have h := h.1 z
          refine q_iconst (v := 0) C dL_areRingsRight_353 (by decide) ?_
          exact q_xret (q_zret C hr hlk dL_areRingsRight_354 h.1 h.2.1 (Or.inl rfl) h.2.2)
        · have h := h.2 z
          refine q_aload_n C dL_areRingsRight_313 rfl (j := 0) rfl ?_
          have hcz := h.1
          have h := h.2
          refine q_ci (q_runV (As := []) (st := []) C (c_X8_holes l D cA lo h.2) (cwV 0 C.2.2.2.2.1 gL_areRingsRight_X8_holes rfl rfl rfl (by decide +kernel) ⟨Nat.le_of_ble_eq_true rfl, Nat.le_of_ble_eq_true rfl⟩) h.1 (by decide) rfl rfl rfl (Nat.le_of_ble_eq_true rfl) dL_areRingsRight_314 ⟨Nat.le_trans (Nat.le_of_eq (Nat.add_zero _)) hcz.1, Nat.le_trans (Nat.le_of_eq (Nat.add_zero _)) hcz.2⟩) (fun r_9 M_10 h => ?_)
          refine q_if_ne (tgt := 324) C dL_areRingsRight_317 (by decide) (fun z => ?_) (fun z => ?_)
          · have h := h.1 z
            refine q_iconst (v := 0) C dL_areRingsRight_324 (by decide) ?_
            refine q_iload C dL_areRingsRight_325 (j := 4) rfl ?_
            refine q_if_ne (tgt := 334) C dL_areRingsRight_327 (by decide) (fun z => ?_) (fun z => ?_)
            · have h := h.1 z
              refine q_iconst (v := 0) C dL_areRingsRight_334 (by decide) ?_
              exact q_sub [0, 4] rfl h
            · have h := h.2 z
              refine q_iconst (v := 1) C dL_areRingsRight_330 (by decide) ?_
              refine q_goto (tgt := 335) C dL_areRingsRight_331 (by decide) ?_
              exact q_sub [0, 4] rfl h
          · have h := h.2 z
            refine q_iconst (v := 1) C dL_areRingsRight_320 (by decide) ?_
            refine q_goto (tgt := 325) C dL_areRingsRight_321 (by decide) ?_
            refine q_iload C dL_areRingsRight_325 (j := 4) rfl ?_
            refine q_if_ne (tgt := 334) C dL_areRingsRight_327 (by decide) (fun z => ?_) (fun z => ?_)
            · have h := h.1 z
              refine q_iconst (v := 0) C dL_areRingsRight_334 (by decide) ?_
              exact q_sub [0, 4] rfl h
            · have h := h.2 z
              refine q_iconst (v := 1) C dL_areRingsRight_330 (by decide) ?_
              refine q_goto (tgt := 335) C dL_areRingsRight_331 (by decide) ?_
              exact q_sub [0, 4] rfl h
  · have h := h.2 z
    refine q_iconst (v := 0) C dL_areRingsRight_232 (by decide) ?_
    refine q_istore (lv' := [(6, .int 0), (0, .ref a0), (1, .ref a1), (2, .int i2), (3, .int i3), (4, .int i4), (5, .int i5)]) C dL_areRingsRight_233 (by decide) rfl ?_
    exact q_sub [1, 2, 3, 4, 5, 6, 0] rfl h
set_option maxRecDepth 100000 in
set_option maxHeartbeats 4000000 in
theorem b_L_areRingsRight_43 {p : Program} {l : Launch} {e : Env} {s : State} {m : MethodId} {args : Array Value} {below : List Frame} {meth : Method} {c : Code} {D : va_G} {cA : Nat → ClassId} {lo : Nat} (C : Cx p s m args c cL_areRingsRight 10 RL wsL_areRingsRight D cA lo) (hr : meth.sig.returnType = (some .boolean)) (hlk : meth.locks = false) (hl : l.stackTraces = false) (hex : ∀ x ∈ c.exceptionTable.toList, ∀ pc, covers x pc = false) {Q : Int32 → Mm → Prop} {Cc Zz : Nat} {X : String → Mm → Prop} (M : Mm) (a0 : Nat) (a1 : Nat) (i3 : Int32) (i4 : Int32) (i5 : Int32) (is0 : Int32) (is1 : Int32) (cc zz : Nat) (h : S_L_areRingsRight_43 (fun (a0 : Nat) (a1 : Nat) (i2 : Int32) (i3 : Int32) (i4 : Int32) (M : Mm) (cc zz : Nat) => QW p l e ({ frames := 9, cells := Cc, slots := Zz, locals := 155 } : Room) s m args below meth c (vx_MQ below (QiM D cA lo Q) (XcM D cA lo X) args s Cc Zz (fun q => lo ≤ q)) 10 D cA lo cc zz M 16 [(0, .ref a0), (1, .ref a1), (2, .int i2), (3, .int i3), (4, .int i4)] []) (fun (a0 : Nat) (a1 : Nat) (i2 : Int32) (i3 : Int32) (i4 : Int32) (i5 : Int32) (M : Mm) (cc zz : Nat) => QW p l e ({ frames := 9, cells := Cc, slots := Zz, locals := 155 } : Room) s m args below meth c (vx_MQ below (QiM D cA lo Q) (XcM D cA lo X) args s Cc Zz (fun q => lo ≤ q)) 10 D cA lo cc zz M 225 [(0, .ref a0), (1, .ref a1), (2, .int i2), (3, .int i3), (4, .int i4), (5, .int i5)] []) (fun (a0 : Nat) (a1 : Nat) (i3 : Int32) (i4 : Int32) (i5 : Int32) (is0 : Int32) (is1 : Int32) (M : Mm) (cc zz : Nat) => QW p l e ({ frames := 9, cells := Cc, slots := Zz, locals := 155 } : Room) s m args below meth c (vx_MQ below (QiM D cA lo Q) (XcM D cA lo X) args s Cc Zz (fun q => lo ≤ q)) 10 D cA lo cc zz M 43 [(0, .ref a0), (1, .ref a1), (3, .int i3), (4, .int i4), (5, .int i5)] [.int is1, .int is0]) (fun (a0 : Nat) (i4 : Int32) (is0 : Int32) (is1 : Int32) (M : Mm) (cc zz : Nat) => QW p l e ({ frames := 9, cells := Cc, slots := Zz, locals := 155 } : Room) s m args below meth c (vx_MQ below (QiM D cA lo Q) (XcM D cA lo X) args s Cc Zz (fun q => lo ≤ q)) 10 D cA lo cc zz M 335 [(0, .ref a0), (4, .int i4)] [.int is1, .int is0]) (fun (a0 : Nat) (a1 : Nat) (i2 : Int32) (i3 : Int32) (i4 : Int32) (i5 : Int32) (i6 : Int32) (M : Mm) (cc zz : Nat) => QW p l e ({ frames := 9, cells := Cc, slots := Zz, locals := 155 } : Room) s m args below meth c (vx_MQ below (QiM D cA lo Q) (XcM D cA lo X) args s Cc Zz (fun q => lo ≤ q)) 10 D cA lo cc zz M 235 [(0, .ref a0), (1, .ref a1), (2, .int i2), (3, .int i3), (4, .int i4), (5, .int i5), (6, .int i6)] []) (fun (a0 : Nat) (a1 : Nat) (i2 : Int32) (i3 : Int32) (i4 : Int32) (i5 : Int32) (i6 : Int32) (M : Mm) (cc zz : Nat) => QW p l e ({ frames := 9, cells := Cc, slots := Zz, locals := 155 } : Room) s m args below meth c (vx_MQ below (QiM D cA lo Q) (XcM D cA lo X) args s Cc Zz (fun q => lo ≤ q)) 10 D cA lo cc zz M 73 [(0, .ref a0), (1, .ref a1), (2, .int i2), (3, .int i3), (4, .int i4), (5, .int i5), (6, .int i6)] []) (fun (a0 : Nat) (a1 : Nat) (i2 : Int32) (i3 : Int32) (i4 : Int32) (i5 : Int32) (i6 : Int32) (i7 : Int32) (i9 : Int32) (M : Mm) (cc zz : Nat) => QW p l e ({ frames := 9, cells := Cc, slots := Zz, locals := 155 } : Room) s m args below meth c (vx_MQ below (QiM D cA lo Q) (XcM D cA lo X) args s Cc Zz (fun q => lo ≤ q)) 10 D cA lo cc zz M 179 [(0, .ref a0), (1, .ref a1), (2, .int i2), (3, .int i3), (4, .int i4), (5, .int i5), (6, .int i6), (7, .int i7), (9, .int i9)] []) Cc Zz Q X M a0 a1 i3 i4 i5 is0 is1 cc zz) : QW p l e ({ frames := 9, cells := Cc, slots := Zz, locals := 155 } : Room) s m args below meth c (vx_MQ below (QiM D cA lo Q) (XcM D cA lo X) args s Cc Zz (fun q => lo ≤ q)) 10 D cA lo cc zz M 43 [(0, .ref a0), (1, .ref a1), (3, .int i3), (4, .int i4), (5, .int i5)] [.int is1, .int is0] := by
  unfold S_L_areRingsRight_43 at h
  refine q_iadd C dL_areRingsRight_43 ?_
  refine q_istore_n (lv' := [(2, .int (is0 + is1)), (0, .ref a0), (1, .ref a1), (3, .int i3), (4, .int i4), (5, .int i5)]) C dL_areRingsRight_44 rfl (by decide) rfl ?_
  refine q_iload_n C dL_areRingsRight_45 rfl (j := 3) rfl ?_
  refine q_iload C dL_areRingsRight_46 (j := 5) rfl ?_
  refine q_iadd C dL_areRingsRight_48 ?_
  refine q_istore_n (lv' := [(3, .int (i3 + i5)), (2, .int (is0 + is1)), (0, .ref a0), (1, .ref a1), (4, .int i4), (5, .int i5)]) C dL_areRingsRight_49 rfl (by decide) rfl ?_
  refine q_iload C dL_areRingsRight_50 (j := 5) rfl ?_
  refine q_if_le (tgt := 70) C dL_areRingsRight_52 (by decide) (fun z => ?_) (fun z => ?_)
  · have h := h.1 z
    refine q_iconst (v := 0) C dL_areRingsRight_70 (by decide) ?_
    refine q_istore (lv' := [(6, .int 0), (3, .int (i3 + i5)), (2, .int (is0 + is1)), (0, .ref a0), (1, .ref a1), (4, .int i4), (5, .int i5)]) C dL_areRingsRight_71 (by decide) rfl ?_
    exact q_sub [3, 4, 2, 1, 5, 6, 0] rfl h
  · have h := h.2 z
    refine q_iload C dL_areRingsRight_55 (j := 5) rfl ?_
    refine q_iconst (v := 3) C dL_areRingsRight_57 (by decide) ?_
    refine q_icmp_lt (tgt := 68) C dL_areRingsRight_58 (by decide) (fun z => ?_) (fun z => ?_)
    · have h := h.1 z
      refine q_iconst (v := 0) C dL_areRingsRight_68 (by decide) ?_
      exact q_xret (q_zret C hr hlk dL_areRingsRight_69 h.1 h.2.1 (Or.inl rfl) h.2.2)
    · have h := h.2 z
      refine q_iload C dL_areRingsRight_61 (j := 5) rfl ?_
      refine q_bipush (v := 12) C dL_areRingsRight_63 (by decide) ?_
      refine q_icmp_le (tgt := 70) C dL_areRingsRight_65 (by decide) (fun z => ?_) (fun z => ?_)
      · have h := h.1 z
        refine q_iconst (v := 0) C dL_areRingsRight_70 (by decide) ?_
        refine q_istore (lv' := [(6, .int 0), (3, .int (i3 + i5)), (2, .int (is0 + is1)), (0, .ref a0), (1, .ref a1), (4, .int i4), (5, .int i5)]) C dL_areRingsRight_71 (by decide) rfl ?_
        exact q_sub [3, 4, 2, 1, 5, 6, 0] rfl h
      · have h := h.2 z
        refine q_iconst (v := 0) C dL_areRingsRight_68 (by decide) ?_
        exact q_xret (q_zret C hr hlk dL_areRingsRight_69 h.1 h.2.1 (Or.inl rfl) h.2.2)
set_option maxRecDepth 100000 in
set_option maxHeartbeats 4000000 in
theorem b_L_areRingsRight_335 {p : Program} {l : Launch} {e : Env} {s : State} {m : MethodId} {args : Array Value} {below : List Frame} {meth : Method} {c : Code} {D : va_G} {cA : Nat → ClassId} {lo : Nat} (C : Cx p s m args c cL_areRingsRight 10 RL wsL_areRingsRight D cA lo) (hr : meth.sig.returnType = (some .boolean)) (hlk : meth.locks = false) (hl : l.stackTraces = false) (hex : ∀ x ∈ c.exceptionTable.toList, ∀ pc, covers x pc = false) {Q : Int32 → Mm → Prop} {Cc Zz : Nat} {X : String → Mm → Prop} (M : Mm) (a0 : Nat) (i4 : Int32) (is0 : Int32) (is1 : Int32) (cc zz : Nat) (h : S_L_areRingsRight_335 (fun (a0 : Nat) (a1 : Nat) (i2 : Int32) (i3 : Int32) (i4 : Int32) (M : Mm) (cc zz : Nat) => QW p l e ({ frames := 9, cells := Cc, slots := Zz, locals := 155 } : Room) s m args below meth c (vx_MQ below (QiM D cA lo Q) (XcM D cA lo X) args s Cc Zz (fun q => lo ≤ q)) 10 D cA lo cc zz M 16 [(0, .ref a0), (1, .ref a1), (2, .int i2), (3, .int i3), (4, .int i4)] []) (fun (a0 : Nat) (a1 : Nat) (i2 : Int32) (i3 : Int32) (i4 : Int32) (i5 : Int32) (M : Mm) (cc zz : Nat) => QW p l e ({ frames := 9, cells := Cc, slots := Zz, locals := 155 } : Room) s m args below meth c (vx_MQ below (QiM D cA lo Q) (XcM D cA lo X) args s Cc Zz (fun q => lo ≤ q)) 10 D cA lo cc zz M 225 [(0, .ref a0), (1, .ref a1), (2, .int i2), (3, .int i3), (4, .int i4), (5, .int i5)] []) (fun (a0 : Nat) (a1 : Nat) (i3 : Int32) (i4 : Int32) (i5 : Int32) (is0 : Int32) (is1 : Int32) (M : Mm) (cc zz : Nat) => QW p l e ({ frames := 9, cells := Cc, slots := Zz, locals := 155 } : Room) s m args below meth c (vx_MQ below (QiM D cA lo Q) (XcM D cA lo X) args s Cc Zz (fun q => lo ≤ q)) 10 D cA lo cc zz M 43 [(0, .ref a0), (1, .ref a1), (3, .int i3), (4, .int i4), (5, .int i5)] [.int is1, .int is0]) (fun (a0 : Nat) (i4 : Int32) (is0 : Int32) (is1 : Int32) (M : Mm) (cc zz : Nat) => QW p l e ({ frames := 9, cells := Cc, slots := Zz, locals := 155 } : Room) s m args below meth c (vx_MQ below (QiM D cA lo Q) (XcM D cA lo X) args s Cc Zz (fun q => lo ≤ q)) 10 D cA lo cc zz M 335 [(0, .ref a0), (4, .int i4)] [.int is1, .int is0]) (fun (a0 : Nat) (a1 : Nat) (i2 : Int32) (i3 : Int32) (i4 : Int32) (i5 : Int32) (i6 : Int32) (M : Mm) (cc zz : Nat) => QW p l e ({ frames := 9, cells := Cc, slots := Zz, locals := 155 } : Room) s m args below meth c (vx_MQ below (QiM D cA lo Q) (XcM D cA lo X) args s Cc Zz (fun q => lo ≤ q)) 10 D cA lo cc zz M 235 [(0, .ref a0), (1, .ref a1), (2, .int i2), (3, .int i3), (4, .int i4), (5, .int i5), (6, .int i6)] []) (fun (a0 : Nat) (a1 : Nat) (i2 : Int32) (i3 : Int32) (i4 : Int32) (i5 : Int32) (i6 : Int32) (M : Mm) (cc zz : Nat) => QW p l e ({ frames := 9, cells := Cc, slots := Zz, locals := 155 } : Room) s m args below meth c (vx_MQ below (QiM D cA lo Q) (XcM D cA lo X) args s Cc Zz (fun q => lo ≤ q)) 10 D cA lo cc zz M 73 [(0, .ref a0), (1, .ref a1), (2, .int i2), (3, .int i3), (4, .int i4), (5, .int i5), (6, .int i6)] []) (fun (a0 : Nat) (a1 : Nat) (i2 : Int32) (i3 : Int32) (i4 : Int32) (i5 : Int32) (i6 : Int32) (i7 : Int32) (i9 : Int32) (M : Mm) (cc zz : Nat) => QW p l e ({ frames := 9, cells := Cc, slots := Zz, locals := 155 } : Room) s m args below meth c (vx_MQ below (QiM D cA lo Q) (XcM D cA lo X) args s Cc Zz (fun q => lo ≤ q)) 10 D cA lo cc zz M 179 [(0, .ref a0), (1, .ref a1), (2, .int i2), (3, .int i3), (4, .int i4), (5, .int i5), (6, .int i6), (7, .int i7), (9, .int i9)] []) Cc Zz Q X M a0 i4 is0 is1 cc zz) : QW p l e ({ frames := 9, cells := Cc, slots := Zz, locals := 155 } : Room) s m args below meth c (vx_MQ below (QiM D cA lo Q) (XcM D cA lo X) args s Cc Zz (fun q => lo ≤ q)) 10 D cA lo cc zz M 335 [(0, .ref a0), (4, .int i4)] [.int is1, .int is0] := by
  unfold S_L_areRingsRight_335 at h
  refine q_icmp_ne (tgt := 353) C dL_areRingsRight_335 (by decide) (fun z => ?_) (fun z => ?_)
  · have h := h.1 z
    refine q_iconst (v := 0) C dL_areRingsRight_353 (by decide) ?_
    exact q_xret (q_zret C hr hlk dL_areRingsRight_354 h.1 h.2.1 (Or.inl rfl) h.2.2)
  · have h := h.2 z
    refine q_iconst (v := 3) C dL_areRingsRight_338 (by decide) ?_
    refine q_aload_n C dL_areRingsRight_339 rfl (j := 0) rfl ?_
    have hcz := h.1
    have h := h.2
    refine q_ci (q_runV (As := []) (st := [.int 3]) C (c_X8_holes l D cA lo h.2) (cwV 0 C.2.2.2.2.1 gL_areRingsRight_X8_holes rfl rfl rfl (by decide +kernel) ⟨Nat.le_of_ble_eq_true rfl, Nat.le_of_ble_eq_true rfl⟩) h.1 (by decide) rfl rfl rfl (Nat.le_of_ble_eq_true rfl) dL_areRingsRight_340 ⟨Nat.le_trans (Nat.le_of_eq (Nat.add_zero _)) hcz.1, Nat.le_trans (Nat.le_of_eq (Nat.add_zero _)) hcz.2⟩) (fun r_11 M_12 h => ?_)
    refine q_imul C dL_areRingsRight_343 ?_
    refine q_iload C dL_areRingsRight_344 (j := 1) rfl ?_
    refine q_icmp_gt (tgt := 353) C dL_areRingsRight_346 (by decide) (fun z => ?_) (fun z => ?_)
    · have h := h.1 z
      refine q_iconst (v := 0) C dL_areRingsRight_353 (by decide) ?_
      exact q_xret (q_zret C hr hlk dL_areRingsRight_354 h.1 h.2.1 (Or.inl rfl) h.2.2)
    · have h := h.2 z
      refine q_iconst (v := 1) C dL_areRingsRight_349 (by decide) ?_
      refine q_goto (tgt := 354) C dL_areRingsRight_350 (by decide) ?_
      exact q_xret (q_zret C hr hlk dL_areRingsRight_354 h.1 h.2.1 (Or.inr rfl) h.2.2)
set_option maxRecDepth 100000 in
set_option maxHeartbeats 4000000 in
theorem b_L_areRingsRight_235 {p : Program} {l : Launch} {e : Env} {s : State} {m : MethodId} {args : Array Value} {below : List Frame} {meth : Method} {c : Code} {D : va_G} {cA : Nat → ClassId} {lo : Nat} (C : Cx p s m args c cL_areRingsRight 10 RL wsL_areRingsRight D cA lo) (hr : meth.sig.returnType = (some .boolean)) (hlk : meth.locks = false) (hl : l.stackTraces = false) (hex : ∀ x ∈ c.exceptionTable.toList, ∀ pc, covers x pc = false) {Q : Int32 → Mm → Prop} {Cc Zz : Nat} {X : String → Mm → Prop} (M : Mm) (a0 : Nat) (a1 : Nat) (i2 : Int32) (i3 : Int32) (i4 : Int32) (i5 : Int32) (i6 : Int32) (cc zz : Nat) (h : S_L_areRingsRight_235 (fun (a0 : Nat) (a1 : Nat) (i2 : Int32) (i3 : Int32) (i4 : Int32) (M : Mm) (cc zz : Nat) => QW p l e ({ frames := 9, cells := Cc, slots := Zz, locals := 155 } : Room) s m args below meth c (vx_MQ below (QiM D cA lo Q) (XcM D cA lo X) args s Cc Zz (fun q => lo ≤ q)) 10 D cA lo cc zz M 16 [(0, .ref a0), (1, .ref a1), (2, .int i2), (3, .int i3), (4, .int i4)] []) (fun (a0 : Nat) (a1 : Nat) (i2 : Int32) (i3 : Int32) (i4 : Int32) (i5 : Int32) (M : Mm) (cc zz : Nat) => QW p l e ({ frames := 9, cells := Cc, slots := Zz, locals := 155 } : Room) s m args below meth c (vx_MQ below (QiM D cA lo Q) (XcM D cA lo X) args s Cc Zz (fun q => lo ≤ q)) 10 D cA lo cc zz M 225 [(0, .ref a0), (1, .ref a1), (2, .int i2), (3, .int i3), (4, .int i4), (5, .int i5)] []) (fun (a0 : Nat) (a1 : Nat) (i3 : Int32) (i4 : Int32) (i5 : Int32) (is0 : Int32) (is1 : Int32) (M : Mm) (cc zz : Nat) => QW p l e ({ frames := 9, cells := Cc, slots := Zz, locals := 155 } : Room) s m args below meth c (vx_MQ below (QiM D cA lo Q) (XcM D cA lo X) args s Cc Zz (fun q => lo ≤ q)) 10 D cA lo cc zz M 43 [(0, .ref a0), (1, .ref a1), (3, .int i3), (4, .int i4), (5, .int i5)] [.int is1, .int is0]) (fun (a0 : Nat) (i4 : Int32) (is0 : Int32) (is1 : Int32) (M : Mm) (cc zz : Nat) => QW p l e ({ frames := 9, cells := Cc, slots := Zz, locals := 155 } : Room) s m args below meth c (vx_MQ below (QiM D cA lo Q) (XcM D cA lo X) args s Cc Zz (fun q => lo ≤ q)) 10 D cA lo cc zz M 335 [(0, .ref a0), (4, .int i4)] [.int is1, .int is0]) (fun (a0 : Nat) (a1 : Nat) (i2 : Int32) (i3 : Int32) (i4 : Int32) (i5 : Int32) (i6 : Int32) (M : Mm) (cc zz : Nat) => QW p l e ({ frames := 9, cells := Cc, slots := Zz, locals := 155 } : Room) s m args below meth c (vx_MQ below (QiM D cA lo Q) (XcM D cA lo X) args s Cc Zz (fun q => lo ≤ q)) 10 D cA lo cc zz M 235 [(0, .ref a0), (1, .ref a1), (2, .int i2), (3, .int i3), (4, .int i4), (5, .int i5), (6, .int i6)] []) (fun (a0 : Nat) (a1 : Nat) (i2 : Int32) (i3 : Int32) (i4 : Int32) (i5 : Int32) (i6 : Int32) (M : Mm) (cc zz : Nat) => QW p l e ({ frames := 9, cells := Cc, slots := Zz, locals := 155 } : Room) s m args below meth c (vx_MQ below (QiM D cA lo Q) (XcM D cA lo X) args s Cc Zz (fun q => lo ≤ q)) 10 D cA lo cc zz M 73 [(0, .ref a0), (1, .ref a1), (2, .int i2), (3, .int i3), (4, .int i4), (5, .int i5), (6, .int i6)] []) (fun (a0 : Nat) (a1 : Nat) (i2 : Int32) (i3 : Int32) (i4 : Int32) (i5 : Int32) (i6 : Int32) (i7 : Int32) (i9 : Int32) (M : Mm) (cc zz : Nat) => QW p l e ({ frames := 9, cells := Cc, slots := Zz, locals := 155 } : Room) s m args below meth c (vx_MQ below (QiM D cA lo Q) (XcM D cA lo X) args s Cc Zz (fun q => lo ≤ q)) 10 D cA lo cc zz M 179 [(0, .ref a0), (1, .ref a1), (2, .int i2), (3, .int i3), (4, .int i4), (5, .int i5), (6, .int i6), (7, .int i7), (9, .int i9)] []) Cc Zz Q X M a0 a1 i2 i3 i4 i5 i6 cc zz) : QW p l e ({ frames := 9, cells := Cc, slots := Zz, locals := 155 } : Room) s m args below meth c (vx_MQ below (QiM D cA lo Q) (XcM D cA lo X) args s Cc Zz (fun q => lo ≤ q)) 10 D cA lo cc zz M 235 [(0, .ref a0), (1, .ref a1), (2, .int i2), (3, .int i3), (4, .int i4), (5, .int i5), (6, .int i6)] [] := by
  unfold S_L_areRingsRight_235 at h
  refine q_iload C dL_areRingsRight_235 (j := 6) rfl ?_
  refine q_bipush (v := 100) C dL_areRingsRight_237 (by decide) ?_
  refine q_icmp_ge (tgt := 278) C dL_areRingsRight_239 (by decide) (fun z => ?_) (fun z => ?_)
  · have h := h.1 z
    refine q_iinc (v := (i5 + 1)) (lv' := [(5, .int (i5 + 1)), (0, .ref a0), (1, .ref a1), (2, .int i2), (3, .int i3), (4, .int i4), (6, .int i6)]) C dL_areRingsRight_278 (j := 5) rfl rfl (by decide) rfl ?_
    refine q_goto (tgt := 225) C dL_areRingsRight_281 (by decide) ?_
    exact q_sub [1, 2, 3, 4, 5, 0] rfl h
  · have h := h.2 z
    refine q_iload C dL_areRingsRight_242 (j := 4) rfl ?_
    refine q_aload_n C dL_areRingsRight_244 rfl (j := 1) rfl ?_
    refine q_iload C dL_areRingsRight_245 (j := 5) rfl ?_
    obtain ⟨n_13, z1, z2, h⟩ := h
    refine q_bald C z1 z2 dL_areRingsRight_247 ?_
    obtain ⟨a_14, z, h⟩ := h
    refine q_ref z ?_
    refine q_iload C dL_areRingsRight_248 (j := 6) rfl ?_
    obtain ⟨n_15, z1, z2, h⟩ := h
    refine q_zald C z1 z2 dL_areRingsRight_250 ?_
    refine q_if_ne (tgt := 268) C dL_areRingsRight_251 (by decide) (fun z => ?_) (fun z => ?_)
    · have h := h.1 z
      refine q_iconst (v := 0) C dL_areRingsRight_268 (by decide) ?_
      refine q_iadd C dL_areRingsRight_269 ?_
      refine q_istore (lv' := [(4, .int (i4 + 0)), (0, .ref a0), (1, .ref a1), (2, .int i2), (3, .int i3), (5, .int i5), (6, .int i6)]) C dL_areRingsRight_270 (by decide) rfl ?_
      refine q_iinc (v := (i6 + 1)) (lv' := [(6, .int (i6 + 1)), (4, .int (i4 + 0)), (0, .ref a0), (1, .ref a1), (2, .int i2), (3, .int i3), (5, .int i5)]) C dL_areRingsRight_272 (j := 6) rfl rfl (by decide) rfl ?_
      refine q_goto (tgt := 235) C dL_areRingsRight_275 (by decide) ?_
      exact q_sub [2, 3, 4, 5, 1, 6, 0] rfl h
    · have h := h.2 z
      refine q_aload_n C dL_areRingsRight_254 rfl (j := 1) rfl ?_
      refine q_iload C dL_areRingsRight_255 (j := 6) rfl ?_
      obtain ⟨n_16, z1, z2, h⟩ := h
      refine q_bald C z1 z2 dL_areRingsRight_257 ?_
      obtain ⟨a_17, z, h⟩ := h
      refine q_ref z ?_
      refine q_iload C dL_areRingsRight_258 (j := 5) rfl ?_
      obtain ⟨n_18, z1, z2, h⟩ := h
      refine q_zald C z1 z2 dL_areRingsRight_260 ?_
      refine q_if_eq (tgt := 268) C dL_areRingsRight_261 (by decide) (fun z => ?_) (fun z => ?_)
      · have h := h.1 z
        refine q_iconst (v := 0) C dL_areRingsRight_268 (by decide) ?_
        refine q_iadd C dL_areRingsRight_269 ?_
        refine q_istore (lv' := [(4, .int (i4 + 0)), (0, .ref a0), (1, .ref a1), (2, .int i2), (3, .int i3), (5, .int i5), (6, .int i6)]) C dL_areRingsRight_270 (by decide) rfl ?_
        refine q_iinc (v := (i6 + 1)) (lv' := [(6, .int (i6 + 1)), (4, .int (i4 + 0)), (0, .ref a0), (1, .ref a1), (2, .int i2), (3, .int i3), (5, .int i5)]) C dL_areRingsRight_272 (j := 6) rfl rfl (by decide) rfl ?_
        refine q_goto (tgt := 235) C dL_areRingsRight_275 (by decide) ?_
        exact q_sub [2, 3, 4, 5, 1, 6, 0] rfl h
      · have h := h.2 z
        refine q_iconst (v := 1) C dL_areRingsRight_264 (by decide) ?_
        refine q_goto (tgt := 269) C dL_areRingsRight_265 (by decide) ?_
        refine q_iadd C dL_areRingsRight_269 ?_
        refine q_istore (lv' := [(4, .int (i4 + 1)), (0, .ref a0), (1, .ref a1), (2, .int i2), (3, .int i3), (5, .int i5), (6, .int i6)]) C dL_areRingsRight_270 (by decide) rfl ?_
        refine q_iinc (v := (i6 + 1)) (lv' := [(6, .int (i6 + 1)), (4, .int (i4 + 1)), (0, .ref a0), (1, .ref a1), (2, .int i2), (3, .int i3), (5, .int i5)]) C dL_areRingsRight_272 (j := 6) rfl rfl (by decide) rfl ?_
        refine q_goto (tgt := 235) C dL_areRingsRight_275 (by decide) ?_
        exact q_sub [2, 3, 4, 5, 1, 6, 0] rfl h
set_option maxRecDepth 100000 in
set_option maxHeartbeats 4000000 in
theorem b_L_areRingsRight_73 {p : Program} {l : Launch} {e : Env} {s : State} {m : MethodId} {args : Array Value} {below : List Frame} {meth : Method} {c : Code} {D : va_G} {cA : Nat → ClassId} {lo : Nat} (C : Cx p s m args c cL_areRingsRight 10 RL wsL_areRingsRight D cA lo) (hr : meth.sig.returnType = (some .boolean)) (hlk : meth.locks = false) (hl : l.stackTraces = false) (hex : ∀ x ∈ c.exceptionTable.toList, ∀ pc, covers x pc = false) {Q : Int32 → Mm → Prop} {Cc Zz : Nat} {X : String → Mm → Prop} (M : Mm) (a0 : Nat) (a1 : Nat) (i2 : Int32) (i3 : Int32) (i4 : Int32) (i5 : Int32) (i6 : Int32) (cc zz : Nat) (h : S_L_areRingsRight_73 (fun (a0 : Nat) (a1 : Nat) (i2 : Int32) (i3 : Int32) (i4 : Int32) (M : Mm) (cc zz : Nat) => QW p l e ({ frames := 9, cells := Cc, slots := Zz, locals := 155 } : Room) s m args below meth c (vx_MQ below (QiM D cA lo Q) (XcM D cA lo X) args s Cc Zz (fun q => lo ≤ q)) 10 D cA lo cc zz M 16 [(0, .ref a0), (1, .ref a1), (2, .int i2), (3, .int i3), (4, .int i4)] []) (fun (a0 : Nat) (a1 : Nat) (i2 : Int32) (i3 : Int32) (i4 : Int32) (i5 : Int32) (M : Mm) (cc zz : Nat) => QW p l e ({ frames := 9, cells := Cc, slots := Zz, locals := 155 } : Room) s m args below meth c (vx_MQ below (QiM D cA lo Q) (XcM D cA lo X) args s Cc Zz (fun q => lo ≤ q)) 10 D cA lo cc zz M 225 [(0, .ref a0), (1, .ref a1), (2, .int i2), (3, .int i3), (4, .int i4), (5, .int i5)] []) (fun (a0 : Nat) (a1 : Nat) (i3 : Int32) (i4 : Int32) (i5 : Int32) (is0 : Int32) (is1 : Int32) (M : Mm) (cc zz : Nat) => QW p l e ({ frames := 9, cells := Cc, slots := Zz, locals := 155 } : Room) s m args below meth c (vx_MQ below (QiM D cA lo Q) (XcM D cA lo X) args s Cc Zz (fun q => lo ≤ q)) 10 D cA lo cc zz M 43 [(0, .ref a0), (1, .ref a1), (3, .int i3), (4, .int i4), (5, .int i5)] [.int is1, .int is0]) (fun (a0 : Nat) (i4 : Int32) (is0 : Int32) (is1 : Int32) (M : Mm) (cc zz : Nat) => QW p l e ({ frames := 9, cells := Cc, slots := Zz, locals := 155 } : Room) s m args below meth c (vx_MQ below (QiM D cA lo Q) (XcM D cA lo X) args s Cc Zz (fun q => lo ≤ q)) 10 D cA lo cc zz M 335 [(0, .ref a0), (4, .int i4)] [.int is1, .int is0]) (fun (a0 : Nat) (a1 : Nat) (i2 : Int32) (i3 : Int32) (i4 : Int32) (i5 : Int32) (i6 : Int32) (M : Mm) (cc zz : Nat) => QW p l e ({ frames := 9, cells := Cc, slots := Zz, locals := 155 } : Room) s m args below meth c (vx_MQ below (QiM D cA lo Q) (XcM D cA lo X) args s Cc Zz (fun q => lo ≤ q)) 10 D cA lo cc zz M 235 [(0, .ref a0), (1, .ref a1), (2, .int i2), (3, .int i3), (4, .int i4), (5, .int i5), (6, .int i6)] []) (fun (a0 : Nat) (a1 : Nat) (i2 : Int32) (i3 : Int32) (i4 : Int32) (i5 : Int32) (i6 : Int32) (M : Mm) (cc zz : Nat) => QW p l e ({ frames := 9, cells := Cc, slots := Zz, locals := 155 } : Room) s m args below meth c (vx_MQ below (QiM D cA lo Q) (XcM D cA lo X) args s Cc Zz (fun q => lo ≤ q)) 10 D cA lo cc zz M 73 [(0, .ref a0), (1, .ref a1), (2, .int i2), (3, .int i3), (4, .int i4), (5, .int i5), (6, .int i6)] []) (fun (a0 : Nat) (a1 : Nat) (i2 : Int32) (i3 : Int32) (i4 : Int32) (i5 : Int32) (i6 : Int32) (i7 : Int32) (i9 : Int32) (M : Mm) (cc zz : Nat) => QW p l e ({ frames := 9, cells := Cc, slots := Zz, locals := 155 } : Room) s m args below meth c (vx_MQ below (QiM D cA lo Q) (XcM D cA lo X) args s Cc Zz (fun q => lo ≤ q)) 10 D cA lo cc zz M 179 [(0, .ref a0), (1, .ref a1), (2, .int i2), (3, .int i3), (4, .int i4), (5, .int i5), (6, .int i6), (7, .int i7), (9, .int i9)] []) Cc Zz Q X M a0 a1 i2 i3 i4 i5 i6 cc zz) : QW p l e ({ frames := 9, cells := Cc, slots := Zz, locals := 155 } : Room) s m args below meth c (vx_MQ below (QiM D cA lo Q) (XcM D cA lo X) args s Cc Zz (fun q => lo ≤ q)) 10 D cA lo cc zz M 73 [(0, .ref a0), (1, .ref a1), (2, .int i2), (3, .int i3), (4, .int i4), (5, .int i5), (6, .int i6)] [] := by
  unfold S_L_areRingsRight_73 at h
  refine q_iload C dL_areRingsRight_73 (j := 6) rfl ?_
  refine q_iload C dL_areRingsRight_75 (j := 5) rfl ?_
  refine q_icmp_ge (tgt := 213) C dL_areRingsRight_77 (by decide) (fun z => ?_) (fun z => ?_)
  · have h := h.1 z
    refine q_iinc (v := (i4 + 1)) (lv' := [(4, .int (i4 + 1)), (0, .ref a0), (1, .ref a1), (2, .int i2), (3, .int i3), (5, .int i5), (6, .int i6)]) C dL_areRingsRight_213 (j := 4) rfl rfl (by decide) rfl ?_
    refine q_goto (tgt := 16) C dL_areRingsRight_216 (by decide) ?_
    exact q_sub [1, 2, 3, 4, 0] rfl h
  · have h := h.2 z
    refine q_aload_n C dL_areRingsRight_80 rfl (j := 0) rfl ?_
    refine q_iload C dL_areRingsRight_81 (j := 4) rfl ?_
    refine q_iload C dL_areRingsRight_83 (j := 6) rfl ?_
    obtain ⟨dc_21, ds_21, hcz, h⟩ := h
    refine q_xi (qx_runV (As := [.int i4, .int i6]) (st := []) C (c_X8_corner l hl D cA lo h.2) (cwV 2 C.2.2.2.2.1 gL_areRingsRight_X8_corner rfl rfl rfl (by decide +kernel) ⟨Nat.le_of_ble_eq_true rfl, Nat.le_of_ble_eq_true rfl⟩) h.1 (by decide) rfl rfl rfl (Nat.le_of_ble_eq_true rfl) dL_areRingsRight_85 hcz) (fun E M_x h => ?_) (fun r_19 M_20 h => ?_)
    · exact q_xout (fun x hx => hex x hx _) hlk hcz.1 hcz.2 h
    · refine q_istore (lv' := [(7, .int r_19), (0, .ref a0), (1, .ref a1), (2, .int i2), (3, .int i3), (4, .int i4), (5, .int i5), (6, .int i6)]) C dL_areRingsRight_88 (by decide) rfl ?_
      refine q_aload_n C dL_areRingsRight_90 rfl (j := 1) rfl ?_
      refine q_iload C dL_areRingsRight_91 (j := 5) rfl ?_
      refine q_iload C dL_areRingsRight_93 (j := 7) rfl ?_
      refine q_iconst (v := 1) C dL_areRingsRight_95 (by decide) ?_
      refine q_iadd C dL_areRingsRight_96 ?_
      refine q_iload C dL_areRingsRight_97 (j := 6) rfl ?_
      refine q_irem C dL_areRingsRight_99 h.1 ?_
      have h := h.2
      obtain ⟨dc_24, ds_24, hcz, h⟩ := h
      refine q_xi (qx_runV (As := [.int i4, .int ((i6 + 1) - (i6 + 1) / i5 * i5)]) (st := []) C (c_X8_corner l hl D cA lo h.2) (cwV 2 C.2.2.2.2.1 gL_areRingsRight_X8_corner rfl rfl rfl (by decide +kernel) ⟨Nat.le_of_ble_eq_true rfl, Nat.le_of_ble_eq_true rfl⟩) h.1 (by decide) rfl rfl rfl (Nat.le_of_ble_eq_true rfl) dL_areRingsRight_100 hcz) (fun E M_x h => ?_) (fun r_22 M_23 h => ?_)
      · exact q_xout (fun x hx => hex x hx _) hlk hcz.1 hcz.2 h
      · refine q_istore (lv' := [(8, .int r_22), (7, .int r_19), (0, .ref a0), (1, .ref a1), (2, .int i2), (3, .int i3), (4, .int i4), (5, .int i5), (6, .int i6)]) C dL_areRingsRight_103 (by decide) rfl ?_
        refine q_aload_n C dL_areRingsRight_105 rfl (j := 3) rfl ?_
        refine q_iload C dL_areRingsRight_106 (j := 1) rfl ?_
        obtain ⟨n_25, z1, z2, h⟩ := h
        refine q_bald C z1 z2 dL_areRingsRight_108 ?_
        obtain ⟨a_26, z, h⟩ := h
        refine q_ref z ?_
        refine q_iload C dL_areRingsRight_109 (j := 0) rfl ?_
        obtain ⟨n_27, z1, z2, h⟩ := h
        refine q_zald C z1 z2 dL_areRingsRight_111 ?_
        refine q_if_ne (tgt := 166) C dL_areRingsRight_112 (by decide) (fun z => ?_) (fun z => ?_)
        · have h := h.1 z
          refine q_iconst (v := 0) C dL_areRingsRight_166 (by decide) ?_
          exact q_xret (q_zret C hr hlk dL_areRingsRight_167 h.1 h.2.1 (Or.inl rfl) h.2.2)
        · have h := h.2 z
          refine q_aload_n C dL_areRingsRight_115 rfl (j := 2) rfl ?_
          refine q_iload C dL_areRingsRight_116 (j := 1) rfl ?_
          refine q_iload C dL_areRingsRight_118 (j := 0) rfl ?_
          obtain ⟨dc_30, ds_30, hcz, h⟩ := h
          refine q_xi (qx_runV (As := [.int r_19, .int r_22]) (st := []) C (c_X8_faceOf l hl D cA lo h.2) (cwV 2 C.2.2.2.2.1 gL_areRingsRight_X8_faceOf rfl rfl rfl (by decide +kernel) ⟨Nat.le_of_ble_eq_true rfl, Nat.le_of_ble_eq_true rfl⟩) h.1 (by decide) rfl rfl rfl (Nat.le_of_ble_eq_true rfl) dL_areRingsRight_120 hcz) (fun E M_x h => ?_) (fun r_28 M_29 h => ?_)
          · exact q_xout (fun x hx => hex x hx _) hlk hcz.1 hcz.2 h
          · refine q_iload C dL_areRingsRight_123 (j := 6) rfl ?_
            refine q_icmp_ne (tgt := 166) C dL_areRingsRight_125 (by decide) (fun z => ?_) (fun z => ?_)
            · have h := h.1 z
              refine q_iconst (v := 0) C dL_areRingsRight_166 (by decide) ?_
              exact q_xret (q_zret C hr hlk dL_areRingsRight_167 h.1 h.2.1 (Or.inl rfl) h.2.2)
            · have h := h.2 z
              refine q_aload_n C dL_areRingsRight_128 rfl (j := 2) rfl ?_
              refine q_iload C dL_areRingsRight_129 (j := 1) rfl ?_
              refine q_iconst (v := 0) C dL_areRingsRight_131 (by decide) ?_
              obtain ⟨dc_33, ds_33, hcz, h⟩ := h
              refine q_xi (qx_runV (As := [.int r_19, .int 0]) (st := []) C (c_X8_at l hl D cA lo h.2) (cwV 2 C.2.2.2.2.1 gL_areRingsRight_X8_at rfl rfl rfl (by decide +kernel) ⟨Nat.le_of_ble_eq_true rfl, Nat.le_of_ble_eq_true rfl⟩) h.1 (by decide) rfl rfl rfl (Nat.le_of_ble_eq_true rfl) dL_areRingsRight_132 hcz) (fun E M_x h => ?_) (fun r_31 M_32 h => ?_)
              · exact q_xout (fun x hx => hex x hx _) hlk hcz.1 hcz.2 h
              · refine q_sipush (v := (-500)) C dL_areRingsRight_135 (by decide) ?_
                refine q_icmp_lt (tgt := 166) C dL_areRingsRight_138 (by decide) (fun z => ?_) (fun z => ?_)
                · have h := h.1 z
                  refine q_iconst (v := 0) C dL_areRingsRight_166 (by decide) ?_
                  exact q_xret (q_zret C hr hlk dL_areRingsRight_167 h.1 h.2.1 (Or.inl rfl) h.2.2)
                · have h := h.2 z
                  refine q_aload_n C dL_areRingsRight_141 rfl (j := 2) rfl ?_
                  refine q_iload C dL_areRingsRight_142 (j := 1) rfl ?_
                  refine q_iconst (v := 2) C dL_areRingsRight_144 (by decide) ?_
                  obtain ⟨dc_36, ds_36, hcz, h⟩ := h
                  refine q_xi (qx_runV (As := [.int r_19, .int 2]) (st := []) C (c_X8_at l hl D cA lo h.2) (cwV 2 C.2.2.2.2.1 gL_areRingsRight_X8_at rfl rfl rfl (by decide +kernel) ⟨Nat.le_of_ble_eq_true rfl, Nat.le_of_ble_eq_true rfl⟩) h.1 (by decide) rfl rfl rfl (Nat.le_of_ble_eq_true rfl) dL_areRingsRight_145 hcz) (fun E M_x h => ?_) (fun r_34 M_35 h => ?_)
                  · exact q_xout (fun x hx => hex x hx _) hlk hcz.1 hcz.2 h
                  · refine q_sipush (v := 500) C dL_areRingsRight_148 (by decide) ?_
                    refine q_icmp_gt (tgt := 166) C dL_areRingsRight_151 (by decide) (fun z => ?_) (fun z => ?_)
                    · have h := h.1 z
                      refine q_iconst (v := 0) C dL_areRingsRight_166 (by decide) ?_
                      exact q_xret (q_zret C hr hlk dL_areRingsRight_167 h.1 h.2.1 (Or.inl rfl) h.2.2)
                    · have h := h.2 z
                      refine q_aload_n C dL_areRingsRight_154 rfl (j := 2) rfl ?_
                      refine q_iload C dL_areRingsRight_155 (j := 1) rfl ?_
                      refine q_iload C dL_areRingsRight_157 (j := 0) rfl ?_
                      obtain ⟨dc_39, ds_39, hcz, h⟩ := h
                      refine q_xi (qx_runV (As := [.int r_19, .int r_22]) (st := []) C (c_X8_steps l hl D cA lo h.2) (cwV 2 C.2.2.2.2.1 gL_areRingsRight_X8_steps rfl rfl rfl (by decide +kernel) ⟨Nat.le_of_ble_eq_true rfl, Nat.le_of_ble_eq_true rfl⟩) h.1 (by decide) rfl rfl rfl (Nat.le_of_ble_eq_true rfl) dL_areRingsRight_159 hcz) (fun E M_x h => ?_) (fun r_37 M_38 h => ?_)
                      · exact q_xout (fun x hx => hex x hx _) hlk hcz.1 hcz.2 h
                      · refine q_iconst (v := 1) C dL_areRingsRight_162 (by decide) ?_
                        refine q_icmp_eq (tgt := 168) C dL_areRingsRight_163 (by decide) (fun z => ?_) (fun z => ?_)
                        · have h := h.1 z
                          refine q_aload_n C dL_areRingsRight_168 rfl (j := 3) rfl ?_
                          refine q_iload C dL_areRingsRight_169 (j := 1) rfl ?_
                          obtain ⟨n_40, z1, z2, h⟩ := h
                          refine q_bald C z1 z2 dL_areRingsRight_171 ?_
                          obtain ⟨a_41, z, h⟩ := h
                          refine q_ref z ?_
                          refine q_iload C dL_areRingsRight_172 (j := 0) rfl ?_
                          refine q_iconst (v := 1) C dL_areRingsRight_174 (by decide) ?_
                          obtain ⟨n_42, z1, z2, h⟩ := h
                          refine q_zast C z1 z2 dL_areRingsRight_175 ?_
                          refine q_iconst (v := 0) C dL_areRingsRight_176 (by decide) ?_
                          refine q_istore (lv' := [(9, .int 0), (8, .int r_22), (7, .int r_19), (0, .ref a0), (1, .ref a1), (2, .int i2), (3, .int i3), (4, .int i4), (5, .int i5), (6, .int i6)]) C dL_areRingsRight_177 (by decide) rfl ?_
                          exact q_sub [3, 4, 5, 6, 7, 8, 9, 2, 0] rfl h
                        · have h := h.2 z
                          refine q_iconst (v := 0) C dL_areRingsRight_166 (by decide) ?_
                          exact q_xret (q_zret C hr hlk dL_areRingsRight_167 h.1 h.2.1 (Or.inl rfl) h.2.2)
set_option maxRecDepth 100000 in
set_option maxHeartbeats 4000000 in
theorem b_L_areRingsRight_179 {p : Program} {l : Launch} {e : Env} {s : State} {m : MethodId} {args : Array Value} {below : List Frame} {meth : Method} {c : Code} {D : va_G} {cA : Nat → ClassId} {lo : Nat} (C : Cx p s m args c cL_areRingsRight 10 RL wsL_areRingsRight D cA lo) (hr : meth.sig.returnType = (some .boolean)) (hlk : meth.locks = false) (hl : l.stackTraces = false) (hex : ∀ x ∈ c.exceptionTable.toList, ∀ pc, covers x pc = false) {Q : Int32 → Mm → Prop} {Cc Zz : Nat} {X : String → Mm → Prop} (M : Mm) (a0 : Nat) (a1 : Nat) (i2 : Int32) (i3 : Int32) (i4 : Int32) (i5 : Int32) (i6 : Int32) (i7 : Int32) (i9 : Int32) (cc zz : Nat) (h : S_L_areRingsRight_179 (fun (a0 : Nat) (a1 : Nat) (i2 : Int32) (i3 : Int32) (i4 : Int32) (M : Mm) (cc zz : Nat) => QW p l e ({ frames := 9, cells := Cc, slots := Zz, locals := 155 } : Room) s m args below meth c (vx_MQ below (QiM D cA lo Q) (XcM D cA lo X) args s Cc Zz (fun q => lo ≤ q)) 10 D cA lo cc zz M 16 [(0, .ref a0), (1, .ref a1), (2, .int i2), (3, .int i3), (4, .int i4)] []) (fun (a0 : Nat) (a1 : Nat) (i2 : Int32) (i3 : Int32) (i4 : Int32) (i5 : Int32) (M : Mm) (cc zz : Nat) => QW p l e ({ frames := 9, cells := Cc, slots := Zz, locals := 155 } : Room) s m args below meth c (vx_MQ below (QiM D cA lo Q) (XcM D cA lo X) args s Cc Zz (fun q => lo ≤ q)) 10 D cA lo cc zz M 225 [(0, .ref a0), (1, .ref a1), (2, .int i2), (3, .int i3), (4, .int i4), (5, .int i5)] []) (fun (a0 : Nat) (a1 : Nat) (i3 : Int32) (i4 : Int32) (i5 : Int32) (is0 : Int32) (is1 : Int32) (M : Mm) (cc zz : Nat) => QW p l e ({ frames := 9, cells := Cc, slots := Zz, locals := 155 } : Room) s m args below meth c (vx_MQ below (QiM D cA lo Q) (XcM D cA lo X) args s Cc Zz (fun q => lo ≤ q)) 10 D cA lo cc zz M 43 [(0, .ref a0), (1, .ref a1), (3, .int i3), (4, .int i4), (5, .int i5)] [.int is1, .int is0]) (fun (a0 : Nat) (i4 : Int32) (is0 : Int32) (is1 : Int32) (M : Mm) (cc zz : Nat) => QW p l e ({ frames := 9, cells := Cc, slots := Zz, locals := 155 } : Room) s m args below meth c (vx_MQ below (QiM D cA lo Q) (XcM D cA lo X) args s Cc Zz (fun q => lo ≤ q)) 10 D cA lo cc zz M 335 [(0, .ref a0), (4, .int i4)] [.int is1, .int is0]) (fun (a0 : Nat) (a1 : Nat) (i2 : Int32) (i3 : Int32) (i4 : Int32) (i5 : Int32) (i6 : Int32) (M : Mm) (cc zz : Nat) => QW p l e ({ frames := 9, cells := Cc, slots := Zz, locals := 155 } : Room) s m args below meth c (vx_MQ below (QiM D cA lo Q) (XcM D cA lo X) args s Cc Zz (fun q => lo ≤ q)) 10 D cA lo cc zz M 235 [(0, .ref a0), (1, .ref a1), (2, .int i2), (3, .int i3), (4, .int i4), (5, .int i5), (6, .int i6)] []) (fun (a0 : Nat) (a1 : Nat) (i2 : Int32) (i3 : Int32) (i4 : Int32) (i5 : Int32) (i6 : Int32) (M : Mm) (cc zz : Nat) => QW p l e ({ frames := 9, cells := Cc, slots := Zz, locals := 155 } : Room) s m args below meth c (vx_MQ below (QiM D cA lo Q) (XcM D cA lo X) args s Cc Zz (fun q => lo ≤ q)) 10 D cA lo cc zz M 73 [(0, .ref a0), (1, .ref a1), (2, .int i2), (3, .int i3), (4, .int i4), (5, .int i5), (6, .int i6)] []) (fun (a0 : Nat) (a1 : Nat) (i2 : Int32) (i3 : Int32) (i4 : Int32) (i5 : Int32) (i6 : Int32) (i7 : Int32) (i9 : Int32) (M : Mm) (cc zz : Nat) => QW p l e ({ frames := 9, cells := Cc, slots := Zz, locals := 155 } : Room) s m args below meth c (vx_MQ below (QiM D cA lo Q) (XcM D cA lo X) args s Cc Zz (fun q => lo ≤ q)) 10 D cA lo cc zz M 179 [(0, .ref a0), (1, .ref a1), (2, .int i2), (3, .int i3), (4, .int i4), (5, .int i5), (6, .int i6), (7, .int i7), (9, .int i9)] []) Cc Zz Q X M a0 a1 i2 i3 i4 i5 i6 i7 i9 cc zz) : QW p l e ({ frames := 9, cells := Cc, slots := Zz, locals := 155 } : Room) s m args below meth c (vx_MQ below (QiM D cA lo Q) (XcM D cA lo X) args s Cc Zz (fun q => lo ≤ q)) 10 D cA lo cc zz M 179 [(0, .ref a0), (1, .ref a1), (2, .int i2), (3, .int i3), (4, .int i4), (5, .int i5), (6, .int i6), (7, .int i7), (9, .int i9)] [] := by
  unfold S_L_areRingsRight_179 at h
  refine q_iload C dL_areRingsRight_179 (j := 8) rfl ?_
  refine q_iload C dL_areRingsRight_181 (j := 6) rfl ?_
  refine q_icmp_ge (tgt := 207) C dL_areRingsRight_183 (by decide) (fun z => ?_) (fun z => ?_)
  · have h := h.1 z
    refine q_iinc (v := (i6 + 1)) (lv' := [(6, .int (i6 + 1)), (0, .ref a0), (1, .ref a1), (2, .int i2), (3, .int i3), (4, .int i4), (5, .int i5), (7, .int i7), (9, .int i9)]) C dL_areRingsRight_207 (j := 6) rfl rfl (by decide) rfl ?_
    refine q_goto (tgt := 73) C dL_areRingsRight_210 (by decide) ?_
    exact q_sub [1, 2, 3, 4, 5, 6, 0] rfl h
  · have h := h.2 z
    refine q_aload_n C dL_areRingsRight_186 rfl (j := 0) rfl ?_
    refine q_iload C dL_areRingsRight_187 (j := 4) rfl ?_
    refine q_iload C dL_areRingsRight_189 (j := 8) rfl ?_
    obtain ⟨dc_45, ds_45, hcz, h⟩ := h
    refine q_xi (qx_runV (As := [.int i4, .int i9]) (st := []) C (c_X8_corner l hl D cA lo h.2) (cwV 2 C.2.2.2.2.1 gL_areRingsRight_X8_corner rfl rfl rfl (by decide +kernel) ⟨Nat.le_of_ble_eq_true rfl, Nat.le_of_ble_eq_true rfl⟩) h.1 (by decide) rfl rfl rfl (Nat.le_of_ble_eq_true rfl) dL_areRingsRight_191 hcz) (fun E M_x h => ?_) (fun r_43 M_44 h => ?_)
    · exact q_xout (fun x hx => hex x hx _) hlk hcz.1 hcz.2 h
    · refine q_iload C dL_areRingsRight_194 (j := 7) rfl ?_
      refine q_icmp_ne (tgt := 201) C dL_areRingsRight_196 (by decide) (fun z => ?_) (fun z => ?_)
      · have h := h.1 z
        refine q_iinc (v := (i9 + 1)) (lv' := [(9, .int (i9 + 1)), (0, .ref a0), (1, .ref a1), (2, .int i2), (3, .int i3), (4, .int i4), (5, .int i5), (6, .int i6), (7, .int i7)]) C dL_areRingsRight_201 (j := 8) rfl rfl (by decide) rfl ?_
        refine q_goto (tgt := 179) C dL_areRingsRight_204 (by decide) ?_
        exact q_sub [1, 2, 3, 4, 5, 6, 7, 8, 0] rfl h
      · have h := h.2 z
        refine q_iconst (v := 0) C dL_areRingsRight_199 (by decide) ?_
        exact q_xret (q_zret C hr hlk dL_areRingsRight_200 h.1 h.2.1 (Or.inl rfl) h.2.2)
set_option maxRecDepth 100000 in
set_option maxHeartbeats 4000000 in
theorem c_L_areRingsRight (l : Launch) (hl : l.stackTraces = false) (D : va_G) (cA : Nat → ClassId) (lo : Nat) {M : Mm} {a0 : Nat} {Cc Zz : Nat} {Q : Int32 → Mm → Prop} {X : String → Mm → Prop} (h : T_L_areRingsRight Cc Zz M a0 Q X) : vx_Met l yL_areRingsRight wsL_areRingsRight ({ frames := 9, cells := Cc, slots := Zz, locals := 155 } : Room) (PcM D cA lo [.ref a0] M) (QiM D cA lo Q) (XcM D cA lo X) Cc Zz (fun q => lo ≤ q) := by
  refine q_startX (cc := cL_areRingsRight) (nL := 10) (ret := (some .boolean)) (by decide) rfl rfl (Nat.le_of_ble_eq_true rfl) ?_
  intro p e s m args below meth c C hr hlk hin hex
  unfold T_L_areRingsRight at h
  have h := h (fun (a0 : Nat) (a1 : Nat) (i2 : Int32) (i3 : Int32) (i4 : Int32) (M : Mm) (cc zz : Nat) => QW p l e ({ frames := 9, cells := Cc, slots := Zz, locals := 155 } : Room) s m args below meth c (vx_MQ below (QiM D cA lo Q) (XcM D cA lo X) args s Cc Zz (fun q => lo ≤ q)) 10 D cA lo cc zz M 16 [(0, .ref a0), (1, .ref a1), (2, .int i2), (3, .int i3), (4, .int i4)] []) (fun (a0 : Nat) (a1 : Nat) (i2 : Int32) (i3 : Int32) (i4 : Int32) (i5 : Int32) (M : Mm) (cc zz : Nat) => QW p l e ({ frames := 9, cells := Cc, slots := Zz, locals := 155 } : Room) s m args below meth c (vx_MQ below (QiM D cA lo Q) (XcM D cA lo X) args s Cc Zz (fun q => lo ≤ q)) 10 D cA lo cc zz M 225 [(0, .ref a0), (1, .ref a1), (2, .int i2), (3, .int i3), (4, .int i4), (5, .int i5)] []) (fun (a0 : Nat) (a1 : Nat) (i3 : Int32) (i4 : Int32) (i5 : Int32) (is0 : Int32) (is1 : Int32) (M : Mm) (cc zz : Nat) => QW p l e ({ frames := 9, cells := Cc, slots := Zz, locals := 155 } : Room) s m args below meth c (vx_MQ below (QiM D cA lo Q) (XcM D cA lo X) args s Cc Zz (fun q => lo ≤ q)) 10 D cA lo cc zz M 43 [(0, .ref a0), (1, .ref a1), (3, .int i3), (4, .int i4), (5, .int i5)] [.int is1, .int is0]) (fun (a0 : Nat) (i4 : Int32) (is0 : Int32) (is1 : Int32) (M : Mm) (cc zz : Nat) => QW p l e ({ frames := 9, cells := Cc, slots := Zz, locals := 155 } : Room) s m args below meth c (vx_MQ below (QiM D cA lo Q) (XcM D cA lo X) args s Cc Zz (fun q => lo ≤ q)) 10 D cA lo cc zz M 335 [(0, .ref a0), (4, .int i4)] [.int is1, .int is0]) (fun (a0 : Nat) (a1 : Nat) (i2 : Int32) (i3 : Int32) (i4 : Int32) (i5 : Int32) (i6 : Int32) (M : Mm) (cc zz : Nat) => QW p l e ({ frames := 9, cells := Cc, slots := Zz, locals := 155 } : Room) s m args below meth c (vx_MQ below (QiM D cA lo Q) (XcM D cA lo X) args s Cc Zz (fun q => lo ≤ q)) 10 D cA lo cc zz M 235 [(0, .ref a0), (1, .ref a1), (2, .int i2), (3, .int i3), (4, .int i4), (5, .int i5), (6, .int i6)] []) (fun (a0 : Nat) (a1 : Nat) (i2 : Int32) (i3 : Int32) (i4 : Int32) (i5 : Int32) (i6 : Int32) (M : Mm) (cc zz : Nat) => QW p l e ({ frames := 9, cells := Cc, slots := Zz, locals := 155 } : Room) s m args below meth c (vx_MQ below (QiM D cA lo Q) (XcM D cA lo X) args s Cc Zz (fun q => lo ≤ q)) 10 D cA lo cc zz M 73 [(0, .ref a0), (1, .ref a1), (2, .int i2), (3, .int i3), (4, .int i4), (5, .int i5), (6, .int i6)] []) (fun (a0 : Nat) (a1 : Nat) (i2 : Int32) (i3 : Int32) (i4 : Int32) (i5 : Int32) (i6 : Int32) (i7 : Int32) (i9 : Int32) (M : Mm) (cc zz : Nat) => QW p l e ({ frames := 9, cells := Cc, slots := Zz, locals := 155 } : Room) s m args below meth c (vx_MQ below (QiM D cA lo Q) (XcM D cA lo X) args s Cc Zz (fun q => lo ≤ q)) 10 D cA lo cc zz M 179 [(0, .ref a0), (1, .ref a1), (2, .int i2), (3, .int i3), (4, .int i4), (5, .int i5), (6, .int i6), (7, .int i7), (9, .int i9)] []) (fun a0 a1 i2 i3 i4 M cc zz h => b_L_areRingsRight_16 C hr hlk hl hex M a0 a1 i2 i3 i4 cc zz h) (fun a0 a1 i2 i3 i4 i5 M cc zz h => b_L_areRingsRight_225 C hr hlk hl hex M a0 a1 i2 i3 i4 i5 cc zz h) (fun a0 a1 i3 i4 i5 is0 is1 M cc zz h => b_L_areRingsRight_43 C hr hlk hl hex M a0 a1 i3 i4 i5 is0 is1 cc zz h) (fun a0 i4 is0 is1 M cc zz h => b_L_areRingsRight_335 C hr hlk hl hex M a0 i4 is0 is1 cc zz h) (fun a0 a1 i2 i3 i4 i5 i6 M cc zz h => b_L_areRingsRight_235 C hr hlk hl hex M a0 a1 i2 i3 i4 i5 i6 cc zz h) (fun a0 a1 i2 i3 i4 i5 i6 M cc zz h => b_L_areRingsRight_73 C hr hlk hl hex M a0 a1 i2 i3 i4 i5 i6 cc zz h) (fun a0 a1 i2 i3 i4 i5 i6 i7 i9 M cc zz h => b_L_areRingsRight_179 C hr hlk hl hex M a0 a1 i2 i3 i4 i5 i6 i7 i9 cc zz h)
  refine q_bipush (v := 100) C dL_areRingsRight_0 (by decide) ?_
  refine q_bipush (v := 100) C dL_areRingsRight_2 (by decide) ?_
  refine q_mnaZ (N := 100) (K := 100) C (by decide +kernel) (C.2.2.2.2.2.2.2.2.2.2.2.2.2.2.2.2.2.use) (by decide +kernel) (by decide) (by decide) (by decide) (by decide) (by decide) (by decide) (by decide) ⟨h.1, h.2.1⟩ dL_areRingsRight_4 (fun q_1 hq _ => ?_)
  have h := h.2.2 q_1 hq
  refine q_astore_n (lv' := [(1, .ref q_1), (0, .ref a0)]) C dL_areRingsRight_8 rfl (by decide) rfl ?_
  refine q_iconst (v := 0) C dL_areRingsRight_9 (by decide) ?_
  refine q_istore_n (lv' := [(2, .int 0), (1, .ref q_1), (0, .ref a0)]) C dL_areRingsRight_10 rfl (by decide) rfl ?_
  refine q_iconst (v := 0) C dL_areRingsRight_11 (by decide) ?_
  refine q_istore_n (lv' := [(3, .int 0), (2, .int 0), (1, .ref q_1), (0, .ref a0)]) C dL_areRingsRight_12 rfl (by decide) rfl ?_
  refine q_iconst (v := 0) C dL_areRingsRight_13 (by decide) ?_
  refine q_istore (lv' := [(4, .int 0), (3, .int 0), (2, .int 0), (1, .ref q_1), (0, .ref a0)]) C dL_areRingsRight_14 (by decide) rfl ?_
  exact q_sub [4, 3, 2, 1, 0] rfl h
set_option maxRecDepth 100000 in
set_option maxHeartbeats 4000000 in
theorem b_L_isMayRight_43 {p : Program} {l : Launch} {e : Env} {s : State} {m : MethodId} {args : Array Value} {below : List Frame} {meth : Method} {c : Code} {D : va_G} {cA : Nat → ClassId} {lo : Nat} (C : Cx p s m args c cL_isMayRight 6 RL wsL_isMayRight D cA lo) (hr : meth.sig.returnType = (some .boolean)) (hlk : meth.locks = false) (hl : l.stackTraces = false) (hex : ∀ x ∈ c.exceptionTable.toList, ∀ pc, covers x pc = false) {Q : Int32 → Mm → Prop} {Cc Zz : Nat} {X : String → Mm → Prop} (M : Mm) (a0 : Nat) (i3 : Int32) (cc zz : Nat) (h : S_L_isMayRight_43 (fun (a0 : Nat) (i3 : Int32) (M : Mm) (cc zz : Nat) => QW p l e ({ frames := 9, cells := Cc, slots := Zz, locals := 166 } : Room) s m args below meth c (vx_MQ below (QiM D cA lo Q) (XcM D cA lo X) args s Cc Zz (fun q => lo ≤ q)) 6 D cA lo cc zz M 43 [(0, .ref a0), (3, .int i3)] []) (fun (a0 : Nat) (i3 : Int32) (i4 : Int32) (i5 : Int32) (M : Mm) (cc zz : Nat) => QW p l e ({ frames := 9, cells := Cc, slots := Zz, locals := 166 } : Room) s m args below meth c (vx_MQ below (QiM D cA lo Q) (XcM D cA lo X) args s Cc Zz (fun q => lo ≤ q)) 6 D cA lo cc zz M 75 [(0, .ref a0), (3, .int i3), (4, .int i4), (5, .int i5)] []) Cc Zz Q X M a0 i3 cc zz) : QW p l e ({ frames := 9, cells := Cc, slots := Zz, locals := 166 } : Room) s m args below meth c (vx_MQ below (QiM D cA lo Q) (XcM D cA lo X) args s Cc Zz (fun q => lo ≤ q)) 6 D cA lo cc zz M 43 [(0, .ref a0), (3, .int i3)] [] := by
  unfold S_L_isMayRight_43 at h
  refine q_iload_n C dL_isMayRight_43 rfl (j := 1) rfl ?_
  refine q_sipush (v := 160) C dL_isMayRight_44 (by decide) ?_
  refine q_icmp_ge (tgt := 123) C dL_isMayRight_47 (by decide) (fun z => ?_) (fun z => ?_)
  · have h := h.1 z
    refine q_aload_n C dL_isMayRight_123 rfl (j := 0) rfl ?_
    have hcz := h.1
    have h := h.2
    refine q_cd (q_runV (As := []) (st := []) C (c_X8_meanEdge l D cA lo h.2) (cwV 0 C.2.2.2.2.1 gL_isMayRight_X8_meanEdge rfl rfl rfl (by decide +kernel) ⟨Nat.le_of_ble_eq_true rfl, Nat.le_of_ble_eq_true rfl⟩) h.1 (by decide) rfl rfl rfl (Nat.le_of_ble_eq_true rfl) dL_isMayRight_124 ⟨Nat.le_trans (Nat.le_of_eq (Nat.add_zero _)) hcz.1, Nat.le_trans (Nat.le_of_eq (Nat.add_zero _)) hcz.2⟩) (fun r_12 M_z h => ?_)
    refine q_mem h.1 ?_
    have h := h.2
    refine q_dconst0 C dL_isMayRight_127 ?_
    refine q_dcmp C dL_isMayRight_128 ?_
    refine q_if_lt (tgt := 136) C dL_isMayRight_129 (by decide) (fun z => ?_) (fun z => ?_)
    · have h := h.1 z
      refine q_iconst (v := 0) C dL_isMayRight_136 (by decide) ?_
      exact q_xret (q_zret C hr hlk dL_isMayRight_137 h.1 h.2.1 (Or.inl rfl) h.2.2)
    · have h := h.2 z
      refine q_iconst (v := 1) C dL_isMayRight_132 (by decide) ?_
      refine q_goto (tgt := 137) C dL_isMayRight_133 (by decide) ?_
      exact q_xret (q_zret C hr hlk dL_isMayRight_137 h.1 h.2.1 (Or.inr rfl) h.2.2)
  · have h := h.2 z
    refine q_aload_n C dL_isMayRight_50 rfl (j := 0) rfl ?_
    refine q_iload_n C dL_isMayRight_51 rfl (j := 1) rfl ?_
    obtain ⟨dc_15, ds_15, hcz, h⟩ := h
    refine q_xw (q_runSW (As := [.ref a0, .int i3]) (st := []) C (c_L_sizeOf l hl D cA lo h) (vx_cwSW 2 C.2.2.2.2.1 gL_isMayRight_L_sizeOf rfl rfl rfl (by decide +kernel) ⟨Nat.le_of_ble_eq_true rfl, Nat.le_of_ble_eq_true rfl⟩) rfl rfl (Nat.le_of_ble_eq_true rfl) dL_isMayRight_52 hcz) (fun E M_x h => ?_) (fun r_13 M_14 h => ?_)
    · exact h.elim
    · refine q_istore (lv' := [(4, .int r_13), (0, .ref a0), (3, .int i3)]) C dL_isMayRight_55 (by decide) rfl ?_
      refine q_iload C dL_isMayRight_57 (j := 0) rfl ?_
      refine q_if_le (tgt := 72) C dL_isMayRight_59 (by decide) (fun z => ?_) (fun z => ?_)
      · have h := h.1 z
        refine q_iconst (v := 0) C dL_isMayRight_72 (by decide) ?_
        refine q_istore (lv' := [(5, .int 0), (4, .int r_13), (0, .ref a0), (3, .int i3)]) C dL_isMayRight_73 (by decide) rfl ?_
        exact q_sub [2, 3, 1, 0] rfl h
      · have h := h.2 z
        refine q_aload_n C dL_isMayRight_62 rfl (j := 1) rfl ?_
        refine q_iload_n C dL_isMayRight_63 rfl (j := 2) rfl ?_
        obtain ⟨dc_18, ds_18, hcz, h⟩ := h
        refine q_xi (qx_runV (As := [.int i3]) (st := []) C (c_X8_holesWithout l hl D cA lo h.2) (cwV 1 C.2.2.2.2.1 gL_isMayRight_X8_holesWithout rfl rfl rfl (by decide +kernel) ⟨Nat.le_of_ble_eq_true rfl, Nat.le_of_ble_eq_true rfl⟩) h.1 (by decide) rfl rfl rfl (Nat.le_of_ble_eq_true rfl) dL_isMayRight_64 hcz) (fun E M_x h => ?_) (fun r_16 M_17 h => ?_)
        · exact q_xout (fun x hx => hex x hx _) hlk hcz.1 hcz.2 h
        · refine q_if_ge (tgt := 72) C dL_isMayRight_67 (by decide) (fun z => ?_) (fun z => ?_)
          · have h := h.1 z
            refine q_iconst (v := 0) C dL_isMayRight_72 (by decide) ?_
            refine q_istore (lv' := [(5, .int 0), (4, .int r_13), (0, .ref a0), (3, .int i3)]) C dL_isMayRight_73 (by decide) rfl ?_
            exact q_sub [2, 3, 1, 0] rfl h
          · have h := h.2 z
            refine q_iconst (v := 0) C dL_isMayRight_70 (by decide) ?_
            exact q_xret (q_zret C hr hlk dL_isMayRight_71 h.1 h.2.1 (Or.inl rfl) h.2.2)
set_option maxRecDepth 100000 in
set_option maxHeartbeats 4000000 in
theorem b_L_isMayRight_75 {p : Program} {l : Launch} {e : Env} {s : State} {m : MethodId} {args : Array Value} {below : List Frame} {meth : Method} {c : Code} {D : va_G} {cA : Nat → ClassId} {lo : Nat} (C : Cx p s m args c cL_isMayRight 6 RL wsL_isMayRight D cA lo) (hr : meth.sig.returnType = (some .boolean)) (hlk : meth.locks = false) (hl : l.stackTraces = false) (hex : ∀ x ∈ c.exceptionTable.toList, ∀ pc, covers x pc = false) {Q : Int32 → Mm → Prop} {Cc Zz : Nat} {X : String → Mm → Prop} (M : Mm) (a0 : Nat) (i3 : Int32) (i4 : Int32) (i5 : Int32) (cc zz : Nat) (h : S_L_isMayRight_75 (fun (a0 : Nat) (i3 : Int32) (M : Mm) (cc zz : Nat) => QW p l e ({ frames := 9, cells := Cc, slots := Zz, locals := 166 } : Room) s m args below meth c (vx_MQ below (QiM D cA lo Q) (XcM D cA lo X) args s Cc Zz (fun q => lo ≤ q)) 6 D cA lo cc zz M 43 [(0, .ref a0), (3, .int i3)] []) (fun (a0 : Nat) (i3 : Int32) (i4 : Int32) (i5 : Int32) (M : Mm) (cc zz : Nat) => QW p l e ({ frames := 9, cells := Cc, slots := Zz, locals := 166 } : Room) s m args below meth c (vx_MQ below (QiM D cA lo Q) (XcM D cA lo X) args s Cc Zz (fun q => lo ≤ q)) 6 D cA lo cc zz M 75 [(0, .ref a0), (3, .int i3), (4, .int i4), (5, .int i5)] []) Cc Zz Q X M a0 i3 i4 i5 cc zz) : QW p l e ({ frames := 9, cells := Cc, slots := Zz, locals := 166 } : Room) s m args below meth c (vx_MQ below (QiM D cA lo Q) (XcM D cA lo X) args s Cc Zz (fun q => lo ≤ q)) 6 D cA lo cc zz M 75 [(0, .ref a0), (3, .int i3), (4, .int i4), (5, .int i5)] [] := by
  unfold S_L_isMayRight_75 at h
  refine q_iload C dL_isMayRight_75 (j := 3) rfl ?_
  refine q_iload C dL_isMayRight_77 (j := 2) rfl ?_
  refine q_icmp_ge (tgt := 117) C dL_isMayRight_79 (by decide) (fun z => ?_) (fun z => ?_)
  · have h := h.1 z
    refine q_iinc (v := (i3 + 7)) (lv' := [(3, .int (i3 + 7)), (0, .ref a0), (4, .int i4), (5, .int i5)]) C dL_isMayRight_117 (j := 1) rfl rfl (by decide) rfl ?_
    refine q_goto (tgt := 43) C dL_isMayRight_120 (by decide) ?_
    exact q_sub [1, 0] rfl h
  · have h := h.2 z
    refine q_aload_n C dL_isMayRight_82 rfl (j := 0) rfl ?_
    refine q_aload_n C dL_isMayRight_83 rfl (j := 0) rfl ?_
    refine q_iload_n C dL_isMayRight_84 rfl (j := 1) rfl ?_
    refine q_iload C dL_isMayRight_85 (j := 3) rfl ?_
    refine q_iconst (v := 1) C dL_isMayRight_87 (by decide) ?_
    refine q_iadd C dL_isMayRight_88 ?_
    refine q_iload C dL_isMayRight_89 (j := 2) rfl ?_
    refine q_irem C dL_isMayRight_91 h.1 ?_
    have h := h.2
    obtain ⟨dc_21, ds_21, hcz, h⟩ := h
    refine q_xi (qx_runV (As := [.int i3, .int ((i5 + 1) - (i5 + 1) / i4 * i4)]) (st := [.ref a0]) C (c_X8_corner l hl D cA lo h.2) (cwV 2 C.2.2.2.2.1 gL_isMayRight_X8_corner rfl rfl rfl (by decide +kernel) ⟨Nat.le_of_ble_eq_true rfl, Nat.le_of_ble_eq_true rfl⟩) h.1 (by decide) rfl rfl rfl (Nat.le_of_ble_eq_true rfl) dL_isMayRight_92 hcz) (fun E M_x h => ?_) (fun r_19 M_20 h => ?_)
    · exact q_xout (fun x hx => hex x hx _) hlk hcz.1 hcz.2 h
    · refine q_aload_n C dL_isMayRight_95 rfl (j := 0) rfl ?_
      refine q_iload_n C dL_isMayRight_96 rfl (j := 1) rfl ?_
      refine q_iload C dL_isMayRight_97 (j := 3) rfl ?_
      obtain ⟨dc_24, ds_24, hcz, h⟩ := h
      refine q_xi (qx_runV (As := [.int i3, .int i5]) (st := [.int r_19, .ref a0]) C (c_X8_corner l hl D cA lo h.2) (cwV 2 C.2.2.2.2.1 gL_isMayRight_X8_corner rfl rfl rfl (by decide +kernel) ⟨Nat.le_of_ble_eq_true rfl, Nat.le_of_ble_eq_true rfl⟩) h.1 (by decide) rfl rfl rfl (Nat.le_of_ble_eq_true rfl) dL_isMayRight_99 hcz) (fun E M_x h => ?_) (fun r_22 M_23 h => ?_)
      · exact q_xout (fun x hx => hex x hx _) hlk hcz.1 hcz.2 h
      · obtain ⟨dc_27, ds_27, hcz, h⟩ := h
        refine q_xi (qx_runV (As := [.int r_19, .int r_22]) (st := []) C (c_X8_hole l hl D cA lo h.2) (cwV 2 C.2.2.2.2.1 gL_isMayRight_X8_hole rfl rfl rfl (by decide +kernel) ⟨Nat.le_of_ble_eq_true rfl, Nat.le_of_ble_eq_true rfl⟩) h.1 (by decide) rfl rfl rfl (Nat.le_of_ble_eq_true rfl) dL_isMayRight_102 hcz) (fun E M_x h => ?_) (fun r_25 M_26 h => ?_)
        · exact q_xout (fun x hx => hex x hx _) hlk hcz.1 hcz.2 h
        · refine q_iconst (v := 1) C dL_isMayRight_105 (by decide) ?_
          refine q_icmp_ne (tgt := 111) C dL_isMayRight_106 (by decide) (fun z => ?_) (fun z => ?_)
          · have h := h.1 z
            refine q_iinc (v := (i5 + 1)) (lv' := [(5, .int (i5 + 1)), (0, .ref a0), (3, .int i3), (4, .int i4)]) C dL_isMayRight_111 (j := 3) rfl rfl (by decide) rfl ?_
            refine q_goto (tgt := 75) C dL_isMayRight_114 (by decide) ?_
            exact q_sub [1, 2, 3, 0] rfl h
          · have h := h.2 z
            refine q_iconst (v := 0) C dL_isMayRight_109 (by decide) ?_
            exact q_xret (q_zret C hr hlk dL_isMayRight_110 h.1 h.2.1 (Or.inl rfl) h.2.2)
set_option maxRecDepth 100000 in
set_option maxHeartbeats 4000000 in
theorem c_L_isMayRight (l : Launch) (hl : l.stackTraces = false) (D : va_G) (cA : Nat → ClassId) (lo : Nat) {M : Mm} {a0 : Nat} {i1 : Int32} {Cc Zz : Nat} {Q : Int32 → Mm → Prop} {X : String → Mm → Prop} (h : T_L_isMayRight Cc Zz M a0 i1 Q X) : vx_Met l yL_isMayRight wsL_isMayRight ({ frames := 9, cells := Cc, slots := Zz, locals := 166 } : Room) (PcM D cA lo [.ref a0, .int i1] M) (QiM D cA lo Q) (XcM D cA lo X) Cc Zz (fun q => lo ≤ q) := by
  refine q_startX (cc := cL_isMayRight) (nL := 6) (ret := (some .boolean)) (by decide) rfl rfl (Nat.le_of_ble_eq_true rfl) ?_
  intro p e s m args below meth c C hr hlk hin hex
  unfold T_L_isMayRight at h
  have h := h (fun (a0 : Nat) (i3 : Int32) (M : Mm) (cc zz : Nat) => QW p l e ({ frames := 9, cells := Cc, slots := Zz, locals := 166 } : Room) s m args below meth c (vx_MQ below (QiM D cA lo Q) (XcM D cA lo X) args s Cc Zz (fun q => lo ≤ q)) 6 D cA lo cc zz M 43 [(0, .ref a0), (3, .int i3)] []) (fun (a0 : Nat) (i3 : Int32) (i4 : Int32) (i5 : Int32) (M : Mm) (cc zz : Nat) => QW p l e ({ frames := 9, cells := Cc, slots := Zz, locals := 166 } : Room) s m args below meth c (vx_MQ below (QiM D cA lo Q) (XcM D cA lo X) args s Cc Zz (fun q => lo ≤ q)) 6 D cA lo cc zz M 75 [(0, .ref a0), (3, .int i3), (4, .int i4), (5, .int i5)] []) (fun a0 i3 M cc zz h => b_L_isMayRight_43 C hr hlk hl hex M a0 i3 cc zz h) (fun a0 i3 i4 i5 M cc zz h => b_L_isMayRight_75 C hr hlk hl hex M a0 i3 i4 i5 cc zz h)
  refine q_iconst (v := 2) C dL_isMayRight_0 (by decide) ?_
  refine q_aload_n C dL_isMayRight_1 rfl (j := 0) rfl ?_
  have hcz := h.1
  have h := h.2
  refine q_ci (q_runV (As := []) (st := [.int 2]) C (c_X8_edges l D cA lo h.2) (cwV 0 C.2.2.2.2.1 gL_isMayRight_X8_edges rfl rfl rfl (by decide +kernel) ⟨Nat.le_of_ble_eq_true rfl, Nat.le_of_ble_eq_true rfl⟩) h.1 (by decide) rfl rfl rfl (Nat.le_of_ble_eq_true rfl) dL_isMayRight_2 ⟨Nat.le_trans (Nat.le_of_eq (Nat.add_zero _)) hcz.1, Nat.le_trans (Nat.le_of_eq (Nat.add_zero _)) hcz.2⟩) (fun r_1 M_z h => ?_)
  refine q_mem h.1 ?_
  have h := h.2
  refine q_imul C dL_isMayRight_5 ?_
  refine q_istore_n (lv' := [(2, .int (2 * r_1)), (0, .ref a0), (1, .int i1)]) C dL_isMayRight_6 rfl (by decide) rfl ?_
  refine q_aload_n C dL_isMayRight_7 rfl (j := 1) rfl ?_
  refine q_iconst (v := 0) C dL_isMayRight_8 (by decide) ?_
  obtain ⟨dc_4, ds_4, hcz, h⟩ := h
  refine q_xi (qx_runV (As := [.int 0]) (st := []) C (c_X8_may l hl D cA lo h.2) (cwV 1 C.2.2.2.2.1 gL_isMayRight_X8_may rfl rfl rfl (by decide +kernel) ⟨Nat.le_of_ble_eq_true rfl, Nat.le_of_ble_eq_true rfl⟩) h.1 (by decide) rfl rfl rfl (Nat.le_of_ble_eq_true rfl) dL_isMayRight_9 hcz) (fun E M_x h => ?_) (fun r_2 M_3 h => ?_)
  · exact q_xout (fun x hx => hex x hx _) hlk hcz.1 hcz.2 h
  · refine q_iload_n C dL_isMayRight_12 rfl (j := 0) rfl ?_
    refine q_icmp_gt (tgt := 34) C dL_isMayRight_13 (by decide) (fun z => ?_) (fun z => ?_)
    · have h := h.1 z
      refine q_iconst (v := 0) C dL_isMayRight_34 (by decide) ?_
      exact q_xret (q_zret C hr hlk dL_isMayRight_35 h.1 h.2.1 (Or.inl rfl) h.2.2)
    · have h := h.2 z
      refine q_aload_n C dL_isMayRight_16 rfl (j := 1) rfl ?_
      refine q_iconst (v := 1) C dL_isMayRight_17 (by decide) ?_
      obtain ⟨dc_7, ds_7, hcz, h⟩ := h
      refine q_xi (qx_runV (As := [.int 1]) (st := []) C (c_X8_may l hl D cA lo h.2) (cwV 1 C.2.2.2.2.1 gL_isMayRight_X8_may rfl rfl rfl (by decide +kernel) ⟨Nat.le_of_ble_eq_true rfl, Nat.le_of_ble_eq_true rfl⟩) h.1 (by decide) rfl rfl rfl (Nat.le_of_ble_eq_true rfl) dL_isMayRight_18 hcz) (fun E M_x h => ?_) (fun r_5 M_6 h => ?_)
      · exact q_xout (fun x hx => hex x hx _) hlk hcz.1 hcz.2 h
      · refine q_iload_n C dL_isMayRight_21 rfl (j := 0) rfl ?_
        refine q_icmp_gt (tgt := 34) C dL_isMayRight_22 (by decide) (fun z => ?_) (fun z => ?_)
        · have h := h.1 z
          refine q_iconst (v := 0) C dL_isMayRight_34 (by decide) ?_
          exact q_xret (q_zret C hr hlk dL_isMayRight_35 h.1 h.2.1 (Or.inl rfl) h.2.2)
        · have h := h.2 z
          refine q_aload_n C dL_isMayRight_25 rfl (j := 1) rfl ?_
          refine q_iconst (v := 2) C dL_isMayRight_26 (by decide) ?_
          obtain ⟨dc_10, ds_10, hcz, h⟩ := h
          refine q_xi (qx_runV (As := [.int 2]) (st := []) C (c_X8_may l hl D cA lo h.2) (cwV 1 C.2.2.2.2.1 gL_isMayRight_X8_may rfl rfl rfl (by decide +kernel) ⟨Nat.le_of_ble_eq_true rfl, Nat.le_of_ble_eq_true rfl⟩) h.1 (by decide) rfl rfl rfl (Nat.le_of_ble_eq_true rfl) dL_isMayRight_27 hcz) (fun E M_x h => ?_) (fun r_8 M_9 h => ?_)
          · exact q_xout (fun x hx => hex x hx _) hlk hcz.1 hcz.2 h
          · refine q_iload_n C dL_isMayRight_30 rfl (j := 0) rfl ?_
            refine q_icmp_le (tgt := 36) C dL_isMayRight_31 (by decide) (fun z => ?_) (fun z => ?_)
            · have h := h.1 z
              refine q_iload_n C dL_isMayRight_36 rfl (j := 2) rfl ?_
              refine q_bipush (v := 7) C dL_isMayRight_37 (by decide) ?_
              have hcz := h.1
              have h := h.2
              refine q_ci (q_runS (As := [.int i1, .int 7]) (st := []) C (c_L_below l D cA lo h) (va_cwS 2 C.2.2.2.2.1 gL_isMayRight_L_below rfl rfl rfl (by decide +kernel) ⟨Nat.le_of_ble_eq_true rfl, Nat.le_of_ble_eq_true rfl⟩) rfl rfl (Nat.le_of_ble_eq_true rfl) dL_isMayRight_39 ⟨Nat.le_trans (Nat.le_of_eq (Nat.add_zero _)) hcz.1, Nat.le_trans (Nat.le_of_eq (Nat.add_zero _)) hcz.2⟩) (fun r_11 M_z h => ?_)
              refine q_mem h.1 ?_
              have h := h.2
              refine q_istore_n (lv' := [(3, .int r_11), (2, .int (2 * r_1)), (0, .ref a0), (1, .int i1)]) C dL_isMayRight_42 rfl (by decide) rfl ?_
              exact q_sub [2, 0] rfl h
            · have h := h.2 z
              refine q_iconst (v := 0) C dL_isMayRight_34 (by decide) ?_
              exact q_xret (q_zret C hr hlk dL_isMayRight_35 h.1 h.2.1 (Or.inl rfl) h.2.2)
