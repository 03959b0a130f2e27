set_option maxRecDepth 100000 in
set_option maxHeartbeats 8000000 in
theorem arm_L_law_1281 {p : Program} {l : Launch} {e : Env} {s : State} {m : MethodId} {below : List Frame} {meth : Method} {c : Code} {D : va_G} {cA : Nat → ClassId} {lo scr L : Nat} {xs : Nat → Int32} (C : Cx p s m #[Value.ref scr] c cL_law 9 RL wsL_law D cA lo) (hl : l.stackTraces = false) (hX : va_X scr L xs s s.heap) (hbl : scr < s.heap.size ∧ lo = s.heap.size) (hr : meth.sig.returnType = ret) (hlk : meth.locks = false) (M : Mm) (a1 : Nat) (a2 : Nat) (a3 : Nat) (i4 : Int32) (cc zz : Nat) (h : A_L_law_1281 (fun (a1 : Nat) (a2 : Nat) (a3 : Nat) (i4 : Int32) (M : Mm) (cc zz : Nat) => QW p l e room_1 s m #[Value.ref scr] below meth c (lw_Z below #[Value.ref scr] s) 9 D cA lo cc zz M 23 [(0, .ref scr), (1, .ref a1), (2, .ref a2), (3, .ref a3), (4, .int i4)] []) 600002 7302232 L xs M a1 a2 a3 i4 cc zz) : QW p l e room_1 s m #[Value.ref scr] below meth c (lw_Z below #[Value.ref scr] s) 9 D cA lo cc zz M 1281 [(0, .ref scr), (1, .ref a1), (2, .ref a2), (3, .ref a3), (4, .int i4)] [] := by
  unfold A_L_law_1281 at h
  refine q_aload_n C dL_law_1281 rfl (j := 1) rfl ?_
  have hcz := h.1
  have h := h.2
  refine q_ci (q_runV (As := []) (st := []) C (c_X8_holes l D cA lo h.2) (cwV 0 C.2.2.2.2.1 gL_law_X8_holes rfl rfl rfl (by decide +kernel) ⟨Nat.le_of_ble_eq_true rfl, Nat.le_of_ble_eq_true rfl⟩) h.1 (by decide) rfl rfl rfl (Nat.le_of_ble_eq_true rfl) dL_law_1282 ⟨Nat.le_trans (Nat.le_of_eq (Nat.add_zero _)) hcz.1, Nat.le_trans (Nat.le_of_eq (Nat.add_zero _)) hcz.2⟩) (fun r_132 M_133 h => ?_)
  refine q_aload_n C dL_law_1285 rfl (j := 2) rfl ?_
  obtain ⟨dc_136, ds_136, hcz, h⟩ := h
  refine q_ci (q_runV (As := []) (st := [.int r_132]) C (c_X9_holes l D cA lo h.2) (cwV 0 C.2.2.2.2.1 gL_law_X9_holes rfl rfl rfl (by decide +kernel) ⟨Nat.le_of_ble_eq_true rfl, Nat.le_of_ble_eq_true rfl⟩) h.1 (by decide) rfl rfl rfl (Nat.le_of_ble_eq_true rfl) dL_law_1286 hcz) (fun r_134 M_135 h => ?_)
  refine q_icmp_eq (tgt := 2087) C dL_law_1289 (by decide) (fun z => ?_) (fun z => ?_)
  · have h := h.1 z
    refine q_iinc (v := (i4 + 5)) (lv' := [(4, .int (i4 + 5)), (0, .ref scr), (1, .ref a1), (2, .ref a2), (3, .ref a3)]) C dL_law_2087 (j := 4) rfl rfl (by decide) rfl ?_
    refine q_goto (tgt := 23) C dL_law_2090 (by decide) ?_
    exact q_sub [1, 2, 3, 4, 0] rfl h
  · have h := h.2 z
    refine q_iconst (v := 0) C dL_law_1292 (by decide) ?_
    exact h.elim
set_option maxRecDepth 100000 in
set_option maxHeartbeats 8000000 in
theorem arm_L_law_1294 {p : Program} {l : Launch} {e : Env} {s : State} {m : MethodId} {below : List Frame} {meth : Method} {c : Code} {D : va_G} {cA : Nat → ClassId} {lo scr L : Nat} {xs : Nat → Int32} (C : Cx p s m #[Value.ref scr] c cL_law 9 RL wsL_law D cA lo) (hl : l.stackTraces = false) (hX : va_X scr L xs s s.heap) (hbl : scr < s.heap.size ∧ lo = s.heap.size) (hr : meth.sig.returnType = ret) (hlk : meth.locks = false) (M : Mm) (a1 : Nat) (a2 : Nat) (a3 : Nat) (i4 : Int32) (cc zz : Nat) (h : A_L_law_1294 (fun (a1 : Nat) (a2 : Nat) (a3 : Nat) (i4 : Int32) (M : Mm) (cc zz : Nat) => QW p l e room_1 s m #[Value.ref scr] below meth c (lw_Z below #[Value.ref scr] s) 9 D cA lo cc zz M 23 [(0, .ref scr), (1, .ref a1), (2, .ref a2), (3, .ref a3), (4, .int i4)] []) 600002 7302232 L xs M a1 a2 a3 i4 cc zz) : QW p l e room_1 s m #[Value.ref scr] below meth c (lw_Z below #[Value.ref scr] s) 9 D cA lo cc zz M 1294 [(0, .ref scr), (1, .ref a1), (2, .ref a2), (3, .ref a3), (4, .int i4)] [] := by
  unfold A_L_law_1294 at h
  refine q_aload_n C dL_law_1294 rfl (j := 1) rfl ?_
  have hcz := h.1
  have h := h.2
  refine q_ci (q_runV (As := []) (st := []) C (c_X8_shells l D cA lo h.2) (cwV 0 C.2.2.2.2.1 gL_law_X8_shells rfl rfl rfl (by decide +kernel) ⟨Nat.le_of_ble_eq_true rfl, Nat.le_of_ble_eq_true rfl⟩) h.1 (by decide) rfl rfl rfl (Nat.le_of_ble_eq_true rfl) dL_law_1295 ⟨Nat.le_trans (Nat.le_of_eq (Nat.add_zero _)) hcz.1, Nat.le_trans (Nat.le_of_eq (Nat.add_zero _)) hcz.2⟩) (fun r_137 M_138 h => ?_)
  refine q_aload_n C dL_law_1298 rfl (j := 2) rfl ?_
  obtain ⟨dc_141, ds_141, hcz, h⟩ := h
  refine q_ci (q_runV (As := []) (st := [.int r_137]) C (c_X9_shells l D cA lo h.2) (cwV 0 C.2.2.2.2.1 gL_law_X9_shells rfl rfl rfl (by decide +kernel) ⟨Nat.le_of_ble_eq_true rfl, Nat.le_of_ble_eq_true rfl⟩) h.1 (by decide) rfl rfl rfl (Nat.le_of_ble_eq_true rfl) dL_law_1299 hcz) (fun r_139 M_140 h => ?_)
  refine q_icmp_eq (tgt := 2087) C dL_law_1302 (by decide) (fun z => ?_) (fun z => ?_)
  · have h := h.1 z
    refine q_iinc (v := (i4 + 5)) (lv' := [(4, .int (i4 + 5)), (0, .ref scr), (1, .ref a1), (2, .ref a2), (3, .ref a3)]) C dL_law_2087 (j := 4) rfl rfl (by decide) rfl ?_
    refine q_goto (tgt := 23) C dL_law_2090 (by decide) ?_
    exact q_sub [1, 2, 3, 4, 0] rfl h
  · have h := h.2 z
    refine q_iconst (v := 0) C dL_law_1305 (by decide) ?_
    exact h.elim
set_option maxRecDepth 100000 in
set_option maxHeartbeats 8000000 in
theorem arm_L_law_1307 {p : Program} {l : Launch} {e : Env} {s : State} {m : MethodId} {below : List Frame} {meth : Method} {c : Code} {D : va_G} {cA : Nat → ClassId} {lo scr L : Nat} {xs : Nat → Int32} (C : Cx p s m #[Value.ref scr] c cL_law 9 RL wsL_law D cA lo) (hl : l.stackTraces = false) (hX : va_X scr L xs s s.heap) (hbl : scr < s.heap.size ∧ lo = s.heap.size) (hr : meth.sig.returnType = ret) (hlk : meth.locks = false) (M : Mm) (a1 : Nat) (a2 : Nat) (a3 : Nat) (i4 : Int32) (cc zz : Nat) (h : A_L_law_1307 (fun (a1 : Nat) (a2 : Nat) (a3 : Nat) (i4 : Int32) (M : Mm) (cc zz : Nat) => QW p l e room_1 s m #[Value.ref scr] below meth c (lw_Z below #[Value.ref scr] s) 9 D cA lo cc zz M 23 [(0, .ref scr), (1, .ref a1), (2, .ref a2), (3, .ref a3), (4, .int i4)] []) 600002 7302232 L xs M a1 a2 a3 i4 cc zz) : QW p l e room_1 s m #[Value.ref scr] below meth c (lw_Z below #[Value.ref scr] s) 9 D cA lo cc zz M 1307 [(0, .ref scr), (1, .ref a1), (2, .ref a2), (3, .ref a3), (4, .int i4)] [] := by
  unfold A_L_law_1307 at h
  refine q_aload_n C dL_law_1307 rfl (j := 1) rfl ?_
  refine q_aload_n C dL_law_1308 rfl (j := 0) rfl ?_
  refine q_iload C dL_law_1309 (j := 4) rfl ?_
  refine q_iconst (v := 1) C dL_law_1311 (by decide) ?_
  refine q_iadd C dL_law_1312 ?_
  refine q_sld hX hbl C h.1 dL_law_1313 ?_
  have h := h.2
  refine q_aload_n C dL_law_1314 rfl (j := 0) rfl ?_
  refine q_iload C dL_law_1315 (j := 4) rfl ?_
  refine q_iconst (v := 2) C dL_law_1317 (by decide) ?_
  refine q_iadd C dL_law_1318 ?_
  refine q_sld hX hbl C h.1 dL_law_1319 ?_
  have h := h.2
  refine q_aload_n C dL_law_1320 rfl (j := 3) rfl ?_
  obtain ⟨dc_144, ds_144, hcz, h⟩ := h
  refine q_xw (q_runSW (As := [.ref a1, .int (xs (i4 + 1).toNatClampNeg), .int (xs (i4 + 2).toNatClampNeg), .ref a3]) (st := []) C (c_L_at l hl D cA lo h) (vx_cwSW 4 C.2.2.2.2.1 gL_law_L_at rfl rfl rfl (by decide +kernel) ⟨Nat.le_of_ble_eq_true rfl, Nat.le_of_ble_eq_true rfl⟩) rfl rfl (Nat.le_of_ble_eq_true rfl) dL_law_1321 hcz) (fun E M_x h => ?_) (fun r_142 M_143 h => ?_)
  · exact h.elim
  · refine q_istore (lv' := [(5, .int r_142), (0, .ref scr), (1, .ref a1), (2, .ref a2), (3, .ref a3), (4, .int i4)]) C dL_law_1324 (by decide) rfl ?_
    refine q_aload_n C dL_law_1326 rfl (j := 3) rfl ?_
    refine q_aload_n C dL_law_1327 rfl (j := 1) rfl ?_
    refine q_iload C dL_law_1328 (j := 5) rfl ?_
    refine q_iconst (v := 1) C dL_law_1330 (by decide) ?_
    refine q_iadd C dL_law_1331 ?_
    refine q_sld hX hbl C h.1 dL_law_1332 ?_
    have h := h.2
    refine q_aload_n C dL_law_1333 rfl (j := 1) rfl ?_
    refine q_iload C dL_law_1334 (j := 5) rfl ?_
    refine q_iconst (v := 2) C dL_law_1336 (by decide) ?_
    refine q_iadd C dL_law_1337 ?_
    refine q_sld hX hbl C h.1 dL_law_1338 ?_
    have h := h.2
    have hcz := h.1
    have h := h.2
    refine q_ci (q_runV (As := [.int (xs (i4 + 1).toNatClampNeg), .int (xs (i4 + 2).toNatClampNeg)]) (st := []) C (c_X9_at l D cA lo h.2) (cwV 2 C.2.2.2.2.1 gL_law_X9_at rfl rfl rfl (by decide +kernel) ⟨Nat.le_of_ble_eq_true rfl, Nat.le_of_ble_eq_true rfl⟩) h.1 (by decide) rfl rfl rfl (Nat.le_of_ble_eq_true rfl) dL_law_1339 ⟨Nat.le_trans (Nat.le_of_eq (Nat.add_zero _)) hcz.1, Nat.le_trans (Nat.le_of_eq (Nat.add_zero _)) hcz.2⟩) (fun r_145 M_146 h => ?_)
    refine q_istore (lv' := [(6, .int r_145), (5, .int r_142), (0, .ref scr), (1, .ref a1), (2, .ref a2), (3, .ref a3), (4, .int i4)]) C dL_law_1342 (by decide) rfl ?_
    refine q_aload_n C dL_law_1344 rfl (j := 4) rfl ?_
    have hcz := h.1
    have h := h.2
    refine q_ci (q_runV (As := []) (st := []) C (c_X9_thrown l D cA lo h.2) (cwV 0 C.2.2.2.2.1 gL_law_X9_thrown rfl rfl rfl (by decide +kernel) ⟨Nat.le_of_ble_eq_true rfl, Nat.le_of_ble_eq_true rfl⟩) h.1 (by decide) rfl rfl rfl (Nat.le_of_ble_eq_true rfl) dL_law_1345 ⟨Nat.le_trans (Nat.le_of_eq (Nat.add_zero _)) hcz.1, Nat.le_trans (Nat.le_of_eq (Nat.add_zero _)) hcz.2⟩) (fun r_147 M_z h => ?_)
    refine q_mem h.1 ?_
    have h := h.2
    refine q_iload C dL_law_1348 (j := 1) rfl ?_
    refine q_icmp_eq (tgt := 1355) C dL_law_1350 (by decide) (fun z => ?_) (fun z => ?_)
    · have h := h.1 z
      refine q_iload C dL_law_1355 (j := 1) rfl ?_
      refine q_if_ne (tgt := 1372) C dL_law_1357 (by decide) (fun z => ?_) (fun z => ?_)
      · have h := h.1 z
        refine q_goto (tgt := 2087) C dL_law_1372 (by decide) ?_
        refine q_iinc (v := (i4 + 5)) (lv' := [(4, .int (i4 + 5)), (6, .int r_145), (5, .int r_142), (0, .ref scr), (1, .ref a1), (2, .ref a2), (3, .ref a3)]) C dL_law_2087 (j := 6) rfl rfl (by decide) rfl ?_
        refine q_goto (tgt := 23) C dL_law_2090 (by decide) ?_
        exact q_sub [3, 4, 5, 6, 0] rfl h
      · have h := h.2 z
        refine q_aload_n C dL_law_1360 rfl (j := 5) rfl ?_
        refine q_iconst (v := 0) C dL_law_1361 (by decide) ?_
        obtain ⟨n_148, z1, z2, h⟩ := h
        refine q_lald C z1 z2 dL_law_1362 ?_
        refine q_iload C dL_law_1363 (j := 0) rfl ?_
        refine q_i2l C dL_law_1365 ?_
        refine q_lcmp C dL_law_1366 ?_
        refine q_if_eq (tgt := 1372) C dL_law_1367 (by decide) (fun z => ?_) (fun z => ?_)
        · have h := h.1 z
          refine q_goto (tgt := 2087) C dL_law_1372 (by decide) ?_
          refine q_iinc (v := (i4 + 5)) (lv' := [(4, .int (i4 + 5)), (6, .int r_145), (5, .int r_142), (0, .ref scr), (1, .ref a1), (2, .ref a2), (3, .ref a3)]) C dL_law_2087 (j := 6) rfl rfl (by decide) rfl ?_
          refine q_goto (tgt := 23) C dL_law_2090 (by decide) ?_
          exact q_sub [3, 4, 5, 6, 0] rfl h
        · have h := h.2 z
          refine q_iconst (v := 0) C dL_law_1370 (by decide) ?_
          exact h.elim
    · have h := h.2 z
      refine q_iconst (v := 0) C dL_law_1353 (by decide) ?_
      exact h.elim
set_option maxRecDepth 100000 in
set_option maxHeartbeats 8000000 in
theorem arm_L_law_1375 {p : Program} {l : Launch} {e : Env} {s : State} {m : MethodId} {below : List Frame} {meth : Method} {c : Code} {D : va_G} {cA : Nat → ClassId} {lo scr L : Nat} {xs : Nat → Int32} (C : Cx p s m #[Value.ref scr] c cL_law 9 RL wsL_law D cA lo) (hl : l.stackTraces = false) (hX : va_X scr L xs s s.heap) (hbl : scr < s.heap.size ∧ lo = s.heap.size) (hr : meth.sig.returnType = ret) (hlk : meth.locks = false) (M : Mm) (a1 : Nat) (a2 : Nat) (a3 : Nat) (i4 : Int32) (cc zz : Nat) (h : A_L_law_1375 (fun (a1 : Nat) (a2 : Nat) (a3 : Nat) (i4 : Int32) (M : Mm) (cc zz : Nat) => QW p l e room_1 s m #[Value.ref scr] below meth c (lw_Z below #[Value.ref scr] s) 9 D cA lo cc zz M 23 [(0, .ref scr), (1, .ref a1), (2, .ref a2), (3, .ref a3), (4, .int i4)] []) 600002 7302232 L xs M a1 a2 a3 i4 cc zz) : QW p l e room_1 s m #[Value.ref scr] below meth c (lw_Z below #[Value.ref scr] s) 9 D cA lo cc zz M 1375 [(0, .ref scr), (1, .ref a1), (2, .ref a2), (3, .ref a3), (4, .int i4)] [] := by
  unfold A_L_law_1375 at h
  refine q_aload_n C dL_law_1375 rfl (j := 1) rfl ?_
  refine q_aload_n C dL_law_1376 rfl (j := 0) rfl ?_
  refine q_iload C dL_law_1377 (j := 4) rfl ?_
  refine q_iconst (v := 1) C dL_law_1379 (by decide) ?_
  refine q_iadd C dL_law_1380 ?_
  refine q_sld hX hbl C h.1 dL_law_1381 ?_
  have h := h.2
  refine q_aload_n C dL_law_1382 rfl (j := 3) rfl ?_
  obtain ⟨dc_151, ds_151, hcz, h⟩ := h
  refine q_xw (q_runSW (As := [.ref a1, .int (xs (i4 + 1).toNatClampNeg), .ref a3]) (st := []) C (c_L_size l hl D cA lo h) (vx_cwSW 3 C.2.2.2.2.1 gL_law_L_size rfl rfl rfl (by decide +kernel) ⟨Nat.le_of_ble_eq_true rfl, Nat.le_of_ble_eq_true rfl⟩) rfl rfl (Nat.le_of_ble_eq_true rfl) dL_law_1383 hcz) (fun E M_x h => ?_) (fun r_149 M_150 h => ?_)
  · exact h.elim
  · refine q_istore (lv' := [(5, .int r_149), (0, .ref scr), (1, .ref a1), (2, .ref a2), (3, .ref a3), (4, .int i4)]) C dL_law_1386 (by decide) rfl ?_
    refine q_aload_n C dL_law_1388 rfl (j := 3) rfl ?_
    refine q_aload_n C dL_law_1389 rfl (j := 1) rfl ?_
    refine q_iload C dL_law_1390 (j := 5) rfl ?_
    refine q_iconst (v := 1) C dL_law_1392 (by decide) ?_
    refine q_iadd C dL_law_1393 ?_
    refine q_sld hX hbl C h.1 dL_law_1394 ?_
    have h := h.2
    have hcz := h.1
    have h := h.2
    refine q_ci (q_runV (As := [.int (xs (i4 + 1).toNatClampNeg)]) (st := []) C (c_X9_size_ l D cA lo h.2) (cwV 1 C.2.2.2.2.1 gL_law_X9_size_ rfl rfl rfl (by decide +kernel) ⟨Nat.le_of_ble_eq_true rfl, Nat.le_of_ble_eq_true rfl⟩) h.1 (by decide) rfl rfl rfl (Nat.le_of_ble_eq_true rfl) dL_law_1395 ⟨Nat.le_trans (Nat.le_of_eq (Nat.add_zero _)) hcz.1, Nat.le_trans (Nat.le_of_eq (Nat.add_zero _)) hcz.2⟩) (fun r_152 M_153 h => ?_)
    refine q_istore (lv' := [(6, .int r_152), (5, .int r_149), (0, .ref scr), (1, .ref a1), (2, .ref a2), (3, .ref a3), (4, .int i4)]) C dL_law_1398 (by decide) rfl ?_
    refine q_aload_n C dL_law_1400 rfl (j := 4) rfl ?_
    have hcz := h.1
    have h := h.2
    refine q_ci (q_runV (As := []) (st := []) C (c_X9_thrown l D cA lo h.2) (cwV 0 C.2.2.2.2.1 gL_law_X9_thrown rfl rfl rfl (by decide +kernel) ⟨Nat.le_of_ble_eq_true rfl, Nat.le_of_ble_eq_true rfl⟩) h.1 (by decide) rfl rfl rfl (Nat.le_of_ble_eq_true rfl) dL_law_1401 ⟨Nat.le_trans (Nat.le_of_eq (Nat.add_zero _)) hcz.1, Nat.le_trans (Nat.le_of_eq (Nat.add_zero _)) hcz.2⟩) (fun r_154 M_z h => ?_)
    refine q_mem h.1 ?_
    have h := h.2
    refine q_iload C dL_law_1404 (j := 1) rfl ?_
    refine q_icmp_eq (tgt := 1411) C dL_law_1406 (by decide) (fun z => ?_) (fun z => ?_)
    · have h := h.1 z
      refine q_iload C dL_law_1411 (j := 1) rfl ?_
      refine q_if_ne (tgt := 1428) C dL_law_1413 (by decide) (fun z => ?_) (fun z => ?_)
      · have h := h.1 z
        refine q_goto (tgt := 2087) C dL_law_1428 (by decide) ?_
        refine q_iinc (v := (i4 + 5)) (lv' := [(4, .int (i4 + 5)), (6, .int r_152), (5, .int r_149), (0, .ref scr), (1, .ref a1), (2, .ref a2), (3, .ref a3)]) C dL_law_2087 (j := 6) rfl rfl (by decide) rfl ?_
        refine q_goto (tgt := 23) C dL_law_2090 (by decide) ?_
        exact q_sub [3, 4, 5, 6, 0] rfl h
      · have h := h.2 z
        refine q_aload_n C dL_law_1416 rfl (j := 5) rfl ?_
        refine q_iconst (v := 0) C dL_law_1417 (by decide) ?_
        obtain ⟨n_155, z1, z2, h⟩ := h
        refine q_lald C z1 z2 dL_law_1418 ?_
        refine q_iload C dL_law_1419 (j := 0) rfl ?_
        refine q_i2l C dL_law_1421 ?_
        refine q_lcmp C dL_law_1422 ?_
        refine q_if_eq (tgt := 1428) C dL_law_1423 (by decide) (fun z => ?_) (fun z => ?_)
        · have h := h.1 z
          refine q_goto (tgt := 2087) C dL_law_1428 (by decide) ?_
          refine q_iinc (v := (i4 + 5)) (lv' := [(4, .int (i4 + 5)), (6, .int r_152), (5, .int r_149), (0, .ref scr), (1, .ref a1), (2, .ref a2), (3, .ref a3)]) C dL_law_2087 (j := 6) rfl rfl (by decide) rfl ?_
          refine q_goto (tgt := 23) C dL_law_2090 (by decide) ?_
          exact q_sub [3, 4, 5, 6, 0] rfl h
        · have h := h.2 z
          refine q_iconst (v := 0) C dL_law_1426 (by decide) ?_
          exact h.elim
    · have h := h.2 z
      refine q_iconst (v := 0) C dL_law_1409 (by decide) ?_
      exact h.elim
set_option maxRecDepth 100000 in
set_option maxHeartbeats 8000000 in
theorem arm_L_law_1431 {p : Program} {l : Launch} {e : Env} {s : State} {m : MethodId} {below : List Frame} {meth : Method} {c : Code} {D : va_G} {cA : Nat → ClassId} {lo scr L : Nat} {xs : Nat → Int32} (C : Cx p s m #[Value.ref scr] c cL_law 9 RL wsL_law D cA lo) (hl : l.stackTraces = false) (hX : va_X scr L xs s s.heap) (hbl : scr < s.heap.size ∧ lo = s.heap.size) (hr : meth.sig.returnType = ret) (hlk : meth.locks = false) (M : Mm) (a1 : Nat) (a2 : Nat) (a3 : Nat) (i4 : Int32) (cc zz : Nat) (h : A_L_law_1431 (fun (a1 : Nat) (a2 : Nat) (a3 : Nat) (i4 : Int32) (M : Mm) (cc zz : Nat) => QW p l e room_1 s m #[Value.ref scr] below meth c (lw_Z below #[Value.ref scr] s) 9 D cA lo cc zz M 23 [(0, .ref scr), (1, .ref a1), (2, .ref a2), (3, .ref a3), (4, .int i4)] []) 600002 7302232 L xs M a1 a2 a3 i4 cc zz) : QW p l e room_1 s m #[Value.ref scr] below meth c (lw_Z below #[Value.ref scr] s) 9 D cA lo cc zz M 1431 [(0, .ref scr), (1, .ref a1), (2, .ref a2), (3, .ref a3), (4, .int i4)] [] := by
  unfold A_L_law_1431 at h
  refine q_aload_n C dL_law_1431 rfl (j := 1) rfl ?_
  refine q_aload_n C dL_law_1432 rfl (j := 0) rfl ?_
  refine q_iload C dL_law_1433 (j := 4) rfl ?_
  refine q_iconst (v := 1) C dL_law_1435 (by decide) ?_
  refine q_iadd C dL_law_1436 ?_
  refine q_sld hX hbl C h.1 dL_law_1437 ?_
  have h := h.2
  refine q_aload_n C dL_law_1438 rfl (j := 0) rfl ?_
  refine q_iload C dL_law_1439 (j := 4) rfl ?_
  refine q_iconst (v := 2) C dL_law_1441 (by decide) ?_
  refine q_iadd C dL_law_1442 ?_
  refine q_sld hX hbl C h.1 dL_law_1443 ?_
  have h := h.2
  refine q_aload_n C dL_law_1444 rfl (j := 3) rfl ?_
  obtain ⟨dc_158, ds_158, hcz, h⟩ := h
  refine q_xw (q_runSW (As := [.ref a1, .int (xs (i4 + 1).toNatClampNeg), .int (xs (i4 + 2).toNatClampNeg), .ref a3]) (st := []) C (c_L_corner l hl D cA lo h) (vx_cwSW 4 C.2.2.2.2.1 gL_law_L_corner rfl rfl rfl (by decide +kernel) ⟨Nat.le_of_ble_eq_true rfl, Nat.le_of_ble_eq_true rfl⟩) rfl rfl (Nat.le_of_ble_eq_true rfl) dL_law_1445 hcz) (fun E M_x h => ?_) (fun r_156 M_157 h => ?_)
  · exact h.elim
  · refine q_istore (lv' := [(5, .int r_156), (0, .ref scr), (1, .ref a1), (2, .ref a2), (3, .ref a3), (4, .int i4)]) C dL_law_1448 (by decide) rfl ?_
    refine q_aload_n C dL_law_1450 rfl (j := 3) rfl ?_
    refine q_aload_n C dL_law_1451 rfl (j := 1) rfl ?_
    refine q_iload C dL_law_1452 (j := 5) rfl ?_
    refine q_iconst (v := 1) C dL_law_1454 (by decide) ?_
    refine q_iadd C dL_law_1455 ?_
    refine q_sld hX hbl C h.1 dL_law_1456 ?_
    have h := h.2
    refine q_aload_n C dL_law_1457 rfl (j := 1) rfl ?_
    refine q_iload C dL_law_1458 (j := 5) rfl ?_
    refine q_iconst (v := 2) C dL_law_1460 (by decide) ?_
    refine q_iadd C dL_law_1461 ?_
    refine q_sld hX hbl C h.1 dL_law_1462 ?_
    have h := h.2
    have hcz := h.1
    have h := h.2
    refine q_ci (q_runV (As := [.int (xs (i4 + 1).toNatClampNeg), .int (xs (i4 + 2).toNatClampNeg)]) (st := []) C (c_X9_corner l D cA lo h.2) (cwV 2 C.2.2.2.2.1 gL_law_X9_corner rfl rfl rfl (by decide +kernel) ⟨Nat.le_of_ble_eq_true rfl, Nat.le_of_ble_eq_true rfl⟩) h.1 (by decide) rfl rfl rfl (Nat.le_of_ble_eq_true rfl) dL_law_1463 ⟨Nat.le_trans (Nat.le_of_eq (Nat.add_zero _)) hcz.1, Nat.le_trans (Nat.le_of_eq (Nat.add_zero _)) hcz.2⟩) (fun r_159 M_160 h => ?_)
    refine q_istore (lv' := [(6, .int r_159), (5, .int r_156), (0, .ref scr), (1, .ref a1), (2, .ref a2), (3, .ref a3), (4, .int i4)]) C dL_law_1466 (by decide) rfl ?_
    refine q_aload_n C dL_law_1468 rfl (j := 4) rfl ?_
    have hcz := h.1
    have h := h.2
    refine q_ci (q_runV (As := []) (st := []) C (c_X9_thrown l D cA lo h.2) (cwV 0 C.2.2.2.2.1 gL_law_X9_thrown rfl rfl rfl (by decide +kernel) ⟨Nat.le_of_ble_eq_true rfl, Nat.le_of_ble_eq_true rfl⟩) h.1 (by decide) rfl rfl rfl (Nat.le_of_ble_eq_true rfl) dL_law_1469 ⟨Nat.le_trans (Nat.le_of_eq (Nat.add_zero _)) hcz.1, Nat.le_trans (Nat.le_of_eq (Nat.add_zero _)) hcz.2⟩) (fun r_161 M_z h => ?_)
    refine q_mem h.1 ?_
    have h := h.2
    refine q_iload C dL_law_1472 (j := 1) rfl ?_
    refine q_icmp_eq (tgt := 1479) C dL_law_1474 (by decide) (fun z => ?_) (fun z => ?_)
    · have h := h.1 z
      refine q_iload C dL_law_1479 (j := 1) rfl ?_
      refine q_if_ne (tgt := 1496) C dL_law_1481 (by decide) (fun z => ?_) (fun z => ?_)
      · have h := h.1 z
        refine q_goto (tgt := 2087) C dL_law_1496 (by decide) ?_
        refine q_iinc (v := (i4 + 5)) (lv' := [(4, .int (i4 + 5)), (6, .int r_159), (5, .int r_156), (0, .ref scr), (1, .ref a1), (2, .ref a2), (3, .ref a3)]) C dL_law_2087 (j := 6) rfl rfl (by decide) rfl ?_
        refine q_goto (tgt := 23) C dL_law_2090 (by decide) ?_
        exact q_sub [3, 4, 5, 6, 0] rfl h
      · have h := h.2 z
        refine q_aload_n C dL_law_1484 rfl (j := 5) rfl ?_
        refine q_iconst (v := 0) C dL_law_1485 (by decide) ?_
        obtain ⟨n_162, z1, z2, h⟩ := h
        refine q_lald C z1 z2 dL_law_1486 ?_
        refine q_iload C dL_law_1487 (j := 0) rfl ?_
        refine q_i2l C dL_law_1489 ?_
        refine q_lcmp C dL_law_1490 ?_
        refine q_if_eq (tgt := 1496) C dL_law_1491 (by decide) (fun z => ?_) (fun z => ?_)
        · have h := h.1 z
          refine q_goto (tgt := 2087) C dL_law_1496 (by decide) ?_
          refine q_iinc (v := (i4 + 5)) (lv' := [(4, .int (i4 + 5)), (6, .int r_159), (5, .int r_156), (0, .ref scr), (1, .ref a1), (2, .ref a2), (3, .ref a3)]) C dL_law_2087 (j := 6) rfl rfl (by decide) rfl ?_
          refine q_goto (tgt := 23) C dL_law_2090 (by decide) ?_
          exact q_sub [3, 4, 5, 6, 0] rfl h
        · have h := h.2 z
          refine q_iconst (v := 0) C dL_law_1494 (by decide) ?_
          exact h.elim
    · have h := h.2 z
      refine q_iconst (v := 0) C dL_law_1477 (by decide) ?_
      exact h.elim
set_option maxRecDepth 100000 in
set_option maxHeartbeats 8000000 in
theorem arm_L_law_1499 {p : Program} {l : Launch} {e : Env} {s : State} {m : MethodId} {below : List Frame} {meth : Method} {c : Code} {D : va_G} {cA : Nat → ClassId} {lo scr L : Nat} {xs : Nat → Int32} (C : Cx p s m #[Value.ref scr] c cL_law 9 RL wsL_law D cA lo) (hl : l.stackTraces = false) (hX : va_X scr L xs s s.heap) (hbl : scr < s.heap.size ∧ lo = s.heap.size) (hr : meth.sig.returnType = ret) (hlk : meth.locks = false) (M : Mm) (a1 : Nat) (a2 : Nat) (a3 : Nat) (i4 : Int32) (cc zz : Nat) (h : A_L_law_1499 (fun (a1 : Nat) (a2 : Nat) (a3 : Nat) (i4 : Int32) (M : Mm) (cc zz : Nat) => QW p l e room_1 s m #[Value.ref scr] below meth c (lw_Z below #[Value.ref scr] s) 9 D cA lo cc zz M 23 [(0, .ref scr), (1, .ref a1), (2, .ref a2), (3, .ref a3), (4, .int i4)] []) 600002 7302232 L xs M a1 a2 a3 i4 cc zz) : QW p l e room_1 s m #[Value.ref scr] below meth c (lw_Z below #[Value.ref scr] s) 9 D cA lo cc zz M 1499 [(0, .ref scr), (1, .ref a1), (2, .ref a2), (3, .ref a3), (4, .int i4)] [] := by
  unfold A_L_law_1499 at h
  refine q_aload_n C dL_law_1499 rfl (j := 1) rfl ?_
  refine q_aload_n C dL_law_1500 rfl (j := 0) rfl ?_
  refine q_iload C dL_law_1501 (j := 4) rfl ?_
  refine q_iconst (v := 1) C dL_law_1503 (by decide) ?_
  refine q_iadd C dL_law_1504 ?_
  refine q_sld hX hbl C h.1 dL_law_1505 ?_
  have h := h.2
  refine q_aload_n C dL_law_1506 rfl (j := 0) rfl ?_
  refine q_iload C dL_law_1507 (j := 4) rfl ?_
  refine q_iconst (v := 2) C dL_law_1509 (by decide) ?_
  refine q_iadd C dL_law_1510 ?_
  refine q_sld hX hbl C h.1 dL_law_1511 ?_
  have h := h.2
  refine q_aload_n C dL_law_1512 rfl (j := 3) rfl ?_
  obtain ⟨dc_165, ds_165, hcz, h⟩ := h
  refine q_xw (q_runSW (As := [.ref a1, .int (xs (i4 + 1).toNatClampNeg), .int (xs (i4 + 2).toNatClampNeg), .ref a3]) (st := []) C (c_L_faceOf l hl D cA lo h) (vx_cwSW 4 C.2.2.2.2.1 gL_law_L_faceOf rfl rfl rfl (by decide +kernel) ⟨Nat.le_of_ble_eq_true rfl, Nat.le_of_ble_eq_true rfl⟩) rfl rfl (Nat.le_of_ble_eq_true rfl) dL_law_1513 hcz) (fun E M_x h => ?_) (fun r_163 M_164 h => ?_)
  · exact h.elim
  · refine q_istore (lv' := [(5, .int r_163), (0, .ref scr), (1, .ref a1), (2, .ref a2), (3, .ref a3), (4, .int i4)]) C dL_law_1516 (by decide) rfl ?_
    refine q_aload_n C dL_law_1518 rfl (j := 3) rfl ?_
    refine q_aload_n C dL_law_1519 rfl (j := 1) rfl ?_
    refine q_iload C dL_law_1520 (j := 5) rfl ?_
    refine q_iconst (v := 1) C dL_law_1522 (by decide) ?_
    refine q_iadd C dL_law_1523 ?_
    refine q_sld hX hbl C h.1 dL_law_1524 ?_
    have h := h.2
    refine q_aload_n C dL_law_1525 rfl (j := 1) rfl ?_
    refine q_iload C dL_law_1526 (j := 5) rfl ?_
    refine q_iconst (v := 2) C dL_law_1528 (by decide) ?_
    refine q_iadd C dL_law_1529 ?_
    refine q_sld hX hbl C h.1 dL_law_1530 ?_
    have h := h.2
    have hcz := h.1
    have h := h.2
    refine q_ci (q_runV (As := [.int (xs (i4 + 1).toNatClampNeg), .int (xs (i4 + 2).toNatClampNeg)]) (st := []) C (c_X9_faceOf l D cA lo h.2) (cwV 2 C.2.2.2.2.1 gL_law_X9_faceOf rfl rfl rfl (by decide +kernel) ⟨Nat.le_of_ble_eq_true rfl, Nat.le_of_ble_eq_true rfl⟩) h.1 (by decide) rfl rfl rfl (Nat.le_of_ble_eq_true rfl) dL_law_1531 ⟨Nat.le_trans (Nat.le_of_eq (Nat.add_zero _)) hcz.1, Nat.le_trans (Nat.le_of_eq (Nat.add_zero _)) hcz.2⟩) (fun r_166 M_167 h => ?_)
    refine q_istore (lv' := [(6, .int r_166), (5, .int r_163), (0, .ref scr), (1, .ref a1), (2, .ref a2), (3, .ref a3), (4, .int i4)]) C dL_law_1534 (by decide) rfl ?_
    refine q_aload_n C dL_law_1536 rfl (j := 4) rfl ?_
    have hcz := h.1
    have h := h.2
    refine q_ci (q_runV (As := []) (st := []) C (c_X9_thrown l D cA lo h.2) (cwV 0 C.2.2.2.2.1 gL_law_X9_thrown rfl rfl rfl (by decide +kernel) ⟨Nat.le_of_ble_eq_true rfl, Nat.le_of_ble_eq_true rfl⟩) h.1 (by decide) rfl rfl rfl (Nat.le_of_ble_eq_true rfl) dL_law_1537 ⟨Nat.le_trans (Nat.le_of_eq (Nat.add_zero _)) hcz.1, Nat.le_trans (Nat.le_of_eq (Nat.add_zero _)) hcz.2⟩) (fun r_168 M_z h => ?_)
    refine q_mem h.1 ?_
    have h := h.2
    refine q_iload C dL_law_1540 (j := 1) rfl ?_
    refine q_icmp_eq (tgt := 1547) C dL_law_1542 (by decide) (fun z => ?_) (fun z => ?_)
    · have h := h.1 z
      refine q_iload C dL_law_1547 (j := 1) rfl ?_
      refine q_if_ne (tgt := 1564) C dL_law_1549 (by decide) (fun z => ?_) (fun z => ?_)
      · have h := h.1 z
        refine q_goto (tgt := 2087) C dL_law_1564 (by decide) ?_
        refine q_iinc (v := (i4 + 5)) (lv' := [(4, .int (i4 + 5)), (6, .int r_166), (5, .int r_163), (0, .ref scr), (1, .ref a1), (2, .ref a2), (3, .ref a3)]) C dL_law_2087 (j := 6) rfl rfl (by decide) rfl ?_
        refine q_goto (tgt := 23) C dL_law_2090 (by decide) ?_
        exact q_sub [3, 4, 5, 6, 0] rfl h
      · have h := h.2 z
        refine q_aload_n C dL_law_1552 rfl (j := 5) rfl ?_
        refine q_iconst (v := 0) C dL_law_1553 (by decide) ?_
        obtain ⟨n_169, z1, z2, h⟩ := h
        refine q_lald C z1 z2 dL_law_1554 ?_
        refine q_iload C dL_law_1555 (j := 0) rfl ?_
        refine q_i2l C dL_law_1557 ?_
        refine q_lcmp C dL_law_1558 ?_
        refine q_if_eq (tgt := 1564) C dL_law_1559 (by decide) (fun z => ?_) (fun z => ?_)
        · have h := h.1 z
          refine q_goto (tgt := 2087) C dL_law_1564 (by decide) ?_
          refine q_iinc (v := (i4 + 5)) (lv' := [(4, .int (i4 + 5)), (6, .int r_166), (5, .int r_163), (0, .ref scr), (1, .ref a1), (2, .ref a2), (3, .ref a3)]) C dL_law_2087 (j := 6) rfl rfl (by decide) rfl ?_
          refine q_goto (tgt := 23) C dL_law_2090 (by decide) ?_
          exact q_sub [3, 4, 5, 6, 0] rfl h
        · have h := h.2 z
          refine q_iconst (v := 0) C dL_law_1562 (by decide) ?_
          exact h.elim
    · have h := h.2 z
      refine q_iconst (v := 0) C dL_law_1545 (by decide) ?_
      exact h.elim
set_option maxRecDepth 100000 in
set_option maxHeartbeats 8000000 in
theorem arm_L_law_1567 {p : Program} {l : Launch} {e : Env} {s : State} {m : MethodId} {below : List Frame} {meth : Method} {c : Code} {D : va_G} {cA : Nat → ClassId} {lo scr L : Nat} {xs : Nat → Int32} (C : Cx p s m #[Value.ref scr] c cL_law 9 RL wsL_law D cA lo) (hl : l.stackTraces = false) (hX : va_X scr L xs s s.heap) (hbl : scr < s.heap.size ∧ lo = s.heap.size) (hr : meth.sig.returnType = ret) (hlk : meth.locks = false) (M : Mm) (a1 : Nat) (a2 : Nat) (a3 : Nat) (i4 : Int32) (cc zz : Nat) (h : A_L_law_1567 (fun (a1 : Nat) (a2 : Nat) (a3 : Nat) (i4 : Int32) (M : Mm) (cc zz : Nat) => QW p l e room_1 s m #[Value.ref scr] below meth c (lw_Z below #[Value.ref scr] s) 9 D cA lo cc zz M 23 [(0, .ref scr), (1, .ref a1), (2, .ref a2), (3, .ref a3), (4, .int i4)] []) 600002 7302232 L xs M a1 a2 a3 i4 cc zz) : QW p l e room_1 s m #[Value.ref scr] below meth c (lw_Z below #[Value.ref scr] s) 9 D cA lo cc zz M 1567 [(0, .ref scr), (1, .ref a1), (2, .ref a2), (3, .ref a3), (4, .int i4)] [] := by
  unfold A_L_law_1567 at h
  refine q_aload_n C dL_law_1567 rfl (j := 1) rfl ?_
  refine q_aload_n C dL_law_1568 rfl (j := 0) rfl ?_
  refine q_iload C dL_law_1569 (j := 4) rfl ?_
  refine q_iconst (v := 1) C dL_law_1571 (by decide) ?_
  refine q_iadd C dL_law_1572 ?_
  refine q_sld hX hbl C h.1 dL_law_1573 ?_
  have h := h.2
  refine q_aload_n C dL_law_1574 rfl (j := 0) rfl ?_
  refine q_iload C dL_law_1575 (j := 4) rfl ?_
  refine q_iconst (v := 2) C dL_law_1577 (by decide) ?_
  refine q_iadd C dL_law_1578 ?_
  refine q_sld hX hbl C h.1 dL_law_1579 ?_
  have h := h.2
  refine q_aload_n C dL_law_1580 rfl (j := 3) rfl ?_
  obtain ⟨dc_172, ds_172, hcz, h⟩ := h
  refine q_xw (q_runSW (As := [.ref a1, .int (xs (i4 + 1).toNatClampNeg), .int (xs (i4 + 2).toNatClampNeg), .ref a3]) (st := []) C (c_L_hole l hl D cA lo h) (vx_cwSW 4 C.2.2.2.2.1 gL_law_L_hole rfl rfl rfl (by decide +kernel) ⟨Nat.le_of_ble_eq_true rfl, Nat.le_of_ble_eq_true rfl⟩) rfl rfl (Nat.le_of_ble_eq_true rfl) dL_law_1581 hcz) (fun E M_x h => ?_) (fun r_170 M_171 h => ?_)
  · exact h.elim
  · refine q_istore (lv' := [(5, .int r_170), (0, .ref scr), (1, .ref a1), (2, .ref a2), (3, .ref a3), (4, .int i4)]) C dL_law_1584 (by decide) rfl ?_
    refine q_aload_n C dL_law_1586 rfl (j := 3) rfl ?_
    refine q_aload_n C dL_law_1587 rfl (j := 1) rfl ?_
    refine q_iload C dL_law_1588 (j := 5) rfl ?_
    refine q_iconst (v := 1) C dL_law_1590 (by decide) ?_
    refine q_iadd C dL_law_1591 ?_
    refine q_sld hX hbl C h.1 dL_law_1592 ?_
    have h := h.2
    refine q_aload_n C dL_law_1593 rfl (j := 1) rfl ?_
    refine q_iload C dL_law_1594 (j := 5) rfl ?_
    refine q_iconst (v := 2) C dL_law_1596 (by decide) ?_
    refine q_iadd C dL_law_1597 ?_
    refine q_sld hX hbl C h.1 dL_law_1598 ?_
    have h := h.2
    have hcz := h.1
    have h := h.2
    refine q_ci (q_runV (As := [.int (xs (i4 + 1).toNatClampNeg), .int (xs (i4 + 2).toNatClampNeg)]) (st := []) C (c_X9_hole l D cA lo h.2) (cwV 2 C.2.2.2.2.1 gL_law_X9_hole rfl rfl rfl (by decide +kernel) ⟨Nat.le_of_ble_eq_true rfl, Nat.le_of_ble_eq_true rfl⟩) h.1 (by decide) rfl rfl rfl (Nat.le_of_ble_eq_true rfl) dL_law_1599 ⟨Nat.le_trans (Nat.le_of_eq (Nat.add_zero _)) hcz.1, Nat.le_trans (Nat.le_of_eq (Nat.add_zero _)) hcz.2⟩) (fun r_173 M_174 h => ?_)
    refine q_istore (lv' := [(6, .int r_173), (5, .int r_170), (0, .ref scr), (1, .ref a1), (2, .ref a2), (3, .ref a3), (4, .int i4)]) C dL_law_1602 (by decide) rfl ?_
    refine q_aload_n C dL_law_1604 rfl (j := 4) rfl ?_
    have hcz := h.1
    have h := h.2
    refine q_ci (q_runV (As := []) (st := []) C (c_X9_thrown l D cA lo h.2) (cwV 0 C.2.2.2.2.1 gL_law_X9_thrown rfl rfl rfl (by decide +kernel) ⟨Nat.le_of_ble_eq_true rfl, Nat.le_of_ble_eq_true rfl⟩) h.1 (by decide) rfl rfl rfl (Nat.le_of_ble_eq_true rfl) dL_law_1605 ⟨Nat.le_trans (Nat.le_of_eq (Nat.add_zero _)) hcz.1, Nat.le_trans (Nat.le_of_eq (Nat.add_zero _)) hcz.2⟩) (fun r_175 M_z h => ?_)
    refine q_mem h.1 ?_
    have h := h.2
    refine q_iload C dL_law_1608 (j := 1) rfl ?_
    refine q_icmp_eq (tgt := 1615) C dL_law_1610 (by decide) (fun z => ?_) (fun z => ?_)
    · have h := h.1 z
      refine q_iload C dL_law_1615 (j := 1) rfl ?_
      refine q_if_ne (tgt := 1632) C dL_law_1617 (by decide) (fun z => ?_) (fun z => ?_)
      · have h := h.1 z
        refine q_goto (tgt := 2087) C dL_law_1632 (by decide) ?_
        refine q_iinc (v := (i4 + 5)) (lv' := [(4, .int (i4 + 5)), (6, .int r_173), (5, .int r_170), (0, .ref scr), (1, .ref a1), (2, .ref a2), (3, .ref a3)]) C dL_law_2087 (j := 6) rfl rfl (by decide) rfl ?_
        refine q_goto (tgt := 23) C dL_law_2090 (by decide) ?_
        exact q_sub [3, 4, 5, 6, 0] rfl h
      · have h := h.2 z
        refine q_aload_n C dL_law_1620 rfl (j := 5) rfl ?_
        refine q_iconst (v := 0) C dL_law_1621 (by decide) ?_
        obtain ⟨n_176, z1, z2, h⟩ := h
        refine q_lald C z1 z2 dL_law_1622 ?_
        refine q_iload C dL_law_1623 (j := 0) rfl ?_
        refine q_i2l C dL_law_1625 ?_
        refine q_lcmp C dL_law_1626 ?_
        refine q_if_eq (tgt := 1632) C dL_law_1627 (by decide) (fun z => ?_) (fun z => ?_)
        · have h := h.1 z
          refine q_goto (tgt := 2087) C dL_law_1632 (by decide) ?_
          refine q_iinc (v := (i4 + 5)) (lv' := [(4, .int (i4 + 5)), (6, .int r_173), (5, .int r_170), (0, .ref scr), (1, .ref a1), (2, .ref a2), (3, .ref a3)]) C dL_law_2087 (j := 6) rfl rfl (by decide) rfl ?_
          refine q_goto (tgt := 23) C dL_law_2090 (by decide) ?_
          exact q_sub [3, 4, 5, 6, 0] rfl h
        · have h := h.2 z
          refine q_iconst (v := 0) C dL_law_1630 (by decide) ?_
          exact h.elim
    · have h := h.2 z
      refine q_iconst (v := 0) C dL_law_1613 (by decide) ?_
      exact h.elim
set_option maxRecDepth 100000 in
set_option maxHeartbeats 8000000 in
theorem arm_L_law_1635 {p : Program} {l : Launch} {e : Env} {s : State} {m : MethodId} {below : List Frame} {meth : Method} {c : Code} {D : va_G} {cA : Nat → ClassId} {lo scr L : Nat} {xs : Nat → Int32} (C : Cx p s m #[Value.ref scr] c cL_law 9 RL wsL_law D cA lo) (hl : l.stackTraces = false) (hX : va_X scr L xs s s.heap) (hbl : scr < s.heap.size ∧ lo = s.heap.size) (hr : meth.sig.returnType = ret) (hlk : meth.locks = false) (M : Mm) (a1 : Nat) (a2 : Nat) (a3 : Nat) (i4 : Int32) (cc zz : Nat) (h : A_L_law_1635 (fun (a1 : Nat) (a2 : Nat) (a3 : Nat) (i4 : Int32) (M : Mm) (cc zz : Nat) => QW p l e room_1 s m #[Value.ref scr] below meth c (lw_Z below #[Value.ref scr] s) 9 D cA lo cc zz M 23 [(0, .ref scr), (1, .ref a1), (2, .ref a2), (3, .ref a3), (4, .int i4)] []) 600002 7302232 L xs M a1 a2 a3 i4 cc zz) : QW p l e room_1 s m #[Value.ref scr] below meth c (lw_Z below #[Value.ref scr] s) 9 D cA lo cc zz M 1635 [(0, .ref scr), (1, .ref a1), (2, .ref a2), (3, .ref a3), (4, .int i4)] [] := by
  unfold A_L_law_1635 at h
  refine q_aload_n C dL_law_1635 rfl (j := 1) rfl ?_
  refine q_aload_n C dL_law_1636 rfl (j := 0) rfl ?_
  refine q_iload C dL_law_1637 (j := 4) rfl ?_
  refine q_iconst (v := 1) C dL_law_1639 (by decide) ?_
  refine q_iadd C dL_law_1640 ?_
  refine q_sld hX hbl C h.1 dL_law_1641 ?_
  have h := h.2
  refine q_aload_n C dL_law_1642 rfl (j := 0) rfl ?_
  refine q_iload C dL_law_1643 (j := 4) rfl ?_
  refine q_iconst (v := 2) C dL_law_1645 (by decide) ?_
  refine q_iadd C dL_law_1646 ?_
  refine q_sld hX hbl C h.1 dL_law_1647 ?_
  have h := h.2
  refine q_aload_n C dL_law_1648 rfl (j := 3) rfl ?_
  obtain ⟨dc_179, ds_179, hcz, h⟩ := h
  refine q_xw (q_runSW (As := [.ref a1, .int (xs (i4 + 1).toNatClampNeg), .int (xs (i4 + 2).toNatClampNeg), .ref a3]) (st := []) C (c_L_around l hl D cA lo h) (vx_cwSW 4 C.2.2.2.2.1 gL_law_L_around rfl rfl rfl (by decide +kernel) ⟨Nat.le_of_ble_eq_true rfl, Nat.le_of_ble_eq_true rfl⟩) rfl rfl (Nat.le_of_ble_eq_true rfl) dL_law_1649 hcz) (fun E M_x h => ?_) (fun r_177 M_178 h => ?_)
  · exact h.elim
  · refine q_istore (lv' := [(5, .int r_177), (0, .ref scr), (1, .ref a1), (2, .ref a2), (3, .ref a3), (4, .int i4)]) C dL_law_1652 (by decide) rfl ?_
    refine q_aload_n C dL_law_1654 rfl (j := 3) rfl ?_
    refine q_aload_n C dL_law_1655 rfl (j := 1) rfl ?_
    refine q_iload C dL_law_1656 (j := 5) rfl ?_
    refine q_iconst (v := 1) C dL_law_1658 (by decide) ?_
    refine q_iadd C dL_law_1659 ?_
    refine q_sld hX hbl C h.1 dL_law_1660 ?_
    have h := h.2
    refine q_aload_n C dL_law_1661 rfl (j := 1) rfl ?_
    refine q_iload C dL_law_1662 (j := 5) rfl ?_
    refine q_iconst (v := 2) C dL_law_1664 (by decide) ?_
    refine q_iadd C dL_law_1665 ?_
    refine q_sld hX hbl C h.1 dL_law_1666 ?_
    have h := h.2
    have hcz := h.1
    have h := h.2
    refine q_ci (q_runV (As := [.int (xs (i4 + 1).toNatClampNeg), .int (xs (i4 + 2).toNatClampNeg)]) (st := []) C (c_X9_around l D cA lo h.2) (cwV 2 C.2.2.2.2.1 gL_law_X9_around rfl rfl rfl (by decide +kernel) ⟨Nat.le_of_ble_eq_true rfl, Nat.le_of_ble_eq_true rfl⟩) h.1 (by decide) rfl rfl rfl (Nat.le_of_ble_eq_true rfl) dL_law_1667 ⟨Nat.le_trans (Nat.le_of_eq (Nat.add_zero _)) hcz.1, Nat.le_trans (Nat.le_of_eq (Nat.add_zero _)) hcz.2⟩) (fun r_180 M_181 h => ?_)
    refine q_istore (lv' := [(6, .int r_180), (5, .int r_177), (0, .ref scr), (1, .ref a1), (2, .ref a2), (3, .ref a3), (4, .int i4)]) C dL_law_1670 (by decide) rfl ?_
    refine q_aload_n C dL_law_1672 rfl (j := 4) rfl ?_
    have hcz := h.1
    have h := h.2
    refine q_ci (q_runV (As := []) (st := []) C (c_X9_thrown l D cA lo h.2) (cwV 0 C.2.2.2.2.1 gL_law_X9_thrown rfl rfl rfl (by decide +kernel) ⟨Nat.le_of_ble_eq_true rfl, Nat.le_of_ble_eq_true rfl⟩) h.1 (by decide) rfl rfl rfl (Nat.le_of_ble_eq_true rfl) dL_law_1673 ⟨Nat.le_trans (Nat.le_of_eq (Nat.add_zero _)) hcz.1, Nat.le_trans (Nat.le_of_eq (Nat.add_zero _)) hcz.2⟩) (fun r_182 M_z h => ?_)
    refine q_mem h.1 ?_
    have h := h.2
    refine q_iload C dL_law_1676 (j := 1) rfl ?_
    refine q_icmp_eq (tgt := 1683) C dL_law_1678 (by decide) (fun z => ?_) (fun z => ?_)
    · have h := h.1 z
      refine q_iload C dL_law_1683 (j := 1) rfl ?_
      refine q_if_ne (tgt := 1700) C dL_law_1685 (by decide) (fun z => ?_) (fun z => ?_)
      · have h := h.1 z
        refine q_goto (tgt := 2087) C dL_law_1700 (by decide) ?_
        refine q_iinc (v := (i4 + 5)) (lv' := [(4, .int (i4 + 5)), (6, .int r_180), (5, .int r_177), (0, .ref scr), (1, .ref a1), (2, .ref a2), (3, .ref a3)]) C dL_law_2087 (j := 6) rfl rfl (by decide) rfl ?_
        refine q_goto (tgt := 23) C dL_law_2090 (by decide) ?_
        exact q_sub [3, 4, 5, 6, 0] rfl h
      · have h := h.2 z
        refine q_aload_n C dL_law_1688 rfl (j := 5) rfl ?_
        refine q_iconst (v := 0) C dL_law_1689 (by decide) ?_
        obtain ⟨n_183, z1, z2, h⟩ := h
        refine q_lald C z1 z2 dL_law_1690 ?_
        refine q_iload C dL_law_1691 (j := 0) rfl ?_
        refine q_i2l C dL_law_1693 ?_
        refine q_lcmp C dL_law_1694 ?_
        refine q_if_eq (tgt := 1700) C dL_law_1695 (by decide) (fun z => ?_) (fun z => ?_)
        · have h := h.1 z
          refine q_goto (tgt := 2087) C dL_law_1700 (by decide) ?_
          refine q_iinc (v := (i4 + 5)) (lv' := [(4, .int (i4 + 5)), (6, .int r_180), (5, .int r_177), (0, .ref scr), (1, .ref a1), (2, .ref a2), (3, .ref a3)]) C dL_law_2087 (j := 6) rfl rfl (by decide) rfl ?_
          refine q_goto (tgt := 23) C dL_law_2090 (by decide) ?_
          exact q_sub [3, 4, 5, 6, 0] rfl h
        · have h := h.2 z
          refine q_iconst (v := 0) C dL_law_1698 (by decide) ?_
          exact h.elim
    · have h := h.2 z
      refine q_iconst (v := 0) C dL_law_1681 (by decide) ?_
      exact h.elim
set_option maxRecDepth 100000 in
set_option maxHeartbeats 8000000 in
theorem arm_L_law_1703 {p : Program} {l : Launch} {e : Env} {s : State} {m : MethodId} {below : List Frame} {meth : Method} {c : Code} {D : va_G} {cA : Nat → ClassId} {lo scr L : Nat} {xs : Nat → Int32} (C : Cx p s m #[Value.ref scr] c cL_law 9 RL wsL_law D cA lo) (hl : l.stackTraces = false) (hX : va_X scr L xs s s.heap) (hbl : scr < s.heap.size ∧ lo = s.heap.size) (hr : meth.sig.returnType = ret) (hlk : meth.locks = false) (M : Mm) (a1 : Nat) (a2 : Nat) (a3 : Nat) (i4 : Int32) (cc zz : Nat) (h : A_L_law_1703 (fun (a1 : Nat) (a2 : Nat) (a3 : Nat) (i4 : Int32) (M : Mm) (cc zz : Nat) => QW p l e room_1 s m #[Value.ref scr] below meth c (lw_Z below #[Value.ref scr] s) 9 D cA lo cc zz M 23 [(0, .ref scr), (1, .ref a1), (2, .ref a2), (3, .ref a3), (4, .int i4)] []) 600002 7302232 L xs M a1 a2 a3 i4 cc zz) : QW p l e room_1 s m #[Value.ref scr] below meth c (lw_Z below #[Value.ref scr] s) 9 D cA lo cc zz M 1703 [(0, .ref scr), (1, .ref a1), (2, .ref a2), (3, .ref a3), (4, .int i4)] [] := by
  unfold A_L_law_1703 at h
  refine q_aload_n C dL_law_1703 rfl (j := 1) rfl ?_
  refine q_aload_n C dL_law_1704 rfl (j := 0) rfl ?_
  refine q_iload C dL_law_1705 (j := 4) rfl ?_
  refine q_iconst (v := 1) C dL_law_1707 (by decide) ?_
  refine q_iadd C dL_law_1708 ?_
  refine q_sld hX hbl C h.1 dL_law_1709 ?_
  have h := h.2
  refine q_aload_n C dL_law_1710 rfl (j := 0) rfl ?_
  refine q_iload C dL_law_1711 (j := 4) rfl ?_
  refine q_iconst (v := 2) C dL_law_1713 (by decide) ?_
  refine q_iadd C dL_law_1714 ?_
  refine q_sld hX hbl C h.1 dL_law_1715 ?_
  have h := h.2
  refine q_aload_n C dL_law_1716 rfl (j := 3) rfl ?_
  obtain ⟨dc_186, ds_186, hcz, h⟩ := h
  refine q_xw (q_runSW (As := [.ref a1, .int (xs (i4 + 1).toNatClampNeg), .int (xs (i4 + 2).toNatClampNeg), .ref a3]) (st := []) C (c_L_normal l hl D cA lo h) (vx_cwSW 4 C.2.2.2.2.1 gL_law_L_normal rfl rfl rfl (by decide +kernel) ⟨Nat.le_of_ble_eq_true rfl, Nat.le_of_ble_eq_true rfl⟩) rfl rfl (Nat.le_of_ble_eq_true rfl) dL_law_1717 hcz) (fun E M_x h => ?_) (fun r_184 M_185 h => ?_)
  · exact h.elim
  · refine q_istore (lv' := [(5, .int r_184), (0, .ref scr), (1, .ref a1), (2, .ref a2), (3, .ref a3), (4, .int i4)]) C dL_law_1720 (by decide) rfl ?_
    refine q_aload_n C dL_law_1722 rfl (j := 3) rfl ?_
    refine q_aload_n C dL_law_1723 rfl (j := 1) rfl ?_
    refine q_iload C dL_law_1724 (j := 5) rfl ?_
    refine q_iconst (v := 1) C dL_law_1726 (by decide) ?_
    refine q_iadd C dL_law_1727 ?_
    refine q_sld hX hbl C h.1 dL_law_1728 ?_
    have h := h.2
    refine q_aload_n C dL_law_1729 rfl (j := 1) rfl ?_
    refine q_iload C dL_law_1730 (j := 5) rfl ?_
    refine q_iconst (v := 2) C dL_law_1732 (by decide) ?_
    refine q_iadd C dL_law_1733 ?_
    refine q_sld hX hbl C h.1 dL_law_1734 ?_
    have h := h.2
    have hcz := h.1
    have h := h.2
    refine q_ci (q_runV (As := [.int (xs (i4 + 1).toNatClampNeg), .int (xs (i4 + 2).toNatClampNeg)]) (st := []) C (c_X9_normal l D cA lo h.2) (cwV 2 C.2.2.2.2.1 gL_law_X9_normal rfl rfl rfl (by decide +kernel) ⟨Nat.le_of_ble_eq_true rfl, Nat.le_of_ble_eq_true rfl⟩) h.1 (by decide) rfl rfl rfl (Nat.le_of_ble_eq_true rfl) dL_law_1735 ⟨Nat.le_trans (Nat.le_of_eq (Nat.add_zero _)) hcz.1, Nat.le_trans (Nat.le_of_eq (Nat.add_zero _)) hcz.2⟩) (fun r_187 M_188 h => ?_)
    refine q_istore (lv' := [(6, .int r_187), (5, .int r_184), (0, .ref scr), (1, .ref a1), (2, .ref a2), (3, .ref a3), (4, .int i4)]) C dL_law_1738 (by decide) rfl ?_
    refine q_aload_n C dL_law_1740 rfl (j := 4) rfl ?_
    have hcz := h.1
    have h := h.2
    refine q_ci (q_runV (As := []) (st := []) C (c_X9_thrown l D cA lo h.2) (cwV 0 C.2.2.2.2.1 gL_law_X9_thrown rfl rfl rfl (by decide +kernel) ⟨Nat.le_of_ble_eq_true rfl, Nat.le_of_ble_eq_true rfl⟩) h.1 (by decide) rfl rfl rfl (Nat.le_of_ble_eq_true rfl) dL_law_1741 ⟨Nat.le_trans (Nat.le_of_eq (Nat.add_zero _)) hcz.1, Nat.le_trans (Nat.le_of_eq (Nat.add_zero _)) hcz.2⟩) (fun r_189 M_z h => ?_)
    refine q_mem h.1 ?_
    have h := h.2
    refine q_iload C dL_law_1744 (j := 1) rfl ?_
    refine q_icmp_eq (tgt := 1751) C dL_law_1746 (by decide) (fun z => ?_) (fun z => ?_)
    · have h := h.1 z
      refine q_iload C dL_law_1751 (j := 1) rfl ?_
      refine q_if_ne (tgt := 1768) C dL_law_1753 (by decide) (fun z => ?_) (fun z => ?_)
      · have h := h.1 z
        refine q_goto (tgt := 2087) C dL_law_1768 (by decide) ?_
        refine q_iinc (v := (i4 + 5)) (lv' := [(4, .int (i4 + 5)), (6, .int r_187), (5, .int r_184), (0, .ref scr), (1, .ref a1), (2, .ref a2), (3, .ref a3)]) C dL_law_2087 (j := 6) rfl rfl (by decide) rfl ?_
        refine q_goto (tgt := 23) C dL_law_2090 (by decide) ?_
        exact q_sub [3, 4, 5, 6, 0] rfl h
      · have h := h.2 z
        refine q_aload_n C dL_law_1756 rfl (j := 5) rfl ?_
        refine q_iconst (v := 0) C dL_law_1757 (by decide) ?_
        obtain ⟨n_190, z1, z2, h⟩ := h
        refine q_lald C z1 z2 dL_law_1758 ?_
        refine q_iload C dL_law_1759 (j := 0) rfl ?_
        refine q_i2l C dL_law_1761 ?_
        refine q_lcmp C dL_law_1762 ?_
        refine q_if_eq (tgt := 1768) C dL_law_1763 (by decide) (fun z => ?_) (fun z => ?_)
        · have h := h.1 z
          refine q_goto (tgt := 2087) C dL_law_1768 (by decide) ?_
          refine q_iinc (v := (i4 + 5)) (lv' := [(4, .int (i4 + 5)), (6, .int r_187), (5, .int r_184), (0, .ref scr), (1, .ref a1), (2, .ref a2), (3, .ref a3)]) C dL_law_2087 (j := 6) rfl rfl (by decide) rfl ?_
          refine q_goto (tgt := 23) C dL_law_2090 (by decide) ?_
          exact q_sub [3, 4, 5, 6, 0] rfl h
        · have h := h.2 z
          refine q_iconst (v := 0) C dL_law_1766 (by decide) ?_
          exact h.elim
    · have h := h.2 z
      refine q_iconst (v := 0) C dL_law_1749 (by decide) ?_
      exact h.elim
set_option maxRecDepth 100000 in
set_option maxHeartbeats 8000000 in
theorem arm_L_law_1771 {p : Program} {l : Launch} {e : Env} {s : State} {m : MethodId} {below : List Frame} {meth : Method} {c : Code} {D : va_G} {cA : Nat → ClassId} {lo scr L : Nat} {xs : Nat → Int32} (C : Cx p s m #[Value.ref scr] c cL_law 9 RL wsL_law D cA lo) (hl : l.stackTraces = false) (hX : va_X scr L xs s s.heap) (hbl : scr < s.heap.size ∧ lo = s.heap.size) (hr : meth.sig.returnType = ret) (hlk : meth.locks = false) (M : Mm) (a1 : Nat) (a2 : Nat) (a3 : Nat) (i4 : Int32) (cc zz : Nat) (h : A_L_law_1771 (fun (a1 : Nat) (a2 : Nat) (a3 : Nat) (i4 : Int32) (M : Mm) (cc zz : Nat) => QW p l e room_1 s m #[Value.ref scr] below meth c (lw_Z below #[Value.ref scr] s) 9 D cA lo cc zz M 23 [(0, .ref scr), (1, .ref a1), (2, .ref a2), (3, .ref a3), (4, .int i4)] []) 600002 7302232 L xs M a1 a2 a3 i4 cc zz) : QW p l e room_1 s m #[Value.ref scr] below meth c (lw_Z below #[Value.ref scr] s) 9 D cA lo cc zz M 1771 [(0, .ref scr), (1, .ref a1), (2, .ref a2), (3, .ref a3), (4, .int i4)] [] := by
  unfold A_L_law_1771 at h
  refine q_aload_n C dL_law_1771 rfl (j := 1) rfl ?_
  have hcz := h.1
  have h := h.2
  refine q_cl (q_runV (As := []) (st := []) C (c_X8_volume l D cA lo h.2) (cwV 0 C.2.2.2.2.1 gL_law_X8_volume rfl rfl rfl (by decide +kernel) ⟨Nat.le_of_ble_eq_true rfl, Nat.le_of_ble_eq_true rfl⟩) h.1 (by decide) rfl rfl rfl (Nat.le_of_ble_eq_true rfl) dL_law_1772 ⟨Nat.le_trans (Nat.le_of_eq (Nat.add_zero _)) hcz.1, Nat.le_trans (Nat.le_of_eq (Nat.add_zero _)) hcz.2⟩) (fun r_191 M_z h => ?_)
  refine q_mem h.1 ?_
  have h := h.2
  refine q_aload_n C dL_law_1775 rfl (j := 2) rfl ?_
  have hcz := h.1
  have h := h.2
  refine q_cl (q_runV (As := []) (st := [.long r_191]) C (c_X9_volume l D cA lo h.2) (cwV 0 C.2.2.2.2.1 gL_law_X9_volume rfl rfl rfl (by decide +kernel) ⟨Nat.le_of_ble_eq_true rfl, Nat.le_of_ble_eq_true rfl⟩) h.1 (by decide) rfl rfl rfl (Nat.le_of_ble_eq_true rfl) dL_law_1776 ⟨Nat.le_trans (Nat.le_of_eq (Nat.add_zero _)) hcz.1, Nat.le_trans (Nat.le_of_eq (Nat.add_zero _)) hcz.2⟩) (fun r_192 M_193 h => ?_)
  refine q_lcmp C dL_law_1779 ?_
  refine q_if_eq (tgt := 2087) C dL_law_1780 (by decide) (fun z => ?_) (fun z => ?_)
  · have h := h.1 z
    refine q_iinc (v := (i4 + 5)) (lv' := [(4, .int (i4 + 5)), (0, .ref scr), (1, .ref a1), (2, .ref a2), (3, .ref a3)]) C dL_law_2087 (j := 4) rfl rfl (by decide) rfl ?_
    refine q_goto (tgt := 23) C dL_law_2090 (by decide) ?_
    exact q_sub [1, 2, 3, 4, 0] rfl h
  · have h := h.2 z
    refine q_iconst (v := 0) C dL_law_1783 (by decide) ?_
    exact h.elim
set_option maxRecDepth 100000 in
set_option maxHeartbeats 8000000 in
theorem arm_L_law_1785 {p : Program} {l : Launch} {e : Env} {s : State} {m : MethodId} {below : List Frame} {meth : Method} {c : Code} {D : va_G} {cA : Nat → ClassId} {lo scr L : Nat} {xs : Nat → Int32} (C : Cx p s m #[Value.ref scr] c cL_law 9 RL wsL_law D cA lo) (hl : l.stackTraces = false) (hX : va_X scr L xs s s.heap) (hbl : scr < s.heap.size ∧ lo = s.heap.size) (hr : meth.sig.returnType = ret) (hlk : meth.locks = false) (M : Mm) (a1 : Nat) (a2 : Nat) (a3 : Nat) (i4 : Int32) (cc zz : Nat) (h : A_L_law_1785 (fun (a1 : Nat) (a2 : Nat) (a3 : Nat) (i4 : Int32) (M : Mm) (cc zz : Nat) => QW p l e room_1 s m #[Value.ref scr] below meth c (lw_Z below #[Value.ref scr] s) 9 D cA lo cc zz M 23 [(0, .ref scr), (1, .ref a1), (2, .ref a2), (3, .ref a3), (4, .int i4)] []) 600002 7302232 L xs M a1 a2 a3 i4 cc zz) : QW p l e room_1 s m #[Value.ref scr] below meth c (lw_Z below #[Value.ref scr] s) 9 D cA lo cc zz M 1785 [(0, .ref scr), (1, .ref a1), (2, .ref a2), (3, .ref a3), (4, .int i4)] [] := by
  unfold A_L_law_1785 at h
  refine q_aload_n C dL_law_1785 rfl (j := 1) rfl ?_
  have hcz := h.1
  have h := h.2
  refine q_cd (q_runV (As := []) (st := []) C (c_X8_meanEdge l D cA lo h.2) (cwV 0 C.2.2.2.2.1 gL_law_X8_meanEdge rfl rfl rfl (by decide +kernel) ⟨Nat.le_of_ble_eq_true rfl, Nat.le_of_ble_eq_true rfl⟩) h.1 (by decide) rfl rfl rfl (Nat.le_of_ble_eq_true rfl) dL_law_1786 ⟨Nat.le_trans (Nat.le_of_eq (Nat.add_zero _)) hcz.1, Nat.le_trans (Nat.le_of_eq (Nat.add_zero _)) hcz.2⟩) (fun r_194 M_z h => ?_)
  refine q_mem h.1 ?_
  have h := h.2
  refine q_dstore (lv' := [(5, .double r_194), (0, .ref scr), (1, .ref a1), (2, .ref a2), (3, .ref a3), (4, .int i4)]) C dL_law_1789 (by decide) rfl ?_
  refine q_aload_n C dL_law_1791 rfl (j := 3) rfl ?_
  have hcz := h.1
  have h := h.2
  refine q_cd (q_runV (As := []) (st := []) C (c_X9_meanEdge l D cA lo h.2) (cwV 0 C.2.2.2.2.1 gL_law_X9_meanEdge rfl rfl rfl (by decide +kernel) ⟨Nat.le_of_ble_eq_true rfl, Nat.le_of_ble_eq_true rfl⟩) h.1 (by decide) rfl rfl rfl (Nat.le_of_ble_eq_true rfl) dL_law_1792 ⟨Nat.le_trans (Nat.le_of_eq (Nat.add_zero _)) hcz.1, Nat.le_trans (Nat.le_of_eq (Nat.add_zero _)) hcz.2⟩) (fun r_195 M_196 h => ?_)
  refine q_dstore (lv' := [(7, .double r_195), (5, .double r_194), (0, .ref scr), (1, .ref a1), (2, .ref a2), (3, .ref a3), (4, .int i4)]) C dL_law_1795 (by decide) rfl ?_
  refine q_dload C dL_law_1797 (j := 1) rfl ?_
  refine q_dload C dL_law_1799 (j := 0) rfl ?_
  refine q_dcmp C dL_law_1801 ?_
  refine q_if_eq (tgt := 1823) C dL_law_1802 (by decide) (fun z => ?_) (fun z => ?_)
  · have h := h.1 z
    refine q_goto (tgt := 2087) C dL_law_1823 (by decide) ?_
    refine q_iinc (v := (i4 + 5)) (lv' := [(4, .int (i4 + 5)), (7, .double r_195), (5, .double r_194), (0, .ref scr), (1, .ref a1), (2, .ref a2), (3, .ref a3)]) C dL_law_2087 (j := 6) rfl rfl (by decide) rfl ?_
    refine q_goto (tgt := 23) C dL_law_2090 (by decide) ?_
    exact q_sub [3, 4, 5, 6, 0] rfl h
  · have h := h.2 z
    refine q_dload C dL_law_1805 (j := 1) rfl ?_
    refine q_dload C dL_law_1807 (j := 1) rfl ?_
    refine q_dcmp C dL_law_1809 ?_
    refine q_if_eq (tgt := 1821) C dL_law_1810 (by decide) (fun z => ?_) (fun z => ?_)
    · have h := h.1 z
      refine q_iconst (v := 0) C dL_law_1821 (by decide) ?_
      exact h.elim
    · have h := h.2 z
      refine q_dload C dL_law_1813 (j := 0) rfl ?_
      refine q_dload C dL_law_1815 (j := 0) rfl ?_
      refine q_dcmp C dL_law_1817 ?_
      refine q_if_ne (tgt := 1823) C dL_law_1818 (by decide) (fun z => ?_) (fun z => ?_)
      · have h := h.1 z
        refine q_goto (tgt := 2087) C dL_law_1823 (by decide) ?_
        refine q_iinc (v := (i4 + 5)) (lv' := [(4, .int (i4 + 5)), (7, .double r_195), (5, .double r_194), (0, .ref scr), (1, .ref a1), (2, .ref a2), (3, .ref a3)]) C dL_law_2087 (j := 6) rfl rfl (by decide) rfl ?_
        refine q_goto (tgt := 23) C dL_law_2090 (by decide) ?_
        exact q_sub [3, 4, 5, 6, 0] rfl h
      · have h := h.2 z
        refine q_iconst (v := 0) C dL_law_1821 (by decide) ?_
        exact h.elim
set_option maxRecDepth 100000 in
set_option maxHeartbeats 8000000 in
theorem arm_L_law_1826 {p : Program} {l : Launch} {e : Env} {s : State} {m : MethodId} {below : List Frame} {meth : Method} {c : Code} {D : va_G} {cA : Nat → ClassId} {lo scr L : Nat} {xs : Nat → Int32} (C : Cx p s m #[Value.ref scr] c cL_law 9 RL wsL_law D cA lo) (hl : l.stackTraces = false) (hX : va_X scr L xs s s.heap) (hbl : scr < s.heap.size ∧ lo = s.heap.size) (hr : meth.sig.returnType = ret) (hlk : meth.locks = false) (M : Mm) (a1 : Nat) (a2 : Nat) (a3 : Nat) (i4 : Int32) (cc zz : Nat) (h : A_L_law_1826 (fun (a1 : Nat) (a2 : Nat) (a3 : Nat) (i4 : Int32) (M : Mm) (cc zz : Nat) => QW p l e room_1 s m #[Value.ref scr] below meth c (lw_Z below #[Value.ref scr] s) 9 D cA lo cc zz M 23 [(0, .ref scr), (1, .ref a1), (2, .ref a2), (3, .ref a3), (4, .int i4)] []) 600002 7302232 L xs M a1 a2 a3 i4 cc zz) : QW p l e room_1 s m #[Value.ref scr] below meth c (lw_Z below #[Value.ref scr] s) 9 D cA lo cc zz M 1826 [(0, .ref scr), (1, .ref a1), (2, .ref a2), (3, .ref a3), (4, .int i4)] [] := by
  unfold A_L_law_1826 at h
  refine q_aload_n C dL_law_1826 rfl (j := 1) rfl ?_
  refine q_aload_n C dL_law_1827 rfl (j := 0) rfl ?_
  refine q_iload C dL_law_1828 (j := 4) rfl ?_
  refine q_iconst (v := 1) C dL_law_1830 (by decide) ?_
  refine q_iadd C dL_law_1831 ?_
  refine q_sld hX hbl C h.1 dL_law_1832 ?_
  have h := h.2
  refine q_aload_n C dL_law_1833 rfl (j := 0) rfl ?_
  refine q_iload C dL_law_1834 (j := 4) rfl ?_
  refine q_iconst (v := 2) C dL_law_1836 (by decide) ?_
  refine q_iadd C dL_law_1837 ?_
  refine q_sld hX hbl C h.1 dL_law_1838 ?_
  have h := h.2
  refine q_aload_n C dL_law_1839 rfl (j := 3) rfl ?_
  obtain ⟨dc_199, ds_199, hcz, h⟩ := h
  refine q_xw (q_runSW (As := [.ref a1, .int (xs (i4 + 1).toNatClampNeg), .int (xs (i4 + 2).toNatClampNeg), .ref a3]) (st := []) C (c_L_steps l hl D cA lo h) (vx_cwSW 4 C.2.2.2.2.1 gL_law_L_steps rfl rfl rfl (by decide +kernel) ⟨Nat.le_of_ble_eq_true rfl, Nat.le_of_ble_eq_true rfl⟩) rfl rfl (Nat.le_of_ble_eq_true rfl) dL_law_1840 hcz) (fun E M_x h => ?_) (fun r_197 M_198 h => ?_)
  · exact h.elim
  · refine q_istore (lv' := [(5, .int r_197), (0, .ref scr), (1, .ref a1), (2, .ref a2), (3, .ref a3), (4, .int i4)]) C dL_law_1843 (by decide) rfl ?_
    refine q_aload_n C dL_law_1845 rfl (j := 3) rfl ?_
    refine q_aload_n C dL_law_1846 rfl (j := 1) rfl ?_
    refine q_iload C dL_law_1847 (j := 5) rfl ?_
    refine q_iconst (v := 1) C dL_law_1849 (by decide) ?_
    refine q_iadd C dL_law_1850 ?_
    refine q_sld hX hbl C h.1 dL_law_1851 ?_
    have h := h.2
    refine q_aload_n C dL_law_1852 rfl (j := 1) rfl ?_
    refine q_iload C dL_law_1853 (j := 5) rfl ?_
    refine q_iconst (v := 2) C dL_law_1855 (by decide) ?_
    refine q_iadd C dL_law_1856 ?_
    refine q_sld hX hbl C h.1 dL_law_1857 ?_
    have h := h.2
    obtain ⟨dc_202, ds_202, hcz, h⟩ := h
    refine q_ci (q_runV (As := [.int (xs (i4 + 1).toNatClampNeg), .int (xs (i4 + 2).toNatClampNeg)]) (st := []) C (c_X9_steps l D cA lo h.2) (cwV 2 C.2.2.2.2.1 gL_law_X9_steps rfl rfl rfl (by decide +kernel) ⟨Nat.le_of_ble_eq_true rfl, Nat.le_of_ble_eq_true rfl⟩) h.1 (by decide) rfl rfl rfl (Nat.le_of_ble_eq_true rfl) dL_law_1858 hcz) (fun r_200 M_201 h => ?_)
    refine q_istore (lv' := [(6, .int r_200), (5, .int r_197), (0, .ref scr), (1, .ref a1), (2, .ref a2), (3, .ref a3), (4, .int i4)]) C dL_law_1861 (by decide) rfl ?_
    refine q_aload_n C dL_law_1863 rfl (j := 4) rfl ?_
    have hcz := h.1
    have h := h.2
    refine q_ci (q_runV (As := []) (st := []) C (c_X9_thrown l D cA lo h.2) (cwV 0 C.2.2.2.2.1 gL_law_X9_thrown rfl rfl rfl (by decide +kernel) ⟨Nat.le_of_ble_eq_true rfl, Nat.le_of_ble_eq_true rfl⟩) h.1 (by decide) rfl rfl rfl (Nat.le_of_ble_eq_true rfl) dL_law_1864 ⟨Nat.le_trans (Nat.le_of_eq (Nat.add_zero _)) hcz.1, Nat.le_trans (Nat.le_of_eq (Nat.add_zero _)) hcz.2⟩) (fun r_203 M_z h => ?_)
    refine q_mem h.1 ?_
    have h := h.2
    refine q_iload C dL_law_1867 (j := 1) rfl ?_
    refine q_icmp_eq (tgt := 1874) C dL_law_1869 (by decide) (fun z => ?_) (fun z => ?_)
    · have h := h.1 z
      refine q_iload C dL_law_1874 (j := 1) rfl ?_
      refine q_if_ne (tgt := 1891) C dL_law_1876 (by decide) (fun z => ?_) (fun z => ?_)
      · have h := h.1 z
        refine q_goto (tgt := 2087) C dL_law_1891 (by decide) ?_
        refine q_iinc (v := (i4 + 5)) (lv' := [(4, .int (i4 + 5)), (6, .int r_200), (5, .int r_197), (0, .ref scr), (1, .ref a1), (2, .ref a2), (3, .ref a3)]) C dL_law_2087 (j := 6) rfl rfl (by decide) rfl ?_
        refine q_goto (tgt := 23) C dL_law_2090 (by decide) ?_
        exact q_sub [3, 4, 5, 6, 0] rfl h
      · have h := h.2 z
        refine q_aload_n C dL_law_1879 rfl (j := 5) rfl ?_
        refine q_iconst (v := 0) C dL_law_1880 (by decide) ?_
        obtain ⟨n_204, z1, z2, h⟩ := h
        refine q_lald C z1 z2 dL_law_1881 ?_
        refine q_iload C dL_law_1882 (j := 0) rfl ?_
        refine q_i2l C dL_law_1884 ?_
        refine q_lcmp C dL_law_1885 ?_
        refine q_if_eq (tgt := 1891) C dL_law_1886 (by decide) (fun z => ?_) (fun z => ?_)
        · have h := h.1 z
          refine q_goto (tgt := 2087) C dL_law_1891 (by decide) ?_
          refine q_iinc (v := (i4 + 5)) (lv' := [(4, .int (i4 + 5)), (6, .int r_200), (5, .int r_197), (0, .ref scr), (1, .ref a1), (2, .ref a2), (3, .ref a3)]) C dL_law_2087 (j := 6) rfl rfl (by decide) rfl ?_
          refine q_goto (tgt := 23) C dL_law_2090 (by decide) ?_
          exact q_sub [3, 4, 5, 6, 0] rfl h
        · have h := h.2 z
          refine q_iconst (v := 0) C dL_law_1889 (by decide) ?_
          exact h.elim
    · have h := h.2 z
      refine q_iconst (v := 0) C dL_law_1872 (by decide) ?_
      exact h.elim
set_option maxRecDepth 100000 in
set_option maxHeartbeats 8000000 in
theorem arm_L_law_1894 {p : Program} {l : Launch} {e : Env} {s : State} {m : MethodId} {below : List Frame} {meth : Method} {c : Code} {D : va_G} {cA : Nat → ClassId} {lo scr L : Nat} {xs : Nat → Int32} (C : Cx p s m #[Value.ref scr] c cL_law 9 RL wsL_law D cA lo) (hl : l.stackTraces = false) (hX : va_X scr L xs s s.heap) (hbl : scr < s.heap.size ∧ lo = s.heap.size) (hr : meth.sig.returnType = ret) (hlk : meth.locks = false) (M : Mm) (a1 : Nat) (a2 : Nat) (a3 : Nat) (i4 : Int32) (cc zz : Nat) (h : A_L_law_1894 (fun (a1 : Nat) (a2 : Nat) (a3 : Nat) (i4 : Int32) (M : Mm) (cc zz : Nat) => QW p l e room_1 s m #[Value.ref scr] below meth c (lw_Z below #[Value.ref scr] s) 9 D cA lo cc zz M 23 [(0, .ref scr), (1, .ref a1), (2, .ref a2), (3, .ref a3), (4, .int i4)] []) 600002 7302232 L xs M a1 a2 a3 i4 cc zz) : QW p l e room_1 s m #[Value.ref scr] below meth c (lw_Z below #[Value.ref scr] s) 9 D cA lo cc zz M 1894 [(0, .ref scr), (1, .ref a1), (2, .ref a2), (3, .ref a3), (4, .int i4)] [] := by
  unfold A_L_law_1894 at h
  refine q_aload_n C dL_law_1894 rfl (j := 1) rfl ?_
  refine q_aload_n C dL_law_1895 rfl (j := 0) rfl ?_
  refine q_iload C dL_law_1896 (j := 4) rfl ?_
  refine q_iconst (v := 1) C dL_law_1898 (by decide) ?_
  refine q_iadd C dL_law_1899 ?_
  refine q_sld hX hbl C h.1 dL_law_1900 ?_
  have h := h.2
  refine q_aload_n C dL_law_1901 rfl (j := 3) rfl ?_
  obtain ⟨dc_207, ds_207, hcz, h⟩ := h
  refine q_xw (q_runSW (As := [.ref a1, .int (xs (i4 + 1).toNatClampNeg), .ref a3]) (st := []) C (c_L_may l hl D cA lo h) (vx_cwSW 3 C.2.2.2.2.1 gL_law_L_may rfl rfl rfl (by decide +kernel) ⟨Nat.le_of_ble_eq_true rfl, Nat.le_of_ble_eq_true rfl⟩) rfl rfl (Nat.le_of_ble_eq_true rfl) dL_law_1902 hcz) (fun E M_x h => ?_) (fun r_205 M_206 h => ?_)
  · exact h.elim
  · refine q_istore (lv' := [(5, .int r_205), (0, .ref scr), (1, .ref a1), (2, .ref a2), (3, .ref a3), (4, .int i4)]) C dL_law_1905 (by decide) rfl ?_
    refine q_aload_n C dL_law_1907 rfl (j := 3) rfl ?_
    refine q_aload_n C dL_law_1908 rfl (j := 1) rfl ?_
    refine q_iload C dL_law_1909 (j := 5) rfl ?_
    refine q_iconst (v := 1) C dL_law_1911 (by decide) ?_
    refine q_iadd C dL_law_1912 ?_
    refine q_sld hX hbl C h.1 dL_law_1913 ?_
    have h := h.2
    have hcz := h.1
    have h := h.2
    refine q_ci (q_runV (As := [.int (xs (i4 + 1).toNatClampNeg)]) (st := []) C (c_X9_may l D cA lo h.2) (cwV 1 C.2.2.2.2.1 gL_law_X9_may rfl rfl rfl (by decide +kernel) ⟨Nat.le_of_ble_eq_true rfl, Nat.le_of_ble_eq_true rfl⟩) h.1 (by decide) rfl rfl rfl (Nat.le_of_ble_eq_true rfl) dL_law_1914 ⟨Nat.le_trans (Nat.le_of_eq (Nat.add_zero _)) hcz.1, Nat.le_trans (Nat.le_of_eq (Nat.add_zero _)) hcz.2⟩) (fun r_208 M_209 h => ?_)
    refine q_istore (lv' := [(6, .int r_208), (5, .int r_205), (0, .ref scr), (1, .ref a1), (2, .ref a2), (3, .ref a3), (4, .int i4)]) C dL_law_1917 (by decide) rfl ?_
    refine q_aload_n C dL_law_1919 rfl (j := 4) rfl ?_
    have hcz := h.1
    have h := h.2
    refine q_ci (q_runV (As := []) (st := []) C (c_X9_thrown l D cA lo h.2) (cwV 0 C.2.2.2.2.1 gL_law_X9_thrown rfl rfl rfl (by decide +kernel) ⟨Nat.le_of_ble_eq_true rfl, Nat.le_of_ble_eq_true rfl⟩) h.1 (by decide) rfl rfl rfl (Nat.le_of_ble_eq_true rfl) dL_law_1920 ⟨Nat.le_trans (Nat.le_of_eq (Nat.add_zero _)) hcz.1, Nat.le_trans (Nat.le_of_eq (Nat.add_zero _)) hcz.2⟩) (fun r_210 M_z h => ?_)
    refine q_mem h.1 ?_
    have h := h.2
    refine q_iload C dL_law_1923 (j := 1) rfl ?_
    refine q_icmp_eq (tgt := 1930) C dL_law_1925 (by decide) (fun z => ?_) (fun z => ?_)
    · have h := h.1 z
      refine q_iload C dL_law_1930 (j := 1) rfl ?_
      refine q_if_ne (tgt := 1947) C dL_law_1932 (by decide) (fun z => ?_) (fun z => ?_)
      · have h := h.1 z
        refine q_goto (tgt := 2087) C dL_law_1947 (by decide) ?_
        refine q_iinc (v := (i4 + 5)) (lv' := [(4, .int (i4 + 5)), (6, .int r_208), (5, .int r_205), (0, .ref scr), (1, .ref a1), (2, .ref a2), (3, .ref a3)]) C dL_law_2087 (j := 6) rfl rfl (by decide) rfl ?_
        refine q_goto (tgt := 23) C dL_law_2090 (by decide) ?_
        exact q_sub [3, 4, 5, 6, 0] rfl h
      · have h := h.2 z
        refine q_aload_n C dL_law_1935 rfl (j := 5) rfl ?_
        refine q_iconst (v := 0) C dL_law_1936 (by decide) ?_
        obtain ⟨n_211, z1, z2, h⟩ := h
        refine q_lald C z1 z2 dL_law_1937 ?_
        refine q_iload C dL_law_1938 (j := 0) rfl ?_
        refine q_i2l C dL_law_1940 ?_
        refine q_lcmp C dL_law_1941 ?_
        refine q_if_eq (tgt := 1947) C dL_law_1942 (by decide) (fun z => ?_) (fun z => ?_)
        · have h := h.1 z
          refine q_goto (tgt := 2087) C dL_law_1947 (by decide) ?_
          refine q_iinc (v := (i4 + 5)) (lv' := [(4, .int (i4 + 5)), (6, .int r_208), (5, .int r_205), (0, .ref scr), (1, .ref a1), (2, .ref a2), (3, .ref a3)]) C dL_law_2087 (j := 6) rfl rfl (by decide) rfl ?_
          refine q_goto (tgt := 23) C dL_law_2090 (by decide) ?_
          exact q_sub [3, 4, 5, 6, 0] rfl h
        · have h := h.2 z
          refine q_iconst (v := 0) C dL_law_1945 (by decide) ?_
          exact h.elim
    · have h := h.2 z
      refine q_iconst (v := 0) C dL_law_1928 (by decide) ?_
      exact h.elim
set_option maxRecDepth 100000 in
set_option maxHeartbeats 8000000 in
theorem arm_L_law_1950 {p : Program} {l : Launch} {e : Env} {s : State} {m : MethodId} {below : List Frame} {meth : Method} {c : Code} {D : va_G} {cA : Nat → ClassId} {lo scr L : Nat} {xs : Nat → Int32} (C : Cx p s m #[Value.ref scr] c cL_law 9 RL wsL_law D cA lo) (hl : l.stackTraces = false) (hX : va_X scr L xs s s.heap) (hbl : scr < s.heap.size ∧ lo = s.heap.size) (hr : meth.sig.returnType = ret) (hlk : meth.locks = false) (M : Mm) (a1 : Nat) (a2 : Nat) (a3 : Nat) (i4 : Int32) (cc zz : Nat) (h : A_L_law_1950 (fun (a1 : Nat) (a2 : Nat) (a3 : Nat) (i4 : Int32) (M : Mm) (cc zz : Nat) => QW p l e room_1 s m #[Value.ref scr] below meth c (lw_Z below #[Value.ref scr] s) 9 D cA lo cc zz M 23 [(0, .ref scr), (1, .ref a1), (2, .ref a2), (3, .ref a3), (4, .int i4)] []) 600002 7302232 L xs M a1 a2 a3 i4 cc zz) : QW p l e room_1 s m #[Value.ref scr] below meth c (lw_Z below #[Value.ref scr] s) 9 D cA lo cc zz M 1950 [(0, .ref scr), (1, .ref a1), (2, .ref a2), (3, .ref a3), (4, .int i4)] [] := by
  unfold A_L_law_1950 at h
  refine q_aload_n C dL_law_1950 rfl (j := 1) rfl ?_
  refine q_aload_n C dL_law_1951 rfl (j := 0) rfl ?_
  refine q_iload C dL_law_1952 (j := 4) rfl ?_
  refine q_iconst (v := 1) C dL_law_1954 (by decide) ?_
  refine q_iadd C dL_law_1955 ?_
  refine q_sld hX hbl C h.1 dL_law_1956 ?_
  have h := h.2
  refine q_aload_n C dL_law_1957 rfl (j := 0) rfl ?_
  refine q_iload C dL_law_1958 (j := 4) rfl ?_
  refine q_iconst (v := 2) C dL_law_1960 (by decide) ?_
  refine q_iadd C dL_law_1961 ?_
  refine q_sld hX hbl C h.1 dL_law_1962 ?_
  have h := h.2
  refine q_aload_n C dL_law_1963 rfl (j := 3) rfl ?_
  obtain ⟨dc_214, ds_214, hcz, h⟩ := h
  refine q_xw (q_runSW (As := [.ref a1, .int (xs (i4 + 1).toNatClampNeg), .int (xs (i4 + 2).toNatClampNeg), .ref a3]) (st := []) C (c_L_volumeWith l hl D cA lo h) (vx_cwSW 4 C.2.2.2.2.1 gL_law_L_volumeWith rfl rfl rfl (by decide +kernel) ⟨Nat.le_of_ble_eq_true rfl, Nat.le_of_ble_eq_true rfl⟩) rfl rfl (Nat.le_of_ble_eq_true rfl) dL_law_1964 hcz) (fun E M_x h => ?_) (fun r_212 M_213 h => ?_)
  · exact h.elim
  · refine q_istore (lv' := [(5, .int r_212), (0, .ref scr), (1, .ref a1), (2, .ref a2), (3, .ref a3), (4, .int i4)]) C dL_law_1967 (by decide) rfl ?_
    refine q_aload_n C dL_law_1969 rfl (j := 3) rfl ?_
    refine q_aload_n C dL_law_1970 rfl (j := 1) rfl ?_
    refine q_iload C dL_law_1971 (j := 5) rfl ?_
    refine q_iconst (v := 1) C dL_law_1973 (by decide) ?_
    refine q_iadd C dL_law_1974 ?_
    refine q_sld hX hbl C h.1 dL_law_1975 ?_
    have h := h.2
    refine q_aload_n C dL_law_1976 rfl (j := 1) rfl ?_
    refine q_iload C dL_law_1977 (j := 5) rfl ?_
    refine q_iconst (v := 2) C dL_law_1979 (by decide) ?_
    refine q_iadd C dL_law_1980 ?_
    refine q_sld hX hbl C h.1 dL_law_1981 ?_
    have h := h.2
    have hcz := h.1
    have h := h.2
    refine q_cl (q_runV (As := [.int (xs (i4 + 1).toNatClampNeg), .int (xs (i4 + 2).toNatClampNeg)]) (st := []) C (c_X9_volumeWith l D cA lo h.2) (cwV 2 C.2.2.2.2.1 gL_law_X9_volumeWith rfl rfl rfl (by decide +kernel) ⟨Nat.le_of_ble_eq_true rfl, Nat.le_of_ble_eq_true rfl⟩) h.1 (by decide) rfl rfl rfl (Nat.le_of_ble_eq_true rfl) dL_law_1982 ⟨Nat.le_trans (Nat.le_of_eq (Nat.add_zero _)) hcz.1, Nat.le_trans (Nat.le_of_eq (Nat.add_zero _)) hcz.2⟩) (fun r_215 M_216 h => ?_)
    refine q_lstore (lv' := [(6, .long r_215), (5, .int r_212), (0, .ref scr), (1, .ref a1), (2, .ref a2), (3, .ref a3), (4, .int i4)]) C dL_law_1985 (by decide) rfl ?_
    refine q_aload_n C dL_law_1987 rfl (j := 4) rfl ?_
    have hcz := h.1
    have h := h.2
    refine q_ci (q_runV (As := []) (st := []) C (c_X9_thrown l D cA lo h.2) (cwV 0 C.2.2.2.2.1 gL_law_X9_thrown rfl rfl rfl (by decide +kernel) ⟨Nat.le_of_ble_eq_true rfl, Nat.le_of_ble_eq_true rfl⟩) h.1 (by decide) rfl rfl rfl (Nat.le_of_ble_eq_true rfl) dL_law_1988 ⟨Nat.le_trans (Nat.le_of_eq (Nat.add_zero _)) hcz.1, Nat.le_trans (Nat.le_of_eq (Nat.add_zero _)) hcz.2⟩) (fun r_217 M_z h => ?_)
    refine q_mem h.1 ?_
    have h := h.2
    refine q_iload C dL_law_1991 (j := 1) rfl ?_
    refine q_icmp_eq (tgt := 1998) C dL_law_1993 (by decide) (fun z => ?_) (fun z => ?_)
    · have h := h.1 z
      refine q_iload C dL_law_1998 (j := 1) rfl ?_
      refine q_if_ne (tgt := 2014) C dL_law_2000 (by decide) (fun z => ?_) (fun z => ?_)
      · have h := h.1 z
        refine q_goto (tgt := 2087) C dL_law_2014 (by decide) ?_
        refine q_iinc (v := (i4 + 5)) (lv' := [(4, .int (i4 + 5)), (6, .long r_215), (5, .int r_212), (0, .ref scr), (1, .ref a1), (2, .ref a2), (3, .ref a3)]) C dL_law_2087 (j := 6) rfl rfl (by decide) rfl ?_
        refine q_goto (tgt := 23) C dL_law_2090 (by decide) ?_
        exact q_sub [3, 4, 5, 6, 0] rfl h
      · have h := h.2 z
        refine q_aload_n C dL_law_2003 rfl (j := 5) rfl ?_
        refine q_iconst (v := 0) C dL_law_2004 (by decide) ?_
        obtain ⟨n_218, z1, z2, h⟩ := h
        refine q_lald C z1 z2 dL_law_2005 ?_
        refine q_lload C dL_law_2006 (j := 0) rfl ?_
        refine q_lcmp C dL_law_2008 ?_
        refine q_if_eq (tgt := 2014) C dL_law_2009 (by decide) (fun z => ?_) (fun z => ?_)
        · have h := h.1 z
          refine q_goto (tgt := 2087) C dL_law_2014 (by decide) ?_
          refine q_iinc (v := (i4 + 5)) (lv' := [(4, .int (i4 + 5)), (6, .long r_215), (5, .int r_212), (0, .ref scr), (1, .ref a1), (2, .ref a2), (3, .ref a3)]) C dL_law_2087 (j := 6) rfl rfl (by decide) rfl ?_
          refine q_goto (tgt := 23) C dL_law_2090 (by decide) ?_
          exact q_sub [3, 4, 5, 6, 0] rfl h
        · have h := h.2 z
          refine q_iconst (v := 0) C dL_law_2012 (by decide) ?_
          exact h.elim
    · have h := h.2 z
      refine q_iconst (v := 0) C dL_law_1996 (by decide) ?_
      exact h.elim
set_option maxRecDepth 100000 in
set_option maxHeartbeats 8000000 in
theorem arm_L_law_2017 {p : Program} {l : Launch} {e : Env} {s : State} {m : MethodId} {below : List Frame} {meth : Method} {c : Code} {D : va_G} {cA : Nat → ClassId} {lo scr L : Nat} {xs : Nat → Int32} (C : Cx p s m #[Value.ref scr] c cL_law 9 RL wsL_law D cA lo) (hl : l.stackTraces = false) (hX : va_X scr L xs s s.heap) (hbl : scr < s.heap.size ∧ lo = s.heap.size) (hr : meth.sig.returnType = ret) (hlk : meth.locks = false) (M : Mm) (a1 : Nat) (a2 : Nat) (a3 : Nat) (i4 : Int32) (cc zz : Nat) (h : A_L_law_2017 (fun (a1 : Nat) (a2 : Nat) (a3 : Nat) (i4 : Int32) (M : Mm) (cc zz : Nat) => QW p l e room_1 s m #[Value.ref scr] below meth c (lw_Z below #[Value.ref scr] s) 9 D cA lo cc zz M 23 [(0, .ref scr), (1, .ref a1), (2, .ref a2), (3, .ref a3), (4, .int i4)] []) 600002 7302232 L xs M a1 a2 a3 i4 cc zz) : QW p l e room_1 s m #[Value.ref scr] below meth c (lw_Z below #[Value.ref scr] s) 9 D cA lo cc zz M 2017 [(0, .ref scr), (1, .ref a1), (2, .ref a2), (3, .ref a3), (4, .int i4)] [] := by
  unfold A_L_law_2017 at h
  refine q_aload_n C dL_law_2017 rfl (j := 1) rfl ?_
  refine q_aload_n C dL_law_2018 rfl (j := 0) rfl ?_
  refine q_iload C dL_law_2019 (j := 4) rfl ?_
  refine q_iconst (v := 1) C dL_law_2021 (by decide) ?_
  refine q_iadd C dL_law_2022 ?_
  refine q_sld hX hbl C h.1 dL_law_2023 ?_
  have h := h.2
  refine q_aload_n C dL_law_2024 rfl (j := 3) rfl ?_
  obtain ⟨dc_221, ds_221, hcz, h⟩ := h
  refine q_xw (q_runSW (As := [.ref a1, .int (xs (i4 + 1).toNatClampNeg), .ref a3]) (st := []) C (c_L_holesWithout l hl D cA lo h) (vx_cwSW 3 C.2.2.2.2.1 gL_law_L_holesWithout rfl rfl rfl (by decide +kernel) ⟨Nat.le_of_ble_eq_true rfl, Nat.le_of_ble_eq_true rfl⟩) rfl rfl (Nat.le_of_ble_eq_true rfl) dL_law_2025 hcz) (fun E M_x h => ?_) (fun r_219 M_220 h => ?_)
  · exact h.elim
  · refine q_istore (lv' := [(5, .int r_219), (0, .ref scr), (1, .ref a1), (2, .ref a2), (3, .ref a3), (4, .int i4)]) C dL_law_2028 (by decide) rfl ?_
    refine q_aload_n C dL_law_2030 rfl (j := 3) rfl ?_
    refine q_aload_n C dL_law_2031 rfl (j := 1) rfl ?_
    refine q_iload C dL_law_2032 (j := 5) rfl ?_
    refine q_iconst (v := 1) C dL_law_2034 (by decide) ?_
    refine q_iadd C dL_law_2035 ?_
    refine q_sld hX hbl C h.1 dL_law_2036 ?_
    have h := h.2
    obtain ⟨dc_224, ds_224, hcz, h⟩ := h
    refine q_ci (q_runV (As := [.int (xs (i4 + 1).toNatClampNeg)]) (st := []) C (c_X9_holesWithout l D cA lo h.2) (cwV 1 C.2.2.2.2.1 gL_law_X9_holesWithout rfl rfl rfl (by decide +kernel) ⟨Nat.le_of_ble_eq_true rfl, Nat.le_of_ble_eq_true rfl⟩) h.1 (by decide) rfl rfl rfl (Nat.le_of_ble_eq_true rfl) dL_law_2037 hcz) (fun r_222 M_223 h => ?_)
    refine q_istore (lv' := [(6, .int r_222), (5, .int r_219), (0, .ref scr), (1, .ref a1), (2, .ref a2), (3, .ref a3), (4, .int i4)]) C dL_law_2040 (by decide) rfl ?_
    refine q_aload_n C dL_law_2042 rfl (j := 4) rfl ?_
    have hcz := h.1
    have h := h.2
    refine q_ci (q_runV (As := []) (st := []) C (c_X9_thrown l D cA lo h.2) (cwV 0 C.2.2.2.2.1 gL_law_X9_thrown rfl rfl rfl (by decide +kernel) ⟨Nat.le_of_ble_eq_true rfl, Nat.le_of_ble_eq_true rfl⟩) h.1 (by decide) rfl rfl rfl (Nat.le_of_ble_eq_true rfl) dL_law_2043 ⟨Nat.le_trans (Nat.le_of_eq (Nat.add_zero _)) hcz.1, Nat.le_trans (Nat.le_of_eq (Nat.add_zero _)) hcz.2⟩) (fun r_225 M_z h => ?_)
    refine q_mem h.1 ?_
    have h := h.2
    refine q_iload C dL_law_2046 (j := 1) rfl ?_
    refine q_icmp_eq (tgt := 2053) C dL_law_2048 (by decide) (fun z => ?_) (fun z => ?_)
    · have h := h.1 z
      refine q_iload C dL_law_2053 (j := 1) rfl ?_
      refine q_if_ne (tgt := 2070) C dL_law_2055 (by decide) (fun z => ?_) (fun z => ?_)
      · have h := h.1 z
        refine q_goto (tgt := 2087) C dL_law_2070 (by decide) ?_
        refine q_iinc (v := (i4 + 5)) (lv' := [(4, .int (i4 + 5)), (6, .int r_222), (5, .int r_219), (0, .ref scr), (1, .ref a1), (2, .ref a2), (3, .ref a3)]) C dL_law_2087 (j := 6) rfl rfl (by decide) rfl ?_
        refine q_goto (tgt := 23) C dL_law_2090 (by decide) ?_
        exact q_sub [3, 4, 5, 6, 0] rfl h
      · have h := h.2 z
        refine q_aload_n C dL_law_2058 rfl (j := 5) rfl ?_
        refine q_iconst (v := 0) C dL_law_2059 (by decide) ?_
        obtain ⟨n_226, z1, z2, h⟩ := h
        refine q_lald C z1 z2 dL_law_2060 ?_
        refine q_iload C dL_law_2061 (j := 0) rfl ?_
        refine q_i2l C dL_law_2063 ?_
        refine q_lcmp C dL_law_2064 ?_
        refine q_if_eq (tgt := 2070) C dL_law_2065 (by decide) (fun z => ?_) (fun z => ?_)
        · have h := h.1 z
          refine q_goto (tgt := 2087) C dL_law_2070 (by decide) ?_
          refine q_iinc (v := (i4 + 5)) (lv' := [(4, .int (i4 + 5)), (6, .int r_222), (5, .int r_219), (0, .ref scr), (1, .ref a1), (2, .ref a2), (3, .ref a3)]) C dL_law_2087 (j := 6) rfl rfl (by decide) rfl ?_
          refine q_goto (tgt := 23) C dL_law_2090 (by decide) ?_
          exact q_sub [3, 4, 5, 6, 0] rfl h
        · have h := h.2 z
          refine q_iconst (v := 0) C dL_law_2068 (by decide) ?_
          exact h.elim
    · have h := h.2 z
      refine q_iconst (v := 0) C dL_law_2051 (by decide) ?_
      exact h.elim
set_option maxRecDepth 100000 in
set_option maxHeartbeats 8000000 in
theorem arm_L_law_2073 {p : Program} {l : Launch} {e : Env} {s : State} {m : MethodId} {below : List Frame} {meth : Method} {c : Code} {D : va_G} {cA : Nat → ClassId} {lo scr L : Nat} {xs : Nat → Int32} (C : Cx p s m #[Value.ref scr] c cL_law 9 RL wsL_law D cA lo) (hl : l.stackTraces = false) (hX : va_X scr L xs s s.heap) (hbl : scr < s.heap.size ∧ lo = s.heap.size) (hr : meth.sig.returnType = ret) (hlk : meth.locks = false) (M : Mm) (a1 : Nat) (a2 : Nat) (a3 : Nat) (i4 : Int32) (cc zz : Nat) (h : A_L_law_2073 (fun (a1 : Nat) (a2 : Nat) (a3 : Nat) (i4 : Int32) (M : Mm) (cc zz : Nat) => QW p l e room_1 s m #[Value.ref scr] below meth c (lw_Z below #[Value.ref scr] s) 9 D cA lo cc zz M 23 [(0, .ref scr), (1, .ref a1), (2, .ref a2), (3, .ref a3), (4, .int i4)] []) 600002 7302232 L xs M a1 a2 a3 i4 cc zz) : QW p l e room_1 s m #[Value.ref scr] below meth c (lw_Z below #[Value.ref scr] s) 9 D cA lo cc zz M 2073 [(0, .ref scr), (1, .ref a1), (2, .ref a2), (3, .ref a3), (4, .int i4)] [] := by
  unfold A_L_law_2073 at h
  refine q_aload_n C dL_law_2073 rfl (j := 1) rfl ?_
  have hcz := h.1
  have h := h.2
  refine q_cl (q_runV (As := []) (st := []) C (c_X8_digest l D cA lo h.2) (cwV 0 C.2.2.2.2.1 gL_law_X8_digest rfl rfl rfl (by decide +kernel) ⟨Nat.le_of_ble_eq_true rfl, Nat.le_of_ble_eq_true rfl⟩) h.1 (by decide) rfl rfl rfl (Nat.le_of_ble_eq_true rfl) dL_law_2074 ⟨Nat.le_trans (Nat.le_of_eq (Nat.add_zero _)) hcz.1, Nat.le_trans (Nat.le_of_eq (Nat.add_zero _)) hcz.2⟩) (fun r_227 M_228 h => ?_)
  refine q_aload_n C dL_law_2077 rfl (j := 2) rfl ?_
  obtain ⟨dc_231, ds_231, hcz, h⟩ := h
  refine q_cl (q_runV (As := []) (st := [.long r_227]) C (c_X9_digest l D cA lo h.2) (cwV 0 C.2.2.2.2.1 gL_law_X9_digest rfl rfl rfl (by decide +kernel) ⟨Nat.le_of_ble_eq_true rfl, Nat.le_of_ble_eq_true rfl⟩) h.1 (by decide) rfl rfl rfl (Nat.le_of_ble_eq_true rfl) dL_law_2078 hcz) (fun r_229 M_230 h => ?_)
  refine q_lcmp C dL_law_2081 ?_
  refine q_if_eq (tgt := 2087) C dL_law_2082 (by decide) (fun z => ?_) (fun z => ?_)
  · have h := h.1 z
    refine q_iinc (v := (i4 + 5)) (lv' := [(4, .int (i4 + 5)), (0, .ref scr), (1, .ref a1), (2, .ref a2), (3, .ref a3)]) C dL_law_2087 (j := 4) rfl rfl (by decide) rfl ?_
    refine q_goto (tgt := 23) C dL_law_2090 (by decide) ?_
    exact q_sub [1, 2, 3, 4, 0] rfl h
  · have h := h.2 z
    refine q_iconst (v := 0) C dL_law_2085 (by decide) ?_
    exact h.elim
set_option maxRecDepth 100000 in
set_option maxHeartbeats 8000000 in
theorem b_L_law_23 {p : Program} {l : Launch} {e : Env} {s : State} {m : MethodId} {below : List Frame} {meth : Method} {c : Code} {D : va_G} {cA : Nat → ClassId} {lo scr L : Nat} {xs : Nat → Int32} (C : Cx p s m #[Value.ref scr] c cL_law 9 RL wsL_law D cA lo) (hl : l.stackTraces = false) (hX : va_X scr L xs s s.heap) (hbl : scr < s.heap.size ∧ lo = s.heap.size) (hr : meth.sig.returnType = ret) (hlk : meth.locks = false) (M : Mm) (a1 : Nat) (a2 : Nat) (a3 : Nat) (i4 : Int32) (cc zz : Nat) (h : S_L_law_23 (fun (a1 : Nat) (a2 : Nat) (a3 : Nat) (i4 : Int32) (M : Mm) (cc zz : Nat) => QW p l e room_1 s m #[Value.ref scr] below meth c (lw_Z below #[Value.ref scr] s) 9 D cA lo cc zz M 23 [(0, .ref scr), (1, .ref a1), (2, .ref a2), (3, .ref a3), (4, .int i4)] []) 600002 7302232 L xs M a1 a2 a3 i4 cc zz) : QW p l e room_1 s m #[Value.ref scr] below meth c (lw_Z below #[Value.ref scr] s) 9 D cA lo cc zz M 23 [(0, .ref scr), (1, .ref a1), (2, .ref a2), (3, .ref a3), (4, .int i4)] [] := by
  unfold S_L_law_23 at h
  refine q_iload C dL_law_23 (j := 4) rfl ?_
  refine q_aload_n C dL_law_25 rfl (j := 0) rfl ?_
  refine q_slen hX hbl C dL_law_26 ?_
  refine q_iconst (v := 5) C dL_law_27 (by decide) ?_
  refine q_isub C dL_law_28 ?_
  refine q_icmp_gt (tgt := 2093) C dL_law_29 (by decide) (fun z => ?_) (fun z => ?_)
  · have h := h.1 z
    refine q_iconst (v := 1) C dL_law_2093 (by decide) ?_
    exact q_lawret hbl C hr hlk dL_law_2094 h.1 h.2
  · have h := h.2 z
    refine q_aload_n C dL_law_32 rfl (j := 0) rfl ?_
    refine q_iload C dL_law_33 (j := 4) rfl ?_
    refine q_sld hX hbl C h.1 dL_law_35 ?_
    have h := h.2
    refine q_bipush (v := 63) C dL_law_36 (by decide) ?_
    refine q_iand C dL_law_38 ?_
    rcases Decidable.em (((xs i4.toNatClampNeg) &&& 63) = 0) with z0 | z0
    · have h := h.1 z0
      refine q_tableIn (off := 153) (tgt := 192) C dL_law_39 (by rw [z0]; decide) (by rw [z0]; decide) (by rw [z0]; rfl) (by decide) ?_
      exact q_sub [0, 1, 2, 3, 4] rfl (arm_L_law_192 C hl hX hbl hr hlk M a1 a2 a3 i4 cc zz h)
    · have h := h.2
      rcases Decidable.em (((xs i4.toNatClampNeg) &&& 63) = 1) with z1 | z1
      · have h := h.1 z1
        refine q_tableIn (off := 233) (tgt := 272) C dL_law_39 (by rw [z1]; decide) (by rw [z1]; decide) (by rw [z1]; rfl) (by decide) ?_
        exact q_sub [0, 1, 2, 3, 4] rfl (arm_L_law_272 C hl hX hbl hr hlk M a1 a2 a3 i4 cc zz h)
      · have h := h.2
        rcases Decidable.em (((xs i4.toNatClampNeg) &&& 63) = 2) with z2 | z2
        · have h := h.1 z2
          refine q_tableIn (off := 325) (tgt := 364) C dL_law_39 (by rw [z2]; decide) (by rw [z2]; decide) (by rw [z2]; rfl) (by decide) ?_
          exact q_sub [0, 1, 2, 3, 4] rfl (arm_L_law_364 C hl hX hbl hr hlk M a1 a2 a3 i4 cc zz h)
        · have h := h.2
          rcases Decidable.em (((xs i4.toNatClampNeg) &&& 63) = 3) with z3 | z3
          · have h := h.1 z3
            refine q_tableIn (off := 417) (tgt := 456) C dL_law_39 (by rw [z3]; decide) (by rw [z3]; decide) (by rw [z3]; rfl) (by decide) ?_
            exact q_sub [0, 1, 2, 3, 4] rfl (arm_L_law_456 C hl hX hbl hr hlk M a1 a2 a3 i4 cc zz h)
          · have h := h.2
            rcases Decidable.em (((xs i4.toNatClampNeg) &&& 63) = 4) with z4 | z4
            · have h := h.1 z4
              refine q_tableIn (off := 473) (tgt := 512) C dL_law_39 (by rw [z4]; decide) (by rw [z4]; decide) (by rw [z4]; rfl) (by decide) ?_
              exact q_sub [0, 1, 2, 3, 4] rfl (arm_L_law_512 C hl hX hbl hr hlk M a1 a2 a3 i4 cc zz h)
            · have h := h.2
              rcases Decidable.em (((xs i4.toNatClampNeg) &&& 63) = 5) with z5 | z5
              · have h := h.1 z5
                refine q_tableIn (off := 529) (tgt := 568) C dL_law_39 (by rw [z5]; decide) (by rw [z5]; decide) (by rw [z5]; rfl) (by decide) ?_
                exact q_sub [0, 1, 2, 3, 4] rfl (arm_L_law_568 C hl hX hbl hr hlk M a1 a2 a3 i4 cc zz h)
              · have h := h.2
                rcases Decidable.em (((xs i4.toNatClampNeg) &&& 63) = 6) with z6 | z6
                · have h := h.1 z6
                  refine q_tableIn (off := 621) (tgt := 660) C dL_law_39 (by rw [z6]; decide) (by rw [z6]; decide) (by rw [z6]; rfl) (by decide) ?_
                  exact q_sub [0, 1, 2, 3, 4] rfl (arm_L_law_660 C hl hX hbl hr hlk M a1 a2 a3 i4 cc zz h)
                · have h := h.2
                  rcases Decidable.em (((xs i4.toNatClampNeg) &&& 63) = 7) with z7 | z7
                  · have h := h.1 z7
                    refine q_tableIn (off := 689) (tgt := 728) C dL_law_39 (by rw [z7]; decide) (by rw [z7]; decide) (by rw [z7]; rfl) (by decide) ?_
                    exact q_sub [0, 1, 2, 3, 4] rfl (arm_L_law_728 C hl hX hbl hr hlk M a1 a2 a3 i4 cc zz h)
                  · have h := h.2
                    rcases Decidable.em (((xs i4.toNatClampNeg) &&& 63) = 8) with z8 | z8
                    · have h := h.1 z8
                      refine q_tableIn (off := 769) (tgt := 808) C dL_law_39 (by rw [z8]; decide) (by rw [z8]; decide) (by rw [z8]; rfl) (by decide) ?_
                      exact q_sub [0, 1, 2, 3, 4] rfl (arm_L_law_808 C hl hX hbl hr hlk M a1 a2 a3 i4 cc zz h)
                    · have h := h.2
                      rcases Decidable.em (((xs i4.toNatClampNeg) &&& 63) = 9) with z9 | z9
                      · have h := h.1 z9
                        refine q_tableIn (off := 837) (tgt := 876) C dL_law_39 (by rw [z9]; decide) (by rw [z9]; decide) (by rw [z9]; rfl) (by decide) ?_
                        exact q_sub [0, 1, 2, 3, 4] rfl (arm_L_law_876 C hl hX hbl hr hlk M a1 a2 a3 i4 cc zz h)
                      · have h := h.2
                        rcases Decidable.em (((xs i4.toNatClampNeg) &&& 63) = 10) with z10 | z10
                        · have h := h.1 z10
                          refine q_tableIn (off := 905) (tgt := 944) C dL_law_39 (by rw [z10]; decide) (by rw [z10]; decide) (by rw [z10]; rfl) (by decide) ?_
                          exact q_sub [0, 1, 2, 3, 4] rfl (arm_L_law_944 C hl hX hbl hr hlk M a1 a2 a3 i4 cc zz h)
                        · have h := h.2
                          rcases Decidable.em (((xs i4.toNatClampNeg) &&& 63) = 11) with z11 | z11
                          · have h := h.1 z11
                            refine q_tableIn (off := 973) (tgt := 1012) C dL_law_39 (by rw [z11]; decide) (by rw [z11]; decide) (by rw [z11]; rfl) (by decide) ?_
                            exact q_sub [0, 1, 2, 3, 4] rfl (arm_L_law_1012 C hl hX hbl hr hlk M a1 a2 a3 i4 cc zz h)
                          · have h := h.2
                            rcases Decidable.em (((xs i4.toNatClampNeg) &&& 63) = 12) with z12 | z12
                            · have h := h.1 z12
                              refine q_tableIn (off := 1065) (tgt := 1104) C dL_law_39 (by rw [z12]; decide) (by rw [z12]; decide) (by rw [z12]; rfl) (by decide) ?_
                              exact q_sub [0, 1, 2, 3, 4] rfl (arm_L_law_1104 C hl hX hbl hr hlk M a1 a2 a3 i4 cc zz h)
                            · have h := h.2
                              rcases Decidable.em (((xs i4.toNatClampNeg) &&& 63) = 13) with z13 | z13
                              · have h := h.1 z13
                                refine q_tableIn (off := 1133) (tgt := 1172) C dL_law_39 (by rw [z13]; decide) (by rw [z13]; decide) (by rw [z13]; rfl) (by decide) ?_
                                exact q_sub [0, 1, 2, 3, 4] rfl (arm_L_law_1172 C hl hX hbl hr hlk M a1 a2 a3 i4 cc zz h)
                              · have h := h.2
                                rcases Decidable.em (((xs i4.toNatClampNeg) &&& 63) = 14) with z14 | z14
                                · have h := h.1 z14
                                  refine q_tableIn (off := 1177) (tgt := 1216) C dL_law_39 (by rw [z14]; decide) (by rw [z14]; decide) (by rw [z14]; rfl) (by decide) ?_
                                  exact q_sub [0, 1, 2, 3, 4] rfl (arm_L_law_1216 C hl hX hbl hr hlk M a1 a2 a3 i4 cc zz h)
                                · have h := h.2
                                  rcases Decidable.em (((xs i4.toNatClampNeg) &&& 63) = 15) with z15 | z15
                                  · have h := h.1 z15
                                    refine q_tableIn (off := 1190) (tgt := 1229) C dL_law_39 (by rw [z15]; decide) (by rw [z15]; decide) (by rw [z15]; rfl) (by decide) ?_
                                    exact q_sub [0, 1, 2, 3, 4] rfl (arm_L_law_1229 C hl hX hbl hr hlk M a1 a2 a3 i4 cc zz h)
                                  · have h := h.2
                                    rcases Decidable.em (((xs i4.toNatClampNeg) &&& 63) = 16) with z16 | z16
                                    · have h := h.1 z16
                                      refine q_tableIn (off := 1203) (tgt := 1242) C dL_law_39 (by rw [z16]; decide) (by rw [z16]; decide) (by rw [z16]; rfl) (by decide) ?_
                                      exact q_sub [0, 1, 2, 3, 4] rfl (arm_L_law_1242 C hl hX hbl hr hlk M a1 a2 a3 i4 cc zz h)
                                    · have h := h.2
                                      rcases Decidable.em (((xs i4.toNatClampNeg) &&& 63) = 17) with z17 | z17
                                      · have h := h.1 z17
                                        refine q_tableIn (off := 1216) (tgt := 1255) C dL_law_39 (by rw [z17]; decide) (by rw [z17]; decide) (by rw [z17]; rfl) (by decide) ?_
                                        exact q_sub [0, 1, 2, 3, 4] rfl (arm_L_law_1255 C hl hX hbl hr hlk M a1 a2 a3 i4 cc zz h)
                                      · have h := h.2
                                        rcases Decidable.em (((xs i4.toNatClampNeg) &&& 63) = 18) with z18 | z18
                                        · have h := h.1 z18
                                          refine q_tableIn (off := 1229) (tgt := 1268) C dL_law_39 (by rw [z18]; decide) (by rw [z18]; decide) (by rw [z18]; rfl) (by decide) ?_
                                          exact q_sub [0, 1, 2, 3, 4] rfl (arm_L_law_1268 C hl hX hbl hr hlk M a1 a2 a3 i4 cc zz h)
                                        · have h := h.2
                                          rcases Decidable.em (((xs i4.toNatClampNeg) &&& 63) = 19) with z19 | z19
                                          · have h := h.1 z19
                                            refine q_tableIn (off := 1242) (tgt := 1281) C dL_law_39 (by rw [z19]; decide) (by rw [z19]; decide) (by rw [z19]; rfl) (by decide) ?_
                                            exact q_sub [0, 1, 2, 3, 4] rfl (arm_L_law_1281 C hl hX hbl hr hlk M a1 a2 a3 i4 cc zz h)
                                          · have h := h.2
                                            rcases Decidable.em (((xs i4.toNatClampNeg) &&& 63) = 20) with z20 | z20
                                            · have h := h.1 z20
                                              refine q_tableIn (off := 1255) (tgt := 1294) C dL_law_39 (by rw [z20]; decide) (by rw [z20]; decide) (by rw [z20]; rfl) (by decide) ?_
                                              exact q_sub [0, 1, 2, 3, 4] rfl (arm_L_law_1294 C hl hX hbl hr hlk M a1 a2 a3 i4 cc zz h)
                                            · have h := h.2
                                              rcases Decidable.em (((xs i4.toNatClampNeg) &&& 63) = 21) with z21 | z21
                                              · have h := h.1 z21
                                                refine q_tableIn (off := 1268) (tgt := 1307) C dL_law_39 (by rw [z21]; decide) (by rw [z21]; decide) (by rw [z21]; rfl) (by decide) ?_
                                                exact q_sub [0, 1, 2, 3, 4] rfl (arm_L_law_1307 C hl hX hbl hr hlk M a1 a2 a3 i4 cc zz h)
                                              · have h := h.2
                                                rcases Decidable.em (((xs i4.toNatClampNeg) &&& 63) = 22) with z22 | z22
                                                · have h := h.1 z22
                                                  refine q_tableIn (off := 1336) (tgt := 1375) C dL_law_39 (by rw [z22]; decide) (by rw [z22]; decide) (by rw [z22]; rfl) (by decide) ?_
                                                  exact q_sub [0, 1, 2, 3, 4] rfl (arm_L_law_1375 C hl hX hbl hr hlk M a1 a2 a3 i4 cc zz h)
                                                · have h := h.2
                                                  rcases Decidable.em (((xs i4.toNatClampNeg) &&& 63) = 23) with z23 | z23
                                                  · have h := h.1 z23
                                                    refine q_tableIn (off := 1392) (tgt := 1431) C dL_law_39 (by rw [z23]; decide) (by rw [z23]; decide) (by rw [z23]; rfl) (by decide) ?_
                                                    exact q_sub [0, 1, 2, 3, 4] rfl (arm_L_law_1431 C hl hX hbl hr hlk M a1 a2 a3 i4 cc zz h)
                                                  · have h := h.2
                                                    rcases Decidable.em (((xs i4.toNatClampNeg) &&& 63) = 24) with z24 | z24
                                                    · have h := h.1 z24
                                                      refine q_tableIn (off := 1460) (tgt := 1499) C dL_law_39 (by rw [z24]; decide) (by rw [z24]; decide) (by rw [z24]; rfl) (by decide) ?_
                                                      exact q_sub [0, 1, 2, 3, 4] rfl (arm_L_law_1499 C hl hX hbl hr hlk M a1 a2 a3 i4 cc zz h)
                                                    · have h := h.2
                                                      rcases Decidable.em (((xs i4.toNatClampNeg) &&& 63) = 25) with z25 | z25
                                                      · have h := h.1 z25
                                                        refine q_tableIn (off := 1528) (tgt := 1567) C dL_law_39 (by rw [z25]; decide) (by rw [z25]; decide) (by rw [z25]; rfl) (by decide) ?_
                                                        exact q_sub [0, 1, 2, 3, 4] rfl (arm_L_law_1567 C hl hX hbl hr hlk M a1 a2 a3 i4 cc zz h)
                                                      · have h := h.2
                                                        rcases Decidable.em (((xs i4.toNatClampNeg) &&& 63) = 26) with z26 | z26
                                                        · have h := h.1 z26
                                                          refine q_tableIn (off := 1596) (tgt := 1635) C dL_law_39 (by rw [z26]; decide) (by rw [z26]; decide) (by rw [z26]; rfl) (by decide) ?_
                                                          exact q_sub [0, 1, 2, 3, 4] rfl (arm_L_law_1635 C hl hX hbl hr hlk M a1 a2 a3 i4 cc zz h)
                                                        · have h := h.2
                                                          rcases Decidable.em (((xs i4.toNatClampNeg) &&& 63) = 27) with z27 | z27
                                                          · have h := h.1 z27
                                                            refine q_tableIn (off := 1664) (tgt := 1703) C dL_law_39 (by rw [z27]; decide) (by rw [z27]; decide) (by rw [z27]; rfl) (by decide) ?_
                                                            exact q_sub [0, 1, 2, 3, 4] rfl (arm_L_law_1703 C hl hX hbl hr hlk M a1 a2 a3 i4 cc zz h)
                                                          · have h := h.2
                                                            rcases Decidable.em (((xs i4.toNatClampNeg) &&& 63) = 28) with z28 | z28
                                                            · have h := h.1 z28
                                                              refine q_tableIn (off := 1732) (tgt := 1771) C dL_law_39 (by rw [z28]; decide) (by rw [z28]; decide) (by rw [z28]; rfl) (by decide) ?_
                                                              exact q_sub [0, 1, 2, 3, 4] rfl (arm_L_law_1771 C hl hX hbl hr hlk M a1 a2 a3 i4 cc zz h)
                                                            · have h := h.2
                                                              rcases Decidable.em (((xs i4.toNatClampNeg) &&& 63) = 29) with z29 | z29
                                                              · have h := h.1 z29
                                                                refine q_tableIn (off := 1746) (tgt := 1785) C dL_law_39 (by rw [z29]; decide) (by rw [z29]; decide) (by rw [z29]; rfl) (by decide) ?_
                                                                exact q_sub [0, 1, 2, 3, 4] rfl (arm_L_law_1785 C hl hX hbl hr hlk M a1 a2 a3 i4 cc zz h)
                                                              · have h := h.2
                                                                rcases Decidable.em (((xs i4.toNatClampNeg) &&& 63) = 30) with z30 | z30
                                                                · have h := h.1 z30
                                                                  refine q_tableIn (off := 1787) (tgt := 1826) C dL_law_39 (by rw [z30]; decide) (by rw [z30]; decide) (by rw [z30]; rfl) (by decide) ?_
                                                                  exact q_sub [0, 1, 2, 3, 4] rfl (arm_L_law_1826 C hl hX hbl hr hlk M a1 a2 a3 i4 cc zz h)
                                                                · have h := h.2
                                                                  rcases Decidable.em (((xs i4.toNatClampNeg) &&& 63) = 31) with z31 | z31
                                                                  · have h := h.1 z31
                                                                    refine q_tableIn (off := 1855) (tgt := 1894) C dL_law_39 (by rw [z31]; decide) (by rw [z31]; decide) (by rw [z31]; rfl) (by decide) ?_
                                                                    exact q_sub [0, 1, 2, 3, 4] rfl (arm_L_law_1894 C hl hX hbl hr hlk M a1 a2 a3 i4 cc zz h)
                                                                  · have h := h.2
                                                                    rcases Decidable.em (((xs i4.toNatClampNeg) &&& 63) = 32) with z32 | z32
                                                                    · have h := h.1 z32
                                                                      refine q_tableIn (off := 1911) (tgt := 1950) C dL_law_39 (by rw [z32]; decide) (by rw [z32]; decide) (by rw [z32]; rfl) (by decide) ?_
                                                                      exact q_sub [0, 1, 2, 3, 4] rfl (arm_L_law_1950 C hl hX hbl hr hlk M a1 a2 a3 i4 cc zz h)
                                                                    · have h := h.2
                                                                      rcases Decidable.em (((xs i4.toNatClampNeg) &&& 63) = 33) with z33 | z33
                                                                      · have h := h.1 z33
                                                                        refine q_tableIn (off := 1978) (tgt := 2017) C dL_law_39 (by rw [z33]; decide) (by rw [z33]; decide) (by rw [z33]; rfl) (by decide) ?_
                                                                        exact q_sub [0, 1, 2, 3, 4] rfl (arm_L_law_2017 C hl hX hbl hr hlk M a1 a2 a3 i4 cc zz h)
                                                                      · have h := h.2
                                                                        rcases Decidable.em (((xs i4.toNatClampNeg) &&& 63) = 34) with z34 | z34
                                                                        · have h := h.1 z34
                                                                          refine q_tableIn (off := 2034) (tgt := 2073) C dL_law_39 (by rw [z34]; decide) (by rw [z34]; decide) (by rw [z34]; rfl) (by decide) ?_
                                                                          exact q_sub [0, 1, 2, 3, 4] rfl (arm_L_law_2073 C hl hX hbl hr hlk M a1 a2 a3 i4 cc zz h)
                                                                        · have h := h.2
                                                                          have h := h ⟨z0, z1, z2, z3, z4, z5, z6, z7, z8, z9, z10, z11, z12, z13, z14, z15, z16, z17, z18, z19, z20, z21, z22, z23, z24, z25, z26, z27, z28, z29, z30, z31, z32, z33, z34⟩
                                                                          refine q_tableOut (tgt := 2087) C dL_law_39 (sw_out_35 z0 z1 z2 z3 z4 z5 z6 z7 z8 z9 z10 z11 z12 z13 z14 z15 z16 z17 z18 z19 z20 z21 z22 z23 z24 z25 z26 z27 z28 z29 z30 z31 z32 z33 z34) (by decide) ?_
                                                                          refine q_iinc (v := (i4 + 5)) (lv' := [(4, .int (i4 + 5)), (0, .ref scr), (1, .ref a1), (2, .ref a2), (3, .ref a3)]) C dL_law_2087 (j := 4) rfl rfl (by decide) rfl ?_
                                                                          refine q_goto (tgt := 23) C dL_law_2090 (by decide) ?_
                                                                          exact q_sub [1, 2, 3, 4, 0] rfl h
set_option maxRecDepth 100000 in
set_option maxHeartbeats 8000000 in
theorem c_L_law {p : Program} {l : Launch} {e : Env} {s : State} {m : MethodId} {below : List Frame} {meth : Method} {c : Code} {D : va_G} {cA : Nat → ClassId} {lo scr L : Nat} {xs : Nat → Int32} (C : Cx p s m #[Value.ref scr] c cL_law 9 RL wsL_law D cA lo) (hl : l.stackTraces = false) (hX : va_X scr L xs s s.heap) (hbl : scr < s.heap.size ∧ lo = s.heap.size) (hr : meth.sig.returnType = ret) (hlk : meth.locks = false) {M : Mm} (h : T_L_law 600002 7302232 L xs M) : QW p l e room_1 s m #[Value.ref scr] below meth c (lw_Z below #[Value.ref scr] s) 9 D cA lo 0 0 M 0 [(0, .ref scr)] [] := by
  unfold T_L_law at h
  have h := h (fun (a1 : Nat) (a2 : Nat) (a3 : Nat) (i4 : Int32) (M : Mm) (cc zz : Nat) => QW p l e room_1 s m #[Value.ref scr] below meth c (lw_Z below #[Value.ref scr] s) 9 D cA lo cc zz M 23 [(0, .ref scr), (1, .ref a1), (2, .ref a2), (3, .ref a3), (4, .int i4)] []) (fun a1 a2 a3 i4 M cc zz h => b_L_law_23 C hl hX hbl hr hlk M a1 a2 a3 i4 cc zz h)
  refine q_new (ci := 8) (T := TX8) C inlX8 tyX8 tyX8_ok (by decide +kernel) (by decide +kernel) (by decide +kernel) rfl (by decide) (by decide +kernel) ⟨h.1, h.2.1⟩ dL_law_0 (fun q_1 hq _ => ?_)
  have h := h.2.2 q_1 hq
  refine q_dup C dL_law_3 rfl ?_
  obtain ⟨dc_4, ds_4, hcz, h⟩ := h
  refine q_cv (q_runI (As := []) (st := [.ref q_1]) C (c_X8_init l D cA lo h) (cwI 0 C.2.2.2.2.1 gL_law_X8_init rfl rfl rfl (C.2.2.2.2.1 _ (by decide +kernel)) (C.2.2.2.2.1 _ (by decide +kernel)) (C.2.2.2.2.1 _ (by decide +kernel)) rfl (by decide +kernel) ⟨Nat.le_of_ble_eq_true rfl, Nat.le_of_ble_eq_true rfl⟩) rfl rfl (Nat.le_of_ble_eq_true rfl) dL_law_4 hcz) (fun M_3 h => ?_)
  refine q_astore_n (lv' := [(1, .ref q_1), (0, .ref scr)]) C dL_law_7 rfl (by decide) rfl ?_
  refine q_new (ci := 9) (T := TX9) C inlX9 tyX9 tyX9_ok (by decide +kernel) (by decide +kernel) (by decide +kernel) rfl (by decide) (by decide +kernel) ⟨h.1, h.2.1⟩ dL_law_8 (fun q_5 hq _ => ?_)
  have h := h.2.2 q_5 hq
  refine q_dup C dL_law_11 rfl ?_
  obtain ⟨dc_8, ds_8, hcz, h⟩ := h
  refine q_cv (q_runI (As := []) (st := [.ref q_5]) C (c_X9_init l D cA lo h) (cwI 0 C.2.2.2.2.1 gL_law_X9_init rfl rfl rfl (C.2.2.2.2.1 _ (by decide +kernel)) (C.2.2.2.2.1 _ (by decide +kernel)) (C.2.2.2.2.1 _ (by decide +kernel)) rfl (by decide +kernel) ⟨Nat.le_of_ble_eq_true rfl, Nat.le_of_ble_eq_true rfl⟩) rfl rfl (Nat.le_of_ble_eq_true rfl) dL_law_12 hcz) (fun M_7 h => ?_)
  refine q_astore_n (lv' := [(2, .ref q_5), (1, .ref q_1), (0, .ref scr)]) C dL_law_15 rfl (by decide) rfl ?_
  refine q_iconst (v := 1) C dL_law_16 (by decide) ?_
  refine q_newL (N := 1) C (by decide +kernel) (by decide) (by decide) (by decide) ⟨h.1, h.2.1⟩ dL_law_17 (fun q_9 hq _ => ?_)
  have h := h.2.2 q_9 hq
  refine q_astore_n (lv' := [(3, .ref q_9), (2, .ref q_5), (1, .ref q_1), (0, .ref scr)]) C dL_law_19 rfl (by decide) rfl ?_
  refine q_iconst (v := 0) C dL_law_20 (by decide) ?_
  refine q_istore (lv' := [(4, .int 0), (3, .ref q_9), (2, .ref q_5), (1, .ref q_1), (0, .ref scr)]) C dL_law_21 (by decide) rfl ?_
  exact q_sub [4, 3, 2, 1, 0] rfl h
