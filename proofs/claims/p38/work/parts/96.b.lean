set_option maxRecDepth 100000 in
set_option maxHeartbeats 4000000 in
theorem b_L_act_114 {p : Program} {l : Launch} {e : Env} {s : State} {m : MethodId} {args : Array Value} {below : List Frame} {meth : Method} {c : Code} {D : va_G} {cA : Nat → ClassId} {lo : Nat} (C : Cx p s m args c cL_act 13 RL wsL_act D cA lo) (hr : meth.sig.returnType = (some .boolean)) (hlk : meth.locks = false) (hl : l.stackTraces = false) (htab : c.exceptionTable.toList = tableOf hhL_act) {Q : Int32 → Mm → Prop} {Cc Zz : Nat} {X : String → Mm → Prop} (M : Mm) (a0 : Nat) (i1 : Int32) (i2 : Int32) (i3 : Int32) (i4 : Int32) (i5 : Int32) (i6 : Int32) (i7 : Int32) (cc zz : Nat) (h : S_L_act_114 (fun (a0 : Nat) (i1 : Int32) (i2 : Int32) (i3 : Int32) (i4 : Int32) (i5 : Int32) (i6 : Int32) (i7 : Int32) (M : Mm) (cc zz : Nat) => QW p l e ({ frames := 9, cells := Cc, slots := Zz, locals := 159 } : Room) s m args below meth c (vx_MQ below (QiM D cA lo Q) (XcM D cA lo X) args s Cc Zz (fun q => lo ≤ q)) 13 D cA lo cc zz M 114 [(0, .ref a0), (1, .int i1), (2, .int i2), (3, .int i3), (4, .int i4), (5, .int i5), (6, .int i6), (7, .int i7)] []) (fun (a0 : Nat) (i1 : Int32) (i2 : Int32) (i3 : Int32) (i4 : Int32) (i6 : Int32) (i7 : Int32) (as0 : Nat) (M : Mm) (cc zz : Nat) => QW p l e ({ frames := 9, cells := Cc, slots := Zz, locals := 159 } : Room) s m args below meth c (vx_MQ below (QiM D cA lo Q) (XcM D cA lo X) args s Cc Zz (fun q => lo ≤ q)) 13 D cA lo cc zz M 109 [(0, .ref a0), (1, .int i1), (2, .int i2), (3, .int i3), (4, .int i4), (6, .int i6), (7, .int i7)] [.ref as0]) (fun (a0 : Nat) (i1 : Int32) (i2 : Int32) (i3 : Int32) (i4 : Int32) (M : Mm) (cc zz : Nat) => QW p l e ({ frames := 9, cells := Cc, slots := Zz, locals := 159 } : Room) s m args below meth c (vx_MQ below (QiM D cA lo Q) (XcM D cA lo X) args s Cc Zz (fun q => lo ≤ q)) 13 D cA lo cc zz M 188 [(0, .ref a0), (1, .int i1), (2, .int i2), (3, .int i3), (4, .int i4)] []) (fun (a0 : Nat) (i1 : Int32) (i2 : Int32) (i3 : Int32) (i4 : Int32) (M : Mm) (cc zz : Nat) => QW p l e ({ frames := 9, cells := Cc, slots := Zz, locals := 159 } : Room) s m args below meth c (vx_MQ below (QiM D cA lo Q) (XcM D cA lo X) args s Cc Zz (fun q => lo ≤ q)) 13 D cA lo cc zz M 272 [(0, .ref a0), (1, .int i1), (2, .int i2), (3, .int i3), (4, .int i4)] []) (fun (a0 : Nat) (i2 : Int32) (i3 : Int32) (i4 : Int32) (i6 : Int32) (i7 : Int32) (M : Mm) (cc zz : Nat) => QW p l e ({ frames := 9, cells := Cc, slots := Zz, locals := 159 } : Room) s m args below meth c (vx_MQ below (QiM D cA lo Q) (XcM D cA lo X) args s Cc Zz (fun q => lo ≤ q)) 13 D cA lo cc zz M 350 [(0, .ref a0), (2, .int i2), (3, .int i3), (4, .int i4), (6, .int i6), (7, .int i7)] []) (fun (a0 : Nat) (i1 : Int32) (i2 : Int32) (i3 : Int32) (i4 : Int32) (i5 : Int32) (i6 : Int32) (M : Mm) (cc zz : Nat) => QW p l e ({ frames := 9, cells := Cc, slots := Zz, locals := 159 } : Room) s m args below meth c (vx_MQ below (QiM D cA lo Q) (XcM D cA lo X) args s Cc Zz (fun q => lo ≤ q)) 13 D cA lo cc zz M 409 [(0, .ref a0), (1, .int i1), (2, .int i2), (3, .int i3), (4, .int i4), (5, .int i5), (6, .int i6)] []) (fun (a0 : Nat) (i2 : Int32) (i3 : Int32) (i4 : Int32) (i6 : Int32) (i7 : Int32) (M : Mm) (cc zz : Nat) => QW p l e ({ frames := 9, cells := Cc, slots := Zz, locals := 159 } : Room) s m args below meth c (vx_MQ below (QiM D cA lo Q) (XcM D cA lo X) args s Cc Zz (fun q => lo ≤ q)) 13 D cA lo cc zz M 475 [(0, .ref a0), (2, .int i2), (3, .int i3), (4, .int i4), (6, .int i6), (7, .int i7)] []) (fun (a0 : Nat) (i2 : Int32) (i3 : Int32) (i4 : Int32) (i6 : Int32) (i7 : Int32) (M : Mm) (cc zz : Nat) => QW p l e ({ frames := 9, cells := Cc, slots := Zz, locals := 159 } : Room) s m args below meth c (vx_MQ below (QiM D cA lo Q) (XcM D cA lo X) args s Cc Zz (fun q => lo ≤ q)) 13 D cA lo cc zz M 518 [(0, .ref a0), (2, .int i2), (3, .int i3), (4, .int i4), (6, .int i6), (7, .int i7)] []) (fun (a0 : Nat) (i2 : Int32) (i3 : Int32) (i4 : Int32) (i6 : Int32) (i7 : Int32) (M : Mm) (cc zz : Nat) => QW p l e ({ frames := 9, cells := Cc, slots := Zz, locals := 159 } : Room) s m args below meth c (vx_MQ below (QiM D cA lo Q) (XcM D cA lo X) args s Cc Zz (fun q => lo ≤ q)) 13 D cA lo cc zz M 552 [(0, .ref a0), (2, .int i2), (3, .int i3), (4, .int i4), (6, .int i6), (7, .int i7)] []) (fun (a0 : Nat) (i1 : Int32) (i2 : Int32) (i3 : Int32) (i4 : Int32) (i5 : Int32) (M : Mm) (cc zz : Nat) => QW p l e ({ frames := 9, cells := Cc, slots := Zz, locals := 159 } : Room) s m args below meth c (vx_MQ below (QiM D cA lo Q) (XcM D cA lo X) args s Cc Zz (fun q => lo ≤ q)) 13 D cA lo cc zz M 586 [(0, .ref a0), (1, .int i1), (2, .int i2), (3, .int i3), (4, .int i4), (5, .int i5)] []) (fun (a0 : Nat) (i2 : Int32) (i3 : Int32) (i4 : Int32) (i6 : Int32) (i7 : Int32) (M : Mm) (cc zz : Nat) => QW p l e ({ frames := 9, cells := Cc, slots := Zz, locals := 159 } : Room) s m args below meth c (vx_MQ below (QiM D cA lo Q) (XcM D cA lo X) args s Cc Zz (fun q => lo ≤ q)) 13 D cA lo cc zz M 660 [(0, .ref a0), (2, .int i2), (3, .int i3), (4, .int i4), (6, .int i6), (7, .int i7)] []) (fun (a0 : Nat) (i1 : Int32) (i2 : Int32) (i3 : Int32) (i4 : Int32) (M : Mm) (cc zz : Nat) => QW p l e ({ frames := 9, cells := Cc, slots := Zz, locals := 159 } : Room) s m args below meth c (vx_MQ below (QiM D cA lo Q) (XcM D cA lo X) args s Cc Zz (fun q => lo ≤ q)) 13 D cA lo cc zz M 710 [(0, .ref a0), (1, .int i1), (2, .int i2), (3, .int i3), (4, .int i4)] []) (fun (a0 : Nat) (i2 : Int32) (i3 : Int32) (i4 : Int32) (i5 : Int32) (M : Mm) (cc zz : Nat) => QW p l e ({ frames := 9, cells := Cc, slots := Zz, locals := 159 } : Room) s m args below meth c (vx_MQ below (QiM D cA lo Q) (XcM D cA lo X) args s Cc Zz (fun q => lo ≤ q)) 13 D cA lo cc zz M 766 [(0, .ref a0), (2, .int i2), (3, .int i3), (4, .int i4), (5, .int i5)] []) (fun (a0 : Nat) (i1 : Int32) (i2 : Int32) (i3 : Int32) (i4 : Int32) (M : Mm) (cc zz : Nat) => QW p l e ({ frames := 9, cells := Cc, slots := Zz, locals := 159 } : Room) s m args below meth c (vx_MQ below (QiM D cA lo Q) (XcM D cA lo X) args s Cc Zz (fun q => lo ≤ q)) 13 D cA lo cc zz M 802 [(0, .ref a0), (1, .int i1), (2, .int i2), (3, .int i3), (4, .int i4)] []) (fun (a0 : Nat) (i2 : Int32) (i3 : Int32) (i4 : Int32) (i8 : Int32) (as0 : Nat) (is1 : Int32) (is2 : Int32) (is3 : Int32) (is4 : Int32) (M : Mm) (cc zz : Nat) => QW p l e ({ frames := 9, cells := Cc, slots := Zz, locals := 159 } : Room) s m args below meth c (vx_MQ below (QiM D cA lo Q) (XcM D cA lo X) args s Cc Zz (fun q => lo ≤ q)) 13 D cA lo cc zz M 238 [(0, .ref a0), (2, .int i2), (3, .int i3), (4, .int i4), (8, .int i8)] [.int is4, .int is3, .int is2, .int is1, .ref as0]) (fun (a0 : Nat) (i2 : Int32) (i3 : Int32) (i4 : Int32) (as0 : Nat) (M : Mm) (cc zz : Nat) => QW p l e ({ frames := 9, cells := Cc, slots := Zz, locals := 159 } : Room) s m args below meth c (vx_MQ below (QiM D cA lo Q) (XcM D cA lo X) args s Cc Zz (fun q => lo ≤ q)) 13 D cA lo cc zz M 834 [(0, .ref a0), (2, .int i2), (3, .int i3), (4, .int i4)] [.ref as0]) (fun (a0 : Nat) (i2 : Int32) (i3 : Int32) (i4 : Int32) (as0 : Nat) (M : Mm) (cc zz : Nat) => QW p l e ({ frames := 9, cells := Cc, slots := Zz, locals := 159 } : Room) s m args below meth c (vx_MQ below (QiM D cA lo Q) (XcM D cA lo X) args s Cc Zz (fun q => lo ≤ q)) 13 D cA lo cc zz M 867 [(0, .ref a0), (2, .int i2), (3, .int i3), (4, .int i4)] [.ref as0]) (fun (a0 : Nat) (i2 : Int32) (i3 : Int32) (i4 : Int32) (as0 : Nat) (M : Mm) (cc zz : Nat) => QW p l e ({ frames := 9, cells := Cc, slots := Zz, locals := 159 } : Room) s m args below meth c (vx_MQ below (QiM D cA lo Q) (XcM D cA lo X) args s Cc Zz (fun q => lo ≤ q)) 13 D cA lo cc zz M 900 [(0, .ref a0), (2, .int i2), (3, .int i3), (4, .int i4)] [.ref as0]) Cc Zz Q X M a0 i1 i2 i3 i4 i5 i6 i7 cc zz) : QW p l e ({ frames := 9, cells := Cc, slots := Zz, locals := 159 } : Room) s m args below meth c (vx_MQ below (QiM D cA lo Q) (XcM D cA lo X) args s Cc Zz (fun q => lo ≤ q)) 13 D cA lo cc zz M 114 [(0, .ref a0), (1, .int i1), (2, .int i2), (3, .int i3), (4, .int i4), (5, .int i5), (6, .int i6), (7, .int i7)] [] := by
  unfold S_L_act_114 at h
  refine q_iload_n C dL_act_114 rfl (j := 1) rfl ?_
  refine q_bipush (v := 14) C dL_act_115 (by decide) ?_
  have hcz := h.1
  have h := h.2
  refine q_ci (q_runS (As := [.int i1, .int 14]) (st := []) C (c_L_below l D cA lo h) (va_cwS 2 C.2.2.2.2.1 gL_act_L_below rfl rfl rfl (by decide +kernel) ⟨Nat.le_of_ble_eq_true rfl, Nat.le_of_ble_eq_true rfl⟩) rfl rfl (Nat.le_of_ble_eq_true rfl) dL_act_117 ⟨Nat.le_trans (Nat.le_of_eq (Nat.add_zero _)) hcz.1, Nat.le_trans (Nat.le_of_eq (Nat.add_zero _)) hcz.2⟩) (fun r_21 M_z h => ?_)
  refine q_mem h.1 ?_
  have h := h.2
  rcases Decidable.em (r_21 = 0) with z0 | z0
  · have h := h.1 z0
    refine q_tableIn (off := 68) (tgt := 188) C dL_act_120 (by rw [z0]; decide) (by rw [z0]; decide) (by rw [z0]; rfl) (by decide) ?_
    exact q_sub [0, 1, 2, 3, 4] rfl h
  · have h := h.2
    rcases Decidable.em (r_21 = 1) with z1 | z1
    · have h := h.1 z1
      refine q_tableIn (off := 68) (tgt := 188) C dL_act_120 (by rw [z1]; decide) (by rw [z1]; decide) (by rw [z1]; rfl) (by decide) ?_
      exact q_sub [0, 1, 2, 3, 4] rfl h
    · have h := h.2
      rcases Decidable.em (r_21 = 2) with z2 | z2
      · have h := h.1 z2
        refine q_tableIn (off := 68) (tgt := 188) C dL_act_120 (by rw [z2]; decide) (by rw [z2]; decide) (by rw [z2]; rfl) (by decide) ?_
        exact q_sub [0, 1, 2, 3, 4] rfl h
      · have h := h.2
        rcases Decidable.em (r_21 = 3) with z3 | z3
        · have h := h.1 z3
          refine q_tableIn (off := 152) (tgt := 272) C dL_act_120 (by rw [z3]; decide) (by rw [z3]; decide) (by rw [z3]; rfl) (by decide) ?_
          exact q_sub [0, 1, 2, 3, 4] rfl h
        · have h := h.2
          rcases Decidable.em (r_21 = 4) with z4 | z4
          · have h := h.1 z4
            refine q_tableIn (off := 230) (tgt := 350) C dL_act_120 (by rw [z4]; decide) (by rw [z4]; decide) (by rw [z4]; rfl) (by decide) ?_
            exact q_sub [0, 2, 3, 4, 6, 7] rfl h
          · have h := h.2
            rcases Decidable.em (r_21 = 5) with z5 | z5
            · have h := h.1 z5
              refine q_tableIn (off := 289) (tgt := 409) C dL_act_120 (by rw [z5]; decide) (by rw [z5]; decide) (by rw [z5]; rfl) (by decide) ?_
              exact q_sub [0, 1, 2, 3, 4, 5, 6] rfl h
            · have h := h.2
              rcases Decidable.em (r_21 = 6) with z6 | z6
              · have h := h.1 z6
                refine q_tableIn (off := 355) (tgt := 475) C dL_act_120 (by rw [z6]; decide) (by rw [z6]; decide) (by rw [z6]; rfl) (by decide) ?_
                exact q_sub [0, 2, 3, 4, 6, 7] rfl h
              · have h := h.2
                rcases Decidable.em (r_21 = 7) with z7 | z7
                · have h := h.1 z7
                  refine q_tableIn (off := 398) (tgt := 518) C dL_act_120 (by rw [z7]; decide) (by rw [z7]; decide) (by rw [z7]; rfl) (by decide) ?_
                  exact q_sub [0, 2, 3, 4, 6, 7] rfl h
                · have h := h.2
                  rcases Decidable.em (r_21 = 8) with z8 | z8
                  · have h := h.1 z8
                    refine q_tableIn (off := 432) (tgt := 552) C dL_act_120 (by rw [z8]; decide) (by rw [z8]; decide) (by rw [z8]; rfl) (by decide) ?_
                    exact q_sub [0, 2, 3, 4, 6, 7] rfl h
                  · have h := h.2
                    rcases Decidable.em (r_21 = 9) with z9 | z9
                    · have h := h.1 z9
                      refine q_tableIn (off := 466) (tgt := 586) C dL_act_120 (by rw [z9]; decide) (by rw [z9]; decide) (by rw [z9]; rfl) (by decide) ?_
                      exact q_sub [0, 1, 2, 3, 4, 5] rfl h
                    · have h := h.2
                      rcases Decidable.em (r_21 = 10) with z10 | z10
                      · have h := h.1 z10
                        refine q_tableIn (off := 540) (tgt := 660) C dL_act_120 (by rw [z10]; decide) (by rw [z10]; decide) (by rw [z10]; rfl) (by decide) ?_
                        exact q_sub [0, 2, 3, 4, 6, 7] rfl h
                      · have h := h.2
                        rcases Decidable.em (r_21 = 11) with z11 | z11
                        · have h := h.1 z11
                          refine q_tableIn (off := 590) (tgt := 710) C dL_act_120 (by rw [z11]; decide) (by rw [z11]; decide) (by rw [z11]; rfl) (by decide) ?_
                          exact q_sub [0, 1, 2, 3, 4] rfl h
                        · have h := h.2
                          rcases Decidable.em (r_21 = 12) with z12 | z12
                          · have h := h.1 z12
                            refine q_tableIn (off := 646) (tgt := 766) C dL_act_120 (by rw [z12]; decide) (by rw [z12]; decide) (by rw [z12]; rfl) (by decide) ?_
                            exact q_sub [0, 2, 3, 4, 5] rfl h
                          · have h := h.2
                            have h := h ⟨z0, z1, z2, z3, z4, z5, z6, z7, z8, z9, z10, z11, z12⟩
                            refine q_tableOut (tgt := 802) C dL_act_120 (sw_out_13 z0 z1 z2 z3 z4 z5 z6 z7 z8 z9 z10 z11 z12) (by decide) ?_
                            exact q_sub [0, 1, 2, 3, 4] rfl h
set_option maxRecDepth 100000 in
set_option maxHeartbeats 4000000 in
theorem b_L_act_109 {p : Program} {l : Launch} {e : Env} {s : State} {m : MethodId} {args : Array Value} {below : List Frame} {meth : Method} {c : Code} {D : va_G} {cA : Nat → ClassId} {lo : Nat} (C : Cx p s m args c cL_act 13 RL wsL_act D cA lo) (hr : meth.sig.returnType = (some .boolean)) (hlk : meth.locks = false) (hl : l.stackTraces = false) (htab : c.exceptionTable.toList = tableOf hhL_act) {Q : Int32 → Mm → Prop} {Cc Zz : Nat} {X : String → Mm → Prop} (M : Mm) (a0 : Nat) (i1 : Int32) (i2 : Int32) (i3 : Int32) (i4 : Int32) (i6 : Int32) (i7 : Int32) (as0 : Nat) (cc zz : Nat) (h : S_L_act_109 (fun (a0 : Nat) (i1 : Int32) (i2 : Int32) (i3 : Int32) (i4 : Int32) (i5 : Int32) (i6 : Int32) (i7 : Int32) (M : Mm) (cc zz : Nat) => QW p l e ({ frames := 9, cells := Cc, slots := Zz, locals := 159 } : Room) s m args below meth c (vx_MQ below (QiM D cA lo Q) (XcM D cA lo X) args s Cc Zz (fun q => lo ≤ q)) 13 D cA lo cc zz M 114 [(0, .ref a0), (1, .int i1), (2, .int i2), (3, .int i3), (4, .int i4), (5, .int i5), (6, .int i6), (7, .int i7)] []) (fun (a0 : Nat) (i1 : Int32) (i2 : Int32) (i3 : Int32) (i4 : Int32) (i6 : Int32) (i7 : Int32) (as0 : Nat) (M : Mm) (cc zz : Nat) => QW p l e ({ frames := 9, cells := Cc, slots := Zz, locals := 159 } : Room) s m args below meth c (vx_MQ below (QiM D cA lo Q) (XcM D cA lo X) args s Cc Zz (fun q => lo ≤ q)) 13 D cA lo cc zz M 109 [(0, .ref a0), (1, .int i1), (2, .int i2), (3, .int i3), (4, .int i4), (6, .int i6), (7, .int i7)] [.ref as0]) (fun (a0 : Nat) (i1 : Int32) (i2 : Int32) (i3 : Int32) (i4 : Int32) (M : Mm) (cc zz : Nat) => QW p l e ({ frames := 9, cells := Cc, slots := Zz, locals := 159 } : Room) s m args below meth c (vx_MQ below (QiM D cA lo Q) (XcM D cA lo X) args s Cc Zz (fun q => lo ≤ q)) 13 D cA lo cc zz M 188 [(0, .ref a0), (1, .int i1), (2, .int i2), (3, .int i3), (4, .int i4)] []) (fun (a0 : Nat) (i1 : Int32) (i2 : Int32) (i3 : Int32) (i4 : Int32) (M : Mm) (cc zz : Nat) => QW p l e ({ frames := 9, cells := Cc, slots := Zz, locals := 159 } : Room) s m args below meth c (vx_MQ below (QiM D cA lo Q) (XcM D cA lo X) args s Cc Zz (fun q => lo ≤ q)) 13 D cA lo cc zz M 272 [(0, .ref a0), (1, .int i1), (2, .int i2), (3, .int i3), (4, .int i4)] []) (fun (a0 : Nat) (i2 : Int32) (i3 : Int32) (i4 : Int32) (i6 : Int32) (i7 : Int32) (M : Mm) (cc zz : Nat) => QW p l e ({ frames := 9, cells := Cc, slots := Zz, locals := 159 } : Room) s m args below meth c (vx_MQ below (QiM D cA lo Q) (XcM D cA lo X) args s Cc Zz (fun q => lo ≤ q)) 13 D cA lo cc zz M 350 [(0, .ref a0), (2, .int i2), (3, .int i3), (4, .int i4), (6, .int i6), (7, .int i7)] []) (fun (a0 : Nat) (i1 : Int32) (i2 : Int32) (i3 : Int32) (i4 : Int32) (i5 : Int32) (i6 : Int32) (M : Mm) (cc zz : Nat) => QW p l e ({ frames := 9, cells := Cc, slots := Zz, locals := 159 } : Room) s m args below meth c (vx_MQ below (QiM D cA lo Q) (XcM D cA lo X) args s Cc Zz (fun q => lo ≤ q)) 13 D cA lo cc zz M 409 [(0, .ref a0), (1, .int i1), (2, .int i2), (3, .int i3), (4, .int i4), (5, .int i5), (6, .int i6)] []) (fun (a0 : Nat) (i2 : Int32) (i3 : Int32) (i4 : Int32) (i6 : Int32) (i7 : Int32) (M : Mm) (cc zz : Nat) => QW p l e ({ frames := 9, cells := Cc, slots := Zz, locals := 159 } : Room) s m args below meth c (vx_MQ below (QiM D cA lo Q) (XcM D cA lo X) args s Cc Zz (fun q => lo ≤ q)) 13 D cA lo cc zz M 475 [(0, .ref a0), (2, .int i2), (3, .int i3), (4, .int i4), (6, .int i6), (7, .int i7)] []) (fun (a0 : Nat) (i2 : Int32) (i3 : Int32) (i4 : Int32) (i6 : Int32) (i7 : Int32) (M : Mm) (cc zz : Nat) => QW p l e ({ frames := 9, cells := Cc, slots := Zz, locals := 159 } : Room) s m args below meth c (vx_MQ below (QiM D cA lo Q) (XcM D cA lo X) args s Cc Zz (fun q => lo ≤ q)) 13 D cA lo cc zz M 518 [(0, .ref a0), (2, .int i2), (3, .int i3), (4, .int i4), (6, .int i6), (7, .int i7)] []) (fun (a0 : Nat) (i2 : Int32) (i3 : Int32) (i4 : Int32) (i6 : Int32) (i7 : Int32) (M : Mm) (cc zz : Nat) => QW p l e ({ frames := 9, cells := Cc, slots := Zz, locals := 159 } : Room) s m args below meth c (vx_MQ below (QiM D cA lo Q) (XcM D cA lo X) args s Cc Zz (fun q => lo ≤ q)) 13 D cA lo cc zz M 552 [(0, .ref a0), (2, .int i2), (3, .int i3), (4, .int i4), (6, .int i6), (7, .int i7)] []) (fun (a0 : Nat) (i1 : Int32) (i2 : Int32) (i3 : Int32) (i4 : Int32) (i5 : Int32) (M : Mm) (cc zz : Nat) => QW p l e ({ frames := 9, cells := Cc, slots := Zz, locals := 159 } : Room) s m args below meth c (vx_MQ below (QiM D cA lo Q) (XcM D cA lo X) args s Cc Zz (fun q => lo ≤ q)) 13 D cA lo cc zz M 586 [(0, .ref a0), (1, .int i1), (2, .int i2), (3, .int i3), (4, .int i4), (5, .int i5)] []) (fun (a0 : Nat) (i2 : Int32) (i3 : Int32) (i4 : Int32) (i6 : Int32) (i7 : Int32) (M : Mm) (cc zz : Nat) => QW p l e ({ frames := 9, cells := Cc, slots := Zz, locals := 159 } : Room) s m args below meth c (vx_MQ below (QiM D cA lo Q) (XcM D cA lo X) args s Cc Zz (fun q => lo ≤ q)) 13 D cA lo cc zz M 660 [(0, .ref a0), (2, .int i2), (3, .int i3), (4, .int i4), (6, .int i6), (7, .int i7)] []) (fun (a0 : Nat) (i1 : Int32) (i2 : Int32) (i3 : Int32) (i4 : Int32) (M : Mm) (cc zz : Nat) => QW p l e ({ frames := 9, cells := Cc, slots := Zz, locals := 159 } : Room) s m args below meth c (vx_MQ below (QiM D cA lo Q) (XcM D cA lo X) args s Cc Zz (fun q => lo ≤ q)) 13 D cA lo cc zz M 710 [(0, .ref a0), (1, .int i1), (2, .int i2), (3, .int i3), (4, .int i4)] []) (fun (a0 : Nat) (i2 : Int32) (i3 : Int32) (i4 : Int32) (i5 : Int32) (M : Mm) (cc zz : Nat) => QW p l e ({ frames := 9, cells := Cc, slots := Zz, locals := 159 } : Room) s m args below meth c (vx_MQ below (QiM D cA lo Q) (XcM D cA lo X) args s Cc Zz (fun q => lo ≤ q)) 13 D cA lo cc zz M 766 [(0, .ref a0), (2, .int i2), (3, .int i3), (4, .int i4), (5, .int i5)] []) (fun (a0 : Nat) (i1 : Int32) (i2 : Int32) (i3 : Int32) (i4 : Int32) (M : Mm) (cc zz : Nat) => QW p l e ({ frames := 9, cells := Cc, slots := Zz, locals := 159 } : Room) s m args below meth c (vx_MQ below (QiM D cA lo Q) (XcM D cA lo X) args s Cc Zz (fun q => lo ≤ q)) 13 D cA lo cc zz M 802 [(0, .ref a0), (1, .int i1), (2, .int i2), (3, .int i3), (4, .int i4)] []) (fun (a0 : Nat) (i2 : Int32) (i3 : Int32) (i4 : Int32) (i8 : Int32) (as0 : Nat) (is1 : Int32) (is2 : Int32) (is3 : Int32) (is4 : Int32) (M : Mm) (cc zz : Nat) => QW p l e ({ frames := 9, cells := Cc, slots := Zz, locals := 159 } : Room) s m args below meth c (vx_MQ below (QiM D cA lo Q) (XcM D cA lo X) args s Cc Zz (fun q => lo ≤ q)) 13 D cA lo cc zz M 238 [(0, .ref a0), (2, .int i2), (3, .int i3), (4, .int i4), (8, .int i8)] [.int is4, .int is3, .int is2, .int is1, .ref as0]) (fun (a0 : Nat) (i2 : Int32) (i3 : Int32) (i4 : Int32) (as0 : Nat) (M : Mm) (cc zz : Nat) => QW p l e ({ frames := 9, cells := Cc, slots := Zz, locals := 159 } : Room) s m args below meth c (vx_MQ below (QiM D cA lo Q) (XcM D cA lo X) args s Cc Zz (fun q => lo ≤ q)) 13 D cA lo cc zz M 834 [(0, .ref a0), (2, .int i2), (3, .int i3), (4, .int i4)] [.ref as0]) (fun (a0 : Nat) (i2 : Int32) (i3 : Int32) (i4 : Int32) (as0 : Nat) (M : Mm) (cc zz : Nat) => QW p l e ({ frames := 9, cells := Cc, slots := Zz, locals := 159 } : Room) s m args below meth c (vx_MQ below (QiM D cA lo Q) (XcM D cA lo X) args s Cc Zz (fun q => lo ≤ q)) 13 D cA lo cc zz M 867 [(0, .ref a0), (2, .int i2), (3, .int i3), (4, .int i4)] [.ref as0]) (fun (a0 : Nat) (i2 : Int32) (i3 : Int32) (i4 : Int32) (as0 : Nat) (M : Mm) (cc zz : Nat) => QW p l e ({ frames := 9, cells := Cc, slots := Zz, locals := 159 } : Room) s m args below meth c (vx_MQ below (QiM D cA lo Q) (XcM D cA lo X) args s Cc Zz (fun q => lo ≤ q)) 13 D cA lo cc zz M 900 [(0, .ref a0), (2, .int i2), (3, .int i3), (4, .int i4)] [.ref as0]) Cc Zz Q X M a0 i1 i2 i3 i4 i6 i7 as0 cc zz) : QW p l e ({ frames := 9, cells := Cc, slots := Zz, locals := 159 } : Room) s m args below meth c (vx_MQ below (QiM D cA lo Q) (XcM D cA lo X) args s Cc Zz (fun q => lo ≤ q)) 13 D cA lo cc zz M 109 [(0, .ref a0), (1, .int i1), (2, .int i2), (3, .int i3), (4, .int i4), (6, .int i6), (7, .int i7)] [.ref as0] := by
  unfold S_L_act_109 at h
  refine q_astore (lv' := [(8, .ref as0), (0, .ref a0), (1, .int i1), (2, .int i2), (3, .int i3), (4, .int i4), (6, .int i6), (7, .int i7)]) C dL_act_109 (by decide) rfl ?_
  refine q_iconst (v := 0) C dL_act_111 (by decide) ?_
  refine q_istore (lv' := [(5, .int 0), (8, .ref as0), (0, .ref a0), (1, .int i1), (2, .int i2), (3, .int i3), (4, .int i4), (6, .int i6), (7, .int i7)]) C dL_act_112 (by decide) rfl ?_
  exact q_sub [2, 3, 4, 5, 6, 0, 7, 8] rfl h
set_option maxRecDepth 100000 in
set_option maxHeartbeats 4000000 in
theorem b_L_act_188 {p : Program} {l : Launch} {e : Env} {s : State} {m : MethodId} {args : Array Value} {below : List Frame} {meth : Method} {c : Code} {D : va_G} {cA : Nat → ClassId} {lo : Nat} (C : Cx p s m args c cL_act 13 RL wsL_act D cA lo) (hr : meth.sig.returnType = (some .boolean)) (hlk : meth.locks = false) (hl : l.stackTraces = false) (htab : c.exceptionTable.toList = tableOf hhL_act) {Q : Int32 → Mm → Prop} {Cc Zz : Nat} {X : String → Mm → Prop} (M : Mm) (a0 : Nat) (i1 : Int32) (i2 : Int32) (i3 : Int32) (i4 : Int32) (cc zz : Nat) (h : S_L_act_188 (fun (a0 : Nat) (i1 : Int32) (i2 : Int32) (i3 : Int32) (i4 : Int32) (i5 : Int32) (i6 : Int32) (i7 : Int32) (M : Mm) (cc zz : Nat) => QW p l e ({ frames := 9, cells := Cc, slots := Zz, locals := 159 } : Room) s m args below meth c (vx_MQ below (QiM D cA lo Q) (XcM D cA lo X) args s Cc Zz (fun q => lo ≤ q)) 13 D cA lo cc zz M 114 [(0, .ref a0), (1, .int i1), (2, .int i2), (3, .int i3), (4, .int i4), (5, .int i5), (6, .int i6), (7, .int i7)] []) (fun (a0 : Nat) (i1 : Int32) (i2 : Int32) (i3 : Int32) (i4 : Int32) (i6 : Int32) (i7 : Int32) (as0 : Nat) (M : Mm) (cc zz : Nat) => QW p l e ({ frames := 9, cells := Cc, slots := Zz, locals := 159 } : Room) s m args below meth c (vx_MQ below (QiM D cA lo Q) (XcM D cA lo X) args s Cc Zz (fun q => lo ≤ q)) 13 D cA lo cc zz M 109 [(0, .ref a0), (1, .int i1), (2, .int i2), (3, .int i3), (4, .int i4), (6, .int i6), (7, .int i7)] [.ref as0]) (fun (a0 : Nat) (i1 : Int32) (i2 : Int32) (i3 : Int32) (i4 : Int32) (M : Mm) (cc zz : Nat) => QW p l e ({ frames := 9, cells := Cc, slots := Zz, locals := 159 } : Room) s m args below meth c (vx_MQ below (QiM D cA lo Q) (XcM D cA lo X) args s Cc Zz (fun q => lo ≤ q)) 13 D cA lo cc zz M 188 [(0, .ref a0), (1, .int i1), (2, .int i2), (3, .int i3), (4, .int i4)] []) (fun (a0 : Nat) (i1 : Int32) (i2 : Int32) (i3 : Int32) (i4 : Int32) (M : Mm) (cc zz : Nat) => QW p l e ({ frames := 9, cells := Cc, slots := Zz, locals := 159 } : Room) s m args below meth c (vx_MQ below (QiM D cA lo Q) (XcM D cA lo X) args s Cc Zz (fun q => lo ≤ q)) 13 D cA lo cc zz M 272 [(0, .ref a0), (1, .int i1), (2, .int i2), (3, .int i3), (4, .int i4)] []) (fun (a0 : Nat) (i2 : Int32) (i3 : Int32) (i4 : Int32) (i6 : Int32) (i7 : Int32) (M : Mm) (cc zz : Nat) => QW p l e ({ frames := 9, cells := Cc, slots := Zz, locals := 159 } : Room) s m args below meth c (vx_MQ below (QiM D cA lo Q) (XcM D cA lo X) args s Cc Zz (fun q => lo ≤ q)) 13 D cA lo cc zz M 350 [(0, .ref a0), (2, .int i2), (3, .int i3), (4, .int i4), (6, .int i6), (7, .int i7)] []) (fun (a0 : Nat) (i1 : Int32) (i2 : Int32) (i3 : Int32) (i4 : Int32) (i5 : Int32) (i6 : Int32) (M : Mm) (cc zz : Nat) => QW p l e ({ frames := 9, cells := Cc, slots := Zz, locals := 159 } : Room) s m args below meth c (vx_MQ below (QiM D cA lo Q) (XcM D cA lo X) args s Cc Zz (fun q => lo ≤ q)) 13 D cA lo cc zz M 409 [(0, .ref a0), (1, .int i1), (2, .int i2), (3, .int i3), (4, .int i4), (5, .int i5), (6, .int i6)] []) (fun (a0 : Nat) (i2 : Int32) (i3 : Int32) (i4 : Int32) (i6 : Int32) (i7 : Int32) (M : Mm) (cc zz : Nat) => QW p l e ({ frames := 9, cells := Cc, slots := Zz, locals := 159 } : Room) s m args below meth c (vx_MQ below (QiM D cA lo Q) (XcM D cA lo X) args s Cc Zz (fun q => lo ≤ q)) 13 D cA lo cc zz M 475 [(0, .ref a0), (2, .int i2), (3, .int i3), (4, .int i4), (6, .int i6), (7, .int i7)] []) (fun (a0 : Nat) (i2 : Int32) (i3 : Int32) (i4 : Int32) (i6 : Int32) (i7 : Int32) (M : Mm) (cc zz : Nat) => QW p l e ({ frames := 9, cells := Cc, slots := Zz, locals := 159 } : Room) s m args below meth c (vx_MQ below (QiM D cA lo Q) (XcM D cA lo X) args s Cc Zz (fun q => lo ≤ q)) 13 D cA lo cc zz M 518 [(0, .ref a0), (2, .int i2), (3, .int i3), (4, .int i4), (6, .int i6), (7, .int i7)] []) (fun (a0 : Nat) (i2 : Int32) (i3 : Int32) (i4 : Int32) (i6 : Int32) (i7 : Int32) (M : Mm) (cc zz : Nat) => QW p l e ({ frames := 9, cells := Cc, slots := Zz, locals := 159 } : Room) s m args below meth c (vx_MQ below (QiM D cA lo Q) (XcM D cA lo X) args s Cc Zz (fun q => lo ≤ q)) 13 D cA lo cc zz M 552 [(0, .ref a0), (2, .int i2), (3, .int i3), (4, .int i4), (6, .int i6), (7, .int i7)] []) (fun (a0 : Nat) (i1 : Int32) (i2 : Int32) (i3 : Int32) (i4 : Int32) (i5 : Int32) (M : Mm) (cc zz : Nat) => QW p l e ({ frames := 9, cells := Cc, slots := Zz, locals := 159 } : Room) s m args below meth c (vx_MQ below (QiM D cA lo Q) (XcM D cA lo X) args s Cc Zz (fun q => lo ≤ q)) 13 D cA lo cc zz M 586 [(0, .ref a0), (1, .int i1), (2, .int i2), (3, .int i3), (4, .int i4), (5, .int i5)] []) (fun (a0 : Nat) (i2 : Int32) (i3 : Int32) (i4 : Int32) (i6 : Int32) (i7 : Int32) (M : Mm) (cc zz : Nat) => QW p l e ({ frames := 9, cells := Cc, slots := Zz, locals := 159 } : Room) s m args below meth c (vx_MQ below (QiM D cA lo Q) (XcM D cA lo X) args s Cc Zz (fun q => lo ≤ q)) 13 D cA lo cc zz M 660 [(0, .ref a0), (2, .int i2), (3, .int i3), (4, .int i4), (6, .int i6), (7, .int i7)] []) (fun (a0 : Nat) (i1 : Int32) (i2 : Int32) (i3 : Int32) (i4 : Int32) (M : Mm) (cc zz : Nat) => QW p l e ({ frames := 9, cells := Cc, slots := Zz, locals := 159 } : Room) s m args below meth c (vx_MQ below (QiM D cA lo Q) (XcM D cA lo X) args s Cc Zz (fun q => lo ≤ q)) 13 D cA lo cc zz M 710 [(0, .ref a0), (1, .int i1), (2, .int i2), (3, .int i3), (4, .int i4)] []) (fun (a0 : Nat) (i2 : Int32) (i3 : Int32) (i4 : Int32) (i5 : Int32) (M : Mm) (cc zz : Nat) => QW p l e ({ frames := 9, cells := Cc, slots := Zz, locals := 159 } : Room) s m args below meth c (vx_MQ below (QiM D cA lo Q) (XcM D cA lo X) args s Cc Zz (fun q => lo ≤ q)) 13 D cA lo cc zz M 766 [(0, .ref a0), (2, .int i2), (3, .int i3), (4, .int i4), (5, .int i5)] []) (fun (a0 : Nat) (i1 : Int32) (i2 : Int32) (i3 : Int32) (i4 : Int32) (M : Mm) (cc zz : Nat) => QW p l e ({ frames := 9, cells := Cc, slots := Zz, locals := 159 } : Room) s m args below meth c (vx_MQ below (QiM D cA lo Q) (XcM D cA lo X) args s Cc Zz (fun q => lo ≤ q)) 13 D cA lo cc zz M 802 [(0, .ref a0), (1, .int i1), (2, .int i2), (3, .int i3), (4, .int i4)] []) (fun (a0 : Nat) (i2 : Int32) (i3 : Int32) (i4 : Int32) (i8 : Int32) (as0 : Nat) (is1 : Int32) (is2 : Int32) (is3 : Int32) (is4 : Int32) (M : Mm) (cc zz : Nat) => QW p l e ({ frames := 9, cells := Cc, slots := Zz, locals := 159 } : Room) s m args below meth c (vx_MQ below (QiM D cA lo Q) (XcM D cA lo X) args s Cc Zz (fun q => lo ≤ q)) 13 D cA lo cc zz M 238 [(0, .ref a0), (2, .int i2), (3, .int i3), (4, .int i4), (8, .int i8)] [.int is4, .int is3, .int is2, .int is1, .ref as0]) (fun (a0 : Nat) (i2 : Int32) (i3 : Int32) (i4 : Int32) (as0 : Nat) (M : Mm) (cc zz : Nat) => QW p l e ({ frames := 9, cells := Cc, slots := Zz, locals := 159 } : Room) s m args below meth c (vx_MQ below (QiM D cA lo Q) (XcM D cA lo X) args s Cc Zz (fun q => lo ≤ q)) 13 D cA lo cc zz M 834 [(0, .ref a0), (2, .int i2), (3, .int i3), (4, .int i4)] [.ref as0]) (fun (a0 : Nat) (i2 : Int32) (i3 : Int32) (i4 : Int32) (as0 : Nat) (M : Mm) (cc zz : Nat) => QW p l e ({ frames := 9, cells := Cc, slots := Zz, locals := 159 } : Room) s m args below meth c (vx_MQ below (QiM D cA lo Q) (XcM D cA lo X) args s Cc Zz (fun q => lo ≤ q)) 13 D cA lo cc zz M 867 [(0, .ref a0), (2, .int i2), (3, .int i3), (4, .int i4)] [.ref as0]) (fun (a0 : Nat) (i2 : Int32) (i3 : Int32) (i4 : Int32) (as0 : Nat) (M : Mm) (cc zz : Nat) => QW p l e ({ frames := 9, cells := Cc, slots := Zz, locals := 159 } : Room) s m args below meth c (vx_MQ below (QiM D cA lo Q) (XcM D cA lo X) args s Cc Zz (fun q => lo ≤ q)) 13 D cA lo cc zz M 900 [(0, .ref a0), (2, .int i2), (3, .int i3), (4, .int i4)] [.ref as0]) Cc Zz Q X M a0 i1 i2 i3 i4 cc zz) : QW p l e ({ frames := 9, cells := Cc, slots := Zz, locals := 159 } : Room) s m args below meth c (vx_MQ below (QiM D cA lo Q) (XcM D cA lo X) args s Cc Zz (fun q => lo ≤ q)) 13 D cA lo cc zz M 188 [(0, .ref a0), (1, .int i1), (2, .int i2), (3, .int i3), (4, .int i4)] [] := by
  unfold S_L_act_188 at h
  refine q_iconst (v := 3) C dL_act_188 (by decide) ?_
  refine q_iload_n C dL_act_189 rfl (j := 1) rfl ?_
  refine q_iconst (v := 4) C dL_act_190 (by decide) ?_
  refine q_ishr C dL_act_191 ?_
  refine q_iconst (v := 2) C dL_act_192 (by decide) ?_
  have hcz := h.1
  have h := h.2
  refine q_ci (q_runS (As := [.int (i1 >>> (4 &&& 31)), .int 2]) (st := [.int 3]) C (c_L_below l D cA lo h) (va_cwS 2 C.2.2.2.2.1 gL_act_L_below rfl rfl rfl (by decide +kernel) ⟨Nat.le_of_ble_eq_true rfl, Nat.le_of_ble_eq_true rfl⟩) rfl rfl (Nat.le_of_ble_eq_true rfl) dL_act_193 ⟨Nat.le_trans (Nat.le_of_eq (Nat.add_zero _)) hcz.1, Nat.le_trans (Nat.le_of_eq (Nat.add_zero _)) hcz.2⟩) (fun r_22 M_z h => ?_)
  refine q_mem h.1 ?_
  have h := h.2
  refine q_imul C dL_act_196 ?_
  refine q_iload_n C dL_act_197 rfl (j := 1) rfl ?_
  refine q_bipush (v := 6) C dL_act_198 (by decide) ?_
  refine q_ishr C dL_act_200 ?_
  refine q_iconst (v := 2) C dL_act_201 (by decide) ?_
  have hcz := h.1
  have h := h.2
  refine q_ci (q_runS (As := [.int (i1 >>> (6 &&& 31)), .int 2]) (st := [.int (3 * r_22)]) C (c_L_below l D cA lo h) (va_cwS 2 C.2.2.2.2.1 gL_act_L_below rfl rfl rfl (by decide +kernel) ⟨Nat.le_of_ble_eq_true rfl, Nat.le_of_ble_eq_true rfl⟩) rfl rfl (Nat.le_of_ble_eq_true rfl) dL_act_202 ⟨Nat.le_trans (Nat.le_of_eq (Nat.add_zero _)) hcz.1, Nat.le_trans (Nat.le_of_eq (Nat.add_zero _)) hcz.2⟩) (fun r_23 M_z h => ?_)
  refine q_mem h.1 ?_
  have h := h.2
  refine q_iadd C dL_act_205 ?_
  refine q_istore (lv' := [(8, .int ((3 * r_22) + r_23)), (0, .ref a0), (1, .int i1), (2, .int i2), (3, .int i3), (4, .int i4)]) C dL_act_206 (by decide) rfl ?_
  refine q_aload_n C dL_act_208 rfl (j := 1) rfl ?_
  refine q_iload C dL_act_209 (j := 0) rfl ?_
  refine q_iload C dL_act_211 (j := 0) rfl ?_
  refine q_iconst (v := 1) C dL_act_213 (by decide) ?_
  refine q_iadd C dL_act_214 ?_
  refine q_iload C dL_act_215 (j := 0) rfl ?_
  refine q_iconst (v := 4) C dL_act_217 (by decide) ?_
  refine q_iadd C dL_act_218 ?_
  refine q_iload_n C dL_act_219 rfl (j := 2) rfl ?_
  refine q_bipush (v := 8) C dL_act_220 (by decide) ?_
  refine q_ishr C dL_act_222 ?_
  refine q_iconst (v := 3) C dL_act_223 (by decide) ?_
  have hcz := h.1
  have h := h.2
  refine q_ci (q_runS (As := [.int (i1 >>> (8 &&& 31)), .int 3]) (st := [.int (((3 * r_22) + r_23) + 4), .int (((3 * r_22) + r_23) + 1), .int ((3 * r_22) + r_23), .ref a0]) C (c_L_below l D cA lo h) (va_cwS 2 C.2.2.2.2.1 gL_act_L_below rfl rfl rfl (by decide +kernel) ⟨Nat.le_of_ble_eq_true rfl, Nat.le_of_ble_eq_true rfl⟩) rfl rfl (Nat.le_of_ble_eq_true rfl) dL_act_224 ⟨Nat.le_trans (Nat.le_of_eq (Nat.add_zero _)) hcz.1, Nat.le_trans (Nat.le_of_eq (Nat.add_zero _)) hcz.2⟩) (fun r_24 M_z h => ?_)
  refine q_mem h.1 ?_
  have h := h.2
  refine q_if_ne (tgt := 234) C dL_act_227 (by decide) (fun z => ?_) (fun z => ?_)
  · have h := h.1 z
    refine q_iload C dL_act_234 (j := 0) rfl ?_
    refine q_iconst (v := 3) C dL_act_236 (by decide) ?_
    refine q_iadd C dL_act_237 ?_
    exact q_sub [1, 3, 4, 5, 0] rfl h
  · have h := h.2 z
    refine q_iconst (v := (-1)) C dL_act_230 (by decide) ?_
    refine q_goto (tgt := 238) C dL_act_231 (by decide) ?_
    exact q_sub [1, 3, 4, 5, 0] rfl h
set_option maxRecDepth 100000 in
set_option maxHeartbeats 4000000 in
theorem b_L_act_272 {p : Program} {l : Launch} {e : Env} {s : State} {m : MethodId} {args : Array Value} {below : List Frame} {meth : Method} {c : Code} {D : va_G} {cA : Nat → ClassId} {lo : Nat} (C : Cx p s m args c cL_act 13 RL wsL_act D cA lo) (hr : meth.sig.returnType = (some .boolean)) (hlk : meth.locks = false) (hl : l.stackTraces = false) (htab : c.exceptionTable.toList = tableOf hhL_act) {Q : Int32 → Mm → Prop} {Cc Zz : Nat} {X : String → Mm → Prop} (M : Mm) (a0 : Nat) (i1 : Int32) (i2 : Int32) (i3 : Int32) (i4 : Int32) (cc zz : Nat) (h : S_L_act_272 (fun (a0 : Nat) (i1 : Int32) (i2 : Int32) (i3 : Int32) (i4 : Int32) (i5 : Int32) (i6 : Int32) (i7 : Int32) (M : Mm) (cc zz : Nat) => QW p l e ({ frames := 9, cells := Cc, slots := Zz, locals := 159 } : Room) s m args below meth c (vx_MQ below (QiM D cA lo Q) (XcM D cA lo X) args s Cc Zz (fun q => lo ≤ q)) 13 D cA lo cc zz M 114 [(0, .ref a0), (1, .int i1), (2, .int i2), (3, .int i3), (4, .int i4), (5, .int i5), (6, .int i6), (7, .int i7)] []) (fun (a0 : Nat) (i1 : Int32) (i2 : Int32) (i3 : Int32) (i4 : Int32) (i6 : Int32) (i7 : Int32) (as0 : Nat) (M : Mm) (cc zz : Nat) => QW p l e ({ frames := 9, cells := Cc, slots := Zz, locals := 159 } : Room) s m args below meth c (vx_MQ below (QiM D cA lo Q) (XcM D cA lo X) args s Cc Zz (fun q => lo ≤ q)) 13 D cA lo cc zz M 109 [(0, .ref a0), (1, .int i1), (2, .int i2), (3, .int i3), (4, .int i4), (6, .int i6), (7, .int i7)] [.ref as0]) (fun (a0 : Nat) (i1 : Int32) (i2 : Int32) (i3 : Int32) (i4 : Int32) (M : Mm) (cc zz : Nat) => QW p l e ({ frames := 9, cells := Cc, slots := Zz, locals := 159 } : Room) s m args below meth c (vx_MQ below (QiM D cA lo Q) (XcM D cA lo X) args s Cc Zz (fun q => lo ≤ q)) 13 D cA lo cc zz M 188 [(0, .ref a0), (1, .int i1), (2, .int i2), (3, .int i3), (4, .int i4)] []) (fun (a0 : Nat) (i1 : Int32) (i2 : Int32) (i3 : Int32) (i4 : Int32) (M : Mm) (cc zz : Nat) => QW p l e ({ frames := 9, cells := Cc, slots := Zz, locals := 159 } : Room) s m args below meth c (vx_MQ below (QiM D cA lo Q) (XcM D cA lo X) args s Cc Zz (fun q => lo ≤ q)) 13 D cA lo cc zz M 272 [(0, .ref a0), (1, .int i1), (2, .int i2), (3, .int i3), (4, .int i4)] []) (fun (a0 : Nat) (i2 : Int32) (i3 : Int32) (i4 : Int32) (i6 : Int32) (i7 : Int32) (M : Mm) (cc zz : Nat) => QW p l e ({ frames := 9, cells := Cc, slots := Zz, locals := 159 } : Room) s m args below meth c (vx_MQ below (QiM D cA lo Q) (XcM D cA lo X) args s Cc Zz (fun q => lo ≤ q)) 13 D cA lo cc zz M 350 [(0, .ref a0), (2, .int i2), (3, .int i3), (4, .int i4), (6, .int i6), (7, .int i7)] []) (fun (a0 : Nat) (i1 : Int32) (i2 : Int32) (i3 : Int32) (i4 : Int32) (i5 : Int32) (i6 : Int32) (M : Mm) (cc zz : Nat) => QW p l e ({ frames := 9, cells := Cc, slots := Zz, locals := 159 } : Room) s m args below meth c (vx_MQ below (QiM D cA lo Q) (XcM D cA lo X) args s Cc Zz (fun q => lo ≤ q)) 13 D cA lo cc zz M 409 [(0, .ref a0), (1, .int i1), (2, .int i2), (3, .int i3), (4, .int i4), (5, .int i5), (6, .int i6)] []) (fun (a0 : Nat) (i2 : Int32) (i3 : Int32) (i4 : Int32) (i6 : Int32) (i7 : Int32) (M : Mm) (cc zz : Nat) => QW p l e ({ frames := 9, cells := Cc, slots := Zz, locals := 159 } : Room) s m args below meth c (vx_MQ below (QiM D cA lo Q) (XcM D cA lo X) args s Cc Zz (fun q => lo ≤ q)) 13 D cA lo cc zz M 475 [(0, .ref a0), (2, .int i2), (3, .int i3), (4, .int i4), (6, .int i6), (7, .int i7)] []) (fun (a0 : Nat) (i2 : Int32) (i3 : Int32) (i4 : Int32) (i6 : Int32) (i7 : Int32) (M : Mm) (cc zz : Nat) => QW p l e ({ frames := 9, cells := Cc, slots := Zz, locals := 159 } : Room) s m args below meth c (vx_MQ below (QiM D cA lo Q) (XcM D cA lo X) args s Cc Zz (fun q => lo ≤ q)) 13 D cA lo cc zz M 518 [(0, .ref a0), (2, .int i2), (3, .int i3), (4, .int i4), (6, .int i6), (7, .int i7)] []) (fun (a0 : Nat) (i2 : Int32) (i3 : Int32) (i4 : Int32) (i6 : Int32) (i7 : Int32) (M : Mm) (cc zz : Nat) => QW p l e ({ frames := 9, cells := Cc, slots := Zz, locals := 159 } : Room) s m args below meth c (vx_MQ below (QiM D cA lo Q) (XcM D cA lo X) args s Cc Zz (fun q => lo ≤ q)) 13 D cA lo cc zz M 552 [(0, .ref a0), (2, .int i2), (3, .int i3), (4, .int i4), (6, .int i6), (7, .int i7)] []) (fun (a0 : Nat) (i1 : Int32) (i2 : Int32) (i3 : Int32) (i4 : Int32) (i5 : Int32) (M : Mm) (cc zz : Nat) => QW p l e ({ frames := 9, cells := Cc, slots := Zz, locals := 159 } : Room) s m args below meth c (vx_MQ below (QiM D cA lo Q) (XcM D cA lo X) args s Cc Zz (fun q => lo ≤ q)) 13 D cA lo cc zz M 586 [(0, .ref a0), (1, .int i1), (2, .int i2), (3, .int i3), (4, .int i4), (5, .int i5)] []) (fun (a0 : Nat) (i2 : Int32) (i3 : Int32) (i4 : Int32) (i6 : Int32) (i7 : Int32) (M : Mm) (cc zz : Nat) => QW p l e ({ frames := 9, cells := Cc, slots := Zz, locals := 159 } : Room) s m args below meth c (vx_MQ below (QiM D cA lo Q) (XcM D cA lo X) args s Cc Zz (fun q => lo ≤ q)) 13 D cA lo cc zz M 660 [(0, .ref a0), (2, .int i2), (3, .int i3), (4, .int i4), (6, .int i6), (7, .int i7)] []) (fun (a0 : Nat) (i1 : Int32) (i2 : Int32) (i3 : Int32) (i4 : Int32) (M : Mm) (cc zz : Nat) => QW p l e ({ frames := 9, cells := Cc, slots := Zz, locals := 159 } : Room) s m args below meth c (vx_MQ below (QiM D cA lo Q) (XcM D cA lo X) args s Cc Zz (fun q => lo ≤ q)) 13 D cA lo cc zz M 710 [(0, .ref a0), (1, .int i1), (2, .int i2), (3, .int i3), (4, .int i4)] []) (fun (a0 : Nat) (i2 : Int32) (i3 : Int32) (i4 : Int32) (i5 : Int32) (M : Mm) (cc zz : Nat) => QW p l e ({ frames := 9, cells := Cc, slots := Zz, locals := 159 } : Room) s m args below meth c (vx_MQ below (QiM D cA lo Q) (XcM D cA lo X) args s Cc Zz (fun q => lo ≤ q)) 13 D cA lo cc zz M 766 [(0, .ref a0), (2, .int i2), (3, .int i3), (4, .int i4), (5, .int i5)] []) (fun (a0 : Nat) (i1 : Int32) (i2 : Int32) (i3 : Int32) (i4 : Int32) (M : Mm) (cc zz : Nat) => QW p l e ({ frames := 9, cells := Cc, slots := Zz, locals := 159 } : Room) s m args below meth c (vx_MQ below (QiM D cA lo Q) (XcM D cA lo X) args s Cc Zz (fun q => lo ≤ q)) 13 D cA lo cc zz M 802 [(0, .ref a0), (1, .int i1), (2, .int i2), (3, .int i3), (4, .int i4)] []) (fun (a0 : Nat) (i2 : Int32) (i3 : Int32) (i4 : Int32) (i8 : Int32) (as0 : Nat) (is1 : Int32) (is2 : Int32) (is3 : Int32) (is4 : Int32) (M : Mm) (cc zz : Nat) => QW p l e ({ frames := 9, cells := Cc, slots := Zz, locals := 159 } : Room) s m args below meth c (vx_MQ below (QiM D cA lo Q) (XcM D cA lo X) args s Cc Zz (fun q => lo ≤ q)) 13 D cA lo cc zz M 238 [(0, .ref a0), (2, .int i2), (3, .int i3), (4, .int i4), (8, .int i8)] [.int is4, .int is3, .int is2, .int is1, .ref as0]) (fun (a0 : Nat) (i2 : Int32) (i3 : Int32) (i4 : Int32) (as0 : Nat) (M : Mm) (cc zz : Nat) => QW p l e ({ frames := 9, cells := Cc, slots := Zz, locals := 159 } : Room) s m args below meth c (vx_MQ below (QiM D cA lo Q) (XcM D cA lo X) args s Cc Zz (fun q => lo ≤ q)) 13 D cA lo cc zz M 834 [(0, .ref a0), (2, .int i2), (3, .int i3), (4, .int i4)] [.ref as0]) (fun (a0 : Nat) (i2 : Int32) (i3 : Int32) (i4 : Int32) (as0 : Nat) (M : Mm) (cc zz : Nat) => QW p l e ({ frames := 9, cells := Cc, slots := Zz, locals := 159 } : Room) s m args below meth c (vx_MQ below (QiM D cA lo Q) (XcM D cA lo X) args s Cc Zz (fun q => lo ≤ q)) 13 D cA lo cc zz M 867 [(0, .ref a0), (2, .int i2), (3, .int i3), (4, .int i4)] [.ref as0]) (fun (a0 : Nat) (i2 : Int32) (i3 : Int32) (i4 : Int32) (as0 : Nat) (M : Mm) (cc zz : Nat) => QW p l e ({ frames := 9, cells := Cc, slots := Zz, locals := 159 } : Room) s m args below meth c (vx_MQ below (QiM D cA lo Q) (XcM D cA lo X) args s Cc Zz (fun q => lo ≤ q)) 13 D cA lo cc zz M 900 [(0, .ref a0), (2, .int i2), (3, .int i3), (4, .int i4)] [.ref as0]) Cc Zz Q X M a0 i1 i2 i3 i4 cc zz) : QW p l e ({ frames := 9, cells := Cc, slots := Zz, locals := 159 } : Room) s m args below meth c (vx_MQ below (QiM D cA lo Q) (XcM D cA lo X) args s Cc Zz (fun q => lo ≤ q)) 13 D cA lo cc zz M 272 [(0, .ref a0), (1, .int i1), (2, .int i2), (3, .int i3), (4, .int i4)] [] := by
  unfold S_L_act_272 at h
  refine q_aload_n C dL_act_272 rfl (j := 0) rfl ?_
  refine q_bipush (v := 100) C dL_act_273 (by decide) ?_
  refine q_iload_n C dL_act_275 rfl (j := 1) rfl ?_
  refine q_iconst (v := 4) C dL_act_276 (by decide) ?_
  refine q_ishr C dL_act_277 ?_
  refine q_bipush (v := 60) C dL_act_278 (by decide) ?_
  have hcz := h.1
  have h := h.2
  refine q_ci (q_runS (As := [.int (i1 >>> (4 &&& 31)), .int 60]) (st := [.int 100, .ref a0]) C (c_L_below l D cA lo h) (va_cwS 2 C.2.2.2.2.1 gL_act_L_below rfl rfl rfl (by decide +kernel) ⟨Nat.le_of_ble_eq_true rfl, Nat.le_of_ble_eq_true rfl⟩) rfl rfl (Nat.le_of_ble_eq_true rfl) dL_act_280 ⟨Nat.le_trans (Nat.le_of_eq (Nat.add_zero _)) hcz.1, Nat.le_trans (Nat.le_of_eq (Nat.add_zero _)) hcz.2⟩) (fun r_25 M_z h => ?_)
  refine q_mem h.1 ?_
  have h := h.2
  refine q_iadd C dL_act_283 ?_
  refine q_iload_n C dL_act_284 rfl (j := 1) rfl ?_
  refine q_bipush (v := 6) C dL_act_285 (by decide) ?_
  refine q_ishr C dL_act_287 ?_
  refine q_bipush (v := 50) C dL_act_288 (by decide) ?_
  have hcz := h.1
  have h := h.2
  refine q_ci (q_runS (As := [.int (i1 >>> (6 &&& 31)), .int 50]) (st := [.int (100 + r_25), .ref a0]) C (c_L_below l D cA lo h) (va_cwS 2 C.2.2.2.2.1 gL_act_L_below rfl rfl rfl (by decide +kernel) ⟨Nat.le_of_ble_eq_true rfl, Nat.le_of_ble_eq_true rfl⟩) rfl rfl (Nat.le_of_ble_eq_true rfl) dL_act_290 ⟨Nat.le_trans (Nat.le_of_eq (Nat.add_zero _)) hcz.1, Nat.le_trans (Nat.le_of_eq (Nat.add_zero _)) hcz.2⟩) (fun r_26 M_z h => ?_)
  refine q_mem h.1 ?_
  have h := h.2
  refine q_bipush (v := 9) C dL_act_293 (by decide) ?_
  refine q_iconst (v := 1) C dL_act_295 (by decide) ?_
  refine q_iload_n C dL_act_296 rfl (j := 1) rfl ?_
  refine q_bipush (v := 8) C dL_act_297 (by decide) ?_
  refine q_ishr C dL_act_299 ?_
  refine q_bipush (v := 20) C dL_act_300 (by decide) ?_
  have hcz := h.1
  have h := h.2
  refine q_ci (q_runS (As := [.int (i1 >>> (8 &&& 31)), .int 20]) (st := [.int 1, .int 9, .int r_26, .int (100 + r_25), .ref a0]) C (c_L_below l D cA lo h) (va_cwS 2 C.2.2.2.2.1 gL_act_L_below rfl rfl rfl (by decide +kernel) ⟨Nat.le_of_ble_eq_true rfl, Nat.le_of_ble_eq_true rfl⟩) rfl rfl (Nat.le_of_ble_eq_true rfl) dL_act_302 ⟨Nat.le_trans (Nat.le_of_eq (Nat.add_zero _)) hcz.1, Nat.le_trans (Nat.le_of_eq (Nat.add_zero _)) hcz.2⟩) (fun r_27 M_z h => ?_)
  refine q_mem h.1 ?_
  have h := h.2
  refine q_iadd C dL_act_305 ?_
  obtain ⟨dc_30, ds_30, hcz, h⟩ := h
  refine q_xi (qx_runV (As := [.int (100 + r_25), .int r_26, .int 9, .int (1 + r_27)]) (st := []) C (c_X8_box l hl D cA lo h.2) (cwV 4 C.2.2.2.2.1 gL_act_X8_box rfl rfl rfl (by decide +kernel) ⟨Nat.le_of_ble_eq_true rfl, Nat.le_of_ble_eq_true rfl⟩) h.1 (by decide) rfl rfl rfl (Nat.le_of_ble_eq_true rfl) dL_act_306 hcz) (fun E M_x h => ?_) (fun r_28 M_29 h => ?_)
  · rcases h with ⟨rfl, h⟩ | ⟨rfl, h⟩ | ⟨rfl, h⟩
    · have h := h
      refine q_catch (name := "") C htab (List.take 2 hhL_act) (272, 349, 834, 58) (List.drop 3 hhL_act) (by decide) (by decide) (by decide +kernel) (by decide) (by decide) (by decide +kernel) (fun qx => ?_)
      have h := h qx
      exact q_sub [0, 2, 3, 4] rfl h
    · have h := h
      refine q_catch (name := "") C htab (List.take 16 hhL_act) (272, 349, 867, 120) (List.drop 17 hhL_act) (by decide) (by decide) (by decide +kernel) (by decide) (by decide) (by decide +kernel) (fun qx => ?_)
      have h := h qx
      exact q_sub [0, 2, 3, 4] rfl h
    · have h := h
      refine q_catch (name := "") C htab (List.take 30 hhL_act) (272, 349, 900, 122) (List.drop 31 hhL_act) (by decide) (by decide) (by decide +kernel) (by decide) (by decide) (by decide +kernel) (fun qx => ?_)
      have h := h qx
      exact q_sub [0, 2, 3, 4] rfl h
  · refine q_pop C dL_act_309 rfl ?_
    refine q_aload_n C dL_act_310 rfl (j := 0) rfl ?_
    have hcz := h.1
    have h := h.2
    refine q_ci (q_runV (As := []) (st := []) C (c_X8_points l D cA lo h.2) (cwV 0 C.2.2.2.2.1 gL_act_X8_points rfl rfl rfl (by decide +kernel) ⟨Nat.le_of_ble_eq_true rfl, Nat.le_of_ble_eq_true rfl⟩) h.1 (by decide) rfl rfl rfl (Nat.le_of_ble_eq_true rfl) dL_act_311 ⟨Nat.le_trans (Nat.le_of_eq (Nat.add_zero _)) hcz.1, Nat.le_trans (Nat.le_of_eq (Nat.add_zero _)) hcz.2⟩) (fun r_31 M_z h => ?_)
    refine q_mem h.1 ?_
    have h := h.2
    refine q_iload_n C dL_act_314 rfl (j := 2) rfl ?_
    refine q_bipush (v := 8) C dL_act_315 (by decide) ?_
    refine q_iadd C dL_act_317 ?_
    refine q_icmp_ne (tgt := 348) C dL_act_318 (by decide) (fun z => ?_) (fun z => ?_)
    · have h := h.1 z
      refine q_iconst (v := 0) C dL_act_348 (by decide) ?_
      exact q_xret (q_zret C hr hlk dL_act_349 h.1 h.2.1 (Or.inl rfl) h.2.2)
    · have h := h.2 z
      refine q_aload_n C dL_act_321 rfl (j := 0) rfl ?_
      have hcz := h.1
      have h := h.2
      refine q_ci (q_runV (As := []) (st := []) C (c_X8_faces l D cA lo h.2) (cwV 0 C.2.2.2.2.1 gL_act_X8_faces rfl rfl rfl (by decide +kernel) ⟨Nat.le_of_ble_eq_true rfl, Nat.le_of_ble_eq_true rfl⟩) h.1 (by decide) rfl rfl rfl (Nat.le_of_ble_eq_true rfl) dL_act_322 ⟨Nat.le_trans (Nat.le_of_eq (Nat.add_zero _)) hcz.1, Nat.le_trans (Nat.le_of_eq (Nat.add_zero _)) hcz.2⟩) (fun r_32 M_z h => ?_)
      refine q_mem h.1 ?_
      have h := h.2
      refine q_iload C dL_act_325 (j := 4) rfl ?_
      refine q_bipush (v := 6) C dL_act_327 (by decide) ?_
      refine q_iadd C dL_act_329 ?_
      refine q_icmp_ne (tgt := 348) C dL_act_330 (by decide) (fun z => ?_) (fun z => ?_)
      · have h := h.1 z
        refine q_iconst (v := 0) C dL_act_348 (by decide) ?_
        exact q_xret (q_zret C hr hlk dL_act_349 h.1 h.2.1 (Or.inl rfl) h.2.2)
      · have h := h.2 z
        refine q_aload_n C dL_act_333 rfl (j := 0) rfl ?_
        have hcz := h.1
        have h := h.2
        refine q_ci (q_runV (As := []) (st := []) C (c_X8_edges l D cA lo h.2) (cwV 0 C.2.2.2.2.1 gL_act_X8_edges rfl rfl rfl (by decide +kernel) ⟨Nat.le_of_ble_eq_true rfl, Nat.le_of_ble_eq_true rfl⟩) h.1 (by decide) rfl rfl rfl (Nat.le_of_ble_eq_true rfl) dL_act_334 ⟨Nat.le_trans (Nat.le_of_eq (Nat.add_zero _)) hcz.1, Nat.le_trans (Nat.le_of_eq (Nat.add_zero _)) hcz.2⟩) (fun r_33 M_z h => ?_)
        refine q_mem h.1 ?_
        have h := h.2
        refine q_iload_n C dL_act_337 rfl (j := 3) rfl ?_
        refine q_bipush (v := 12) C dL_act_338 (by decide) ?_
        refine q_iadd C dL_act_340 ?_
        refine q_icmp_ne (tgt := 348) C dL_act_341 (by decide) (fun z => ?_) (fun z => ?_)
        · have h := h.1 z
          refine q_iconst (v := 0) C dL_act_348 (by decide) ?_
          exact q_xret (q_zret C hr hlk dL_act_349 h.1 h.2.1 (Or.inl rfl) h.2.2)
        · have h := h.2 z
          refine q_iconst (v := 1) C dL_act_344 (by decide) ?_
          refine q_goto (tgt := 349) C dL_act_345 (by decide) ?_
          exact q_xret (q_zret C hr hlk dL_act_349 h.1 h.2.1 (Or.inr rfl) h.2.2)
set_option maxRecDepth 100000 in
set_option maxHeartbeats 4000000 in
theorem b_L_act_350 {p : Program} {l : Launch} {e : Env} {s : State} {m : MethodId} {args : Array Value} {below : List Frame} {meth : Method} {c : Code} {D : va_G} {cA : Nat → ClassId} {lo : Nat} (C : Cx p s m args c cL_act 13 RL wsL_act D cA lo) (hr : meth.sig.returnType = (some .boolean)) (hlk : meth.locks = false) (hl : l.stackTraces = false) (htab : c.exceptionTable.toList = tableOf hhL_act) {Q : Int32 → Mm → Prop} {Cc Zz : Nat} {X : String → Mm → Prop} (M : Mm) (a0 : Nat) (i2 : Int32) (i3 : Int32) (i4 : Int32) (i6 : Int32) (i7 : Int32) (cc zz : Nat) (h : S_L_act_350 (fun (a0 : Nat) (i1 : Int32) (i2 : Int32) (i3 : Int32) (i4 : Int32) (i5 : Int32) (i6 : Int32) (i7 : Int32) (M : Mm) (cc zz : Nat) => QW p l e ({ frames := 9, cells := Cc, slots := Zz, locals := 159 } : Room) s m args below meth c (vx_MQ below (QiM D cA lo Q) (XcM D cA lo X) args s Cc Zz (fun q => lo ≤ q)) 13 D cA lo cc zz M 114 [(0, .ref a0), (1, .int i1), (2, .int i2), (3, .int i3), (4, .int i4), (5, .int i5), (6, .int i6), (7, .int i7)] []) (fun (a0 : Nat) (i1 : Int32) (i2 : Int32) (i3 : Int32) (i4 : Int32) (i6 : Int32) (i7 : Int32) (as0 : Nat) (M : Mm) (cc zz : Nat) => QW p l e ({ frames := 9, cells := Cc, slots := Zz, locals := 159 } : Room) s m args below meth c (vx_MQ below (QiM D cA lo Q) (XcM D cA lo X) args s Cc Zz (fun q => lo ≤ q)) 13 D cA lo cc zz M 109 [(0, .ref a0), (1, .int i1), (2, .int i2), (3, .int i3), (4, .int i4), (6, .int i6), (7, .int i7)] [.ref as0]) (fun (a0 : Nat) (i1 : Int32) (i2 : Int32) (i3 : Int32) (i4 : Int32) (M : Mm) (cc zz : Nat) => QW p l e ({ frames := 9, cells := Cc, slots := Zz, locals := 159 } : Room) s m args below meth c (vx_MQ below (QiM D cA lo Q) (XcM D cA lo X) args s Cc Zz (fun q => lo ≤ q)) 13 D cA lo cc zz M 188 [(0, .ref a0), (1, .int i1), (2, .int i2), (3, .int i3), (4, .int i4)] []) (fun (a0 : Nat) (i1 : Int32) (i2 : Int32) (i3 : Int32) (i4 : Int32) (M : Mm) (cc zz : Nat) => QW p l e ({ frames := 9, cells := Cc, slots := Zz, locals := 159 } : Room) s m args below meth c (vx_MQ below (QiM D cA lo Q) (XcM D cA lo X) args s Cc Zz (fun q => lo ≤ q)) 13 D cA lo cc zz M 272 [(0, .ref a0), (1, .int i1), (2, .int i2), (3, .int i3), (4, .int i4)] []) (fun (a0 : Nat) (i2 : Int32) (i3 : Int32) (i4 : Int32) (i6 : Int32) (i7 : Int32) (M : Mm) (cc zz : Nat) => QW p l e ({ frames := 9, cells := Cc, slots := Zz, locals := 159 } : Room) s m args below meth c (vx_MQ below (QiM D cA lo Q) (XcM D cA lo X) args s Cc Zz (fun q => lo ≤ q)) 13 D cA lo cc zz M 350 [(0, .ref a0), (2, .int i2), (3, .int i3), (4, .int i4), (6, .int i6), (7, .int i7)] []) (fun (a0 : Nat) (i1 : Int32) (i2 : Int32) (i3 : Int32) (i4 : Int32) (i5 : Int32) (i6 : Int32) (M : Mm) (cc zz : Nat) => QW p l e ({ frames := 9, cells := Cc, slots := Zz, locals := 159 } : Room) s m args below meth c (vx_MQ below (QiM D cA lo Q) (XcM D cA lo X) args s Cc Zz (fun q => lo ≤ q)) 13 D cA lo cc zz M 409 [(0, .ref a0), (1, .int i1), (2, .int i2), (3, .int i3), (4, .int i4), (5, .int i5), (6, .int i6)] []) (fun (a0 : Nat) (i2 : Int32) (i3 : Int32) (i4 : Int32) (i6 : Int32) (i7 : Int32) (M : Mm) (cc zz : Nat) => QW p l e ({ frames := 9, cells := Cc, slots := Zz, locals := 159 } : Room) s m args below meth c (vx_MQ below (QiM D cA lo Q) (XcM D cA lo X) args s Cc Zz (fun q => lo ≤ q)) 13 D cA lo cc zz M 475 [(0, .ref a0), (2, .int i2), (3, .int i3), (4, .int i4), (6, .int i6), (7, .int i7)] []) (fun (a0 : Nat) (i2 : Int32) (i3 : Int32) (i4 : Int32) (i6 : Int32) (i7 : Int32) (M : Mm) (cc zz : Nat) => QW p l e ({ frames := 9, cells := Cc, slots := Zz, locals := 159 } : Room) s m args below meth c (vx_MQ below (QiM D cA lo Q) (XcM D cA lo X) args s Cc Zz (fun q => lo ≤ q)) 13 D cA lo cc zz M 518 [(0, .ref a0), (2, .int i2), (3, .int i3), (4, .int i4), (6, .int i6), (7, .int i7)] []) (fun (a0 : Nat) (i2 : Int32) (i3 : Int32) (i4 : Int32) (i6 : Int32) (i7 : Int32) (M : Mm) (cc zz : Nat) => QW p l e ({ frames := 9, cells := Cc, slots := Zz, locals := 159 } : Room) s m args below meth c (vx_MQ below (QiM D cA lo Q) (XcM D cA lo X) args s Cc Zz (fun q => lo ≤ q)) 13 D cA lo cc zz M 552 [(0, .ref a0), (2, .int i2), (3, .int i3), (4, .int i4), (6, .int i6), (7, .int i7)] []) (fun (a0 : Nat) (i1 : Int32) (i2 : Int32) (i3 : Int32) (i4 : Int32) (i5 : Int32) (M : Mm) (cc zz : Nat) => QW p l e ({ frames := 9, cells := Cc, slots := Zz, locals := 159 } : Room) s m args below meth c (vx_MQ below (QiM D cA lo Q) (XcM D cA lo X) args s Cc Zz (fun q => lo ≤ q)) 13 D cA lo cc zz M 586 [(0, .ref a0), (1, .int i1), (2, .int i2), (3, .int i3), (4, .int i4), (5, .int i5)] []) (fun (a0 : Nat) (i2 : Int32) (i3 : Int32) (i4 : Int32) (i6 : Int32) (i7 : Int32) (M : Mm) (cc zz : Nat) => QW p l e ({ frames := 9, cells := Cc, slots := Zz, locals := 159 } : Room) s m args below meth c (vx_MQ below (QiM D cA lo Q) (XcM D cA lo X) args s Cc Zz (fun q => lo ≤ q)) 13 D cA lo cc zz M 660 [(0, .ref a0), (2, .int i2), (3, .int i3), (4, .int i4), (6, .int i6), (7, .int i7)] []) (fun (a0 : Nat) (i1 : Int32) (i2 : Int32) (i3 : Int32) (i4 : Int32) (M : Mm) (cc zz : Nat) => QW p l e ({ frames := 9, cells := Cc, slots := Zz, locals := 159 } : Room) s m args below meth c (vx_MQ below (QiM D cA lo Q) (XcM D cA lo X) args s Cc Zz (fun q => lo ≤ q)) 13 D cA lo cc zz M 710 [(0, .ref a0), (1, .int i1), (2, .int i2), (3, .int i3), (4, .int i4)] []) (fun (a0 : Nat) (i2 : Int32) (i3 : Int32) (i4 : Int32) (i5 : Int32) (M : Mm) (cc zz : Nat) => QW p l e ({ frames := 9, cells := Cc, slots := Zz, locals := 159 } : Room) s m args below meth c (vx_MQ below (QiM D cA lo Q) (XcM D cA lo X) args s Cc Zz (fun q => lo ≤ q)) 13 D cA lo cc zz M 766 [(0, .ref a0), (2, .int i2), (3, .int i3), (4, .int i4), (5, .int i5)] []) (fun (a0 : Nat) (i1 : Int32) (i2 : Int32) (i3 : Int32) (i4 : Int32) (M : Mm) (cc zz : Nat) => QW p l e ({ frames := 9, cells := Cc, slots := Zz, locals := 159 } : Room) s m args below meth c (vx_MQ below (QiM D cA lo Q) (XcM D cA lo X) args s Cc Zz (fun q => lo ≤ q)) 13 D cA lo cc zz M 802 [(0, .ref a0), (1, .int i1), (2, .int i2), (3, .int i3), (4, .int i4)] []) (fun (a0 : Nat) (i2 : Int32) (i3 : Int32) (i4 : Int32) (i8 : Int32) (as0 : Nat) (is1 : Int32) (is2 : Int32) (is3 : Int32) (is4 : Int32) (M : Mm) (cc zz : Nat) => QW p l e ({ frames := 9, cells := Cc, slots := Zz, locals := 159 } : Room) s m args below meth c (vx_MQ below (QiM D cA lo Q) (XcM D cA lo X) args s Cc Zz (fun q => lo ≤ q)) 13 D cA lo cc zz M 238 [(0, .ref a0), (2, .int i2), (3, .int i3), (4, .int i4), (8, .int i8)] [.int is4, .int is3, .int is2, .int is1, .ref as0]) (fun (a0 : Nat) (i2 : Int32) (i3 : Int32) (i4 : Int32) (as0 : Nat) (M : Mm) (cc zz : Nat) => QW p l e ({ frames := 9, cells := Cc, slots := Zz, locals := 159 } : Room) s m args below meth c (vx_MQ below (QiM D cA lo Q) (XcM D cA lo X) args s Cc Zz (fun q => lo ≤ q)) 13 D cA lo cc zz M 834 [(0, .ref a0), (2, .int i2), (3, .int i3), (4, .int i4)] [.ref as0]) (fun (a0 : Nat) (i2 : Int32) (i3 : Int32) (i4 : Int32) (as0 : Nat) (M : Mm) (cc zz : Nat) => QW p l e ({ frames := 9, cells := Cc, slots := Zz, locals := 159 } : Room) s m args below meth c (vx_MQ below (QiM D cA lo Q) (XcM D cA lo X) args s Cc Zz (fun q => lo ≤ q)) 13 D cA lo cc zz M 867 [(0, .ref a0), (2, .int i2), (3, .int i3), (4, .int i4)] [.ref as0]) (fun (a0 : Nat) (i2 : Int32) (i3 : Int32) (i4 : Int32) (as0 : Nat) (M : Mm) (cc zz : Nat) => QW p l e ({ frames := 9, cells := Cc, slots := Zz, locals := 159 } : Room) s m args below meth c (vx_MQ below (QiM D cA lo Q) (XcM D cA lo X) args s Cc Zz (fun q => lo ≤ q)) 13 D cA lo cc zz M 900 [(0, .ref a0), (2, .int i2), (3, .int i3), (4, .int i4)] [.ref as0]) Cc Zz Q X M a0 i2 i3 i4 i6 i7 cc zz) : QW p l e ({ frames := 9, cells := Cc, slots := Zz, locals := 159 } : Room) s m args below meth c (vx_MQ below (QiM D cA lo Q) (XcM D cA lo X) args s Cc Zz (fun q => lo ≤ q)) 13 D cA lo cc zz M 350 [(0, .ref a0), (2, .int i2), (3, .int i3), (4, .int i4), (6, .int i6), (7, .int i7)] [] := by
  unfold S_L_act_350 at h
  refine q_aload_n C dL_act_350 rfl (j := 0) rfl ?_
  refine q_aload_n C dL_act_351 rfl (j := 0) rfl ?_
  refine q_iload C dL_act_352 (j := 4) rfl ?_
  refine q_iload C dL_act_354 (j := 5) rfl ?_
  obtain ⟨dc_36, ds_36, hcz, h⟩ := h
  refine q_xi (qx_runV (As := [.int i6, .int i7]) (st := [.ref a0]) C (c_X8_split l hl D cA lo h.2) (cwV 2 C.2.2.2.2.1 gL_act_X8_split rfl rfl rfl (by decide +kernel) ⟨Nat.le_of_ble_eq_true rfl, Nat.le_of_ble_eq_true rfl⟩) h.1 (by decide) rfl rfl rfl (Nat.le_of_ble_eq_true rfl) dL_act_356 hcz) (fun E M_x h => ?_) (fun r_34 M_35 h => ?_)
  · rcases h with ⟨rfl, h⟩ | ⟨rfl, h⟩ | ⟨rfl, h⟩
    · have h := h
      refine q_catch (name := "") C htab (List.take 3 hhL_act) (350, 408, 834, 58) (List.drop 4 hhL_act) (by decide) (by decide) (by decide +kernel) (by decide) (by decide) (by decide +kernel) (fun qx => ?_)
      have h := h qx
      exact q_sub [0, 1, 2, 3] rfl h
    · have h := h
      refine q_catch (name := "") C htab (List.take 17 hhL_act) (350, 408, 867, 120) (List.drop 18 hhL_act) (by decide) (by decide) (by decide +kernel) (by decide) (by decide) (by decide +kernel) (fun qx => ?_)
      have h := h qx
      exact q_sub [0, 1, 2, 3] rfl h
    · have h := h
      refine q_catch (name := "") C htab (List.take 31 hhL_act) (350, 408, 900, 122) (List.drop 32 hhL_act) (by decide) (by decide) (by decide +kernel) (by decide) (by decide) (by decide +kernel) (fun qx => ?_)
      have h := h qx
      exact q_sub [0, 1, 2, 3] rfl h
  · refine q_iconst (v := 0) C dL_act_359 (by decide) ?_
    obtain ⟨dc_39, ds_39, hcz, h⟩ := h
    refine q_xi (qx_runV (As := [.int r_34, .int 0]) (st := []) C (c_X8_at l hl D cA lo h.2) (cwV 2 C.2.2.2.2.1 gL_act_X8_at rfl rfl rfl (by decide +kernel) ⟨Nat.le_of_ble_eq_true rfl, Nat.le_of_ble_eq_true rfl⟩) h.1 (by decide) rfl rfl rfl (Nat.le_of_ble_eq_true rfl) dL_act_360 hcz) (fun E M_x h => ?_) (fun r_37 M_38 h => ?_)
    · rcases h with ⟨rfl, h⟩ | ⟨rfl, h⟩ | ⟨rfl, h⟩
      · have h := h
        refine q_catch (name := "") C htab (List.take 3 hhL_act) (350, 408, 834, 58) (List.drop 4 hhL_act) (by decide) (by decide) (by decide +kernel) (by decide) (by decide) (by decide +kernel) (fun qx => ?_)
        have h := h qx
        exact q_sub [0, 1, 2, 3] rfl h
      · have h := h
        refine q_catch (name := "") C htab (List.take 17 hhL_act) (350, 408, 867, 120) (List.drop 18 hhL_act) (by decide) (by decide) (by decide +kernel) (by decide) (by decide) (by decide +kernel) (fun qx => ?_)
        have h := h qx
        exact q_sub [0, 1, 2, 3] rfl h
      · have h := h
        refine q_catch (name := "") C htab (List.take 31 hhL_act) (350, 408, 900, 122) (List.drop 32 hhL_act) (by decide) (by decide) (by decide +kernel) (by decide) (by decide) (by decide +kernel) (fun qx => ?_)
        have h := h qx
        exact q_sub [0, 1, 2, 3] rfl h
    · refine q_aload_n C dL_act_363 rfl (j := 0) rfl ?_
      refine q_iload C dL_act_364 (j := 4) rfl ?_
      refine q_iconst (v := 0) C dL_act_366 (by decide) ?_
      obtain ⟨dc_42, ds_42, hcz, h⟩ := h
      refine q_xi (qx_runV (As := [.int i6, .int 0]) (st := [.int r_37]) C (c_X8_at l hl D cA lo h.2) (cwV 2 C.2.2.2.2.1 gL_act_X8_at rfl rfl rfl (by decide +kernel) ⟨Nat.le_of_ble_eq_true rfl, Nat.le_of_ble_eq_true rfl⟩) h.1 (by decide) rfl rfl rfl (Nat.le_of_ble_eq_true rfl) dL_act_367 hcz) (fun E M_x h => ?_) (fun r_40 M_41 h => ?_)
      · rcases h with ⟨rfl, h⟩ | ⟨rfl, h⟩ | ⟨rfl, h⟩
        · have h := h
          refine q_catch (name := "") C htab (List.take 3 hhL_act) (350, 408, 834, 58) (List.drop 4 hhL_act) (by decide) (by decide) (by decide +kernel) (by decide) (by decide) (by decide +kernel) (fun qx => ?_)
          have h := h qx
          exact q_sub [0, 1, 2, 3] rfl h
        · have h := h
          refine q_catch (name := "") C htab (List.take 17 hhL_act) (350, 408, 867, 120) (List.drop 18 hhL_act) (by decide) (by decide) (by decide +kernel) (by decide) (by decide) (by decide +kernel) (fun qx => ?_)
          have h := h qx
          exact q_sub [0, 1, 2, 3] rfl h
        · have h := h
          refine q_catch (name := "") C htab (List.take 31 hhL_act) (350, 408, 900, 122) (List.drop 32 hhL_act) (by decide) (by decide) (by decide +kernel) (by decide) (by decide) (by decide +kernel) (fun qx => ?_)
          have h := h qx
          exact q_sub [0, 1, 2, 3] rfl h
      · refine q_aload_n C dL_act_370 rfl (j := 0) rfl ?_
        refine q_iload C dL_act_371 (j := 5) rfl ?_
        refine q_iconst (v := 0) C dL_act_373 (by decide) ?_
        obtain ⟨dc_45, ds_45, hcz, h⟩ := h
        refine q_xi (qx_runV (As := [.int i7, .int 0]) (st := [.int r_40, .int r_37]) C (c_X8_at l hl D cA lo h.2) (cwV 2 C.2.2.2.2.1 gL_act_X8_at rfl rfl rfl (by decide +kernel) ⟨Nat.le_of_ble_eq_true rfl, Nat.le_of_ble_eq_true rfl⟩) h.1 (by decide) rfl rfl rfl (Nat.le_of_ble_eq_true rfl) dL_act_374 hcz) (fun E M_x h => ?_) (fun r_43 M_44 h => ?_)
        · rcases h with ⟨rfl, h⟩ | ⟨rfl, h⟩ | ⟨rfl, h⟩
          · have h := h
            refine q_catch (name := "") C htab (List.take 3 hhL_act) (350, 408, 834, 58) (List.drop 4 hhL_act) (by decide) (by decide) (by decide +kernel) (by decide) (by decide) (by decide +kernel) (fun qx => ?_)
            have h := h qx
            exact q_sub [0, 1, 2, 3] rfl h
          · have h := h
            refine q_catch (name := "") C htab (List.take 17 hhL_act) (350, 408, 867, 120) (List.drop 18 hhL_act) (by decide) (by decide) (by decide +kernel) (by decide) (by decide) (by decide +kernel) (fun qx => ?_)
            have h := h qx
            exact q_sub [0, 1, 2, 3] rfl h
          · have h := h
            refine q_catch (name := "") C htab (List.take 31 hhL_act) (350, 408, 900, 122) (List.drop 32 hhL_act) (by decide) (by decide) (by decide +kernel) (by decide) (by decide) (by decide +kernel) (fun qx => ?_)
            have h := h qx
            exact q_sub [0, 1, 2, 3] rfl h
        · have hcz := h.1
          have h := h.2
          refine q_mmin C (by decide +kernel) (by decide +kernel) (by decide +kernel) (by decide +kernel) ⟨Nat.le_of_ble_eq_true rfl, Nat.le_of_ble_eq_true rfl⟩ hcz dL_act_377 ?_
          refine q_icmp_lt (tgt := 407) C dL_act_380 (by decide) (fun z => ?_) (fun z => ?_)
          · have h := h.1 z
            refine q_iconst (v := 0) C dL_act_407 (by decide) ?_
            exact q_xret (q_zret C hr hlk dL_act_408 h.1 h.2.1 (Or.inl rfl) h.2.2)
          · have h := h.2 z
            refine q_aload_n C dL_act_383 rfl (j := 0) rfl ?_
            have hcz := h.1
            have h := h.2
            refine q_ci (q_runV (As := []) (st := []) C (c_X8_points l D cA lo h.2) (cwV 0 C.2.2.2.2.1 gL_act_X8_points rfl rfl rfl (by decide +kernel) ⟨Nat.le_of_ble_eq_true rfl, Nat.le_of_ble_eq_true rfl⟩) h.1 (by decide) rfl rfl rfl (Nat.le_of_ble_eq_true rfl) dL_act_384 ⟨Nat.le_trans (Nat.le_of_eq (Nat.add_zero _)) hcz.1, Nat.le_trans (Nat.le_of_eq (Nat.add_zero _)) hcz.2⟩) (fun r_46 M_z h => ?_)
            refine q_mem h.1 ?_
            have h := h.2
            refine q_iload_n C dL_act_387 rfl (j := 1) rfl ?_
            refine q_iconst (v := 1) C dL_act_388 (by decide) ?_
            refine q_iadd C dL_act_389 ?_
            refine q_icmp_ne (tgt := 407) C dL_act_390 (by decide) (fun z => ?_) (fun z => ?_)
            · have h := h.1 z
              refine q_iconst (v := 0) C dL_act_407 (by decide) ?_
              exact q_xret (q_zret C hr hlk dL_act_408 h.1 h.2.1 (Or.inl rfl) h.2.2)
            · have h := h.2 z
              refine q_aload_n C dL_act_393 rfl (j := 0) rfl ?_
              have hcz := h.1
              have h := h.2
              refine q_ci (q_runV (As := []) (st := []) C (c_X8_edges l D cA lo h.2) (cwV 0 C.2.2.2.2.1 gL_act_X8_edges rfl rfl rfl (by decide +kernel) ⟨Nat.le_of_ble_eq_true rfl, Nat.le_of_ble_eq_true rfl⟩) h.1 (by decide) rfl rfl rfl (Nat.le_of_ble_eq_true rfl) dL_act_394 ⟨Nat.le_trans (Nat.le_of_eq (Nat.add_zero _)) hcz.1, Nat.le_trans (Nat.le_of_eq (Nat.add_zero _)) hcz.2⟩) (fun r_47 M_z h => ?_)
              refine q_mem h.1 ?_
              have h := h.2
              refine q_iload_n C dL_act_397 rfl (j := 2) rfl ?_
              refine q_iconst (v := 1) C dL_act_398 (by decide) ?_
              refine q_iadd C dL_act_399 ?_
              refine q_icmp_ne (tgt := 407) C dL_act_400 (by decide) (fun z => ?_) (fun z => ?_)
              · have h := h.1 z
                refine q_iconst (v := 0) C dL_act_407 (by decide) ?_
                exact q_xret (q_zret C hr hlk dL_act_408 h.1 h.2.1 (Or.inl rfl) h.2.2)
              · have h := h.2 z
                refine q_iconst (v := 1) C dL_act_403 (by decide) ?_
                refine q_goto (tgt := 408) C dL_act_404 (by decide) ?_
                exact q_xret (q_zret C hr hlk dL_act_408 h.1 h.2.1 (Or.inr rfl) h.2.2)
set_option maxRecDepth 100000 in
set_option maxHeartbeats 4000000 in
theorem b_L_act_409 {p : Program} {l : Launch} {e : Env} {s : State} {m : MethodId} {args : Array Value} {below : List Frame} {meth : Method} {c : Code} {D : va_G} {cA : Nat → ClassId} {lo : Nat} (C : Cx p s m args c cL_act 13 RL wsL_act D cA lo) (hr : meth.sig.returnType = (some .boolean)) (hlk : meth.locks = false) (hl : l.stackTraces = false) (htab : c.exceptionTable.toList = tableOf hhL_act) {Q : Int32 → Mm → Prop} {Cc Zz : Nat} {X : String → Mm → Prop} (M : Mm) (a0 : Nat) (i1 : Int32) (i2 : Int32) (i3 : Int32) (i4 : Int32) (i5 : Int32) (i6 : Int32) (cc zz : Nat) (h : S_L_act_409 (fun (a0 : Nat) (i1 : Int32) (i2 : Int32) (i3 : Int32) (i4 : Int32) (i5 : Int32) (i6 : Int32) (i7 : Int32) (M : Mm) (cc zz : Nat) => QW p l e ({ frames := 9, cells := Cc, slots := Zz, locals := 159 } : Room) s m args below meth c (vx_MQ below (QiM D cA lo Q) (XcM D cA lo X) args s Cc Zz (fun q => lo ≤ q)) 13 D cA lo cc zz M 114 [(0, .ref a0), (1, .int i1), (2, .int i2), (3, .int i3), (4, .int i4), (5, .int i5), (6, .int i6), (7, .int i7)] []) (fun (a0 : Nat) (i1 : Int32) (i2 : Int32) (i3 : Int32) (i4 : Int32) (i6 : Int32) (i7 : Int32) (as0 : Nat) (M : Mm) (cc zz : Nat) => QW p l e ({ frames := 9, cells := Cc, slots := Zz, locals := 159 } : Room) s m args below meth c (vx_MQ below (QiM D cA lo Q) (XcM D cA lo X) args s Cc Zz (fun q => lo ≤ q)) 13 D cA lo cc zz M 109 [(0, .ref a0), (1, .int i1), (2, .int i2), (3, .int i3), (4, .int i4), (6, .int i6), (7, .int i7)] [.ref as0]) (fun (a0 : Nat) (i1 : Int32) (i2 : Int32) (i3 : Int32) (i4 : Int32) (M : Mm) (cc zz : Nat) => QW p l e ({ frames := 9, cells := Cc, slots := Zz, locals := 159 } : Room) s m args below meth c (vx_MQ below (QiM D cA lo Q) (XcM D cA lo X) args s Cc Zz (fun q => lo ≤ q)) 13 D cA lo cc zz M 188 [(0, .ref a0), (1, .int i1), (2, .int i2), (3, .int i3), (4, .int i4)] []) (fun (a0 : Nat) (i1 : Int32) (i2 : Int32) (i3 : Int32) (i4 : Int32) (M : Mm) (cc zz : Nat) => QW p l e ({ frames := 9, cells := Cc, slots := Zz, locals := 159 } : Room) s m args below meth c (vx_MQ below (QiM D cA lo Q) (XcM D cA lo X) args s Cc Zz (fun q => lo ≤ q)) 13 D cA lo cc zz M 272 [(0, .ref a0), (1, .int i1), (2, .int i2), (3, .int i3), (4, .int i4)] []) (fun (a0 : Nat) (i2 : Int32) (i3 : Int32) (i4 : Int32) (i6 : Int32) (i7 : Int32) (M : Mm) (cc zz : Nat) => QW p l e ({ frames := 9, cells := Cc, slots := Zz, locals := 159 } : Room) s m args below meth c (vx_MQ below (QiM D cA lo Q) (XcM D cA lo X) args s Cc Zz (fun q => lo ≤ q)) 13 D cA lo cc zz M 350 [(0, .ref a0), (2, .int i2), (3, .int i3), (4, .int i4), (6, .int i6), (7, .int i7)] []) (fun (a0 : Nat) (i1 : Int32) (i2 : Int32) (i3 : Int32) (i4 : Int32) (i5 : Int32) (i6 : Int32) (M : Mm) (cc zz : Nat) => QW p l e ({ frames := 9, cells := Cc, slots := Zz, locals := 159 } : Room) s m args below meth c (vx_MQ below (QiM D cA lo Q) (XcM D cA lo X) args s Cc Zz (fun q => lo ≤ q)) 13 D cA lo cc zz M 409 [(0, .ref a0), (1, .int i1), (2, .int i2), (3, .int i3), (4, .int i4), (5, .int i5), (6, .int i6)] []) (fun (a0 : Nat) (i2 : Int32) (i3 : Int32) (i4 : Int32) (i6 : Int32) (i7 : Int32) (M : Mm) (cc zz : Nat) => QW p l e ({ frames := 9, cells := Cc, slots := Zz, locals := 159 } : Room) s m args below meth c (vx_MQ below (QiM D cA lo Q) (XcM D cA lo X) args s Cc Zz (fun q => lo ≤ q)) 13 D cA lo cc zz M 475 [(0, .ref a0), (2, .int i2), (3, .int i3), (4, .int i4), (6, .int i6), (7, .int i7)] []) (fun (a0 : Nat) (i2 : Int32) (i3 : Int32) (i4 : Int32) (i6 : Int32) (i7 : Int32) (M : Mm) (cc zz : Nat) => QW p l e ({ frames := 9, cells := Cc, slots := Zz, locals := 159 } : Room) s m args below meth c (vx_MQ below (QiM D cA lo Q) (XcM D cA lo X) args s Cc Zz (fun q => lo ≤ q)) 13 D cA lo cc zz M 518 [(0, .ref a0), (2, .int i2), (3, .int i3), (4, .int i4), (6, .int i6), (7, .int i7)] []) (fun (a0 : Nat) (i2 : Int32) (i3 : Int32) (i4 : Int32) (i6 : Int32) (i7 : Int32) (M : Mm) (cc zz : Nat) => QW p l e ({ frames := 9, cells := Cc, slots := Zz, locals := 159 } : Room) s m args below meth c (vx_MQ below (QiM D cA lo Q) (XcM D cA lo X) args s Cc Zz (fun q => lo ≤ q)) 13 D cA lo cc zz M 552 [(0, .ref a0), (2, .int i2), (3, .int i3), (4, .int i4), (6, .int i6), (7, .int i7)] []) (fun (a0 : Nat) (i1 : Int32) (i2 : Int32) (i3 : Int32) (i4 : Int32) (i5 : Int32) (M : Mm) (cc zz : Nat) => QW p l e ({ frames := 9, cells := Cc, slots := Zz, locals := 159 } : Room) s m args below meth c (vx_MQ below (QiM D cA lo Q) (XcM D cA lo X) args s Cc Zz (fun q => lo ≤ q)) 13 D cA lo cc zz M 586 [(0, .ref a0), (1, .int i1), (2, .int i2), (3, .int i3), (4, .int i4), (5, .int i5)] []) (fun (a0 : Nat) (i2 : Int32) (i3 : Int32) (i4 : Int32) (i6 : Int32) (i7 : Int32) (M : Mm) (cc zz : Nat) => QW p l e ({ frames := 9, cells := Cc, slots := Zz, locals := 159 } : Room) s m args below meth c (vx_MQ below (QiM D cA lo Q) (XcM D cA lo X) args s Cc Zz (fun q => lo ≤ q)) 13 D cA lo cc zz M 660 [(0, .ref a0), (2, .int i2), (3, .int i3), (4, .int i4), (6, .int i6), (7, .int i7)] []) (fun (a0 : Nat) (i1 : Int32) (i2 : Int32) (i3 : Int32) (i4 : Int32) (M : Mm) (cc zz : Nat) => QW p l e ({ frames := 9, cells := Cc, slots := Zz, locals := 159 } : Room) s m args below meth c (vx_MQ below (QiM D cA lo Q) (XcM D cA lo X) args s Cc Zz (fun q => lo ≤ q)) 13 D cA lo cc zz M 710 [(0, .ref a0), (1, .int i1), (2, .int i2), (3, .int i3), (4, .int i4)] []) (fun (a0 : Nat) (i2 : Int32) (i3 : Int32) (i4 : Int32) (i5 : Int32) (M : Mm) (cc zz : Nat) => QW p l e ({ frames := 9, cells := Cc, slots := Zz, locals := 159 } : Room) s m args below meth c (vx_MQ below (QiM D cA lo Q) (XcM D cA lo X) args s Cc Zz (fun q => lo ≤ q)) 13 D cA lo cc zz M 766 [(0, .ref a0), (2, .int i2), (3, .int i3), (4, .int i4), (5, .int i5)] []) (fun (a0 : Nat) (i1 : Int32) (i2 : Int32) (i3 : Int32) (i4 : Int32) (M : Mm) (cc zz : Nat) => QW p l e ({ frames := 9, cells := Cc, slots := Zz, locals := 159 } : Room) s m args below meth c (vx_MQ below (QiM D cA lo Q) (XcM D cA lo X) args s Cc Zz (fun q => lo ≤ q)) 13 D cA lo cc zz M 802 [(0, .ref a0), (1, .int i1), (2, .int i2), (3, .int i3), (4, .int i4)] []) (fun (a0 : Nat) (i2 : Int32) (i3 : Int32) (i4 : Int32) (i8 : Int32) (as0 : Nat) (is1 : Int32) (is2 : Int32) (is3 : Int32) (is4 : Int32) (M : Mm) (cc zz : Nat) => QW p l e ({ frames := 9, cells := Cc, slots := Zz, locals := 159 } : Room) s m args below meth c (vx_MQ below (QiM D cA lo Q) (XcM D cA lo X) args s Cc Zz (fun q => lo ≤ q)) 13 D cA lo cc zz M 238 [(0, .ref a0), (2, .int i2), (3, .int i3), (4, .int i4), (8, .int i8)] [.int is4, .int is3, .int is2, .int is1, .ref as0]) (fun (a0 : Nat) (i2 : Int32) (i3 : Int32) (i4 : Int32) (as0 : Nat) (M : Mm) (cc zz : Nat) => QW p l e ({ frames := 9, cells := Cc, slots := Zz, locals := 159 } : Room) s m args below meth c (vx_MQ below (QiM D cA lo Q) (XcM D cA lo X) args s Cc Zz (fun q => lo ≤ q)) 13 D cA lo cc zz M 834 [(0, .ref a0), (2, .int i2), (3, .int i3), (4, .int i4)] [.ref as0]) (fun (a0 : Nat) (i2 : Int32) (i3 : Int32) (i4 : Int32) (as0 : Nat) (M : Mm) (cc zz : Nat) => QW p l e ({ frames := 9, cells := Cc, slots := Zz, locals := 159 } : Room) s m args below meth c (vx_MQ below (QiM D cA lo Q) (XcM D cA lo X) args s Cc Zz (fun q => lo ≤ q)) 13 D cA lo cc zz M 867 [(0, .ref a0), (2, .int i2), (3, .int i3), (4, .int i4)] [.ref as0]) (fun (a0 : Nat) (i2 : Int32) (i3 : Int32) (i4 : Int32) (as0 : Nat) (M : Mm) (cc zz : Nat) => QW p l e ({ frames := 9, cells := Cc, slots := Zz, locals := 159 } : Room) s m args below meth c (vx_MQ below (QiM D cA lo Q) (XcM D cA lo X) args s Cc Zz (fun q => lo ≤ q)) 13 D cA lo cc zz M 900 [(0, .ref a0), (2, .int i2), (3, .int i3), (4, .int i4)] [.ref as0]) Cc Zz Q X M a0 i1 i2 i3 i4 i5 i6 cc zz) : QW p l e ({ frames := 9, cells := Cc, slots := Zz, locals := 159 } : Room) s m args below meth c (vx_MQ below (QiM D cA lo Q) (XcM D cA lo X) args s Cc Zz (fun q => lo ≤ q)) 13 D cA lo cc zz M 409 [(0, .ref a0), (1, .int i1), (2, .int i2), (3, .int i3), (4, .int i4), (5, .int i5), (6, .int i6)] [] := by
  unfold S_L_act_409 at h
  refine q_aload_n C dL_act_409 rfl (j := 0) rfl ?_
  refine q_iload C dL_act_410 (j := 5) rfl ?_
  refine q_iload C dL_act_412 (j := 6) rfl ?_
  refine q_aload_n C dL_act_414 rfl (j := 0) rfl ?_
  refine q_iload C dL_act_415 (j := 5) rfl ?_
  refine q_iload_n C dL_act_417 rfl (j := 1) rfl ?_
  refine q_bipush (v := 8) C dL_act_418 (by decide) ?_
  refine q_ishr C dL_act_420 ?_
  refine q_aload_n C dL_act_421 rfl (j := 0) rfl ?_
  refine q_iload C dL_act_422 (j := 5) rfl ?_
  obtain ⟨dc_50, ds_50, hcz, h⟩ := h
  refine q_xi (qx_runV (As := [.int i5]) (st := [.int (i1 >>> (8 &&& 31)), .int i5, .ref a0, .int i6, .int i5, .ref a0]) C (c_X8_size l hl D cA lo h.2) (cwV 1 C.2.2.2.2.1 gL_act_X8_size rfl rfl rfl (by decide +kernel) ⟨Nat.le_of_ble_eq_true rfl, Nat.le_of_ble_eq_true rfl⟩) h.1 (by decide) rfl rfl rfl (Nat.le_of_ble_eq_true rfl) dL_act_424 hcz) (fun E M_x h => ?_) (fun r_48 M_49 h => ?_)
  · rcases h with ⟨rfl, h⟩ | ⟨rfl, h⟩ | ⟨rfl, h⟩
    · have h := h
      refine q_catch (name := "") C htab (List.take 4 hhL_act) (409, 474, 834, 58) (List.drop 5 hhL_act) (by decide) (by decide) (by decide +kernel) (by decide) (by decide) (by decide +kernel) (fun qx => ?_)
      have h := h qx
      exact q_sub [0, 2, 3, 4] rfl h
    · have h := h
      refine q_catch (name := "") C htab (List.take 18 hhL_act) (409, 474, 867, 120) (List.drop 19 hhL_act) (by decide) (by decide) (by decide +kernel) (by decide) (by decide) (by decide +kernel) (fun qx => ?_)
      have h := h qx
      exact q_sub [0, 2, 3, 4] rfl h
    · have h := h
      refine q_catch (name := "") C htab (List.take 32 hhL_act) (409, 474, 900, 122) (List.drop 33 hhL_act) (by decide) (by decide) (by decide +kernel) (by decide) (by decide) (by decide +kernel) (fun qx => ?_)
      have h := h qx
      exact q_sub [0, 2, 3, 4] rfl h
  · have hcz := h.1
    have h := h.2
    refine q_ci (q_runS (As := [.int (i1 >>> (8 &&& 31)), .int r_48]) (st := [.int i5, .ref a0, .int i6, .int i5, .ref a0]) C (c_L_below l D cA lo h) (va_cwS 2 C.2.2.2.2.1 gL_act_L_below rfl rfl rfl (by decide +kernel) ⟨Nat.le_of_ble_eq_true rfl, Nat.le_of_ble_eq_true rfl⟩) rfl rfl (Nat.le_of_ble_eq_true rfl) dL_act_427 ⟨Nat.le_trans (Nat.le_of_eq (Nat.add_zero _)) hcz.1, Nat.le_trans (Nat.le_of_eq (Nat.add_zero _)) hcz.2⟩) (fun r_51 M_z h => ?_)
    refine q_mem h.1 ?_
    have h := h.2
    obtain ⟨dc_54, ds_54, hcz, h⟩ := h
    refine q_xi (qx_runV (As := [.int i5, .int r_51]) (st := [.int i6, .int i5, .ref a0]) C (c_X8_corner l hl D cA lo h.2) (cwV 2 C.2.2.2.2.1 gL_act_X8_corner rfl rfl rfl (by decide +kernel) ⟨Nat.le_of_ble_eq_true rfl, Nat.le_of_ble_eq_true rfl⟩) h.1 (by decide) rfl rfl rfl (Nat.le_of_ble_eq_true rfl) dL_act_430 hcz) (fun E M_x h => ?_) (fun r_52 M_53 h => ?_)
    · rcases h with ⟨rfl, h⟩ | ⟨rfl, h⟩ | ⟨rfl, h⟩
      · have h := h
        refine q_catch (name := "") C htab (List.take 4 hhL_act) (409, 474, 834, 58) (List.drop 5 hhL_act) (by decide) (by decide) (by decide +kernel) (by decide) (by decide) (by decide +kernel) (fun qx => ?_)
        have h := h qx
        exact q_sub [0, 2, 3, 4] rfl h
      · have h := h
        refine q_catch (name := "") C htab (List.take 18 hhL_act) (409, 474, 867, 120) (List.drop 19 hhL_act) (by decide) (by decide) (by decide +kernel) (by decide) (by decide) (by decide +kernel) (fun qx => ?_)
        have h := h qx
        exact q_sub [0, 2, 3, 4] rfl h
      · have h := h
        refine q_catch (name := "") C htab (List.take 32 hhL_act) (409, 474, 900, 122) (List.drop 33 hhL_act) (by decide) (by decide) (by decide +kernel) (by decide) (by decide) (by decide +kernel) (fun qx => ?_)
        have h := h qx
        exact q_sub [0, 2, 3, 4] rfl h
    · obtain ⟨dc_57, ds_57, hcz, h⟩ := h
      refine q_xi (qx_runV (As := [.int i5, .int i6, .int r_52]) (st := []) C (c_X8_cut l hl D cA lo h.2) (cwV 3 C.2.2.2.2.1 gL_act_X8_cut rfl rfl rfl (by decide +kernel) ⟨Nat.le_of_ble_eq_true rfl, Nat.le_of_ble_eq_true rfl⟩) h.1 (by decide) rfl rfl rfl (Nat.le_of_ble_eq_true rfl) dL_act_433 hcz) (fun E M_x h => ?_) (fun r_55 M_56 h => ?_)
      · rcases h with ⟨rfl, h⟩ | ⟨rfl, h⟩ | ⟨rfl, h⟩
        · have h := h
          refine q_catch (name := "") C htab (List.take 4 hhL_act) (409, 474, 834, 58) (List.drop 5 hhL_act) (by decide) (by decide) (by decide +kernel) (by decide) (by decide) (by decide +kernel) (fun qx => ?_)
          have h := h qx
          exact q_sub [0, 2, 3, 4] rfl h
        · have h := h
          refine q_catch (name := "") C htab (List.take 18 hhL_act) (409, 474, 867, 120) (List.drop 19 hhL_act) (by decide) (by decide) (by decide +kernel) (by decide) (by decide) (by decide +kernel) (fun qx => ?_)
          have h := h qx
          exact q_sub [0, 2, 3, 4] rfl h
        · have h := h
          refine q_catch (name := "") C htab (List.take 32 hhL_act) (409, 474, 900, 122) (List.drop 33 hhL_act) (by decide) (by decide) (by decide +kernel) (by decide) (by decide) (by decide +kernel) (fun qx => ?_)
          have h := h qx
          exact q_sub [0, 2, 3, 4] rfl h
      · refine q_istore (lv' := [(9, .int r_55), (0, .ref a0), (1, .int i1), (2, .int i2), (3, .int i3), (4, .int i4), (5, .int i5), (6, .int i6)]) C dL_act_436 (by decide) rfl ?_
        refine q_aload_n C dL_act_438 rfl (j := 1) rfl ?_
        refine q_iload C dL_act_439 (j := 0) rfl ?_
        obtain ⟨dc_60, ds_60, hcz, h⟩ := h
        refine q_xi (qx_runV (As := [.int r_55]) (st := []) C (c_X8_size l hl D cA lo h.2) (cwV 1 C.2.2.2.2.1 gL_act_X8_size rfl rfl rfl (by decide +kernel) ⟨Nat.le_of_ble_eq_true rfl, Nat.le_of_ble_eq_true rfl⟩) h.1 (by decide) rfl rfl rfl (Nat.le_of_ble_eq_true rfl) dL_act_441 hcz) (fun E M_x h => ?_) (fun r_58 M_59 h => ?_)
        · rcases h with ⟨rfl, h⟩ | ⟨rfl, h⟩ | ⟨rfl, h⟩
          · have h := h
            refine q_catch (name := "") C htab (List.take 4 hhL_act) (409, 474, 834, 58) (List.drop 5 hhL_act) (by decide) (by decide) (by decide +kernel) (by decide) (by decide) (by decide +kernel) (fun qx => ?_)
            have h := h qx
            exact q_sub [1, 3, 4, 5] rfl h
          · have h := h
            refine q_catch (name := "") C htab (List.take 18 hhL_act) (409, 474, 867, 120) (List.drop 19 hhL_act) (by decide) (by decide) (by decide +kernel) (by decide) (by decide) (by decide +kernel) (fun qx => ?_)
            have h := h qx
            exact q_sub [1, 3, 4, 5] rfl h
          · have h := h
            refine q_catch (name := "") C htab (List.take 32 hhL_act) (409, 474, 900, 122) (List.drop 33 hhL_act) (by decide) (by decide) (by decide +kernel) (by decide) (by decide) (by decide +kernel) (fun qx => ?_)
            have h := h qx
            exact q_sub [1, 3, 4, 5] rfl h
        · refine q_iconst (v := 2) C dL_act_444 (by decide) ?_
          refine q_icmp_le (tgt := 473) C dL_act_445 (by decide) (fun z => ?_) (fun z => ?_)
          · have h := h.1 z
            refine q_iconst (v := 0) C dL_act_473 (by decide) ?_
            exact q_xret (q_zret C hr hlk dL_act_474 h.1 h.2.1 (Or.inl rfl) h.2.2)
          · have h := h.2 z
            refine q_aload_n C dL_act_448 rfl (j := 1) rfl ?_
            have hcz := h.1
            have h := h.2
            refine q_ci (q_runV (As := []) (st := []) C (c_X8_faces l D cA lo h.2) (cwV 0 C.2.2.2.2.1 gL_act_X8_faces rfl rfl rfl (by decide +kernel) ⟨Nat.le_of_ble_eq_true rfl, Nat.le_of_ble_eq_true rfl⟩) h.1 (by decide) rfl rfl rfl (Nat.le_of_ble_eq_true rfl) dL_act_449 ⟨Nat.le_trans (Nat.le_of_eq (Nat.add_zero _)) hcz.1, Nat.le_trans (Nat.le_of_eq (Nat.add_zero _)) hcz.2⟩) (fun r_61 M_z h => ?_)
            refine q_mem h.1 ?_
            have h := h.2
            refine q_iload C dL_act_452 (j := 5) rfl ?_
            refine q_iconst (v := 1) C dL_act_454 (by decide) ?_
            refine q_iadd C dL_act_455 ?_
            refine q_icmp_ne (tgt := 473) C dL_act_456 (by decide) (fun z => ?_) (fun z => ?_)
            · have h := h.1 z
              refine q_iconst (v := 0) C dL_act_473 (by decide) ?_
              exact q_xret (q_zret C hr hlk dL_act_474 h.1 h.2.1 (Or.inl rfl) h.2.2)
            · have h := h.2 z
              refine q_aload_n C dL_act_459 rfl (j := 1) rfl ?_
              have hcz := h.1
              have h := h.2
              refine q_ci (q_runV (As := []) (st := []) C (c_X8_edges l D cA lo h.2) (cwV 0 C.2.2.2.2.1 gL_act_X8_edges rfl rfl rfl (by decide +kernel) ⟨Nat.le_of_ble_eq_true rfl, Nat.le_of_ble_eq_true rfl⟩) h.1 (by decide) rfl rfl rfl (Nat.le_of_ble_eq_true rfl) dL_act_460 ⟨Nat.le_trans (Nat.le_of_eq (Nat.add_zero _)) hcz.1, Nat.le_trans (Nat.le_of_eq (Nat.add_zero _)) hcz.2⟩) (fun r_62 M_z h => ?_)
              refine q_mem h.1 ?_
              have h := h.2
              refine q_iload_n C dL_act_463 rfl (j := 4) rfl ?_
              refine q_iconst (v := 1) C dL_act_464 (by decide) ?_
              refine q_iadd C dL_act_465 ?_
              refine q_icmp_ne (tgt := 473) C dL_act_466 (by decide) (fun z => ?_) (fun z => ?_)
              · have h := h.1 z
                refine q_iconst (v := 0) C dL_act_473 (by decide) ?_
                exact q_xret (q_zret C hr hlk dL_act_474 h.1 h.2.1 (Or.inl rfl) h.2.2)
              · have h := h.2 z
                refine q_iconst (v := 1) C dL_act_469 (by decide) ?_
                refine q_goto (tgt := 474) C dL_act_470 (by decide) ?_
                exact q_xret (q_zret C hr hlk dL_act_474 h.1 h.2.1 (Or.inr rfl) h.2.2)
set_option maxRecDepth 100000 in
set_option maxHeartbeats 4000000 in
theorem b_L_act_475 {p : Program} {l : Launch} {e : Env} {s : State} {m : MethodId} {args : Array Value} {below : List Frame} {meth : Method} {c : Code} {D : va_G} {cA : Nat → ClassId} {lo : Nat} (C : Cx p s m args c cL_act 13 RL wsL_act D cA lo) (hr : meth.sig.returnType = (some .boolean)) (hlk : meth.locks = false) (hl : l.stackTraces = false) (htab : c.exceptionTable.toList = tableOf hhL_act) {Q : Int32 → Mm → Prop} {Cc Zz : Nat} {X : String → Mm → Prop} (M : Mm) (a0 : Nat) (i2 : Int32) (i3 : Int32) (i4 : Int32) (i6 : Int32) (i7 : Int32) (cc zz : Nat) (h : S_L_act_475 (fun (a0 : Nat) (i1 : Int32) (i2 : Int32) (i3 : Int32) (i4 : Int32) (i5 : Int32) (i6 : Int32) (i7 : Int32) (M : Mm) (cc zz : Nat) => QW p l e ({ frames := 9, cells := Cc, slots := Zz, locals := 159 } : Room) s m args below meth c (vx_MQ below (QiM D cA lo Q) (XcM D cA lo X) args s Cc Zz (fun q => lo ≤ q)) 13 D cA lo cc zz M 114 [(0, .ref a0), (1, .int i1), (2, .int i2), (3, .int i3), (4, .int i4), (5, .int i5), (6, .int i6), (7, .int i7)] []) (fun (a0 : Nat) (i1 : Int32) (i2 : Int32) (i3 : Int32) (i4 : Int32) (i6 : Int32) (i7 : Int32) (as0 : Nat) (M : Mm) (cc zz : Nat) => QW p l e ({ frames := 9, cells := Cc, slots := Zz, locals := 159 } : Room) s m args below meth c (vx_MQ below (QiM D cA lo Q) (XcM D cA lo X) args s Cc Zz (fun q => lo ≤ q)) 13 D cA lo cc zz M 109 [(0, .ref a0), (1, .int i1), (2, .int i2), (3, .int i3), (4, .int i4), (6, .int i6), (7, .int i7)] [.ref as0]) (fun (a0 : Nat) (i1 : Int32) (i2 : Int32) (i3 : Int32) (i4 : Int32) (M : Mm) (cc zz : Nat) => QW p l e ({ frames := 9, cells := Cc, slots := Zz, locals := 159 } : Room) s m args below meth c (vx_MQ below (QiM D cA lo Q) (XcM D cA lo X) args s Cc Zz (fun q => lo ≤ q)) 13 D cA lo cc zz M 188 [(0, .ref a0), (1, .int i1), (2, .int i2), (3, .int i3), (4, .int i4)] []) (fun (a0 : Nat) (i1 : Int32) (i2 : Int32) (i3 : Int32) (i4 : Int32) (M : Mm) (cc zz : Nat) => QW p l e ({ frames := 9, cells := Cc, slots := Zz, locals := 159 } : Room) s m args below meth c (vx_MQ below (QiM D cA lo Q) (XcM D cA lo X) args s Cc Zz (fun q => lo ≤ q)) 13 D cA lo cc zz M 272 [(0, .ref a0), (1, .int i1), (2, .int i2), (3, .int i3), (4, .int i4)] []) (fun (a0 : Nat) (i2 : Int32) (i3 : Int32) (i4 : Int32) (i6 : Int32) (i7 : Int32) (M : Mm) (cc zz : Nat) => QW p l e ({ frames := 9, cells := Cc, slots := Zz, locals := 159 } : Room) s m args below meth c (vx_MQ below (QiM D cA lo Q) (XcM D cA lo X) args s Cc Zz (fun q => lo ≤ q)) 13 D cA lo cc zz M 350 [(0, .ref a0), (2, .int i2), (3, .int i3), (4, .int i4), (6, .int i6), (7, .int i7)] []) (fun (a0 : Nat) (i1 : Int32) (i2 : Int32) (i3 : Int32) (i4 : Int32) (i5 : Int32) (i6 : Int32) (M : Mm) (cc zz : Nat) => QW p l e ({ frames := 9, cells := Cc, slots := Zz, locals := 159 } : Room) s m args below meth c (vx_MQ below (QiM D cA lo Q) (XcM D cA lo X) args s Cc Zz (fun q => lo ≤ q)) 13 D cA lo cc zz M 409 [(0, .ref a0), (1, .int i1), (2, .int i2), (3, .int i3), (4, .int i4), (5, .int i5), (6, .int i6)] []) (fun (a0 : Nat) (i2 : Int32) (i3 : Int32) (i4 : Int32) (i6 : Int32) (i7 : Int32) (M : Mm) (cc zz : Nat) => QW p l e ({ frames := 9, cells := Cc, slots := Zz, locals := 159 } : Room) s m args below meth c (vx_MQ below (QiM D cA lo Q) (XcM D cA lo X) args s Cc Zz (fun q => lo ≤ q)) 13 D cA lo cc zz M 475 [(0, .ref a0), (2, .int i2), (3, .int i3), (4, .int i4), (6, .int i6), (7, .int i7)] []) (fun (a0 : Nat) (i2 : Int32) (i3 : Int32) (i4 : Int32) (i6 : Int32) (i7 : Int32) (M : Mm) (cc zz : Nat) => QW p l e ({ frames := 9, cells := Cc, slots := Zz, locals := 159 } : Room) s m args below meth c (vx_MQ below (QiM D cA lo Q) (XcM D cA lo X) args s Cc Zz (fun q => lo ≤ q)) 13 D cA lo cc zz M 518 [(0, .ref a0), (2, .int i2), (3, .int i3), (4, .int i4), (6, .int i6), (7, .int i7)] []) (fun (a0 : Nat) (i2 : Int32) (i3 : Int32) (i4 : Int32) (i6 : Int32) (i7 : Int32) (M : Mm) (cc zz : Nat) => QW p l e ({ frames := 9, cells := Cc, slots := Zz, locals := 159 } : Room) s m args below meth c (vx_MQ below (QiM D cA lo Q) (XcM D cA lo X) args s Cc Zz (fun q => lo ≤ q)) 13 D cA lo cc zz M 552 [(0, .ref a0), (2, .int i2), (3, .int i3), (4, .int i4), (6, .int i6), (7, .int i7)] []) (fun (a0 : Nat) (i1 : Int32) (i2 : Int32) (i3 : Int32) (i4 : Int32) (i5 : Int32) (M : Mm) (cc zz : Nat) => QW p l e ({ frames := 9, cells := Cc, slots := Zz, locals := 159 } : Room) s m args below meth c (vx_MQ below (QiM D cA lo Q) (XcM D cA lo X) args s Cc Zz (fun q => lo ≤ q)) 13 D cA lo cc zz M 586 [(0, .ref a0), (1, .int i1), (2, .int i2), (3, .int i3), (4, .int i4), (5, .int i5)] []) (fun (a0 : Nat) (i2 : Int32) (i3 : Int32) (i4 : Int32) (i6 : Int32) (i7 : Int32) (M : Mm) (cc zz : Nat) => QW p l e ({ frames := 9, cells := Cc, slots := Zz, locals := 159 } : Room) s m args below meth c (vx_MQ below (QiM D cA lo Q) (XcM D cA lo X) args s Cc Zz (fun q => lo ≤ q)) 13 D cA lo cc zz M 660 [(0, .ref a0), (2, .int i2), (3, .int i3), (4, .int i4), (6, .int i6), (7, .int i7)] []) (fun (a0 : Nat) (i1 : Int32) (i2 : Int32) (i3 : Int32) (i4 : Int32) (M : Mm) (cc zz : Nat) => QW p l e ({ frames := 9, cells := Cc, slots := Zz, locals := 159 } : Room) s m args below meth c (vx_MQ below (QiM D cA lo Q) (XcM D cA lo X) args s Cc Zz (fun q => lo ≤ q)) 13 D cA lo cc zz M 710 [(0, .ref a0), (1, .int i1), (2, .int i2), (3, .int i3), (4, .int i4)] []) (fun (a0 : Nat) (i2 : Int32) (i3 : Int32) (i4 : Int32) (i5 : Int32) (M : Mm) (cc zz : Nat) => QW p l e ({ frames := 9, cells := Cc, slots := Zz, locals := 159 } : Room) s m args below meth c (vx_MQ below (QiM D cA lo Q) (XcM D cA lo X) args s Cc Zz (fun q => lo ≤ q)) 13 D cA lo cc zz M 766 [(0, .ref a0), (2, .int i2), (3, .int i3), (4, .int i4), (5, .int i5)] []) (fun (a0 : Nat) (i1 : Int32) (i2 : Int32) (i3 : Int32) (i4 : Int32) (M : Mm) (cc zz : Nat) => QW p l e ({ frames := 9, cells := Cc, slots := Zz, locals := 159 } : Room) s m args below meth c (vx_MQ below (QiM D cA lo Q) (XcM D cA lo X) args s Cc Zz (fun q => lo ≤ q)) 13 D cA lo cc zz M 802 [(0, .ref a0), (1, .int i1), (2, .int i2), (3, .int i3), (4, .int i4)] []) (fun (a0 : Nat) (i2 : Int32) (i3 : Int32) (i4 : Int32) (i8 : Int32) (as0 : Nat) (is1 : Int32) (is2 : Int32) (is3 : Int32) (is4 : Int32) (M : Mm) (cc zz : Nat) => QW p l e ({ frames := 9, cells := Cc, slots := Zz, locals := 159 } : Room) s m args below meth c (vx_MQ below (QiM D cA lo Q) (XcM D cA lo X) args s Cc Zz (fun q => lo ≤ q)) 13 D cA lo cc zz M 238 [(0, .ref a0), (2, .int i2), (3, .int i3), (4, .int i4), (8, .int i8)] [.int is4, .int is3, .int is2, .int is1, .ref as0]) (fun (a0 : Nat) (i2 : Int32) (i3 : Int32) (i4 : Int32) (as0 : Nat) (M : Mm) (cc zz : Nat) => QW p l e ({ frames := 9, cells := Cc, slots := Zz, locals := 159 } : Room) s m args below meth c (vx_MQ below (QiM D cA lo Q) (XcM D cA lo X) args s Cc Zz (fun q => lo ≤ q)) 13 D cA lo cc zz M 834 [(0, .ref a0), (2, .int i2), (3, .int i3), (4, .int i4)] [.ref as0]) (fun (a0 : Nat) (i2 : Int32) (i3 : Int32) (i4 : Int32) (as0 : Nat) (M : Mm) (cc zz : Nat) => QW p l e ({ frames := 9, cells := Cc, slots := Zz, locals := 159 } : Room) s m args below meth c (vx_MQ below (QiM D cA lo Q) (XcM D cA lo X) args s Cc Zz (fun q => lo ≤ q)) 13 D cA lo cc zz M 867 [(0, .ref a0), (2, .int i2), (3, .int i3), (4, .int i4)] [.ref as0]) (fun (a0 : Nat) (i2 : Int32) (i3 : Int32) (i4 : Int32) (as0 : Nat) (M : Mm) (cc zz : Nat) => QW p l e ({ frames := 9, cells := Cc, slots := Zz, locals := 159 } : Room) s m args below meth c (vx_MQ below (QiM D cA lo Q) (XcM D cA lo X) args s Cc Zz (fun q => lo ≤ q)) 13 D cA lo cc zz M 900 [(0, .ref a0), (2, .int i2), (3, .int i3), (4, .int i4)] [.ref as0]) Cc Zz Q X M a0 i2 i3 i4 i6 i7 cc zz) : QW p l e ({ frames := 9, cells := Cc, slots := Zz, locals := 159 } : Room) s m args below meth c (vx_MQ below (QiM D cA lo Q) (XcM D cA lo X) args s Cc Zz (fun q => lo ≤ q)) 13 D cA lo cc zz M 475 [(0, .ref a0), (2, .int i2), (3, .int i3), (4, .int i4), (6, .int i6), (7, .int i7)] [] := by
  unfold S_L_act_475 at h
  refine q_aload_n C dL_act_475 rfl (j := 0) rfl ?_
  refine q_aload_n C dL_act_476 rfl (j := 0) rfl ?_
  refine q_iload C dL_act_477 (j := 4) rfl ?_
  refine q_iload C dL_act_479 (j := 5) rfl ?_
  obtain ⟨dc_65, ds_65, hcz, h⟩ := h
  refine q_xi (qx_runV (As := [.int i6, .int i7]) (st := [.ref a0]) C (c_X8_join l hl D cA lo h.2) (cwV 2 C.2.2.2.2.1 gL_act_X8_join rfl rfl rfl (by decide +kernel) ⟨Nat.le_of_ble_eq_true rfl, Nat.le_of_ble_eq_true rfl⟩) h.1 (by decide) rfl rfl rfl (Nat.le_of_ble_eq_true rfl) dL_act_481 hcz) (fun E M_x h => ?_) (fun r_63 M_64 h => ?_)
  · rcases h with ⟨rfl, h⟩ | ⟨rfl, h⟩ | ⟨rfl, h⟩
    · have h := h
      refine q_catch (name := "") C htab (List.take 5 hhL_act) (475, 517, 834, 58) (List.drop 6 hhL_act) (by decide) (by decide) (by decide +kernel) (by decide) (by decide) (by decide +kernel) (fun qx => ?_)
      have h := h qx
      exact q_sub [0, 1, 2, 3] rfl h
    · have h := h
      refine q_catch (name := "") C htab (List.take 19 hhL_act) (475, 517, 867, 120) (List.drop 20 hhL_act) (by decide) (by decide) (by decide +kernel) (by decide) (by decide) (by decide +kernel) (fun qx => ?_)
      have h := h qx
      exact q_sub [0, 1, 2, 3] rfl h
    · have h := h
      refine q_catch (name := "") C htab (List.take 33 hhL_act) (475, 517, 900, 122) (List.drop 34 hhL_act) (by decide) (by decide) (by decide +kernel) (by decide) (by decide) (by decide +kernel) (fun qx => ?_)
      have h := h qx
      exact q_sub [0, 1, 2, 3] rfl h
  · obtain ⟨dc_68, ds_68, hcz, h⟩ := h
    refine q_xi (qx_runV (As := [.int r_63]) (st := []) C (c_X8_size l hl D cA lo h.2) (cwV 1 C.2.2.2.2.1 gL_act_X8_size rfl rfl rfl (by decide +kernel) ⟨Nat.le_of_ble_eq_true rfl, Nat.le_of_ble_eq_true rfl⟩) h.1 (by decide) rfl rfl rfl (Nat.le_of_ble_eq_true rfl) dL_act_484 hcz) (fun E M_x h => ?_) (fun r_66 M_67 h => ?_)
    · rcases h with ⟨rfl, h⟩ | ⟨rfl, h⟩ | ⟨rfl, h⟩
      · have h := h
        refine q_catch (name := "") C htab (List.take 5 hhL_act) (475, 517, 834, 58) (List.drop 6 hhL_act) (by decide) (by decide) (by decide +kernel) (by decide) (by decide) (by decide +kernel) (fun qx => ?_)
        have h := h qx
        exact q_sub [0, 1, 2, 3] rfl h
      · have h := h
        refine q_catch (name := "") C htab (List.take 19 hhL_act) (475, 517, 867, 120) (List.drop 20 hhL_act) (by decide) (by decide) (by decide +kernel) (by decide) (by decide) (by decide +kernel) (fun qx => ?_)
        have h := h qx
        exact q_sub [0, 1, 2, 3] rfl h
      · have h := h
        refine q_catch (name := "") C htab (List.take 33 hhL_act) (475, 517, 900, 122) (List.drop 34 hhL_act) (by decide) (by decide) (by decide +kernel) (by decide) (by decide) (by decide +kernel) (fun qx => ?_)
        have h := h qx
        exact q_sub [0, 1, 2, 3] rfl h
    · refine q_iconst (v := 3) C dL_act_487 (by decide) ?_
      refine q_icmp_le (tgt := 516) C dL_act_488 (by decide) (fun z => ?_) (fun z => ?_)
      · have h := h.1 z
        refine q_iconst (v := 0) C dL_act_516 (by decide) ?_
        exact q_xret (q_zret C hr hlk dL_act_517 h.1 h.2.1 (Or.inl rfl) h.2.2)
      · have h := h.2 z
        refine q_aload_n C dL_act_491 rfl (j := 0) rfl ?_
        have hcz := h.1
        have h := h.2
        refine q_ci (q_runV (As := []) (st := []) C (c_X8_faces l D cA lo h.2) (cwV 0 C.2.2.2.2.1 gL_act_X8_faces rfl rfl rfl (by decide +kernel) ⟨Nat.le_of_ble_eq_true rfl, Nat.le_of_ble_eq_true rfl⟩) h.1 (by decide) rfl rfl rfl (Nat.le_of_ble_eq_true rfl) dL_act_492 ⟨Nat.le_trans (Nat.le_of_eq (Nat.add_zero _)) hcz.1, Nat.le_trans (Nat.le_of_eq (Nat.add_zero _)) hcz.2⟩) (fun r_69 M_z h => ?_)
        refine q_mem h.1 ?_
        have h := h.2
        refine q_iload C dL_act_495 (j := 3) rfl ?_
        refine q_iconst (v := 1) C dL_act_497 (by decide) ?_
        refine q_isub C dL_act_498 ?_
        refine q_icmp_ne (tgt := 516) C dL_act_499 (by decide) (fun z => ?_) (fun z => ?_)
        · have h := h.1 z
          refine q_iconst (v := 0) C dL_act_516 (by decide) ?_
          exact q_xret (q_zret C hr hlk dL_act_517 h.1 h.2.1 (Or.inl rfl) h.2.2)
        · have h := h.2 z
          refine q_aload_n C dL_act_502 rfl (j := 0) rfl ?_
          have hcz := h.1
          have h := h.2
          refine q_ci (q_runV (As := []) (st := []) C (c_X8_edges l D cA lo h.2) (cwV 0 C.2.2.2.2.1 gL_act_X8_edges rfl rfl rfl (by decide +kernel) ⟨Nat.le_of_ble_eq_true rfl, Nat.le_of_ble_eq_true rfl⟩) h.1 (by decide) rfl rfl rfl (Nat.le_of_ble_eq_true rfl) dL_act_503 ⟨Nat.le_trans (Nat.le_of_eq (Nat.add_zero _)) hcz.1, Nat.le_trans (Nat.le_of_eq (Nat.add_zero _)) hcz.2⟩) (fun r_70 M_z h => ?_)
          refine q_mem h.1 ?_
          have h := h.2
          refine q_iload_n C dL_act_506 rfl (j := 2) rfl ?_
          refine q_iconst (v := 1) C dL_act_507 (by decide) ?_
          refine q_isub C dL_act_508 ?_
          refine q_icmp_ne (tgt := 516) C dL_act_509 (by decide) (fun z => ?_) (fun z => ?_)
          · have h := h.1 z
            refine q_iconst (v := 0) C dL_act_516 (by decide) ?_
            exact q_xret (q_zret C hr hlk dL_act_517 h.1 h.2.1 (Or.inl rfl) h.2.2)
          · have h := h.2 z
            refine q_iconst (v := 1) C dL_act_512 (by decide) ?_
            refine q_goto (tgt := 517) C dL_act_513 (by decide) ?_
            exact q_xret (q_zret C hr hlk dL_act_517 h.1 h.2.1 (Or.inr rfl) h.2.2)
set_option maxRecDepth 100000 in
set_option maxHeartbeats 4000000 in
theorem b_L_act_518 {p : Program} {l : Launch} {e : Env} {s : State} {m : MethodId} {args : Array Value} {below : List Frame} {meth : Method} {c : Code} {D : va_G} {cA : Nat → ClassId} {lo : Nat} (C : Cx p s m args c cL_act 13 RL wsL_act D cA lo) (hr : meth.sig.returnType = (some .boolean)) (hlk : meth.locks = false) (hl : l.stackTraces = false) (htab : c.exceptionTable.toList = tableOf hhL_act) {Q : Int32 → Mm → Prop} {Cc Zz : Nat} {X : String → Mm → Prop} (M : Mm) (a0 : Nat) (i2 : Int32) (i3 : Int32) (i4 : Int32) (i6 : Int32) (i7 : Int32) (cc zz : Nat) (h : S_L_act_518 (fun (a0 : Nat) (i1 : Int32) (i2 : Int32) (i3 : Int32) (i4 : Int32) (i5 : Int32) (i6 : Int32) (i7 : Int32) (M : Mm) (cc zz : Nat) => QW p l e ({ frames := 9, cells := Cc, slots := Zz, locals := 159 } : Room) s m args below meth c (vx_MQ below (QiM D cA lo Q) (XcM D cA lo X) args s Cc Zz (fun q => lo ≤ q)) 13 D cA lo cc zz M 114 [(0, .ref a0), (1, .int i1), (2, .int i2), (3, .int i3), (4, .int i4), (5, .int i5), (6, .int i6), (7, .int i7)] []) (fun (a0 : Nat) (i1 : Int32) (i2 : Int32) (i3 : Int32) (i4 : Int32) (i6 : Int32) (i7 : Int32) (as0 : Nat) (M : Mm) (cc zz : Nat) => QW p l e ({ frames := 9, cells := Cc, slots := Zz, locals := 159 } : Room) s m args below meth c (vx_MQ below (QiM D cA lo Q) (XcM D cA lo X) args s Cc Zz (fun q => lo ≤ q)) 13 D cA lo cc zz M 109 [(0, .ref a0), (1, .int i1), (2, .int i2), (3, .int i3), (4, .int i4), (6, .int i6), (7, .int i7)] [.ref as0]) (fun (a0 : Nat) (i1 : Int32) (i2 : Int32) (i3 : Int32) (i4 : Int32) (M : Mm) (cc zz : Nat) => QW p l e ({ frames := 9, cells := Cc, slots := Zz, locals := 159 } : Room) s m args below meth c (vx_MQ below (QiM D cA lo Q) (XcM D cA lo X) args s Cc Zz (fun q => lo ≤ q)) 13 D cA lo cc zz M 188 [(0, .ref a0), (1, .int i1), (2, .int i2), (3, .int i3), (4, .int i4)] []) (fun (a0 : Nat) (i1 : Int32) (i2 : Int32) (i3 : Int32) (i4 : Int32) (M : Mm) (cc zz : Nat) => QW p l e ({ frames := 9, cells := Cc, slots := Zz, locals := 159 } : Room) s m args below meth c (vx_MQ below (QiM D cA lo Q) (XcM D cA lo X) args s Cc Zz (fun q => lo ≤ q)) 13 D cA lo cc zz M 272 [(0, .ref a0), (1, .int i1), (2, .int i2), (3, .int i3), (4, .int i4)] []) (fun (a0 : Nat) (i2 : Int32) (i3 : Int32) (i4 : Int32) (i6 : Int32) (i7 : Int32) (M : Mm) (cc zz : Nat) => QW p l e ({ frames := 9, cells := Cc, slots := Zz, locals := 159 } : Room) s m args below meth c (vx_MQ below (QiM D cA lo Q) (XcM D cA lo X) args s Cc Zz (fun q => lo ≤ q)) 13 D cA lo cc zz M 350 [(0, .ref a0), (2, .int i2), (3, .int i3), (4, .int i4), (6, .int i6), (7, .int i7)] []) (fun (a0 : Nat) (i1 : Int32) (i2 : Int32) (i3 : Int32) (i4 : Int32) (i5 : Int32) (i6 : Int32) (M : Mm) (cc zz : Nat) => QW p l e ({ frames := 9, cells := Cc, slots := Zz, locals := 159 } : Room) s m args below meth c (vx_MQ below (QiM D cA lo Q) (XcM D cA lo X) args s Cc Zz (fun q => lo ≤ q)) 13 D cA lo cc zz M 409 [(0, .ref a0), (1, .int i1), (2, .int i2), (3, .int i3), (4, .int i4), (5, .int i5), (6, .int i6)] []) (fun (a0 : Nat) (i2 : Int32) (i3 : Int32) (i4 : Int32) (i6 : Int32) (i7 : Int32) (M : Mm) (cc zz : Nat) => QW p l e ({ frames := 9, cells := Cc, slots := Zz, locals := 159 } : Room) s m args below meth c (vx_MQ below (QiM D cA lo Q) (XcM D cA lo X) args s Cc Zz (fun q => lo ≤ q)) 13 D cA lo cc zz M 475 [(0, .ref a0), (2, .int i2), (3, .int i3), (4, .int i4), (6, .int i6), (7, .int i7)] []) (fun (a0 : Nat) (i2 : Int32) (i3 : Int32) (i4 : Int32) (i6 : Int32) (i7 : Int32) (M : Mm) (cc zz : Nat) => QW p l e ({ frames := 9, cells := Cc, slots := Zz, locals := 159 } : Room) s m args below meth c (vx_MQ below (QiM D cA lo Q) (XcM D cA lo X) args s Cc Zz (fun q => lo ≤ q)) 13 D cA lo cc zz M 518 [(0, .ref a0), (2, .int i2), (3, .int i3), (4, .int i4), (6, .int i6), (7, .int i7)] []) (fun (a0 : Nat) (i2 : Int32) (i3 : Int32) (i4 : Int32) (i6 : Int32) (i7 : Int32) (M : Mm) (cc zz : Nat) => QW p l e ({ frames := 9, cells := Cc, slots := Zz, locals := 159 } : Room) s m args below meth c (vx_MQ below (QiM D cA lo Q) (XcM D cA lo X) args s Cc Zz (fun q => lo ≤ q)) 13 D cA lo cc zz M 552 [(0, .ref a0), (2, .int i2), (3, .int i3), (4, .int i4), (6, .int i6), (7, .int i7)] []) (fun (a0 : Nat) (i1 : Int32) (i2 : Int32) (i3 : Int32) (i4 : Int32) (i5 : Int32) (M : Mm) (cc zz : Nat) => QW p l e ({ frames := 9, cells := Cc, slots := Zz, locals := 159 } : Room) s m args below meth c (vx_MQ below (QiM D cA lo Q) (XcM D cA lo X) args s Cc Zz (fun q => lo ≤ q)) 13 D cA lo cc zz M 586 [(0, .ref a0), (1, .int i1), (2, .int i2), (3, .int i3), (4, .int i4), (5, .int i5)] []) (fun (a0 : Nat) (i2 : Int32) (i3 : Int32) (i4 : Int32) (i6 : Int32) (i7 : Int32) (M : Mm) (cc zz : Nat) => QW p l e ({ frames := 9, cells := Cc, slots := Zz, locals := 159 } : Room) s m args below meth c (vx_MQ below (QiM D cA lo Q) (XcM D cA lo X) args s Cc Zz (fun q => lo ≤ q)) 13 D cA lo cc zz M 660 [(0, .ref a0), (2, .int i2), (3, .int i3), (4, .int i4), (6, .int i6), (7, .int i7)] []) (fun (a0 : Nat) (i1 : Int32) (i2 : Int32) (i3 : Int32) (i4 : Int32) (M : Mm) (cc zz : Nat) => QW p l e ({ frames := 9, cells := Cc, slots := Zz, locals := 159 } : Room) s m args below meth c (vx_MQ below (QiM D cA lo Q) (XcM D cA lo X) args s Cc Zz (fun q => lo ≤ q)) 13 D cA lo cc zz M 710 [(0, .ref a0), (1, .int i1), (2, .int i2), (3, .int i3), (4, .int i4)] []) (fun (a0 : Nat) (i2 : Int32) (i3 : Int32) (i4 : Int32) (i5 : Int32) (M : Mm) (cc zz : Nat) => QW p l e ({ frames := 9, cells := Cc, slots := Zz, locals := 159 } : Room) s m args below meth c (vx_MQ below (QiM D cA lo Q) (XcM D cA lo X) args s Cc Zz (fun q => lo ≤ q)) 13 D cA lo cc zz M 766 [(0, .ref a0), (2, .int i2), (3, .int i3), (4, .int i4), (5, .int i5)] []) (fun (a0 : Nat) (i1 : Int32) (i2 : Int32) (i3 : Int32) (i4 : Int32) (M : Mm) (cc zz : Nat) => QW p l e ({ frames := 9, cells := Cc, slots := Zz, locals := 159 } : Room) s m args below meth c (vx_MQ below (QiM D cA lo Q) (XcM D cA lo X) args s Cc Zz (fun q => lo ≤ q)) 13 D cA lo cc zz M 802 [(0, .ref a0), (1, .int i1), (2, .int i2), (3, .int i3), (4, .int i4)] []) (fun (a0 : Nat) (i2 : Int32) (i3 : Int32) (i4 : Int32) (i8 : Int32) (as0 : Nat) (is1 : Int32) (is2 : Int32) (is3 : Int32) (is4 : Int32) (M : Mm) (cc zz : Nat) => QW p l e ({ frames := 9, cells := Cc, slots := Zz, locals := 159 } : Room) s m args below meth c (vx_MQ below (QiM D cA lo Q) (XcM D cA lo X) args s Cc Zz (fun q => lo ≤ q)) 13 D cA lo cc zz M 238 [(0, .ref a0), (2, .int i2), (3, .int i3), (4, .int i4), (8, .int i8)] [.int is4, .int is3, .int is2, .int is1, .ref as0]) (fun (a0 : Nat) (i2 : Int32) (i3 : Int32) (i4 : Int32) (as0 : Nat) (M : Mm) (cc zz : Nat) => QW p l e ({ frames := 9, cells := Cc, slots := Zz, locals := 159 } : Room) s m args below meth c (vx_MQ below (QiM D cA lo Q) (XcM D cA lo X) args s Cc Zz (fun q => lo ≤ q)) 13 D cA lo cc zz M 834 [(0, .ref a0), (2, .int i2), (3, .int i3), (4, .int i4)] [.ref as0]) (fun (a0 : Nat) (i2 : Int32) (i3 : Int32) (i4 : Int32) (as0 : Nat) (M : Mm) (cc zz : Nat) => QW p l e ({ frames := 9, cells := Cc, slots := Zz, locals := 159 } : Room) s m args below meth c (vx_MQ below (QiM D cA lo Q) (XcM D cA lo X) args s Cc Zz (fun q => lo ≤ q)) 13 D cA lo cc zz M 867 [(0, .ref a0), (2, .int i2), (3, .int i3), (4, .int i4)] [.ref as0]) (fun (a0 : Nat) (i2 : Int32) (i3 : Int32) (i4 : Int32) (as0 : Nat) (M : Mm) (cc zz : Nat) => QW p l e ({ frames := 9, cells := Cc, slots := Zz, locals := 159 } : Room) s m args below meth c (vx_MQ below (QiM D cA lo Q) (XcM D cA lo X) args s Cc Zz (fun q => lo ≤ q)) 13 D cA lo cc zz M 900 [(0, .ref a0), (2, .int i2), (3, .int i3), (4, .int i4)] [.ref as0]) Cc Zz Q X M a0 i2 i3 i4 i6 i7 cc zz) : QW p l e ({ frames := 9, cells := Cc, slots := Zz, locals := 159 } : Room) s m args below meth c (vx_MQ below (QiM D cA lo Q) (XcM D cA lo X) args s Cc Zz (fun q => lo ≤ q)) 13 D cA lo cc zz M 518 [(0, .ref a0), (2, .int i2), (3, .int i3), (4, .int i4), (6, .int i6), (7, .int i7)] [] := by
  unfold S_L_act_518 at h
  refine q_aload_n C dL_act_518 rfl (j := 0) rfl ?_
  refine q_iload C dL_act_519 (j := 4) rfl ?_
  refine q_iload C dL_act_521 (j := 5) rfl ?_
  obtain ⟨dc_73, ds_73, hcz, h⟩ := h
  refine q_xi (qx_runV (As := [.int i6, .int i7]) (st := []) C (c_X8_collapse l hl D cA lo h.2) (cwV 2 C.2.2.2.2.1 gL_act_X8_collapse rfl rfl rfl (by decide +kernel) ⟨Nat.le_of_ble_eq_true rfl, Nat.le_of_ble_eq_true rfl⟩) h.1 (by decide) rfl rfl rfl (Nat.le_of_ble_eq_true rfl) dL_act_523 hcz) (fun E M_x h => ?_) (fun r_71 M_72 h => ?_)
  · rcases h with ⟨rfl, h⟩ | ⟨rfl, h⟩ | ⟨rfl, h⟩
    · have h := h
      refine q_catch (name := "") C htab (List.take 6 hhL_act) (518, 551, 834, 58) (List.drop 7 hhL_act) (by decide) (by decide) (by decide +kernel) (by decide) (by decide) (by decide +kernel) (fun qx => ?_)
      have h := h qx
      exact q_sub [0, 1, 2, 3] rfl h
    · have h := h
      refine q_catch (name := "") C htab (List.take 20 hhL_act) (518, 551, 867, 120) (List.drop 21 hhL_act) (by decide) (by decide) (by decide +kernel) (by decide) (by decide) (by decide +kernel) (fun qx => ?_)
      have h := h qx
      exact q_sub [0, 1, 2, 3] rfl h
    · have h := h
      refine q_catch (name := "") C htab (List.take 34 hhL_act) (518, 551, 900, 122) (List.drop 35 hhL_act) (by decide) (by decide) (by decide +kernel) (by decide) (by decide) (by decide +kernel) (fun qx => ?_)
      have h := h qx
      exact q_sub [0, 1, 2, 3] rfl h
  · refine q_iload C dL_act_526 (j := 3) rfl ?_
    refine q_aload_n C dL_act_528 rfl (j := 0) rfl ?_
    have hcz := h.1
    have h := h.2
    refine q_ci (q_runV (As := []) (st := [.int i4, .int r_71]) C (c_X8_faces l D cA lo h.2) (cwV 0 C.2.2.2.2.1 gL_act_X8_faces rfl rfl rfl (by decide +kernel) ⟨Nat.le_of_ble_eq_true rfl, Nat.le_of_ble_eq_true rfl⟩) h.1 (by decide) rfl rfl rfl (Nat.le_of_ble_eq_true rfl) dL_act_529 ⟨Nat.le_trans (Nat.le_of_eq (Nat.add_zero _)) hcz.1, Nat.le_trans (Nat.le_of_eq (Nat.add_zero _)) hcz.2⟩) (fun r_74 M_z h => ?_)
    refine q_mem h.1 ?_
    have h := h.2
    refine q_isub C dL_act_532 ?_
    refine q_icmp_ne (tgt := 550) C dL_act_533 (by decide) (fun z => ?_) (fun z => ?_)
    · have h := h.1 z
      refine q_iconst (v := 0) C dL_act_550 (by decide) ?_
      exact q_xret (q_zret C hr hlk dL_act_551 h.1 h.2.1 (Or.inl rfl) h.2.2)
    · have h := h.2 z
      refine q_aload_n C dL_act_536 rfl (j := 0) rfl ?_
      have hcz := h.1
      have h := h.2
      refine q_ci (q_runV (As := []) (st := []) C (c_X8_points l D cA lo h.2) (cwV 0 C.2.2.2.2.1 gL_act_X8_points rfl rfl rfl (by decide +kernel) ⟨Nat.le_of_ble_eq_true rfl, Nat.le_of_ble_eq_true rfl⟩) h.1 (by decide) rfl rfl rfl (Nat.le_of_ble_eq_true rfl) dL_act_537 ⟨Nat.le_trans (Nat.le_of_eq (Nat.add_zero _)) hcz.1, Nat.le_trans (Nat.le_of_eq (Nat.add_zero _)) hcz.2⟩) (fun r_75 M_z h => ?_)
      refine q_mem h.1 ?_
      have h := h.2
      refine q_iload_n C dL_act_540 rfl (j := 1) rfl ?_
      refine q_iconst (v := 1) C dL_act_541 (by decide) ?_
      refine q_isub C dL_act_542 ?_
      refine q_icmp_ne (tgt := 550) C dL_act_543 (by decide) (fun z => ?_) (fun z => ?_)
      · have h := h.1 z
        refine q_iconst (v := 0) C dL_act_550 (by decide) ?_
        exact q_xret (q_zret C hr hlk dL_act_551 h.1 h.2.1 (Or.inl rfl) h.2.2)
      · have h := h.2 z
        refine q_iconst (v := 1) C dL_act_546 (by decide) ?_
        refine q_goto (tgt := 551) C dL_act_547 (by decide) ?_
        exact q_xret (q_zret C hr hlk dL_act_551 h.1 h.2.1 (Or.inr rfl) h.2.2)
set_option maxRecDepth 100000 in
set_option maxHeartbeats 4000000 in
theorem b_L_act_552 {p : Program} {l : Launch} {e : Env} {s : State} {m : MethodId} {args : Array Value} {below : List Frame} {meth : Method} {c : Code} {D : va_G} {cA : Nat → ClassId} {lo : Nat} (C : Cx p s m args c cL_act 13 RL wsL_act D cA lo) (hr : meth.sig.returnType = (some .boolean)) (hlk : meth.locks = false) (hl : l.stackTraces = false) (htab : c.exceptionTable.toList = tableOf hhL_act) {Q : Int32 → Mm → Prop} {Cc Zz : Nat} {X : String → Mm → Prop} (M : Mm) (a0 : Nat) (i2 : Int32) (i3 : Int32) (i4 : Int32) (i6 : Int32) (i7 : Int32) (cc zz : Nat) (h : S_L_act_552 (fun (a0 : Nat) (i1 : Int32) (i2 : Int32) (i3 : Int32) (i4 : Int32) (i5 : Int32) (i6 : Int32) (i7 : Int32) (M : Mm) (cc zz : Nat) => QW p l e ({ frames := 9, cells := Cc, slots := Zz, locals := 159 } : Room) s m args below meth c (vx_MQ below (QiM D cA lo Q) (XcM D cA lo X) args s Cc Zz (fun q => lo ≤ q)) 13 D cA lo cc zz M 114 [(0, .ref a0), (1, .int i1), (2, .int i2), (3, .int i3), (4, .int i4), (5, .int i5), (6, .int i6), (7, .int i7)] []) (fun (a0 : Nat) (i1 : Int32) (i2 : Int32) (i3 : Int32) (i4 : Int32) (i6 : Int32) (i7 : Int32) (as0 : Nat) (M : Mm) (cc zz : Nat) => QW p l e ({ frames := 9, cells := Cc, slots := Zz, locals := 159 } : Room) s m args below meth c (vx_MQ below (QiM D cA lo Q) (XcM D cA lo X) args s Cc Zz (fun q => lo ≤ q)) 13 D cA lo cc zz M 109 [(0, .ref a0), (1, .int i1), (2, .int i2), (3, .int i3), (4, .int i4), (6, .int i6), (7, .int i7)] [.ref as0]) (fun (a0 : Nat) (i1 : Int32) (i2 : Int32) (i3 : Int32) (i4 : Int32) (M : Mm) (cc zz : Nat) => QW p l e ({ frames := 9, cells := Cc, slots := Zz, locals := 159 } : Room) s m args below meth c (vx_MQ below (QiM D cA lo Q) (XcM D cA lo X) args s Cc Zz (fun q => lo ≤ q)) 13 D cA lo cc zz M 188 [(0, .ref a0), (1, .int i1), (2, .int i2), (3, .int i3), (4, .int i4)] []) (fun (a0 : Nat) (i1 : Int32) (i2 : Int32) (i3 : Int32) (i4 : Int32) (M : Mm) (cc zz : Nat) => QW p l e ({ frames := 9, cells := Cc, slots := Zz, locals := 159 } : Room) s m args below meth c (vx_MQ below (QiM D cA lo Q) (XcM D cA lo X) args s Cc Zz (fun q => lo ≤ q)) 13 D cA lo cc zz M 272 [(0, .ref a0), (1, .int i1), (2, .int i2), (3, .int i3), (4, .int i4)] []) (fun (a0 : Nat) (i2 : Int32) (i3 : Int32) (i4 : Int32) (i6 : Int32) (i7 : Int32) (M : Mm) (cc zz : Nat) => QW p l e ({ frames := 9, cells := Cc, slots := Zz, locals := 159 } : Room) s m args below meth c (vx_MQ below (QiM D cA lo Q) (XcM D cA lo X) args s Cc Zz (fun q => lo ≤ q)) 13 D cA lo cc zz M 350 [(0, .ref a0), (2, .int i2), (3, .int i3), (4, .int i4), (6, .int i6), (7, .int i7)] []) (fun (a0 : Nat) (i1 : Int32) (i2 : Int32) (i3 : Int32) (i4 : Int32) (i5 : Int32) (i6 : Int32) (M : Mm) (cc zz : Nat) => QW p l e ({ frames := 9, cells := Cc, slots := Zz, locals := 159 } : Room) s m args below meth c (vx_MQ below (QiM D cA lo Q) (XcM D cA lo X) args s Cc Zz (fun q => lo ≤ q)) 13 D cA lo cc zz M 409 [(0, .ref a0), (1, .int i1), (2, .int i2), (3, .int i3), (4, .int i4), (5, .int i5), (6, .int i6)] []) (fun (a0 : Nat) (i2 : Int32) (i3 : Int32) (i4 : Int32) (i6 : Int32) (i7 : Int32) (M : Mm) (cc zz : Nat) => QW p l e ({ frames := 9, cells := Cc, slots := Zz, locals := 159 } : Room) s m args below meth c (vx_MQ below (QiM D cA lo Q) (XcM D cA lo X) args s Cc Zz (fun q => lo ≤ q)) 13 D cA lo cc zz M 475 [(0, .ref a0), (2, .int i2), (3, .int i3), (4, .int i4), (6, .int i6), (7, .int i7)] []) (fun (a0 : Nat) (i2 : Int32) (i3 : Int32) (i4 : Int32) (i6 : Int32) (i7 : Int32) (M : Mm) (cc zz : Nat) => QW p l e ({ frames := 9, cells := Cc, slots := Zz, locals := 159 } : Room) s m args below meth c (vx_MQ below (QiM D cA lo Q) (XcM D cA lo X) args s Cc Zz (fun q => lo ≤ q)) 13 D cA lo cc zz M 518 [(0, .ref a0), (2, .int i2), (3, .int i3), (4, .int i4), (6, .int i6), (7, .int i7)] []) (fun (a0 : Nat) (i2 : Int32) (i3 : Int32) (i4 : Int32) (i6 : Int32) (i7 : Int32) (M : Mm) (cc zz : Nat) => QW p l e ({ frames := 9, cells := Cc, slots := Zz, locals := 159 } : Room) s m args below meth c (vx_MQ below (QiM D cA lo Q) (XcM D cA lo X) args s Cc Zz (fun q => lo ≤ q)) 13 D cA lo cc zz M 552 [(0, .ref a0), (2, .int i2), (3, .int i3), (4, .int i4), (6, .int i6), (7, .int i7)] []) (fun (a0 : Nat) (i1 : Int32) (i2 : Int32) (i3 : Int32) (i4 : Int32) (i5 : Int32) (M : Mm) (cc zz : Nat) => QW p l e ({ frames := 9, cells := Cc, slots := Zz, locals := 159 } : Room) s m args below meth c (vx_MQ below (QiM D cA lo Q) (XcM D cA lo X) args s Cc Zz (fun q => lo ≤ q)) 13 D cA lo cc zz M 586 [(0, .ref a0), (1, .int i1), (2, .int i2), (3, .int i3), (4, .int i4), (5, .int i5)] []) (fun (a0 : Nat) (i2 : Int32) (i3 : Int32) (i4 : Int32) (i6 : Int32) (i7 : Int32) (M : Mm) (cc zz : Nat) => QW p l e ({ frames := 9, cells := Cc, slots := Zz, locals := 159 } : Room) s m args below meth c (vx_MQ below (QiM D cA lo Q) (XcM D cA lo X) args s Cc Zz (fun q => lo ≤ q)) 13 D cA lo cc zz M 660 [(0, .ref a0), (2, .int i2), (3, .int i3), (4, .int i4), (6, .int i6), (7, .int i7)] []) (fun (a0 : Nat) (i1 : Int32) (i2 : Int32) (i3 : Int32) (i4 : Int32) (M : Mm) (cc zz : Nat) => QW p l e ({ frames := 9, cells := Cc, slots := Zz, locals := 159 } : Room) s m args below meth c (vx_MQ below (QiM D cA lo Q) (XcM D cA lo X) args s Cc Zz (fun q => lo ≤ q)) 13 D cA lo cc zz M 710 [(0, .ref a0), (1, .int i1), (2, .int i2), (3, .int i3), (4, .int i4)] []) (fun (a0 : Nat) (i2 : Int32) (i3 : Int32) (i4 : Int32) (i5 : Int32) (M : Mm) (cc zz : Nat) => QW p l e ({ frames := 9, cells := Cc, slots := Zz, locals := 159 } : Room) s m args below meth c (vx_MQ below (QiM D cA lo Q) (XcM D cA lo X) args s Cc Zz (fun q => lo ≤ q)) 13 D cA lo cc zz M 766 [(0, .ref a0), (2, .int i2), (3, .int i3), (4, .int i4), (5, .int i5)] []) (fun (a0 : Nat) (i1 : Int32) (i2 : Int32) (i3 : Int32) (i4 : Int32) (M : Mm) (cc zz : Nat) => QW p l e ({ frames := 9, cells := Cc, slots := Zz, locals := 159 } : Room) s m args below meth c (vx_MQ below (QiM D cA lo Q) (XcM D cA lo X) args s Cc Zz (fun q => lo ≤ q)) 13 D cA lo cc zz M 802 [(0, .ref a0), (1, .int i1), (2, .int i2), (3, .int i3), (4, .int i4)] []) (fun (a0 : Nat) (i2 : Int32) (i3 : Int32) (i4 : Int32) (i8 : Int32) (as0 : Nat) (is1 : Int32) (is2 : Int32) (is3 : Int32) (is4 : Int32) (M : Mm) (cc zz : Nat) => QW p l e ({ frames := 9, cells := Cc, slots := Zz, locals := 159 } : Room) s m args below meth c (vx_MQ below (QiM D cA lo Q) (XcM D cA lo X) args s Cc Zz (fun q => lo ≤ q)) 13 D cA lo cc zz M 238 [(0, .ref a0), (2, .int i2), (3, .int i3), (4, .int i4), (8, .int i8)] [.int is4, .int is3, .int is2, .int is1, .ref as0]) (fun (a0 : Nat) (i2 : Int32) (i3 : Int32) (i4 : Int32) (as0 : Nat) (M : Mm) (cc zz : Nat) => QW p l e ({ frames := 9, cells := Cc, slots := Zz, locals := 159 } : Room) s m args below meth c (vx_MQ below (QiM D cA lo Q) (XcM D cA lo X) args s Cc Zz (fun q => lo ≤ q)) 13 D cA lo cc zz M 834 [(0, .ref a0), (2, .int i2), (3, .int i3), (4, .int i4)] [.ref as0]) (fun (a0 : Nat) (i2 : Int32) (i3 : Int32) (i4 : Int32) (as0 : Nat) (M : Mm) (cc zz : Nat) => QW p l e ({ frames := 9, cells := Cc, slots := Zz, locals := 159 } : Room) s m args below meth c (vx_MQ below (QiM D cA lo Q) (XcM D cA lo X) args s Cc Zz (fun q => lo ≤ q)) 13 D cA lo cc zz M 867 [(0, .ref a0), (2, .int i2), (3, .int i3), (4, .int i4)] [.ref as0]) (fun (a0 : Nat) (i2 : Int32) (i3 : Int32) (i4 : Int32) (as0 : Nat) (M : Mm) (cc zz : Nat) => QW p l e ({ frames := 9, cells := Cc, slots := Zz, locals := 159 } : Room) s m args below meth c (vx_MQ below (QiM D cA lo Q) (XcM D cA lo X) args s Cc Zz (fun q => lo ≤ q)) 13 D cA lo cc zz M 900 [(0, .ref a0), (2, .int i2), (3, .int i3), (4, .int i4)] [.ref as0]) Cc Zz Q X M a0 i2 i3 i4 i6 i7 cc zz) : QW p l e ({ frames := 9, cells := Cc, slots := Zz, locals := 159 } : Room) s m args below meth c (vx_MQ below (QiM D cA lo Q) (XcM D cA lo X) args s Cc Zz (fun q => lo ≤ q)) 13 D cA lo cc zz M 552 [(0, .ref a0), (2, .int i2), (3, .int i3), (4, .int i4), (6, .int i6), (7, .int i7)] [] := by
  unfold S_L_act_552 at h
  refine q_aload_n C dL_act_552 rfl (j := 0) rfl ?_
  refine q_iload C dL_act_553 (j := 4) rfl ?_
  refine q_iload C dL_act_555 (j := 5) rfl ?_
  obtain ⟨dc_78, ds_78, hcz, h⟩ := h
  refine q_xi (qx_runV (As := [.int i6, .int i7]) (st := []) C (c_X8_flip l hl D cA lo h.2) (cwV 2 C.2.2.2.2.1 gL_act_X8_flip rfl rfl rfl (by decide +kernel) ⟨Nat.le_of_ble_eq_true rfl, Nat.le_of_ble_eq_true rfl⟩) h.1 (by decide) rfl rfl rfl (Nat.le_of_ble_eq_true rfl) dL_act_557 hcz) (fun E M_x h => ?_) (fun r_76 M_77 h => ?_)
  · rcases h with ⟨rfl, h⟩ | ⟨rfl, h⟩ | ⟨rfl, h⟩
    · have h := h
      refine q_catch (name := "") C htab (List.take 7 hhL_act) (552, 585, 834, 58) (List.drop 8 hhL_act) (by decide) (by decide) (by decide +kernel) (by decide) (by decide) (by decide +kernel) (fun qx => ?_)
      have h := h qx
      exact q_sub [0, 1, 2, 3] rfl h
    · have h := h
      refine q_catch (name := "") C htab (List.take 21 hhL_act) (552, 585, 867, 120) (List.drop 22 hhL_act) (by decide) (by decide) (by decide +kernel) (by decide) (by decide) (by decide +kernel) (fun qx => ?_)
      have h := h qx
      exact q_sub [0, 1, 2, 3] rfl h
    · have h := h
      refine q_catch (name := "") C htab (List.take 35 hhL_act) (552, 585, 900, 122) (List.drop 36 hhL_act) (by decide) (by decide) (by decide +kernel) (by decide) (by decide) (by decide +kernel) (fun qx => ?_)
      have h := h qx
      exact q_sub [0, 1, 2, 3] rfl h
  · refine q_if_lt (tgt := 584) C dL_act_560 (by decide) (fun z => ?_) (fun z => ?_)
    · have h := h.1 z
      refine q_iconst (v := 0) C dL_act_584 (by decide) ?_
      exact q_xret (q_zret C hr hlk dL_act_585 h.1 h.2.1 (Or.inl rfl) h.2.2)
    · have h := h.2 z
      refine q_aload_n C dL_act_563 rfl (j := 0) rfl ?_
      have hcz := h.1
      have h := h.2
      refine q_ci (q_runV (As := []) (st := []) C (c_X8_faces l D cA lo h.2) (cwV 0 C.2.2.2.2.1 gL_act_X8_faces rfl rfl rfl (by decide +kernel) ⟨Nat.le_of_ble_eq_true rfl, Nat.le_of_ble_eq_true rfl⟩) h.1 (by decide) rfl rfl rfl (Nat.le_of_ble_eq_true rfl) dL_act_564 ⟨Nat.le_trans (Nat.le_of_eq (Nat.add_zero _)) hcz.1, Nat.le_trans (Nat.le_of_eq (Nat.add_zero _)) hcz.2⟩) (fun r_79 M_z h => ?_)
      refine q_mem h.1 ?_
      have h := h.2
      refine q_iload C dL_act_567 (j := 3) rfl ?_
      refine q_icmp_ne (tgt := 584) C dL_act_569 (by decide) (fun z => ?_) (fun z => ?_)
      · have h := h.1 z
        refine q_iconst (v := 0) C dL_act_584 (by decide) ?_
        exact q_xret (q_zret C hr hlk dL_act_585 h.1 h.2.1 (Or.inl rfl) h.2.2)
      · have h := h.2 z
        refine q_aload_n C dL_act_572 rfl (j := 0) rfl ?_
        have hcz := h.1
        have h := h.2
        refine q_ci (q_runV (As := []) (st := []) C (c_X8_edges l D cA lo h.2) (cwV 0 C.2.2.2.2.1 gL_act_X8_edges rfl rfl rfl (by decide +kernel) ⟨Nat.le_of_ble_eq_true rfl, Nat.le_of_ble_eq_true rfl⟩) h.1 (by decide) rfl rfl rfl (Nat.le_of_ble_eq_true rfl) dL_act_573 ⟨Nat.le_trans (Nat.le_of_eq (Nat.add_zero _)) hcz.1, Nat.le_trans (Nat.le_of_eq (Nat.add_zero _)) hcz.2⟩) (fun r_80 M_z h => ?_)
        refine q_mem h.1 ?_
        have h := h.2
        refine q_iload_n C dL_act_576 rfl (j := 2) rfl ?_
        refine q_icmp_ne (tgt := 584) C dL_act_577 (by decide) (fun z => ?_) (fun z => ?_)
        · have h := h.1 z
          refine q_iconst (v := 0) C dL_act_584 (by decide) ?_
          exact q_xret (q_zret C hr hlk dL_act_585 h.1 h.2.1 (Or.inl rfl) h.2.2)
        · have h := h.2 z
          refine q_iconst (v := 1) C dL_act_580 (by decide) ?_
          refine q_goto (tgt := 585) C dL_act_581 (by decide) ?_
          exact q_xret (q_zret C hr hlk dL_act_585 h.1 h.2.1 (Or.inr rfl) h.2.2)
