def T_X8_edges (M : Mm) (a0 : Nat) (Q : Int32 → Prop) : Prop := kM M a0 = (8, 8) ∧ ∃ a_1 : Nat, rM M a0 1 = some a_1 ∧ kM M a_1 = (1, 5) ∧ T_X1_edgeCount M a_1 (fun r_2 => Q r_2)
theorem inX8_edges_X8 : ∀ w ∈ wsX80, w ∈ wsX8_edges := by decide +kernel
set_option maxRecDepth 100000 in
set_option maxHeartbeats 4000000 in
theorem c_X8_edges (l : Launch) (D : va_G) (cA : Nat → ClassId) (lo : Nat) {M : Mm} {a0 : Nat} {Q : Int32 → Prop} (h : T_X8_edges M a0 Q) : Met l yX8_edges wsX8_edges ({ frames := 3, cells := 0, slots := 0, locals := 68 } : Room) (PcM D cA lo [.ref a0] M) (QiM D cA lo (fun r M1 => M1 = M ∧ Q r)) 0 0 (fun q => lo ≤ q) := by
  refine q_start (cc := cX8_edges) (nL := 1) (ret := (some .int)) (by decide) rfl rfl (Nat.le_of_ble_eq_true rfl) ?_
  intro p e s m args below meth c C hr hlk hin
  unfold T_X8_edges at h
  refine q_aload_n C dX8_edges_0 rfl (j := 0) rfl ?_
  refine q_getR (ci := 8) (k0 := 1) (T := TX8) C inX8_edges_X8 rfl (by decide) h.1 (by decide) rfl (by decide +kernel) rfl dX8_edges_1 ?_
  obtain ⟨a_1, z, h⟩ := h.2
  refine q_ref z ?_
  refine q_ci (q_runV (As := []) (st := []) C (c_X1_edgeCount l D cA lo h.2) (cwV 0 C.2.2.2.2.1 gX8_edges_X1_edgeCount rfl rfl rfl (by decide +kernel) ⟨Nat.le_of_ble_eq_true rfl, Nat.le_of_ble_eq_true rfl⟩) h.1 (by decide) rfl rfl rfl (Nat.le_of_ble_eq_true rfl) dX8_edges_4 ⟨Nat.le_of_ble_eq_true rfl, Nat.le_of_ble_eq_true rfl⟩) (fun r_2 M_z h => ?_)
  refine q_mem h.1 ?_
  have h := h.2
  exact q_iret C hr hlk dX8_edges_7 (Nat.le_of_ble_eq_true rfl) (Nat.le_of_ble_eq_true rfl) ⟨rfl, h⟩
def T_X8_faces (M : Mm) (a0 : Nat) (Q : Int32 → Prop) : Prop := kM M a0 = (8, 8) ∧ ∃ a_1 : Nat, rM M a0 1 = some a_1 ∧ kM M a_1 = (1, 5) ∧ T_X1_left M a_1 (fun r_2 => Q r_2)
theorem inX8_faces_X8 : ∀ w ∈ wsX80, w ∈ wsX8_faces := by decide +kernel
set_option maxRecDepth 100000 in
set_option maxHeartbeats 4000000 in
theorem c_X8_faces (l : Launch) (D : va_G) (cA : Nat → ClassId) (lo : Nat) {M : Mm} {a0 : Nat} {Q : Int32 → Prop} (h : T_X8_faces M a0 Q) : Met l yX8_faces wsX8_faces ({ frames := 1, cells := 0, slots := 0, locals := 20 } : Room) (PcM D cA lo [.ref a0] M) (QiM D cA lo (fun r M1 => M1 = M ∧ Q r)) 0 0 (fun q => lo ≤ q) := by
  refine q_start (cc := cX8_faces) (nL := 1) (ret := (some .int)) (by decide) rfl rfl (Nat.le_of_ble_eq_true rfl) ?_
  intro p e s m args below meth c C hr hlk hin
  unfold T_X8_faces at h
  refine q_aload_n C dX8_faces_0 rfl (j := 0) rfl ?_
  refine q_getR (ci := 8) (k0 := 1) (T := TX8) C inX8_faces_X8 rfl (by decide) h.1 (by decide) rfl (by decide +kernel) rfl dX8_faces_1 ?_
  obtain ⟨a_1, z, h⟩ := h.2
  refine q_ref z ?_
  refine q_ci (q_runV (As := []) (st := []) C (c_X1_left l D cA lo h.2) (cwV 0 C.2.2.2.2.1 gX8_faces_X1_left rfl rfl rfl (by decide +kernel) ⟨Nat.le_of_ble_eq_true rfl, Nat.le_of_ble_eq_true rfl⟩) h.1 (by decide) rfl rfl rfl (Nat.le_of_ble_eq_true rfl) dX8_faces_4 ⟨Nat.le_of_ble_eq_true rfl, Nat.le_of_ble_eq_true rfl⟩) (fun r_2 M_z h => ?_)
  refine q_mem h.1 ?_
  have h := h.2
  exact q_iret C hr hlk dX8_faces_7 (Nat.le_of_ble_eq_true rfl) (Nat.le_of_ble_eq_true rfl) ⟨rfl, h⟩
def T_X8_holes (M : Mm) (a0 : Nat) (Q : Int32 → Mm → Prop) : Prop := kM M a0 = (8, 8) ∧ ∃ a_1 : Nat, rM M a0 2 = some a_1 ∧ kM M a_1 = (7, 6) ∧ T_X7_holeCount M a_1 (fun r_2 M_3 => Q r_2 M_3)
theorem inX8_holes_X8 : ∀ w ∈ wsX80, w ∈ wsX8_holes := by decide +kernel
set_option maxRecDepth 100000 in
set_option maxHeartbeats 4000000 in
theorem c_X8_holes (l : Launch) (D : va_G) (cA : Nat → ClassId) (lo : Nat) {M : Mm} {a0 : Nat} {Q : Int32 → Mm → Prop} (h : T_X8_holes M a0 Q) : Met l yX8_holes wsX8_holes ({ frames := 5, cells := 0, slots := 0, locals := 120 } : Room) (PcM D cA lo [.ref a0] M) (QiM D cA lo Q) 0 0 (fun q => lo ≤ q) := by
  refine q_start (cc := cX8_holes) (nL := 1) (ret := (some .int)) (by decide) rfl rfl (Nat.le_of_ble_eq_true rfl) ?_
  intro p e s m args below meth c C hr hlk hin
  unfold T_X8_holes at h
  refine q_aload_n C dX8_holes_0 rfl (j := 0) rfl ?_
  refine q_getR (ci := 8) (k0 := 2) (T := TX8) C inX8_holes_X8 rfl (by decide) h.1 (by decide) rfl (by decide +kernel) rfl dX8_holes_1 ?_
  obtain ⟨a_1, z, h⟩ := h.2
  refine q_ref z ?_
  refine q_ci (q_runV (As := []) (st := []) C (c_X7_holeCount l D cA lo h.2) (cwV 0 C.2.2.2.2.1 gX8_holes_X7_holeCount rfl rfl rfl (by decide +kernel) ⟨Nat.le_of_ble_eq_true rfl, Nat.le_of_ble_eq_true rfl⟩) h.1 (by decide) rfl rfl rfl (Nat.le_of_ble_eq_true rfl) dX8_holes_4 ⟨Nat.le_of_ble_eq_true rfl, Nat.le_of_ble_eq_true rfl⟩) (fun r_2 M_3 h => ?_)
  exact q_iret C hr hlk dX8_holes_7 (Nat.le_of_ble_eq_true rfl) (Nat.le_of_ble_eq_true rfl) h
def T_X8_shells (M : Mm) (a0 : Nat) (Q : Int32 → Mm → Prop) : Prop := kM M a0 = (8, 8) ∧ ∃ a_1 : Nat, rM M a0 2 = some a_1 ∧ kM M a_1 = (7, 6) ∧ T_X7_shellCount M a_1 (fun r_2 M_3 => Q r_2 M_3)
theorem inX8_shells_X8 : ∀ w ∈ wsX80, w ∈ wsX8_shells := by decide +kernel
set_option maxRecDepth 100000 in
set_option maxHeartbeats 4000000 in
theorem c_X8_shells (l : Launch) (D : va_G) (cA : Nat → ClassId) (lo : Nat) {M : Mm} {a0 : Nat} {Q : Int32 → Mm → Prop} (h : T_X8_shells M a0 Q) : Met l yX8_shells wsX8_shells ({ frames := 4, cells := 0, slots := 0, locals := 88 } : Room) (PcM D cA lo [.ref a0] M) (QiM D cA lo Q) 0 0 (fun q => lo ≤ q) := by
  refine q_start (cc := cX8_shells) (nL := 1) (ret := (some .int)) (by decide) rfl rfl (Nat.le_of_ble_eq_true rfl) ?_
  intro p e s m args below meth c C hr hlk hin
  unfold T_X8_shells at h
  refine q_aload_n C dX8_shells_0 rfl (j := 0) rfl ?_
  refine q_getR (ci := 8) (k0 := 2) (T := TX8) C inX8_shells_X8 rfl (by decide) h.1 (by decide) rfl (by decide +kernel) rfl dX8_shells_1 ?_
  obtain ⟨a_1, z, h⟩ := h.2
  refine q_ref z ?_
  refine q_ci (q_runV (As := []) (st := []) C (c_X7_shellCount l D cA lo h.2) (cwV 0 C.2.2.2.2.1 gX8_shells_X7_shellCount rfl rfl rfl (by decide +kernel) ⟨Nat.le_of_ble_eq_true rfl, Nat.le_of_ble_eq_true rfl⟩) h.1 (by decide) rfl rfl rfl (Nat.le_of_ble_eq_true rfl) dX8_shells_4 ⟨Nat.le_of_ble_eq_true rfl, Nat.le_of_ble_eq_true rfl⟩) (fun r_2 M_3 h => ?_)
  exact q_iret C hr hlk dX8_shells_7 (Nat.le_of_ble_eq_true rfl) (Nat.le_of_ble_eq_true rfl) h
def T_X8_countAround (M : Mm) (a0 : Nat) (i1 : Int32) (i2 : Int32) (Q : Int32 → Mm → Prop) : Prop := (i2 = 0 → kM M a0 = (8, 8) ∧ ∃ a_1 : Nat, rM M a0 1 = some a_1 ∧ kM M a_1 = (1, 5) ∧ T_X1_neighboursOf M a_1 i1 (fun r_2 => Q r_2 M)) ∧ (i2 = 1 → kM M a0 = (8, 8) ∧ ∃ a_3 : Nat, rM M a0 2 = some a_3 ∧ kM M a_3 = (7, 6) ∧ T_X7_facesAt M a_3 i1 (fun r_4 => Q r_4 M)) ∧ (i2 = 2 → kM M a0 = (8, 8) ∧ ∃ a_5 : Nat, rM M a0 2 = some a_5 ∧ kM M a_5 = (7, 6) ∧ T_X7_openFrom M a_5 i1 (fun r_6 => Q r_6 M)) ∧ (¬ i2 = 0 ∧ ¬ i2 = 1 ∧ ¬ i2 = 2 → kM M a0 = (8, 8) ∧ ∃ a_7 : Nat, rM M a0 2 = some a_7 ∧ kM M a_7 = (7, 6) ∧ T_X7_fanCount M a_7 i1 (fun r_8 M_9 => Q r_8 M_9))
theorem inX8_countAround_X8 : ∀ w ∈ wsX80, w ∈ wsX8_countAround := by decide +kernel
set_option maxRecDepth 100000 in
set_option maxHeartbeats 4000000 in
theorem c_X8_countAround (l : Launch) (D : va_G) (cA : Nat → ClassId) (lo : Nat) {M : Mm} {a0 : Nat} {i1 : Int32} {i2 : Int32} {Q : Int32 → Mm → Prop} (h : T_X8_countAround M a0 i1 i2 Q) : Met l yX8_countAround wsX8_countAround ({ frames := 4, cells := 0, slots := 0, locals := 93 } : Room) (PcM D cA lo [.ref a0, .int i1, .int i2] M) (QiM D cA lo Q) 0 0 (fun q => lo ≤ q) := by
  refine q_start (cc := cX8_countAround) (nL := 3) (ret := (some .int)) (by decide) rfl rfl (Nat.le_of_ble_eq_true rfl) ?_
  intro p e s m args below meth c C hr hlk hin
  unfold T_X8_countAround at h
  refine q_iload_n C dX8_countAround_0 rfl (j := 2) rfl ?_
  rcases Decidable.em (i2 = 0) with z0 | z0
  · have h := h.1 z0
    refine q_tableIn (off := 27) (tgt := 28) C dX8_countAround_1 (by rw [z0]; decide) (by rw [z0]; decide) (by rw [z0]; rfl) (by decide) ?_
    refine q_aload_n C dX8_countAround_28 rfl (j := 0) rfl ?_
    refine q_getR (ci := 8) (k0 := 1) (T := TX8) C inX8_countAround_X8 rfl (by decide) h.1 (by decide) rfl (by decide +kernel) rfl dX8_countAround_29 ?_
    obtain ⟨a_1, z, h⟩ := h.2
    refine q_ref z ?_
    refine q_iload_n C dX8_countAround_32 rfl (j := 1) rfl ?_
    refine q_ci (q_runV (As := [.int i1]) (st := []) C (c_X1_neighboursOf l D cA lo h.2) (cwV 1 C.2.2.2.2.1 gX8_countAround_X1_neighboursOf rfl rfl rfl (by decide +kernel) ⟨Nat.le_of_ble_eq_true rfl, Nat.le_of_ble_eq_true rfl⟩) h.1 (by decide) rfl rfl rfl (Nat.le_of_ble_eq_true rfl) dX8_countAround_33 ⟨Nat.le_of_ble_eq_true rfl, Nat.le_of_ble_eq_true rfl⟩) (fun r_2 M_z h => ?_)
    refine q_mem h.1 ?_
    have h := h.2
    exact q_iret C hr hlk dX8_countAround_36 (Nat.le_of_ble_eq_true rfl) (Nat.le_of_ble_eq_true rfl) h
  · have h := h.2
    rcases Decidable.em (i2 = 1) with z1 | z1
    · have h := h.1 z1
      refine q_tableIn (off := 36) (tgt := 37) C dX8_countAround_1 (by rw [z1]; decide) (by rw [z1]; decide) (by rw [z1]; rfl) (by decide) ?_
      refine q_aload_n C dX8_countAround_37 rfl (j := 0) rfl ?_
      refine q_getR (ci := 8) (k0 := 2) (T := TX8) C inX8_countAround_X8 rfl (by decide) h.1 (by decide) rfl (by decide +kernel) rfl dX8_countAround_38 ?_
      obtain ⟨a_3, z, h⟩ := h.2
      refine q_ref z ?_
      refine q_iload_n C dX8_countAround_41 rfl (j := 1) rfl ?_
      refine q_ci (q_runV (As := [.int i1]) (st := []) C (c_X7_facesAt l D cA lo h.2) (cwV 1 C.2.2.2.2.1 gX8_countAround_X7_facesAt rfl rfl rfl (by decide +kernel) ⟨Nat.le_of_ble_eq_true rfl, Nat.le_of_ble_eq_true rfl⟩) h.1 (by decide) rfl rfl rfl (Nat.le_of_ble_eq_true rfl) dX8_countAround_42 ⟨Nat.le_of_ble_eq_true rfl, Nat.le_of_ble_eq_true rfl⟩) (fun r_4 M_z h => ?_)
      refine q_mem h.1 ?_
      have h := h.2
      exact q_iret C hr hlk dX8_countAround_45 (Nat.le_of_ble_eq_true rfl) (Nat.le_of_ble_eq_true rfl) h
    · have h := h.2
      rcases Decidable.em (i2 = 2) with z2 | z2
      · have h := h.1 z2
        refine q_tableIn (off := 45) (tgt := 46) C dX8_countAround_1 (by rw [z2]; decide) (by rw [z2]; decide) (by rw [z2]; rfl) (by decide) ?_
        refine q_aload_n C dX8_countAround_46 rfl (j := 0) rfl ?_
        refine q_getR (ci := 8) (k0 := 2) (T := TX8) C inX8_countAround_X8 rfl (by decide) h.1 (by decide) rfl (by decide +kernel) rfl dX8_countAround_47 ?_
        obtain ⟨a_5, z, h⟩ := h.2
        refine q_ref z ?_
        refine q_iload_n C dX8_countAround_50 rfl (j := 1) rfl ?_
        refine q_ci (q_runV (As := [.int i1]) (st := []) C (c_X7_openFrom l D cA lo h.2) (cwV 1 C.2.2.2.2.1 gX8_countAround_X7_openFrom rfl rfl rfl (by decide +kernel) ⟨Nat.le_of_ble_eq_true rfl, Nat.le_of_ble_eq_true rfl⟩) h.1 (by decide) rfl rfl rfl (Nat.le_of_ble_eq_true rfl) dX8_countAround_51 ⟨Nat.le_of_ble_eq_true rfl, Nat.le_of_ble_eq_true rfl⟩) (fun r_6 M_z h => ?_)
        refine q_mem h.1 ?_
        have h := h.2
        exact q_iret C hr hlk dX8_countAround_54 (Nat.le_of_ble_eq_true rfl) (Nat.le_of_ble_eq_true rfl) h
      · have h := h.2
        have h := h ⟨z0, z1, z2⟩
        refine q_tableOut (tgt := 55) C dX8_countAround_1 (sw_out_3 z0 z1 z2) (by decide) ?_
        refine q_aload_n C dX8_countAround_55 rfl (j := 0) rfl ?_
        refine q_getR (ci := 8) (k0 := 2) (T := TX8) C inX8_countAround_X8 rfl (by decide) h.1 (by decide) rfl (by decide +kernel) rfl dX8_countAround_56 ?_
        obtain ⟨a_7, z, h⟩ := h.2
        refine q_ref z ?_
        refine q_iload_n C dX8_countAround_59 rfl (j := 1) rfl ?_
        refine q_ci (q_runV (As := [.int i1]) (st := []) C (c_X7_fanCount l D cA lo h.2) (cwV 1 C.2.2.2.2.1 gX8_countAround_X7_fanCount rfl rfl rfl (by decide +kernel) ⟨Nat.le_of_ble_eq_true rfl, Nat.le_of_ble_eq_true rfl⟩) h.1 (by decide) rfl rfl rfl (Nat.le_of_ble_eq_true rfl) dX8_countAround_60 ⟨Nat.le_of_ble_eq_true rfl, Nat.le_of_ble_eq_true rfl⟩) (fun r_8 M_9 h => ?_)
        exact q_iret C hr hlk dX8_countAround_63 (Nat.le_of_ble_eq_true rfl) (Nat.le_of_ble_eq_true rfl) h
def S_X8_wholeBulk_4 (K4 : Nat → Int64 → Int32 → Prop) (Q : Int64 → Prop) (M : Mm) (a0 : Nat) (l1 : Int64) (i3 : Int32) : Prop := kM M a0 = (8, 8) ∧ ∃ a_1 : Nat, rM M a0 1 = some a_1 ∧ kM M a_1 = (1, 5) ∧ T_X1_ever M a_1 (fun r_2 => (r_2 ≤ i3 → Q l1) ∧ (¬ r_2 ≤ i3 → kM M a0 = (8, 8) ∧ ∃ a_3 : Nat, rM M a0 0 = some a_3 ∧ kM M a0 = (8, 8) ∧ ∃ a_4 : Nat, rM M a0 1 = some a_4 ∧ kM M a_4 = (1, 5) ∧ T_X1_ring M a_4 i3 (fun r_5 => kM M a_3 = (3, 4) ∧ T_X3_bulkOf M a_3 r_5 (fun r_6 => K4 a0 (l1 + r_6) (i3 + 1)))))
def T_X8_wholeBulk (M : Mm) (a0 : Nat) (Q : Int64 → Prop) : Prop := ∀ (K4 : Nat → Int64 → Int32 → Prop), (∀ (a0 : Nat) (l1 : Int64) (i3 : Int32), S_X8_wholeBulk_4 K4 Q M a0 l1 i3 → K4 a0 l1 i3) → K4 a0 0 0
theorem inX8_wholeBulk_X8 : ∀ w ∈ wsX80, w ∈ wsX8_wholeBulk := by decide +kernel
set_option maxRecDepth 100000 in
set_option maxHeartbeats 4000000 in
theorem b_X8_wholeBulk_4 {p : Program} {l : Launch} {e : Env} {s : State} {m : MethodId} {args : Array Value} {below : List Frame} {meth : Method} {c : Code} {D : va_G} {cA : Nat → ClassId} {lo : Nat} (C : Cx p s m args c cX8_wholeBulk 4 RX8 wsX8_wholeBulk D cA lo) (hr : meth.sig.returnType = (some .long)) (hlk : meth.locks = false) {Q : Int64 → Prop} {M : Mm} (a0 : Nat) (l1 : Int64) (i3 : Int32) (h : S_X8_wholeBulk_4 (fun (a0 : Nat) (l1 : Int64) (i3 : Int32) => QW p l e ({ frames := 4, cells := 0, slots := 0, locals := 96 } : Room) s m args below meth c (MQ below (QlM D cA lo (fun r M1 => M1 = M ∧ Q r)) args s 0 0 (fun q => lo ≤ q)) 4 D cA lo 0 0 M 4 [(0, .ref a0), (1, .long l1), (3, .int i3)] []) Q M a0 l1 i3) : QW p l e ({ frames := 4, cells := 0, slots := 0, locals := 96 } : Room) s m args below meth c (MQ below (QlM D cA lo (fun r M1 => M1 = M ∧ Q r)) args s 0 0 (fun q => lo ≤ q)) 4 D cA lo 0 0 M 4 [(0, .ref a0), (1, .long l1), (3, .int i3)] [] := by
  unfold S_X8_wholeBulk_4 at h
  refine q_iload_n C dX8_wholeBulk_4 rfl (j := 2) rfl ?_
  refine q_aload_n C dX8_wholeBulk_5 rfl (j := 0) rfl ?_
  refine q_getR (ci := 8) (k0 := 1) (T := TX8) C inX8_wholeBulk_X8 rfl (by decide) h.1 (by decide) rfl (by decide +kernel) rfl dX8_wholeBulk_6 ?_
  obtain ⟨a_1, z, h⟩ := h.2
  refine q_ref z ?_
  refine q_ci (q_runV (As := []) (st := [.int i3]) C (c_X1_ever l D cA lo h.2) (cwV 0 C.2.2.2.2.1 gX8_wholeBulk_X1_ever rfl rfl rfl (by decide +kernel) ⟨Nat.le_of_ble_eq_true rfl, Nat.le_of_ble_eq_true rfl⟩) h.1 (by decide) rfl rfl rfl (Nat.le_of_ble_eq_true rfl) dX8_wholeBulk_9 ⟨Nat.le_of_ble_eq_true rfl, Nat.le_of_ble_eq_true rfl⟩) (fun r_2 M_z h => ?_)
  refine q_mem h.1 ?_
  have h := h.2
  refine q_icmp_ge (tgt := 39) C dX8_wholeBulk_12 (by decide) (fun z => ?_) (fun z => ?_)
  · have h := h.1 z
    refine q_lload_n C dX8_wholeBulk_39 rfl (j := 1) rfl ?_
    exact q_lret C hr hlk dX8_wholeBulk_40 (Nat.le_of_ble_eq_true rfl) (Nat.le_of_ble_eq_true rfl) ⟨rfl, h⟩
  · have h := h.2 z
    refine q_lload_n C dX8_wholeBulk_15 rfl (j := 1) rfl ?_
    refine q_aload_n C dX8_wholeBulk_16 rfl (j := 0) rfl ?_
    refine q_getR (ci := 8) (k0 := 0) (T := TX8) C inX8_wholeBulk_X8 rfl (by decide) h.1 (by decide) rfl (by decide +kernel) rfl dX8_wholeBulk_17 ?_
    obtain ⟨a_3, z, h⟩ := h.2
    refine q_ref z ?_
    refine q_aload_n C dX8_wholeBulk_20 rfl (j := 0) rfl ?_
    refine q_getR (ci := 8) (k0 := 1) (T := TX8) C inX8_wholeBulk_X8 rfl (by decide) h.1 (by decide) rfl (by decide +kernel) rfl dX8_wholeBulk_21 ?_
    obtain ⟨a_4, z, h⟩ := h.2
    refine q_ref z ?_
    refine q_iload_n C dX8_wholeBulk_24 rfl (j := 2) rfl ?_
    refine q_cr (q_runV (As := [.int i3]) (st := [.ref a_3, .long l1]) C (c_X1_ring l D cA lo h.2) (cwV 1 C.2.2.2.2.1 gX8_wholeBulk_X1_ring rfl rfl rfl (by decide +kernel) ⟨Nat.le_of_ble_eq_true rfl, Nat.le_of_ble_eq_true rfl⟩) h.1 (by decide) rfl rfl rfl (Nat.le_of_ble_eq_true rfl) dX8_wholeBulk_25 ⟨Nat.le_of_ble_eq_true rfl, Nat.le_of_ble_eq_true rfl⟩) (fun r_5 M_z h => ?_)
    refine q_mem h.1 ?_
    have h := h.2
    refine q_cl (q_runV (As := [.ref r_5]) (st := [.long l1]) C (c_X3_bulkOf l D cA lo h.2) (cwV 1 C.2.2.2.2.1 gX8_wholeBulk_X3_bulkOf rfl rfl rfl (by decide +kernel) ⟨Nat.le_of_ble_eq_true rfl, Nat.le_of_ble_eq_true rfl⟩) h.1 (by decide) rfl rfl rfl (Nat.le_of_ble_eq_true rfl) dX8_wholeBulk_28 ⟨Nat.le_of_ble_eq_true rfl, Nat.le_of_ble_eq_true rfl⟩) (fun r_6 M_z h => ?_)
    refine q_mem h.1 ?_
    have h := h.2
    refine q_ladd C dX8_wholeBulk_31 ?_
    refine q_lstore_n (lv' := [(1, .long (l1 + r_6)), (0, .ref a0), (3, .int i3)]) C dX8_wholeBulk_32 rfl (by decide) rfl ?_
    refine q_iinc (v := (i3 + 1)) (lv' := [(3, .int (i3 + 1)), (1, .long (l1 + r_6)), (0, .ref a0)]) C dX8_wholeBulk_33 (j := 2) rfl rfl (by decide) rfl ?_
    refine q_goto (tgt := 4) C dX8_wholeBulk_36 (by decide) ?_
    exact q_sub [2, 1, 0] rfl h
set_option maxRecDepth 100000 in
set_option maxHeartbeats 4000000 in
theorem c_X8_wholeBulk (l : Launch) (D : va_G) (cA : Nat → ClassId) (lo : Nat) {M : Mm} {a0 : Nat} {Q : Int64 → Prop} (h : T_X8_wholeBulk M a0 Q) : Met l yX8_wholeBulk wsX8_wholeBulk ({ frames := 4, cells := 0, slots := 0, locals := 96 } : Room) (PcM D cA lo [.ref a0] M) (QlM D cA lo (fun r M1 => M1 = M ∧ Q r)) 0 0 (fun q => lo ≤ q) := by
  refine q_start (cc := cX8_wholeBulk) (nL := 4) (ret := (some .long)) (by decide) rfl rfl (Nat.le_of_ble_eq_true rfl) ?_
  intro p e s m args below meth c C hr hlk hin
  unfold T_X8_wholeBulk at h
  have h := h (fun (a0 : Nat) (l1 : Int64) (i3 : Int32) => QW p l e ({ frames := 4, cells := 0, slots := 0, locals := 96 } : Room) s m args below meth c (MQ below (QlM D cA lo (fun r M1 => M1 = M ∧ Q r)) args s 0 0 (fun q => lo ≤ q)) 4 D cA lo 0 0 M 4 [(0, .ref a0), (1, .long l1), (3, .int i3)] []) (fun a0 l1 i3 h => b_X8_wholeBulk_4 C hr hlk a0 l1 i3 h)
  refine q_lconst (v := 0) C dX8_wholeBulk_0 (by decide) ?_
  refine q_lstore_n (lv' := [(1, .long 0), (0, .ref a0)]) C dX8_wholeBulk_1 rfl (by decide) rfl ?_
  refine q_iconst (v := 0) C dX8_wholeBulk_2 (by decide) ?_
  refine q_istore_n (lv' := [(3, .int 0), (1, .long 0), (0, .ref a0)]) C dX8_wholeBulk_3 rfl (by decide) rfl ?_
  exact q_sub [2, 1, 0] rfl h
def T_X8_volume (M : Mm) (a0 : Nat) (Q : Int64 → Prop) : Prop := kM M a0 = (8, 8) ∧ T_X8_wholeBulk M a0 (fun r_1 => Q r_1)
set_option maxRecDepth 100000 in
set_option maxHeartbeats 4000000 in
theorem c_X8_volume (l : Launch) (D : va_G) (cA : Nat → ClassId) (lo : Nat) {M : Mm} {a0 : Nat} {Q : Int64 → Prop} (h : T_X8_volume M a0 Q) : Met l yX8_volume wsX8_volume ({ frames := 5, cells := 0, slots := 0, locals := 119 } : Room) (PcM D cA lo [.ref a0] M) (QlM D cA lo (fun r M1 => M1 = M ∧ Q r)) 0 0 (fun q => lo ≤ q) := by
  refine q_start (cc := cX8_volume) (nL := 1) (ret := (some .long)) (by decide) rfl rfl (Nat.le_of_ble_eq_true rfl) ?_
  intro p e s m args below meth c C hr hlk hin
  unfold T_X8_volume at h
  refine q_aload_n C dX8_volume_0 rfl (j := 0) rfl ?_
  refine q_cl (q_runV (As := []) (st := []) C (c_X8_wholeBulk l D cA lo h.2) (cwV 0 C.2.2.2.2.1 gX8_volume_X8_wholeBulk rfl rfl rfl (by decide +kernel) ⟨Nat.le_of_ble_eq_true rfl, Nat.le_of_ble_eq_true rfl⟩) h.1 (by decide) rfl rfl rfl (Nat.le_of_ble_eq_true rfl) dX8_volume_1 ⟨Nat.le_of_ble_eq_true rfl, Nat.le_of_ble_eq_true rfl⟩) (fun r_1 M_z h => ?_)
  refine q_mem h.1 ?_
  have h := h.2
  exact q_lret C hr hlk dX8_volume_4 (Nat.le_of_ble_eq_true rfl) (Nat.le_of_ble_eq_true rfl) ⟨rfl, h⟩
def S_X8_sumOfSquares_4 (K4 : Nat → Int64 → Int32 → Prop) (K28 : Nat → Int64 → Int32 → Nat → Int32 → Prop) (Q : Int64 → Prop) (M : Mm) (a0 : Nat) (l1 : Int64) (i3 : Int32) : Prop := kM M a0 = (8, 8) ∧ ∃ a_1 : Nat, rM M a0 1 = some a_1 ∧ kM M a_1 = (1, 5) ∧ T_X1_ever M a_1 (fun r_2 => (r_2 ≤ i3 → Q l1) ∧ (¬ r_2 ≤ i3 → kM M a0 = (8, 8) ∧ ∃ a_3 : Nat, rM M a0 1 = some a_3 ∧ kM M a_3 = (1, 5) ∧ T_X1_ring M a_3 i3 (fun r_4 => K28 a0 l1 i3 r_4 0)))
def S_X8_sumOfSquares_28 (K4 : Nat → Int64 → Int32 → Prop) (K28 : Nat → Int64 → Int32 → Nat → Int32 → Prop) (Q : Int64 → Prop) (M : Mm) (a0 : Nat) (l1 : Int64) (i3 : Int32) (a4 : Nat) (i5 : Int32) : Prop := kM M a4 = (5, 2) ∧ T_X5_length M a4 (fun r_5 => (r_5 ≤ i5 → K4 a0 l1 (i3 + 1)) ∧ (¬ r_5 ≤ i5 → kM M a0 = (8, 8) ∧ ∃ a_6 : Nat, rM M a0 1 = some a_6 ∧ kM M a4 = (5, 2) ∧ T_X5_get M a4 i5 (fun r_7 => kM M a4 = (5, 2) ∧ T_X5_get M a4 (i5 + 1) (fun r_8 => kM M a_6 = (1, 5) ∧ T_X1_isToldBy M a_6 r_7 r_8 (fun r_9 => (r_9 = 0 → K28 a0 l1 i3 a4 (i5 + 1)) ∧ (¬ r_9 = 0 → kM M a0 = (8, 8) ∧ ∃ a_10 : Nat, rM M a0 0 = some a_10 ∧ kM M a4 = (5, 2) ∧ T_X5_get M a4 i5 (fun r_11 => kM M a4 = (5, 2) ∧ T_X5_get M a4 (i5 + 1) (fun r_12 => kM M a_10 = (3, 4) ∧ T_X3_squaredLength M a_10 r_11 r_12 (fun r_13 => K28 a0 (l1 + r_13.toInt64) i3 a4 (i5 + 1))))))))))
def T_X8_sumOfSquares (M : Mm) (a0 : Nat) (Q : Int64 → Prop) : Prop := ∀ (K4 : Nat → Int64 → Int32 → Prop) (K28 : Nat → Int64 → Int32 → Nat → Int32 → Prop), (∀ (a0 : Nat) (l1 : Int64) (i3 : Int32), S_X8_sumOfSquares_4 K4 K28 Q M a0 l1 i3 → K4 a0 l1 i3) → (∀ (a0 : Nat) (l1 : Int64) (i3 : Int32) (a4 : Nat) (i5 : Int32), S_X8_sumOfSquares_28 K4 K28 Q M a0 l1 i3 a4 i5 → K28 a0 l1 i3 a4 i5) → K4 a0 0 0
theorem inX8_sumOfSquares_X8 : ∀ w ∈ wsX80, w ∈ wsX8_sumOfSquares := by decide +kernel
set_option maxRecDepth 100000 in
set_option maxHeartbeats 4000000 in
theorem b_X8_sumOfSquares_4 {p : Program} {l : Launch} {e : Env} {s : State} {m : MethodId} {args : Array Value} {below : List Frame} {meth : Method} {c : Code} {D : va_G} {cA : Nat → ClassId} {lo : Nat} (C : Cx p s m args c cX8_sumOfSquares 6 RX8 wsX8_sumOfSquares D cA lo) (hr : meth.sig.returnType = (some .long)) (hlk : meth.locks = false) {Q : Int64 → Prop} {M : Mm} (a0 : Nat) (l1 : Int64) (i3 : Int32) (h : S_X8_sumOfSquares_4 (fun (a0 : Nat) (l1 : Int64) (i3 : Int32) => QW p l e ({ frames := 3, cells := 0, slots := 0, locals := 67 } : Room) s m args below meth c (MQ below (QlM D cA lo (fun r M1 => M1 = M ∧ Q r)) args s 0 0 (fun q => lo ≤ q)) 6 D cA lo 0 0 M 4 [(0, .ref a0), (1, .long l1), (3, .int i3)] []) (fun (a0 : Nat) (l1 : Int64) (i3 : Int32) (a4 : Nat) (i5 : Int32) => QW p l e ({ frames := 3, cells := 0, slots := 0, locals := 67 } : Room) s m args below meth c (MQ below (QlM D cA lo (fun r M1 => M1 = M ∧ Q r)) args s 0 0 (fun q => lo ≤ q)) 6 D cA lo 0 0 M 28 [(0, .ref a0), (1, .long l1), (3, .int i3), (4, .ref a4), (5, .int i5)] []) Q M a0 l1 i3) : QW p l e ({ frames := 3, cells := 0, slots := 0, locals := 67 } : Room) s m args below meth c (MQ below (QlM D cA lo (fun r M1 => M1 = M ∧ Q r)) args s 0 0 (fun q => lo ≤ q)) 6 D cA lo 0 0 M 4 [(0, .ref a0), (1, .long l1), (3, .int i3)] [] := by
  unfold S_X8_sumOfSquares_4 at h
  refine q_iload_n C dX8_sumOfSquares_4 rfl (j := 2) rfl ?_
  refine q_aload_n C dX8_sumOfSquares_5 rfl (j := 0) rfl ?_
  refine q_getR (ci := 8) (k0 := 1) (T := TX8) C inX8_sumOfSquares_X8 rfl (by decide) h.1 (by decide) rfl (by decide +kernel) rfl dX8_sumOfSquares_6 ?_
  obtain ⟨a_1, z, h⟩ := h.2
  refine q_ref z ?_
  refine q_ci (q_runV (As := []) (st := [.int i3]) C (c_X1_ever l D cA lo h.2) (cwV 0 C.2.2.2.2.1 gX8_sumOfSquares_X1_ever rfl rfl rfl (by decide +kernel) ⟨Nat.le_of_ble_eq_true rfl, Nat.le_of_ble_eq_true rfl⟩) h.1 (by decide) rfl rfl rfl (Nat.le_of_ble_eq_true rfl) dX8_sumOfSquares_9 ⟨Nat.le_of_ble_eq_true rfl, Nat.le_of_ble_eq_true rfl⟩) (fun r_2 M_z h => ?_)
  refine q_mem h.1 ?_
  have h := h.2
  refine q_icmp_ge (tgt := 103) C dX8_sumOfSquares_12 (by decide) (fun z => ?_) (fun z => ?_)
  · have h := h.1 z
    refine q_lload_n C dX8_sumOfSquares_103 rfl (j := 1) rfl ?_
    exact q_lret C hr hlk dX8_sumOfSquares_104 (Nat.le_of_ble_eq_true rfl) (Nat.le_of_ble_eq_true rfl) ⟨rfl, h⟩
  · have h := h.2 z
    refine q_aload_n C dX8_sumOfSquares_15 rfl (j := 0) rfl ?_
    refine q_getR (ci := 8) (k0 := 1) (T := TX8) C inX8_sumOfSquares_X8 rfl (by decide) h.1 (by decide) rfl (by decide +kernel) rfl dX8_sumOfSquares_16 ?_
    obtain ⟨a_3, z, h⟩ := h.2
    refine q_ref z ?_
    refine q_iload_n C dX8_sumOfSquares_19 rfl (j := 2) rfl ?_
    refine q_cr (q_runV (As := [.int i3]) (st := []) C (c_X1_ring l D cA lo h.2) (cwV 1 C.2.2.2.2.1 gX8_sumOfSquares_X1_ring rfl rfl rfl (by decide +kernel) ⟨Nat.le_of_ble_eq_true rfl, Nat.le_of_ble_eq_true rfl⟩) h.1 (by decide) rfl rfl rfl (Nat.le_of_ble_eq_true rfl) dX8_sumOfSquares_20 ⟨Nat.le_of_ble_eq_true rfl, Nat.le_of_ble_eq_true rfl⟩) (fun r_4 M_z h => ?_)
    refine q_mem h.1 ?_
    have h := h.2
    refine q_astore (lv' := [(4, .ref r_4), (0, .ref a0), (1, .long l1), (3, .int i3)]) C dX8_sumOfSquares_23 (by decide) rfl ?_
    refine q_iconst (v := 0) C dX8_sumOfSquares_25 (by decide) ?_
    refine q_istore (lv' := [(5, .int 0), (4, .ref r_4), (0, .ref a0), (1, .long l1), (3, .int i3)]) C dX8_sumOfSquares_26 (by decide) rfl ?_
    exact q_sub [2, 3, 4, 1, 0] rfl h
set_option maxRecDepth 100000 in
set_option maxHeartbeats 4000000 in
theorem b_X8_sumOfSquares_28 {p : Program} {l : Launch} {e : Env} {s : State} {m : MethodId} {args : Array Value} {below : List Frame} {meth : Method} {c : Code} {D : va_G} {cA : Nat → ClassId} {lo : Nat} (C : Cx p s m args c cX8_sumOfSquares 6 RX8 wsX8_sumOfSquares D cA lo) (hr : meth.sig.returnType = (some .long)) (hlk : meth.locks = false) {Q : Int64 → Prop} {M : Mm} (a0 : Nat) (l1 : Int64) (i3 : Int32) (a4 : Nat) (i5 : Int32) (h : S_X8_sumOfSquares_28 (fun (a0 : Nat) (l1 : Int64) (i3 : Int32) => QW p l e ({ frames := 3, cells := 0, slots := 0, locals := 67 } : Room) s m args below meth c (MQ below (QlM D cA lo (fun r M1 => M1 = M ∧ Q r)) args s 0 0 (fun q => lo ≤ q)) 6 D cA lo 0 0 M 4 [(0, .ref a0), (1, .long l1), (3, .int i3)] []) (fun (a0 : Nat) (l1 : Int64) (i3 : Int32) (a4 : Nat) (i5 : Int32) => QW p l e ({ frames := 3, cells := 0, slots := 0, locals := 67 } : Room) s m args below meth c (MQ below (QlM D cA lo (fun r M1 => M1 = M ∧ Q r)) args s 0 0 (fun q => lo ≤ q)) 6 D cA lo 0 0 M 28 [(0, .ref a0), (1, .long l1), (3, .int i3), (4, .ref a4), (5, .int i5)] []) Q M a0 l1 i3 a4 i5) : QW p l e ({ frames := 3, cells := 0, slots := 0, locals := 67 } : Room) s m args below meth c (MQ below (QlM D cA lo (fun r M1 => M1 = M ∧ Q r)) args s 0 0 (fun q => lo ≤ q)) 6 D cA lo 0 0 M 28 [(0, .ref a0), (1, .long l1), (3, .int i3), (4, .ref a4), (5, .int i5)] [] := by
  unfold S_X8_sumOfSquares_28 at h
  refine q_iload C dX8_sumOfSquares_28 (j := 4) rfl ?_
  refine q_aload C dX8_sumOfSquares_30 (j := 3) rfl ?_
  refine q_ci (q_runV (As := []) (st := [.int i5]) C (c_X5_length l D cA lo h.2) (cwV 0 C.2.2.2.2.1 gX8_sumOfSquares_X5_length rfl rfl rfl (by decide +kernel) ⟨Nat.le_of_ble_eq_true rfl, Nat.le_of_ble_eq_true rfl⟩) h.1 (by decide) rfl rfl rfl (Nat.le_of_ble_eq_true rfl) dX8_sumOfSquares_32 ⟨Nat.le_of_ble_eq_true rfl, Nat.le_of_ble_eq_true rfl⟩) (fun r_5 M_z h => ?_)
  refine q_mem h.1 ?_
  have h := h.2
  refine q_icmp_ge (tgt := 97) C dX8_sumOfSquares_35 (by decide) (fun z => ?_) (fun z => ?_)
  · have h := h.1 z
    refine q_iinc (v := (i3 + 1)) (lv' := [(3, .int (i3 + 1)), (0, .ref a0), (1, .long l1), (4, .ref a4), (5, .int i5)]) C dX8_sumOfSquares_97 (j := 2) rfl rfl (by decide) rfl ?_
    refine q_goto (tgt := 4) C dX8_sumOfSquares_100 (by decide) ?_
    exact q_sub [1, 2, 0] rfl h
  · have h := h.2 z
    refine q_aload_n C dX8_sumOfSquares_38 rfl (j := 0) rfl ?_
    refine q_getR (ci := 8) (k0 := 1) (T := TX8) C inX8_sumOfSquares_X8 rfl (by decide) h.1 (by decide) rfl (by decide +kernel) rfl dX8_sumOfSquares_39 ?_
    obtain ⟨a_6, z, h⟩ := h.2
    refine q_ref z ?_
    refine q_aload C dX8_sumOfSquares_42 (j := 3) rfl ?_
    refine q_iload C dX8_sumOfSquares_44 (j := 4) rfl ?_
    refine q_ci (q_runV (As := [.int i5]) (st := [.ref a_6]) C (c_X5_get l D cA lo h.2) (cwV 1 C.2.2.2.2.1 gX8_sumOfSquares_X5_get rfl rfl rfl (by decide +kernel) ⟨Nat.le_of_ble_eq_true rfl, Nat.le_of_ble_eq_true rfl⟩) h.1 (by decide) rfl rfl rfl (Nat.le_of_ble_eq_true rfl) dX8_sumOfSquares_46 ⟨Nat.le_of_ble_eq_true rfl, Nat.le_of_ble_eq_true rfl⟩) (fun r_7 M_z h => ?_)
    refine q_mem h.1 ?_
    have h := h.2
    refine q_aload C dX8_sumOfSquares_49 (j := 3) rfl ?_
    refine q_iload C dX8_sumOfSquares_51 (j := 4) rfl ?_
    refine q_iconst (v := 1) C dX8_sumOfSquares_53 (by decide) ?_
    refine q_iadd C dX8_sumOfSquares_54 ?_
    refine q_ci (q_runV (As := [.int (i5 + 1)]) (st := [.int r_7, .ref a_6]) C (c_X5_get l D cA lo h.2) (cwV 1 C.2.2.2.2.1 gX8_sumOfSquares_X5_get rfl rfl rfl (by decide +kernel) ⟨Nat.le_of_ble_eq_true rfl, Nat.le_of_ble_eq_true rfl⟩) h.1 (by decide) rfl rfl rfl (Nat.le_of_ble_eq_true rfl) dX8_sumOfSquares_55 ⟨Nat.le_of_ble_eq_true rfl, Nat.le_of_ble_eq_true rfl⟩) (fun r_8 M_z h => ?_)
    refine q_mem h.1 ?_
    have h := h.2
    refine q_ci (q_runV (As := [.int r_7, .int r_8]) (st := []) C (c_X1_isToldBy l D cA lo h.2) (cwV 2 C.2.2.2.2.1 gX8_sumOfSquares_X1_isToldBy rfl rfl rfl (by decide +kernel) ⟨Nat.le_of_ble_eq_true rfl, Nat.le_of_ble_eq_true rfl⟩) h.1 (by decide) rfl rfl rfl (Nat.le_of_ble_eq_true rfl) dX8_sumOfSquares_58 ⟨Nat.le_of_ble_eq_true rfl, Nat.le_of_ble_eq_true rfl⟩) (fun r_9 M_z h => ?_)
    refine q_mem h.1 ?_
    have h := h.2
    refine q_if_eq (tgt := 91) C dX8_sumOfSquares_61 (by decide) (fun z => ?_) (fun z => ?_)
    · have h := h.1 z
      refine q_iinc (v := (i5 + 1)) (lv' := [(5, .int (i5 + 1)), (0, .ref a0), (1, .long l1), (3, .int i3), (4, .ref a4)]) C dX8_sumOfSquares_91 (j := 4) rfl rfl (by decide) rfl ?_
      refine q_goto (tgt := 28) C dX8_sumOfSquares_94 (by decide) ?_
      exact q_sub [1, 2, 3, 4, 0] rfl h
    · have h := h.2 z
      refine q_lload_n C dX8_sumOfSquares_64 rfl (j := 1) rfl ?_
      refine q_aload_n C dX8_sumOfSquares_65 rfl (j := 0) rfl ?_
      refine q_getR (ci := 8) (k0 := 0) (T := TX8) C inX8_sumOfSquares_X8 rfl (by decide) h.1 (by decide) rfl (by decide +kernel) rfl dX8_sumOfSquares_66 ?_
      obtain ⟨a_10, z, h⟩ := h.2
      refine q_ref z ?_
      refine q_aload C dX8_sumOfSquares_69 (j := 3) rfl ?_
      refine q_iload C dX8_sumOfSquares_71 (j := 4) rfl ?_
      refine q_ci (q_runV (As := [.int i5]) (st := [.ref a_10, .long l1]) C (c_X5_get l D cA lo h.2) (cwV 1 C.2.2.2.2.1 gX8_sumOfSquares_X5_get rfl rfl rfl (by decide +kernel) ⟨Nat.le_of_ble_eq_true rfl, Nat.le_of_ble_eq_true rfl⟩) h.1 (by decide) rfl rfl rfl (Nat.le_of_ble_eq_true rfl) dX8_sumOfSquares_73 ⟨Nat.le_of_ble_eq_true rfl, Nat.le_of_ble_eq_true rfl⟩) (fun r_11 M_z h => ?_)
      refine q_mem h.1 ?_
      have h := h.2
      refine q_aload C dX8_sumOfSquares_76 (j := 3) rfl ?_
      refine q_iload C dX8_sumOfSquares_78 (j := 4) rfl ?_
      refine q_iconst (v := 1) C dX8_sumOfSquares_80 (by decide) ?_
      refine q_iadd C dX8_sumOfSquares_81 ?_
      refine q_ci (q_runV (As := [.int (i5 + 1)]) (st := [.int r_11, .ref a_10, .long l1]) C (c_X5_get l D cA lo h.2) (cwV 1 C.2.2.2.2.1 gX8_sumOfSquares_X5_get rfl rfl rfl (by decide +kernel) ⟨Nat.le_of_ble_eq_true rfl, Nat.le_of_ble_eq_true rfl⟩) h.1 (by decide) rfl rfl rfl (Nat.le_of_ble_eq_true rfl) dX8_sumOfSquares_82 ⟨Nat.le_of_ble_eq_true rfl, Nat.le_of_ble_eq_true rfl⟩) (fun r_12 M_z h => ?_)
      refine q_mem h.1 ?_
      have h := h.2
      refine q_ci (q_runV (As := [.int r_11, .int r_12]) (st := [.long l1]) C (c_X3_squaredLength l D cA lo h.2) (cwV 2 C.2.2.2.2.1 gX8_sumOfSquares_X3_squaredLength rfl rfl rfl (by decide +kernel) ⟨Nat.le_of_ble_eq_true rfl, Nat.le_of_ble_eq_true rfl⟩) h.1 (by decide) rfl rfl rfl (Nat.le_of_ble_eq_true rfl) dX8_sumOfSquares_85 ⟨Nat.le_of_ble_eq_true rfl, Nat.le_of_ble_eq_true rfl⟩) (fun r_13 M_z h => ?_)
      refine q_mem h.1 ?_
      have h := h.2
      refine q_i2l C dX8_sumOfSquares_88 ?_
      refine q_ladd C dX8_sumOfSquares_89 ?_
      refine q_lstore_n (lv' := [(1, .long (l1 + r_13.toInt64)), (0, .ref a0), (3, .int i3), (4, .ref a4), (5, .int i5)]) C dX8_sumOfSquares_90 rfl (by decide) rfl ?_
      refine q_iinc (v := (i5 + 1)) (lv' := [(5, .int (i5 + 1)), (1, .long (l1 + r_13.toInt64)), (0, .ref a0), (3, .int i3), (4, .ref a4)]) C dX8_sumOfSquares_91 (j := 4) rfl rfl (by decide) rfl ?_
      refine q_goto (tgt := 28) C dX8_sumOfSquares_94 (by decide) ?_
      exact q_sub [2, 1, 3, 4, 0] rfl h
set_option maxRecDepth 100000 in
set_option maxHeartbeats 4000000 in
theorem c_X8_sumOfSquares (l : Launch) (D : va_G) (cA : Nat → ClassId) (lo : Nat) {M : Mm} {a0 : Nat} {Q : Int64 → Prop} (h : T_X8_sumOfSquares M a0 Q) : Met l yX8_sumOfSquares wsX8_sumOfSquares ({ frames := 3, cells := 0, slots := 0, locals := 67 } : Room) (PcM D cA lo [.ref a0] M) (QlM D cA lo (fun r M1 => M1 = M ∧ Q r)) 0 0 (fun q => lo ≤ q) := by
  refine q_start (cc := cX8_sumOfSquares) (nL := 6) (ret := (some .long)) (by decide) rfl rfl (Nat.le_of_ble_eq_true rfl) ?_
  intro p e s m args below meth c C hr hlk hin
  unfold T_X8_sumOfSquares at h
  have h := h (fun (a0 : Nat) (l1 : Int64) (i3 : Int32) => QW p l e ({ frames := 3, cells := 0, slots := 0, locals := 67 } : Room) s m args below meth c (MQ below (QlM D cA lo (fun r M1 => M1 = M ∧ Q r)) args s 0 0 (fun q => lo ≤ q)) 6 D cA lo 0 0 M 4 [(0, .ref a0), (1, .long l1), (3, .int i3)] []) (fun (a0 : Nat) (l1 : Int64) (i3 : Int32) (a4 : Nat) (i5 : Int32) => QW p l e ({ frames := 3, cells := 0, slots := 0, locals := 67 } : Room) s m args below meth c (MQ below (QlM D cA lo (fun r M1 => M1 = M ∧ Q r)) args s 0 0 (fun q => lo ≤ q)) 6 D cA lo 0 0 M 28 [(0, .ref a0), (1, .long l1), (3, .int i3), (4, .ref a4), (5, .int i5)] []) (fun a0 l1 i3 h => b_X8_sumOfSquares_4 C hr hlk a0 l1 i3 h) (fun a0 l1 i3 a4 i5 h => b_X8_sumOfSquares_28 C hr hlk a0 l1 i3 a4 i5 h)
  refine q_lconst (v := 0) C dX8_sumOfSquares_0 (by decide) ?_
  refine q_lstore_n (lv' := [(1, .long 0), (0, .ref a0)]) C dX8_sumOfSquares_1 rfl (by decide) rfl ?_
  refine q_iconst (v := 0) C dX8_sumOfSquares_2 (by decide) ?_
  refine q_istore_n (lv' := [(3, .int 0), (1, .long 0), (0, .ref a0)]) C dX8_sumOfSquares_3 rfl (by decide) rfl ?_
  exact q_sub [2, 1, 0] rfl h
def T_X8_meanEdge (M : Mm) (a0 : Nat) (Q : UInt64 → Prop) : Prop := kM M a0 = (8, 8) ∧ ∃ a_1 : Nat, rM M a0 1 = some a_1 ∧ kM M a_1 = (1, 5) ∧ T_X1_edgeCount M a_1 (fun r_2 => (¬ r_2 = 0 → kM M a0 = (8, 8) ∧ T_X8_sumOfSquares M a0 (fun r_3 => vf_n64 (FP.ddiv (FP.l2d r_3) (FP.i2d r_2)) ∧ Q (FP.ddiv (FP.l2d r_3) (FP.i2d r_2)))) ∧ (r_2 = 0 → Q FP.dconst0))
theorem inX8_meanEdge_X8 : ∀ w ∈ wsX80, w ∈ wsX8_meanEdge := by decide +kernel
set_option maxRecDepth 100000 in
set_option maxHeartbeats 4000000 in
theorem c_X8_meanEdge (l : Launch) (D : va_G) (cA : Nat → ClassId) (lo : Nat) {M : Mm} {a0 : Nat} {Q : UInt64 → Prop} (h : T_X8_meanEdge M a0 Q) : Met l yX8_meanEdge wsX8_meanEdge ({ frames := 4, cells := 0, slots := 0, locals := 92 } : Room) (PcM D cA lo [.ref a0] M) (QdM D cA lo (fun r M1 => M1 = M ∧ Q r)) 0 0 (fun q => lo ≤ q) := by
  refine q_start (cc := cX8_meanEdge) (nL := 2) (ret := (some .double)) (by decide) rfl rfl (Nat.le_of_ble_eq_true rfl) ?_
  intro p e s m args below meth c C hr hlk hin
  unfold T_X8_meanEdge at h
  refine q_aload_n C dX8_meanEdge_0 rfl (j := 0) rfl ?_
  refine q_getR (ci := 8) (k0 := 1) (T := TX8) C inX8_meanEdge_X8 rfl (by decide) h.1 (by decide) rfl (by decide +kernel) rfl dX8_meanEdge_1 ?_
  obtain ⟨a_1, z, h⟩ := h.2
  refine q_ref z ?_
  refine q_ci (q_runV (As := []) (st := []) C (c_X1_edgeCount l D cA lo h.2) (cwV 0 C.2.2.2.2.1 gX8_meanEdge_X1_edgeCount rfl rfl rfl (by decide +kernel) ⟨Nat.le_of_ble_eq_true rfl, Nat.le_of_ble_eq_true rfl⟩) h.1 (by decide) rfl rfl rfl (Nat.le_of_ble_eq_true rfl) dX8_meanEdge_4 ⟨Nat.le_of_ble_eq_true rfl, Nat.le_of_ble_eq_true rfl⟩) (fun r_2 M_z h => ?_)
  refine q_mem h.1 ?_
  have h := h.2
  refine q_istore_n (lv' := [(1, .int r_2), (0, .ref a0)]) C dX8_meanEdge_7 rfl (by decide) rfl ?_
  refine q_iload_n C dX8_meanEdge_8 rfl (j := 0) rfl ?_
  refine q_if_ne (tgt := 14) C dX8_meanEdge_9 (by decide) (fun z => ?_) (fun z => ?_)
  · have h := h.1 z
    refine q_aload_n C dX8_meanEdge_14 rfl (j := 1) rfl ?_
    refine q_cl (q_runV (As := []) (st := []) C (c_X8_sumOfSquares l D cA lo h.2) (cwV 0 C.2.2.2.2.1 gX8_meanEdge_X8_sumOfSquares rfl rfl rfl (by decide +kernel) ⟨Nat.le_of_ble_eq_true rfl, Nat.le_of_ble_eq_true rfl⟩) h.1 (by decide) rfl rfl rfl (Nat.le_of_ble_eq_true rfl) dX8_meanEdge_15 ⟨Nat.le_of_ble_eq_true rfl, Nat.le_of_ble_eq_true rfl⟩) (fun r_3 M_z h => ?_)
    refine q_mem h.1 ?_
    have h := h.2
    refine q_l2d C dX8_meanEdge_18 ?_
    refine q_iload_n C dX8_meanEdge_19 rfl (j := 0) rfl ?_
    refine q_i2d C dX8_meanEdge_20 ?_
    refine q_ddiv C dX8_meanEdge_21 h.1 ?_
    have h := h.2
    exact q_dret C hr hlk dX8_meanEdge_22 (Nat.le_of_ble_eq_true rfl) (Nat.le_of_ble_eq_true rfl) ⟨rfl, h⟩
  · have h := h.2 z
    refine q_dconst0 C dX8_meanEdge_12 ?_
    exact q_dret C hr hlk dX8_meanEdge_13 (Nat.le_of_ble_eq_true rfl) (Nat.le_of_ble_eq_true rfl) ⟨rfl, h⟩
def T_X8_isAllowed (M : Mm) (a0 : Nat) (i1 : Int32) (i2 : Int32) (i3 : Int32) (Q : Int32 → Mm → Prop) : Prop := (i1 = 0 → kM M a0 = (8, 8) ∧ ∃ a_1 : Nat, rM M a0 3 = some a_1 ∧ kM M a_1 = (0, 3) ∧ T_X0_fits M a_1 i2 i3 (fun r_2 M_3 => (r_2 = 0 ∨ r_2 = 1) ∧ Q r_2 M_3)) ∧ (i1 = 1 → kM M a0 = (8, 8) ∧ T_X8_isBetweenTriangles M a0 i2 i3 (fun r_4 => (r_4 = 0 → Q 0 M) ∧ (¬ r_4 = 0 → kM M a0 = (8, 8) ∧ T_X8_flipFits M a0 i2 i3 (fun r_5 => (r_5 = 0 → Q 0 M) ∧ (¬ r_5 = 0 → Q 1 M))))) ∧ (¬ i1 = 0 ∧ ¬ i1 = 1 → kM M a0 = (8, 8) ∧ ∃ a_6 : Nat, rM M a0 1 = some a_6 ∧ kM M a_6 = (1, 5) ∧ T_X1_isInner M a_6 i2 i3 (fun r_7 => (r_7 = 0 → Q 0 M) ∧ (¬ r_7 = 0 → kM M a0 = (8, 8) ∧ T_X8_joinFits M a0 i2 i3 (fun r_8 => (r_8 = 0 → Q 0 M) ∧ (¬ r_8 = 0 → Q 1 M)))))
theorem inX8_isAllowed_X8 : ∀ w ∈ wsX80, w ∈ wsX8_isAllowed := by decide +kernel
set_option maxRecDepth 100000 in
set_option maxHeartbeats 4000000 in
theorem c_X8_isAllowed (l : Launch) (D : va_G) (cA : Nat → ClassId) (lo : Nat) {M : Mm} {a0 : Nat} {i1 : Int32} {i2 : Int32} {i3 : Int32} {Q : Int32 → Mm → Prop} (h : T_X8_isAllowed M a0 i1 i2 i3 Q) : Met l yX8_isAllowed wsX8_isAllowed ({ frames := 4, cells := 0, slots := 0, locals := 95 } : Room) (PcM D cA lo [.ref a0, .int i1, .int i2, .int i3] M) (QiM D cA lo Q) 0 0 (fun q => lo ≤ q) := by
  refine q_start (cc := cX8_isAllowed) (nL := 4) (ret := (some .boolean)) (by decide) rfl rfl (Nat.le_of_ble_eq_true rfl) ?_
  intro p e s m args below meth c C hr hlk hin
  unfold T_X8_isAllowed at h
  refine q_iload_n C dX8_isAllowed_0 rfl (j := 1) rfl ?_
  rcases Decidable.em (i1 = 0) with z0 | z0
  · have h := h.1 z0
    refine q_lookup (off := 27) (tgt := 28) C dX8_isAllowed_1 rfl (by rw [z0]; rfl) (by decide) ?_
    refine q_aload_n C dX8_isAllowed_28 rfl (j := 0) rfl ?_
    refine q_getR (ci := 8) (k0 := 3) (T := TX8) C inX8_isAllowed_X8 rfl (by decide) h.1 (by decide) rfl (by decide +kernel) rfl dX8_isAllowed_29 ?_
    obtain ⟨a_1, z, h⟩ := h.2
    refine q_ref z ?_
    refine q_iload_n C dX8_isAllowed_32 rfl (j := 2) rfl ?_
    refine q_iload_n C dX8_isAllowed_33 rfl (j := 3) rfl ?_
    refine q_ci (q_runV (As := [.int i2, .int i3]) (st := []) C (c_X0_fits l D cA lo h.2) (cwV 2 C.2.2.2.2.1 gX8_isAllowed_X0_fits rfl rfl rfl (by decide +kernel) ⟨Nat.le_of_ble_eq_true rfl, Nat.le_of_ble_eq_true rfl⟩) h.1 (by decide) rfl rfl rfl (Nat.le_of_ble_eq_true rfl) dX8_isAllowed_34 ⟨Nat.le_of_ble_eq_true rfl, Nat.le_of_ble_eq_true rfl⟩) (fun r_2 M_3 h => ?_)
    exact q_zret C hr hlk dX8_isAllowed_37 (Nat.le_of_ble_eq_true rfl) (Nat.le_of_ble_eq_true rfl) h.1 h.2
  · have h := h.2
    rcases Decidable.em (i1 = 1) with z1 | z1
    · have h := h.1 z1
      refine q_lookup (off := 37) (tgt := 38) C dX8_isAllowed_1 rfl (by rw [z1]; rfl) (by decide) ?_
      refine q_aload_n C dX8_isAllowed_38 rfl (j := 0) rfl ?_
      refine q_iload_n C dX8_isAllowed_39 rfl (j := 2) rfl ?_
      refine q_iload_n C dX8_isAllowed_40 rfl (j := 3) rfl ?_
      refine q_ci (q_runV (As := [.int i2, .int i3]) (st := []) C (c_X8_isBetweenTriangles l D cA lo h.2) (cwV 2 C.2.2.2.2.1 gX8_isAllowed_X8_isBetweenTriangles rfl rfl rfl (by decide +kernel) ⟨Nat.le_of_ble_eq_true rfl, Nat.le_of_ble_eq_true rfl⟩) h.1 (by decide) rfl rfl rfl (Nat.le_of_ble_eq_true rfl) dX8_isAllowed_41 ⟨Nat.le_of_ble_eq_true rfl, Nat.le_of_ble_eq_true rfl⟩) (fun r_4 M_z h => ?_)
      refine q_mem h.1 ?_
      have h := h.2
      refine q_if_eq (tgt := 60) C dX8_isAllowed_44 (by decide) (fun z => ?_) (fun z => ?_)
      · have h := h.1 z
        refine q_iconst (v := 0) C dX8_isAllowed_60 (by decide) ?_
        exact q_zret C hr hlk dX8_isAllowed_61 (Nat.le_of_ble_eq_true rfl) (Nat.le_of_ble_eq_true rfl) (Or.inl rfl) h
      · have h := h.2 z
        refine q_aload_n C dX8_isAllowed_47 rfl (j := 0) rfl ?_
        refine q_iload_n C dX8_isAllowed_48 rfl (j := 2) rfl ?_
        refine q_iload_n C dX8_isAllowed_49 rfl (j := 3) rfl ?_
        refine q_ci (q_runV (As := [.int i2, .int i3]) (st := []) C (c_X8_flipFits l D cA lo h.2) (cwV 2 C.2.2.2.2.1 gX8_isAllowed_X8_flipFits rfl rfl rfl (by decide +kernel) ⟨Nat.le_of_ble_eq_true rfl, Nat.le_of_ble_eq_true rfl⟩) h.1 (by decide) rfl rfl rfl (Nat.le_of_ble_eq_true rfl) dX8_isAllowed_50 ⟨Nat.le_of_ble_eq_true rfl, Nat.le_of_ble_eq_true rfl⟩) (fun r_5 M_z h => ?_)
        refine q_mem h.1 ?_
        have h := h.2
        refine q_if_eq (tgt := 60) C dX8_isAllowed_53 (by decide) (fun z => ?_) (fun z => ?_)
        · have h := h.1 z
          refine q_iconst (v := 0) C dX8_isAllowed_60 (by decide) ?_
          exact q_zret C hr hlk dX8_isAllowed_61 (Nat.le_of_ble_eq_true rfl) (Nat.le_of_ble_eq_true rfl) (Or.inl rfl) h
        · have h := h.2 z
          refine q_iconst (v := 1) C dX8_isAllowed_56 (by decide) ?_
          refine q_goto (tgt := 61) C dX8_isAllowed_57 (by decide) ?_
          exact q_zret C hr hlk dX8_isAllowed_61 (Nat.le_of_ble_eq_true rfl) (Nat.le_of_ble_eq_true rfl) (Or.inr rfl) h
    · have h := h.2
      have h := h ⟨z0, z1⟩
      refine q_lookup (off := 61) (tgt := 62) C dX8_isAllowed_1 rfl (by refine (lv_osw z0 rfl).trans ?_; refine (lv_osw z1 rfl).trans ?_; rfl) (by decide) ?_
      refine q_aload_n C dX8_isAllowed_62 rfl (j := 0) rfl ?_
      refine q_getR (ci := 8) (k0 := 1) (T := TX8) C inX8_isAllowed_X8 rfl (by decide) h.1 (by decide) rfl (by decide +kernel) rfl dX8_isAllowed_63 ?_
      obtain ⟨a_6, z, h⟩ := h.2
      refine q_ref z ?_
      refine q_iload_n C dX8_isAllowed_66 rfl (j := 2) rfl ?_
      refine q_iload_n C dX8_isAllowed_67 rfl (j := 3) rfl ?_
      refine q_ci (q_runV (As := [.int i2, .int i3]) (st := []) C (c_X1_isInner l D cA lo h.2) (cwV 2 C.2.2.2.2.1 gX8_isAllowed_X1_isInner rfl rfl rfl (by decide +kernel) ⟨Nat.le_of_ble_eq_true rfl, Nat.le_of_ble_eq_true rfl⟩) h.1 (by decide) rfl rfl rfl (Nat.le_of_ble_eq_true rfl) dX8_isAllowed_68 ⟨Nat.le_of_ble_eq_true rfl, Nat.le_of_ble_eq_true rfl⟩) (fun r_7 M_z h => ?_)
      refine q_mem h.1 ?_
      have h := h.2
      refine q_if_eq (tgt := 87) C dX8_isAllowed_71 (by decide) (fun z => ?_) (fun z => ?_)
      · have h := h.1 z
        refine q_iconst (v := 0) C dX8_isAllowed_87 (by decide) ?_
        exact q_zret C hr hlk dX8_isAllowed_88 (Nat.le_of_ble_eq_true rfl) (Nat.le_of_ble_eq_true rfl) (Or.inl rfl) h
      · have h := h.2 z
        refine q_aload_n C dX8_isAllowed_74 rfl (j := 0) rfl ?_
        refine q_iload_n C dX8_isAllowed_75 rfl (j := 2) rfl ?_
        refine q_iload_n C dX8_isAllowed_76 rfl (j := 3) rfl ?_
        refine q_ci (q_runV (As := [.int i2, .int i3]) (st := []) C (c_X8_joinFits l D cA lo h.2) (cwV 2 C.2.2.2.2.1 gX8_isAllowed_X8_joinFits rfl rfl rfl (by decide +kernel) ⟨Nat.le_of_ble_eq_true rfl, Nat.le_of_ble_eq_true rfl⟩) h.1 (by decide) rfl rfl rfl (Nat.le_of_ble_eq_true rfl) dX8_isAllowed_77 ⟨Nat.le_of_ble_eq_true rfl, Nat.le_of_ble_eq_true rfl⟩) (fun r_8 M_z h => ?_)
        refine q_mem h.1 ?_
        have h := h.2
        refine q_if_eq (tgt := 87) C dX8_isAllowed_80 (by decide) (fun z => ?_) (fun z => ?_)
        · have h := h.1 z
          refine q_iconst (v := 0) C dX8_isAllowed_87 (by decide) ?_
          exact q_zret C hr hlk dX8_isAllowed_88 (Nat.le_of_ble_eq_true rfl) (Nat.le_of_ble_eq_true rfl) (Or.inl rfl) h
        · have h := h.2 z
          refine q_iconst (v := 1) C dX8_isAllowed_83 (by decide) ?_
          refine q_goto (tgt := 88) C dX8_isAllowed_84 (by decide) ?_
          exact q_zret C hr hlk dX8_isAllowed_88 (Nat.le_of_ble_eq_true rfl) (Nat.le_of_ble_eq_true rfl) (Or.inr rfl) h
def S_X8_countPairs_4 (K4 : Nat → Int32 → Int32 → Int32 → Mm → Prop) (K28 : Nat → Int32 → Int32 → Int32 → Nat → Int32 → Mm → Prop) (K76 : Nat → Int32 → Int32 → Nat → Int32 → Int32 → Int32 → Int32 → Int32 → Mm → Prop) (Q : Int32 → Mm → Prop) (M : Mm) (a0 : Nat) (i1 : Int32) (i2 : Int32) (i3 : Int32) : Prop := kM M a0 = (8, 8) ∧ ∃ a_1 : Nat, rM M a0 1 = some a_1 ∧ kM M a_1 = (1, 5) ∧ T_X1_ever M a_1 (fun r_2 => (r_2 ≤ i3 → Q i2 M) ∧ (¬ r_2 ≤ i3 → kM M a0 = (8, 8) ∧ ∃ a_3 : Nat, rM M a0 1 = some a_3 ∧ kM M a_3 = (1, 5) ∧ T_X1_ring M a_3 i3 (fun r_4 => K28 a0 i1 i2 i3 r_4 0 M)))
def S_X8_countPairs_28 (K4 : Nat → Int32 → Int32 → Int32 → Mm → Prop) (K28 : Nat → Int32 → Int32 → Int32 → Nat → Int32 → Mm → Prop) (K76 : Nat → Int32 → Int32 → Nat → Int32 → Int32 → Int32 → Int32 → Int32 → Mm → Prop) (Q : Int32 → Mm → Prop) (M : Mm) (a0 : Nat) (i1 : Int32) (i2 : Int32) (i3 : Int32) (a4 : Nat) (i5 : Int32) : Prop := kM M a4 = (5, 2) ∧ T_X5_length M a4 (fun r_5 => (r_5 ≤ i5 → K4 a0 i1 i2 (i3 + 1) M) ∧ (¬ r_5 ≤ i5 → kM M a4 = (5, 2) ∧ T_X5_get M a4 i5 (fun r_6 => kM M a4 = (5, 2) ∧ T_X5_get M a4 (i5 + 1) (fun r_7 => kM M a0 = (8, 8) ∧ T_X8_isAllowed M a0 i1 r_6 r_7 (fun r_8 M_9 => (r_8 = 0 → K76 a0 i1 i3 a4 i5 r_6 r_7 i2 0 M_9) ∧ (¬ r_8 = 0 → K76 a0 i1 i3 a4 i5 r_6 r_7 i2 1 M_9))))))
def S_X8_countPairs_76 (K4 : Nat → Int32 → Int32 → Int32 → Mm → Prop) (K28 : Nat → Int32 → Int32 → Int32 → Nat → Int32 → Mm → Prop) (K76 : Nat → Int32 → Int32 → Nat → Int32 → Int32 → Int32 → Int32 → Int32 → Mm → Prop) (Q : Int32 → Mm → Prop) (M : Mm) (a0 : Nat) (i1 : Int32) (i3 : Int32) (a4 : Nat) (i5 : Int32) (i6 : Int32) (i7 : Int32) (is0 : Int32) (is1 : Int32) : Prop := kM M a0 = (8, 8) ∧ ∃ a_10 : Nat, rM M a0 1 = some a_10 ∧ kM M a_10 = (1, 5) ∧ T_X1_isOpen M a_10 i7 i6 (fun r_11 => (r_11 = 0 → K28 a0 i1 ((is0 + is1) + 0) i3 a4 (i5 + 1) M) ∧ (¬ r_11 = 0 → kM M a0 = (8, 8) ∧ T_X8_isAllowed M a0 i1 i7 i6 (fun r_12 M_13 => (r_12 = 0 → K28 a0 i1 ((is0 + is1) + 0) i3 a4 (i5 + 1) M_13) ∧ (¬ r_12 = 0 → K28 a0 i1 ((is0 + is1) + 1) i3 a4 (i5 + 1) M_13))))
def T_X8_countPairs (M : Mm) (a0 : Nat) (i1 : Int32) (Q : Int32 → Mm → Prop) : Prop := ∀ (K4 : Nat → Int32 → Int32 → Int32 → Mm → Prop) (K28 : Nat → Int32 → Int32 → Int32 → Nat → Int32 → Mm → Prop) (K76 : Nat → Int32 → Int32 → Nat → Int32 → Int32 → Int32 → Int32 → Int32 → Mm → Prop), (∀ (a0 : Nat) (i1 : Int32) (i2 : Int32) (i3 : Int32) (M : Mm), S_X8_countPairs_4 K4 K28 K76 Q M a0 i1 i2 i3 → K4 a0 i1 i2 i3 M) → (∀ (a0 : Nat) (i1 : Int32) (i2 : Int32) (i3 : Int32) (a4 : Nat) (i5 : Int32) (M : Mm), S_X8_countPairs_28 K4 K28 K76 Q M a0 i1 i2 i3 a4 i5 → K28 a0 i1 i2 i3 a4 i5 M) → (∀ (a0 : Nat) (i1 : Int32) (i3 : Int32) (a4 : Nat) (i5 : Int32) (i6 : Int32) (i7 : Int32) (is0 : Int32) (is1 : Int32) (M : Mm), S_X8_countPairs_76 K4 K28 K76 Q M a0 i1 i3 a4 i5 i6 i7 is0 is1 → K76 a0 i1 i3 a4 i5 i6 i7 is0 is1 M) → K4 a0 i1 0 0 M
theorem inX8_countPairs_X8 : ∀ w ∈ wsX80, w ∈ wsX8_countPairs := by decide +kernel
set_option maxRecDepth 100000 in
set_option maxHeartbeats 4000000 in
theorem b_X8_countPairs_4 {p : Program} {l : Launch} {e : Env} {s : State} {m : MethodId} {args : Array Value} {below : List Frame} {meth : Method} {c : Code} {D : va_G} {cA : Nat → ClassId} {lo : Nat} (C : Cx p s m args c cX8_countPairs 8 RX8 wsX8_countPairs D cA lo) (hr : meth.sig.returnType = (some .int)) (hlk : meth.locks = false) {Q : Int32 → Mm → Prop} (M : Mm) (a0 : Nat) (i1 : Int32) (i2 : Int32) (i3 : Int32) (h : S_X8_countPairs_4 (fun (a0 : Nat) (i1 : Int32) (i2 : Int32) (i3 : Int32) (M : Mm) => QW p l e ({ frames := 5, cells := 0, slots := 0, locals := 118 } : Room) s m args below meth c (MQ below (QiM D cA lo Q) args s 0 0 (fun q => lo ≤ q)) 8 D cA lo 0 0 M 4 [(0, .ref a0), (1, .int i1), (2, .int i2), (3, .int i3)] []) (fun (a0 : Nat) (i1 : Int32) (i2 : Int32) (i3 : Int32) (a4 : Nat) (i5 : Int32) (M : Mm) => QW p l e ({ frames := 5, cells := 0, slots := 0, locals := 118 } : Room) s m args below meth c (MQ below (QiM D cA lo Q) args s 0 0 (fun q => lo ≤ q)) 8 D cA lo 0 0 M 28 [(0, .ref a0), (1, .int i1), (2, .int i2), (3, .int i3), (4, .ref a4), (5, .int i5)] []) (fun (a0 : Nat) (i1 : Int32) (i3 : Int32) (a4 : Nat) (i5 : Int32) (i6 : Int32) (i7 : Int32) (is0 : Int32) (is1 : Int32) (M : Mm) => QW p l e ({ frames := 5, cells := 0, slots := 0, locals := 118 } : Room) s m args below meth c (MQ below (QiM D cA lo Q) args s 0 0 (fun q => lo ≤ q)) 8 D cA lo 0 0 M 76 [(0, .ref a0), (1, .int i1), (3, .int i3), (4, .ref a4), (5, .int i5), (6, .int i6), (7, .int i7)] [.int is1, .int is0]) Q M a0 i1 i2 i3) : QW p l e ({ frames := 5, cells := 0, slots := 0, locals := 118 } : Room) s m args below meth c (MQ below (QiM D cA lo Q) args s 0 0 (fun q => lo ≤ q)) 8 D cA lo 0 0 M 4 [(0, .ref a0), (1, .int i1), (2, .int i2), (3, .int i3)] [] := by
  unfold S_X8_countPairs_4 at h
  refine q_iload_n C dX8_countPairs_4 rfl (j := 3) rfl ?_
  refine q_aload_n C dX8_countPairs_5 rfl (j := 0) rfl ?_
  refine q_getR (ci := 8) (k0 := 1) (T := TX8) C inX8_countPairs_X8 rfl (by decide) h.1 (by decide) rfl (by decide +kernel) rfl dX8_countPairs_6 ?_
  obtain ⟨a_1, z, h⟩ := h.2
  refine q_ref z ?_
  refine q_ci (q_runV (As := []) (st := [.int i3]) C (c_X1_ever l D cA lo h.2) (cwV 0 C.2.2.2.2.1 gX8_countPairs_X1_ever rfl rfl rfl (by decide +kernel) ⟨Nat.le_of_ble_eq_true rfl, Nat.le_of_ble_eq_true rfl⟩) h.1 (by decide) rfl rfl rfl (Nat.le_of_ble_eq_true rfl) dX8_countPairs_9 ⟨Nat.le_of_ble_eq_true rfl, Nat.le_of_ble_eq_true rfl⟩) (fun r_2 M_z h => ?_)
  refine q_mem h.1 ?_
  have h := h.2
  refine q_icmp_ge (tgt := 124) C dX8_countPairs_12 (by decide) (fun z => ?_) (fun z => ?_)
  · have h := h.1 z
    refine q_iload_n C dX8_countPairs_124 rfl (j := 2) rfl ?_
    exact q_iret C hr hlk dX8_countPairs_125 (Nat.le_of_ble_eq_true rfl) (Nat.le_of_ble_eq_true rfl) h
  · have h := h.2 z
    refine q_aload_n C dX8_countPairs_15 rfl (j := 0) rfl ?_
    refine q_getR (ci := 8) (k0 := 1) (T := TX8) C inX8_countPairs_X8 rfl (by decide) h.1 (by decide) rfl (by decide +kernel) rfl dX8_countPairs_16 ?_
    obtain ⟨a_3, z, h⟩ := h.2
    refine q_ref z ?_
    refine q_iload_n C dX8_countPairs_19 rfl (j := 3) rfl ?_
    refine q_cr (q_runV (As := [.int i3]) (st := []) C (c_X1_ring l D cA lo h.2) (cwV 1 C.2.2.2.2.1 gX8_countPairs_X1_ring rfl rfl rfl (by decide +kernel) ⟨Nat.le_of_ble_eq_true rfl, Nat.le_of_ble_eq_true rfl⟩) h.1 (by decide) rfl rfl rfl (Nat.le_of_ble_eq_true rfl) dX8_countPairs_20 ⟨Nat.le_of_ble_eq_true rfl, Nat.le_of_ble_eq_true rfl⟩) (fun r_4 M_z h => ?_)
    refine q_mem h.1 ?_
    have h := h.2
    refine q_astore (lv' := [(4, .ref r_4), (0, .ref a0), (1, .int i1), (2, .int i2), (3, .int i3)]) C dX8_countPairs_23 (by decide) rfl ?_
    refine q_iconst (v := 0) C dX8_countPairs_25 (by decide) ?_
    refine q_istore (lv' := [(5, .int 0), (4, .ref r_4), (0, .ref a0), (1, .int i1), (2, .int i2), (3, .int i3)]) C dX8_countPairs_26 (by decide) rfl ?_
    exact q_sub [2, 3, 4, 5, 1, 0] rfl h
set_option maxRecDepth 100000 in
set_option maxHeartbeats 4000000 in
theorem b_X8_countPairs_28 {p : Program} {l : Launch} {e : Env} {s : State} {m : MethodId} {args : Array Value} {below : List Frame} {meth : Method} {c : Code} {D : va_G} {cA : Nat → ClassId} {lo : Nat} (C : Cx p s m args c cX8_countPairs 8 RX8 wsX8_countPairs D cA lo) (hr : meth.sig.returnType = (some .int)) (hlk : meth.locks = false) {Q : Int32 → Mm → Prop} (M : Mm) (a0 : Nat) (i1 : Int32) (i2 : Int32) (i3 : Int32) (a4 : Nat) (i5 : Int32) (h : S_X8_countPairs_28 (fun (a0 : Nat) (i1 : Int32) (i2 : Int32) (i3 : Int32) (M : Mm) => QW p l e ({ frames := 5, cells := 0, slots := 0, locals := 118 } : Room) s m args below meth c (MQ below (QiM D cA lo Q) args s 0 0 (fun q => lo ≤ q)) 8 D cA lo 0 0 M 4 [(0, .ref a0), (1, .int i1), (2, .int i2), (3, .int i3)] []) (fun (a0 : Nat) (i1 : Int32) (i2 : Int32) (i3 : Int32) (a4 : Nat) (i5 : Int32) (M : Mm) => QW p l e ({ frames := 5, cells := 0, slots := 0, locals := 118 } : Room) s m args below meth c (MQ below (QiM D cA lo Q) args s 0 0 (fun q => lo ≤ q)) 8 D cA lo 0 0 M 28 [(0, .ref a0), (1, .int i1), (2, .int i2), (3, .int i3), (4, .ref a4), (5, .int i5)] []) (fun (a0 : Nat) (i1 : Int32) (i3 : Int32) (a4 : Nat) (i5 : Int32) (i6 : Int32) (i7 : Int32) (is0 : Int32) (is1 : Int32) (M : Mm) => QW p l e ({ frames := 5, cells := 0, slots := 0, locals := 118 } : Room) s m args below meth c (MQ below (QiM D cA lo Q) args s 0 0 (fun q => lo ≤ q)) 8 D cA lo 0 0 M 76 [(0, .ref a0), (1, .int i1), (3, .int i3), (4, .ref a4), (5, .int i5), (6, .int i6), (7, .int i7)] [.int is1, .int is0]) Q M a0 i1 i2 i3 a4 i5) : QW p l e ({ frames := 5, cells := 0, slots := 0, locals := 118 } : Room) s m args below meth c (MQ below (QiM D cA lo Q) args s 0 0 (fun q => lo ≤ q)) 8 D cA lo 0 0 M 28 [(0, .ref a0), (1, .int i1), (2, .int i2), (3, .int i3), (4, .ref a4), (5, .int i5)] [] := by
  unfold S_X8_countPairs_28 at h
  refine q_iload C dX8_countPairs_28 (j := 5) rfl ?_
  refine q_aload C dX8_countPairs_30 (j := 4) rfl ?_
  refine q_ci (q_runV (As := []) (st := [.int i5]) C (c_X5_length l D cA lo h.2) (cwV 0 C.2.2.2.2.1 gX8_countPairs_X5_length rfl rfl rfl (by decide +kernel) ⟨Nat.le_of_ble_eq_true rfl, Nat.le_of_ble_eq_true rfl⟩) h.1 (by decide) rfl rfl rfl (Nat.le_of_ble_eq_true rfl) dX8_countPairs_32 ⟨Nat.le_of_ble_eq_true rfl, Nat.le_of_ble_eq_true rfl⟩) (fun r_5 M_z h => ?_)
  refine q_mem h.1 ?_
  have h := h.2
  refine q_icmp_ge (tgt := 118) C dX8_countPairs_35 (by decide) (fun z => ?_) (fun z => ?_)
  · have h := h.1 z
    refine q_iinc (v := (i3 + 1)) (lv' := [(3, .int (i3 + 1)), (0, .ref a0), (1, .int i1), (2, .int i2), (4, .ref a4), (5, .int i5)]) C dX8_countPairs_118 (j := 3) rfl rfl (by decide) rfl ?_
    refine q_goto (tgt := 4) C dX8_countPairs_121 (by decide) ?_
    exact q_sub [1, 2, 3, 0] rfl h
  · have h := h.2 z
    refine q_aload C dX8_countPairs_38 (j := 4) rfl ?_
    refine q_iload C dX8_countPairs_40 (j := 5) rfl ?_
    refine q_ci (q_runV (As := [.int i5]) (st := []) C (c_X5_get l D cA lo h.2) (cwV 1 C.2.2.2.2.1 gX8_countPairs_X5_get rfl rfl rfl (by decide +kernel) ⟨Nat.le_of_ble_eq_true rfl, Nat.le_of_ble_eq_true rfl⟩) h.1 (by decide) rfl rfl rfl (Nat.le_of_ble_eq_true rfl) dX8_countPairs_42 ⟨Nat.le_of_ble_eq_true rfl, Nat.le_of_ble_eq_true rfl⟩) (fun r_6 M_z h => ?_)
    refine q_mem h.1 ?_
    have h := h.2
    refine q_istore (lv' := [(6, .int r_6), (0, .ref a0), (1, .int i1), (2, .int i2), (3, .int i3), (4, .ref a4), (5, .int i5)]) C dX8_countPairs_45 (by decide) rfl ?_
    refine q_aload C dX8_countPairs_47 (j := 5) rfl ?_
    refine q_iload C dX8_countPairs_49 (j := 6) rfl ?_
    refine q_iconst (v := 1) C dX8_countPairs_51 (by decide) ?_
    refine q_iadd C dX8_countPairs_52 ?_
    refine q_ci (q_runV (As := [.int (i5 + 1)]) (st := []) C (c_X5_get l D cA lo h.2) (cwV 1 C.2.2.2.2.1 gX8_countPairs_X5_get rfl rfl rfl (by decide +kernel) ⟨Nat.le_of_ble_eq_true rfl, Nat.le_of_ble_eq_true rfl⟩) h.1 (by decide) rfl rfl rfl (Nat.le_of_ble_eq_true rfl) dX8_countPairs_53 ⟨Nat.le_of_ble_eq_true rfl, Nat.le_of_ble_eq_true rfl⟩) (fun r_7 M_z h => ?_)
    refine q_mem h.1 ?_
    have h := h.2
    refine q_istore (lv' := [(7, .int r_7), (6, .int r_6), (0, .ref a0), (1, .int i1), (2, .int i2), (3, .int i3), (4, .ref a4), (5, .int i5)]) C dX8_countPairs_56 (by decide) rfl ?_
    refine q_iload_n C dX8_countPairs_58 rfl (j := 4) rfl ?_
    refine q_aload_n C dX8_countPairs_59 rfl (j := 2) rfl ?_
    refine q_iload_n C dX8_countPairs_60 rfl (j := 3) rfl ?_
    refine q_iload C dX8_countPairs_61 (j := 1) rfl ?_
    refine q_iload C dX8_countPairs_63 (j := 0) rfl ?_
    refine q_ci (q_runV (As := [.int i1, .int r_6, .int r_7]) (st := [.int i2]) C (c_X8_isAllowed l D cA lo h.2) (cwV 3 C.2.2.2.2.1 gX8_countPairs_X8_isAllowed rfl rfl rfl (by decide +kernel) ⟨Nat.le_of_ble_eq_true rfl, Nat.le_of_ble_eq_true rfl⟩) h.1 (by decide) rfl rfl rfl (Nat.le_of_ble_eq_true rfl) dX8_countPairs_65 ⟨Nat.le_of_ble_eq_true rfl, Nat.le_of_ble_eq_true rfl⟩) (fun r_8 M_9 h => ?_)
    refine q_if_eq (tgt := 75) C dX8_countPairs_68 (by decide) (fun z => ?_) (fun z => ?_)
    · have h := h.1 z
      refine q_iconst (v := 0) C dX8_countPairs_75 (by decide) ?_
      exact q_sub [2, 3, 5, 6, 7, 1, 0] rfl h
    · have h := h.2 z
      refine q_iconst (v := 1) C dX8_countPairs_71 (by decide) ?_
      refine q_goto (tgt := 76) C dX8_countPairs_72 (by decide) ?_
      exact q_sub [2, 3, 5, 6, 7, 1, 0] rfl h
set_option maxRecDepth 100000 in
set_option maxHeartbeats 4000000 in
theorem b_X8_countPairs_76 {p : Program} {l : Launch} {e : Env} {s : State} {m : MethodId} {args : Array Value} {below : List Frame} {meth : Method} {c : Code} {D : va_G} {cA : Nat → ClassId} {lo : Nat} (C : Cx p s m args c cX8_countPairs 8 RX8 wsX8_countPairs D cA lo) (hr : meth.sig.returnType = (some .int)) (hlk : meth.locks = false) {Q : Int32 → Mm → Prop} (M : Mm) (a0 : Nat) (i1 : Int32) (i3 : Int32) (a4 : Nat) (i5 : Int32) (i6 : Int32) (i7 : Int32) (is0 : Int32) (is1 : Int32) (h : S_X8_countPairs_76 (fun (a0 : Nat) (i1 : Int32) (i2 : Int32) (i3 : Int32) (M : Mm) => QW p l e ({ frames := 5, cells := 0, slots := 0, locals := 118 } : Room) s m args below meth c (MQ below (QiM D cA lo Q) args s 0 0 (fun q => lo ≤ q)) 8 D cA lo 0 0 M 4 [(0, .ref a0), (1, .int i1), (2, .int i2), (3, .int i3)] []) (fun (a0 : Nat) (i1 : Int32) (i2 : Int32) (i3 : Int32) (a4 : Nat) (i5 : Int32) (M : Mm) => QW p l e ({ frames := 5, cells := 0, slots := 0, locals := 118 } : Room) s m args below meth c (MQ below (QiM D cA lo Q) args s 0 0 (fun q => lo ≤ q)) 8 D cA lo 0 0 M 28 [(0, .ref a0), (1, .int i1), (2, .int i2), (3, .int i3), (4, .ref a4), (5, .int i5)] []) (fun (a0 : Nat) (i1 : Int32) (i3 : Int32) (a4 : Nat) (i5 : Int32) (i6 : Int32) (i7 : Int32) (is0 : Int32) (is1 : Int32) (M : Mm) => QW p l e ({ frames := 5, cells := 0, slots := 0, locals := 118 } : Room) s m args below meth c (MQ below (QiM D cA lo Q) args s 0 0 (fun q => lo ≤ q)) 8 D cA lo 0 0 M 76 [(0, .ref a0), (1, .int i1), (3, .int i3), (4, .ref a4), (5, .int i5), (6, .int i6), (7, .int i7)] [.int is1, .int is0]) Q M a0 i1 i3 a4 i5 i6 i7 is0 is1) : QW p l e ({ frames := 5, cells := 0, slots := 0, locals := 118 } : Room) s m args below meth c (MQ below (QiM D cA lo Q) args s 0 0 (fun q => lo ≤ q)) 8 D cA lo 0 0 M 76 [(0, .ref a0), (1, .int i1), (3, .int i3), (4, .ref a4), (5, .int i5), (6, .int i6), (7, .int i7)] [.int is1, .int is0] := by
  unfold S_X8_countPairs_76 at h
  refine q_iadd C dX8_countPairs_76 ?_
  refine q_istore_n (lv' := [(2, .int (is0 + is1)), (0, .ref a0), (1, .int i1), (3, .int i3), (4, .ref a4), (5, .int i5), (6, .int i6), (7, .int i7)]) C dX8_countPairs_77 rfl (by decide) rfl ?_
  refine q_iload_n C dX8_countPairs_78 rfl (j := 0) rfl ?_
  refine q_aload_n C dX8_countPairs_79 rfl (j := 1) rfl ?_
  refine q_getR (ci := 8) (k0 := 1) (T := TX8) C inX8_countPairs_X8 rfl (by decide) h.1 (by decide) rfl (by decide +kernel) rfl dX8_countPairs_80 ?_
  obtain ⟨a_10, z, h⟩ := h.2
  refine q_ref z ?_
  refine q_iload C dX8_countPairs_83 (j := 7) rfl ?_
  refine q_iload C dX8_countPairs_85 (j := 6) rfl ?_
  refine q_ci (q_runV (As := [.int i7, .int i6]) (st := [.int (is0 + is1)]) C (c_X1_isOpen l D cA lo h.2) (cwV 2 C.2.2.2.2.1 gX8_countPairs_X1_isOpen rfl rfl rfl (by decide +kernel) ⟨Nat.le_of_ble_eq_true rfl, Nat.le_of_ble_eq_true rfl⟩) h.1 (by decide) rfl rfl rfl (Nat.le_of_ble_eq_true rfl) dX8_countPairs_87 ⟨Nat.le_of_ble_eq_true rfl, Nat.le_of_ble_eq_true rfl⟩) (fun r_11 M_z h => ?_)
  refine q_mem h.1 ?_
  have h := h.2
  refine q_if_eq (tgt := 109) C dX8_countPairs_90 (by decide) (fun z => ?_) (fun z => ?_)
  · have h := h.1 z
    refine q_iconst (v := 0) C dX8_countPairs_109 (by decide) ?_
    refine q_iadd C dX8_countPairs_110 ?_
    refine q_istore_n (lv' := [(2, .int ((is0 + is1) + 0)), (0, .ref a0), (1, .int i1), (3, .int i3), (4, .ref a4), (5, .int i5), (6, .int i6), (7, .int i7)]) C dX8_countPairs_111 rfl (by decide) rfl ?_
    refine q_iinc (v := (i5 + 1)) (lv' := [(5, .int (i5 + 1)), (2, .int ((is0 + is1) + 0)), (0, .ref a0), (1, .int i1), (3, .int i3), (4, .ref a4), (6, .int i6), (7, .int i7)]) C dX8_countPairs_112 (j := 5) rfl rfl (by decide) rfl ?_
    refine q_goto (tgt := 28) C dX8_countPairs_115 (by decide) ?_
    exact q_sub [2, 3, 1, 4, 5, 0] rfl h
  · have h := h.2 z
    refine q_aload_n C dX8_countPairs_93 rfl (j := 1) rfl ?_
    refine q_iload_n C dX8_countPairs_94 rfl (j := 2) rfl ?_
    refine q_iload C dX8_countPairs_95 (j := 7) rfl ?_
    refine q_iload C dX8_countPairs_97 (j := 6) rfl ?_
    refine q_ci (q_runV (As := [.int i1, .int i7, .int i6]) (st := [.int (is0 + is1)]) C (c_X8_isAllowed l D cA lo h.2) (cwV 3 C.2.2.2.2.1 gX8_countPairs_X8_isAllowed rfl rfl rfl (by decide +kernel) ⟨Nat.le_of_ble_eq_true rfl, Nat.le_of_ble_eq_true rfl⟩) h.1 (by decide) rfl rfl rfl (Nat.le_of_ble_eq_true rfl) dX8_countPairs_99 ⟨Nat.le_of_ble_eq_true rfl, Nat.le_of_ble_eq_true rfl⟩) (fun r_12 M_13 h => ?_)
    refine q_if_eq (tgt := 109) C dX8_countPairs_102 (by decide) (fun z => ?_) (fun z => ?_)
    · have h := h.1 z
      refine q_iconst (v := 0) C dX8_countPairs_109 (by decide) ?_
      refine q_iadd C dX8_countPairs_110 ?_
      refine q_istore_n (lv' := [(2, .int ((is0 + is1) + 0)), (0, .ref a0), (1, .int i1), (3, .int i3), (4, .ref a4), (5, .int i5), (6, .int i6), (7, .int i7)]) C dX8_countPairs_111 rfl (by decide) rfl ?_
      refine q_iinc (v := (i5 + 1)) (lv' := [(5, .int (i5 + 1)), (2, .int ((is0 + is1) + 0)), (0, .ref a0), (1, .int i1), (3, .int i3), (4, .ref a4), (6, .int i6), (7, .int i7)]) C dX8_countPairs_112 (j := 5) rfl rfl (by decide) rfl ?_
      refine q_goto (tgt := 28) C dX8_countPairs_115 (by decide) ?_
      exact q_sub [2, 3, 1, 4, 5, 0] rfl h
    · have h := h.2 z
      refine q_iconst (v := 1) C dX8_countPairs_105 (by decide) ?_
      refine q_goto (tgt := 110) C dX8_countPairs_106 (by decide) ?_
      refine q_iadd C dX8_countPairs_110 ?_
      refine q_istore_n (lv' := [(2, .int ((is0 + is1) + 1)), (0, .ref a0), (1, .int i1), (3, .int i3), (4, .ref a4), (5, .int i5), (6, .int i6), (7, .int i7)]) C dX8_countPairs_111 rfl (by decide) rfl ?_
      refine q_iinc (v := (i5 + 1)) (lv' := [(5, .int (i5 + 1)), (2, .int ((is0 + is1) + 1)), (0, .ref a0), (1, .int i1), (3, .int i3), (4, .ref a4), (6, .int i6), (7, .int i7)]) C dX8_countPairs_112 (j := 5) rfl rfl (by decide) rfl ?_
      refine q_goto (tgt := 28) C dX8_countPairs_115 (by decide) ?_
      exact q_sub [2, 3, 1, 4, 5, 0] rfl h
set_option maxRecDepth 100000 in
set_option maxHeartbeats 4000000 in
theorem c_X8_countPairs (l : Launch) (D : va_G) (cA : Nat → ClassId) (lo : Nat) {M : Mm} {a0 : Nat} {i1 : Int32} {Q : Int32 → Mm → Prop} (h : T_X8_countPairs M a0 i1 Q) : Met l yX8_countPairs wsX8_countPairs ({ frames := 5, cells := 0, slots := 0, locals := 118 } : Room) (PcM D cA lo [.ref a0, .int i1] M) (QiM D cA lo Q) 0 0 (fun q => lo ≤ q) := by
  refine q_start (cc := cX8_countPairs) (nL := 8) (ret := (some .int)) (by decide) rfl rfl (Nat.le_of_ble_eq_true rfl) ?_
  intro p e s m args below meth c C hr hlk hin
  unfold T_X8_countPairs at h
  have h := h (fun (a0 : Nat) (i1 : Int32) (i2 : Int32) (i3 : Int32) (M : Mm) => QW p l e ({ frames := 5, cells := 0, slots := 0, locals := 118 } : Room) s m args below meth c (MQ below (QiM D cA lo Q) args s 0 0 (fun q => lo ≤ q)) 8 D cA lo 0 0 M 4 [(0, .ref a0), (1, .int i1), (2, .int i2), (3, .int i3)] []) (fun (a0 : Nat) (i1 : Int32) (i2 : Int32) (i3 : Int32) (a4 : Nat) (i5 : Int32) (M : Mm) => QW p l e ({ frames := 5, cells := 0, slots := 0, locals := 118 } : Room) s m args below meth c (MQ below (QiM D cA lo Q) args s 0 0 (fun q => lo ≤ q)) 8 D cA lo 0 0 M 28 [(0, .ref a0), (1, .int i1), (2, .int i2), (3, .int i3), (4, .ref a4), (5, .int i5)] []) (fun (a0 : Nat) (i1 : Int32) (i3 : Int32) (a4 : Nat) (i5 : Int32) (i6 : Int32) (i7 : Int32) (is0 : Int32) (is1 : Int32) (M : Mm) => QW p l e ({ frames := 5, cells := 0, slots := 0, locals := 118 } : Room) s m args below meth c (MQ below (QiM D cA lo Q) args s 0 0 (fun q => lo ≤ q)) 8 D cA lo 0 0 M 76 [(0, .ref a0), (1, .int i1), (3, .int i3), (4, .ref a4), (5, .int i5), (6, .int i6), (7, .int i7)] [.int is1, .int is0]) (fun a0 i1 i2 i3 M h => b_X8_countPairs_4 C hr hlk M a0 i1 i2 i3 h) (fun a0 i1 i2 i3 a4 i5 M h => b_X8_countPairs_28 C hr hlk M a0 i1 i2 i3 a4 i5 h) (fun a0 i1 i3 a4 i5 i6 i7 is0 is1 M h => b_X8_countPairs_76 C hr hlk M a0 i1 i3 a4 i5 i6 i7 is0 is1 h)
  refine q_iconst (v := 0) C dX8_countPairs_0 (by decide) ?_
  refine q_istore_n (lv' := [(2, .int 0), (0, .ref a0), (1, .int i1)]) C dX8_countPairs_1 rfl (by decide) rfl ?_
  refine q_iconst (v := 0) C dX8_countPairs_2 (by decide) ?_
  refine q_istore_n (lv' := [(3, .int 0), (2, .int 0), (0, .ref a0), (1, .int i1)]) C dX8_countPairs_3 rfl (by decide) rfl ?_
  exact q_sub [2, 3, 1, 0] rfl h
def T_X8_mix (M : Mm) (l0 : Int64) (l2 : Int64) (Q : Int64 → Prop) : Prop := Q ((l0 * 31) + l2)
set_option maxRecDepth 100000 in
set_option maxHeartbeats 4000000 in
theorem c_X8_mix (l : Launch) (D : va_G) (cA : Nat → ClassId) (lo : Nat) {M : Mm} {l0 : Int64} {l2 : Int64} {Q : Int64 → Prop} (h : T_X8_mix M l0 l2 Q) : Met l yX8_mix wsX8_mix ({ frames := 0, cells := 0, slots := 0, locals := 0 } : Room) (PcM D cA lo [.long l0, .long l2] M) (QlM D cA lo (fun r M1 => M1 = M ∧ Q r)) 0 0 (fun q => lo ≤ q) := by
  refine q_start (cc := cX8_mix) (nL := 4) (ret := (some .long)) (by decide) rfl rfl (Nat.le_of_ble_eq_true rfl) ?_
  intro p e s m args below meth c C hr hlk hin
  unfold T_X8_mix at h
  refine q_lload_n C dX8_mix_0 rfl (j := 0) rfl ?_
  refine q_ldc2 (v := 31) C (by decide +kernel) dX8_mix_1 ?_
  refine q_lmul C dX8_mix_4 ?_
  refine q_lload_n C dX8_mix_5 rfl (j := 1) rfl ?_
  refine q_ladd C dX8_mix_6 ?_
  exact q_lret C hr hlk dX8_mix_7 (Nat.le_of_ble_eq_true rfl) (Nat.le_of_ble_eq_true rfl) ⟨rfl, h⟩
def S_X8_mixPoint_11 (K11 : Nat → Int32 → Int64 → Int32 → Mm → Prop) (K44 : Nat → Int32 → Int64 → Int32 → Mm → Prop) (Q : Int64 → Mm → Prop) (M : Mm) (a0 : Nat) (i3 : Int32) (l4 : Int64) (i6 : Int32) : Prop := (3 ≤ i6 → K44 a0 i3 l4 0 M) ∧ (¬ 3 ≤ i6 → kM M a0 = (8, 8) ∧ ∃ a_2 : Nat, rM M a0 0 = some a_2 ∧ kM M a_2 = (3, 4) ∧ T_X3_get M a_2 i3 i6 (fun r_3 => T_X8_mix M l4 r_3.toInt64 (fun r_4 => K11 a0 i3 r_4 (i6 + 1) M)))
def S_X8_mixPoint_44 (K11 : Nat → Int32 → Int64 → Int32 → Mm → Prop) (K44 : Nat → Int32 → Int64 → Int32 → Mm → Prop) (Q : Int64 → Mm → Prop) (M : Mm) (a0 : Nat) (i3 : Int32) (l4 : Int64) (i6 : Int32) : Prop := (3 < i6 → Q l4 M) ∧ (¬ 3 < i6 → kM M a0 = (8, 8) ∧ T_X8_countAround M a0 i3 i6 (fun r_5 M_6 => T_X8_mix M_6 l4 r_5.toInt64 (fun r_7 => K44 a0 i3 r_7 (i6 + 1) M_6)))
def T_X8_mixPoint (M : Mm) (a0 : Nat) (l1 : Int64) (i3 : Int32) (Q : Int64 → Mm → Prop) : Prop := ∀ (K11 : Nat → Int32 → Int64 → Int32 → Mm → Prop) (K44 : Nat → Int32 → Int64 → Int32 → Mm → Prop), (∀ (a0 : Nat) (i3 : Int32) (l4 : Int64) (i6 : Int32) (M : Mm), S_X8_mixPoint_11 K11 K44 Q M a0 i3 l4 i6 → K11 a0 i3 l4 i6 M) → (∀ (a0 : Nat) (i3 : Int32) (l4 : Int64) (i6 : Int32) (M : Mm), S_X8_mixPoint_44 K11 K44 Q M a0 i3 l4 i6 → K44 a0 i3 l4 i6 M) → T_X8_mix M l1 i3.toInt64 (fun r_1 => K11 a0 i3 r_1 0 M)
theorem inX8_mixPoint_X8 : ∀ w ∈ wsX80, w ∈ wsX8_mixPoint := by decide +kernel
set_option maxRecDepth 100000 in
set_option maxHeartbeats 4000000 in
theorem b_X8_mixPoint_11 {p : Program} {l : Launch} {e : Env} {s : State} {m : MethodId} {args : Array Value} {below : List Frame} {meth : Method} {c : Code} {D : va_G} {cA : Nat → ClassId} {lo : Nat} (C : Cx p s m args c cX8_mixPoint 7 RX8 wsX8_mixPoint D cA lo) (hr : meth.sig.returnType = (some .long)) (hlk : meth.locks = false) {Q : Int64 → Mm → Prop} (M : Mm) (a0 : Nat) (i3 : Int32) (l4 : Int64) (i6 : Int32) (h : S_X8_mixPoint_11 (fun (a0 : Nat) (i3 : Int32) (l4 : Int64) (i6 : Int32) (M : Mm) => QW p l e ({ frames := 5, cells := 0, slots := 0, locals := 115 } : Room) s m args below meth c (MQ below (QlM D cA lo Q) args s 0 0 (fun q => lo ≤ q)) 7 D cA lo 0 0 M 11 [(0, .ref a0), (3, .int i3), (4, .long l4), (6, .int i6)] []) (fun (a0 : Nat) (i3 : Int32) (l4 : Int64) (i6 : Int32) (M : Mm) => QW p l e ({ frames := 5, cells := 0, slots := 0, locals := 115 } : Room) s m args below meth c (MQ below (QlM D cA lo Q) args s 0 0 (fun q => lo ≤ q)) 7 D cA lo 0 0 M 44 [(0, .ref a0), (3, .int i3), (4, .long l4), (6, .int i6)] []) Q M a0 i3 l4 i6) : QW p l e ({ frames := 5, cells := 0, slots := 0, locals := 115 } : Room) s m args below meth c (MQ below (QlM D cA lo Q) args s 0 0 (fun q => lo ≤ q)) 7 D cA lo 0 0 M 11 [(0, .ref a0), (3, .int i3), (4, .long l4), (6, .int i6)] [] := by
  unfold S_X8_mixPoint_11 at h
  refine q_iload C dX8_mixPoint_11 (j := 3) rfl ?_
  refine q_iconst (v := 3) C dX8_mixPoint_13 (by decide) ?_
  refine q_icmp_ge (tgt := 41) C dX8_mixPoint_14 (by decide) (fun z => ?_) (fun z => ?_)
  · have h := h.1 z
    refine q_iconst (v := 0) C dX8_mixPoint_41 (by decide) ?_
    refine q_istore (lv' := [(6, .int 0), (0, .ref a0), (3, .int i3), (4, .long l4)]) C dX8_mixPoint_42 (by decide) rfl ?_
    exact q_sub [1, 2, 3, 0] rfl h
  · have h := h.2 z
    refine q_lload C dX8_mixPoint_17 (j := 2) rfl ?_
    refine q_aload_n C dX8_mixPoint_19 rfl (j := 0) rfl ?_
    refine q_getR (ci := 8) (k0 := 0) (T := TX8) C inX8_mixPoint_X8 rfl (by decide) h.1 (by decide) rfl (by decide +kernel) rfl dX8_mixPoint_20 ?_
    obtain ⟨a_2, z, h⟩ := h.2
    refine q_ref z ?_
    refine q_iload_n C dX8_mixPoint_23 rfl (j := 1) rfl ?_
    refine q_iload C dX8_mixPoint_24 (j := 3) rfl ?_
    refine q_ci (q_runV (As := [.int i3, .int i6]) (st := [.long l4]) C (c_X3_get l D cA lo h.2) (cwV 2 C.2.2.2.2.1 gX8_mixPoint_X3_get rfl rfl rfl (by decide +kernel) ⟨Nat.le_of_ble_eq_true rfl, Nat.le_of_ble_eq_true rfl⟩) h.1 (by decide) rfl rfl rfl (Nat.le_of_ble_eq_true rfl) dX8_mixPoint_26 ⟨Nat.le_of_ble_eq_true rfl, Nat.le_of_ble_eq_true rfl⟩) (fun r_3 M_z h => ?_)
    refine q_mem h.1 ?_
    have h := h.2
    refine q_i2l C dX8_mixPoint_29 ?_
    refine q_cl (q_runS (As := [.long l4, .long r_3.toInt64]) (st := []) C (c_X8_mix l D cA lo h) (va_cwS 2 C.2.2.2.2.1 gX8_mixPoint_X8_mix rfl rfl rfl (by decide +kernel) ⟨Nat.le_of_ble_eq_true rfl, Nat.le_of_ble_eq_true rfl⟩) rfl rfl (Nat.le_of_ble_eq_true rfl) dX8_mixPoint_30 ⟨Nat.le_of_ble_eq_true rfl, Nat.le_of_ble_eq_true rfl⟩) (fun r_4 M_z h => ?_)
    refine q_mem h.1 ?_
    have h := h.2
    refine q_lstore (lv' := [(4, .long r_4), (0, .ref a0), (3, .int i3), (6, .int i6)]) C dX8_mixPoint_33 (by decide) rfl ?_
    refine q_iinc (v := (i6 + 1)) (lv' := [(6, .int (i6 + 1)), (4, .long r_4), (0, .ref a0), (3, .int i3)]) C dX8_mixPoint_35 (j := 3) rfl rfl (by decide) rfl ?_
    refine q_goto (tgt := 11) C dX8_mixPoint_38 (by decide) ?_
    exact q_sub [2, 3, 1, 0] rfl h
set_option maxRecDepth 100000 in
set_option maxHeartbeats 4000000 in
theorem b_X8_mixPoint_44 {p : Program} {l : Launch} {e : Env} {s : State} {m : MethodId} {args : Array Value} {below : List Frame} {meth : Method} {c : Code} {D : va_G} {cA : Nat → ClassId} {lo : Nat} (C : Cx p s m args c cX8_mixPoint 7 RX8 wsX8_mixPoint D cA lo) (hr : meth.sig.returnType = (some .long)) (hlk : meth.locks = false) {Q : Int64 → Mm → Prop} (M : Mm) (a0 : Nat) (i3 : Int32) (l4 : Int64) (i6 : Int32) (h : S_X8_mixPoint_44 (fun (a0 : Nat) (i3 : Int32) (l4 : Int64) (i6 : Int32) (M : Mm) => QW p l e ({ frames := 5, cells := 0, slots := 0, locals := 115 } : Room) s m args below meth c (MQ below (QlM D cA lo Q) args s 0 0 (fun q => lo ≤ q)) 7 D cA lo 0 0 M 11 [(0, .ref a0), (3, .int i3), (4, .long l4), (6, .int i6)] []) (fun (a0 : Nat) (i3 : Int32) (l4 : Int64) (i6 : Int32) (M : Mm) => QW p l e ({ frames := 5, cells := 0, slots := 0, locals := 115 } : Room) s m args below meth c (MQ below (QlM D cA lo Q) args s 0 0 (fun q => lo ≤ q)) 7 D cA lo 0 0 M 44 [(0, .ref a0), (3, .int i3), (4, .long l4), (6, .int i6)] []) Q M a0 i3 l4 i6) : QW p l e ({ frames := 5, cells := 0, slots := 0, locals := 115 } : Room) s m args below meth c (MQ below (QlM D cA lo Q) args s 0 0 (fun q => lo ≤ q)) 7 D cA lo 0 0 M 44 [(0, .ref a0), (3, .int i3), (4, .long l4), (6, .int i6)] [] := by
  unfold S_X8_mixPoint_44 at h
  refine q_iload C dX8_mixPoint_44 (j := 3) rfl ?_
  refine q_iconst (v := 3) C dX8_mixPoint_46 (by decide) ?_
  refine q_icmp_gt (tgt := 71) C dX8_mixPoint_47 (by decide) (fun z => ?_) (fun z => ?_)
  · have h := h.1 z
    refine q_lload C dX8_mixPoint_71 (j := 2) rfl ?_
    exact q_lret C hr hlk dX8_mixPoint_73 (Nat.le_of_ble_eq_true rfl) (Nat.le_of_ble_eq_true rfl) h
  · have h := h.2 z
    refine q_lload C dX8_mixPoint_50 (j := 2) rfl ?_
    refine q_aload_n C dX8_mixPoint_52 rfl (j := 0) rfl ?_
    refine q_iload_n C dX8_mixPoint_53 rfl (j := 1) rfl ?_
    refine q_iload C dX8_mixPoint_54 (j := 3) rfl ?_
    refine q_ci (q_runV (As := [.int i3, .int i6]) (st := [.long l4]) C (c_X8_countAround l D cA lo h.2) (cwV 2 C.2.2.2.2.1 gX8_mixPoint_X8_countAround rfl rfl rfl (by decide +kernel) ⟨Nat.le_of_ble_eq_true rfl, Nat.le_of_ble_eq_true rfl⟩) h.1 (by decide) rfl rfl rfl (Nat.le_of_ble_eq_true rfl) dX8_mixPoint_56 ⟨Nat.le_of_ble_eq_true rfl, Nat.le_of_ble_eq_true rfl⟩) (fun r_5 M_6 h => ?_)
    refine q_i2l C dX8_mixPoint_59 ?_
    refine q_cl (q_runS (As := [.long l4, .long r_5.toInt64]) (st := []) C (c_X8_mix l D cA lo h) (va_cwS 2 C.2.2.2.2.1 gX8_mixPoint_X8_mix rfl rfl rfl (by decide +kernel) ⟨Nat.le_of_ble_eq_true rfl, Nat.le_of_ble_eq_true rfl⟩) rfl rfl (Nat.le_of_ble_eq_true rfl) dX8_mixPoint_60 ⟨Nat.le_of_ble_eq_true rfl, Nat.le_of_ble_eq_true rfl⟩) (fun r_7 M_z h => ?_)
    refine q_mem h.1 ?_
    have h := h.2
    refine q_lstore (lv' := [(4, .long r_7), (0, .ref a0), (3, .int i3), (6, .int i6)]) C dX8_mixPoint_63 (by decide) rfl ?_
    refine q_iinc (v := (i6 + 1)) (lv' := [(6, .int (i6 + 1)), (4, .long r_7), (0, .ref a0), (3, .int i3)]) C dX8_mixPoint_65 (j := 3) rfl rfl (by decide) rfl ?_
    refine q_goto (tgt := 44) C dX8_mixPoint_68 (by decide) ?_
    exact q_sub [2, 3, 1, 0] rfl h
set_option maxRecDepth 100000 in
set_option maxHeartbeats 4000000 in
theorem c_X8_mixPoint (l : Launch) (D : va_G) (cA : Nat → ClassId) (lo : Nat) {M : Mm} {a0 : Nat} {l1 : Int64} {i3 : Int32} {Q : Int64 → Mm → Prop} (h : T_X8_mixPoint M a0 l1 i3 Q) : Met l yX8_mixPoint wsX8_mixPoint ({ frames := 5, cells := 0, slots := 0, locals := 115 } : Room) (PcM D cA lo [.ref a0, .long l1, .int i3] M) (QlM D cA lo Q) 0 0 (fun q => lo ≤ q) := by
  refine q_start (cc := cX8_mixPoint) (nL := 7) (ret := (some .long)) (by decide) rfl rfl (Nat.le_of_ble_eq_true rfl) ?_
  intro p e s m args below meth c C hr hlk hin
  unfold T_X8_mixPoint at h
  have h := h (fun (a0 : Nat) (i3 : Int32) (l4 : Int64) (i6 : Int32) (M : Mm) => QW p l e ({ frames := 5, cells := 0, slots := 0, locals := 115 } : Room) s m args below meth c (MQ below (QlM D cA lo Q) args s 0 0 (fun q => lo ≤ q)) 7 D cA lo 0 0 M 11 [(0, .ref a0), (3, .int i3), (4, .long l4), (6, .int i6)] []) (fun (a0 : Nat) (i3 : Int32) (l4 : Int64) (i6 : Int32) (M : Mm) => QW p l e ({ frames := 5, cells := 0, slots := 0, locals := 115 } : Room) s m args below meth c (MQ below (QlM D cA lo Q) args s 0 0 (fun q => lo ≤ q)) 7 D cA lo 0 0 M 44 [(0, .ref a0), (3, .int i3), (4, .long l4), (6, .int i6)] []) (fun a0 i3 l4 i6 M h => b_X8_mixPoint_11 C hr hlk M a0 i3 l4 i6 h) (fun a0 i3 l4 i6 M h => b_X8_mixPoint_44 C hr hlk M a0 i3 l4 i6 h)
  refine q_lload_n C dX8_mixPoint_0 rfl (j := 1) rfl ?_
  refine q_iload_n C dX8_mixPoint_1 rfl (j := 2) rfl ?_
  refine q_i2l C dX8_mixPoint_2 ?_
  refine q_cl (q_runS (As := [.long l1, .long i3.toInt64]) (st := []) C (c_X8_mix l D cA lo h) (va_cwS 2 C.2.2.2.2.1 gX8_mixPoint_X8_mix rfl rfl rfl (by decide +kernel) ⟨Nat.le_of_ble_eq_true rfl, Nat.le_of_ble_eq_true rfl⟩) rfl rfl (Nat.le_of_ble_eq_true rfl) dX8_mixPoint_3 ⟨Nat.le_of_ble_eq_true rfl, Nat.le_of_ble_eq_true rfl⟩) (fun r_1 M_z h => ?_)
  refine q_mem h.1 ?_
  have h := h.2
  refine q_lstore (lv' := [(4, .long r_1), (0, .ref a0), (1, .long l1), (3, .int i3)]) C dX8_mixPoint_6 (by decide) rfl ?_
  refine q_iconst (v := 0) C dX8_mixPoint_8 (by decide) ?_
  refine q_istore (lv' := [(6, .int 0), (4, .long r_1), (0, .ref a0), (1, .long l1), (3, .int i3)]) C dX8_mixPoint_9 (by decide) rfl ?_
  exact q_sub [2, 4, 1, 0] rfl h
def S_X8_mixFace_30 (K30 : Nat → Nat → Int64 → Int32 → Prop) (K64 : Nat → Nat → Int64 → Int32 → Prop) (Q : Int64 → Prop) (M : Mm) (a0 : Nat) (a4 : Nat) (l5 : Int64) (i7 : Int32) : Prop := kM M a4 = (5, 2) ∧ T_X5_length M a4 (fun r_6 => (r_6 ≤ i7 → K64 a0 a4 l5 0) ∧ (¬ r_6 ≤ i7 → kM M a4 = (5, 2) ∧ T_X5_get M a4 i7 (fun r_7 => T_X8_mix M l5 r_7.toInt64 (fun r_8 => K30 a0 a4 r_8 (i7 + 1)))))
def S_X8_mixFace_64 (K30 : Nat → Nat → Int64 → Int32 → Prop) (K64 : Nat → Nat → Int64 → Int32 → Prop) (Q : Int64 → Prop) (M : Mm) (a0 : Nat) (a4 : Nat) (l5 : Int64) (i7 : Int32) : Prop := (3 ≤ i7 → Q l5) ∧ (¬ 3 ≤ i7 → kM M a0 = (8, 8) ∧ ∃ a_9 : Nat, rM M a0 0 = some a_9 ∧ kM M a_9 = (3, 4) ∧ T_X3_normalOf M a_9 a4 i7 (fun r_10 => T_X8_mix M l5 r_10.toInt64 (fun r_11 => K64 a0 a4 r_11 (i7 + 1))))
def T_X8_mixFace (M : Mm) (a0 : Nat) (l1 : Int64) (i3 : Int32) (Q : Int64 → Prop) : Prop := ∀ (K30 : Nat → Nat → Int64 → Int32 → Prop) (K64 : Nat → Nat → Int64 → Int32 → Prop), (∀ (a0 : Nat) (a4 : Nat) (l5 : Int64) (i7 : Int32), S_X8_mixFace_30 K30 K64 Q M a0 a4 l5 i7 → K30 a0 a4 l5 i7) → (∀ (a0 : Nat) (a4 : Nat) (l5 : Int64) (i7 : Int32), S_X8_mixFace_64 K30 K64 Q M a0 a4 l5 i7 → K64 a0 a4 l5 i7) → kM M a0 = (8, 8) ∧ ∃ a_1 : Nat, rM M a0 1 = some a_1 ∧ kM M a_1 = (1, 5) ∧ T_X1_ring M a_1 i3 (fun r_2 => T_X8_mix M l1 i3.toInt64 (fun r_3 => kM M r_2 = (5, 2) ∧ T_X5_length M r_2 (fun r_4 => T_X8_mix M r_3 r_4.toInt64 (fun r_5 => K30 a0 r_2 r_5 0))))
theorem inX8_mixFace_X8 : ∀ w ∈ wsX80, w ∈ wsX8_mixFace := by decide +kernel
set_option maxRecDepth 100000 in
set_option maxHeartbeats 4000000 in
theorem b_X8_mixFace_30 {p : Program} {l : Launch} {e : Env} {s : State} {m : MethodId} {args : Array Value} {below : List Frame} {meth : Method} {c : Code} {D : va_G} {cA : Nat → ClassId} {lo : Nat} (C : Cx p s m args c cX8_mixFace 8 RX8 wsX8_mixFace D cA lo) (hr : meth.sig.returnType = (some .long)) (hlk : meth.locks = false) {Q : Int64 → Prop} {M : Mm} (a0 : Nat) (a4 : Nat) (l5 : Int64) (i7 : Int32) (h : S_X8_mixFace_30 (fun (a0 : Nat) (a4 : Nat) (l5 : Int64) (i7 : Int32) => QW p l e ({ frames := 3, cells := 0, slots := 0, locals := 70 } : Room) s m args below meth c (MQ below (QlM D cA lo (fun r M1 => M1 = M ∧ Q r)) args s 0 0 (fun q => lo ≤ q)) 8 D cA lo 0 0 M 30 [(0, .ref a0), (4, .ref a4), (5, .long l5), (7, .int i7)] []) (fun (a0 : Nat) (a4 : Nat) (l5 : Int64) (i7 : Int32) => QW p l e ({ frames := 3, cells := 0, slots := 0, locals := 70 } : Room) s m args below meth c (MQ below (QlM D cA lo (fun r M1 => M1 = M ∧ Q r)) args s 0 0 (fun q => lo ≤ q)) 8 D cA lo 0 0 M 64 [(0, .ref a0), (4, .ref a4), (5, .long l5), (7, .int i7)] []) Q M a0 a4 l5 i7) : QW p l e ({ frames := 3, cells := 0, slots := 0, locals := 70 } : Room) s m args below meth c (MQ below (QlM D cA lo (fun r M1 => M1 = M ∧ Q r)) args s 0 0 (fun q => lo ≤ q)) 8 D cA lo 0 0 M 30 [(0, .ref a0), (4, .ref a4), (5, .long l5), (7, .int i7)] [] := by
  unfold S_X8_mixFace_30 at h
  refine q_iload C dX8_mixFace_30 (j := 3) rfl ?_
  refine q_aload C dX8_mixFace_32 (j := 1) rfl ?_
  refine q_ci (q_runV (As := []) (st := [.int i7]) C (c_X5_length l D cA lo h.2) (cwV 0 C.2.2.2.2.1 gX8_mixFace_X5_length rfl rfl rfl (by decide +kernel) ⟨Nat.le_of_ble_eq_true rfl, Nat.le_of_ble_eq_true rfl⟩) h.1 (by decide) rfl rfl rfl (Nat.le_of_ble_eq_true rfl) dX8_mixFace_34 ⟨Nat.le_of_ble_eq_true rfl, Nat.le_of_ble_eq_true rfl⟩) (fun r_6 M_z h => ?_)
  refine q_mem h.1 ?_
  have h := h.2
  refine q_icmp_ge (tgt := 61) C dX8_mixFace_37 (by decide) (fun z => ?_) (fun z => ?_)
  · have h := h.1 z
    refine q_iconst (v := 0) C dX8_mixFace_61 (by decide) ?_
    refine q_istore (lv' := [(7, .int 0), (0, .ref a0), (4, .ref a4), (5, .long l5)]) C dX8_mixFace_62 (by decide) rfl ?_
    exact q_sub [1, 2, 3, 0] rfl h
  · have h := h.2 z
    refine q_lload C dX8_mixFace_40 (j := 2) rfl ?_
    refine q_aload C dX8_mixFace_42 (j := 1) rfl ?_
    refine q_iload C dX8_mixFace_44 (j := 3) rfl ?_
    refine q_ci (q_runV (As := [.int i7]) (st := [.long l5]) C (c_X5_get l D cA lo h.2) (cwV 1 C.2.2.2.2.1 gX8_mixFace_X5_get rfl rfl rfl (by decide +kernel) ⟨Nat.le_of_ble_eq_true rfl, Nat.le_of_ble_eq_true rfl⟩) h.1 (by decide) rfl rfl rfl (Nat.le_of_ble_eq_true rfl) dX8_mixFace_46 ⟨Nat.le_of_ble_eq_true rfl, Nat.le_of_ble_eq_true rfl⟩) (fun r_7 M_z h => ?_)
    refine q_mem h.1 ?_
    have h := h.2
    refine q_i2l C dX8_mixFace_49 ?_
    refine q_cl (q_runS (As := [.long l5, .long r_7.toInt64]) (st := []) C (c_X8_mix l D cA lo h) (va_cwS 2 C.2.2.2.2.1 gX8_mixFace_X8_mix rfl rfl rfl (by decide +kernel) ⟨Nat.le_of_ble_eq_true rfl, Nat.le_of_ble_eq_true rfl⟩) rfl rfl (Nat.le_of_ble_eq_true rfl) dX8_mixFace_50 ⟨Nat.le_of_ble_eq_true rfl, Nat.le_of_ble_eq_true rfl⟩) (fun r_8 M_z h => ?_)
    refine q_mem h.1 ?_
    have h := h.2
    refine q_lstore (lv' := [(5, .long r_8), (0, .ref a0), (4, .ref a4), (7, .int i7)]) C dX8_mixFace_53 (by decide) rfl ?_
    refine q_iinc (v := (i7 + 1)) (lv' := [(7, .int (i7 + 1)), (5, .long r_8), (0, .ref a0), (4, .ref a4)]) C dX8_mixFace_55 (j := 3) rfl rfl (by decide) rfl ?_
    refine q_goto (tgt := 30) C dX8_mixFace_58 (by decide) ?_
    exact q_sub [2, 3, 1, 0] rfl h
set_option maxRecDepth 100000 in
set_option maxHeartbeats 4000000 in
theorem b_X8_mixFace_64 {p : Program} {l : Launch} {e : Env} {s : State} {m : MethodId} {args : Array Value} {below : List Frame} {meth : Method} {c : Code} {D : va_G} {cA : Nat → ClassId} {lo : Nat} (C : Cx p s m args c cX8_mixFace 8 RX8 wsX8_mixFace D cA lo) (hr : meth.sig.returnType = (some .long)) (hlk : meth.locks = false) {Q : Int64 → Prop} {M : Mm} (a0 : Nat) (a4 : Nat) (l5 : Int64) (i7 : Int32) (h : S_X8_mixFace_64 (fun (a0 : Nat) (a4 : Nat) (l5 : Int64) (i7 : Int32) => QW p l e ({ frames := 3, cells := 0, slots := 0, locals := 70 } : Room) s m args below meth c (MQ below (QlM D cA lo (fun r M1 => M1 = M ∧ Q r)) args s 0 0 (fun q => lo ≤ q)) 8 D cA lo 0 0 M 30 [(0, .ref a0), (4, .ref a4), (5, .long l5), (7, .int i7)] []) (fun (a0 : Nat) (a4 : Nat) (l5 : Int64) (i7 : Int32) => QW p l e ({ frames := 3, cells := 0, slots := 0, locals := 70 } : Room) s m args below meth c (MQ below (QlM D cA lo (fun r M1 => M1 = M ∧ Q r)) args s 0 0 (fun q => lo ≤ q)) 8 D cA lo 0 0 M 64 [(0, .ref a0), (4, .ref a4), (5, .long l5), (7, .int i7)] []) Q M a0 a4 l5 i7) : QW p l e ({ frames := 3, cells := 0, slots := 0, locals := 70 } : Room) s m args below meth c (MQ below (QlM D cA lo (fun r M1 => M1 = M ∧ Q r)) args s 0 0 (fun q => lo ≤ q)) 8 D cA lo 0 0 M 64 [(0, .ref a0), (4, .ref a4), (5, .long l5), (7, .int i7)] [] := by
  unfold S_X8_mixFace_64 at h
  refine q_iload C dX8_mixFace_64 (j := 3) rfl ?_
  refine q_iconst (v := 3) C dX8_mixFace_66 (by decide) ?_
  refine q_icmp_ge (tgt := 95) C dX8_mixFace_67 (by decide) (fun z => ?_) (fun z => ?_)
  · have h := h.1 z
    refine q_lload C dX8_mixFace_95 (j := 2) rfl ?_
    exact q_lret C hr hlk dX8_mixFace_97 (Nat.le_of_ble_eq_true rfl) (Nat.le_of_ble_eq_true rfl) ⟨rfl, h⟩
  · have h := h.2 z
    refine q_lload C dX8_mixFace_70 (j := 2) rfl ?_
    refine q_aload_n C dX8_mixFace_72 rfl (j := 0) rfl ?_
    refine q_getR (ci := 8) (k0 := 0) (T := TX8) C inX8_mixFace_X8 rfl (by decide) h.1 (by decide) rfl (by decide +kernel) rfl dX8_mixFace_73 ?_
    obtain ⟨a_9, z, h⟩ := h.2
    refine q_ref z ?_
    refine q_aload C dX8_mixFace_76 (j := 1) rfl ?_
    refine q_iload C dX8_mixFace_78 (j := 3) rfl ?_
    refine q_ci (q_runV (As := [.ref a4, .int i7]) (st := [.long l5]) C (c_X3_normalOf l D cA lo h.2) (cwV 2 C.2.2.2.2.1 gX8_mixFace_X3_normalOf rfl rfl rfl (by decide +kernel) ⟨Nat.le_of_ble_eq_true rfl, Nat.le_of_ble_eq_true rfl⟩) h.1 (by decide) rfl rfl rfl (Nat.le_of_ble_eq_true rfl) dX8_mixFace_80 ⟨Nat.le_of_ble_eq_true rfl, Nat.le_of_ble_eq_true rfl⟩) (fun r_10 M_z h => ?_)
    refine q_mem h.1 ?_
    have h := h.2
    refine q_i2l C dX8_mixFace_83 ?_
    refine q_cl (q_runS (As := [.long l5, .long r_10.toInt64]) (st := []) C (c_X8_mix l D cA lo h) (va_cwS 2 C.2.2.2.2.1 gX8_mixFace_X8_mix rfl rfl rfl (by decide +kernel) ⟨Nat.le_of_ble_eq_true rfl, Nat.le_of_ble_eq_true rfl⟩) rfl rfl (Nat.le_of_ble_eq_true rfl) dX8_mixFace_84 ⟨Nat.le_of_ble_eq_true rfl, Nat.le_of_ble_eq_true rfl⟩) (fun r_11 M_z h => ?_)
    refine q_mem h.1 ?_
    have h := h.2
    refine q_lstore (lv' := [(5, .long r_11), (0, .ref a0), (4, .ref a4), (7, .int i7)]) C dX8_mixFace_87 (by decide) rfl ?_
    refine q_iinc (v := (i7 + 1)) (lv' := [(7, .int (i7 + 1)), (5, .long r_11), (0, .ref a0), (4, .ref a4)]) C dX8_mixFace_89 (j := 3) rfl rfl (by decide) rfl ?_
    refine q_goto (tgt := 64) C dX8_mixFace_92 (by decide) ?_
    exact q_sub [2, 3, 1, 0] rfl h
set_option maxRecDepth 100000 in
set_option maxHeartbeats 4000000 in
theorem c_X8_mixFace (l : Launch) (D : va_G) (cA : Nat → ClassId) (lo : Nat) {M : Mm} {a0 : Nat} {l1 : Int64} {i3 : Int32} {Q : Int64 → Prop} (h : T_X8_mixFace M a0 l1 i3 Q) : Met l yX8_mixFace wsX8_mixFace ({ frames := 3, cells := 0, slots := 0, locals := 70 } : Room) (PcM D cA lo [.ref a0, .long l1, .int i3] M) (QlM D cA lo (fun r M1 => M1 = M ∧ Q r)) 0 0 (fun q => lo ≤ q) := by
  refine q_start (cc := cX8_mixFace) (nL := 8) (ret := (some .long)) (by decide) rfl rfl (Nat.le_of_ble_eq_true rfl) ?_
  intro p e s m args below meth c C hr hlk hin
  unfold T_X8_mixFace at h
  have h := h (fun (a0 : Nat) (a4 : Nat) (l5 : Int64) (i7 : Int32) => QW p l e ({ frames := 3, cells := 0, slots := 0, locals := 70 } : Room) s m args below meth c (MQ below (QlM D cA lo (fun r M1 => M1 = M ∧ Q r)) args s 0 0 (fun q => lo ≤ q)) 8 D cA lo 0 0 M 30 [(0, .ref a0), (4, .ref a4), (5, .long l5), (7, .int i7)] []) (fun (a0 : Nat) (a4 : Nat) (l5 : Int64) (i7 : Int32) => QW p l e ({ frames := 3, cells := 0, slots := 0, locals := 70 } : Room) s m args below meth c (MQ below (QlM D cA lo (fun r M1 => M1 = M ∧ Q r)) args s 0 0 (fun q => lo ≤ q)) 8 D cA lo 0 0 M 64 [(0, .ref a0), (4, .ref a4), (5, .long l5), (7, .int i7)] []) (fun a0 a4 l5 i7 h => b_X8_mixFace_30 C hr hlk a0 a4 l5 i7 h) (fun a0 a4 l5 i7 h => b_X8_mixFace_64 C hr hlk a0 a4 l5 i7 h)
  refine q_aload_n C dX8_mixFace_0 rfl (j := 0) rfl ?_
  refine q_getR (ci := 8) (k0 := 1) (T := TX8) C inX8_mixFace_X8 rfl (by decide) h.1 (by decide) rfl (by decide +kernel) rfl dX8_mixFace_1 ?_
  obtain ⟨a_1, z, h⟩ := h.2
  refine q_ref z ?_
  refine q_iload_n C dX8_mixFace_4 rfl (j := 2) rfl ?_
  refine q_cr (q_runV (As := [.int i3]) (st := []) C (c_X1_ring l D cA lo h.2) (cwV 1 C.2.2.2.2.1 gX8_mixFace_X1_ring rfl rfl rfl (by decide +kernel) ⟨Nat.le_of_ble_eq_true rfl, Nat.le_of_ble_eq_true rfl⟩) h.1 (by decide) rfl rfl rfl (Nat.le_of_ble_eq_true rfl) dX8_mixFace_5 ⟨Nat.le_of_ble_eq_true rfl, Nat.le_of_ble_eq_true rfl⟩) (fun r_2 M_z h => ?_)
  refine q_mem h.1 ?_
  have h := h.2
  refine q_astore (lv' := [(4, .ref r_2), (0, .ref a0), (1, .long l1), (3, .int i3)]) C dX8_mixFace_8 (by decide) rfl ?_
  refine q_lload_n C dX8_mixFace_10 rfl (j := 2) rfl ?_
  refine q_iload_n C dX8_mixFace_11 rfl (j := 3) rfl ?_
  refine q_i2l C dX8_mixFace_12 ?_
  refine q_cl (q_runS (As := [.long l1, .long i3.toInt64]) (st := []) C (c_X8_mix l D cA lo h) (va_cwS 2 C.2.2.2.2.1 gX8_mixFace_X8_mix rfl rfl rfl (by decide +kernel) ⟨Nat.le_of_ble_eq_true rfl, Nat.le_of_ble_eq_true rfl⟩) rfl rfl (Nat.le_of_ble_eq_true rfl) dX8_mixFace_13 ⟨Nat.le_of_ble_eq_true rfl, Nat.le_of_ble_eq_true rfl⟩) (fun r_3 M_z h => ?_)
  refine q_mem h.1 ?_
  have h := h.2
  refine q_aload C dX8_mixFace_16 (j := 0) rfl ?_
  refine q_ci (q_runV (As := []) (st := [.long r_3]) C (c_X5_length l D cA lo h.2) (cwV 0 C.2.2.2.2.1 gX8_mixFace_X5_length rfl rfl rfl (by decide +kernel) ⟨Nat.le_of_ble_eq_true rfl, Nat.le_of_ble_eq_true rfl⟩) h.1 (by decide) rfl rfl rfl (Nat.le_of_ble_eq_true rfl) dX8_mixFace_18 ⟨Nat.le_of_ble_eq_true rfl, Nat.le_of_ble_eq_true rfl⟩) (fun r_4 M_z h => ?_)
  refine q_mem h.1 ?_
  have h := h.2
  refine q_i2l C dX8_mixFace_21 ?_
  refine q_cl (q_runS (As := [.long r_3, .long r_4.toInt64]) (st := []) C (c_X8_mix l D cA lo h) (va_cwS 2 C.2.2.2.2.1 gX8_mixFace_X8_mix rfl rfl rfl (by decide +kernel) ⟨Nat.le_of_ble_eq_true rfl, Nat.le_of_ble_eq_true rfl⟩) rfl rfl (Nat.le_of_ble_eq_true rfl) dX8_mixFace_22 ⟨Nat.le_of_ble_eq_true rfl, Nat.le_of_ble_eq_true rfl⟩) (fun r_5 M_z h => ?_)
  refine q_mem h.1 ?_
  have h := h.2
  refine q_lstore (lv' := [(5, .long r_5), (4, .ref r_2), (0, .ref a0), (1, .long l1), (3, .int i3)]) C dX8_mixFace_25 (by decide) rfl ?_
  refine q_iconst (v := 0) C dX8_mixFace_27 (by decide) ?_
  refine q_istore (lv' := [(7, .int 0), (5, .long r_5), (4, .ref r_2), (0, .ref a0), (1, .long l1), (3, .int i3)]) C dX8_mixFace_28 (by decide) rfl ?_
  exact q_sub [3, 2, 1, 0] rfl h
def S_X8_digest_80 (K80 : Nat → Int64 → Int32 → Mm → Prop) (K117 : Nat → Int64 → Int32 → Mm → Prop) (Q : Int64 → Mm → Prop) (M : Mm) (a0 : Nat) (l1 : Int64) (i3 : Int32) : Prop := kM M a0 = (8, 8) ∧ ∃ a_20 : Nat, rM M a0 0 = some a_20 ∧ kM M a_20 = (3, 4) ∧ T_X3_ever M a_20 (fun r_21 => (r_21 ≤ i3 → K117 a0 l1 0 M) ∧ (¬ r_21 ≤ i3 → kM M a0 = (8, 8) ∧ ∃ a_22 : Nat, rM M a0 0 = some a_22 ∧ kM M a_22 = (3, 4) ∧ T_X3_has M a_22 i3 (fun r_23 => (r_23 = 0 → K80 a0 l1 (i3 + 1) M) ∧ (¬ r_23 = 0 → kM M a0 = (8, 8) ∧ T_X8_mixPoint M a0 l1 i3 (fun r_24 M_25 => K80 a0 r_24 (i3 + 1) M_25)))))
def S_X8_digest_117 (K80 : Nat → Int64 → Int32 → Mm → Prop) (K117 : Nat → Int64 → Int32 → Mm → Prop) (Q : Int64 → Mm → Prop) (M : Mm) (a0 : Nat) (l1 : Int64) (i3 : Int32) : Prop := kM M a0 = (8, 8) ∧ ∃ a_26 : Nat, rM M a0 1 = some a_26 ∧ kM M a_26 = (1, 5) ∧ T_X1_ever M a_26 (fun r_27 => (r_27 ≤ i3 → kM M a0 = (8, 8) ∧ T_X8_countPairs M a0 1 (fun r_28 M_29 => T_X8_mix M_29 l1 r_28.toInt64 (fun r_30 => kM M_29 a0 = (8, 8) ∧ T_X8_countPairs M_29 a0 2 (fun r_31 M_32 => T_X8_mix M_32 r_30 r_31.toInt64 (fun r_33 => Q r_33 M_32))))) ∧ (¬ r_27 ≤ i3 → kM M a0 = (8, 8) ∧ ∃ a_34 : Nat, rM M a0 1 = some a_34 ∧ kM M a_34 = (1, 5) ∧ T_X1_has M a_34 i3 (fun r_35 => (r_35 = 0 → K117 a0 l1 (i3 + 1) M) ∧ (¬ r_35 = 0 → kM M a0 = (8, 8) ∧ T_X8_mixFace M a0 l1 i3 (fun r_36 => K117 a0 r_36 (i3 + 1) M)))))
def T_X8_digest (M : Mm) (a0 : Nat) (Q : Int64 → Mm → Prop) : Prop := ∀ (K80 : Nat → Int64 → Int32 → Mm → Prop) (K117 : Nat → Int64 → Int32 → Mm → Prop), (∀ (a0 : Nat) (l1 : Int64) (i3 : Int32) (M : Mm), S_X8_digest_80 K80 K117 Q M a0 l1 i3 → K80 a0 l1 i3 M) → (∀ (a0 : Nat) (l1 : Int64) (i3 : Int32) (M : Mm), S_X8_digest_117 K80 K117 Q M a0 l1 i3 → K117 a0 l1 i3 M) → kM M a0 = (8, 8) ∧ ∃ a_1 : Nat, rM M a0 0 = some a_1 ∧ kM M a_1 = (3, 4) ∧ T_X3_left M a_1 (fun r_2 => T_X8_mix M 58071 r_2.toInt64 (fun r_3 => kM M a0 = (8, 8) ∧ ∃ a_4 : Nat, rM M a0 1 = some a_4 ∧ kM M a_4 = (1, 5) ∧ T_X1_edgeCount M a_4 (fun r_5 => T_X8_mix M r_3 r_5.toInt64 (fun r_6 => kM M a0 = (8, 8) ∧ ∃ a_7 : Nat, rM M a0 1 = some a_7 ∧ kM M a_7 = (1, 5) ∧ T_X1_left M a_7 (fun r_8 => T_X8_mix M r_6 r_8.toInt64 (fun r_9 => kM M a0 = (8, 8) ∧ ∃ a_10 : Nat, rM M a0 2 = some a_10 ∧ kM M a_10 = (7, 6) ∧ T_X7_holeCount M a_10 (fun r_11 M_12 => T_X8_mix M_12 r_9 r_11.toInt64 (fun r_13 => kM M_12 a0 = (8, 8) ∧ ∃ a_14 : Nat, rM M_12 a0 2 = some a_14 ∧ kM M_12 a_14 = (7, 6) ∧ T_X7_shellCount M_12 a_14 (fun r_15 M_16 => T_X8_mix M_16 r_13 r_15.toInt64 (fun r_17 => kM M_16 a0 = (8, 8) ∧ T_X8_wholeBulk M_16 a0 (fun r_18 => T_X8_mix M_16 r_17 r_18 (fun r_19 => K80 a0 r_19 0 M_16))))))))))))
theorem inX8_digest_X8 : ∀ w ∈ wsX80, w ∈ wsX8_digest := by decide +kernel
set_option maxRecDepth 100000 in
set_option maxHeartbeats 4000000 in
theorem b_X8_digest_80 {p : Program} {l : Launch} {e : Env} {s : State} {m : MethodId} {args : Array Value} {below : List Frame} {meth : Method} {c : Code} {D : va_G} {cA : Nat → ClassId} {lo : Nat} (C : Cx p s m args c cX8_digest 4 RX8 wsX8_digest D cA lo) (hr : meth.sig.returnType = (some .long)) (hlk : meth.locks = false) {Q : Int64 → Mm → Prop} (M : Mm) (a0 : Nat) (l1 : Int64) (i3 : Int32) (h : S_X8_digest_80 (fun (a0 : Nat) (l1 : Int64) (i3 : Int32) (M : Mm) => QW p l e ({ frames := 6, cells := 0, slots := 0, locals := 145 } : Room) s m args below meth c (MQ below (QlM D cA lo Q) args s 0 0 (fun q => lo ≤ q)) 4 D cA lo 0 0 M 80 [(0, .ref a0), (1, .long l1), (3, .int i3)] []) (fun (a0 : Nat) (l1 : Int64) (i3 : Int32) (M : Mm) => QW p l e ({ frames := 6, cells := 0, slots := 0, locals := 145 } : Room) s m args below meth c (MQ below (QlM D cA lo Q) args s 0 0 (fun q => lo ≤ q)) 4 D cA lo 0 0 M 117 [(0, .ref a0), (1, .long l1), (3, .int i3)] []) Q M a0 l1 i3) : QW p l e ({ frames := 6, cells := 0, slots := 0, locals := 145 } : Room) s m args below meth c (MQ below (QlM D cA lo Q) args s 0 0 (fun q => lo ≤ q)) 4 D cA lo 0 0 M 80 [(0, .ref a0), (1, .long l1), (3, .int i3)] [] := by
  unfold S_X8_digest_80 at h
  refine q_iload_n C dX8_digest_80 rfl (j := 2) rfl ?_
  refine q_aload_n C dX8_digest_81 rfl (j := 0) rfl ?_
  refine q_getR (ci := 8) (k0 := 0) (T := TX8) C inX8_digest_X8 rfl (by decide) h.1 (by decide) rfl (by decide +kernel) rfl dX8_digest_82 ?_
  obtain ⟨a_20, z, h⟩ := h.2
  refine q_ref z ?_
  refine q_ci (q_runV (As := []) (st := [.int i3]) C (c_X3_ever l D cA lo h.2) (cwV 0 C.2.2.2.2.1 gX8_digest_X3_ever rfl rfl rfl (by decide +kernel) ⟨Nat.le_of_ble_eq_true rfl, Nat.le_of_ble_eq_true rfl⟩) h.1 (by decide) rfl rfl rfl (Nat.le_of_ble_eq_true rfl) dX8_digest_85 ⟨Nat.le_of_ble_eq_true rfl, Nat.le_of_ble_eq_true rfl⟩) (fun r_21 M_z h => ?_)
  refine q_mem h.1 ?_
  have h := h.2
  refine q_icmp_ge (tgt := 115) C dX8_digest_88 (by decide) (fun z => ?_) (fun z => ?_)
  · have h := h.1 z
    refine q_iconst (v := 0) C dX8_digest_115 (by decide) ?_
    refine q_istore_n (lv' := [(3, .int 0), (0, .ref a0), (1, .long l1)]) C dX8_digest_116 rfl (by decide) rfl ?_
    exact q_sub [1, 2, 0] rfl h
  · have h := h.2 z
    refine q_aload_n C dX8_digest_91 rfl (j := 0) rfl ?_
    refine q_getR (ci := 8) (k0 := 0) (T := TX8) C inX8_digest_X8 rfl (by decide) h.1 (by decide) rfl (by decide +kernel) rfl dX8_digest_92 ?_
    obtain ⟨a_22, z, h⟩ := h.2
    refine q_ref z ?_
    refine q_iload_n C dX8_digest_95 rfl (j := 2) rfl ?_
    refine q_ci (q_runV (As := [.int i3]) (st := []) C (c_X3_has l D cA lo h.2) (cwV 1 C.2.2.2.2.1 gX8_digest_X3_has rfl rfl rfl (by decide +kernel) ⟨Nat.le_of_ble_eq_true rfl, Nat.le_of_ble_eq_true rfl⟩) h.1 (by decide) rfl rfl rfl (Nat.le_of_ble_eq_true rfl) dX8_digest_96 ⟨Nat.le_of_ble_eq_true rfl, Nat.le_of_ble_eq_true rfl⟩) (fun r_23 M_z h => ?_)
    refine q_mem h.1 ?_
    have h := h.2
    refine q_if_eq (tgt := 109) C dX8_digest_99 (by decide) (fun z => ?_) (fun z => ?_)
    · have h := h.1 z
      refine q_iinc (v := (i3 + 1)) (lv' := [(3, .int (i3 + 1)), (0, .ref a0), (1, .long l1)]) C dX8_digest_109 (j := 2) rfl rfl (by decide) rfl ?_
      refine q_goto (tgt := 80) C dX8_digest_112 (by decide) ?_
      exact q_sub [1, 2, 0] rfl h
    · have h := h.2 z
      refine q_aload_n C dX8_digest_102 rfl (j := 0) rfl ?_
      refine q_lload_n C dX8_digest_103 rfl (j := 1) rfl ?_
      refine q_iload_n C dX8_digest_104 rfl (j := 2) rfl ?_
      refine q_cl (q_runV (As := [.long l1, .int i3]) (st := []) C (c_X8_mixPoint l D cA lo h.2) (cwV 2 C.2.2.2.2.1 gX8_digest_X8_mixPoint rfl rfl rfl (by decide +kernel) ⟨Nat.le_of_ble_eq_true rfl, Nat.le_of_ble_eq_true rfl⟩) h.1 (by decide) rfl rfl rfl (Nat.le_of_ble_eq_true rfl) dX8_digest_105 ⟨Nat.le_of_ble_eq_true rfl, Nat.le_of_ble_eq_true rfl⟩) (fun r_24 M_25 h => ?_)
      refine q_lstore_n (lv' := [(1, .long r_24), (0, .ref a0), (3, .int i3)]) C dX8_digest_108 rfl (by decide) rfl ?_
      refine q_iinc (v := (i3 + 1)) (lv' := [(3, .int (i3 + 1)), (1, .long r_24), (0, .ref a0)]) C dX8_digest_109 (j := 2) rfl rfl (by decide) rfl ?_
      refine q_goto (tgt := 80) C dX8_digest_112 (by decide) ?_
      exact q_sub [2, 1, 0] rfl h
set_option maxRecDepth 100000 in
set_option maxHeartbeats 4000000 in
theorem b_X8_digest_117 {p : Program} {l : Launch} {e : Env} {s : State} {m : MethodId} {args : Array Value} {below : List Frame} {meth : Method} {c : Code} {D : va_G} {cA : Nat → ClassId} {lo : Nat} (C : Cx p s m args c cX8_digest 4 RX8 wsX8_digest D cA lo) (hr : meth.sig.returnType = (some .long)) (hlk : meth.locks = false) {Q : Int64 → Mm → Prop} (M : Mm) (a0 : Nat) (l1 : Int64) (i3 : Int32) (h : S_X8_digest_117 (fun (a0 : Nat) (l1 : Int64) (i3 : Int32) (M : Mm) => QW p l e ({ frames := 6, cells := 0, slots := 0, locals := 145 } : Room) s m args below meth c (MQ below (QlM D cA lo Q) args s 0 0 (fun q => lo ≤ q)) 4 D cA lo 0 0 M 80 [(0, .ref a0), (1, .long l1), (3, .int i3)] []) (fun (a0 : Nat) (l1 : Int64) (i3 : Int32) (M : Mm) => QW p l e ({ frames := 6, cells := 0, slots := 0, locals := 145 } : Room) s m args below meth c (MQ below (QlM D cA lo Q) args s 0 0 (fun q => lo ≤ q)) 4 D cA lo 0 0 M 117 [(0, .ref a0), (1, .long l1), (3, .int i3)] []) Q M a0 l1 i3) : QW p l e ({ frames := 6, cells := 0, slots := 0, locals := 145 } : Room) s m args below meth c (MQ below (QlM D cA lo Q) args s 0 0 (fun q => lo ≤ q)) 4 D cA lo 0 0 M 117 [(0, .ref a0), (1, .long l1), (3, .int i3)] [] := by
  unfold S_X8_digest_117 at h
  refine q_iload_n C dX8_digest_117 rfl (j := 2) rfl ?_
  refine q_aload_n C dX8_digest_118 rfl (j := 0) rfl ?_
  refine q_getR (ci := 8) (k0 := 1) (T := TX8) C inX8_digest_X8 rfl (by decide) h.1 (by decide) rfl (by decide +kernel) rfl dX8_digest_119 ?_
  obtain ⟨a_26, z, h⟩ := h.2
  refine q_ref z ?_
  refine q_ci (q_runV (As := []) (st := [.int i3]) C (c_X1_ever l D cA lo h.2) (cwV 0 C.2.2.2.2.1 gX8_digest_X1_ever rfl rfl rfl (by decide +kernel) ⟨Nat.le_of_ble_eq_true rfl, Nat.le_of_ble_eq_true rfl⟩) h.1 (by decide) rfl rfl rfl (Nat.le_of_ble_eq_true rfl) dX8_digest_122 ⟨Nat.le_of_ble_eq_true rfl, Nat.le_of_ble_eq_true rfl⟩) (fun r_27 M_z h => ?_)
  refine q_mem h.1 ?_
  have h := h.2
  refine q_icmp_ge (tgt := 152) C dX8_digest_125 (by decide) (fun z => ?_) (fun z => ?_)
  · have h := h.1 z
    refine q_lload_n C dX8_digest_152 rfl (j := 1) rfl ?_
    refine q_aload_n C dX8_digest_153 rfl (j := 0) rfl ?_
    refine q_iconst (v := 1) C dX8_digest_154 (by decide) ?_
    refine q_ci (q_runV (As := [.int 1]) (st := [.long l1]) C (c_X8_countPairs l D cA lo h.2) (cwV 1 C.2.2.2.2.1 gX8_digest_X8_countPairs rfl rfl rfl (by decide +kernel) ⟨Nat.le_of_ble_eq_true rfl, Nat.le_of_ble_eq_true rfl⟩) h.1 (by decide) rfl rfl rfl (Nat.le_of_ble_eq_true rfl) dX8_digest_155 ⟨Nat.le_of_ble_eq_true rfl, Nat.le_of_ble_eq_true rfl⟩) (fun r_28 M_29 h => ?_)
    refine q_i2l C dX8_digest_158 ?_
    refine q_cl (q_runS (As := [.long l1, .long r_28.toInt64]) (st := []) C (c_X8_mix l D cA lo h) (va_cwS 2 C.2.2.2.2.1 gX8_digest_X8_mix rfl rfl rfl (by decide +kernel) ⟨Nat.le_of_ble_eq_true rfl, Nat.le_of_ble_eq_true rfl⟩) rfl rfl (Nat.le_of_ble_eq_true rfl) dX8_digest_159 ⟨Nat.le_of_ble_eq_true rfl, Nat.le_of_ble_eq_true rfl⟩) (fun r_30 M_z h => ?_)
    refine q_mem h.1 ?_
    have h := h.2
    refine q_lstore_n (lv' := [(1, .long r_30), (0, .ref a0), (3, .int i3)]) C dX8_digest_162 rfl (by decide) rfl ?_
    refine q_lload_n C dX8_digest_163 rfl (j := 0) rfl ?_
    refine q_aload_n C dX8_digest_164 rfl (j := 1) rfl ?_
    refine q_iconst (v := 2) C dX8_digest_165 (by decide) ?_
    refine q_ci (q_runV (As := [.int 2]) (st := [.long r_30]) C (c_X8_countPairs l D cA lo h.2) (cwV 1 C.2.2.2.2.1 gX8_digest_X8_countPairs rfl rfl rfl (by decide +kernel) ⟨Nat.le_of_ble_eq_true rfl, Nat.le_of_ble_eq_true rfl⟩) h.1 (by decide) rfl rfl rfl (Nat.le_of_ble_eq_true rfl) dX8_digest_166 ⟨Nat.le_of_ble_eq_true rfl, Nat.le_of_ble_eq_true rfl⟩) (fun r_31 M_32 h => ?_)
    refine q_i2l C dX8_digest_169 ?_
    refine q_cl (q_runS (As := [.long r_30, .long r_31.toInt64]) (st := []) C (c_X8_mix l D cA lo h) (va_cwS 2 C.2.2.2.2.1 gX8_digest_X8_mix rfl rfl rfl (by decide +kernel) ⟨Nat.le_of_ble_eq_true rfl, Nat.le_of_ble_eq_true rfl⟩) rfl rfl (Nat.le_of_ble_eq_true rfl) dX8_digest_170 ⟨Nat.le_of_ble_eq_true rfl, Nat.le_of_ble_eq_true rfl⟩) (fun r_33 M_z h => ?_)
    refine q_mem h.1 ?_
    have h := h.2
    exact q_lret C hr hlk dX8_digest_173 (Nat.le_of_ble_eq_true rfl) (Nat.le_of_ble_eq_true rfl) h
  · have h := h.2 z
    refine q_aload_n C dX8_digest_128 rfl (j := 0) rfl ?_
    refine q_getR (ci := 8) (k0 := 1) (T := TX8) C inX8_digest_X8 rfl (by decide) h.1 (by decide) rfl (by decide +kernel) rfl dX8_digest_129 ?_
    obtain ⟨a_34, z, h⟩ := h.2
    refine q_ref z ?_
    refine q_iload_n C dX8_digest_132 rfl (j := 2) rfl ?_
    refine q_ci (q_runV (As := [.int i3]) (st := []) C (c_X1_has l D cA lo h.2) (cwV 1 C.2.2.2.2.1 gX8_digest_X1_has rfl rfl rfl (by decide +kernel) ⟨Nat.le_of_ble_eq_true rfl, Nat.le_of_ble_eq_true rfl⟩) h.1 (by decide) rfl rfl rfl (Nat.le_of_ble_eq_true rfl) dX8_digest_133 ⟨Nat.le_of_ble_eq_true rfl, Nat.le_of_ble_eq_true rfl⟩) (fun r_35 M_z h => ?_)
    refine q_mem h.1 ?_
    have h := h.2
    refine q_if_eq (tgt := 146) C dX8_digest_136 (by decide) (fun z => ?_) (fun z => ?_)
    · have h := h.1 z
      refine q_iinc (v := (i3 + 1)) (lv' := [(3, .int (i3 + 1)), (0, .ref a0), (1, .long l1)]) C dX8_digest_146 (j := 2) rfl rfl (by decide) rfl ?_
      refine q_goto (tgt := 117) C dX8_digest_149 (by decide) ?_
      exact q_sub [1, 2, 0] rfl h
    · have h := h.2 z
      refine q_aload_n C dX8_digest_139 rfl (j := 0) rfl ?_
      refine q_lload_n C dX8_digest_140 rfl (j := 1) rfl ?_
      refine q_iload_n C dX8_digest_141 rfl (j := 2) rfl ?_
      refine q_cl (q_runV (As := [.long l1, .int i3]) (st := []) C (c_X8_mixFace l D cA lo h.2) (cwV 2 C.2.2.2.2.1 gX8_digest_X8_mixFace rfl rfl rfl (by decide +kernel) ⟨Nat.le_of_ble_eq_true rfl, Nat.le_of_ble_eq_true rfl⟩) h.1 (by decide) rfl rfl rfl (Nat.le_of_ble_eq_true rfl) dX8_digest_142 ⟨Nat.le_of_ble_eq_true rfl, Nat.le_of_ble_eq_true rfl⟩) (fun r_36 M_z h => ?_)
      refine q_mem h.1 ?_
      have h := h.2
      refine q_lstore_n (lv' := [(1, .long r_36), (0, .ref a0), (3, .int i3)]) C dX8_digest_145 rfl (by decide) rfl ?_
      refine q_iinc (v := (i3 + 1)) (lv' := [(3, .int (i3 + 1)), (1, .long r_36), (0, .ref a0)]) C dX8_digest_146 (j := 2) rfl rfl (by decide) rfl ?_
      refine q_goto (tgt := 117) C dX8_digest_149 (by decide) ?_
      exact q_sub [2, 1, 0] rfl h
set_option maxRecDepth 100000 in
set_option maxHeartbeats 4000000 in
theorem c_X8_digest (l : Launch) (D : va_G) (cA : Nat → ClassId) (lo : Nat) {M : Mm} {a0 : Nat} {Q : Int64 → Mm → Prop} (h : T_X8_digest M a0 Q) : Met l yX8_digest wsX8_digest ({ frames := 6, cells := 0, slots := 0, locals := 145 } : Room) (PcM D cA lo [.ref a0] M) (QlM D cA lo Q) 0 0 (fun q => lo ≤ q) := by
  refine q_start (cc := cX8_digest) (nL := 4) (ret := (some .long)) (by decide) rfl rfl (Nat.le_of_ble_eq_true rfl) ?_
  intro p e s m args below meth c C hr hlk hin
  unfold T_X8_digest at h
  have h := h (fun (a0 : Nat) (l1 : Int64) (i3 : Int32) (M : Mm) => QW p l e ({ frames := 6, cells := 0, slots := 0, locals := 145 } : Room) s m args below meth c (MQ below (QlM D cA lo Q) args s 0 0 (fun q => lo ≤ q)) 4 D cA lo 0 0 M 80 [(0, .ref a0), (1, .long l1), (3, .int i3)] []) (fun (a0 : Nat) (l1 : Int64) (i3 : Int32) (M : Mm) => QW p l e ({ frames := 6, cells := 0, slots := 0, locals := 145 } : Room) s m args below meth c (MQ below (QlM D cA lo Q) args s 0 0 (fun q => lo ≤ q)) 4 D cA lo 0 0 M 117 [(0, .ref a0), (1, .long l1), (3, .int i3)] []) (fun a0 l1 i3 M h => b_X8_digest_80 C hr hlk M a0 l1 i3 h) (fun a0 l1 i3 M h => b_X8_digest_117 C hr hlk M a0 l1 i3 h)
  refine q_ldc2 (v := 58071) C (by decide +kernel) dX8_digest_0 ?_
  refine q_lstore_n (lv' := [(1, .long 58071), (0, .ref a0)]) C dX8_digest_3 rfl (by decide) rfl ?_
  refine q_lload_n C dX8_digest_4 rfl (j := 0) rfl ?_
  refine q_aload_n C dX8_digest_5 rfl (j := 1) rfl ?_
  refine q_getR (ci := 8) (k0 := 0) (T := TX8) C inX8_digest_X8 rfl (by decide) h.1 (by decide) rfl (by decide +kernel) rfl dX8_digest_6 ?_
  obtain ⟨a_1, z, h⟩ := h.2
  refine q_ref z ?_
  refine q_ci (q_runV (As := []) (st := [.long 58071]) C (c_X3_left l D cA lo h.2) (cwV 0 C.2.2.2.2.1 gX8_digest_X3_left rfl rfl rfl (by decide +kernel) ⟨Nat.le_of_ble_eq_true rfl, Nat.le_of_ble_eq_true rfl⟩) h.1 (by decide) rfl rfl rfl (Nat.le_of_ble_eq_true rfl) dX8_digest_9 ⟨Nat.le_of_ble_eq_true rfl, Nat.le_of_ble_eq_true rfl⟩) (fun r_2 M_z h => ?_)
  refine q_mem h.1 ?_
  have h := h.2
  refine q_i2l C dX8_digest_12 ?_
  refine q_cl (q_runS (As := [.long 58071, .long r_2.toInt64]) (st := []) C (c_X8_mix l D cA lo h) (va_cwS 2 C.2.2.2.2.1 gX8_digest_X8_mix rfl rfl rfl (by decide +kernel) ⟨Nat.le_of_ble_eq_true rfl, Nat.le_of_ble_eq_true rfl⟩) rfl rfl (Nat.le_of_ble_eq_true rfl) dX8_digest_13 ⟨Nat.le_of_ble_eq_true rfl, Nat.le_of_ble_eq_true rfl⟩) (fun r_3 M_z h => ?_)
  refine q_mem h.1 ?_
  have h := h.2
  refine q_lstore_n (lv' := [(1, .long r_3), (0, .ref a0)]) C dX8_digest_16 rfl (by decide) rfl ?_
  refine q_lload_n C dX8_digest_17 rfl (j := 0) rfl ?_
  refine q_aload_n C dX8_digest_18 rfl (j := 1) rfl ?_
  refine q_getR (ci := 8) (k0 := 1) (T := TX8) C inX8_digest_X8 rfl (by decide) h.1 (by decide) rfl (by decide +kernel) rfl dX8_digest_19 ?_
  obtain ⟨a_4, z, h⟩ := h.2
  refine q_ref z ?_
  refine q_ci (q_runV (As := []) (st := [.long r_3]) C (c_X1_edgeCount l D cA lo h.2) (cwV 0 C.2.2.2.2.1 gX8_digest_X1_edgeCount rfl rfl rfl (by decide +kernel) ⟨Nat.le_of_ble_eq_true rfl, Nat.le_of_ble_eq_true rfl⟩) h.1 (by decide) rfl rfl rfl (Nat.le_of_ble_eq_true rfl) dX8_digest_22 ⟨Nat.le_of_ble_eq_true rfl, Nat.le_of_ble_eq_true rfl⟩) (fun r_5 M_z h => ?_)
  refine q_mem h.1 ?_
  have h := h.2
  refine q_i2l C dX8_digest_25 ?_
  refine q_cl (q_runS (As := [.long r_3, .long r_5.toInt64]) (st := []) C (c_X8_mix l D cA lo h) (va_cwS 2 C.2.2.2.2.1 gX8_digest_X8_mix rfl rfl rfl (by decide +kernel) ⟨Nat.le_of_ble_eq_true rfl, Nat.le_of_ble_eq_true rfl⟩) rfl rfl (Nat.le_of_ble_eq_true rfl) dX8_digest_26 ⟨Nat.le_of_ble_eq_true rfl, Nat.le_of_ble_eq_true rfl⟩) (fun r_6 M_z h => ?_)
  refine q_mem h.1 ?_
  have h := h.2
  refine q_lstore_n (lv' := [(1, .long r_6), (0, .ref a0)]) C dX8_digest_29 rfl (by decide) rfl ?_
  refine q_lload_n C dX8_digest_30 rfl (j := 0) rfl ?_
  refine q_aload_n C dX8_digest_31 rfl (j := 1) rfl ?_
  refine q_getR (ci := 8) (k0 := 1) (T := TX8) C inX8_digest_X8 rfl (by decide) h.1 (by decide) rfl (by decide +kernel) rfl dX8_digest_32 ?_
  obtain ⟨a_7, z, h⟩ := h.2
  refine q_ref z ?_
  refine q_ci (q_runV (As := []) (st := [.long r_6]) C (c_X1_left l D cA lo h.2) (cwV 0 C.2.2.2.2.1 gX8_digest_X1_left rfl rfl rfl (by decide +kernel) ⟨Nat.le_of_ble_eq_true rfl, Nat.le_of_ble_eq_true rfl⟩) h.1 (by decide) rfl rfl rfl (Nat.le_of_ble_eq_true rfl) dX8_digest_35 ⟨Nat.le_of_ble_eq_true rfl, Nat.le_of_ble_eq_true rfl⟩) (fun r_8 M_z h => ?_)
  refine q_mem h.1 ?_
  have h := h.2
  refine q_i2l C dX8_digest_38 ?_
  refine q_cl (q_runS (As := [.long r_6, .long r_8.toInt64]) (st := []) C (c_X8_mix l D cA lo h) (va_cwS 2 C.2.2.2.2.1 gX8_digest_X8_mix rfl rfl rfl (by decide +kernel) ⟨Nat.le_of_ble_eq_true rfl, Nat.le_of_ble_eq_true rfl⟩) rfl rfl (Nat.le_of_ble_eq_true rfl) dX8_digest_39 ⟨Nat.le_of_ble_eq_true rfl, Nat.le_of_ble_eq_true rfl⟩) (fun r_9 M_z h => ?_)
  refine q_mem h.1 ?_
  have h := h.2
  refine q_lstore_n (lv' := [(1, .long r_9), (0, .ref a0)]) C dX8_digest_42 rfl (by decide) rfl ?_
  refine q_lload_n C dX8_digest_43 rfl (j := 0) rfl ?_
  refine q_aload_n C dX8_digest_44 rfl (j := 1) rfl ?_
  refine q_getR (ci := 8) (k0 := 2) (T := TX8) C inX8_digest_X8 rfl (by decide) h.1 (by decide) rfl (by decide +kernel) rfl dX8_digest_45 ?_
  obtain ⟨a_10, z, h⟩ := h.2
  refine q_ref z ?_
  refine q_ci (q_runV (As := []) (st := [.long r_9]) C (c_X7_holeCount l D cA lo h.2) (cwV 0 C.2.2.2.2.1 gX8_digest_X7_holeCount rfl rfl rfl (by decide +kernel) ⟨Nat.le_of_ble_eq_true rfl, Nat.le_of_ble_eq_true rfl⟩) h.1 (by decide) rfl rfl rfl (Nat.le_of_ble_eq_true rfl) dX8_digest_48 ⟨Nat.le_of_ble_eq_true rfl, Nat.le_of_ble_eq_true rfl⟩) (fun r_11 M_12 h => ?_)
  refine q_i2l C dX8_digest_51 ?_
  refine q_cl (q_runS (As := [.long r_9, .long r_11.toInt64]) (st := []) C (c_X8_mix l D cA lo h) (va_cwS 2 C.2.2.2.2.1 gX8_digest_X8_mix rfl rfl rfl (by decide +kernel) ⟨Nat.le_of_ble_eq_true rfl, Nat.le_of_ble_eq_true rfl⟩) rfl rfl (Nat.le_of_ble_eq_true rfl) dX8_digest_52 ⟨Nat.le_of_ble_eq_true rfl, Nat.le_of_ble_eq_true rfl⟩) (fun r_13 M_z h => ?_)
  refine q_mem h.1 ?_
  have h := h.2
  refine q_lstore_n (lv' := [(1, .long r_13), (0, .ref a0)]) C dX8_digest_55 rfl (by decide) rfl ?_
  refine q_lload_n C dX8_digest_56 rfl (j := 0) rfl ?_
  refine q_aload_n C dX8_digest_57 rfl (j := 1) rfl ?_
  refine q_getR (ci := 8) (k0 := 2) (T := TX8) C inX8_digest_X8 rfl (by decide) h.1 (by decide) rfl (by decide +kernel) rfl dX8_digest_58 ?_
  obtain ⟨a_14, z, h⟩ := h.2
  refine q_ref z ?_
  refine q_ci (q_runV (As := []) (st := [.long r_13]) C (c_X7_shellCount l D cA lo h.2) (cwV 0 C.2.2.2.2.1 gX8_digest_X7_shellCount rfl rfl rfl (by decide +kernel) ⟨Nat.le_of_ble_eq_true rfl, Nat.le_of_ble_eq_true rfl⟩) h.1 (by decide) rfl rfl rfl (Nat.le_of_ble_eq_true rfl) dX8_digest_61 ⟨Nat.le_of_ble_eq_true rfl, Nat.le_of_ble_eq_true rfl⟩) (fun r_15 M_16 h => ?_)
  refine q_i2l C dX8_digest_64 ?_
  refine q_cl (q_runS (As := [.long r_13, .long r_15.toInt64]) (st := []) C (c_X8_mix l D cA lo h) (va_cwS 2 C.2.2.2.2.1 gX8_digest_X8_mix rfl rfl rfl (by decide +kernel) ⟨Nat.le_of_ble_eq_true rfl, Nat.le_of_ble_eq_true rfl⟩) rfl rfl (Nat.le_of_ble_eq_true rfl) dX8_digest_65 ⟨Nat.le_of_ble_eq_true rfl, Nat.le_of_ble_eq_true rfl⟩) (fun r_17 M_z h => ?_)
  refine q_mem h.1 ?_
  have h := h.2
  refine q_lstore_n (lv' := [(1, .long r_17), (0, .ref a0)]) C dX8_digest_68 rfl (by decide) rfl ?_
  refine q_lload_n C dX8_digest_69 rfl (j := 0) rfl ?_
  refine q_aload_n C dX8_digest_70 rfl (j := 1) rfl ?_
  refine q_cl (q_runV (As := []) (st := [.long r_17]) C (c_X8_wholeBulk l D cA lo h.2) (cwV 0 C.2.2.2.2.1 gX8_digest_X8_wholeBulk rfl rfl rfl (by decide +kernel) ⟨Nat.le_of_ble_eq_true rfl, Nat.le_of_ble_eq_true rfl⟩) h.1 (by decide) rfl rfl rfl (Nat.le_of_ble_eq_true rfl) dX8_digest_71 ⟨Nat.le_of_ble_eq_true rfl, Nat.le_of_ble_eq_true rfl⟩) (fun r_18 M_z h => ?_)
  refine q_mem h.1 ?_
  have h := h.2
  refine q_cl (q_runS (As := [.long r_17, .long r_18]) (st := []) C (c_X8_mix l D cA lo h) (va_cwS 2 C.2.2.2.2.1 gX8_digest_X8_mix rfl rfl rfl (by decide +kernel) ⟨Nat.le_of_ble_eq_true rfl, Nat.le_of_ble_eq_true rfl⟩) rfl rfl (Nat.le_of_ble_eq_true rfl) dX8_digest_74 ⟨Nat.le_of_ble_eq_true rfl, Nat.le_of_ble_eq_true rfl⟩) (fun r_19 M_z h => ?_)
  refine q_mem h.1 ?_
  have h := h.2
  refine q_lstore_n (lv' := [(1, .long r_19), (0, .ref a0)]) C dX8_digest_77 rfl (by decide) rfl ?_
  refine q_iconst (v := 0) C dX8_digest_78 (by decide) ?_
  refine q_istore_n (lv' := [(3, .int 0), (1, .long r_19), (0, .ref a0)]) C dX8_digest_79 rfl (by decide) rfl ?_
  exact q_sub [2, 1, 0] rfl h
