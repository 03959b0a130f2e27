section
variable {A : Nat → Nat} {M M' : Mm} {m P T G O o : Nat}
theorem ci_kind (hS : Sh A M) {b : Nat} (h : In A CI b) : kM M b ≠ (9, 13) ∧ kM M b ≠ (100, 4) := by
  obtain ⟨i, hi, hc, rfl⟩ := h
  rcases hc with q | q
  · have hl : i < kdL.length := q
    have hk := hS.2.1 i _ (List.getElem?_eq_getElem hl)
    have all : ∀ k ∈ kdL, k ≠ (9, 13) ∧ k ≠ (100, 4) := by decide
    rw [hk]
    exact all _ (List.getElem_mem hl)
  · by_cases e : i % 2 = 0
    · have := (hS.2.2.2 ((i - 64) / 2) (by omega)).1
      rw [show 64 + 2 * ((i - 64) / 2) = i by omega] at this
      rw [this]
      exact ⟨by decide, by decide⟩
    · have := (hS.2.2.2 ((i - 64) / 2) (by omega)).2.1
      rw [show 65 + 2 * ((i - 64) / 2) = i by omega] at this
      rw [this]
      exact ⟨by decide, by decide⟩
theorem RF.co {np nf : Nat} (h : RF M m P T G O np nf) (hS : Sh A M) (c : Co A M M') : RF M' m P T G O np nf :=
  h.go (fun b _ => c.1 b) (fun b _ => c.2.1 b) (c.2.2 m (fun z => (ci_kind hS z).1 h.1) 3) (c.2.2 m (fun z => (ci_kind hS z).1 h.1) 5) (fun b hb j => c.2.2 b (fun z => (ci_kind hS z).2 hb) j)
theorem lgz {a b : Int64} (e : a = b) : lg_cmp a b = 0 := by
  subst e
  unfold lg_cmp
  rw [if_neg (fun h => by have := Int64.lt_iff_toInt_lt.mp h; omega), if_pos rfl]
theorem w1 : vp_in ((0 : Int32) + 1) 5 := v_in (k := 1) (by decide) (by omega) (by omega)
theorem w2 : vp_in ((0 : Int32) + 2) 5 := v_in (k := 2) (by decide) (by omega) (by omega)
theorem w3 : vp_in ((0 : Int32) + 3) 5 := v_in (k := 3) (by decide) (by omega) (by omega)
theorem w4 : vp_in ((0 : Int32) + 4) 5 := v_in (k := 4) (by decide) (by omega) (by omega)
theorem c8_smooth (h : Emp A M) {Q : Int32 → Mm → Prop} (q : ∀ M', Co A M M' → Q 0 M') : T_X8_smooth M (A 0) Q := by
  unfold T_X8_smooth
  exact ⟨h.1.1.k 0, A 26, h.1.1.r 0 5 26, h.1.1.k 26, f_smooth h (fun M' c => q M' (Co.ch c C6.ci))⟩
theorem c8_turn (h : Emp A M) {Q : Int32 → Mm → Prop} (q : ∀ M', Co A M M' → Q 0 M') : T_X8_turn M (A 0) Q := f_turn h (q M Co.rf)
theorem c8_points (h : Emp A M) {Q : Int32 → Prop} (q : Q 0) : T_X8_points M (A 0) Q := by
  unfold T_X8_points
  exact ⟨h.1.1.k 0, A 1, h.1.1.r 0 0 1, h.1.1.k 1, f_pleft h q⟩
theorem c8_edges (h : Emp A M) {Q : Int32 → Prop} (q : Q 0) : T_X8_edges M (A 0) Q := by
  unfold T_X8_edges
  exact ⟨h.1.1.k 0, A 7, h.1.1.r 0 1 7, h.1.1.k 7, f_edges h q⟩
theorem c8_faces (h : Emp A M) {Q : Int32 → Prop} (q : Q 0) : T_X8_faces M (A 0) Q := by
  unfold T_X8_faces
  exact ⟨h.1.1.k 0, A 7, h.1.1.r 0 1 7, h.1.1.k 7, f_left h q⟩
theorem c8_holes (h : FRSH A M) {Q : Int32 → Mm → Prop} (q : ∀ M', Co A M M' → Q 0 M') : T_X8_holes M (A 0) Q := by
  unfold T_X8_holes
  exact ⟨h.1.1.k 0, A 14, h.1.1.r 0 2 14, h.1.1.k 14, f_holes h.f0 h.2.2.2.2.1 (fun M' c => q M' (Co.ch c (fun i e => Or.inl (by omega))))⟩
theorem c8_shells (h : Emp A M) {Q : Int32 → Mm → Prop} (q : ∀ M', Co A M M' → Q 0 M') : T_X8_shells M (A 0) Q := by
  unfold T_X8_shells
  exact ⟨h.1.1.k 0, A 14, h.1.1.r 0 2 14, h.1.1.k 14, f_shells h (fun M' c => q M' (Co.ch c (fun i e => Or.inl (by omega))))⟩
theorem c8_volume (h : Emp A M) {Q : Int64 → Prop} (q : Q 0) : T_X8_volume M (A 0) Q := by
  unfold T_X8_volume
  exact ⟨h.1.1.k 0, f_bulk h q⟩
theorem c8_meanEdge (h : Emp A M) {Q : UInt64 → Prop} (q : Q FP.dconst0) : T_X8_meanEdge M (A 0) Q := by
  unfold T_X8_meanEdge
  exact ⟨h.1.1.k 0, A 7, h.1.1.r 0 1 7, h.1.1.k 7, f_edges h ⟨fun z => absurd rfl z, fun _ => q⟩⟩
theorem dcz {op : CmpOp} : Op.cmpValue (FP.dcmp FP.dconst0 FP.dconst0) op = 0 := by cases op <;> decide +kernel
variable {K : Nat → Nat → Nat → Int32 → Mm → Nat → Nat → Prop} {xs : Nat → Int32} {cc zz : Nat}
set_option maxRecDepth 100000 in
theorem v_192 (hF : FRSH A M) (hR : RF M m P T G O 0 0) (ho : kM M o = (110, 1)) (hE : ∀ M' c z, c ≤ 600002 → z ≤ 7302232 → K (A 0) m o (0 + 5) M' c z) (hc : cc ≤ 2000) (hz : zz ≤ 100000) : A_L_law_192 K 600002 7302232 5 xs M (A 0) m o 0 cc zz := by
  unfold A_L_law_192
  exact ⟨w1, w2, w3, 300, 1000, ⟨by omega, by omega⟩, w_point hF.f0 ho (by omega) (by omega) (fun n => ⟨w1, w2, w3, 300, 1000, ⟨by omega, by omega⟩, hR.1, r_point (o := o) hR (by omega) (by omega) (fun _ M3 k => ⟨⟨by omega, by omega⟩, k.1, t9_thrown k.1 k.2.1 ⟨fun _ => ⟨fun _ => hE _ _ _ (by omega) (by omega), fun z => absurd z (by decide)⟩, fun z => absurd rfl z⟩⟩) (fun n2 => absurd n2 n)⟩) (fun n M2 co lv => ⟨w1, w2, w3, 300, 1000, ⟨by omega, by omega⟩, (hR.co hF.1.1 co).1, r_point (o := o) (hR.co hF.1.1 co) (by omega) (by omega) (fun n2 => absurd n n2) (fun _ M3 k => ⟨⟨by omega, by omega⟩, k.1, t9_thrown k.1 k.2.1 ⟨fun _ => ⟨fun z => absurd rfl z, fun _ => ⟨1, (k.2.2 ((co.1 o).trans ho)).1, v_0, fun _ => hE _ _ _ (by omega) (by omega), fun z => absurd (lgz ((k.2.2 ((co.1 o).trans ho)).2.trans lv)) z⟩⟩, fun z => absurd rfl z⟩⟩)⟩)⟩
set_option maxRecDepth 100000 in
theorem v_272 (hF : FRSH A M) (hR : RF M m P T G O 0 0) (ho : kM M o = (110, 1)) (hE : ∀ M' c z, c ≤ 600002 → z ≤ 7302232 → K (A 0) m o (0 + 5) M' c z) (hc : cc ≤ 2000) (hz : zz ≤ 100000) : A_L_law_272 K 600002 7302232 5 xs M (A 0) m o 0 cc zz := by
  unfold A_L_law_272
  exact ⟨w1, w2, w3, w4, 300, 1000, ⟨by omega, by omega⟩, w_move hF (by omega) (by omega) ⟨w1, w2, w3, w4, 300, 1000, ⟨by omega, by omega⟩, hR.1, r_move hR (fun M2 k1 k2 _ _ => ⟨⟨by omega, by omega⟩, k1, t9_thrown k1 k2 ⟨fun _ => ⟨fun _ => hE _ _ _ (by omega) (by omega), fun z => absurd z (by decide)⟩, fun z => absurd rfl z⟩⟩)⟩⟩
set_option maxRecDepth 100000 in
theorem v_364 (hF : FRSH A M) (hR : RF M m P T G O 0 0) (ho : kM M o = (110, 1)) (hE : ∀ M' c z, c ≤ 600002 → z ≤ 7302232 → K (A 0) m o (0 + 5) M' c z) (hc : cc ≤ 2000) (hz : zz ≤ 100000) : A_L_law_364 K 600002 7302232 5 xs M (A 0) m o 0 cc zz := by
  unfold A_L_law_364
  exact ⟨w1, w2, w3, w4, 300, 1000, ⟨by omega, by omega⟩, w_face hF (by omega) (by omega) ⟨w1, w2, w3, w4, 300, 1000, ⟨by omega, by omega⟩, hR.1, r_face hR (fun M2 k1 k2 _ _ => ⟨⟨by omega, by omega⟩, k1, t9_thrown k1 k2 ⟨fun _ => ⟨fun _ => hE _ _ _ (by omega) (by omega), fun z => absurd z (by decide)⟩, fun z => absurd rfl z⟩⟩)⟩⟩
set_option maxRecDepth 100000 in
theorem v_456 (hF : FRSH A M) (hR : RF M m P T G O 0 0) (ho : kM M o = (110, 1)) (hE : ∀ M' c z, c ≤ 600002 → z ≤ 7302232 → K (A 0) m o (0 + 5) M' c z) (hc : cc ≤ 2000) (hz : zz ≤ 100000) : A_L_law_456 K 600002 7302232 5 xs M (A 0) m o 0 cc zz := by
  unfold A_L_law_456
  exact ⟨w1, 300, 1000, ⟨by omega, by omega⟩, w_dropFace hF (by omega) (by omega) ⟨w1, ⟨by omega, by omega⟩, hR.1, r_dropFace hR (fun M2 k1 k2 _ _ => ⟨⟨by omega, by omega⟩, k1, t9_thrown k1 k2 ⟨fun _ => ⟨fun _ => hE _ _ _ (by omega) (by omega), fun z => absurd z (by decide)⟩, fun z => absurd rfl z⟩⟩)⟩⟩
set_option maxRecDepth 100000 in
theorem v_512 (hF : FRSH A M) (hR : RF M m P T G O 0 0) (ho : kM M o = (110, 1)) (hE : ∀ M' c z, c ≤ 600002 → z ≤ 7302232 → K (A 0) m o (0 + 5) M' c z) (hc : cc ≤ 2000) (hz : zz ≤ 100000) : A_L_law_512 K 600002 7302232 5 xs M (A 0) m o 0 cc zz := by
  unfold A_L_law_512
  exact ⟨w1, 300, 1000, ⟨by omega, by omega⟩, w_dropPoint hF (by omega) (by omega) ⟨w1, ⟨by omega, by omega⟩, hR.1, r_dropPoint hR (fun M2 k1 k2 _ _ => ⟨⟨by omega, by omega⟩, k1, t9_thrown k1 k2 ⟨fun _ => ⟨fun _ => hE _ _ _ (by omega) (by omega), fun z => absurd z (by decide)⟩, fun z => absurd rfl z⟩⟩)⟩⟩
set_option maxRecDepth 100000 in
theorem v_568 (hF : FRSH A M) (hR : RF M m P T G O 0 0) (ho : kM M o = (110, 1)) (hE : ∀ M' c z, c ≤ 600002 → z ≤ 7302232 → K (A 0) m o (0 + 5) M' c z) (hc : cc ≤ 2000) (hz : zz ≤ 100000) : A_L_law_568 K 600002 7302232 5 xs M (A 0) m o 0 cc zz := by
  unfold A_L_law_568
  exact ⟨w1, w2, w3, w4, 300, 1000, ⟨by omega, by omega⟩, w_box hF ho (by omega) (by omega) (fun n => ⟨w1, w2, w3, w4, 300, 1000, ⟨by omega, by omega⟩, hR.1, r_box (o := o) hR (by omega) (by omega) (fun _ M3 k => ⟨⟨by omega, by omega⟩, k.1, t9_thrown k.1 k.2.1 ⟨fun _ => ⟨fun _ => hE _ _ _ (by omega) (by omega), fun z => absurd z (by decide)⟩, fun z => absurd rfl z⟩⟩) (fun n2 => absurd n2 n)⟩) (fun n M2 co lv => ⟨w1, w2, w3, w4, 300, 1000, ⟨by omega, by omega⟩, (hR.co hF.1.1 co).1, r_box (o := o) (hR.co hF.1.1 co) (by omega) (by omega) (fun n2 => absurd n n2) (fun _ M3 k => ⟨⟨by omega, by omega⟩, k.1, t9_thrown k.1 k.2.1 ⟨fun _ => ⟨fun z => absurd rfl z, fun _ => ⟨1, (k.2.2 ((co.1 o).trans ho)).1, v_0, fun _ => hE _ _ _ (by omega) (by omega), fun z => absurd (lgz ((k.2.2 ((co.1 o).trans ho)).2.trans lv)) z⟩⟩, fun z => absurd rfl z⟩⟩)⟩)⟩
set_option maxRecDepth 100000 in
theorem v_660 (hF : FRSH A M) (hR : RF M m P T G O 0 0) (ho : kM M o = (110, 1)) (hE : ∀ M' c z, c ≤ 600002 → z ≤ 7302232 → K (A 0) m o (0 + 5) M' c z) (hc : cc ≤ 2000) (hz : zz ≤ 100000) : A_L_law_660 K 600002 7302232 5 xs M (A 0) m o 0 cc zz := by
  unfold A_L_law_660
  exact ⟨w1, w2, 300, 1000, ⟨by omega, by omega⟩, w_split hF (by omega) (by omega) ⟨w1, w2, ⟨by omega, by omega⟩, hR.1, r_split hR (fun M2 k1 k2 _ _ => ⟨⟨by omega, by omega⟩, k1, t9_thrown k1 k2 ⟨fun _ => ⟨fun _ => hE _ _ _ (by omega) (by omega), fun z => absurd z (by decide)⟩, fun z => absurd rfl z⟩⟩)⟩⟩
set_option maxRecDepth 100000 in
theorem v_728 (hF : FRSH A M) (hR : RF M m P T G O 0 0) (ho : kM M o = (110, 1)) (hE : ∀ M' c z, c ≤ 600002 → z ≤ 7302232 → K (A 0) m o (0 + 5) M' c z) (hc : cc ≤ 2000) (hz : zz ≤ 100000) : A_L_law_728 K 600002 7302232 5 xs M (A 0) m o 0 cc zz := by
  unfold A_L_law_728
  exact ⟨w1, w2, w3, 300, 1000, ⟨by omega, by omega⟩, w_cut hF (by omega) (by omega) ⟨w1, w2, w3, ⟨by omega, by omega⟩, hR.1, r_cut hR (fun M2 k1 k2 _ _ => ⟨⟨by omega, by omega⟩, k1, t9_thrown k1 k2 ⟨fun _ => ⟨fun _ => hE _ _ _ (by omega) (by omega), fun z => absurd z (by decide)⟩, fun z => absurd rfl z⟩⟩)⟩⟩
set_option maxRecDepth 100000 in
theorem v_808 (hF : FRSH A M) (hR : RF M m P T G O 0 0) (ho : kM M o = (110, 1)) (hE : ∀ M' c z, c ≤ 600002 → z ≤ 7302232 → K (A 0) m o (0 + 5) M' c z) (hc : cc ≤ 2000) (hz : zz ≤ 100000) : A_L_law_808 K 600002 7302232 5 xs M (A 0) m o 0 cc zz := by
  unfold A_L_law_808
  exact ⟨w1, w2, 300, 1000, ⟨by omega, by omega⟩, w_join hF (by omega) (by omega) ⟨w1, w2, ⟨by omega, by omega⟩, hR.1, r_join hR (fun M2 k1 k2 _ _ => ⟨⟨by omega, by omega⟩, k1, t9_thrown k1 k2 ⟨fun _ => ⟨fun _ => hE _ _ _ (by omega) (by omega), fun z => absurd z (by decide)⟩, fun z => absurd rfl z⟩⟩)⟩⟩
set_option maxRecDepth 100000 in
theorem v_876 (hF : FRSH A M) (hR : RF M m P T G O 0 0) (ho : kM M o = (110, 1)) (hE : ∀ M' c z, c ≤ 600002 → z ≤ 7302232 → K (A 0) m o (0 + 5) M' c z) (hc : cc ≤ 2000) (hz : zz ≤ 100000) : A_L_law_876 K 600002 7302232 5 xs M (A 0) m o 0 cc zz := by
  unfold A_L_law_876
  exact ⟨w1, w2, 300, 1000, ⟨by omega, by omega⟩, w_collapse hF (by omega) (by omega) ⟨w1, w2, ⟨by omega, by omega⟩, hR.1, r_collapse hR (fun M2 k1 k2 _ _ => ⟨⟨by omega, by omega⟩, k1, t9_thrown k1 k2 ⟨fun _ => ⟨fun _ => hE _ _ _ (by omega) (by omega), fun z => absurd z (by decide)⟩, fun z => absurd rfl z⟩⟩)⟩⟩
set_option maxRecDepth 100000 in
theorem v_944 (hF : FRSH A M) (hR : RF M m P T G O 0 0) (ho : kM M o = (110, 1)) (hE : ∀ M' c z, c ≤ 600002 → z ≤ 7302232 → K (A 0) m o (0 + 5) M' c z) (hc : cc ≤ 2000) (hz : zz ≤ 100000) : A_L_law_944 K 600002 7302232 5 xs M (A 0) m o 0 cc zz := by
  unfold A_L_law_944
  exact ⟨w1, w2, 300, 1000, ⟨by omega, by omega⟩, w_flip hF (by omega) (by omega) ⟨w1, w2, ⟨by omega, by omega⟩, hR.1, r_flip hR (fun M2 k1 k2 _ _ => ⟨⟨by omega, by omega⟩, k1, t9_thrown k1 k2 ⟨fun _ => ⟨fun _ => hE _ _ _ (by omega) (by omega), fun z => absurd z (by decide)⟩, fun z => absurd rfl z⟩⟩)⟩⟩
set_option maxRecDepth 100000 in
theorem v_1012 (hF : FRSH A M) (hR : RF M m P T G O 0 0) (ho : kM M o = (110, 1)) (hE : ∀ M' c z, c ≤ 600002 → z ≤ 7302232 → K (A 0) m o (0 + 5) M' c z) (hc : cc ≤ 2000) (hz : zz ≤ 100000) : A_L_law_1012 K 600002 7302232 5 xs M (A 0) m o 0 cc zz := by
  unfold A_L_law_1012
  exact ⟨w1, w2, w3, w4, 300, 1000, ⟨by omega, by omega⟩, w_draw hF (by omega) (by omega) ⟨w1, w2, w3, w4, 300, 1000, ⟨by omega, by omega⟩, hR.1, r_draw hR (fun M2 k1 k2 _ _ => ⟨⟨by omega, by omega⟩, k1, t9_thrown k1 k2 ⟨fun _ => ⟨fun _ => hE _ _ _ (by omega) (by omega), fun z => absurd z (by decide)⟩, fun z => absurd rfl z⟩⟩)⟩⟩
set_option maxRecDepth 100000 in
theorem v_1104 (hF : FRSH A M) (hR : RF M m P T G O 0 0) (ho : kM M o = (110, 1)) (hE : ∀ M' c z, c ≤ 600002 → z ≤ 7302232 → K (A 0) m o (0 + 5) M' c z) (hc : cc ≤ 2000) (hz : zz ≤ 100000) : A_L_law_1104 K 600002 7302232 5 xs M (A 0) m o 0 cc zz := by
  unfold A_L_law_1104
  exact ⟨w1, w2, 300, 1000, ⟨by omega, by omega⟩, w_fill hF (by omega) (by omega) ⟨w1, w2, ⟨by omega, by omega⟩, hR.1, r_fill hR (fun M2 k1 k2 _ _ => ⟨⟨by omega, by omega⟩, k1, t9_thrown k1 k2 ⟨fun _ => ⟨fun _ => hE _ _ _ (by omega) (by omega), fun z => absurd z (by decide)⟩, fun z => absurd rfl z⟩⟩)⟩⟩
set_option maxRecDepth 100000 in
theorem v_1172 (hF : FRSH A M) (hR : RF M m P T G O 0 0) (ho : kM M o = (110, 1)) (hE : ∀ M' c z, c ≤ 600002 → z ≤ 7302232 → K (A 0) m o (0 + 5) M' c z) (hc : cc ≤ 2000) (hz : zz ≤ 100000) : A_L_law_1172 K 600002 7302232 5 xs M (A 0) m o 0 cc zz := by
  unfold A_L_law_1172
  exact ⟨300, 1000, ⟨by omega, by omega⟩, w_quarters hF.f0 ho (by omega) (by omega) (fun M2 co lv => ⟨300, 1000, ⟨by omega, by omega⟩, (hR.co hF.1.1 co).1, r_quarters (o := o) (hR.co hF.1.1 co) (by omega) (by omega) (fun M3 k => ⟨⟨by omega, by omega⟩, k.1, t9_thrown k.1 k.2.1 ⟨fun _ => ⟨fun z => absurd rfl z, fun _ => ⟨1, (k.2.2 ((co.1 o).trans ho)).1, v_0, fun _ => hE _ _ _ (by omega) (by omega), fun z => absurd (lgz ((k.2.2 ((co.1 o).trans ho)).2.trans lv)) z⟩⟩, fun z => absurd rfl z⟩⟩)⟩)⟩
set_option maxRecDepth 100000 in
theorem v_1216 (hF : FRSH A M) (hR : RF M m P T G O 0 0) (ho : kM M o = (110, 1)) (hE : ∀ M' c z, c ≤ 600002 → z ≤ 7302232 → K (A 0) m o (0 + 5) M' c z) (hc : cc ≤ 2000) (hz : zz ≤ 100000) : A_L_law_1216 K 600002 7302232 5 xs M (A 0) m o 0 cc zz := by
  unfold A_L_law_1216
  exact ⟨⟨by omega, by omega⟩, hF.1.1.k 0, c8_smooth hF.f0 (fun M2 co => ⟨300, 1000, ⟨by omega, by omega⟩, (hR.co hF.1.1 co).1, r_smooth (hR.co hF.1.1 co) (by omega) (fun M3 => ⟨fun _ => hE _ _ _ (by omega) (by omega), fun z => absurd rfl z⟩)⟩)⟩
set_option maxRecDepth 100000 in
theorem v_1229 (hF : FRSH A M) (hR : RF M m P T G O 0 0) (ho : kM M o = (110, 1)) (hE : ∀ M' c z, c ≤ 600002 → z ≤ 7302232 → K (A 0) m o (0 + 5) M' c z) (hc : cc ≤ 2000) (hz : zz ≤ 100000) : A_L_law_1229 K 600002 7302232 5 xs M (A 0) m o 0 cc zz := by
  unfold A_L_law_1229
  exact ⟨⟨by omega, by omega⟩, hF.1.1.k 0, c8_turn hF.f0 (fun M2 co => ⟨⟨by omega, by omega⟩, (hR.co hF.1.1 co).1, r_turn (hR.co hF.1.1 co) (fun M3 => ⟨fun _ => hE _ _ _ (by omega) (by omega), fun z => absurd rfl z⟩)⟩)⟩
set_option maxRecDepth 100000 in
theorem v_1242 (hF : FRSH A M) (hR : RF M m P T G O 0 0) (ho : kM M o = (110, 1)) (hE : ∀ M' c z, c ≤ 600002 → z ≤ 7302232 → K (A 0) m o (0 + 5) M' c z) (hc : cc ≤ 2000) (hz : zz ≤ 100000) : A_L_law_1242 K 600002 7302232 5 xs M (A 0) m o 0 cc zz := by
  unfold A_L_law_1242
  exact ⟨⟨by omega, by omega⟩, hF.1.1.k 0, c8_points hF.f0 ⟨⟨by omega, by omega⟩, hR.1, r_points hR (fun M3 => ⟨fun _ => hE _ _ _ (by omega) (by omega), fun z => absurd rfl z⟩)⟩⟩
set_option maxRecDepth 100000 in
theorem v_1255 (hF : FRSH A M) (hR : RF M m P T G O 0 0) (ho : kM M o = (110, 1)) (hE : ∀ M' c z, c ≤ 600002 → z ≤ 7302232 → K (A 0) m o (0 + 5) M' c z) (hc : cc ≤ 2000) (hz : zz ≤ 100000) : A_L_law_1255 K 600002 7302232 5 xs M (A 0) m o 0 cc zz := by
  unfold A_L_law_1255
  exact ⟨⟨by omega, by omega⟩, hF.1.1.k 0, c8_edges hF.f0 ⟨⟨by omega, by omega⟩, hR.1, r_edges hR (fun M3 => ⟨fun _ => hE _ _ _ (by omega) (by omega), fun z => absurd rfl z⟩)⟩⟩
set_option maxRecDepth 100000 in
theorem v_1268 (hF : FRSH A M) (hR : RF M m P T G O 0 0) (ho : kM M o = (110, 1)) (hE : ∀ M' c z, c ≤ 600002 → z ≤ 7302232 → K (A 0) m o (0 + 5) M' c z) (hc : cc ≤ 2000) (hz : zz ≤ 100000) : A_L_law_1268 K 600002 7302232 5 xs M (A 0) m o 0 cc zz := by
  unfold A_L_law_1268
  exact ⟨⟨by omega, by omega⟩, hF.1.1.k 0, c8_faces hF.f0 ⟨⟨by omega, by omega⟩, hR.1, r_faces hR (fun M3 => ⟨fun _ => hE _ _ _ (by omega) (by omega), fun z => absurd rfl z⟩)⟩⟩
set_option maxRecDepth 100000 in
theorem v_1281 (hF : FRSH A M) (hR : RF M m P T G O 0 0) (ho : kM M o = (110, 1)) (hE : ∀ M' c z, c ≤ 600002 → z ≤ 7302232 → K (A 0) m o (0 + 5) M' c z) (hc : cc ≤ 2000) (hz : zz ≤ 100000) : A_L_law_1281 K 600002 7302232 5 xs M (A 0) m o 0 cc zz := by
  unfold A_L_law_1281
  exact ⟨⟨by omega, by omega⟩, hF.1.1.k 0, c8_holes hF (fun M2 co => ⟨300, 1000, ⟨by omega, by omega⟩, (hR.co hF.1.1 co).1, r_holes (hR.co hF.1.1 co) (by omega) (fun M3 => ⟨fun _ => hE _ _ _ (by omega) (by omega), fun z => absurd rfl z⟩)⟩)⟩
set_option maxRecDepth 100000 in
theorem v_1294 (hF : FRSH A M) (hR : RF M m P T G O 0 0) (ho : kM M o = (110, 1)) (hE : ∀ M' c z, c ≤ 600002 → z ≤ 7302232 → K (A 0) m o (0 + 5) M' c z) (hc : cc ≤ 2000) (hz : zz ≤ 100000) : A_L_law_1294 K 600002 7302232 5 xs M (A 0) m o 0 cc zz := by
  unfold A_L_law_1294
  exact ⟨⟨by omega, by omega⟩, hF.1.1.k 0, c8_shells hF.f0 (fun M2 co => ⟨300, 1000, ⟨by omega, by omega⟩, (hR.co hF.1.1 co).1, r_shells (hR.co hF.1.1 co) (by omega) (fun M3 => ⟨fun _ => hE _ _ _ (by omega) (by omega), fun z => absurd rfl z⟩)⟩)⟩
set_option maxRecDepth 100000 in
theorem v_1307 (hF : FRSH A M) (hR : RF M m P T G O 0 0) (ho : kM M o = (110, 1)) (hE : ∀ M' c z, c ≤ 600002 → z ≤ 7302232 → K (A 0) m o (0 + 5) M' c z) (hc : cc ≤ 2000) (hz : zz ≤ 100000) : A_L_law_1307 K 600002 7302232 5 xs M (A 0) m o 0 cc zz := by
  unfold A_L_law_1307
  exact ⟨w1, w2, 300, 1000, ⟨by omega, by omega⟩, w_at hF (by omega) (by omega) ⟨w1, w2, ⟨by omega, by omega⟩, hR.1, r_at hR (fun M2 k1 k2 _ _ => ⟨⟨by omega, by omega⟩, k1, t9_thrown k1 k2 ⟨fun _ => ⟨fun _ => hE _ _ _ (by omega) (by omega), fun z => absurd z (by decide)⟩, fun z => absurd rfl z⟩⟩)⟩⟩
set_option maxRecDepth 100000 in
theorem v_1375 (hF : FRSH A M) (hR : RF M m P T G O 0 0) (ho : kM M o = (110, 1)) (hE : ∀ M' c z, c ≤ 600002 → z ≤ 7302232 → K (A 0) m o (0 + 5) M' c z) (hc : cc ≤ 2000) (hz : zz ≤ 100000) : A_L_law_1375 K 600002 7302232 5 xs M (A 0) m o 0 cc zz := by
  unfold A_L_law_1375
  exact ⟨w1, 300, 1000, ⟨by omega, by omega⟩, w_size hF (by omega) (by omega) ⟨w1, ⟨by omega, by omega⟩, hR.1, r_size hR (fun M2 k1 k2 _ _ => ⟨⟨by omega, by omega⟩, k1, t9_thrown k1 k2 ⟨fun _ => ⟨fun _ => hE _ _ _ (by omega) (by omega), fun z => absurd z (by decide)⟩, fun z => absurd rfl z⟩⟩)⟩⟩
set_option maxRecDepth 100000 in
theorem v_1431 (hF : FRSH A M) (hR : RF M m P T G O 0 0) (ho : kM M o = (110, 1)) (hE : ∀ M' c z, c ≤ 600002 → z ≤ 7302232 → K (A 0) m o (0 + 5) M' c z) (hc : cc ≤ 2000) (hz : zz ≤ 100000) : A_L_law_1431 K 600002 7302232 5 xs M (A 0) m o 0 cc zz := by
  unfold A_L_law_1431
  exact ⟨w1, w2, 300, 1000, ⟨by omega, by omega⟩, w_corner hF (by omega) (by omega) ⟨w1, w2, ⟨by omega, by omega⟩, hR.1, r_corner hR (fun M2 k1 k2 _ _ => ⟨⟨by omega, by omega⟩, k1, t9_thrown k1 k2 ⟨fun _ => ⟨fun _ => hE _ _ _ (by omega) (by omega), fun z => absurd z (by decide)⟩, fun z => absurd rfl z⟩⟩)⟩⟩
set_option maxRecDepth 100000 in
theorem v_1499 (hF : FRSH A M) (hR : RF M m P T G O 0 0) (ho : kM M o = (110, 1)) (hE : ∀ M' c z, c ≤ 600002 → z ≤ 7302232 → K (A 0) m o (0 + 5) M' c z) (hc : cc ≤ 2000) (hz : zz ≤ 100000) : A_L_law_1499 K 600002 7302232 5 xs M (A 0) m o 0 cc zz := by
  unfold A_L_law_1499
  exact ⟨w1, w2, 300, 1000, ⟨by omega, by omega⟩, w_faceOf hF (by omega) (by omega) ⟨w1, w2, ⟨by omega, by omega⟩, hR.1, r_faceOf hR (fun M2 k1 k2 _ _ => ⟨⟨by omega, by omega⟩, k1, t9_thrown k1 k2 ⟨fun _ => ⟨fun _ => hE _ _ _ (by omega) (by omega), fun z => absurd z (by decide)⟩, fun z => absurd rfl z⟩⟩)⟩⟩
set_option maxRecDepth 100000 in
theorem v_1567 (hF : FRSH A M) (hR : RF M m P T G O 0 0) (ho : kM M o = (110, 1)) (hE : ∀ M' c z, c ≤ 600002 → z ≤ 7302232 → K (A 0) m o (0 + 5) M' c z) (hc : cc ≤ 2000) (hz : zz ≤ 100000) : A_L_law_1567 K 600002 7302232 5 xs M (A 0) m o 0 cc zz := by
  unfold A_L_law_1567
  exact ⟨w1, w2, 300, 1000, ⟨by omega, by omega⟩, w_hole hF (by omega) (by omega) ⟨w1, w2, ⟨by omega, by omega⟩, hR.1, r_hole hR (fun M2 k1 k2 _ _ => ⟨⟨by omega, by omega⟩, k1, t9_thrown k1 k2 ⟨fun _ => ⟨fun _ => hE _ _ _ (by omega) (by omega), fun z => absurd z (by decide)⟩, fun z => absurd rfl z⟩⟩)⟩⟩
set_option maxRecDepth 100000 in
theorem v_1635 (hF : FRSH A M) (hR : RF M m P T G O 0 0) (ho : kM M o = (110, 1)) (hE : ∀ M' c z, c ≤ 600002 → z ≤ 7302232 → K (A 0) m o (0 + 5) M' c z) (hc : cc ≤ 2000) (hz : zz ≤ 100000) : A_L_law_1635 K 600002 7302232 5 xs M (A 0) m o 0 cc zz := by
  unfold A_L_law_1635
  exact ⟨w1, w2, 300, 1000, ⟨by omega, by omega⟩, w_around hF (by omega) (by omega) ⟨w1, w2, ⟨by omega, by omega⟩, hR.1, r_around hR (fun M2 k1 k2 _ _ => ⟨⟨by omega, by omega⟩, k1, t9_thrown k1 k2 ⟨fun _ => ⟨fun _ => hE _ _ _ (by omega) (by omega), fun z => absurd z (by decide)⟩, fun z => absurd rfl z⟩⟩)⟩⟩
set_option maxRecDepth 100000 in
theorem v_1703 (hF : FRSH A M) (hR : RF M m P T G O 0 0) (ho : kM M o = (110, 1)) (hE : ∀ M' c z, c ≤ 600002 → z ≤ 7302232 → K (A 0) m o (0 + 5) M' c z) (hc : cc ≤ 2000) (hz : zz ≤ 100000) : A_L_law_1703 K 600002 7302232 5 xs M (A 0) m o 0 cc zz := by
  unfold A_L_law_1703
  exact ⟨w1, w2, 300, 1000, ⟨by omega, by omega⟩, w_normal hF (by omega) (by omega) ⟨w1, w2, ⟨by omega, by omega⟩, hR.1, r_normal hR (fun M2 k1 k2 _ _ => ⟨⟨by omega, by omega⟩, k1, t9_thrown k1 k2 ⟨fun _ => ⟨fun _ => hE _ _ _ (by omega) (by omega), fun z => absurd z (by decide)⟩, fun z => absurd rfl z⟩⟩)⟩⟩
set_option maxRecDepth 100000 in
theorem v_1771 (hF : FRSH A M) (hR : RF M m P T G O 0 0) (ho : kM M o = (110, 1)) (hE : ∀ M' c z, c ≤ 600002 → z ≤ 7302232 → K (A 0) m o (0 + 5) M' c z) (hc : cc ≤ 2000) (hz : zz ≤ 100000) : A_L_law_1771 K 600002 7302232 5 xs M (A 0) m o 0 cc zz := by
  unfold A_L_law_1771
  exact ⟨⟨by omega, by omega⟩, hF.1.1.k 0, c8_volume hF.f0 ⟨⟨by omega, by omega⟩, hR.1, r_volume hR (fun M3 => ⟨fun _ => hE _ _ _ (by omega) (by omega), fun z => absurd (lgz rfl) z⟩)⟩⟩
set_option maxRecDepth 100000 in
theorem v_1785 (hF : FRSH A M) (hR : RF M m P T G O 0 0) (ho : kM M o = (110, 1)) (hE : ∀ M' c z, c ≤ 600002 → z ≤ 7302232 → K (A 0) m o (0 + 5) M' c z) (hc : cc ≤ 2000) (hz : zz ≤ 100000) : A_L_law_1785 K 600002 7302232 5 xs M (A 0) m o 0 cc zz := by
  unfold A_L_law_1785
  refine ⟨⟨by omega, by omega⟩, hF.1.1.k 0, c8_meanEdge hF.f0 ⟨⟨by omega, by omega⟩, hR.1, r_meanEdge hR (fun M3 => ?_)⟩⟩
  rw [dcz]
  exact ⟨fun _ => hE _ _ _ (by omega) (by omega), fun z => absurd rfl z⟩
set_option maxRecDepth 100000 in
theorem v_1826 (hF : FRSH A M) (hR : RF M m P T G O 0 0) (ho : kM M o = (110, 1)) (hE : ∀ M' c z, c ≤ 600002 → z ≤ 7302232 → K (A 0) m o (0 + 5) M' c z) (hc : cc ≤ 2000) (hz : zz ≤ 100000) : A_L_law_1826 K 600002 7302232 5 xs M (A 0) m o 0 cc zz := by
  unfold A_L_law_1826
  exact ⟨w1, w2, 300, 1000, ⟨by omega, by omega⟩, w_steps hF (by omega) (by omega) ⟨w1, w2, 300, 1000, ⟨by omega, by omega⟩, hR.1, r_steps hR (fun M2 k1 k2 _ _ => ⟨⟨by omega, by omega⟩, k1, t9_thrown k1 k2 ⟨fun _ => ⟨fun _ => hE _ _ _ (by omega) (by omega), fun z => absurd z (by decide)⟩, fun z => absurd rfl z⟩⟩)⟩⟩
set_option maxRecDepth 100000 in
theorem v_1894 (hF : FRSH A M) (hR : RF M m P T G O 0 0) (ho : kM M o = (110, 1)) (hE : ∀ M' c z, c ≤ 600002 → z ≤ 7302232 → K (A 0) m o (0 + 5) M' c z) (hc : cc ≤ 2000) (hz : zz ≤ 100000) : A_L_law_1894 K 600002 7302232 5 xs M (A 0) m o 0 cc zz := by
  unfold A_L_law_1894
  exact ⟨w1, 300, 1000, ⟨by omega, by omega⟩, w_may hF.f0 ho (by omega) (by omega) (fun n => ⟨w1, ⟨by omega, by omega⟩, hR.1, r_may (o := o) hR (fun _ M3 k => ⟨⟨by omega, by omega⟩, k.1, t9_thrown k.1 k.2.1 ⟨fun _ => ⟨fun _ => hE _ _ _ (by omega) (by omega), fun z => absurd z (by decide)⟩, fun z => absurd rfl z⟩⟩) (fun n2 => absurd n2 n)⟩) (fun n M2 co lv => ⟨w1, ⟨by omega, by omega⟩, (hR.co hF.1.1 co).1, r_may (o := o) (hR.co hF.1.1 co) (fun n2 => absurd n n2) (fun _ M3 k => ⟨⟨by omega, by omega⟩, k.1, t9_thrown k.1 k.2.1 ⟨fun _ => ⟨fun z => absurd rfl z, fun _ => ⟨1, (k.2.2 ((co.1 o).trans ho)).1, v_0, fun _ => hE _ _ _ (by omega) (by omega), fun z => absurd (lgz ((k.2.2 ((co.1 o).trans ho)).2.trans lv)) z⟩⟩, fun z => absurd rfl z⟩⟩)⟩)⟩
set_option maxRecDepth 100000 in
theorem v_1950 (hF : FRSH A M) (hR : RF M m P T G O 0 0) (ho : kM M o = (110, 1)) (hE : ∀ M' c z, c ≤ 600002 → z ≤ 7302232 → K (A 0) m o (0 + 5) M' c z) (hc : cc ≤ 2000) (hz : zz ≤ 100000) : A_L_law_1950 K 600002 7302232 5 xs M (A 0) m o 0 cc zz := by
  unfold A_L_law_1950
  exact ⟨w1, w2, 300, 1000, ⟨by omega, by omega⟩, w_volumeWith hF (by omega) (by omega) ⟨w1, w2, ⟨by omega, by omega⟩, hR.1, r_volumeWith hR (fun M2 k1 k2 => ⟨⟨by omega, by omega⟩, k1, t9_thrown k1 k2 ⟨fun _ => ⟨fun _ => hE _ _ _ (by omega) (by omega), fun z => absurd z (by decide)⟩, fun z => absurd rfl z⟩⟩)⟩⟩
set_option maxRecDepth 100000 in
theorem v_2017 (hF : FRSH A M) (hR : RF M m P T G O 0 0) (ho : kM M o = (110, 1)) (hE : ∀ M' c z, c ≤ 600002 → z ≤ 7302232 → K (A 0) m o (0 + 5) M' c z) (hc : cc ≤ 2000) (hz : zz ≤ 100000) : A_L_law_2017 K 600002 7302232 5 xs M (A 0) m o 0 cc zz := by
  unfold A_L_law_2017
  exact ⟨w1, 300, 1000, ⟨by omega, by omega⟩, w_holesWithout hF (by omega) (by omega) ⟨w1, 300, 1000, ⟨by omega, by omega⟩, hR.1, r_holesWithout hR (fun M2 k1 k2 _ _ => ⟨⟨by omega, by omega⟩, k1, t9_thrown k1 k2 ⟨fun _ => ⟨fun _ => hE _ _ _ (by omega) (by omega), fun z => absurd z (by decide)⟩, fun z => absurd rfl z⟩⟩)⟩⟩
set_option maxRecDepth 100000 in
theorem v_2073 (hF : FRSH A M) (hR : RF M m P T G O 0 0) (ho : kM M o = (110, 1)) (hE : ∀ M' c z, c ≤ 600002 → z ≤ 7302232 → K (A 0) m o (0 + 5) M' c z) (hc : cc ≤ 2000) (hz : zz ≤ 100000) : A_L_law_2073 K 600002 7302232 5 xs M (A 0) m o 0 cc zz := by
  unfold A_L_law_2073
  exact ⟨⟨by omega, by omega⟩, hF.1.1.k 0, f_digest hF (fun M2 co => ⟨300, 1000, ⟨by omega, by omega⟩, (hR.co hF.1.1 co).1, r_digest (hR.co hF.1.1 co) (by omega) (fun M3 => ⟨fun _ => hE _ _ _ (by omega) (by omega), fun z => absurd (lgz rfl) z⟩)⟩)⟩
end
