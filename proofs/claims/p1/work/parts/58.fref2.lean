section
variable {M M' : Mm} {m P T G O np nf : Nat}
theorem put1 {q k : Nat} {v : Int32} {M : Mm} : Ch (fun b => b = q) M (wI M q k v) := Ch.put (S := fun b => b = q) rfl
theorem v_in {i : Int32} {k n : Nat} (e : i = nI k) (h : k < n) (hn : n < 2 ^ 31) : vp_in i n := by subst e; exact vp_in_nI h hn
theorem RF.pts (h : RF M m P T G O np nf) (hn : np + 1 ≤ 100) : RF (wI M m 3 (nI (np + 1))) m P T G O (np + 1) nf := by
  obtain ⟨a1, a2, a3, a4, a5, a6, a7, a8, a9, a10, a11, a12, a13, a14, a15⟩ := h
  refine ⟨a1, by rw [iM_wI, if_pos ⟨rfl, rfl⟩], by rw [iM_wI, if_neg (by omega)]; exact a3, a4, a5, a6, a7, a8, a9, a10, a11, a12, a13, ⟨hn, a14.2⟩, fun f hf => ?_⟩
  obtain ⟨r, b1, b2, b3⟩ := a15 f hf
  refine ⟨r, b1, b2, fun k hk => ?_⟩
  have hne : r ≠ m := fun z => by rw [z, a1] at b2; cases b2
  rw [iM_wI, if_neg (fun z => hne z.1)]
  exact b3 k hk
theorem t9_newPoint {Cc Zz : Nat} {x y z : Int32} {Q : Int32 → Mm → Prop} (h : RF M m P T G O np nf) (hnp : np < 100) (hc : 1 ≤ Cc) (hz : 3 ≤ Zz) (q : ∀ M', RF M' m P T G O (np + 1) nf → iM M' m 0 = iM M m 0 → (∀ o, Kp o M M') → Q (nI np) M') : T_X9_newPoint Cc Zz M m x y z Q := by
  unfold T_X9_newPoint
  refine ⟨by omega, by omega, fun q1 hq => ?_⟩
  have hm : m ≠ q1 := Nat.ne_of_lt (frs_ne hq (by rw [h.1]; decide))
  have k1 : kM (wN M q1 100 3) q1 = (100, 3) := by rw [kM_wN, if_pos rfl]
  refine ⟨3, k1, v_in nI_0.symm (by omega) (by omega), 3, k1, v_in (k := 1) rfl (by omega) (by omega), 3, k1, v_in (k := 2) rfl (by omega) (by omega), ?_⟩
  have c4 : Ch (fun b => b = q1) (wN M q1 100 3) (wI (wI (wI (wN M q1 100 3) q1 (0 : Int32).toNatClampNeg x) q1 (1 : Int32).toNatClampNeg y) q1 (2 : Int32).toNatClampNeg z) := (put1.t put1).t put1
  have h4 : RF (wI (wI (wI (wN M q1 100 3) q1 (0 : Int32).toNatClampNeg x) q1 (1 : Int32).toNatClampNeg y) q1 (2 : Int32).toNatClampNeg z) m P T G O np nf := (h.old (old_N hq)).ch c4 (fun b hb => by subst hb; rw [k1]; exact ⟨by decide, by decide⟩)
  have k4 : kM (wI (wI (wI (wN M q1 100 3) q1 (0 : Int32).toNatClampNeg x) q1 (1 : Int32).toNatClampNeg y) q1 (2 : Int32).toNatClampNeg z) q1 = (100, 3) := k1
  have e4 : iM (wI (wI (wI (wN M q1 100 3) q1 (0 : Int32).toNatClampNeg x) q1 (1 : Int32).toNatClampNeg y) q1 (2 : Int32).toNatClampNeg z) m 0 = iM M m 0 := by rw [c4.i hm, iM_wN, if_neg hm]
  have p4 : ∀ o, Kp o M (wI (wI (wI (wN M q1 100 3) q1 (0 : Int32).toNatClampNeg x) q1 (1 : Int32).toNatClampNeg y) q1 (2 : Int32).toNatClampNeg z) := fun o => (Kp.n hq).tr (Kp.ch c4)
  generalize (wI (wI (wI (wN M q1 100 3) q1 (0 : Int32).toNatClampNeg x) q1 (1 : Int32).toNatClampNeg y) q1 (2 : Int32).toNatClampNeg z) = M4 at h4 k4 e4 p4 ⊢
  have hpl := h4.pl hnp
  have hnm : m ≠ P + 1 + np := fun z => by
    have := h4.1
    rw [z, hpl.2] at this
    cases this
  refine ⟨h4.1, P, h4.rP.1, h4.1, 100, h4.kP.1, v_in h4.2.1 hnp (by omega), P + 1 + np, by rw [h4.2.1, nI_clamp (by omega)]; exact hpl.1, 3, 3, k4, hpl.2, by decide, by decide, by decide, by decide, by decide, ?_⟩
  have h5 : RF (wC M4 q1 (P + 1 + np) (0 : Int32).toNatClampNeg (0 : Int32).toNatClampNeg (3 : Int32).toNatClampNeg) m P T G O np nf := h4.go (fun _ _ => rfl) (fun _ _ _ => rfl) (by rw [iM_wC, if_neg hnm]) (by rw [iM_wC, if_neg hnm]) (fun b hb j => by rw [iM_wC, if_neg (fun z => by rw [z, hpl.2] at hb; cases hb)])
  have e5 : iM (wC M4 q1 (P + 1 + np) (0 : Int32).toNatClampNeg (0 : Int32).toNatClampNeg (3 : Int32).toNatClampNeg) m 0 = iM M m 0 := by rw [iM_wC, if_neg hnm]; exact e4
  have p5 : ∀ o, Kp o M (wC M4 q1 (P + 1 + np) (0 : Int32).toNatClampNeg (0 : Int32).toNatClampNeg (3 : Int32).toNatClampNeg) := fun o => (p4 o).tr Kp.c
  generalize (wC M4 q1 (P + 1 + np) (0 : Int32).toNatClampNeg (0 : Int32).toNatClampNeg (3 : Int32).toNatClampNeg) = M5 at h5 e5 p5 ⊢
  refine ⟨h5.1, T, h5.rP.2.1, h5.1, 100, h5.kP.2.1, v_in h5.2.1 hnp (by omega), ?_⟩
  rw [h5.2.1, nI_clamp (show np < 2 ^ 31 by omega)]
  have hTm : m ≠ T := fun z => by
    have := h5.1
    rw [z, h5.kP.2.1] at this
    cases this
  have h6 : RF (wI M5 T np (vp_nar .boolean 1)) m P T G O np nf := h5.ch (Ch.put (S := fun b => b = T) rfl) (fun b hb => by subst hb; rw [h5.kP.2.1]; exact ⟨by decide, by decide⟩)
  have e6 : iM (wI M5 T np (vp_nar .boolean 1)) m 0 = iM M m 0 := by rw [iM_wI, if_neg (fun z => hTm z.1)]; exact e5
  have p6 : ∀ o, Kp o M (wI M5 T np (vp_nar .boolean 1)) := fun o => (p5 o).tr Kp.i
  generalize (wI M5 T np (vp_nar .boolean 1)) = M6 at h6 e6 p6 ⊢
  rw [h6.2.1, nI_1, iM_wI, if_pos ⟨rfl, rfl⟩, nI_pred]
  exact ⟨h6.1, h6.1, h6.1, by omega, by omega, q _ (h6.pts (by omega)) (by rw [iM_wI, if_neg (by omega)]; exact e6) (fun o => (p6 o).tr Kp.i)⟩
theorem t9_newFace {a : Nat} {Q : Int32 → Mm → Prop} (h : RF M m P T G O np nf) (hnf : nf < 160) (ka : kM M a = (100, 4)) (ia : ∀ k, k < 4 → ∃ p, p < 100 ∧ iM M a k = nI p) (q : ∀ M', RF M' m P T G O np (nf + 1) → iM M' m 0 = iM M m 0 → (∀ o, Kp o M M') → Q (nI nf) M') : T_X9_newFace M m a Q := by
  unfold T_X9_newFace
  refine ⟨h.1, G, h.rP.2.2.1, h.1, 160, 4, h.kP.2.2.1, v_in h.2.2.1 hnf (by omega), ka, h.1, h.1, h.1, ?_⟩
  rw [h.2.2.1, nI_clamp (show nf < 2 ^ 31 by omega)]
  have e5 : iM (wR M G nf (some a)) m 5 = nI nf := h.2.2.1
  rw [e5, nI_1, iM_wI, if_pos ⟨rfl, rfl⟩, nI_pred]
  obtain ⟨a1, a2, a3, a4, a5, a6, a7, a8, a9, a10, a11, a12, a13, a14, a15⟩ := h
  have gm : m ≠ G := fun z => by rw [z, a10] at a1; cases a1
  have gP : P ≠ G := fun z => by rw [z, a10] at a8; cases a8
  have gO : O ≠ G := fun z => by rw [z, a10] at a11; cases a11
  have am : a ≠ m := fun z => by rw [z, a1] at ka; cases ka
  have rr : ∀ b, b ≠ G → ∀ j, rM (wI (wR M G nf (some a)) m 5 (nI (nf + 1))) b j = rM M b j := fun b hb j => by rw [rM_wI, rM_wR, if_neg (fun z => hb z.1)]
  refine q _ ⟨a1, by rw [iM_wI, if_neg (by omega)]; exact a2, by rw [iM_wI, if_pos ⟨rfl, rfl⟩], (rr m gm 1).trans a4, (rr m gm 2).trans a5, (rr m gm 4).trans a6, (rr m gm 6).trans a7, a8, a9, a10, a11, fun j hj => ⟨(rr P gP j).trans (a12 j hj).1, (a12 j hj).2⟩, fun j hj => ⟨(rr O gO j).trans (a13 j hj).1, (a13 j hj).2⟩, ⟨a14.1, by omega⟩, fun f hf => ?_⟩ (by rw [iM_wI, if_neg (by omega)]; rfl) (fun o => Kp.r.tr Kp.i)
  by_cases e : f = nf
  · subst e
    refine ⟨a, by rw [rM_wI, rM_wR, if_pos ⟨rfl, rfl⟩], ka, fun k hk => ?_⟩
    rw [iM_wI, if_neg (fun z => am z.1)]
    exact ia k hk
  · obtain ⟨r, b1, b2, b3⟩ := a15 f (by omega)
    refine ⟨r, by rw [rM_wI, rM_wR, if_neg (fun z => e z.2)]; exact b1, b2, fun k hk => ?_⟩
    have hne : r ≠ m := fun z => by rw [z, a1] at b2; cases b2
    rw [iM_wI, if_neg (fun z => hne z.1)]
    exact b3 k hk
/-- a new row of four points -/
def st4 (M : Mm) (q : Nat) (v0 v1 v2 v3 : Int32) : Mm := wI (wI (wI (wI (wN M q 100 4) q (0 : Int32).toNatClampNeg v0) q (1 : Int32).toNatClampNeg v1) q (2 : Int32).toNatClampNeg v2) q (3 : Int32).toNatClampNeg v3
def pt (v : Int32) : Prop := ∃ p, p < 100 ∧ v = nI p
theorem face4 {q1 : Nat} {v0 v1 v2 v3 : Int32} (h : RF M m P T G O np nf) (hq : frs M q1) (p0 : pt v0) (p1 : pt v1) (p2 : pt v2) (p3 : pt v3) : RF (st4 M q1 v0 v1 v2 v3) m P T G O np nf ∧ kM (st4 M q1 v0 v1 v2 v3) q1 = (100, 4) ∧ (∀ k, k < 4 → ∃ p, p < 100 ∧ iM (st4 M q1 v0 v1 v2 v3) q1 k = nI p) ∧ iM (st4 M q1 v0 v1 v2 v3) m 0 = iM M m 0 ∧ ∀ o, Kp o M (st4 M q1 v0 v1 v2 v3) := by
  have hm : m ≠ q1 := Nat.ne_of_lt (frs_ne hq (by rw [h.1]; decide))
  have k1 : kM (wN M q1 100 4) q1 = (100, 4) := by rw [kM_wN, if_pos rfl]
  have c4 : Ch (fun b => b = q1) (wN M q1 100 4) (st4 M q1 v0 v1 v2 v3) := ((put1.t put1).t put1).t put1
  refine ⟨?_, k1, fun k hk => ?_, by rw [c4.i hm, iM_wN, if_neg hm], fun o => (Kp.n hq).tr (Kp.ch c4)⟩
  · exact h.old (fun b hb => by
      obtain ⟨k, i, r⟩ := old_N (kd := 100) (n := 4) hq b hb
      have hne : b ≠ q1 := Nat.ne_of_lt (frs_ne hq hb)
      exact ⟨(c4.k b).trans k, fun j => (c4.i hne j).trans (i j), fun j => (c4.r b j).trans (r j)⟩)
  · have e0 : (0 : Int32).toNatClampNeg = 0 := rfl
    have e1 : (1 : Int32).toNatClampNeg = 1 := rfl
    have e2 : (2 : Int32).toNatClampNeg = 2 := rfl
    have e3 : (3 : Int32).toNatClampNeg = 3 := rfl
    unfold st4
    rw [iM_wI, iM_wI, iM_wI, iM_wI, e0, e1, e2, e3]
    rcases (show k = 0 ∨ k = 1 ∨ k = 2 ∨ k = 3 by omega) with e | e | e | e <;> subst e
    · simpa [pt] using p0
    · simpa [pt] using p1
    · simpa [pt] using p2
    · simpa [pt] using p3
theorem thr0 {v : Int32} : iM (wI M m 0 v) m 0 = v := by rw [iM_wI, if_pos ⟨rfl, rfl⟩]
theorem r_volumeWith (h : RF M m P T G O 0 0) {x0 x1 : Int32} {Q : Int64 → Mm → Prop} (hq : ∀ M', kM M' m = (9, 13) → iM M' m 0 = 1 → Q 0 M') : T_X9_volumeWith M m x0 x1 Q := by
  have h1 : RF (wI M m 0 1) m P T G O 0 0 := h.thr (by decide) (by decide)
  unfold T_X9_volumeWith
  intro K hK
  refine ⟨h.1, t9_isPoint h ⟨fun _ => hK _ _ _ _ _ _ (And.intro h.1 (And.intro h1.1 (And.intro (fun z => ?_) (fun _ => hq _ h1.1 thr0)))), fun z => absurd rfl z⟩⟩
  rw [thr0] at z
  exact absurd z (by decide)
theorem r_points (h : RF M m P T G O 0 0) {Q : Int32 → Mm → Prop} (q : ∀ M', Q 0 M') : T_X9_points M m Q := by
  have h1 : RF (wI M m 0 0) m P T G O 0 0 := h.thr (by decide) (by decide)
  unfold T_X9_points
  exact ⟨h.1, h1.1, c9_points h1 (q _)⟩
theorem r_edges (h : RF M m P T G O 0 0) {Q : Int32 → Mm → Prop} (q : ∀ M', Q 0 M') : T_X9_edges M m Q := by
  have h1 : RF (wI M m 0 0) m P T G O 0 0 := h.thr (by decide) (by decide)
  unfold T_X9_edges
  exact ⟨h.1, h1.1, c9_edges h1 (q _)⟩
theorem r_faces (h : RF M m P T G O 0 0) {Q : Int32 → Mm → Prop} (q : ∀ M', Q 0 M') : T_X9_faces M m Q := by
  have h1 : RF (wI M m 0 0) m P T G O 0 0 := h.thr (by decide) (by decide)
  unfold T_X9_faces
  exact ⟨h.1, h1.1, c9_faces h1 (q _)⟩
theorem r_volume (h : RF M m P T G O 0 0) {Q : Int64 → Mm → Prop} (q : ∀ M', Q 0 M') : T_X9_volume M m Q := by
  have h1 : RF (wI M m 0 0) m P T G O 0 0 := h.thr (by decide) (by decide)
  unfold T_X9_volume
  exact ⟨h.1, h1.1, c9_volume h1 (q _)⟩
theorem r_holes (h : RF M m P T G O 0 0) {Cc Zz : Nat} (hc : 10 ≤ Cc) {Q : Int32 → Mm → Prop} (q : ∀ M', Q 0 M') : T_X9_holes Cc Zz M m Q := by
  have h1 : RF (wI M m 0 0) m P T G O 0 0 := h.thr (by decide) (by decide)
  unfold T_X9_holes
  exact ⟨h.1, 1, 0, ⟨by omega, by omega⟩, h1.1, c9_holes h1 (by omega) (fun M' _ _ _ _ => ⟨by omega, by omega, q M'⟩)⟩
theorem r_shells (h : RF M m P T G O 0 0) {Cc Zz : Nat} (hc : 10 ≤ Cc) {Q : Int32 → Mm → Prop} (q : ∀ M', Q 0 M') : T_X9_shells Cc Zz M m Q := by
  have h1 : RF (wI M m 0 0) m P T G O 0 0 := h.thr (by decide) (by decide)
  unfold T_X9_shells
  exact ⟨h.1, 1, 0, ⟨by omega, by omega⟩, h1.1, c9_groups h1 (by omega) (fun M' _ _ _ _ => ⟨by omega, by omega, q M'⟩)⟩
theorem r_turn (h : RF M m P T G O 0 0) {Q : Int32 → Mm → Prop} (q : ∀ M', Q 0 M') : T_X9_turn M m Q := by
  have h1 : RF (wI M m 0 0) m P T G O 0 0 := h.thr (by decide) (by decide)
  unfold T_X9_turn
  intro K hK
  refine ⟨h.1, hK _ _ _ ?_⟩
  unfold S_X9_turn_7
  rw [h1.f0]
  exact ⟨h1.1, fun _ => ⟨h1.1, t9_table h1 (fun M' h' => ⟨h'.1.1, c9_faces h'.1 (q M')⟩)⟩, nle00⟩
theorem r_smooth (h : RF M m P T G O 0 0) {Cc Zz : Nat} (hc : 10 ≤ Cc) {Q : Int32 → Mm → Prop} (q : ∀ M', Q 0 M') : T_X9_smooth Cc Zz M m Q := by
  have h1 : RF (wI M m 0 0) m P T G O 0 0 := h.thr (by decide) (by decide)
  unfold T_X9_smooth
  intro K15 K48 K70 K177 h15 h48 h70 h177
  rw [h1.p0]
  refine ⟨h.1, h1.1, by decide, by decide, by omega, by show 0 + 0 ≤ Zz; omega, fun q1 hq => ?_⟩
  have h2 : RF (wN (wI M m 0 0) q1 121 (0 : Int32).toNatClampNeg) m P T G O 0 0 := h1.old (old_N hq)
  refine h15 _ _ _ _ _ _ ?_
  unfold S_X9_smooth_15
  rw [h2.p0]
  refine ⟨h2.1, fun _ => h48 _ _ _ _ _ _ _ ?_, nle00⟩
  unfold S_X9_smooth_48
  rw [h2.p0]
  exact ⟨h2.1, fun _ => ⟨by omega, by show 0 + 0 ≤ Zz; omega, q _⟩, nle00⟩
theorem r_meanEdge (h : RF M m P T G O 0 0) {Q : UInt64 → Mm → Prop} (q : ∀ M', Q FP.dconst0 M') : T_X9_meanEdge M m Q := by
  have h1 : RF (wI M m 0 0) m P T G O 0 0 := h.thr (by decide) (by decide)
  unfold T_X9_meanEdge
  intro K12 K24 h12 h24
  refine ⟨h.1, h12 _ _ _ _ _ ?_⟩
  unfold S_X9_meanEdge_12
  rw [h1.p0]
  exact ⟨h1.1, fun _ => ⟨fun z => absurd rfl z, fun _ => q _⟩, nle00⟩
/-- what a call of the reference leaves, for the law -/
def Ok9 (m o : Nat) (v : Int32) (M M' : Mm) : Prop := kM M' m = (9, 13) ∧ iM M' m 0 = v ∧ Kp o M M'
theorem r_may (h : RF M m P T G O 0 0) {o : Nat} {w : Int32} {Q : Int32 → Mm → Prop} (q1 : ¬ (¬ w < 0 ∧ ¬ 2 < w) → ∀ M', Ok9 m o 1 M M' → Q 0 M') (q0 : (¬ w < 0 ∧ ¬ 2 < w) → ∀ M', Ok9 m o 0 M M' → Q 0 M') : T_X9_may M m w Q := by
  have h1 : RF (wI M m 0 0) m P T G O 0 0 := h.thr (by decide) (by decide)
  have h2 : RF (wI (wI M m 0 0) m 0 1) m P T G O 0 0 := h1.thr (by decide) (by decide)
  have bad : ¬ (¬ w < 0 ∧ ¬ 2 < w) → T_X9_refuse (wI M m 0 0) m 1 (fun r_2 M_3 => Q r_2 M_3) := fun n => And.intro h1.1 (q1 n _ ⟨h2.1, thr0, Kp.i.tr Kp.i⟩)
  unfold T_X9_may T_X9_is
  exact ⟨h.1, fun z => ⟨fun _ => ⟨h1.1, bad (fun n => n.1 z)⟩, fun y => absurd rfl y⟩, fun z => ⟨fun y => ⟨fun _ => ⟨h1.1, bad (fun n => n.2 y)⟩, fun y => absurd rfl y⟩, fun y => ⟨fun x => absurd x (by decide), fun _ => ⟨h1.1, c9_may h1 (q0 ⟨z, y⟩ _ ⟨h1.1, thr0, Kp.i⟩)⟩⟩⟩⟩
theorem r_quarters (h : RF M m P T G O 0 0) {o Cc Zz : Nat} (hc : 200 ≤ Cc) (hz : 400 ≤ Zz) {Q : Int32 → Mm → Prop} (q : ∀ M', Ok9 m o 0 M M' → Q 0 M') : T_X9_quarters Cc Zz M m Q := by
  have h1 : RF (wI M m 0 0) m P T G O 0 0 := h.thr (by decide) (by decide)
  unfold T_X9_quarters
  intro K14 K79 K107 K193 K119 K264 K387 K301 h14 h79 h107 h193 h119 h264 h387 h301
  refine ⟨h.1, ⟨by omega, by omega⟩, h1.1, c9_edges h1 (h14 _ _ _ _ _ _ _ ?_)⟩
  unfold S_X9_quarters_14
  rw [h1.f0, h1.p0]
  refine ⟨h1.1, fun _ => ⟨h1.1, ⟨by omega, by omega⟩, h1.1, c9_faces h1 ⟨fun z => absurd z (by decide), fun _ => ⟨h1.1, fun _ => ⟨h1.1, h1.1, by decide, by decide, by decide, by decide, by show 0 + (1 + 0) ≤ Cc; omega, by show 0 + (0 + 0 * 0) ≤ Zz; omega, fun q1 hq => ?_⟩, fun z => absurd (by decide) z⟩⟩⟩, nle00⟩
  have h2 : RF (wG (wI M m 0 0) q1 121 100 (0 : Int32).toNatClampNeg (0 : Int32).toNatClampNeg) m P T G O 0 0 := h1.old (old_G hq)
  have m1 : m < q1 := frs_ne hq (by rw [h1.1]; decide)
  refine h107 _ _ _ _ _ _ _ _ ⟨fun _ => ⟨by show 0 + 1 + 0 + 1 ≤ Cc; omega, by show 0 + 0 + 0 * 0 + 160 ≤ Zz; omega, fun q2 hq2 => ?_⟩, nle00⟩
  have h3 : RF (wN (wG (wI M m 0 0) q1 121 100 (0 : Int32).toNatClampNeg (0 : Int32).toNatClampNeg) q2 100 160) m P T G O 0 0 := h2.old (old_N hq2)
  have m2 : m < q2 := frs_ne hq2 (by rw [h2.1]; decide)
  refine h193 _ _ _ _ _ _ _ _ ⟨fun _ => h264 _ _ _ _ _ _ _ _ ⟨fun _ => h387 _ _ _ _ _ _ ⟨fun _ => ⟨⟨by show 0 + 1 + 0 + 1 ≤ Cc; omega, by show 0 + 0 + 0 * 0 + 160 ≤ Zz; omega⟩, h3.1, t9_table h3 (fun M' h' => ⟨⟨by show 0 + 1 + 0 + 1 ≤ Cc; omega, by show 0 + 0 + 0 * 0 + 160 ≤ Zz; omega⟩, h'.1.1, c9_faces h'.1 ⟨by show 0 + 1 + 0 + 1 ≤ Cc; omega, by show 0 + 0 + 0 * 0 + 160 ≤ Zz; omega, q M' ⟨h'.1.1, ?_, ((Kp.i.tr (Kp.g hq)).tr (Kp.n hq2)).tr h'.2.2.2.kp⟩⟩⟩)⟩, nle00⟩, nle00⟩, nle00⟩
  rw [h'.2.2.1, iM_wN, if_neg (Nat.ne_of_lt m2), iM_wG, if_neg (by omega)]
  exact thr0
theorem r_point (h : RF M m P T G O 0 0) {o Cc Zz : Nat} (hc : 10 ≤ Cc) (hz : 60 ≤ Zz) {x y z : Int32} {Q : Int32 → Mm → Prop} (q1 : ¬ (nr x ∧ nr y ∧ nr z) → ∀ M', Ok9 m o 1 M M' → Q 0 M') (q0 : nr x ∧ nr y ∧ nr z → ∀ M', Ok9 m o 0 M M' → Q 0 M') : T_X9_point Cc Zz M m x y z Q := by
  have h1 : RF (wI M m 0 0) m P T G O 0 0 := h.thr (by decide) (by decide)
  have h2 : RF (wI (wI M m 0 0) m 0 1) m P T G O 0 0 := h1.thr (by decide) (by decide)
  unfold T_X9_point
  intro K hK
  have bad : ¬ (nr x ∧ nr y ∧ nr z) → K m (wI M m 0 0) 0 0 := fun n => hK _ _ _ _ (And.intro ⟨by omega, by omega⟩ (And.intro h1.1 (And.intro h1.1 ⟨by omega, by omega, q1 n _ ⟨h2.1, thr0, Kp.i.tr Kp.i⟩⟩)))
  refine ⟨h.1, ⟨by omega, by omega⟩, t9_near (fun a => ⟨fun z => absurd z (by decide), fun _ => ⟨⟨by omega, by omega⟩, t9_near (fun b => ⟨fun z => absurd z (by decide), fun _ => ⟨⟨by omega, by omega⟩, t9_near (fun c => ⟨fun _ => ⟨h1.1, fun _ => ?_, fun z => ?_⟩, fun z => absurd z (by decide)⟩) (fun c => ⟨fun z => absurd rfl z, fun _ => bad (fun n => c n.2.2)⟩)⟩⟩) (fun b => ⟨fun _ => bad (fun n => b n.2.1), fun z => absurd rfl z⟩)⟩⟩) (fun a => ⟨fun _ => bad (fun n => a n.1), fun z => absurd rfl z⟩)⟩
  · refine ⟨1, 3, ⟨by omega, by omega⟩, h1.1, t9_newPoint h1 (by omega) (by omega) (by omega) (fun M' h' e' kp => ⟨by omega, by omega, ?_⟩)⟩
    rw [nI_0]
    exact q0 ⟨a, b, c⟩ M' ⟨h'.1, e'.trans thr0, Kp.i.tr (kp o)⟩
  · rw [h1.p0] at z
    exact absurd z (by decide)
theorem add9 {v : Int64} {Q : Mm → Prop} (hk : kM M m = (9, 13)) (q : Q (wL M m 12 (lM M m 12 * 31 + v))) : T_X9_add M m v Q := And.intro hk (And.intro hk q)
theorem RF.l {v : Int64} (h : RF M m P T G O np nf) : RF (wL M m 12 v) m P T G O np nf := h.go (fun _ _ => rfl) (fun _ _ _ => rfl) rfl rfl (fun _ _ _ => rfl)
theorem lat {v : Int64} : lM (wL M m 12 v) m 12 = v := by rw [lM_wL, if_pos ⟨rfl, rfl⟩]
theorem r_digest (h : RF M m P T G O 0 0) {Cc Zz : Nat} (hc : 10 ≤ Cc) {Q : Int64 → Mm → Prop} (q : ∀ M', Q dgC M') : T_X9_digest Cc Zz M m Q := by
  have h1 : RF (wI M m 0 0) m P T G O 0 0 := h.thr (by decide) (by decide)
  unfold T_X9_digest
  intro K68 K152 K96 K203 K122 K230 h68 h152 h96 h203 h122 h230
  have g1 : RF (wL (wI M m 0 0) m 12 58071) m P T G O 0 0 := h1.l
  refine ⟨h.1, h1.1, ⟨by omega, by omega⟩, g1.1, c9_points g1 ⟨⟨by omega, by omega⟩, g1.1, add9 g1.1 ?_⟩⟩
  rw [lat]
  have g2 : RF (wL (wL (wI M m 0 0) m 12 58071) m 12 (58071 * 31 + (0 : Int32).toInt64)) m P T G O 0 0 := g1.l
  have l2 : lM (wL (wL (wI M m 0 0) m 12 58071) m 12 (58071 * 31 + (0 : Int32).toInt64)) m 12 = 58071 * 31 + (0 : Int32).toInt64 := lat
  generalize (wL (wL (wI M m 0 0) m 12 58071) m 12 (58071 * 31 + (0 : Int32).toInt64)) = M2 at g2 l2 ⊢
  refine ⟨⟨by omega, by omega⟩, g2.1, c9_edges g2 ⟨⟨by omega, by omega⟩, g2.1, add9 g2.1 ?_⟩⟩
  rw [l2]
  have g3 : RF (wL M2 m 12 ((58071 * 31 + (0 : Int32).toInt64) * 31 + (0 : Int32).toInt64)) m P T G O 0 0 := g2.l
  have l3 : lM (wL M2 m 12 ((58071 * 31 + (0 : Int32).toInt64) * 31 + (0 : Int32).toInt64)) m 12 = (58071 * 31 + (0 : Int32).toInt64) * 31 + (0 : Int32).toInt64 := lat
  generalize (wL M2 m 12 ((58071 * 31 + (0 : Int32).toInt64) * 31 + (0 : Int32).toInt64)) = M3 at g3 l3 ⊢
  refine ⟨⟨by omega, by omega⟩, g3.1, c9_faces g3 ⟨⟨by omega, by omega⟩, g3.1, add9 g3.1 ?_⟩⟩
  rw [l3]
  generalize hv : ((58071 * 31 + (0 : Int32).toInt64) * 31 + (0 : Int32).toInt64) * 31 + (0 : Int32).toInt64 = v4
  have g4 : RF (wL M3 m 12 v4) m P T G O 0 0 := g3.l
  have l4 : lM (wL M3 m 12 v4) m 12 = v4 := lat
  generalize (wL M3 m 12 v4) = M4 at g4 l4 ⊢
  refine ⟨1, 0, ⟨by omega, by omega⟩, g4.1, c9_holes g4 (by omega) (fun M5 g5 _ l5 _ => ⟨⟨by omega, by omega⟩, g5.1, add9 g5.1 ?_⟩)⟩
  rw [l5, l4]
  generalize hv5 : v4 * 31 + (0 : Int32).toInt64 = v5
  have g6 : RF (wL M5 m 12 v5) m P T G O 0 0 := g5.l
  have l6 : lM (wL M5 m 12 v5) m 12 = v5 := lat
  generalize (wL M5 m 12 v5) = M6 at g6 l6 ⊢
  refine ⟨1, 0, ⟨by omega, by omega⟩, g6.1, c9_groups g6 (by omega) (fun M7 g7 _ l7 _ => ⟨⟨by omega, by omega⟩, g7.1, add9 g7.1 ?_⟩)⟩
  rw [l7, l6]
  generalize hv6 : v5 * 31 + (0 : Int32).toInt64 = v6
  have g8 : RF (wL M7 m 12 v6) m P T G O 0 0 := g7.l
  have l8 : lM (wL M7 m 12 v6) m 12 = v6 := lat
  generalize (wL M7 m 12 v6) = M8 at g8 l8 ⊢
  refine ⟨⟨by omega, by omega⟩, g8.1, c9_volume g8 ⟨⟨by omega, by omega⟩, g8.1, add9 g8.1 ?_⟩⟩
  rw [l8]
  generalize hv7 : v6 * 31 + 0 = v7
  have g9 : RF (wL M8 m 12 v7) m P T G O 0 0 := g8.l
  have l9 : lM (wL M8 m 12 v7) m 12 = v7 := lat
  generalize (wL M8 m 12 v7) = M9 at g9 l9 ⊢
  refine h68 _ _ _ _ _ ?_
  unfold S_X9_digest_68
  rw [g9.p0]
  refine ⟨g9.1, fun _ => h152 _ _ _ _ _ ?_, nle00⟩
  unfold S_X9_digest_152
  rw [g9.f0]
  refine ⟨g9.1, fun _ => ⟨⟨by omega, by omega⟩, g9.1, c9_may g9 ⟨⟨by omega, by omega⟩, g9.1, add9 g9.1 ?_⟩⟩, nle00⟩
  rw [l9]
  generalize hv8 : v7 * 31 + (0 : Int32).toInt64 = v8
  have ga : RF (wL M9 m 12 v8) m P T G O 0 0 := g9.l
  have la : lM (wL M9 m 12 v8) m 12 = v8 := lat
  generalize (wL M9 m 12 v8) = Ma at ga la ⊢
  refine ⟨⟨by omega, by omega⟩, ga.1, c9_may ga ⟨⟨by omega, by omega⟩, ga.1, add9 ga.1 ⟨ga.1, by omega, by omega, ?_⟩⟩⟩
  rw [lat, la, ← hv8, ← hv7, ← hv6, ← hv5, ← hv]
  exact q _
end
