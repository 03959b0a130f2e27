/-- the reference with np points and nf faces -/
def RF (M : Mm) (m P T G O np nf : Nat) : Prop := kM M m = (9, 13) ∧ iM M m 3 = nI np ∧ iM M m 5 = nI nf ∧ rM M m 1 = some P ∧ rM M m 2 = some T ∧ rM M m 4 = some G ∧ rM M m 6 = some O ∧ kM M P = (121, 100) ∧ kM M T = (101, 100) ∧ kM M G = (121, 160) ∧ kM M O = (121, 100) ∧
  (∀ j, j < 100 → rM M P j = some (P + 1 + j) ∧ kM M (P + 1 + j) = (100, 3)) ∧ (∀ j, j < 100 → rM M O j = some (O + 1 + j) ∧ kM M (O + 1 + j) = (100, 100)) ∧ (np ≤ 100 ∧ nf ≤ 160) ∧
  ∀ f, f < nf → ∃ r, rM M G f = some r ∧ kM M r = (100, 4) ∧ ∀ k, k < 4 → ∃ p, p < 100 ∧ iM M r k = nI p
theorem neg1_lt {x : Int32} (h : ¬ x < 0) : (0 : Int32) - 1 < x := by
  obtain ⟨j, hj, e⟩ := nI_of h
  subst e
  rw [Int32.lt_iff_toInt_lt, nI_toInt hj]
  have : ((0 : Int32) - 1).toInt = -1 := by decide
  omega
section
variable {M : Mm} {m P T G O np nf : Nat}
theorem RF.go {M' : Mm} (h : RF M m P T G O np nf) (hk : ∀ b, (kM M b).1 ≠ 255 → kM M' b = kM M b) (hr : ∀ b, (kM M b).1 ≠ 255 → ∀ j, rM M' b j = rM M b j) (h3 : iM M' m 3 = iM M m 3) (h5 : iM M' m 5 = iM M m 5) (h4 : ∀ b, kM M b = (100, 4) → ∀ j, iM M' b j = iM M b j) : RF M' m P T G O np nf := by
  obtain ⟨a1, a2, a3, a4, a5, a6, a7, a8, a9, a10, a11, a12, a13, a14, a15⟩ := h
  have km := hr m (by rw [a1]; decide)
  refine ⟨(hk m (by rw [a1]; decide)).trans a1, h3.trans a2, h5.trans a3, (km 1).trans a4, (km 2).trans a5, (km 4).trans a6, (km 6).trans a7, (hk P (by rw [a8]; decide)).trans a8, (hk T (by rw [a9]; decide)).trans a9, (hk G (by rw [a10]; decide)).trans a10, (hk O (by rw [a11]; decide)).trans a11, fun j hj => ?_, fun j hj => ?_, a14, fun f hf => ?_⟩
  · exact ⟨(hr P (by rw [a8]; decide) j).trans (a12 j hj).1, (hk _ (by rw [(a12 j hj).2]; decide)).trans (a12 j hj).2⟩
  · exact ⟨(hr O (by rw [a11]; decide) j).trans (a13 j hj).1, (hk _ (by rw [(a13 j hj).2]; decide)).trans (a13 j hj).2⟩
  · obtain ⟨r, b1, b2, b3⟩ := a15 f hf
    refine ⟨r, (hr G (by rw [a10]; decide) f).trans b1, (hk r (by rw [b2]; decide)).trans b2, fun k hk4 => ?_⟩
    obtain ⟨p, c1, c2⟩ := b3 k hk4
    exact ⟨p, c1, (h4 r b2 k).trans c2⟩
/-- an int of the model itself, neither its points nor its faces -/
theorem RF.thr {k : Nat} {v : Int32} (h : RF M m P T G O np nf) (h3 : k ≠ 3) (h5 : k ≠ 5) : RF (wI M m k v) m P T G O np nf :=
  h.go (fun _ _ => rfl) (fun _ _ _ => rfl) (by rw [iM_wI, if_neg (by omega)]) (by rw [iM_wI, if_neg (by omega)]) (fun b hb j => by
    rw [iM_wI, if_neg (fun z => ?_)]
    have h1 := h.1
    rw [z.1] at hb
    rw [hb] at h1
    cases h1)
theorem t9_is0 {x : Int32} {Q : Int32 → Prop} (q : Q 0) : T_X9_is M x 0 ((0 : Int32) - 1) Q := by
  unfold T_X9_is
  exact ⟨fun _ => q, fun z => ⟨fun _ => q, fun w => absurd (neg1_lt z) w⟩⟩
theorem t9_isPoint {x : Int32} {Q : Int32 → Prop} (h : RF M m P T G O 0 nf) (q : Q 0) : T_X9_isPoint M m x Q := by
  unfold T_X9_isPoint
  rw [h.2.1]
  exact ⟨h.1, t9_is0 ⟨fun _ => q, fun z => absurd rfl z⟩⟩
theorem t9_isFace {x : Int32} {Q : Int32 → Prop} (h : RF M m P T G O np 0) (q : Q 0) : T_X9_isFace M m x Q := by
  unfold T_X9_isFace
  rw [h.2.2.1]
  exact ⟨h.1, t9_is0 ⟨fun _ => q, fun z => absurd rfl z⟩⟩
theorem t9_thrown {v : Int32} {Q : Int32 → Prop} (hk : kM M m = (9, 13)) (e : iM M m 0 = v) (q : Q v) : T_X9_thrown M m Q := by
  unfold T_X9_thrown
  rw [e]
  exact ⟨hk, q⟩
theorem r_move (h : RF M m P T G O 0 0) {Cc Zz : Nat} {x0 x1 x2 x3 : Int32} {Q : Int32 → Mm → Prop} (hq : ∀ M', kM M' m = (9, 13) → iM M' m 0 = 1 → (∀ b, kM M' b = kM M b) → (∀ b j, lM M' b j = lM M b j) → Q 0 M') : T_X9_move Cc Zz M m x0 x1 x2 x3 Q := by
  have h1 : RF (wI M m 0 0) m P T G O 0 0 := h.thr (by decide) (by decide)
  unfold T_X9_move
  intro K41 K71 hK41 hK71
  refine ⟨h.1, ⟨by omega, by omega⟩, h1.1, t9_isPoint h1 ⟨fun z => absurd rfl z, fun _ => And.intro ⟨by omega, by omega⟩ (And.intro h1.1 (And.intro h1.1 ⟨by omega, by omega, (hq _ (h1.thr (by decide) (by decide)).1 (by rw [iM_wI, if_pos ⟨rfl, rfl⟩]) (fun _ => rfl) (fun _ _ => rfl))⟩))⟩⟩
theorem r_dropPoint (h : RF M m P T G O 0 0) {x0 : Int32} {Q : Int32 → Mm → Prop} (hq : ∀ M', kM M' m = (9, 13) → iM M' m 0 = 1 → (∀ b, kM M' b = kM M b) → (∀ b j, lM M' b j = lM M b j) → Q 0 M') : T_X9_dropPoint M m x0 Q := by
  have h1 : RF (wI M m 0 0) m P T G O 0 0 := h.thr (by decide) (by decide)
  unfold T_X9_dropPoint
  intro K21 hK21
  refine ⟨h.1, h1.1, t9_isPoint h1 ⟨fun z => absurd rfl z, fun _ => And.intro h1.1 (And.intro h1.1 (hq _ (h1.thr (by decide) (by decide)).1 (by rw [iM_wI, if_pos ⟨rfl, rfl⟩]) (fun _ => rfl) (fun _ _ => rfl)))⟩⟩
theorem r_at (h : RF M m P T G O 0 0) {x0 x1 : Int32} {Q : Int32 → Mm → Prop} (hq : ∀ M', kM M' m = (9, 13) → iM M' m 0 = 1 → (∀ b, kM M' b = kM M b) → (∀ b j, lM M' b j = lM M b j) → Q 0 M') : T_X9_at M m x0 x1 Q := by
  have h1 : RF (wI M m 0 0) m P T G O 0 0 := h.thr (by decide) (by decide)
  unfold T_X9_at
  refine ⟨h.1, h1.1, t9_isPoint h1 ⟨fun z => absurd rfl z, fun _ => And.intro h1.1 (And.intro h1.1 (hq _ (h1.thr (by decide) (by decide)).1 (by rw [iM_wI, if_pos ⟨rfl, rfl⟩]) (fun _ => rfl) (fun _ _ => rfl)))⟩⟩
theorem r_around (h : RF M m P T G O 0 0) {x0 x1 : Int32} {Q : Int32 → Mm → Prop} (hq : ∀ M', kM M' m = (9, 13) → iM M' m 0 = 1 → (∀ b, kM M' b = kM M b) → (∀ b j, lM M' b j = lM M b j) → Q 0 M') : T_X9_around M m x0 x1 Q := by
  have h1 : RF (wI M m 0 0) m P T G O 0 0 := h.thr (by decide) (by decide)
  unfold T_X9_around
  refine ⟨h.1, h1.1, t9_isPoint h1 ⟨fun z => absurd rfl z, fun _ => And.intro h1.1 (And.intro h1.1 (hq _ (h1.thr (by decide) (by decide)).1 (by rw [iM_wI, if_pos ⟨rfl, rfl⟩]) (fun _ => rfl) (fun _ _ => rfl)))⟩⟩
theorem r_face (h : RF M m P T G O 0 0) {Cc Zz : Nat} {x0 x1 x2 x3 : Int32} {Q : Int32 → Mm → Prop} (hq : ∀ M', kM M' m = (9, 13) → iM M' m 0 = 1 → (∀ b, kM M' b = kM M b) → (∀ b j, lM M' b j = lM M b j) → Q 0 M') : T_X9_face Cc Zz M m x0 x1 x2 x3 Q := by
  have h1 : RF (wI M m 0 0) m P T G O 0 0 := h.thr (by decide) (by decide)
  unfold T_X9_face
  intro K44 K50 hK44 hK50
  refine ⟨h.1, ⟨by omega, by omega⟩, h1.1, t9_isPoint h1 ⟨fun _ => hK44 _ _ _ _ (And.intro ⟨by omega, by omega⟩ (And.intro h1.1 (And.intro h1.1 ⟨by omega, by omega, (hq _ (h1.thr (by decide) (by decide)).1 (by rw [iM_wI, if_pos ⟨rfl, rfl⟩]) (fun _ => rfl) (fun _ _ => rfl))⟩))), fun z => absurd rfl z⟩⟩
theorem r_split (h : RF M m P T G O 0 0) {x0 x1 : Int32} {Q : Int32 → Mm → Prop} (hq : ∀ M', kM M' m = (9, 13) → iM M' m 0 = 1 → (∀ b, kM M' b = kM M b) → (∀ b j, lM M' b j = lM M b j) → Q 0 M') : T_X9_split M m x0 x1 Q := by
  have h1 : RF (wI M m 0 0) m P T G O 0 0 := h.thr (by decide) (by decide)
  unfold T_X9_split
  intro K21 hK21
  refine ⟨h.1, h1.1, t9_isPoint h1 ⟨fun _ => hK21 _ _ (And.intro h1.1 (And.intro h1.1 (hq _ (h1.thr (by decide) (by decide)).1 (by rw [iM_wI, if_pos ⟨rfl, rfl⟩]) (fun _ => rfl) (fun _ _ => rfl)))), fun z => absurd rfl z⟩⟩
theorem r_join (h : RF M m P T G O 0 0) {x0 x1 : Int32} {Q : Int32 → Mm → Prop} (hq : ∀ M', kM M' m = (9, 13) → iM M' m 0 = 1 → (∀ b, kM M' b = kM M b) → (∀ b j, lM M' b j = lM M b j) → Q 0 M') : T_X9_join_ M m x0 x1 Q := by
  have h1 : RF (wI M m 0 0) m P T G O 0 0 := h.thr (by decide) (by decide)
  unfold T_X9_join_
  intro K21 K53 hK21 hK53
  refine ⟨h.1, h1.1, t9_isPoint h1 ⟨fun _ => hK21 _ _ (And.intro h1.1 (And.intro h1.1 (hq _ (h1.thr (by decide) (by decide)).1 (by rw [iM_wI, if_pos ⟨rfl, rfl⟩]) (fun _ => rfl) (fun _ _ => rfl)))), fun z => absurd rfl z⟩⟩
theorem r_collapse (h : RF M m P T G O 0 0) {x0 x1 : Int32} {Q : Int32 → Mm → Prop} (hq : ∀ M', kM M' m = (9, 13) → iM M' m 0 = 1 → (∀ b, kM M' b = kM M b) → (∀ b j, lM M' b j = lM M b j) → Q 0 M') : T_X9_collapse M m x0 x1 Q := by
  have h1 : RF (wI M m 0 0) m P T G O 0 0 := h.thr (by decide) (by decide)
  unfold T_X9_collapse
  intro K21 hK21
  refine ⟨h.1, h1.1, t9_isPoint h1 ⟨fun _ => hK21 _ _ (And.intro h1.1 (And.intro h1.1 (hq _ (h1.thr (by decide) (by decide)).1 (by rw [iM_wI, if_pos ⟨rfl, rfl⟩]) (fun _ => rfl) (fun _ _ => rfl)))), fun z => absurd rfl z⟩⟩
theorem r_flip (h : RF M m P T G O 0 0) {x0 x1 : Int32} {Q : Int32 → Mm → Prop} (hq : ∀ M', kM M' m = (9, 13) → iM M' m 0 = 1 → (∀ b, kM M' b = kM M b) → (∀ b j, lM M' b j = lM M b j) → Q 0 M') : T_X9_flip M m x0 x1 Q := by
  have h1 : RF (wI M m 0 0) m P T G O 0 0 := h.thr (by decide) (by decide)
  unfold T_X9_flip
  intro K21 hK21
  refine ⟨h.1, h1.1, t9_isPoint h1 ⟨fun _ => hK21 _ _ (And.intro h1.1 (And.intro h1.1 (hq _ (h1.thr (by decide) (by decide)).1 (by rw [iM_wI, if_pos ⟨rfl, rfl⟩]) (fun _ => rfl) (fun _ _ => rfl)))), fun z => absurd rfl z⟩⟩
theorem r_fill (h : RF M m P T G O 0 0) {x0 x1 : Int32} {Q : Int32 → Mm → Prop} (hq : ∀ M', kM M' m = (9, 13) → iM M' m 0 = 1 → (∀ b, kM M' b = kM M b) → (∀ b j, lM M' b j = lM M b j) → Q 0 M') : T_X9_fill M m x0 x1 Q := by
  have h1 : RF (wI M m 0 0) m P T G O 0 0 := h.thr (by decide) (by decide)
  unfold T_X9_fill
  intro K21 hK21
  refine ⟨h.1, h1.1, t9_isPoint h1 ⟨fun _ => hK21 _ _ (And.intro h1.1 (And.intro h1.1 (hq _ (h1.thr (by decide) (by decide)).1 (by rw [iM_wI, if_pos ⟨rfl, rfl⟩]) (fun _ => rfl) (fun _ _ => rfl)))), fun z => absurd rfl z⟩⟩
theorem r_faceOf (h : RF M m P T G O 0 0) {x0 x1 : Int32} {Q : Int32 → Mm → Prop} (hq : ∀ M', kM M' m = (9, 13) → iM M' m 0 = 1 → (∀ b, kM M' b = kM M b) → (∀ b j, lM M' b j = lM M b j) → Q 0 M') : T_X9_faceOf M m x0 x1 Q := by
  have h1 : RF (wI M m 0 0) m P T G O 0 0 := h.thr (by decide) (by decide)
  unfold T_X9_faceOf
  intro K32 hK32
  refine ⟨h.1, h1.1, t9_isPoint h1 ⟨fun _ => hK32 _ _ (And.intro h1.1 (And.intro h1.1 (hq _ (h1.thr (by decide) (by decide)).1 (by rw [iM_wI, if_pos ⟨rfl, rfl⟩]) (fun _ => rfl) (fun _ _ => rfl)))), fun z => absurd rfl z⟩⟩
theorem r_hole (h : RF M m P T G O 0 0) {x0 x1 : Int32} {Q : Int32 → Mm → Prop} (hq : ∀ M', kM M' m = (9, 13) → iM M' m 0 = 1 → (∀ b, kM M' b = kM M b) → (∀ b j, lM M' b j = lM M b j) → Q 0 M') : T_X9_hole M m x0 x1 Q := by
  have h1 : RF (wI M m 0 0) m P T G O 0 0 := h.thr (by decide) (by decide)
  unfold T_X9_hole
  intro K21 hK21
  refine ⟨h.1, h1.1, t9_isPoint h1 ⟨fun _ => hK21 _ _ (And.intro h1.1 (And.intro h1.1 (hq _ (h1.thr (by decide) (by decide)).1 (by rw [iM_wI, if_pos ⟨rfl, rfl⟩]) (fun _ => rfl) (fun _ _ => rfl)))), fun z => absurd rfl z⟩⟩
theorem r_steps (h : RF M m P T G O 0 0) {Cc Zz : Nat} {x0 x1 : Int32} {Q : Int32 → Mm → Prop} (hq : ∀ M', kM M' m = (9, 13) → iM M' m 0 = 1 → (∀ b, kM M' b = kM M b) → (∀ b j, lM M' b j = lM M b j) → Q 0 M') : T_X9_steps Cc Zz M m x0 x1 Q := by
  have h1 : RF (wI M m 0 0) m P T G O 0 0 := h.thr (by decide) (by decide)
  unfold T_X9_steps
  intro K21 K46 K58 K70 hK21 hK46 hK58 hK70
  refine ⟨h.1, ⟨by omega, by omega⟩, h1.1, t9_isPoint h1 ⟨fun _ => hK21 _ _ _ _ (And.intro ⟨by omega, by omega⟩ (And.intro h1.1 (And.intro h1.1 ⟨by omega, by omega, (hq _ (h1.thr (by decide) (by decide)).1 (by rw [iM_wI, if_pos ⟨rfl, rfl⟩]) (fun _ => rfl) (fun _ _ => rfl))⟩))), fun z => absurd rfl z⟩⟩
theorem r_dropFace (h : RF M m P T G O 0 0) {x0 : Int32} {Q : Int32 → Mm → Prop} (hq : ∀ M', kM M' m = (9, 13) → iM M' m 0 = 1 → (∀ b, kM M' b = kM M b) → (∀ b j, lM M' b j = lM M b j) → Q 0 M') : T_X9_dropFace M m x0 Q := by
  have h1 : RF (wI M m 0 0) m P T G O 0 0 := h.thr (by decide) (by decide)
  unfold T_X9_dropFace
  refine ⟨h.1, h1.1, t9_isFace h1 ⟨fun z => absurd rfl z, fun _ => And.intro h1.1 (And.intro h1.1 (hq _ (h1.thr (by decide) (by decide)).1 (by rw [iM_wI, if_pos ⟨rfl, rfl⟩]) (fun _ => rfl) (fun _ _ => rfl)))⟩⟩
theorem r_cut (h : RF M m P T G O 0 0) {x0 x1 x2 : Int32} {Q : Int32 → Mm → Prop} (hq : ∀ M', kM M' m = (9, 13) → iM M' m 0 = 1 → (∀ b, kM M' b = kM M b) → (∀ b j, lM M' b j = lM M b j) → Q 0 M') : T_X9_cut M m x0 x1 x2 Q := by
  have h1 : RF (wI M m 0 0) m P T G O 0 0 := h.thr (by decide) (by decide)
  unfold T_X9_cut
  refine ⟨h.1, h1.1, t9_isFace h1 ⟨fun z => absurd rfl z, fun _ => And.intro h1.1 (And.intro h1.1 (hq _ (h1.thr (by decide) (by decide)).1 (by rw [iM_wI, if_pos ⟨rfl, rfl⟩]) (fun _ => rfl) (fun _ _ => rfl)))⟩⟩
theorem r_draw (h : RF M m P T G O 0 0) {Cc Zz : Nat} {x0 x1 x2 x3 : Int32} {Q : Int32 → Mm → Prop} (hq : ∀ M', kM M' m = (9, 13) → iM M' m 0 = 1 → (∀ b, kM M' b = kM M b) → (∀ b j, lM M' b j = lM M b j) → Q 0 M') : T_X9_draw Cc Zz M m x0 x1 x2 x3 Q := by
  have h1 : RF (wI M m 0 0) m P T G O 0 0 := h.thr (by decide) (by decide)
  unfold T_X9_draw
  intro K57 K164 K180 K74 K249 K119 hK57 hK164 hK180 hK74 hK249 hK119
  refine ⟨h.1, ⟨by omega, by omega⟩, h1.1, t9_isFace h1 ⟨fun z => absurd rfl z, fun _ => And.intro ⟨by omega, by omega⟩ (And.intro h1.1 (And.intro h1.1 ⟨by omega, by omega, (hq _ (h1.thr (by decide) (by decide)).1 (by rw [iM_wI, if_pos ⟨rfl, rfl⟩]) (fun _ => rfl) (fun _ _ => rfl))⟩))⟩⟩
theorem r_size (h : RF M m P T G O 0 0) {x0 : Int32} {Q : Int32 → Mm → Prop} (hq : ∀ M', kM M' m = (9, 13) → iM M' m 0 = 1 → (∀ b, kM M' b = kM M b) → (∀ b j, lM M' b j = lM M b j) → Q 0 M') : T_X9_size_ M m x0 Q := by
  have h1 : RF (wI M m 0 0) m P T G O 0 0 := h.thr (by decide) (by decide)
  unfold T_X9_size_
  refine ⟨h.1, h1.1, t9_isFace h1 ⟨fun _ => And.intro h1.1 (And.intro h1.1 (hq _ (h1.thr (by decide) (by decide)).1 (by rw [iM_wI, if_pos ⟨rfl, rfl⟩]) (fun _ => rfl) (fun _ _ => rfl))), fun z => absurd rfl z⟩⟩
theorem r_corner (h : RF M m P T G O 0 0) {x0 x1 : Int32} {Q : Int32 → Mm → Prop} (hq : ∀ M', kM M' m = (9, 13) → iM M' m 0 = 1 → (∀ b, kM M' b = kM M b) → (∀ b j, lM M' b j = lM M b j) → Q 0 M') : T_X9_corner M m x0 x1 Q := by
  have h1 : RF (wI M m 0 0) m P T G O 0 0 := h.thr (by decide) (by decide)
  unfold T_X9_corner
  intro K41 hK41
  refine ⟨h.1, h1.1, t9_isFace h1 ⟨fun _ => hK41 _ _ (And.intro h1.1 (And.intro h1.1 (hq _ (h1.thr (by decide) (by decide)).1 (by rw [iM_wI, if_pos ⟨rfl, rfl⟩]) (fun _ => rfl) (fun _ _ => rfl)))), fun z => absurd rfl z⟩⟩
theorem r_normal (h : RF M m P T G O 0 0) {x0 x1 : Int32} {Q : Int32 → Mm → Prop} (hq : ∀ M', kM M' m = (9, 13) → iM M' m 0 = 1 → (∀ b, kM M' b = kM M b) → (∀ b j, lM M' b j = lM M b j) → Q 0 M') : T_X9_normal M m x0 x1 Q := by
  have h1 : RF (wI M m 0 0) m P T G O 0 0 := h.thr (by decide) (by decide)
  unfold T_X9_normal
  refine ⟨h.1, h1.1, t9_isFace h1 ⟨fun z => absurd rfl z, fun _ => And.intro h1.1 (And.intro h1.1 (hq _ (h1.thr (by decide) (by decide)).1 (by rw [iM_wI, if_pos ⟨rfl, rfl⟩]) (fun _ => rfl) (fun _ _ => rfl)))⟩⟩
theorem r_holesWithout (h : RF M m P T G O 0 0) {Cc Zz : Nat} {x0 : Int32} {Q : Int32 → Mm → Prop} (hq : ∀ M', kM M' m = (9, 13) → iM M' m 0 = 1 → (∀ b, kM M' b = kM M b) → (∀ b j, lM M' b j = lM M b j) → Q 0 M') : T_X9_holesWithout Cc Zz M m x0 Q := by
  have h1 : RF (wI M m 0 0) m P T G O 0 0 := h.thr (by decide) (by decide)
  unfold T_X9_holesWithout
  refine ⟨h.1, ⟨by omega, by omega⟩, h1.1, t9_isFace h1 ⟨fun z => absurd rfl z, fun _ => And.intro ⟨by omega, by omega⟩ (And.intro h1.1 (And.intro h1.1 ⟨by omega, by omega, (hq _ (h1.thr (by decide) (by decide)).1 (by rw [iM_wI, if_pos ⟨rfl, rfl⟩]) (fun _ => rfl) (fun _ _ => rfl))⟩))⟩⟩
end
