/-- a coordinate within reach -/
def nr (x : Int32) : Prop := ¬ x < -500 ∧ ¬ 500 < x
theorem lgl {x : Int64} {y : Int64} : (lg_cmp x y < 0 ↔ x.toInt < y.toInt) ∧ (0 < lg_cmp x y ↔ y.toInt < x.toInt) := by
  unfold lg_cmp
  by_cases h1 : x > y
  · have e : y.toInt < x.toInt := Int64.lt_iff_toInt_lt.mp h1
    rw [if_pos h1]
    exact ⟨⟨fun z => absurd z (by decide), fun z => absurd z (by omega)⟩, ⟨fun _ => e, fun _ => by decide⟩⟩
  · have e : ¬ y.toInt < x.toInt := fun z => h1 (Int64.lt_iff_toInt_lt.mpr z)
    rw [if_neg h1]
    by_cases h2 : x = y
    · rw [if_pos h2]
      subst h2
      exact ⟨⟨fun z => absurd z (by decide), fun z => absurd z (by omega)⟩, ⟨fun z => absurd z (by decide), fun z => absurd z (by omega)⟩⟩
    · rw [if_neg h2]
      have e2 : x.toInt ≠ y.toInt := fun z => h2 (Int64.toInt_inj.mp z)
      exact ⟨⟨fun _ => by omega, fun _ => by decide⟩, ⟨fun z => absurd z (by decide), fun z => absurd z (by omega)⟩⟩
theorem t_reach {M : Mm} {x : Int32} {Q : Int32 → Prop} (q1 : nr x → Q 1) (q0 : ¬ nr x → Q 0) : T_X8_isInReach M x.toInt64 Q := by
  unfold T_X8_isInReach
  have ex : x.toInt64.toInt = x.toInt := Int32.toInt_toInt64 x
  have a1 : (-500 : Int64).toInt = -500 := by decide
  have a2 : (500 : Int64).toInt = 500 := by decide
  have b1 : (-500 : Int32).toInt = -500 := by decide
  have b2 : (500 : Int32).toInt = 500 := by decide
  have c1 : lg_cmp x.toInt64 (-500) < 0 ↔ x < -500 := by rw [lgl.1, ex, a1, Int32.lt_iff_toInt_lt, b1]
  have c2 : 0 < lg_cmp x.toInt64 500 ↔ 500 < x := by rw [lgl.2, ex, a2, Int32.lt_iff_toInt_lt, b2]
  rw [c1, c2]
  exact ⟨fun z => q0 (fun n => n.1 z), fun z => ⟨fun w => q0 (fun n => n.2 w), fun w => q1 ⟨z, w⟩⟩⟩
section
variable {A : Nat → Nat} {M : Mm} {Cc Zz : Nat}
theorem na0 {Q : Mm → Prop} {X : String → Mm → Prop} (hc : 1 ≤ Cc) (hz : 6 ≤ Zz) (hx : X "java/lang/IllegalArgumentException" M) : T_X8_needArgument Cc Zz M 0 Q X := by
  unfold T_X8_needArgument
  exact ⟨fun z => absurd rfl z, fun _ => ⟨by omega, by omega, hx⟩⟩
theorem na1 {Q : Mm → Prop} {X : String → Mm → Prop} (q : Q M) : T_X8_needArgument Cc Zz M 1 Q X := by
  unfold T_X8_needArgument
  exact ⟨fun _ => ⟨by omega, by omega, q⟩, fun z => absurd z (by decide)⟩
theorem ns1 {Q : Mm → Prop} {X : String → Mm → Prop} (q : Q M) : T_X8_needState Cc Zz M 1 Q X := by
  unfold T_X8_needState
  exact ⟨fun _ => ⟨by omega, by omega, q⟩, fun z => absurd z (by decide)⟩
theorem n_needPlace {x y z : Int32} {Q : Mm → Prop} {X : String → Mm → Prop} (hc : 1 ≤ Cc) (hz : 6 ≤ Zz) (q1 : nr x ∧ nr y ∧ nr z → Q M) (q0 : ¬ (nr x ∧ nr y ∧ nr z) → X "java/lang/IllegalArgumentException" M) : T_X8_needPlace Cc Zz M x y z Q X := by
  unfold T_X8_needPlace
  intro K hK
  have k0 : ¬ (nr x ∧ nr y ∧ nr z) → K M 0 0 := fun n => hK _ _ _ ⟨1, 6, ⟨by omega, by omega⟩, na0 (by omega) (by omega) (q0 n)⟩
  refine ⟨⟨by omega, by omega⟩, t_reach (fun a => ⟨fun z => absurd z (by decide), fun _ => ⟨⟨by omega, by omega⟩, t_reach (fun b => ⟨fun z => absurd z (by decide), fun _ => ⟨⟨by omega, by omega⟩, t_reach (fun c => ⟨fun z => absurd z (by decide), fun _ => ⟨1, 6, ⟨by omega, by omega⟩, na1 ⟨by omega, by omega, q1 ⟨a, b, c⟩⟩⟩⟩) (fun c => ⟨fun _ => k0 (fun n => c n.2.2), fun z => absurd rfl z⟩)⟩⟩) (fun b => ⟨fun _ => k0 (fun n => b n.2.1), fun z => absurd rfl z⟩)⟩⟩) (fun a => ⟨fun _ => k0 (fun n => a n.1), fun z => absurd rfl z⟩)⟩
theorem v_0 : vp_in 0 1 := by unfold vp_in; decide
theorem w_end {o c z : Nat} {v : Int64} {Q : Int32 → Mm → Prop} (ho : kM M o = (110, 1)) (hc : c ≤ Cc) (hz : z ≤ Zz) (q : Q 0 (wL M o 0 v)) : ∃ n : Nat, kM M o = (110, n) ∧ vp_in 0 n ∧ c ≤ Cc ∧ z ≤ Zz ∧ Q 0 (wL M o (0 : Int32).toNatClampNeg v) := ⟨1, ho, v_0, hc, hz, q⟩
theorem lM_at {o : Nat} {v : Int64} : lM (wL M o 0 v) o 0 = v := by rw [lM_wL, if_pos ⟨rfl, rfl⟩]
theorem w_may (h : Emp A M) {w : Int32} {o : Nat} (ho : kM M o = (110, 1)) {Q : Int32 → Mm → Prop} {X : String → Mm → Prop} (hc : 10 ≤ Cc) (hz : 60 ≤ Zz) (q1 : ¬ (¬ w < 0 ∧ ¬ 2 < w) → Q 1 M) (q0 : (¬ w < 0 ∧ ¬ 2 < w) → ∀ M', Co A M M' → lM M' o 0 = (0 : Int32).toInt64 → Q 0 M') : T_L_may Cc Zz M (A 0) w o Q X := by
  unfold T_L_may
  refine ⟨2, 12, ⟨by omega, by omega⟩, h.1.1.k 0, ?_⟩
  unfold T_X8_may
  intro K hK
  have k0 : ¬ (¬ w < 0 ∧ ¬ 2 < w) → K (A 0) w 0 M 0 0 := fun n => hK _ _ _ _ _ _ ⟨1, 6, ⟨by omega, by omega⟩, na0 (by omega) (by omega) ⟨rfl, by omega, by omega, q1 n⟩⟩
  exact ⟨fun z => k0 (fun n => n.1 z), fun z => ⟨fun y => k0 (fun n => n.2 y), fun y => hK _ _ _ _ _ _ ⟨1, 6, ⟨by omega, by omega⟩, na1 ⟨⟨by omega, by omega⟩, h.1.1.k 0, f_pairs h ⟨by omega, by omega, w_end ho (by omega) (by omega) (q0 ⟨z, y⟩ _ Co.out lM_at)⟩⟩⟩⟩⟩
theorem w_quarters (h : Emp A M) {o : Nat} (ho : kM M o = (110, 1)) {Q : Int32 → Mm → Prop} {X : String → Mm → Prop} (hc : 10 ≤ Cc) (hz : 60 ≤ Zz) (q0 : ∀ M', Co A M M' → lM M' o 0 = (0 : Int32).toInt64 → Q 0 M') : T_L_quarters Cc Zz M (A 0) o Q X := by
  unfold T_L_quarters
  refine ⟨2, 12, ⟨by omega, by omega⟩, h.1.1.k 0, ?_⟩
  unfold T_X8_quarters
  exact ⟨h.1.1.k 0, A 21, h.1.1.r 0 4 21, ⟨by omega, by omega⟩, h.1.1.k 21, f_fits h ⟨1, 6, ⟨by omega, by omega⟩, ns1 ⟨h.1.1.k 0, A 21, h.1.1.r 0 4 21, ⟨by omega, by omega⟩, h.1.1.k 21, f_qapply h ⟨h.1.1.k 0, A 7, h.1.1.r 0 1 7, ⟨by omega, by omega⟩, h.1.1.k 7, f_left h ⟨by omega, by omega, w_end ho (by omega) (by omega) (q0 _ Co.out lM_at)⟩⟩⟩⟩⟩
theorem CIp {i : Nat} (h : i = 1 ∨ i = 3 ∨ i = 4 ∨ i = 5 ∨ i = 6) : CI i := by
  rcases h with h | h | h | h | h <;> exact Or.inl (by omega)
theorem w_point (h : Emp A M) {x y z : Int32} {o : Nat} (ho : kM M o = (110, 1)) {Q : Int32 → Mm → Prop} {X : String → Mm → Prop} (hc : 10 ≤ Cc) (hz : 60 ≤ Zz) (q1 : ¬ (nr x ∧ nr y ∧ nr z) → Q 1 M) (q0 : nr x ∧ nr y ∧ nr z → ∀ M', Co A M M' → lM M' o 0 = (0 : Int32).toInt64 → Q 0 M') : T_L_point Cc Zz M (A 0) x y z o Q X := by
  unfold T_L_point
  refine ⟨2, 12, ⟨by omega, by omega⟩, h.1.1.k 0, ?_⟩
  unfold T_X8_point
  refine ⟨1, 6, ⟨by omega, by omega⟩, n_needPlace (by omega) (by omega) (fun hn => ⟨h.1.1.k 0, A 1, h.1.1.r 0 0 1, ⟨by omega, by omega⟩, h.1.1.k 1, ?_⟩) (fun hn => Or.inl ⟨rfl, by omega, by omega, q1 hn⟩)⟩
  refine (show T_X3_hasRoom M (A 1) (nI 1) _ from f_proom h (by omega) ⟨1, 6, ⟨by omega, by omega⟩, ns1 ⟨h.1.1.k 0, A 1, h.1.1.r 0 0 1, ⟨by omega, by omega⟩, h.1.1.k 1, t_padd h.2.2.1 h.2.2.2 (by omega) (by omega) (fun M' c hP hN => ⟨by omega, by omega, w_end (by rw [c.k]; exact ho) (by omega) (by omega) ?_⟩)⟩⟩)
  exact q0 hn _ ((Co.ch c (fun _ e => CIp e)).tr Co.out) (by rw [lM_at, nI_0])
theorem t_square {th : Nat → Bool} {ps : Nat → Nat → Int32} {pe pl : Nat} {x y z w : Int32} {Q : Int32 → Mm → Prop} (h : PT A M th ps) (hn : PN A M pe pl) (hp : pe + 4 ≤ 100) (hl : pl + 4 ≤ 100) (q : ∀ M' th' ps', Ch (In A (fun l => l = 1 ∨ l = 3 ∨ l = 4 ∨ l = 5 ∨ l = 6)) M M' → PT A M' th' ps' → PN A M' (pe + 4) (pl + 4) → Q (nI pe) M') : T_X8_addSquare M (A 0) x y z w Q := by
  unfold T_X8_addSquare
  exact ⟨h.1.k 0, A 1, h.1.r 0 0 1, h.1.k 1, t_padd h hn (by omega) (by omega) (fun M1 c1 p1 n1 => ⟨p1.1.k 0, A 1, p1.1.r 0 0 1, p1.1.k 1, t_padd p1 n1 (by omega) (by omega) (fun M2 c2 p2 n2 => ⟨p2.1.k 0, A 1, p2.1.r 0 0 1, p2.1.k 1, t_padd p2 n2 (by omega) (by omega) (fun M3 c3 p3 n3 => ⟨p3.1.k 0, A 1, p3.1.r 0 0 1, p3.1.k 1, t_padd p3 n3 (by omega) (by omega) (fun M4 c4 p4 n4 => q M4 _ _ (((c1.t c2).t c3).t c4) p4 n4)⟩)⟩)⟩)⟩
def bxN (i : Nat) : Nat := (boxL.getD i 0).toNatClampNeg
theorem bx_at {i : Nat} (hi : i < 24) : boxL.getD i 0 = nI (bxN i) ∧ bxN i < 8 := by
  have : ∀ i : Fin 24, boxL.getD i.val 0 = nI (bxN i.val) ∧ bxN i.val < 8 := by decide
  exact this ⟨i, hi⟩
theorem t_boxFaces {rs : Nat → List Nat} {ow : Nat → Nat → Nat} {xs : List Int32} {Q : Mm → Prop} (h : FT A M rs ow) (hn : FN A M 0 0) (hr : RG M (A 31) (A 32) xs) (q : ∀ M', Ch (In A CI) M M' → Q M') : T_X8_addBoxFaces M (A 0) (nI 0) Q := by
  unfold T_X8_addBoxFaces
  intro K hK
  have e24 : (24 : Int32) = nI 24 := rfl
  have e4 : (4 : Int32) = nI 4 := rfl
  have e2 : (2 : Int32) = nI 2 := rfl
  have e3 : (3 : Int32) = nI 3 := rfl
  have key : ∀ d k M' rs ow xs, d + k = 6 → Ch (In A CI) M M' → FT A M' rs ow → FN A M' k k → RG M' (A 31) (A 32) xs → K (A 0) (nI 0) (nI (4 * k)) M' := by
    intro d
    induction d with
    | zero =>
      intro k M' rs ow xs hd c h hn hr
      have : k = 6 := by omega
      subst this
      exact hK _ _ _ _ ⟨fun _ => q M' c, fun z => absurd (by decide) z⟩
    | succ d ih =>
      intro k M' rs ow xs hd c h hn hr
      obtain ⟨b0, l0⟩ := bx_at (i := 4 * k) (by omega)
      obtain ⟨b1, l1⟩ := bx_at (i := 4 * k + 1) (by omega)
      obtain ⟨b2, l2⟩ := bx_at (i := 4 * k + 2) (by omega)
      obtain ⟨b3, l3⟩ := bx_at (i := 4 * k + 3) (by omega)
      refine hK _ _ _ _ ⟨fun z => absurd z (by rw [e4, nI_add, e24]; exact nI_nlt (by omega) (by omega)), fun _ => ?_⟩
      rw [nI_1, e2, e3, e4, nI_add, nI_add, nI_add, nI_clamp (by omega), nI_clamp (by omega), nI_clamp (by omega), nI_clamp (by omega), b0, b1, b2, b3, nI_add, nI_add, nI_add, nI_add]
      refine ⟨h.1.k 0, A 31, h.1.r 0 6 31, vp_in_nI (by omega) (by omega), vp_in_nI (by omega) (by omega), vp_in_nI (by omega) (by omega), vp_in_nI (by omega) (by omega), h.1.k 31, t_set4 hr (fun M1 c1 r1 => ?_)⟩
      have c1' := c1.two (by omega) (by omega)
      have h1 := h.go c1' (by omega)
      have n1 := hn.go h.1 c1' (by omega)
      have ne : ¬ (nI (0 + bxN (4 * k + 3)) = -1) := fun z => by
        have p := nI_pos (n := 0 + bxN (4 * k + 3)) (by omega)
        rw [z] at p
        exact p (by decide)
      rw [if_neg ne] at r1
      have r1' : RG M1 (A 31) (A (31 + 1)) ([0 + bxN (4 * k), 0 + bxN (4 * k + 1), 0 + bxN (4 * k + 2), 0 + bxN (4 * k + 3)].map nI) := r1
      refine ⟨h1.1.k 0, A 7, h1.1.r 0 1 7, h1.1.k 0, A 31, h1.1.r 0 6 31, h1.1.k 7, t_addF h1 n1 (by omega) (by omega) (by omega) (by omega) r1' (fun p hp => ?_) (fun M2 c2 h2 n2 => ?_)⟩
      · simp only [List.mem_cons, List.not_mem_nil, or_false] at hp
        omega
      · refine ih (k + 1) M2 _ _ _ (by omega) ((c.t (c1'.wide (fun i e => Or.inl (by omega)))).t (c2.wide (fun i e => ?_))) h2 n2 (r1'.kept c2 (In.not h1.1 (by omega) (by omega)) (In.not h1.1 (by omega) (by omega)))
        unfold CI
        omega
  have := key 6 0 M rs ow xs rfl Ch.rf h hn hr
  rw [show 4 * 0 = 0 from rfl, nI_0] at this
  rw [nI_0]
  exact this
def bxok (x y z w : Int32) : Prop := (¬ w < 1 ∧ ¬ 500 < w) ∧ (nr x ∧ nr y ∧ nr z) ∧ nr (x + w) ∧ nr (y + w) ∧ nr (z + w)
theorem w_box (h : FRSH A M) {x y z w : Int32} {o : Nat} (ho : kM M o = (110, 1)) {Q : Int32 → Mm → Prop} {X : String → Mm → Prop} (hc : 10 ≤ Cc) (hz : 60 ≤ Zz) (q1 : ¬ bxok x y z w → Q 1 M) (q0 : bxok x y z w → ∀ M', Co A M M' → lM M' o 0 = (0 : Int32).toInt64 → Q 0 M') : T_L_box Cc Zz M (A 0) x y z w o Q X := by
  unfold T_L_box
  refine ⟨8, 48, ⟨by omega, by omega⟩, h.1.1.k 0, ?_⟩
  unfold T_X8_box
  intro K19 K72 h19 h72
  have h0 := h.f0
  have k0 : ¬ (¬ w < 1 ∧ ¬ 500 < w) → K19 (A 0) x y z w 0 M 0 0 := fun n => h19 _ _ _ _ _ _ _ _ _ ⟨1, 6, ⟨by omega, by omega⟩, na0 (by omega) (by omega) (Or.inl ⟨rfl, by omega, by omega, q1 (fun b => n b.1)⟩)⟩
  refine ⟨fun y => k0 (fun n => n.1 y), fun y => ⟨fun y2 => k0 (fun n => n.2 y2), fun y2 => h19 _ _ _ _ _ _ _ _ _ ⟨1, 6, ⟨by omega, by omega⟩, na1 ⟨1, 6, ⟨by omega, by omega⟩, n_needPlace (by omega) (by omega) (fun hp => ⟨1, 6, ⟨by omega, by omega⟩, n_needPlace (by omega) (by omega) (fun hp2 => ⟨h.1.1.k 0, A 1, h.1.1.r 0 0 1, ⟨by omega, by omega⟩, h.1.1.k 1, ?_⟩) (fun n => Or.inl ⟨rfl, by omega, by omega, q1 (fun b => n b.2.2)⟩)⟩) (fun n => Or.inl ⟨rfl, by omega, by omega, q1 (fun b => n b.2.1)⟩)⟩⟩⟩⟩
  refine (show T_X3_hasRoom M (A 1) (nI 8) _ from f_proom h0 (by omega) ⟨fun z => absurd z (by decide), fun _ => ⟨h.1.1.k 0, A 7, h.1.1.r 0 1 7, ⟨by omega, by omega⟩, h.1.1.k 7, (show T_X1_hasRoom M (A 7) (nI 6) _ from f_room h0 (by omega) ⟨fun z => absurd z (by decide), fun _ => h72 _ _ _ _ _ _ _ _ _ ⟨1, 6, ⟨by omega, by omega⟩, ns1 ⟨⟨by omega, by omega⟩, h.1.1.k 0, t_square h0.2.2.1 h0.2.2.2 (by omega) (by omega) (fun M1 th1 ps1 c1 p1 n1 => ⟨⟨by omega, by omega⟩, p1.1.k 0, t_square p1 n1 (by omega) (by omega) (fun M2 th2 ps2 c2 p2 n2 => ⟨⟨by omega, by omega⟩, p2.1.k 0, ?_⟩)⟩)⟩⟩⟩)⟩⟩)
  have c12 := c1.t c2
  refine t_boxFaces (h.1.go c12 (by omega)) (h.2.1.go h.1.1 c12 (by omega)) (h.2.2.2.2.2.1.kept c12 (In.not h.1.1 (by omega) (by omega)) (In.not h.1.1 (by omega) (by omega))) (fun M3 c3 => ⟨by omega, by omega, w_end (by rw [c3.k, c12.k]; exact ho) (by omega) (by omega) ?_⟩)
  exact q0 ⟨⟨y, y2⟩, hp, hp2⟩ _ (((Co.ch c12 (fun _ e => CIp e)).tr (Co.ch c3 (fun _ e => e))).tr Co.out) (by rw [lM_at, nI_0])
def dgC : Int64 := ((((((((58071 * 31) + (0 : Int32).toInt64) * 31 + (0 : Int32).toInt64) * 31 + (0 : Int32).toInt64) * 31 + (0 : Int32).toInt64) * 31 + (0 : Int32).toInt64) * 31 + 0) * 31 + (0 : Int32).toInt64) * 31 + (0 : Int32).toInt64
theorem f_digest (h : FRSH A M) {Q : Int64 → Mm → Prop} (q : ∀ M', Co A M M' → Q dgC M') : T_X8_digest M (A 0) Q := by
  unfold T_X8_digest
  intro K80 K117 h80 h117
  have h0 := h.f0
  refine ⟨h.1.1.k 0, A 1, h.1.1.r 0 0 1, h.1.1.k 1, f_pleft h0 ?_⟩
  unfold T_X8_mix
  refine ⟨h.1.1.k 0, A 7, h.1.1.r 0 1 7, h.1.1.k 7, f_edges h0 ⟨h.1.1.k 0, A 7, h.1.1.r 0 1 7, h.1.1.k 7, f_left h0 ⟨h.1.1.k 0, A 14, h.1.1.r 0 2 14, h.1.1.k 14, f_holes h0 h.2.2.2.2.1 (fun M1 c1 => ?_)⟩⟩⟩
  have h1 : Emp A M1 := h0.go c1 (fun i e => e.elim Or.inl (fun e => Or.inr (Or.inl e)))
  refine ⟨h1.1.1.k 0, A 14, h1.1.1.r 0 2 14, h1.1.1.k 14, f_shells h1 (fun M2 c2 => ?_)⟩
  have h2 : Emp A M2 := h1.go c2 (fun i e => Or.inr (Or.inr (Or.inl e)))
  refine ⟨h2.1.1.k 0, f_bulk h2 (h80 _ _ _ _ ⟨h2.1.1.k 0, A 1, h2.1.1.r 0 0 1, h2.1.1.k 1, f_pever h2 ⟨fun _ => h117 _ _ _ _ ⟨h2.1.1.k 0, A 7, h2.1.1.r 0 1 7, h2.1.1.k 7, f_ever h2 ⟨fun _ => ⟨h2.1.1.k 0, f_pairs h2 ?_⟩, nle00⟩⟩, nle00⟩⟩)⟩
  unfold T_X8_mix
  refine ⟨h2.1.1.k 0, f_pairs h2 ?_⟩
  exact q M2 ((Co.ch c1 (fun i e => Or.inl (by omega))).tr (Co.ch c2 (fun i e => Or.inl (by omega))))
end
