section
variable {A : Nat → Nat} {M M' : Mm} {B : Nat} {rs rs2 : Nat → List Nat} {ow ow2 : Nat → Nat → Nat} {th : Nat → Bool} {ps : Nat → Nat → Int32} {fe fl pe pl : Nat} {Cc Zz : Nat}
abbrev WyI (l : Nat) : Prop := l = 14 ∨ l = 16 ∨ l = 17
theorem t_reach7 {p L : Nat} {v : Int32} {Q : Mm → Prop} (hS : Sh A M) (hp : p < 100) (hL : iM M (A 14) 5 = nI L) (hl : L ≤ 160) (q : ∀ M' L', Ch (In A WyI) M M' → iM M' (A 14) 5 = nI L' → L ≤ L' → L' ≤ 160 → L' ≤ L + 1 → (L < 160 → L' = L + 1 ∧ iM M' (A 16) L = nI p) → (∀ k, k < L → iM M' (A 16) k = iM M (A 16) k) → iM M' (A 17) p = v → (∀ r, r ≠ p → iM M' (A 17) r = iM M (A 17) r) → Q M') : T_X7_reach M (A 14) (nI p) v Q := by
  unfold T_X7_reach
  have n1 := hS.ne (i := 14) (j := 17) (by omega) (by omega) (by omega)
  have n2 := hS.ne (i := 16) (j := 17) (by omega) (by omega) (by omega)
  have n3 := hS.ne (i := 14) (j := 16) (by omega) (by omega) (by omega)
  have c1 : Ch (In A WyI) M (wI M (A 17) p v) := (Ch.one (i := 17) (by omega)).wide (fun i e => Or.inr (Or.inr e))
  have hS1 := hS.go c1
  refine t_isPN (fun p2 _ _ => ⟨fun z => absurd z (by decide), fun _ => ?_⟩) (fun n => absurd rfl (n p hp))
  refine ⟨hS.k 14, A 17, hS.r 14 4 17, 100, hS.k 17, vp_in_nI hp (by omega), ?_⟩
  rw [nI_clamp (by omega)]
  refine ⟨hS1.k 14, ?_⟩
  unfold T_X7_enqueue
  have l1 : iM (wI M (A 17) p v) (A 14) 5 = nI L := by rw [iM_wI, if_neg (fun z => n1 z.1)]; exact hL
  rw [l1]
  refine ⟨hS1.k 14, fun z => absurd z (nI_pos (by omega)), fun _ => ⟨hS1.k 14, fun z => ?_, fun z => ?_⟩⟩
  · have : L = 160 := by
      have := (nI_leI (a := 160) (by omega) (by omega)).mp z
      omega
    subst this
    refine q _ 160 c1 l1 (Nat.le_refl _) (Nat.le_refl _) (by omega) (fun w => by omega) (fun k _ => ?_) ?_ (fun r hr => ?_)
    · rw [iM_wI, if_neg (fun z => n2 z.1)]
    · rw [iM_wI, if_pos ⟨rfl, rfl⟩]
    · rw [iM_wI, if_neg (fun z => hr z.2)]
  · have hl2 : L < 160 := Classical.byContradiction (fun w => z (show nI 160 ≤ nI L from nI_le (by omega) (by omega)))
    have c2 : Ch (In A WyI) M (wI (wI M (A 17) p v) (A 16) L (nI p)) := c1.t ((Ch.one (i := 16) (by omega)).wide (fun i e => Or.inr (Or.inl e)))
    have hS2 := hS.go c2
    rw [nI_clamp (by omega)]
    refine ⟨hS1.k 14, A 16, hS1.r 14 3 16, hS1.k 14, 160, hS1.k 16, vp_in_nI hl2 (by omega), hS2.k 14, hS2.k 14, ?_⟩
    have l2 : iM (wI (wI M (A 17) p v) (A 16) L (nI p)) (A 14) 5 = nI L := by rw [iM_wI, if_neg (fun z => n3 z.1)]; exact l1
    rw [l2, nI_1]
    have c3 : Ch (In A WyI) M (wI (wI (wI M (A 17) p v) (A 16) L (nI p)) (A 14) 5 (nI (L + 1))) := c2.t ((Ch.one (i := 14) (by omega)).wide (fun i e => Or.inl e))
    refine q _ (L + 1) c3 ?_ (by omega) (by omega) (Nat.le_refl _) (fun _ => ⟨rfl, ?_⟩) (fun k hk => ?_) ?_ (fun r hr => ?_)
    · rw [iM_wI, if_pos ⟨rfl, rfl⟩]
    · rw [iM_wI, if_neg (fun z => n3 z.1.symm), iM_wI, if_pos ⟨rfl, rfl⟩]
    · rw [iM_wI, if_neg (fun z => n3 z.1.symm), iM_wI, if_neg (fun z => by omega), iM_wI, if_neg (fun z => n2 z.1)]
    · rw [iM_wI, if_neg (fun z => n1 z.1.symm), iM_wI, if_neg (fun z => n2 z.1.symm), iM_wI, if_pos ⟨rfl, rfl⟩]
    · rw [iM_wI, if_neg (fun z => n1 z.1.symm), iM_wI, if_neg (fun z => n2 z.1.symm), iM_wI, if_neg (fun z => hr z.2)]
theorem t_dist7 {p : Nat} {Q : Int32 → Prop} (hS : Sh A M) (hp : p < 100) (q : Q (iM M (A 17) p)) : T_X7_distanceOf M (A 14) (nI p) Q := by
  unfold T_X7_distanceOf
  refine t_isPN (fun _ _ _ => ⟨fun z => absurd z (by decide), fun _ => ⟨hS.k 14, A 17, hS.r 14 4 17, 100, hS.k 17, vp_in_nI hp (by omega), ?_⟩⟩) (fun n => absurd rfl (n p hp))
  rw [nI_clamp (by omega)]
  exact q
/-- over one EDGE -/
theorem t_way {a b : Nat} {Q : Int32 → Mm → Prop} (h : SD A M B rs ow th ps fe fl pe pl) (ha : a < 100) (hb : b < 100) (hab : a ≠ b) (he : ow a b ≠ 0 ∨ ow b a ≠ 0) (q : ∀ M', Ch (In A WyI) M M' → Q 1 M') : T_X7_wayLength M (A 14) (nI a) (nI b) Q := by
  unfold T_X7_wayLength
  intro K2 K34 K72 h2 h34 h72
  have e100 : (100 : Int32) = nI 100 := rfl
  have one : (0 : Int32) + 1 = 1 := by decide
  -- while b waits in the row, at place j
  have wait : ∀ d i M2 j L, i + d = j → j < 100 → j < L → L ≤ 160 → Ch (In A WyI) M M2 → iM M2 (A 14) 5 = nI L → iM M2 (A 16) j = nI b → iM M2 (A 17) b = 1 → (∀ k, k < L → ∃ p, p < 100 ∧ iM M2 (A 16) k = nI p) → K34 (A 14) (nI b) (nI i) M2 := by
    intro d
    induction d with
    | zero =>
      intro i M2 j L hj hj1 hjL hL c2 l2 qb db pts
      have : i = j := by omega
      subst this
      have hS := h.sh.go c2
      refine h34 _ _ _ _ ⟨hS.k 14, fun z => ?_, fun _ => ⟨fun z => absurd z (by rw [e100]; exact nI_ge hj1 (by omega)), fun _ => ⟨hS.k 14, A 16, hS.r 14 3 16, 160, hS.k 16, vp_in_nI (by omega) (by omega), fun z => ?_, fun _ => ⟨hS.k 14, ?_⟩⟩⟩⟩
      · rw [l2] at z
        exact absurd z (nI_ge hjL (by omega))
      · rw [nI_clamp (by omega)] at z
        exact absurd qb z
      · rw [nI_clamp (by omega), qb]
        refine t_dist7 hS hb ?_
        rw [db]
        exact q M2 c2
    | succ d ih =>
      intro i M2 j L hj hj1 hjL hL c2 l2 qb db pts
      have hS := h.sh.go c2
      refine h34 _ _ _ _ ⟨hS.k 14, fun z => ?_, fun _ => ⟨fun z => absurd z (by rw [e100]; exact nI_ge (by omega) (by omega)), fun _ => ⟨hS.k 14, A 16, hS.r 14 3 16, 160, hS.k 16, vp_in_nI (by omega) (by omega), fun _ => ?_, fun z => ⟨hS.k 14, ?_⟩⟩⟩⟩
      · rw [l2] at z
        exact absurd z (nI_ge (by omega) (by omega))
      · -- another point: its neighbours go behind
        rw [nI_clamp (by omega)]
        obtain ⟨p, hp, ep⟩ := pts i (by omega)
        rw [ep]
        have inner : ∀ d2 r M3 L3, r + d2 = 100 → L ≤ L3 → L3 ≤ 160 → Ch (In A WyI) M M3 → iM M3 (A 14) 5 = nI L3 → iM M3 (A 16) j = nI b → iM M3 (A 17) b = 1 → (∀ k, k < L3 → ∃ p, p < 100 ∧ iM M3 (A 16) k = nI p) → K72 (A 14) (nI b) (nI i) (nI p) (nI r) M3 := by
          intro d2
          induction d2 with
          | zero =>
            intro r M3 L3 hr a1 a2 c3 l3 qb3 db3 pts3
            have : r = 100 := by omega
            subst this
            refine h72 _ _ _ _ _ _ ⟨fun _ => ?_, fun z => absurd (by decide) z⟩
            rw [nI_1]
            exact ih (i + 1) M3 j L3 (by omega) hj1 (by omega) a2 c3 l3 qb3 db3 pts3
          | succ d2 ih2 =>
            intro r M3 L3 hr a1 a2 c3 l3 qb3 db3 pts3
            have hS3 := h.sh.go c3
            have go : K72 (A 14) (nI b) (nI i) (nI p) (nI r + 1) M3 := by
              rw [nI_1]
              exact ih2 (r + 1) M3 L3 (by omega) a1 a2 c3 l3 qb3 db3 pts3
            refine h72 _ _ _ _ _ _ ⟨fun z => absurd z (by rw [e100]; exact nI_ge (by omega) (by omega)), fun _ => ⟨hS3.k 14, A 17, hS3.r 14 4 17, 100, hS3.k 17, vp_in_nI (by omega) (by omega), fun _ => go, fun zr => ⟨hS3.k 14, A 7, hS3.r 14 0 7, hS3.k 7, t_isEdge (h.1.go c3 (by omega)) hp (by omega) (fun _ => ⟨fun z => absurd z (by decide), fun _ => ⟨hS3.k 14, t_dist7 hS3 hp ⟨hS3.k 14, ?_⟩⟩⟩) (fun _ _ => ⟨fun _ => go, fun z => absurd rfl z⟩)⟩⟩⟩
            rw [nI_clamp (by omega)] at zr
            have rb : r ≠ b := fun y => by
              rw [y, db3] at zr
              exact absurd zr (by decide)
            refine t_reach7 hS3 (by omega) l3 a2 (fun M4 L4 c4 l4 b1 b2 b3 b4 b5 b6 b7 => ?_)
            rw [nI_1]
            refine ih2 (r + 1) M4 L4 (by omega) (by omega) b2 (c3.t c4) l4 ?_ ?_ (fun k hk => ?_)
            · rw [b5 j (by omega)]; exact qb3
            · rw [b7 b (fun y => rb y.symm)]; exact db3
            · by_cases y : k < L3
              · rw [b5 k y]; exact pts3 k y
              · have y2 : L3 < 160 := by omega
                obtain ⟨z1, z2⟩ := b4 y2
                rw [show k = L3 by omega]
                exact ⟨r, by omega, z2⟩
        have := inner 100 0 M2 L (by omega) (Nat.le_refl _) hL c2 l2 qb db pts
        rw [nI_0] at this
        exact this
      · rw [nI_clamp (by omega)] at z ⊢
        rw [z]
        refine t_dist7 hS hb ?_
        rw [db]
        exact q M2 c2
  -- the first one's neighbours
  have first : ∀ d r M2 L, r + d = 100 → 1 ≤ L → L ≤ r + (if a < r then 0 else 1) → Ch (In A WyI) M M2 → iM M2 (A 14) 5 = nI L → (∀ k, k < L → ∃ p, p < 100 ∧ iM M2 (A 16) k = nI p) → iM M2 (A 17) a = 0 → (r ≤ b → iM M2 (A 17) b = -1) → (b < r → ∃ j, 1 ≤ j ∧ j < L ∧ j < 100 ∧ iM M2 (A 16) j = nI b ∧ iM M2 (A 17) b = 1) → K72 (A 14) (nI b) (nI 0) (nI a) (nI r) M2 := by
    intro d
    induction d with
    | zero =>
      intro r M2 L hr hL1 hL c2 l2 pts da db fb
      have : r = 100 := by omega
      subst this
      obtain ⟨j, j1, j2, j3, j4, j5⟩ := fb hb
      refine h72 _ _ _ _ _ _ ⟨fun _ => ?_, fun z => absurd (by decide) z⟩
      rw [nI_1]
      exact wait (j - 1) (0 + 1) M2 j L (by omega) j3 j2 (by split at hL <;> omega) c2 l2 j4 j5 pts
    | succ d ih =>
      intro r M2 L hr hL1 hL c2 l2 pts da db fb
      have hS := h.sh.go c2
      have hrL : r < 100 := by omega
      have skip : r ≠ b → K72 (A 14) (nI b) (nI 0) (nI a) (nI r + 1) M2 := fun hrb => by
        rw [nI_1]
        refine ih (r + 1) M2 L (by omega) hL1 ?_ c2 l2 pts da (fun y => db (by omega)) (fun y => fb (by omega))
        split at hL <;> split <;> omega
      refine h72 _ _ _ _ _ _ ⟨fun z => absurd z (by rw [e100]; exact nI_ge hrL (by omega)), fun _ => ⟨hS.k 14, A 17, hS.r 14 4 17, 100, hS.k 17, vp_in_nI hrL (by omega), fun zr => ?_, fun zr => ⟨hS.k 14, A 7, hS.r 14 0 7, hS.k 7, t_isEdge (h.1.go c2 (by omega)) ha hrL (fun _ => ⟨fun z => absurd z (by decide), fun _ => ⟨hS.k 14, t_dist7 hS ha ⟨hS.k 14, ?_⟩⟩⟩) (fun y1 y2 => ⟨fun _ => skip (fun y => by subst y; rcases he with w | w <;> omega), fun z => absurd rfl z⟩)⟩⟩⟩
      · rw [nI_clamp (by omega)] at zr
        exact skip (fun y => zr (by rw [y]; exact db (by omega)))
      · rw [nI_clamp (by omega)] at zr
        have ra : r ≠ a := fun y => by
          rw [y, da] at zr
          exact absurd zr (by decide)
        rw [da, one]
        refine t_reach7 hS hrL l2 (by split at hL <;> omega) (fun M4 L4 c4 l4 b1 b2 b3 b4 b5 b6 b7 => ?_)
        have hLlt : L < 160 := by split at hL <;> omega
        obtain ⟨z1, z2⟩ := b4 hLlt
        subst z1
        rw [nI_1]
        refine ih (r + 1) M4 (L + 1) (by omega) (by omega) ?_ (c2.t c4) l4 (fun k hk => ?_) (by rw [b7 a (fun y => ra y.symm)]; exact da) (fun y => by rw [b7 b (by omega)]; exact db (by omega)) (fun y => ?_)
        · split at hL <;> split <;> omega
        · by_cases y : k < L
          · rw [b5 k y]; exact pts k y
          · rw [show k = L by omega]
            exact ⟨r, hrL, z2⟩
        · by_cases w : r = b
          · subst w
            have hL100 : L < 100 := by
              by_cases y2 : a < r
              · rw [if_pos y2] at hL
                exact Nat.lt_of_le_of_lt hL hrL
              · rw [if_neg y2] at hL
                exact Nat.lt_of_le_of_lt hL (Nat.lt_of_le_of_lt (Nat.lt_of_le_of_ne (Nat.not_lt.mp y2) ra) ha)
            exact ⟨L, hL1, Nat.lt_succ_self L, hL100, z2, b6⟩
          · obtain ⟨j, j1, j2, j3, j4, j5⟩ := fb (by omega)
            exact ⟨j, j1, by omega, j3, by rw [b5 j j2]; exact j4, by rw [b7 b (fun y => w y.symm)]; exact j5⟩
  -- all distances taken away
  have clr : ∀ d r M2, r + d = 100 → Ch (In A WyI) M M2 → (∀ k, k < r → iM M2 (A 17) k = -1) → K2 (A 14) (nI a) (nI b) (nI r) M2 := by
    intro d
    induction d with
    | zero =>
      intro r M2 hr c2 z2
      have : r = 100 := by omega
      subst this
      have hS := h.sh.go c2
      have c3 : Ch (In A WyI) M (wI M2 (A 14) 5 0) := c2.t ((Ch.one (i := 14) (by omega)).wide (fun i e => Or.inl e))
      have hS3 := h.sh.go c3
      have n1 := hS.ne (i := 14) (j := 17) (by omega) (by omega) (by omega)
      have l3 : iM (wI M2 (A 14) 5 0) (A 14) 5 = nI 0 := by rw [iM_wI, if_pos ⟨rfl, rfl⟩, nI_0]
      refine h2 _ _ _ _ _ ⟨fun _ => ⟨hS.k 14, hS3.k 14, t_reach7 hS3 ha l3 (Nat.zero_le _) (fun M4 L4 c4 l4 b1 b2 b3 b4 b5 b6 b7 => ?_)⟩, fun z => absurd (by decide) z⟩
      obtain ⟨z1, z3⟩ := b4 (by omega)
      subst z1
      have c5 := c3.t c4
      have hS5 := h.sh.go c5
      have dist : ∀ k, k < 100 → k ≠ a → iM M4 (A 17) k = -1 := fun k hk hne => by
        rw [b7 k hne, iM_wI, if_neg (fun z => n1 z.1.symm)]
        exact z2 k hk
      refine h34 _ _ _ _ ⟨hS5.k 14, fun z => ?_, fun _ => ⟨fun z => absurd z (by decide), fun _ => ⟨hS5.k 14, A 16, hS5.r 14 3 16, 160, hS5.k 16, (by rw [← nI_0]; exact vp_in_nI (by omega) (by omega)), fun _ => ?_, fun z => ?_⟩⟩⟩
      · rw [l4] at z
        exact absurd z (by decide)
      · rw [show (0 : Int32).toNatClampNeg = 0 from rfl, z3]
        have := first 100 0 M4 (0 + 1) (by omega) (by omega) (by rw [if_neg (by omega)]; exact Nat.le_refl _) c5 l4 (fun k hk => ⟨a, ha, by rw [show k = 0 by omega]; exact z3⟩) b6 (fun _ => dist b hb (fun y => hab y.symm)) (fun y => absurd y (Nat.not_lt_zero _))
        rw [nI_0] at this
        exact this
      · rw [show (0 : Int32).toNatClampNeg = 0 from rfl, z3] at z
        exact absurd ((nI_eq (by omega) (by omega)).mp z) hab
    | succ d ih =>
      intro r M2 hr c2 z2
      have hS := h.sh.go c2
      refine h2 _ _ _ _ _ ⟨fun z => absurd z (by rw [e100]; exact nI_ge (by omega) (by omega)), fun _ => ⟨hS.k 14, A 17, hS.r 14 4 17, 100, hS.k 17, vp_in_nI (by omega) (by omega), ?_⟩⟩
      rw [nI_1, nI_clamp (by omega)]
      refine ih (r + 1) _ (by omega) (c2.t ((Ch.one (i := 17) (by omega)).wide (fun i e => Or.inr (Or.inr e)))) (fun k hk => ?_)
      rw [iM_wI]
      by_cases y : k = r
      · rw [if_pos ⟨rfl, y⟩]
      · rw [if_neg (fun z => y z.2)]
        exact z2 k (by omega)
  have := clr 100 0 M (by omega) Ch.rf (fun k hk => absurd hk (Nat.not_lt_zero _))
  rw [nI_0] at this
  exact this
end
