section
variable {A : Nat → Nat} {M M' : Mm} {B : Nat} {rs rs2 : Nat → List Nat} {ow ow2 : Nat → Nat → Nat} {th : Nat → Bool} {ps : Nat → Nat → Int32} {fe fl pe pl : Nat} {Cc Zz : Nat}
theorem Sh.grid2 (h : Sh A M) {ax : Nat} (hax : ax < 3) : rM M (A 27) ax = some (A (28 + ax)) ∧ kM M (A (28 + ax)) = (100, 100) := by
  have : ax = 0 ∨ ax = 1 ∨ ax = 2 := by omega
  rcases this with rfl | rfl | rfl
  · exact ⟨h.r 27 0 28, h.k 28⟩
  · exact ⟨h.r 27 1 29, h.k 29⟩
  · exact ⟨h.r 27 2 30, h.k 30⟩
abbrev SmI (l : Nat) : Prop := l = 28 ∨ l = 29 ∨ l = 30
theorem t_atOpen {p : Nat} {Q : Int32 → Prop} (h : SD A M B rs ow th ps fe fl pe pl) (hp : p < 100) (q : ∀ r, r = 0 ∨ r = 1 → Q r) : T_X6_isAtOpenHalf M (A 26) (nI p) Q := by
  unfold T_X6_isAtOpenHalf
  intro K hK
  have key : ∀ d k, k + d = 100 → K (A 26) (nI p) (nI k) := by
    intro d
    induction d with
    | zero =>
      intro k hk
      have : k = 100 := by omega
      subst this
      exact hK _ _ _ ⟨fun _ => q 0 (Or.inl rfl), fun z => absurd (by decide) z⟩
    | succ d ih =>
      intro k hk
      have nx := ih (k + 1) (by omega)
      rw [← nI_1] at nx
      refine hK _ _ _ ⟨fun z => absurd z (show ¬ nI 100 ≤ nI k from nI_ge (by omega) (by omega)), fun _ => ⟨h.sh.k 26, A 7, h.sh.r 26 1 7, h.sh.k 7, t_isOpen h.1 hp (by omega) (fun _ _ => ⟨fun _ => q 1 (Or.inr rfl), fun z => absurd z (by decide)⟩) (fun _ => ⟨fun z => absurd rfl z, fun _ => ⟨h.sh.k 26, A 7, h.sh.r 26 1 7, h.sh.k 7, t_isOpen h.1 (by omega) hp (fun _ _ => ⟨fun z => absurd z (by decide), fun _ => q 1 (Or.inr rfl)⟩) (fun _ => ⟨fun _ => nx, fun z => absurd rfl z⟩)⟩⟩)⟩⟩
  have := key 100 0 (by omega)
  rw [nI_0] at this
  exact this
/-- what has been found for a point is in reach -/
def PlN (A : Nat → Nat) (M : Mm) (th : Nat → Bool) (p : Nat) : Prop := ∀ ax, ax < 3 → th p = true → nr (iM M (A (28 + ax)) p)
theorem grid_ne (h : Sh A M) {ax ay : Nat} (hax : ax < 3) (hay : ay < 3) (e : A (28 + ax) = A (28 + ay)) : ax = ay := by
  refine Classical.byContradiction (fun n => ?_)
  exact h.ne (i := 28 + ax) (j := 28 + ay) (by omega) (by omega) (by omega) e
def edN (ow : Nat → Nat → Nat) (p k : Nat) : Nat := sumN (fun q => if ow p q ≠ 0 ∨ ow q p ≠ 0 then 1 else 0) k
theorem edN_le (ow : Nat → Nat → Nat) (p : Nat) : ∀ k, edN ow p k ≤ k := by
  intro k
  induction k with
  | zero => exact Nat.le_refl _
  | succ k ih =>
    show edN ow p k + (if ow p k ≠ 0 ∨ ow k p ≠ 0 then 1 else 0) ≤ k + 1
    split <;> omega
theorem t_findPlace {p : Nat} {Q : Mm → Prop} (h : SD A M B rs ow th ps fe fl pe pl) (g : Gd rs ow th ps fe fl pe pl) (hp : p < 100) (h0 : PlN A M th p) (q : ∀ M', Ch (In A SmI) M M' → (∀ ax p', ax < 3 → p' ≠ p → iM M' (A (28 + ax)) p' = iM M (A (28 + ax)) p') → PlN A M' th p → Q M') : T_X6_findPlace M (A 26) (nI p) Q := by
  unfold T_X6_findPlace
  intro K23 K34 h23 h34
  have e100 : (100 : Int32) = nI 100 := rfl
  have e3 : (3 : Int32) = nI 3 := rfl
  have nle : nbrs ow p ≤ 100 := edN_le ow p 100
  refine ⟨h.sh.k 26, A 7, h.sh.r 26 1 7, h.sh.k 7, t_neighboursOf h.1 hp ⟨fun _ => q M Ch.rf (fun _ _ _ _ => rfl) h0, fun zn => t_isPN (fun _ _ _ => ⟨fun _ => ?_, fun z => absurd z (by decide)⟩) (fun n => absurd rfl (n p hp))⟩⟩
  have npos : 0 < nbrs ow p := by
    refine Nat.pos_of_ne_zero (fun z => zn ?_)
    rw [z]
    exact nI_0
  have key : ∀ d ax M2, ax + d = 3 → Ch (In A SmI) M M2 → (∀ ay p', ay < 3 → p' ≠ p → iM M2 (A (28 + ay)) p' = iM M (A (28 + ay)) p') → PlN A M2 th p → K23 (A 26) (nI p) (nI (nbrs ow p)) (nI ax) M2 := by
    intro d
    induction d with
    | zero =>
      intro ax M2 hd c2 o2 l2
      have : ax = 3 := by omega
      subst this
      exact h23 _ _ _ _ _ ⟨fun _ => q M2 c2 o2 l2, fun z => absurd (by decide) z⟩
    | succ d ih =>
      intro ax M2 hd c2 o2 l2
      have hax : ax < 3 := by omega
      refine h23 _ _ _ _ _ ⟨fun z => absurd z (by rw [e3]; exact nI_ge hax (by omega)), fun _ => ?_⟩
      have hS := h.sh.go c2
      have f2 := h.1.go c2 (by omega)
      have p2 := h.2.2.1.go c2 (by omega)
      have sum : ∀ d2 k (s : Int32), k + d2 = 100 → -(500 * (edN ow p k : Int)) ≤ s.toInt → s.toInt ≤ 500 * (edN ow p k : Int) → K34 (A 26) (nI p) (nI (nbrs ow p)) (nI ax) s (nI k) M2 := by
        intro d2
        induction d2 with
        | zero =>
          intro k s hk b1 b2
          have : k = 100 := by omega
          subst this
          obtain ⟨gr, gk⟩ := hS.grid2 hax
          have b1 : -(500 * (nbrs ow p : Int)) ≤ s.toInt := b1
          have b2 : s.toInt ≤ 500 * (nbrs ow p : Int) := b2
          refine h34 _ _ _ _ _ _ _ ⟨fun _ => ⟨hS.k 26, A 27, hS.r 26 2 27, 3, hS.k 27, vp_in_nI hax (by omega), A (28 + ax), ?_, zn, 100, gk, vp_in_nI hp (by omega), ?_⟩, fun z => absurd (by decide) z⟩
          · rw [nI_clamp (by omega)]
            exact gr
          · rw [nI_1, nI_clamp (by omega)]
            have c3 : Ch (In A SmI) M2 (wI M2 (A (28 + ax)) p (s / nI (nbrs ow p))) := (Ch.one (i := 28 + ax) (by omega)).wide (fun i e => by
              show i = 28 ∨ i = 29 ∨ i = 30
              omega)
            refine ih (ax + 1) _ (by omega) (c2.t c3) (fun ay p' hay hne => ?_) (fun ay hay ht => ?_)
            · rw [iM_wI, if_neg (fun z => hne z.2)]
              exact o2 ay p' hay hne
            · rw [iM_wI]
              by_cases y : A (28 + ay) = A (28 + ax)
              · rw [if_pos ⟨y, rfl⟩, nr_iff]
                have tn : (nI (nbrs ow p)).toInt = (nbrs ow p : Int) := Int32.toInt_ofNat_of_lt (by omega)
                rw [Int32.toInt_div_of_ne_right s _ (fun z => nI_ne1 (by omega) z), tn]
                exact tdiv_in (by omega) b1 b2
              · rw [if_neg (fun z => y z.1)]
                exact l2 ay hay ht
        | succ d2 ih2 =>
          intro k s hk b1 b2
          have ele := edN_le ow p k
          refine h34 _ _ _ _ _ _ _ ⟨fun z => absurd z (by rw [e100]; exact nI_ge (by omega) (by omega)), fun _ => ⟨hS.k 26, A 7, hS.r 26 1 7, hS.k 7, t_isEdge f2 hp (by omega) (fun he => ⟨fun z => absurd z (by decide), fun _ => ?_⟩) (fun z1 z2 => ⟨fun _ => ?_, fun z => absurd rfl z⟩)⟩⟩
          · have tk : th k = true := by
              rcases he with y | y
              · exact (g.half y).2.1
              · exact (g.half y).1
            have rk := (nr_iff _).mp (g.2.2.2.2.2.2.2 ax k hax tk)
            have ee : edN ow p (k + 1) = edN ow p k + 1 := by
              show edN ow p k + (if ow p k ≠ 0 ∨ ow k p ≠ 0 then 1 else 0) = _
              rw [if_pos he]
            refine ⟨hS.k 26, A 1, hS.r 26 0 1, hS.k 1, t_pget p2 (by omega) hax ?_⟩
            rw [nI_1]
            have ts : (s + ps ax k).toInt = s.toInt + (ps ax k).toInt := k32_add (by omega) (by omega)
            refine ih2 (k + 1) _ (by omega) ?_ ?_
            · rw [ts, ee]; omega
            · rw [ts, ee]; omega
          · have ee : edN ow p (k + 1) = edN ow p k := by
              show edN ow p k + (if ow p k ≠ 0 ∨ ow k p ≠ 0 then 1 else 0) = _
              rw [if_neg (by omega)]
              rfl
            rw [nI_1, Int32.add_zero]
            refine ih2 (k + 1) _ (by omega) ?_ ?_
            · rw [ee]; exact b1
            · rw [ee]; exact b2
      have := sum 100 0 0 (by omega) (show -(500 * ((0 : Nat) : Int)) ≤ Int32.toInt 0 by decide) (show Int32.toInt 0 ≤ 500 * ((0 : Nat) : Int) by decide)
      rw [nI_0] at this
      exact this
  have := key 3 0 M (by omega) Ch.rf (fun _ _ _ _ => rfl) h0
  rw [nI_0] at this
  exact this
theorem v3 {ax : Nat} (hax : ax < 3) : vp_in (nI ax) 3 := vp_in_nI hax (by omega)
theorem t_settle {p : Nat} {Q : Int32 → Mm → Prop} (h : SD A M B rs ow th ps fe fl pe pl) (hp : p < 100) (q0 : th p = false → Q 0 M) (q1 : ∀ M' r, (r = 0 ∨ r = 1) → th p = true → Ch (In A (fun l => l = 3 ∨ l = 4 ∨ l = 5)) M M' → PT A M' th (upP ps p (iM M (A 28) p) (iM M (A 29) p) (iM M (A 30) p)) → Q r M') : T_X6_settle M (A 26) (nI p) Q := by
  unfold T_X6_settle
  intro K hK
  have hS := h.sh
  have end_ : th p = true → ∀ r, (r = 0 ∨ r = 1) → K (A 26) (nI p) (iM M (A 28) p) (iM M (A 29) p) (iM M (A 30) p) r M := fun ht r hr => hK _ _ _ _ _ _ _ ⟨hS.k 26, A 1, hS.r 26 0 1, hS.k 1, t_put h.2.2.1 hp (fun M2 c2 p2 => ⟨hr, q1 M2 r hr ht c2 p2⟩)⟩
  refine ⟨hS.k 26, A 1, hS.r 26 0 1, hS.k 1, t_phas h.2.2.1 (fun p2 hp2 e2 ht2 => ⟨fun _ => ?_, fun z => absurd z (by decide)⟩) (fun n => ⟨fun z => absurd rfl z, fun _ => q0 (n p hp rfl)⟩)⟩
  have : p = p2 := (nI_eq (by omega) (by omega)).mp e2
  subst this
  have en := end_ ht2
  have cl : (nI p).toNatClampNeg = p := nI_clamp (by omega)
  refine ⟨hS.k 26, A 27, hS.r 26 2 27, 3, hS.k 27, v3 (ax := 0) (by omega), A 28, hS.r 27 0 28, 100, hS.k 28, vp_in_nI hp (by omega), hS.k 26, A 27, hS.r 26 2 27, 3, hS.k 27, v3 (ax := 1) (by omega), A 29, hS.r 27 1 29, 100, hS.k 29, vp_in_nI hp (by omega), hS.k 26, A 27, hS.r 26 2 27, 3, hS.k 27, v3 (ax := 2) (by omega), A 30, hS.r 27 2 30, 100, hS.k 30, vp_in_nI hp (by omega), hS.k 26, A 1, hS.r 26 0 1, hS.k 1, ?_⟩
  rw [cl]
  refine t_pget (ax := 0) h.2.2.1 hp (by omega) ⟨fun _ => en 1 (Or.inr rfl), fun _ => ⟨hS.k 26, A 1, hS.r 26 0 1, hS.k 1, t_pget (ax := 1) h.2.2.1 hp (by omega) ⟨fun _ => en 1 (Or.inr rfl), fun _ => ⟨hS.k 26, A 1, hS.r 26 0 1, hS.k 1, t_pget (ax := 2) h.2.2.1 hp (by omega) ⟨fun _ => en 0 (Or.inl rfl), fun _ => en 1 (Or.inr rfl)⟩⟩⟩⟩⟩
theorem o_smooth {Q : Int32 → Mm → Prop} (h : SD A M B rs ow th ps fe fl pe pl) (g : Gd rs ow th ps fe fl pe pl) (q : ∀ M' ps' c, c ≤ pl → SD A M' B rs ow th ps' fe fl pe pl → Gd rs ow th ps' fe fl pe pl → Q (nI c) M') : T_X8_smooth M (A 0) Q := by
  unfold T_X8_smooth
  refine ⟨h.sh.k 0, A 26, h.sh.r 0 5 26, h.sh.k 26, ?_⟩
  unfold T_X6_apply
  intro K2 K61 K10 h2 h61 h10
  have e100 : (100 : Int32) = nI 100 := rfl
  have e3 : (3 : Int32) = nI 3 := rfl
  -- the moves
  have mv : ∀ d k c M2 ps2, k + d = 100 → c ≤ sumN (fun p => if th p = true then 1 else 0) k → SD A M2 B rs ow th ps2 fe fl pe pl → Gd rs ow th ps2 fe fl pe pl → (∀ p, p < 100 → PlN A M2 th p) → K61 (A 26) (nI c) (nI k) M2 := by
    intro d
    induction d with
    | zero =>
      intro k c M2 ps2 hk hc s2 g2 l2
      have : k = 100 := by omega
      subst this
      refine h61 _ _ _ _ ⟨fun _ => q M2 ps2 c ?_ s2 g2, fun z => absurd (by decide) z⟩
      rw [g.2.2.2.2.1]
      exact hc
    | succ d ih =>
      intro k c M2 ps2 hk hc s2 g2 l2
      have up : sumN (fun p => if th p = true then 1 else 0) (k + 1) = sumN (fun p => if th p = true then 1 else 0) k + (if th k = true then 1 else 0) := rfl
      refine h61 _ _ _ _ ⟨fun z => absurd z (by rw [e100]; exact nI_ge (by omega) (by omega)), fun _ => ⟨s2.sh.k 26, t_settle s2 (by omega) (fun ht => ⟨fun _ => ?_, fun z => absurd rfl z⟩) (fun M3 r hr ht c3 p3 => ?_)⟩⟩
      · rw [nI_1, Int32.add_zero]
        exact ih (k + 1) c M2 ps2 (by omega) (by omega) s2 g2 l2
      · have s3 : SD A M3 B rs ow th (upP ps2 k (iM M2 (A 28) k) (iM M2 (A 29) k) (iM M2 (A 30) k)) fe fl pe pl := s2.point c3 (fun i z => by omega) p3 (s2.2.2.2.1.go s2.sh c3 (by omega))
        have lk := l2 k (by omega)
        have g3 : Gd rs ow th (upP ps2 k (iM M2 (A 28) k) (iM M2 (A 29) k) (iM M2 (A 30) k)) fe fl pe pl := ⟨g2.1, g2.2.1, g2.2.2.1, g2.2.2.2.1, g2.2.2.2.2.1, g2.2.2.2.2.2.1, g2.2.2.2.2.2.2.1, fun ax p ha hp => by
          unfold upP
          split
          · split
            · exact lk 0 (by omega) ht
            · split
              · exact lk 1 (by omega) ht
              · exact lk 2 (by omega) ht
          · exact g2.2.2.2.2.2.2.2 ax p ha hp⟩
        have l3 : ∀ p, p < 100 → PlN A M3 th p := fun p hp ax hax ht2 => by
          rw [c3.at s2.sh (i := 28 + ax) (by omega) (by omega)]
          exact l2 p hp ax hax ht2
        rw [nI_1, nI_1]
        refine ⟨fun _ => ?_, fun _ => ?_⟩
        · rw [Int32.add_zero]
          exact ih (k + 1) c M3 _ (by omega) (by omega) s3 g3 l3
        · exact ih (k + 1) (c + 1) M3 _ (by omega) (by rw [up, if_pos ht]; omega) s3 g3 l3
  -- the places
  have pc : ∀ d k M2, k + d = 100 → SD A M2 B rs ow th ps fe fl pe pl → (∀ p, p < k → PlN A M2 th p) → K2 (A 26) (nI k) M2 := by
    intro d
    induction d with
    | zero =>
      intro k M2 hk s2 l2
      have : k = 100 := by omega
      subst this
      refine h2 _ _ _ ⟨fun _ => ?_, fun z => absurd (by decide) z⟩
      have := mv 100 0 0 M2 ps (by omega) (Nat.zero_le _) s2 g l2
      rw [nI_0] at this
      exact this
    | succ d ih =>
      intro k M2 hk s2 l2
      refine h2 _ _ _ ⟨fun z => absurd z (by rw [e100]; exact nI_ge (by omega) (by omega)), fun _ => ?_⟩
      have ax3 : ∀ d3 ax M3, ax + d3 = 3 → SD A M3 B rs ow th ps fe fl pe pl → (∀ p, p < k → PlN A M3 th p) → (∀ ay, ay < ax → iM M3 (A (28 + ay)) k = ps ay k) → K10 (A 26) (nI k) (nI ax) M3 := by
        intro d3
        induction d3 with
        | zero =>
          intro ax M3 h3 s3 l3 o3
          have : ax = 3 := by omega
          subst this
          have lk : PlN A M3 th k := fun ay hay ht => by
            rw [o3 ay hay]
            exact g.2.2.2.2.2.2.2 ay k hay ht
          have all : ∀ p, p < k + 1 → PlN A M3 th p := fun p hp => by
            by_cases y : p < k
            · exact l3 p y
            · rw [show p = k by omega]; exact lk
          refine h10 _ _ _ _ ⟨fun _ => ⟨s3.sh.k 26, t_atOpen s3 (by omega) (fun r hr => ⟨fun _ => ?_, fun _ => ⟨s3.sh.k 26, t_findPlace s3 g (by omega) lk (fun M4 c4 o4 l4 => ?_)⟩⟩)⟩, fun z => absurd (by decide) z⟩
          · rw [nI_1]
            exact ih (k + 1) M3 (by omega) s3 all
          · have s4 : SD A M4 B rs ow th ps fe fl pe pl := s3.go c4 (fun i z => by omega) (s3.2.2.2.2.go s3.sh c4 (fun i z => by omega))
            rw [nI_1]
            refine ih (k + 1) M4 (by omega) s4 (fun p hp => ?_)
            by_cases y : p = k
            · rw [y]; exact l4
            · intro ay hay ht
              rw [o4 ay p hay y]
              exact all p hp ay hay ht
        | succ d3 ih3 =>
          intro ax M3 h3 s3 l3 o3
          have hax : ax < 3 := by omega
          obtain ⟨gr, gk⟩ := s3.sh.grid2 hax
          refine h10 _ _ _ _ ⟨fun z => absurd z (by rw [e3]; exact nI_ge hax (by omega)), fun _ => ⟨s3.sh.k 26, A 27, s3.sh.r 26 2 27, 3, s3.sh.k 27, v3 hax, A (28 + ax), by rw [nI_clamp (by omega)]; exact gr, s3.sh.k 26, A 1, s3.sh.r 26 0 1, s3.sh.k 1, t_pget s3.2.2.1 (by omega) hax ⟨100, gk, vp_in_nI (by omega) (by omega), ?_⟩⟩⟩
          rw [nI_1, nI_clamp (by omega)]
          have c4 : Ch (In A SmI) M3 (wI M3 (A (28 + ax)) k (ps ax k)) := (Ch.one (i := 28 + ax) (by omega)).wide (fun i e => by
            show i = 28 ∨ i = 29 ∨ i = 30
            omega)
          have s4 : SD A (wI M3 (A (28 + ax)) k (ps ax k)) B rs ow th ps fe fl pe pl := s3.go c4 (fun i z => by omega) (s3.2.2.2.2.go s3.sh c4 (fun i z => by omega))
          refine ih3 (ax + 1) _ (by omega) s4 (fun p hp ay hay ht => ?_) (fun ay hay => ?_)
          · rw [iM_wI, if_neg (fun z => by omega)]
            exact l3 p hp ay hay ht
          · rw [iM_wI]
            by_cases y : ay = ax
            · rw [y, if_pos ⟨rfl, rfl⟩]
            · rw [if_neg (fun z => y (grid_ne s3.sh (by omega) hax z.1))]
              exact o3 ay (by omega)
      have := ax3 3 0 M2 (by omega) s2 l2 (fun ay hay => absurd hay (Nat.not_lt_zero _))
      rw [nI_0] at this
      exact this
  have := pc 100 0 M (by omega) h (fun p hp => absurd hp (Nat.not_lt_zero _))
  rw [nI_0] at this
  exact this
end
