section
variable {A : Nat → Nat} {M M' : Mm} {B : Nat} {rs rs2 : Nat → List Nat} {ow ow2 : Nat → Nat → Nat} {th th2 : Nat → Bool} {ps ps2 : Nat → Nat → Int32} {fe fl pe pl fe2 fl2 pe2 pl2 : Nat} {Cc Zz : Nat}
theorem t_prev {o w i : Nat} {xs : List Nat} {Q : Int32 → Prop} (h : RG M o w (xs.map nI)) (hi : i < xs.length) (q : Q (nI (gn xs (i + xs.length - 1)))) : T_X5_get M o (nI i - 1) Q := by
  have hl := h.2.2.2.2.1
  rw [List.length_map] at hl
  cases i with
  | zero =>
    rw [show nI 0 - 1 = -(nI 1) by decide]
    refine t_gtN h (by rw [List.length_map]; omega) ?_
    rw [List.length_map, gt_map (by omega), show xs.length - 1 = 0 + xs.length - 1 by omega]
    exact q
  | succ i =>
    rw [show nI (i + 1) - 1 = nI i from nI_pred i]
    refine t_gt h (by omega) ?_
    rw [gt_map (by omega), ← gn_add xs i, show i + xs.length = i + 1 + xs.length - 1 by omega]
    exact q
/-- the quarters of one face -/
theorem a_quads {f E F c : Nat} {mid : Nat → Nat → Nat} {cen : Nat → Nat} {Q : Mm → Prop} (g : Gd rs ow th ps fe fl pe pl) (hm : EM ow pe E mid) (hc : ∀ f, f < 160 → rs f ≠ [] → pe + E ≤ cen f ∧ cen f < pe + E + F) (hci : ∀ f f2, f < 160 → f2 < 160 → rs f ≠ [] → rs f2 ≠ [] → cen f = cen f2 → f = f2)
    (hf : f < 160) (hne : rs f ≠ []) (hcf : cen f = c)
    (h : SD A M B rs2 ow2 th2 ps2 fe2 fl2 pe2 pl2) (g2 : Gd rs2 ow2 th2 ps2 fe2 fl2 pe2 pl2) (e2 : rs2 f = rs f) (hroom : fe2 + (rs f).length ≤ 160) (hbig : pe + E + F ≤ 100) (hth : ∀ p, p < pe + E + F → (th p = true ∨ pe ≤ p) → th2 p = true)
    (hmm : ∀ a b, edg ow a b → a ≠ b → iM M (A 22) (a * 100 + b) = nI (mid a b)) (hfree : ∀ i u v, i < (rs f).length → qH rs mid cen f i u v → ¬ Hv rs2 u v)
    (q : ∀ M' rs3 ow3 fl3, Ch (In A (fun l => l = 7 ∨ l = 11 ∨ l = 24 ∨ l = 25 ∨ 64 ≤ l)) M M' → SD A M' B rs3 ow3 th2 ps2 (fe2 + (rs f).length) fl3 pe2 pl2 → Gd rs3 ow3 th2 ps2 (fe2 + (rs f).length) fl3 pe2 pl2 → (∀ u v, Hv rs3 u v ↔ Hv rs2 u v ∨ ∃ i, i < (rs f).length ∧ qH rs mid cen f i u v) → (∀ k, k < fe2 → rs3 k = rs2 k) → Q M') : T_X4_addQuarters M (A 21) (A (64 + 2 * f)) (nI c) Q := by
  unfold T_X4_addQuarters
  intro K hK
  have h3 := (g.2.1 f).resolve_left hne
  have h12 : (rs f).length ≤ 12 := by rw [← e2]; exact h.1.len hf
  have hlt : f < fe2 := Classical.byContradiction (fun z => hne (by rw [← e2]; exact g2.2.2.1 f (by omega)))
  have old : ∀ p, gn (rs f) p < pe := fun p => by
    have := g.2.2.2.2.2.2.1 f _ (gn_mem (p := p) (by omega))
    refine Classical.byContradiction (fun y => ?_)
    rw [g.2.2.2.2.2.1 _ (by omega)] at this
    cases this
  have oth : ∀ p, th (gn (rs f) p) = true := fun p => g.2.2.2.2.2.2.1 f _ (gn_mem (by omega))
  have key : ∀ d i M2 rs3 ow3 fl3, i + d = (rs f).length → Ch (In A (fun l => l = 7 ∨ l = 11 ∨ l = 24 ∨ l = 25 ∨ 64 ≤ l)) M M2 → SD A M2 B rs3 ow3 th2 ps2 (fe2 + i) fl3 pe2 pl2 → Gd rs3 ow3 th2 ps2 (fe2 + i) fl3 pe2 pl2 → (∀ u v, Hv rs3 u v ↔ Hv rs2 u v ∨ ∃ i', i' < i ∧ qH rs mid cen f i' u v) → (∀ k, k < fe2 → rs3 k = rs2 k) → K (A 21) (A (64 + 2 * f)) (nI c) (nI i) M2 := by
    intro d
    induction d with
    | zero =>
      intro i M2 rs3 ow3 fl3 hi c2 s2 g3 hv k3
      have : i = (rs f).length := by omega
      subst this
      have er : rs3 f = rs f := by rw [k3 f hlt, e2]
      have hr := s2.1.2.1 f hf
      rw [er] at hr
      refine hK _ _ _ _ _ ⟨hr.1, t_length hr ?_⟩
      rw [List.length_map]
      exact ⟨fun _ => q M2 rs3 ow3 fl3 c2 s2 g3 hv k3, fun z => absurd (nI_le (Nat.le_refl _) (by omega)) z⟩
    | succ d ih =>
      intro i M2 rs3 ow3 fl3 hi c2 s2 g3 hv k3
      have hin : i < (rs f).length := by omega
      have er : rs3 f = rs f := by rw [k3 f hlt, e2]
      have hr := s2.1.2.1 f hf
      rw [er] at hr
      have hS := s2.sh
      have e1 := ring_edge g hf (by omega) i
      have d1 := ring_edge g hf (by omega) (i + (rs f).length - 1)
      rw [show i + (rs f).length - 1 + 1 = i + (rs f).length by omega, gn_add] at d1
      have ed1 : edg ow (gn (rs f) i) (gn (rs f) (i + 1)) := Or.inl (by rw [e1.1]; omega)
      have ed2 : edg ow (gn (rs f) (i + (rs f).length - 1)) (gn (rs f) i) := Or.inl (by rw [d1.1]; omega)
      have m1 := hm.1 _ _ ed1 e1.2
      have m2 := hm.1 _ _ ed2 d1.2
      have cc := hc f hf hne
      have o1 := old i
      have o2 := old (i + 1)
      have o3 := old (i + (rs f).length - 1)
      have mv : ∀ a b, edg ow a b → a ≠ b → a < 100 → b < 100 → iM M2 (A 22) (a * 100 + b) = nI (mid a b) := fun a b x y _ _ => by
        rw [c2.at h.sh (by omega) (by omega)]
        exact hmm a b x y
      refine hK _ _ _ _ _ ⟨hr.1, t_length hr ?_⟩
      rw [List.length_map]
      refine ⟨fun z => absurd z (nI_ge hin (by omega)), fun _ => ⟨hr.1, t_gt hr (by omega) ?_⟩⟩
      rw [gt_map (by omega)]
      refine ⟨hS.k 21, A 24, hS.r 21 4 24, hr.1, ?_⟩
      rw [nI_1]
      refine t_gt hr (by omega) ?_
      rw [gt_map (by omega)]
      refine ⟨hS.k 21, t_middle hS (by omega) (by omega) (mv _ _ ed1 e1.2 (by omega) (by omega)) ⟨hr.1, t_prev hr hin ⟨hS.k 21, t_middle hS (by omega) (by omega) (mv _ _ ed2 d1.2 (by omega) (by omega)) ?_⟩⟩⟩
      obtain ⟨zs, hzr⟩ := s2.2.2.2.2.2 24 (Or.inr (Or.inr (Or.inr rfl)))
      refine ⟨hS.k 24, t_set4 hzr (fun M3 c3 r3 => ?_)⟩
      rw [if_neg (nI_ne1 (by omega))] at r3
      have r3' : RG M3 (A 24) (A (24 + 1)) ([gn (rs f) i, mid (gn (rs f) i) (gn (rs f) (i + 1)), c, mid (gn (rs f) (i + (rs f).length - 1)) (gn (rs f) i)].map nI) := r3
      have c3' := c3.two (A := A) (by omega) (by omega)
      have s3 : SD A M3 B rs3 ow3 th2 ps2 (fe2 + i) fl3 pe2 pl2 := s2.go c3' (fun i z => by omega) (s2.2.2.2.2.rg hS c3' (Or.inr (Or.inr (Or.inr rfl))) (fun i z => z) r3)
      have quads : ∀ u v, hvk [gn (rs f) i, mid (gn (rs f) i) (gn (rs f) (i + 1)), c, mid (gn (rs f) (i + (rs f).length - 1)) (gn (rs f) i)] [gn (rs f) i, mid (gn (rs f) i) (gn (rs f) (i + 1)), c, mid (gn (rs f) (i + (rs f).length - 1)) (gn (rs f) i)].length u v ↔ qH rs mid cen f i u v := fun u v => by
        rw [four_hv]
        unfold qH
        rw [hcf]
      have md : mid (gn (rs f) i) (gn (rs f) (i + 1)) ≠ mid (gn (rs f) (i + (rs f).length - 1)) (gn (rs f) i) := fun z => by
        rcases hm.2 _ _ _ _ ed1 ed2 e1.2 d1.2 z with ⟨_, y⟩ | ⟨_, y⟩
        · exact e1.2 y.symm
        · have := gn_off g.1 hf (s := i) (i := 1) (j := (rs f).length - 1) (by omega) (by omega) (by rw [show i + ((rs f).length - 1) = i + (rs f).length - 1 by omega]; exact y)
          omega
      refine ⟨s3.sh.k 21, A 7, s3.sh.r 21 1 7, s3.sh.k 21, A 24, s3.sh.r 21 4 24, s3.sh.k 7, o_addF s3 g3 (Or.inr (Or.inr rfl)) r3' (by omega) (show 3 ≤ 4 by decide) (four_dist (by omega)) (fun u v z => ?_) (fun x hx => ?_) (fun M4 c4 s4 g4 => ?_)⟩
      · rw [g3.zero, hv]
        have zq := (quads u v).mp z
        intro y
        rcases y with y | ⟨i', hi', y⟩
        · exact hfree i u v hin zq y
        · have := (quart_one g hm hc hci hf hf hin (by omega) zq y).2
          omega
      · simp only [List.mem_cons, List.not_mem_nil, or_false] at hx
        rcases hx with rfl | rfl | rfl | rfl
        · exact hth _ (by omega) (Or.inl (oth i))
        · exact hth _ (by omega) (Or.inr (by omega))
        · exact hth _ (by omega) (Or.inr (by omega))
        · exact hth _ (by omega) (Or.inr (by omega))
      · skip
        refine ih (i + 1) M4 _ _ _ (by omega) ((c2.t (c3'.wide (fun l z => by omega))).t (c4.wide (fun l z => by omega))) s4 g4 (fun u v => ?_) (fun k hk => ?_)
        · rw [add_hv g3 (by omega), quads, hv]
          constructor
          · intro z
            rcases z with z | z | ⟨i', hi', z⟩
            · exact Or.inr ⟨i, by omega, z⟩
            · exact Or.inl z
            · exact Or.inr ⟨i', by omega, z⟩
          · intro z
            rcases z with z | ⟨i', hi', z⟩
            · exact Or.inr (Or.inl z)
            · by_cases y : i' < i
              · exact Or.inr (Or.inr ⟨i', y, z⟩)
              · rw [show i' = i by omega] at z
                exact Or.inl z
        · unfold upr
          rw [if_neg (by omega)]
          exact k3 k hk
  have := key (rs f).length 0 M rs2 ow2 fl2 (by omega) Ch.rf h g2 (fun u v => ⟨Or.inl, fun z => z.elim id (fun ⟨i, hi, _⟩ => absurd hi (Nat.not_lt_zero _))⟩) (fun k _ => rfl)
  rw [nI_0] at this
  exact this
end
section
variable {A : Nat → Nat} {M M' : Mm} {B : Nat} {rs rs2 : Nat → List Nat} {ow ow2 : Nat → Nat → Nat} {th th2 : Nat → Bool} {ps ps2 : Nat → Nat → Int32} {fe fl pe pl fe2 fl2 pe2 pl2 : Nat} {Cc Zz : Nat}
theorem t_qapply {E : Nat} {Q : Mm → Prop} (h : SD A M B rs ow th ps fe fl pe pl) (g : Gd rs ow th ps fe fl pe pl) (hE : eP ow = E) (hp : pe + (E + fl) ≤ 100) (hf : fe + lenF rs fe ≤ 160) (q : ∀ M' rs' ow' th' ps' fe' fl', SD A M' B rs' ow' th' ps' fe' fl' (pe + E + fl) (pl + E + fl) → Gd rs' ow' th' ps' fe' fl' (pe + E + fl) (pl + E + fl) → Q M') : T_X4_apply M (A 21) Q := by
  unfold T_X4_apply
  intro K hK
  have hfe := h.2.1.2.2.1
  refine ⟨h.sh.k 21, A 7, h.sh.r 21 1 7, h.sh.k 7, t_fever h ⟨h.sh.k 21, a_middles h g hE (by omega) (fun M1 th1 ps1 mid s1 g1 m1 t1 i1 => ⟨s1.sh.k 21, a_centres s1 g1 (by omega) (fun M2 th2 ps2 cen c2 s2 g2 m2 t2 i2 => ?_)⟩)⟩⟩
  obtain ⟨em, mm⟩ := mid_em i1
  have mm2 : ∀ a b, edg ow a b → a ≠ b → iM M2 (A 22) (a * 100 + b) = nI (mid a b) := fun a b x y => by
    rw [c2.at s1.sh (by omega) (by omega)]
    exact mm a b x y
  have hc : ∀ f, f < 160 → rs f ≠ [] → pe + E ≤ cen f ∧ cen f < pe + E + fl := fun f hf hne => ⟨(i2.1 f hf hne).1, (i2.1 f hf hne).2.1⟩
  have hci : ∀ f f2, f < 160 → f2 < 160 → rs f ≠ [] → rs f2 ≠ [] → cen f = cen f2 → f = f2 := fun f f2 a b c d e => i2.2 f f2 a b c d e
  have hth : ∀ p, p < pe + E + fl → (th p = true ∨ pe ≤ p) → th2 p = true := fun p hp z => by
    rcases z with z | z
    · exact m2 p (m1 p z)
    · by_cases y : p < pe + E
      · have := t1 (p - pe) (by omega)
        rw [show pe + (p - pe) = p by omega] at this
        exact m2 p this
      · have := t2 (p - (pe + E)) (by omega)
        rw [show pe + E + (p - (pe + E)) = p by omega] at this
        exact this
  have nH : ∀ k u v, hvk (rs k) (rs k).length u v → u < pe ∧ v < pe := fun k u v z => by
    have a1 := g.2.2.2.2.2.2.1 k _ (hvk_in z).1
    have a2 := g.2.2.2.2.2.2.1 k _ (hvk_in z).2
    refine ⟨Classical.byContradiction (fun y => ?_), Classical.byContradiction (fun y => ?_)⟩
    · rw [g.2.2.2.2.2.1 _ (by omega)] at a1; cases a1
    · rw [g.2.2.2.2.2.1 _ (by omega)] at a2; cases a2
  have nQ : ∀ f i u v, f < 160 → i < (rs f).length → qH rs mid cen f i u v → pe ≤ u ∨ pe ≤ v := fun f i u v hf hi z => by
    have hne : rs f ≠ [] := fun y => by rw [y] at hi; exact absurd hi (Nat.not_lt_zero _)
    have e1 := ring_edge g hf (by omega) i
    have d1 := ring_edge g hf (by omega) (i + (rs f).length - 1)
    rw [show i + (rs f).length - 1 + 1 = i + (rs f).length by omega, gn_add] at d1
    have x1 := em.1 _ _ (Or.inl (by rw [e1.1]; omega)) e1.2
    have x2 := em.1 _ _ (Or.inl (by rw [d1.1]; omega)) d1.2
    have x3 := hc f hf hne
    rcases z with ⟨a1, a2⟩ | ⟨a1, a2⟩ | ⟨a1, a2⟩ | ⟨a1, a2⟩ <;> omega
  have lm : ∀ k, k ≤ fe → lenF rs k ≤ lenF rs fe := fun k hk => sumN_mono hk
  have key : ∀ d f M3 rs3 ow3 fl3, f + d = fe → (∀ k, iM M3 (A 22) k = iM M2 (A 22) k) → (∀ k, iM M3 (A 23) k = iM M2 (A 23) k) → SD A M3 B rs3 ow3 th2 ps2 (fe + lenF rs f) fl3 (pe + E + fl) (pl + E + fl) → Gd rs3 ow3 th2 ps2 (fe + lenF rs f) fl3 (pe + E + fl) (pl + E + fl) → (∀ u v, Hv rs3 u v ↔ (∃ k, f ≤ k ∧ k < 160 ∧ hvk (rs k) (rs k).length u v) ∨ ∃ k i, k < f ∧ i < (rs k).length ∧ qH rs mid cen k i u v) → (∀ k, f ≤ k → k < fe → rs3 k = rs k) → K (A 21) (nI fe) (nI f) M3 := by
    intro d
    induction d with
    | zero =>
      intro f M3 rs3 ow3 fl3 hd a22 a23 s3 g3 hv k3
      have : f = fe := by omega
      subst this
      exact hK _ _ _ _ ⟨fun _ => q M3 rs3 ow3 th2 ps2 _ fl3 s3 g3, fun z => absurd (nI_le (Nat.le_refl _) (by omega)) z⟩
    | succ d ih =>
      intro f M3 rs3 ow3 fl3 hd a22 a23 s3 g3 hv k3
      have hf160 : f < 160 := by omega
      have er : rs3 f = rs f := k3 f (Nat.le_refl _) (by omega)
      have ls : lenF rs (f + 1) = lenF rs f + (rs f).length := rfl
      have l1 := lm (f + 1) (by omega)
      have hS := s3.sh
      refine hK _ _ _ _ ⟨fun z => absurd z (nI_ge (by omega) (by omega)), fun _ => ⟨fun z => absurd z (show ¬ nI 160 ≤ nI f from nI_ge hf160 (by omega)), fun _ => ⟨hS.k 21, A 7, hS.r 21 1 7, hS.k 7, t_has s3.1 (fun f2 hf2 e2 ne => ⟨fun z => absurd z (by decide), fun _ => ?_⟩) (fun n => ⟨fun _ => ?_, fun z => absurd rfl z⟩)⟩⟩⟩
      · have : f = f2 := (nI_eq (by omega) (by omega)).mp e2
        subst this
        rw [er] at ne
        refine ⟨hS.k 21, A 7, hS.r 21 1 7, hS.k 7, t_ring s3.1 hf160 ⟨hS.k 21, A 23, hS.r 21 3 23, 160, hS.k 23, vp_in_nI hf160 (by omega), hS.k 21, ?_⟩⟩
        rw [nI_clamp (by omega), a23, (i2.1 f hf160 ne).2.2]
        refine a_quads g em hc hci hf160 ne rfl s3 g3 er (by omega) (by omega) hth (fun a b x y => by rw [a22]; exact mm2 a b x y) (fun i u v hi z => ?_) (fun M4 rs4 ow4 fl4 c4 s4 g4 hv4 k4 => ?_)
        · rw [hv]
          intro y
          rcases y with ⟨k, _, _, y⟩ | ⟨k, i', hk, hi', y⟩
          · have := nH k u v y
            have := nQ f i u v hf160 hi z
            omega
          · have := (quart_one g em hc hci hf160 (by omega) hi hi' z y).1
            omega
        · have er4 : rs4 f = rs f := by rw [k4 f (by omega)]; exact er
          have ne4 : rs4 f ≠ [] := by rw [er4]; exact ne
          obtain ⟨g5, hfl5⟩ := g4.drop hf160 ne4
          refine ⟨s4.sh.k 21, A 7, s4.sh.r 21 1 7, s4.sh.k 7, t_drop s4.1 s4.2.1 hf160 ne4 hfl5 (fun M5 c5 f5 n5 => ?_)⟩
          have s5 := s4.face c5 (fun i z => by omega) f5 n5
          rw [nI_1]
          have e9 : fe + lenF rs f + (rs f).length = fe + lenF rs (f + 1) := by rw [ls]; omega
          rw [e9] at s5 g5
          refine ih (f + 1) M5 _ _ _ (by omega) (fun k => ?_) (fun k => ?_) s5 g5 (fun u v => ?_) (fun k hk1 hk2 => ?_)
          · rw [c5.at s4.sh (by omega) (by omega), c4.at hS (by omega) (by omega)]; exact a22 k
          · rw [c5.at s4.sh (by omega) (by omega), c4.at hS (by omega) (by omega)]; exact a23 k
          · rw [Hv_up hf160, Hv_oth g4.1 hf160, hv4, hv, er4]
            constructor
            · intro z
              rcases z with ⟨i, hi, _⟩ | ⟨(⟨k, x1, x2, x3⟩ | x) | ⟨i, x1, x2⟩, n⟩
              · exact absurd hi (Nat.not_lt_zero _)
              · refine Or.inl ⟨k, ?_, x2, x3⟩
                refine Classical.byContradiction (fun y => n ?_)
                rw [show f = k by omega]
                exact x3
              · obtain ⟨k, i, y1, y2, y3⟩ := x
                exact Or.inr ⟨k, i, by omega, y2, y3⟩
              · exact Or.inr ⟨f, i, by omega, x1, x2⟩
            · intro z
              refine Or.inr ?_
              rcases z with ⟨k, x1, x2, x3⟩ | ⟨k, i, x1, x2, x3⟩
              · refine ⟨Or.inl (Or.inl ⟨k, by omega, x2, x3⟩), fun y => ?_⟩
                have z1 := (g.1.1 u v k).mpr ⟨x2, x3⟩
                have z2 := (g.1.1 u v f).mpr ⟨hf160, y⟩
                omega
              · have nn : ¬ hvk (rs f) (rs f).length u v := fun y => by
                  have := nH f u v y
                  have := nQ k i u v (by omega) x2 x3
                  omega
                refine ⟨?_, nn⟩
                by_cases y : k < f
                · exact Or.inl (Or.inr ⟨k, i, y, x2, x3⟩)
                · have : k = f := by omega
                  subst this
                  exact Or.inr ⟨i, x2, x3⟩
          · unfold upr
            rw [if_neg (by omega), k4 k (by omega)]
            exact k3 k (by omega) hk2
      · have e0 : rs f = [] := by rw [← er]; exact n f hf160 rfl
        rw [nI_1]
        have e9 : fe + lenF rs f = fe + lenF rs (f + 1) := by rw [ls, e0]; rfl
        rw [e9] at s3 g3
        refine ih (f + 1) M3 rs3 ow3 fl3 (by omega) a22 a23 s3 g3 (fun u v => ?_) (fun k hk1 hk2 => k3 k (by omega) hk2)
        rw [hv]
        have nf : ∀ i, ¬ i < (rs f).length := fun i => by rw [e0]; exact Nat.not_lt_zero _
        constructor
        · intro z
          rcases z with ⟨k, x1, x2, x3⟩ | ⟨k, i, x1, x2, x3⟩
          · refine Or.inl ⟨k, ?_, x2, x3⟩
            refine Classical.byContradiction (fun y => ?_)
            have : k = f := by omega
            subst this
            obtain ⟨i, hi, _⟩ := x3
            exact nf i hi
          · exact Or.inr ⟨k, i, by omega, x2, x3⟩
        · intro z
          rcases z with ⟨k, x1, x2, x3⟩ | ⟨k, i, x1, x2, x3⟩
          · exact Or.inl ⟨k, by omega, x2, x3⟩
          · refine Or.inr ⟨k, i, ?_, x2, x3⟩
            refine Classical.byContradiction (fun y => ?_)
            have : k = f := by omega
            subst this
            exact nf i x2
  have l0 : fe + lenF rs 0 = fe := rfl
  have := key fe 0 M2 rs ow fl (by omega) (fun _ => rfl) (fun _ => rfl) s2 g2 (fun u v => ⟨fun ⟨k, x1, x2⟩ => Or.inl ⟨k, Nat.zero_le _, x1, x2⟩, fun z => z.elim (fun ⟨k, _, x1, x2⟩ => ⟨k, x1, x2⟩) (fun ⟨k, i, x1, _⟩ => absurd x1 (Nat.not_lt_zero _))⟩) (fun k _ _ => rfl)
  rw [nI_0] at this
  exact this
theorem o_quarters {Q : Int32 → Mm → Prop} {X : String → Mm → Prop} (h : SD A M B rs ow th ps fe fl pe pl) (g : Gd rs ow th ps fe fl pe pl) (hc : 1 ≤ Cc) (hz : 6 ≤ Zz) (hX : ∀ E M', xE E → SD A M' B rs ow th ps fe fl pe pl → X E M') (q : ∀ M' rs' ow' th' ps' fe' fl' pe', SD A M' B rs' ow' th' ps' fe' fl' pe' (pl + eC rs ow fe + fl) → Gd rs' ow' th' ps' fe' fl' pe' (pl + eC rs ow fe + fl) → Q (nI fl') M') : T_X8_quarters Cc Zz M (A 0) Q X := by
  unfold T_X8_quarters
  have hE : eP ow = eC rs ow fe := (eC_eP (g.ok h.1) g.noloop h.2.1.2.2.1 (fun f hf _ => g.2.2.1 f hf)).symm
  have hle : eC rs ow fe ≤ fe * 12 := eC_le h.1 h.2.1.2.2.1
  have hll : lenF rs fe ≤ fe * 12 := sumN_le (fun k hk => h.1.len (by have := h.2.1.2.2.1; omega))
  have hfe := h.2.1.2.2.1
  have hfl := g.fl_le
  refine ⟨h.sh.k 0, A 21, h.sh.r 0 4 21, ⟨by omega, by omega⟩, h.sh.k 21, ?_⟩
  have bad : ∃ dc_5 ds_5 : Nat, (0 + dc_5 ≤ Cc ∧ 0 + ds_5 ≤ Zz) ∧ T_X8_needState dc_5 ds_5 M 0 (fun M_4 => kM M_4 (A 0) = (8, 8) ∧ ∃ a_6 : Nat, rM M_4 (A 0) 4 = some a_6 ∧ ((0 + dc_5) ≤ Cc ∧ (0 + ds_5) ≤ Zz) ∧ kM M_4 a_6 = (4, 5) ∧ T_X4_apply M_4 a_6 (fun M_8 => kM M_8 (A 0) = (8, 8) ∧ ∃ a_9 : Nat, rM M_8 (A 0) 1 = some a_9 ∧ ((0 + dc_5) ≤ Cc ∧ (0 + ds_5) ≤ Zz) ∧ kM M_8 a_9 = (1, 5) ∧ T_X1_left M_8 a_9 (fun r_10 => (0 + dc_5) ≤ Cc ∧ (0 + ds_5) ≤ Zz ∧ Q r_10 M_8))) X := ⟨1, 6, ⟨by omega, by omega⟩, n_stt (by omega) (by omega) (fun z => absurd rfl z) (fun _ => hX _ _ (Or.inr (Or.inr rfl)) h)⟩
  unfold T_X4_fits
  refine ⟨h.sh.k 21, A 1, h.sh.r 21 0 1, h.sh.k 21, A 7, h.sh.r 21 1 7, h.sh.k 7, t_edgeCount h.1 h.2.1 ⟨h.sh.k 21, A 7, h.sh.r 21 1 7, h.sh.k 7, t_fleft h ⟨h.sh.k 1, ?_⟩⟩⟩
  rw [nI_add]
  refine t_phasRoom h.2.2.1 h.2.2.2.1 (by omega) (fun r1 => ⟨fun z => absurd z (by decide), fun _ => ?_⟩) (fun _ => ⟨fun _ => bad, fun z => absurd rfl z⟩)
  refine ⟨h.sh.k 21, A 7, h.sh.r 21 1 7, h.sh.k 21, A 7, h.sh.r 21 1 7, h.sh.k 7, t_halfCount h.1 h.2.1 ⟨h.sh.k 7, t_room h (by omega) (fun r2 => ⟨fun z => absurd z (by decide), fun _ => ?_⟩) (fun _ => ⟨fun _ => bad, fun z => absurd rfl z⟩)⟩⟩
  refine ⟨1, 6, ⟨by omega, by omega⟩, n_stt (by omega) (by omega) (fun _ => ?_) (fun z => absurd z (by decide))⟩
  refine ⟨h.sh.k 0, A 21, h.sh.r 0 4 21, ⟨by omega, by omega⟩, h.sh.k 21, t_qapply h g hE r1 r2 (fun M2 rs2 ow2 th2 ps2 fe2 fl2 s2 g2 => ?_)⟩
  exact ⟨s2.sh.k 0, A 7, s2.sh.r 0 1 7, ⟨by omega, by omega⟩, s2.sh.k 7, t_fleft s2 ⟨by omega, by omega, q M2 rs2 ow2 th2 ps2 fe2 fl2 _ s2 g2⟩⟩
end
