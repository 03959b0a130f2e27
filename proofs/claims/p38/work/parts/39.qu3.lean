section
variable {A : Nat → Nat} {M M' : Mm} {B : Nat} {rs rs2 : Nat → List Nat} {ow ow2 : Nat → Nat → Nat} {th th2 : Nat → Bool} {ps ps2 : Nat → Nat → Int32} {fe fl pe pl fe2 fl2 pe2 pl2 : Nat} {Cc Zz : Nat}
theorem t_prev {o w i : Nat} {xs : List Nat} {Q : Int32 → Prop} (h : RG M o w (xs.map nI)) (hi : i < xs.length) (q : Q (nI (gn xs (i + xs.length - 1)))) : T_X5_get M o (nI i - 1) Q := by
  have hl := h.2.2.2.2.1
  rw [List.length_map] at hl
  cases i with
  | zero =>
    rw [show nI 0 - 1 = -(nI 1) by decide]
    refine t_gtN h (by rw [List.length_map]; omega) ?_
    rw [List.length_map, gt_map (by omega), show xs.length - 1 = 0 + xs.length - 1 by omega]
    exact q
  | succ i =>
    rw [show nI (i + 1) - 1 = nI i from nI_pred i]
    refine t_gt h (by omega) ?_
    rw [gt_map (by omega), ← gn_add xs i, show i + xs.length = i + 1 + xs.length - 1 by omega]
    exact q
/-- the quarters of one face -/
theorem a_quads {f E F c : Nat} {mid : Nat → Nat → Nat} {cen : Nat → Nat} {Q : Mm → Prop} (g : Gd rs ow th ps fe fl pe pl) (hm : EM ow pe E mid) (hc : ∀ f, f < 160 → rs f ≠ [] → pe + E ≤ cen f ∧ cen f < pe + E + F) (hci : ∀ f f2, f < 160 → f2 < 160 → rs f ≠ [] → rs f2 ≠ [] → cen f = cen f2 → f = f2)
    (hf : f < 160) (hne : rs f ≠ []) (hcf : cen f = c)
    (h : SD A M B rs2 ow2 th2 ps2 fe2 fl2 pe2 pl2) (g2 : Gd rs2 ow2 th2 ps2 fe2 fl2 pe2 pl2) (e2 : rs2 f = rs f) (hroom : fe2 + (rs f).length ≤ 160) (hbig : pe + E + F ≤ 100) (hth : ∀ p, p < pe + E + F → (th p = true ∨ pe ≤ p) → th2 p = true)
    (hmm : ∀ a b, edg ow a b → a ≠ b → iM M (A 22) (a * 100 + b) = nI (mid a b)) (hfree : ∀ i u v, i < (rs f).length → qH rs mid cen f i u v → ¬ Hv rs2 u v)
    (q : ∀ M' rs3 ow3 fl3, Ch (In A (fun l => l = 7 ∨ l = 11 ∨ l = 24 ∨ l = 25 ∨ 64 ≤ l)) M M' → SD A M' B rs3 ow3 th2 ps2 (fe2 + (rs f).length) fl3 pe2 pl2 → Gd rs3 ow3 th2 ps2 (fe2 + (rs f).length) fl3 pe2 pl2 → (∀ u v, Hv rs3 u v ↔ Hv rs2 u v ∨ ∃ i, i < (rs f).length ∧ qH rs mid cen f i u v) → (∀ k, k < fe2 → rs3 k = rs2 k) → Q M') : T_X4_addQuarters M (A 21) (A (64 + 2 * f)) (nI c) Q := by
  unfold T_X4_addQuarters
  intro K hK
  have h3 := (g.2.1 f).resolve_left hne
  have h12 : (rs f).length ≤ 12 := by rw [← e2]; exact h.1.len hf
  have hlt : f < fe2 := Classical.byContradiction (fun z => hne (by rw [← e2]; exact g2.2.2.1 f (by omega)))
  have old : ∀ p, gn (rs f) p < pe := fun p => by
    have := g.2.2.2.2.2.2.1 f _ (gn_mem (p := p) (by omega))
    refine Classical.byContradiction (fun y => ?_)
    rw [g.2.2.2.2.2.1 _ (by omega)] at this
    cases this
  have oth : ∀ p, th (gn (rs f) p) = true := fun p => g.2.2.2.2.2.2.1 f _ (gn_mem (by omega))
  have key : ∀ d i M2 rs3 ow3 fl3, i + d = (rs f).length → Ch (In A (fun l => l = 7 ∨ l = 11 ∨ l = 24 ∨ l = 25 ∨ 64 ≤ l)) M M2 → SD A M2 B rs3 ow3 th2 ps2 (fe2 + i) fl3 pe2 pl2 → Gd rs3 ow3 th2 ps2 (fe2 + i) fl3 pe2 pl2 → (∀ u v, Hv rs3 u v ↔ Hv rs2 u v ∨ ∃ i', i' < i ∧ qH rs mid cen f i' u v) → (∀ k, k < fe2 → rs3 k = rs2 k) → K (A 21) (A (64 + 2 * f)) (nI c) (nI i) M2 := by
    intro d
    induction d with
    | zero =>
      intro i M2 rs3 ow3 fl3 hi c2 s2 g3 hv k3
      have : i = (rs f).length := by omega
      subst this
      have er : rs3 f = rs f := by rw [k3 f hlt, e2]
      have hr := s2.1.2.1 f hf
      rw [er] at hr
      refine hK _ _ _ _ _ ⟨hr.1, t_length hr ?_⟩
      rw [List.length_map]
      exact ⟨fun _ => q M2 rs3 ow3 fl3 c2 s2 g3 hv k3, fun z => absurd (nI_le (Nat.le_refl _) (by omega)) z⟩
    | succ d ih =>
      intro i M2 rs3 ow3 fl3 hi c2 s2 g3 hv k3
      have hin : i < (rs f).length := by omega
      have er : rs3 f = rs f := by rw [k3 f hlt, e2]
      have hr := s2.1.2.1 f hf
      rw [er] at hr
      have hS := s2.sh
      have e1 := ring_edge g hf (by omega) i
      have d1 := ring_edge g hf (by omega) (i + (rs f).length - 1)
      rw [show i + (rs f).length - 1 + 1 = i + (rs f).length by omega, gn_add] at d1
      have ed1 : edg ow (gn (rs f) i) (gn (rs f) (i + 1)) := Or.inl (by rw [e1.1]; omega)
      have ed2 : edg ow (gn (rs f) (i + (rs f).length - 1)) (gn (rs f) i) := Or.inl (by rw [d1.1]; omega)
      have m1 := hm.1 _ _ ed1 e1.2
      have m2 := hm.1 _ _ ed2 d1.2
      have cc := hc f hf hne
      have o1 := old i
      have o2 := old (i + 1)
      have o3 := old (i + (rs f).length - 1)
      have mv : ∀ a b, edg ow a b → a ≠ b → a < 100 → b < 100 → iM M2 (A 22) (a * 100 + b) = nI (mid a b) := fun a b x y _ _ => by
        rw [c2.at h.sh (by omega) (by omega)]
        exact hmm a b x y
      refine hK _ _ _ _ _ ⟨hr.1, t_length hr ?_⟩
      rw [List.length_map]
      refine ⟨fun z => absurd z (nI_ge hin (by omega)), fun _ => ⟨hr.1, t_gt hr (by omega) ?_⟩⟩
      rw [gt_map (by omega)]
      refine ⟨hS.k 21, A 24, hS.r 21 4 24, hr.1, ?_⟩
      rw [nI_1]
      refine t_gt hr (by omega) ?_
      rw [gt_map (by omega)]
      refine ⟨hS.k 21, t_middle hS (by omega) (by omega) (mv _ _ ed1 e1.2 (by omega) (by omega)) ⟨hr.1, t_prev hr hin ⟨hS.k 21, t_middle hS (by omega) (by omega) (mv _ _ ed2 d1.2 (by omega) (by omega)) ?_⟩⟩⟩
      obtain ⟨zs, hzr⟩ := s2.2.2.2.2.2 24 (Or.inr (Or.inr (Or.inr rfl)))
      refine ⟨hS.k 24, t_set4 hzr (fun M3 c3 r3 => ?_)⟩
      rw [if_neg (nI_ne1 (by omega))] at r3
      have r3' : RG M3 (A 24) (A (24 + 1)) ([gn (rs f) i, mid (gn (rs f) i) (gn (rs f) (i + 1)), c, mid (gn (rs f) (i + (rs f).length - 1)) (gn (rs f) i)].map nI) := r3
      have c3' := c3.two (A := A) (by omega) (by omega)
      have s3 : SD A M3 B rs3 ow3 th2 ps2 (fe2 + i) fl3 pe2 pl2 := s2.go c3' (fun i z => by omega) (s2.2.2.2.2.rg hS c3' (Or.inr (Or.inr (Or.inr rfl))) (fun i z => z) r3)
      have quads : ∀ u v, hvk [gn (rs f) i, mid (gn (rs f) i) (gn (rs f) (i + 1)), c, mid (gn (rs f) (i + (rs f).length - 1)) (gn (rs f) i)] [gn (rs f) i, mid (gn (rs f) i) (gn (rs f) (i + 1)), c, mid (gn (rs f) (i + (rs f).length - 1)) (gn (rs f) i)].length u v ↔ qH rs mid cen f i u v := fun u v => by
        rw [four_hv]
        unfold qH
        rw [hcf]
      have md : mid (gn (rs f) i) (gn (rs f) (i + 1)) ≠ mid (gn (rs f) (i + (rs f).length - 1)) (gn (rs f) i) := fun z => by
        rcases hm.2 _ _ _ _ ed1 ed2 e1.2 d1.2 z with ⟨_, y⟩ | ⟨_, y⟩
        · exact e1.2 y.symm
        · have := gn_off g.1 hf (s := i) (i := 1) (j := (rs f).length - 1) (by omega) (by omega) (by rw [show i + ((rs f).length - 1) = i + (rs f).length - 1 by omega]; exact y)
          omega
      refine ⟨s3.sh.k 21, A 7, s3.sh.r 21 1 7, s3.sh.k 21, A 24, s3.sh.r 21 4 24, s3.sh.k 7, o_addF s3 g3 (Or.inr (Or.inr rfl)) r3' (by omega) (by decide) (four_dist (by omega)) (fun u v z => ?_) (fun x hx => ?_) (fun M4 c4 s4 g4 => ?_)⟩
      · rw [g3.zero, hv]
        have zq := (quads u v).mp z
        intro y
        rcases y with y | ⟨i', hi', y⟩
        · exact hfree i u v hin zq y
        · have := (quart_one g hm hc hci hf hf hin (by omega) zq y).2
          omega
      · simp only [List.mem_cons, List.not_mem_nil, or_false] at hx
        rcases hx with rfl | rfl | rfl | rfl
        · exact hth _ (by omega) (Or.inl (oth i))
        · exact hth _ (by omega) (Or.inr (by omega))
        · exact hth _ (by omega) (Or.inr (by omega))
        · exact hth _ (by omega) (Or.inr (by omega))
      · rw [nI_1]
        refine ih (i + 1) M4 _ _ _ (by omega) ((c2.t (c3'.wide (fun l z => by omega))).t (c4.wide (fun l z => by omega))) s4 g4 (fun u v => ?_) (fun k hk => ?_)
        · rw [add_hv g3 (by omega), quads, hv]
          constructor
          · intro z
            rcases z with z | z | ⟨i', hi', z⟩
            · exact Or.inr ⟨i, by omega, z⟩
            · exact Or.inl z
            · exact Or.inr ⟨i', by omega, z⟩
          · intro z
            rcases z with z | ⟨i', hi', z⟩
            · exact Or.inr (Or.inl z)
            · by_cases y : i' < i
              · exact Or.inr (Or.inr ⟨i', y, z⟩)
              · rw [show i' = i by omega] at z
                exact Or.inl z
        · unfold upr
          rw [if_neg (by omega)]
          exact k3 k hk
  have := key (rs f).length 0 M rs2 ow2 fl2 (by omega) Ch.rf h g2 (fun u v => ⟨Or.inl, fun z => z.elim id (fun ⟨i, hi, _⟩ => absurd hi (Nat.not_lt_zero _))⟩) (fun k _ => rfl)
  rw [nI_0] at this
  exact this
end
