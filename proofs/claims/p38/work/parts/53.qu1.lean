section
variable {A : Nat → Nat} {M M' : Mm} {B : Nat} {rs rs2 : Nat → List Nat} {ow ow2 : Nat → Nat → Nat} {th : Nat → Bool} {ps : Nat → Nat → Int32} {fe fl pe pl : Nat} {Cc Zz : Nat}
theorem t_centre {f ax : Nat} {Q : Int32 → Prop} (h : SD A M B rs ow th ps fe fl pe pl) (g : Gd rs ow th ps fe fl pe pl) (hf : f < 160) (hne : rs f ≠ []) (hax : ax < 3) (q : ∀ v, nr v → Q v) : T_X3_centre M (A 1) (A (64 + 2 * f)) (nI ax) Q := by
  unfold T_X3_centre
  intro K hK
  have hr := h.1.2.1 f hf
  have hl := h.1.len hf
  have h3 := (g.2.1 f).resolve_left hne
  have hn0 : ¬ nI (rs f).length = 0 := fun z => by
    have := (nI_eq (a := (rs f).length) (b := 0) (by omega) (by omega)).mp (by rw [nI_0]; exact z)
    omega
  have key : ∀ d i (s : Int32), i + d = (rs f).length → -(500 * (i : Int)) ≤ s.toInt → s.toInt ≤ 500 * (i : Int) → K (A 1) (A (64 + 2 * f)) (nI ax) (nI (rs f).length) s (nI i) := by
    intro d
    induction d with
    | zero =>
      intro i s hi b1 b2
      have : i = (rs f).length := by omega
      subst this
      refine hK _ _ _ _ _ _ ⟨fun _ => ⟨hn0, q _ ?_⟩, fun z => absurd (nI_le (Nat.le_refl _) (by omega)) z⟩
      have tn : (nI (rs f).length).toInt = ((rs f).length : Int) := Int32.toInt_ofNat_of_lt (by omega)
      rw [nr_iff, Int32.toInt_div_of_ne_right s _ (fun z => nI_ne1 (by omega) z), tn]
      exact tdiv_in (by omega) b1 b2
    | succ d ih =>
      intro i s hi b1 b2
      have hp := g.2.2.2.2.2.2.1 f _ (gn_mem (xs := rs f) (p := i) (by omega))
      have rk := (nr_iff _).mp (g.2.2.2.2.2.2.2 ax _ hax hp)
      refine hK _ _ _ _ _ _ ⟨fun z => absurd z (nI_ge (by omega) (by omega)), fun _ => ⟨hr.1, t_gt hr (by omega) ?_⟩⟩
      rw [gt_map (by omega)]
      refine ⟨h.sh.k 1, t_pget h.2.2.1 (g.lt h hp) hax ?_⟩
      rw [nI_1]
      have ts : (s + ps ax (gn (rs f) i)).toInt = s.toInt + (ps ax (gn (rs f) i)).toInt := k32_add (by omega) (by omega)
      refine ih (i + 1) _ (by omega) ?_ ?_
      · rw [ts]; omega
      · rw [ts]; omega
  refine ⟨hr.1, t_length hr ?_⟩
  rw [List.length_map]
  refine ⟨fun _ => ?_, fun z => absurd z hn0⟩
  have := key (rs f).length 0 0 (by omega) (by decide) (by decide)
  rw [nI_0] at this
  exact this
theorem a_addCentre {f : Nat} {Q : Int32 → Mm → Prop} (h : SD A M B rs ow th ps fe fl pe pl) (g : Gd rs ow th ps fe fl pe pl) (hf : f < 160) (hne : rs f ≠ []) (hp : pe < 100) (q : ∀ M' x y z, Ch (In A (fun l => l = 1 ∨ l = 3 ∨ l = 4 ∨ l = 5 ∨ l = 6)) M M' → SD A M' B rs ow (upB th pe true) (upP ps pe x y z) fe fl (pe + 1) (pl + 1) → Gd rs ow (upB th pe true) (upP ps pe x y z) fe fl (pe + 1) (pl + 1) → Q (nI pe) M') : T_X3_addCentre M (A 1) (A (64 + 2 * f)) Q := by
  unfold T_X3_addCentre
  have hpl := g.pl_le
  exact ⟨h.sh.k 1, t_centre (ax := 0) h g hf hne (by omega) (fun x hx => ⟨h.sh.k 1, t_centre (ax := 1) h g hf hne (by omega) (fun y hy => ⟨h.sh.k 1, t_centre (ax := 2) h g hf hne (by omega) (fun z hz => ⟨h.sh.k 1, t_padd h.2.2.1 h.2.2.2.1 (by omega) (by omega) (fun M2 c2 p2 n2 => q M2 x y z c2 (h.point c2 (fun i w => w) p2 n2) (g.pt hp ⟨hx, hy, hz⟩))⟩)⟩)⟩)⟩
def edg (ow : Nat → Nat → Nat) (x y : Nat) : Prop := ow x y ≠ 0 ∨ ow y x ≠ 0
/-- the middles of the edges of P: numbers from p on, c of them -/
def MidI (A : Nat → Nat) (M : Mm) (p c : Nat) (P : Nat → Nat → Prop) (mid : Nat → Nat → Nat) : Prop :=
  (∀ x y, P x y → p ≤ mid x y ∧ mid x y < p + c ∧ mid y x = mid x y ∧ iM M (A 22) (x * 100 + y) = nI (mid x y) ∧ iM M (A 22) (y * 100 + x) = nI (mid x y)) ∧ ∀ x y x2 y2, P x y → P x2 y2 → mid x y = mid x2 y2 → x = x2 ∧ y = y2
def eRow (ow : Nat → Nat → Nat) (a k : Nat) : Nat := sumN (fun b => if a < b ∧ (ow a b ≠ 0 ∨ ow b a ≠ 0) then 1 else 0) k
def eAll (ow : Nat → Nat → Nat) (k : Nat) : Nat := sumN (fun a => eRow ow a 100) k
theorem eAll_eP (ow : Nat → Nat → Nat) : eAll ow 100 = eP ow := rfl
theorem eRow_low {a : Nat} : ∀ k, k ≤ a + 1 → eRow ow a k = 0 := by
  intro k
  induction k with
  | zero => intro _; rfl
  | succ k ih =>
    intro hk
    show eRow ow a k + (if a < k ∧ (ow a k ≠ 0 ∨ ow k a ≠ 0) then 1 else 0) = 0
    rw [ih (by omega), if_neg (by omega)]
theorem a_middles {E : Nat} {Q : Mm → Prop} (h : SD A M B rs ow th ps fe fl pe pl) (g : Gd rs ow th ps fe fl pe pl) (hE : eP ow = E) (hroom : pe + E ≤ 100) (q : ∀ M' th' ps' mid, SD A M' B rs ow th' ps' fe fl (pe + E) (pl + E) → Gd rs ow th' ps' fe fl (pe + E) (pl + E) → (∀ p, th p = true → th' p = true) → (∀ j, j < E → th' (pe + j) = true) → MidI A M' pe E (fun x y => x < y ∧ edg ow x y) mid → Q M') : T_X4_addMiddles M (A 21) Q := by
  unfold T_X4_addMiddles
  intro K2 K12 h2 h12
  have e100 : (100 : Int32) = nI 100 := rfl
  have mono : ∀ a, a ≤ 100 → eAll ow a ≤ E := fun a ha => by
    rw [← hE, ← eAll_eP]
    exact sumN_mono ha
  have mono2 : ∀ a k, a < 100 → k ≤ 100 → eAll ow a + eRow ow a k ≤ E := fun a k ha hk => by
    have h1 : eRow ow a k ≤ eRow ow a 100 := sumN_mono hk
    have h2 : eAll ow (a + 1) = eAll ow a + eRow ow a 100 := rfl
    have := mono (a + 1) (by omega)
    omega
  let St := fun (M2 : Mm) (c : Nat) (P : Nat → Nat → Prop) => ∃ th2 ps2 mid, SD A M2 B rs ow th2 ps2 fe fl (pe + c) (pl + c) ∧ Gd rs ow th2 ps2 fe fl (pe + c) (pl + c) ∧ (∀ p, th p = true → th2 p = true) ∧ (∀ j, j < c → th2 (pe + j) = true) ∧ MidI A M2 pe c P mid
  have key : ∀ d a M2, a + d = 100 → St M2 (eAll ow a) (fun x y => x < y ∧ edg ow x y ∧ x < a) → K2 (A 21) (nI a) M2 := by
    intro d
    induction d with
    | zero =>
      intro a M2 ha ⟨th2, ps2, mid, s2, g2, m2, t2, i2⟩
      have : a = 100 := by omega
      subst this
      rw [eAll_eP, hE] at s2 g2 t2 i2
      refine h2 _ _ _ ⟨fun _ => q M2 th2 ps2 mid s2 g2 m2 t2 ⟨fun x y hxy => i2.1 x y ⟨hxy.1, hxy.2, ?_⟩, fun x y x2 y2 p1 p2 => i2.2 x y x2 y2 ⟨p1.1, p1.2, ?_⟩ ⟨p2.1, p2.2, ?_⟩⟩, fun z => absurd (by decide) z⟩
      · rcases hxy.2 with z | z
        · exact g.lt h (g.half z).1
        · exact g.lt h (g.half z).2.1
      · rcases p1.2 with z | z
        · exact g.lt h (g.half z).1
        · exact g.lt h (g.half z).2.1
      · rcases p2.2 with z | z
        · exact g.lt h (g.half z).1
        · exact g.lt h (g.half z).2.1
    | succ d ih =>
      intro a M2 ha st
      have haL : a < 100 := by omega
      have inner : ∀ d2 b M3, b + d2 = 100 → a < b → St M3 (eAll ow a + eRow ow a b) (fun x y => x < y ∧ edg ow x y ∧ (x < a ∨ (x = a ∧ y < b))) → K12 (A 21) (nI a) (nI b) M3 := by
        intro d2
        induction d2 with
        | zero =>
          intro b M3 hb hab ⟨th2, ps2, mid, s2, g2, m2, t2, i2⟩
          have : b = 100 := by omega
          subst this
          have e1 : eAll ow (a + 1) = eAll ow a + eRow ow a 100 := rfl
          refine h12 _ _ _ _ ⟨fun _ => ?_, fun z => absurd (by decide) z⟩
          rw [nI_1]
          refine ih (a + 1) M3 (by omega) ⟨th2, ps2, mid, by rw [e1]; exact s2, by rw [e1]; exact g2, m2, by rw [e1]; exact t2, ?_⟩
          rw [e1]
          have lt : ∀ x y, edg ow x y → y < 100 := fun x y z => by
            rcases z with z | z
            · exact g.lt h (g.half z).2.1
            · exact g.lt h (g.half z).1
          have cv : ∀ x y, (x < y ∧ edg ow x y ∧ x < a + 1) → (x < y ∧ edg ow x y ∧ (x < a ∨ (x = a ∧ y < 100))) := fun x y z => ⟨z.1, z.2.1, by have := lt x y z.2.1; omega⟩
          exact ⟨fun x y z => i2.1 x y (cv x y z), fun x y x2 y2 p1 p2 => i2.2 x y x2 y2 (cv x y p1) (cv x2 y2 p2)⟩
        | succ d2 ih2 =>
          intro b M3 hb hab ⟨th2, ps2, mid, s2, g2, m2, t2, i2⟩
          have hbL : b < 100 := by omega
          have er : eRow ow a (b + 1) = eRow ow a b + (if a < b ∧ (ow a b ≠ 0 ∨ ow b a ≠ 0) then 1 else 0) := rfl
          refine h12 _ _ _ _ ⟨fun z => absurd z (by rw [e100]; exact nI_ge hbL (by omega)), fun _ => ⟨s2.sh.k 21, A 7, s2.sh.r 21 1 7, s2.sh.k 7, t_isEdge s2.1 haL hbL (fun he => ⟨fun z => absurd z (by decide), fun _ => ?_⟩) (fun z1 z2 => ⟨fun _ => ?_, fun z => absurd rfl z⟩)⟩⟩
          · have mx := mono2 a (b + 1) haL (by omega)
            rw [er, if_pos ⟨hab, he⟩] at mx
            have hpl := g2.pl_le
            have tab : th a = true ∧ th b = true := by
              rcases he with z | z
              · exact ⟨(g.half z).1, (g.half z).2.1⟩
              · exact ⟨(g.half z).2.1, (g.half z).1⟩
            have nn := g2.2.2.2.2.2.2.2
            refine ⟨s2.sh.k 21, A 1, s2.sh.r 21 0 1, s2.sh.k 1, t_addMiddle s2.2.2.1 s2.2.2.2.1 (by omega) (by omega) haL hbL (fun M4 c4 p4 n4 => ?_)⟩
            have s4 := s2.point c4 (fun i z => z) p4 n4
            have g4 := g2.pt (x := (ps2 0 a + ps2 0 b) / 2) (y := (ps2 1 a + ps2 1 b) / 2) (z := (ps2 2 a + ps2 2 b) / 2) (by omega) ⟨nr_mid (nn 0 a (by omega) (m2 a tab.1)) (nn 0 b (by omega) (m2 b tab.2)), nr_mid (nn 1 a (by omega) (m2 a tab.1)) (nn 1 b (by omega) (m2 b tab.2)), nr_mid (nn 2 a (by omega) (m2 a tab.1)) (nn 2 b (by omega) (m2 b tab.2))⟩
            have ia : nI a * 100 + nI b = nI (a * 100 + b) := by rw [e100, nI_mulx, nI_add]
            have ib : nI b * 100 + nI a = nI (b * 100 + a) := by rw [e100, nI_mulx, nI_add]
            rw [ia, ib, nI_clamp (by omega), nI_clamp (by omega)]
            have c5 : Ch (In A (fun l => l = 22)) M4 (wI M4 (A 22) (a * 100 + b) (nI (pe + (eAll ow a + eRow ow a b)))) := Ch.one (by omega)
            have s5h := s4.sh.go c5
            refine ⟨s4.sh.k 21, A 22, s4.sh.r 21 2 22, 10000, s4.sh.k 22, vp_in_nI (by omega) (by omega), s5h.k 21, A 22, s5h.r 21 2 22, 10000, s5h.k 22, vp_in_nI (by omega) (by omega), ?_⟩
            have c6 : Ch (In A (fun l => l = 22)) M4 (wI (wI M4 (A 22) (a * 100 + b) (nI (pe + (eAll ow a + eRow ow a b)))) (A 22) (b * 100 + a) (nI (pe + (eAll ow a + eRow ow a b)))) := c5.t (Ch.one (by omega))
            have s6 := s4.go c6 (fun i z => by omega) (s4.2.2.2.2.go s4.sh c6 (fun i z => by omega))
            have i4 : ∀ k, iM M4 (A 22) k = iM M3 (A 22) k := fun k => c4.at s2.sh (by omega) (by omega) k
            rw [nI_1]
            refine ih2 (b + 1) _ (by omega) (by omega) ⟨upB th2 (pe + (eAll ow a + eRow ow a b)) true, upP ps2 (pe + (eAll ow a + eRow ow a b)) ((ps2 0 a + ps2 0 b) / 2) ((ps2 1 a + ps2 1 b) / 2) ((ps2 2 a + ps2 2 b) / 2), fun x y => if (x = a ∧ y = b) ∨ (x = b ∧ y = a) then pe + (eAll ow a + eRow ow a b) else mid x y, ?_, ?_, fun p hp => up_th (m2 p hp), fun j hj => ?_, ?_⟩
            · rw [er, if_pos ⟨hab, he⟩]
              exact s6
            · rw [er, if_pos ⟨hab, he⟩]
              exact g4
            · rw [er, if_pos ⟨hab, he⟩] at hj
              by_cases w : j < eAll ow a + eRow ow a b
              · exact up_th (t2 j w)
              · rw [show j = eAll ow a + eRow ow a b by omega]
                exact up_me
            · rw [er, if_pos ⟨hab, he⟩]
              have ltx : ∀ x y, edg ow x y → x < 100 ∧ y < 100 := fun x y z => by
                rcases z with z | z
                · exact ⟨g.lt h (g.half z).1, g.lt h (g.half z).2.1⟩
                · exact ⟨g.lt h (g.half z).2.1, g.lt h (g.half z).1⟩
              have old : ∀ x y, (x < y ∧ edg ow x y ∧ (x < a ∨ (x = a ∧ y < b + 1))) → ¬ (x = a ∧ y = b) → (x < y ∧ edg ow x y ∧ (x < a ∨ (x = a ∧ y < b))) := fun x y z n => ⟨z.1, z.2.1, by omega⟩
              refine ⟨fun x y z => ?_, fun x y x2 y2 p1 p2 e => ?_⟩
              · by_cases n : x = a ∧ y = b
                · obtain ⟨rfl, rfl⟩ := n
                  dsimp only
                  rw [if_pos (Or.inl ⟨rfl, rfl⟩), if_pos (Or.inr ⟨rfl, rfl⟩)]
                  refine ⟨by omega, by omega, rfl, ?_, ?_⟩
                  · rw [iM_wI, if_neg (fun w => by omega), iM_wI, if_pos ⟨rfl, rfl⟩]
                  · rw [iM_wI, if_pos ⟨rfl, rfl⟩]
                · have o := old x y z n
                  obtain ⟨j1, j2, j3, j4, j5⟩ := i2.1 x y o
                  have lx := ltx x y z.2.1
                  have n1 : ¬ ((x = a ∧ y = b) ∨ (x = b ∧ y = a)) := by have := z.1; omega
                  have n2 : ¬ ((y = a ∧ x = b) ∨ (y = b ∧ x = a)) := by have := z.1; omega
                  dsimp only
                  rw [if_neg n1, if_neg n2]
                  refine ⟨j1, by omega, j3, ?_, ?_⟩
                  · rw [iM_wI, if_neg (fun w => by omega), iM_wI, if_neg (fun w => by omega), i4]
                    exact j4
                  · rw [iM_wI, if_neg (fun w => by omega), iM_wI, if_neg (fun w => by omega), i4]
                    exact j5
              · by_cases n : x = a ∧ y = b
                · by_cases n2 : x2 = a ∧ y2 = b
                  · omega
                  · have e : (if (x = a ∧ y = b) ∨ (x = b ∧ y = a) then pe + (eAll ow a + eRow ow a b) else mid x y) = if (x2 = a ∧ y2 = b) ∨ (x2 = b ∧ y2 = a) then pe + (eAll ow a + eRow ow a b) else mid x2 y2 := e
                    rw [if_pos (Or.inl n), if_neg (by omega)] at e
                    have := (i2.1 x2 y2 (old x2 y2 p2 n2)).2.1
                    omega
                · have e : (if (x = a ∧ y = b) ∨ (x = b ∧ y = a) then pe + (eAll ow a + eRow ow a b) else mid x y) = if (x2 = a ∧ y2 = b) ∨ (x2 = b ∧ y2 = a) then pe + (eAll ow a + eRow ow a b) else mid x2 y2 := e
                  rw [if_neg (by omega)] at e
                  by_cases n2 : x2 = a ∧ y2 = b
                  · rw [if_pos (Or.inl n2)] at e
                    have := (i2.1 x y (old x y p1 n)).2.1
                    omega
                  · rw [if_neg (by omega)] at e
                    exact i2.2 x y x2 y2 (old x y p1 n) (old x2 y2 p2 n2) e
          · have er0 : eRow ow a (b + 1) = eRow ow a b := by
              rw [er, if_neg (by omega)]
              rfl
            rw [nI_1]
            refine ih2 (b + 1) M3 (by omega) (by omega) ⟨th2, ps2, mid, by rw [er0]; exact s2, by rw [er0]; exact g2, m2, by rw [er0]; exact t2, ?_⟩
            rw [er0]
            have cv : ∀ x y, (x < y ∧ edg ow x y ∧ (x < a ∨ (x = a ∧ y < b + 1))) → (x < y ∧ edg ow x y ∧ (x < a ∨ (x = a ∧ y < b))) := fun x y z => ⟨z.1, z.2.1, by
              rcases z.2.2 with w | ⟨w1, w2⟩
              · exact Or.inl w
              · refine Or.inr ⟨w1, Classical.byContradiction (fun n => ?_)⟩
                have : y = b := by omega
                subst this
                subst w1
                rcases z.2.1 with v | v
                · exact v z1
                · exact v z2⟩
            exact ⟨fun x y z => i2.1 x y (cv x y z), fun x y x2 y2 p1 p2 => i2.2 x y x2 y2 (cv x y p1) (cv x2 y2 p2)⟩
      refine h2 _ _ _ ⟨fun z => absurd z (by rw [e100]; exact nI_ge haL (by omega)), fun _ => ?_⟩
      rw [nI_1]
      have e0 := eRow_low (ow := ow) (a := a) (a + 1) (Nat.le_refl _)
      obtain ⟨th2, ps2, mid, s2, g2, m2, t2, i2⟩ := st
      refine inner (99 - a) (a + 1) M2 (by omega) (by omega) ⟨th2, ps2, mid, by rw [e0]; exact s2, by rw [e0]; exact g2, m2, by rw [e0]; exact t2, ?_⟩
      rw [e0]
      have cv : ∀ x y, (x < y ∧ edg ow x y ∧ (x < a ∨ (x = a ∧ y < a + 1))) → (x < y ∧ edg ow x y ∧ x < a) := fun x y z => ⟨z.1, z.2.1, by omega⟩
      exact ⟨fun x y z => i2.1 x y (cv x y z), fun x y x2 y2 p1 p2 => i2.2 x y x2 y2 (cv x y p1) (cv x2 y2 p2)⟩
  have := key 100 0 M (by omega) ⟨th, ps, fun _ _ => 0, h, g, fun p e => e, fun j hj => absurd hj (Nat.not_lt_zero _), fun x y z => absurd z.2.2 (Nat.not_lt_zero _), fun x y x2 y2 z => absurd z.2.2 (Nat.not_lt_zero _)⟩
  rw [nI_0] at this
  exact this
end
