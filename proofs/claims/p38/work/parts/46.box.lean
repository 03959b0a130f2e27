section
def bxN (i : Nat) : Nat := (boxL.getD i 0).toNatClampNeg
theorem bx_at {i : Nat} (hi : i < 24) : boxL.getD i 0 = nI (bxN i) ∧ bxN i < 8 := by
  have : ∀ i : Fin 24, boxL.getD i.val 0 = nI (bxN i.val) ∧ bxN i.val < 8 := by decide
  exact this ⟨i, hi⟩
/-- the box's halves -/
def bxU (j : Nat) : Nat := bxN j
def bxV (j : Nat) : Nat := bxN (4 * (j / 4) + (j + 1) % 4)
theorem bx_one {i j : Nat} (hi : i < 24) (hj : j < 24) (e1 : bxU i = bxU j) (e2 : bxV i = bxV j) : i = j := by
  have : ∀ i j : Fin 24, bxU i.val = bxU j.val → bxV i.val = bxV j.val → i.val = j.val := by decide +kernel
  exact this ⟨i, hi⟩ ⟨j, hj⟩ e1 e2
theorem bx_back {i : Nat} (hi : i < 24) : ∃ j, j < 24 ∧ bxU j = bxV i ∧ bxV j = bxU i := by
  have : ∀ i : Fin 24, ∃ j : Fin 24, bxU j.val = bxV i.val ∧ bxV j.val = bxU i.val := by decide +kernel
  obtain ⟨j, h⟩ := this ⟨i, hi⟩
  exact ⟨j.val, j.isLt, h⟩
theorem bx_dist {k i j : Nat} (hk : k < 6) (hi : i < 4) (hj : j < 4) (e : bxN (4 * k + i) = bxN (4 * k + j)) : i = j := by
  have : ∀ k : Fin 6, ∀ i j : Fin 4, bxN (4 * k.val + i.val) = bxN (4 * k.val + j.val) → i.val = j.val := by decide +kernel
  exact this ⟨k, hk⟩ ⟨i, hi⟩ ⟨j, hj⟩ e
variable {A : Nat → Nat} {M M' : Mm} {B : Nat} {rs rs2 : Nat → List Nat} {ow ow2 : Nat → Nat → Nat} {th : Nat → Bool} {ps : Nat → Nat → Int32} {fe fl pe pl : Nat} {Cc Zz : Nat}
theorem a_add {x y z : Int32} {Q : Int32 → Mm → Prop} (h : SD A M B rs ow th ps fe fl pe pl) (g : Gd rs ow th ps fe fl pe pl) (hp : pe < 100) (hn : nr x ∧ nr y ∧ nr z) (q : ∀ M', SD A M' B rs ow (upB th pe true) (upP ps pe x y z) fe fl (pe + 1) (pl + 1) → Gd rs ow (upB th pe true) (upP ps pe x y z) fe fl (pe + 1) (pl + 1) → Q (nI pe) M') : T_X3_add M (A 1) x y z Q := by
  have hpl := g.pl_le
  exact t_padd h.2.2.1 h.2.2.2.1 (by omega) (by omega) (fun M2 c2 p2 n2 => q M2 (h.point c2 (fun i z => z) p2 n2) (g.pt hp hn))
theorem up_th {p q : Nat} (e : th p = true) : upB th q true p = true := by
  unfold upB
  split
  · rfl
  · exact e
theorem up_me {q : Nat} : upB th q true q = true := by
  unfold upB
  rw [if_pos rfl]
theorem a_square {x y z w : Int32} {Q : Int32 → Mm → Prop} (h : SD A M B rs ow th ps fe fl pe pl) (g : Gd rs ow th ps fe fl pe pl) (hp : pe + 4 ≤ 100) (hx : nr x) (hy : nr y) (hz : nr z) (hxw : nr (x + w)) (hyw : nr (y + w)) (q : ∀ M' th' ps', SD A M' B rs ow th' ps' fe fl (pe + 4) (pl + 4) → Gd rs ow th' ps' fe fl (pe + 4) (pl + 4) → (∀ p, th p = true → th' p = true) → (∀ j, j < 4 → th' (pe + j) = true) → Q (nI pe) M') : T_X8_addSquare M (A 0) x y z w Q := by
  unfold T_X8_addSquare
  refine ⟨h.sh.k 0, A 1, h.sh.r 0 0 1, h.sh.k 1, a_add h g (by omega) ⟨hx, hy, hz⟩ (fun M1 s1 g1 => ⟨s1.sh.k 0, A 1, s1.sh.r 0 0 1, s1.sh.k 1, a_add s1 g1 (by omega) ⟨hxw, hy, hz⟩ (fun M2 s2 g2 => ⟨s2.sh.k 0, A 1, s2.sh.r 0 0 1, s2.sh.k 1, a_add s2 g2 (by omega) ⟨hxw, hyw, hz⟩ (fun M3 s3 g3 => ⟨s3.sh.k 0, A 1, s3.sh.r 0 0 1, s3.sh.k 1, a_add s3 g3 (by omega) ⟨hx, hyw, hz⟩ (fun M4 s4 g4 => q M4 _ _ s4 g4 (fun p e => up_th (up_th (up_th (up_th e)))) (fun j hj => ?_))⟩)⟩)⟩)⟩
  have : j = 0 ∨ j = 1 ∨ j = 2 ∨ j = 3 := by omega
  rcases this with rfl | rfl | rfl | rfl
  · exact up_th (up_th (up_th up_me))
  · exact up_th (up_th up_me)
  · exact up_th up_me
  · exact up_me
theorem four_hv (a b c d u v : Nat) : hvk [a, b, c, d] [a, b, c, d].length u v ↔ (u = a ∧ v = b) ∨ (u = b ∧ v = c) ∨ (u = c ∧ v = d) ∨ (u = d ∧ v = a) := by
  have w : gn [a, b, c, d] (3 + 1) = a := by
    have := gn_add [a, b, c, d] 0
    rw [show 0 + [a, b, c, d].length = 3 + 1 from rfl] at this
    exact this
  constructor
  · intro ⟨i, hi, e1, e2⟩
    have hi : i < 4 := hi
    have : i = 0 ∨ i = 1 ∨ i = 2 ∨ i = 3 := by omega
    rcases this with rfl | rfl | rfl | rfl
    · exact Or.inl ⟨e1.symm, e2.symm⟩
    · exact Or.inr (Or.inl ⟨e1.symm, e2.symm⟩)
    · exact Or.inr (Or.inr (Or.inl ⟨e1.symm, e2.symm⟩))
    · rw [w] at e2
      exact Or.inr (Or.inr (Or.inr ⟨e1.symm, e2.symm⟩))
  · intro z
    rcases z with ⟨e1, e2⟩ | ⟨e1, e2⟩ | ⟨e1, e2⟩ | ⟨e1, e2⟩
    · exact ⟨0, (show 0 < 4 by decide), e1.symm, e2.symm⟩
    · exact ⟨1, (show 1 < 4 by decide), e1.symm, e2.symm⟩
    · exact ⟨2, (show 2 < 4 by decide), e1.symm, e2.symm⟩
    · exact ⟨3, (show 3 < 4 by decide), e1.symm, w.trans e2.symm⟩
theorem four_gn (a b c d : Nat) : gn [a, b, c, d] 0 = a ∧ gn [a, b, c, d] 1 = b ∧ gn [a, b, c, d] 2 = c ∧ gn [a, b, c, d] 3 = d := ⟨rfl, rfl, rfl, rfl⟩
theorem four_dist {a b c d : Nat} (h : a ≠ b ∧ a ≠ c ∧ a ≠ d ∧ b ≠ c ∧ b ≠ d ∧ c ≠ d) : ∀ i j, i < [a, b, c, d].length → j < [a, b, c, d].length → gn [a, b, c, d] i = gn [a, b, c, d] j → i = j := by
  intro i j hi hj e
  have hi : i < 4 := hi
  have hj : j < 4 := hj
  obtain ⟨g0, g1, g2, g3⟩ := four_gn a b c d
  have ai : i = 0 ∨ i = 1 ∨ i = 2 ∨ i = 3 := by omega
  have aj : j = 0 ∨ j = 1 ∨ j = 2 ∨ j = 3 := by omega
  rcases ai with rfl | rfl | rfl | rfl <;> rcases aj with rfl | rfl | rfl | rfl <;> first | rfl | omega
/-- a new face of four points: its halves are added -/
theorem add_hv (g : Gd rs ow th ps fe fl pe pl) (hf : fe < 160) {ys : List Nat} (u v : Nat) : Hv (upr rs fe ys) u v ↔ hvk ys ys.length u v ∨ Hv rs u v := by
  rw [Hv_up hf, Hv_oth g.1 hf]
  constructor
  · intro z
    exact z.elim Or.inl (fun y => Or.inr y.1)
  · intro z
    refine z.elim Or.inl (fun y => Or.inr ⟨y, fun ⟨i, hi, _⟩ => ?_⟩)
    rw [g.2.2.1 fe (Nat.le_refl _)] at hi
    exact absurd hi (Nat.not_lt_zero _)
theorem a_boxFaces {p : Nat} {Q : Mm → Prop} (h : SD A M B rs ow th ps fe fl pe pl) (g : Gd rs ow th ps fe fl pe pl) (hfe : fe + 6 ≤ 160) (hp : p + 8 ≤ 100) (ht : ∀ j, j < 8 → th (p + j) = true) (hno : ∀ f q, q ∈ rs f → q < p) (q : ∀ M' rs' ow', SD A M' B rs' ow' th ps (fe + 6) (fl + 6) pe pl → Gd rs' ow' th ps (fe + 6) (fl + 6) pe pl → eC rs' ow' (fe + 6) = eC rs ow fe + 12 → Q M') : T_X8_addBoxFaces M (A 0) (nI p) Q := by
  unfold T_X8_addBoxFaces
  intro K hK
  have e24 : (24 : Int32) = nI 24 := rfl
  have e4 : (4 : Int32) = nI 4 := rfl
  have e2 : (2 : Int32) = nI 2 := rfl
  have e3 : (3 : Int32) = nI 3 := rfl
  have hvp : ∀ u v, Hv rs u v → u < p ∧ v < p := fun u v ⟨f, _, z⟩ => ⟨hno f u (hvk_in z).1, hno f v (hvk_in z).2⟩
  have key : ∀ d k M2 rs2 ow2, d + k = 6 → SD A M2 B rs2 ow2 th ps (fe + k) (fl + k) pe pl → Gd rs2 ow2 th ps (fe + k) (fl + k) pe pl → lenF rs2 160 = lenF rs 160 + 4 * k → (∀ u v, Hv rs2 u v ↔ Hv rs u v ∨ ∃ j, j < 4 * k ∧ u = p + bxU j ∧ v = p + bxV j) → K (A 0) (nI p) (nI (4 * k)) M2 := by
    intro d
    induction d with
    | zero =>
      intro k M2 rs2 ow2 hd s2 g2 l2 hv2
      have : k = 6 := by omega
      subst this
      refine hK _ _ _ _ ⟨fun _ => q M2 rs2 ow2 s2 g2 ?_, fun z => absurd (by decide) z⟩
      have hS : ∀ u v, (∃ j, j < 24 ∧ u = p + bxU j ∧ v = p + bxV j) → ∃ j, j < 24 ∧ v = p + bxU j ∧ u = p + bxV j := fun u v ⟨j, hj, e1, e2⟩ => by
        obtain ⟨i, hi, a1, a2⟩ := bx_back hj
        exact ⟨i, hi, by rw [a1]; exact e2, by rw [a2]; exact e1⟩
      have hcnt := opn_same g.1 g2.1 (fun u v => ∃ j, j < 24 ∧ u = p + bxU j ∧ v = p + bxV j) hS (fun u v n => by
        rw [hv2 u v]
        exact ⟨fun y => y.resolve_right n, Or.inl⟩) (fun u v z => by
        have z2 := hS u v z
        refine ⟨⟨fun y => ?_, fun y => ?_⟩, ⟨fun _ => (hv2 v u).mpr (Or.inr z2), fun _ => (hv2 u v).mpr (Or.inr z)⟩⟩
        · obtain ⟨j, _, e1, _⟩ := z
          have := (hvp u v y).1
          omega
        · obtain ⟨j, _, e1, _⟩ := z
          have := (hvp v u y).2
          omega)
      have := edges_up g h g2 s2 (k := 0) (k2 := 12) (by omega)
      omega
    | succ d ih =>
      intro k M2 rs2 ow2 hd s2 g2 l2 hv2
      obtain ⟨b0, l0⟩ := bx_at (i := 4 * k) (by omega)
      obtain ⟨b1, l1⟩ := bx_at (i := 4 * k + 1) (by omega)
      obtain ⟨b2, l2'⟩ := bx_at (i := 4 * k + 2) (by omega)
      obtain ⟨b3, l3⟩ := bx_at (i := 4 * k + 3) (by omega)
      refine hK _ _ _ _ ⟨fun z => absurd z (by rw [e4, nI_add, e24]; exact nI_nlt (by omega) (by omega)), fun _ => ?_⟩
      rw [nI_1, e2, e3, e4, nI_add, nI_add, nI_add, nI_clamp (by omega), nI_clamp (by omega), nI_clamp (by omega), nI_clamp (by omega), b0, b1, b2, b3, nI_add, nI_add, nI_add, nI_add]
      obtain ⟨xs, hx⟩ := s2.2.2.2.2.2 31 (Or.inl rfl)
      refine ⟨s2.sh.k 0, A 31, s2.sh.r 0 6 31, vp_in_nI (by omega) (by omega), vp_in_nI (by omega) (by omega), vp_in_nI (by omega) (by omega), vp_in_nI (by omega) (by omega), s2.sh.k 31, t_set4 hx (fun M3 c3 r3 => ?_)⟩
      rw [if_neg (nI_ne1 (by omega))] at r3
      have r3' : RG M3 (A 31) (A (31 + 1)) ([p + bxN (4 * k), p + bxN (4 * k + 1), p + bxN (4 * k + 2), p + bxN (4 * k + 3)].map nI) := r3
      have c3' := c3.two (A := A) (by omega) (by omega)
      have s3 : SD A M3 B rs2 ow2 th ps (fe + k) (fl + k) pe pl := s2.go c3' (fun i z => by omega) (s2.2.2.2.2.rg s2.sh c3' (Or.inl rfl) (fun i z => z) r3)
      have hy : ∀ u v, hvk [p + bxN (4 * k), p + bxN (4 * k + 1), p + bxN (4 * k + 2), p + bxN (4 * k + 3)] [p + bxN (4 * k), p + bxN (4 * k + 1), p + bxN (4 * k + 2), p + bxN (4 * k + 3)].length u v ↔ ∃ j, 4 * k ≤ j ∧ j < 4 * (k + 1) ∧ u = p + bxU j ∧ v = p + bxV j := fun u v => by
        rw [four_hv]
        have v0 : bxV (4 * k) = bxN (4 * k + 1) := by unfold bxV; congr 1; omega
        have v1 : bxV (4 * k + 1) = bxN (4 * k + 2) := by unfold bxV; congr 1; omega
        have v2 : bxV (4 * k + 2) = bxN (4 * k + 3) := by unfold bxV; congr 1; omega
        have v3 : bxV (4 * k + 3) = bxN (4 * k) := by unfold bxV; congr 1; omega
        constructor
        · intro z
          rcases z with ⟨e1, e2⟩ | ⟨e1, e2⟩ | ⟨e1, e2⟩ | ⟨e1, e2⟩
          · exact ⟨4 * k, by omega, by omega, e1, by rw [v0]; exact e2⟩
          · exact ⟨4 * k + 1, by omega, by omega, e1, by rw [v1]; exact e2⟩
          · exact ⟨4 * k + 2, by omega, by omega, e1, by rw [v2]; exact e2⟩
          · exact ⟨4 * k + 3, by omega, by omega, e1, by rw [v3]; exact e2⟩
        · intro ⟨j, h1, h2, e1, e2⟩
          have : j = 4 * k ∨ j = 4 * k + 1 ∨ j = 4 * k + 2 ∨ j = 4 * k + 3 := by omega
          rcases this with rfl | rfl | rfl | rfl
          · rw [v0] at e2; exact Or.inl ⟨e1, e2⟩
          · rw [v1] at e2; exact Or.inr (Or.inl ⟨e1, e2⟩)
          · rw [v2] at e2; exact Or.inr (Or.inr (Or.inl ⟨e1, e2⟩))
          · rw [v3] at e2; exact Or.inr (Or.inr (Or.inr ⟨e1, e2⟩))
      have dd : ∀ i j, i < 4 → j < 4 → i ≠ j → bxN (4 * k + i) ≠ bxN (4 * k + j) := fun i j hi hj n e => n (bx_dist (by omega) hi hj e)
      have d01 := dd 0 1 (by omega) (by omega) (by omega)
      have d02 := dd 0 2 (by omega) (by omega) (by omega)
      have d03 := dd 0 3 (by omega) (by omega) (by omega)
      have d12 := dd 1 2 (by omega) (by omega) (by omega)
      have d13 := dd 1 3 (by omega) (by omega) (by omega)
      have d23 := dd 2 3 (by omega) (by omega) (by omega)
      simp only [Nat.add_zero] at d01 d02 d03
      refine ⟨s3.sh.k 0, A 7, s3.sh.r 0 1 7, s3.sh.k 0, A 31, s3.sh.r 0 6 31, s3.sh.k 7, o_addF s3 g2 (Or.inl rfl) r3' (by omega) (show 3 ≤ 4 by decide) (four_dist (by omega)) (fun u v z => ?_) (fun x hx => ?_) (fun M4 _ s4 g4 => ?_)⟩
      · rw [g2.zero, hv2]
        obtain ⟨j, h1, h2, e1, e2⟩ := (hy u v).mp z
        intro y
        rcases y with y | ⟨i, hi, a1, a2⟩
        · have := (hvp u v y).1
          omega
        · have := bx_one (i := i) (j := j) (by omega) (by omega) (by omega) (by omega)
          omega
      · simp only [List.mem_cons, List.not_mem_nil, or_false] at hx
        rcases hx with rfl | rfl | rfl | rfl <;> exact ht _ (by assumption)
      · rw [show 4 * k + 4 = 4 * (k + 1) by omega]
        refine ih (k + 1) M4 _ _ (by omega) s4 g4 ?_ (fun u v => ?_)
        · have := lenF_up (rs := rs2) (f := fe + k) (by omega) (ys := [p + bxN (4 * k), p + bxN (4 * k + 1), p + bxN (4 * k + 2), p + bxN (4 * k + 3)])
          rw [g2.2.2.1 (fe + k) (Nat.le_refl _)] at this
          have l4 : [p + bxN (4 * k), p + bxN (4 * k + 1), p + bxN (4 * k + 2), p + bxN (4 * k + 3)].length = 4 := rfl
          rw [l4, List.length_nil] at this
          omega
        · rw [add_hv g2 (by omega), hy, hv2]
          constructor
          · intro z
            rcases z with ⟨j, _, h2, e1, e2⟩ | z | ⟨j, h2, e1, e2⟩
            · exact Or.inr ⟨j, h2, e1, e2⟩
            · exact Or.inl z
            · exact Or.inr ⟨j, by omega, e1, e2⟩
          · intro z
            rcases z with z | ⟨j, h2, e1, e2⟩
            · exact Or.inr (Or.inl z)
            · by_cases y : j < 4 * k
              · exact Or.inr (Or.inr ⟨j, y, e1, e2⟩)
              · exact Or.inl ⟨j, by omega, h2, e1, e2⟩
  have := key 6 0 M rs ow rfl h g (by omega) (fun u v => ⟨Or.inl, fun z => z.elim id (fun ⟨j, hj, _⟩ => absurd hj (by omega))⟩)
  rw [show 4 * 0 = 0 from rfl, nI_0] at this
  exact this
theorem o_box {x y z w : Int32} {Q : Int32 → Mm → Prop} {X : String → Mm → Prop} (h : SD A M B rs ow th ps fe fl pe pl) (g : Gd rs ow th ps fe fl pe pl) (hc : 4 ≤ Cc) (hz : 24 ≤ Zz) (hX : ∀ E M', xE E → SD A M' B rs ow th ps fe fl pe pl → X E M') (q : ∀ M' rs' ow' th' ps', SD A M' B rs' ow' th' ps' (fe + 6) (fl + 6) (pe + 8) (pl + 8) → Gd rs' ow' th' ps' (fe + 6) (fl + 6) (pe + 8) (pl + 8) → eC rs' ow' (fe + 6) = eC rs ow fe + 12 → Q (nI pe) M') : T_X8_box Cc Zz M (A 0) x y z w Q X := by
  unfold T_X8_box
  intro K19 K72 h19 h72
  have bad19 : K19 (A 0) x y z w 0 M 0 0 := h19 _ _ _ _ _ _ _ _ _ ⟨1, 6, ⟨by omega, by omega⟩, n_arg (by omega) (by omega) (fun z => absurd rfl z) (fun _ => hX _ _ (Or.inr (Or.inl rfl)) h)⟩
  have bad72 : ∀ cc zz, cc + 1 ≤ Cc → zz + 6 ≤ Zz → K72 (A 0) x y z w 0 M cc zz := fun cc zz c1 c2 => h72 _ _ _ _ _ _ _ _ _ ⟨1, 6, ⟨by omega, by omega⟩, n_stt (by omega) (by omega) (fun z => absurd rfl z) (fun _ => hX _ _ (Or.inr (Or.inr rfl)) h)⟩
  refine ⟨fun _ => bad19, fun _ => ⟨fun _ => bad19, fun _ => h19 _ _ _ _ _ _ _ _ _ ⟨1, 6, ⟨by omega, by omega⟩, n_arg (by omega) (by omega) (fun _ => ?_) (fun z => absurd z (by decide))⟩⟩⟩
  refine ⟨1, 6, ⟨by omega, by omega⟩, n_needPlace (by omega) (by omega) (fun n1 => ?_) (fun _ => hX _ _ (Or.inr (Or.inl rfl)) h)⟩
  refine ⟨1, 6, ⟨by omega, by omega⟩, n_needPlace (by omega) (by omega) (fun n2 => ?_) (fun _ => hX _ _ (Or.inr (Or.inl rfl)) h)⟩
  refine ⟨h.sh.k 0, A 1, h.sh.r 0 0 1, ⟨by omega, by omega⟩, h.sh.k 1, t_phasRoom (k := 8) h.2.2.1 h.2.2.2.1 (by omega) (fun r1 => ⟨fun z => absurd z (by decide), fun _ => ?_⟩) (fun _ => ⟨fun _ => bad72 _ _ (by omega) (by omega), fun z => absurd rfl z⟩)⟩
  refine ⟨h.sh.k 0, A 7, h.sh.r 0 1 7, ⟨by omega, by omega⟩, h.sh.k 7, t_room (k := 6) h (by omega) (fun r2 => ⟨fun z => absurd z (by decide), fun _ => ?_⟩) (fun _ => ⟨fun _ => bad72 _ _ (by omega) (by omega), fun z => absurd rfl z⟩)⟩
  refine h72 _ _ _ _ _ _ _ _ _ ⟨1, 6, ⟨by omega, by omega⟩, n_stt (by omega) (by omega) (fun _ => ?_) (fun z => absurd z (by decide))⟩
  refine ⟨⟨by omega, by omega⟩, h.sh.k 0, a_square h g (by omega) n1.1 n1.2.1 n1.2.2 n2.1 n2.2.1 (fun M2 th2 ps2 s2 g2 m2 t2 => ?_)⟩
  refine ⟨⟨by omega, by omega⟩, s2.sh.k 0, a_square s2 g2 (by omega) n1.1 n1.2.1 n2.2.2 n2.1 n2.2.1 (fun M3 th3 ps3 s3 g3 m3 t3 => ?_)⟩
  refine ⟨⟨by omega, by omega⟩, s3.sh.k 0, a_boxFaces s3 g3 r2 (by omega) (fun j hj => ?_) (fun f p hp => ?_) (fun M4 rs4 ow4 s4 g4 e4 => ⟨by omega, by omega, q M4 rs4 ow4 th3 ps3 s4 g4 e4⟩)⟩
  · by_cases y : j < 4
    · exact m3 _ (t2 j y)
    · have := t3 (j - 4) (by omega)
      rw [show pe + 4 + (j - 4) = pe + j by omega] at this
      exact this
  · have := g.2.2.2.2.2.2.1 f p hp
    refine Classical.byContradiction (fun y => ?_)
    rw [g.2.2.2.2.2.1 p (by omega)] at this
    cases this
end
