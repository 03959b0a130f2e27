section
theorem tri_hv {xs : List Nat} (h3 : xs.length = 3) (k u v : Nat) : hvk xs xs.length u v ↔ (u = gn xs k ∧ v = gn xs (k + 1)) ∨ (u = gn xs (k + 1) ∧ v = gn xs (k + 2)) ∨ (u = gn xs (k + 2) ∧ v = gn xs k) := by
  have e3 : gn xs (k + 3) = gn xs k := by
    have := gn_add xs k
    rw [h3] at this
    exact this
  rw [hv_from (by omega) k, h3]
  constructor
  · intro ⟨i, hi, e1, e2⟩
    have : i = 0 ∨ i = 1 ∨ i = 2 := by omega
    rcases this with rfl | rfl | rfl
    · exact Or.inl ⟨e1.symm, e2.symm⟩
    · exact Or.inr (Or.inl ⟨e1.symm, e2.symm⟩)
    · exact Or.inr (Or.inr ⟨e1.symm, by rw [← e2]; exact e3⟩)
  · intro z
    rcases z with ⟨e1, e2⟩ | ⟨e1, e2⟩ | ⟨e1, e2⟩
    · exact ⟨0, by omega, e1.symm, e2.symm⟩
    · exact ⟨1, by omega, e1.symm, e2.symm⟩
    · exact ⟨2, by omega, e1.symm, by rw [e2]; exact e3⟩
theorem tri_hv3 (a b c u v : Nat) : hvk [a, b, c] [a, b, c].length u v ↔ (u = a ∧ v = b) ∨ (u = b ∧ v = c) ∨ (u = c ∧ v = a) := tri_hv (xs := [a, b, c]) rfl 0 u v
variable {A : Nat → Nat} {M M' : Mm} {B : Nat} {rs rs2 : Nat → List Nat} {ow ow2 : Nat → Nat → Nat} {th : Nat → Bool} {ps : Nat → Nat → Int32} {fe fl pe pl : Nat} {Cc Zz : Nat}
/-- two triangles at an edge, and the edge put the other way -/
theorem flip_data (g : Gd rs ow th ps fe fl pe pl) {f f2 k k2 a b c d : Nat} (hf : f < 160) (hf2 : f2 < 160) (hne : f ≠ f2) (l1 : (rs f).length = 3) (l2 : (rs f2).length = 3) (ka : gn (rs f) k = a) (kb : gn (rs f) (k + 1) = b) (kc : gn (rs f) (k + 2) = c) (kb2 : gn (rs f2) k2 = b) (ka2 : gn (rs f2) (k2 + 1) = a) (kd : gn (rs f2) (k2 + 2) = d) (hcd : c ≠ d) (o1 : ow c d = 0) (o2 : ow d c = 0) :
    Gd (upr (upr rs f [c, d, b]) f2 [d, c, a]) (rshT f2 (rs f2) [d, c, a] (rshT f (rs f) [c, d, b] ow)) th ps fe fl pe pl ∧
    ∀ u v, Hv (upr (upr rs f [c, d, b]) f2 [d, c, a]) u v ↔ (Hv rs u v ∧ ¬ (u = a ∧ v = b) ∧ ¬ (u = b ∧ v = a)) ∨ (u = c ∧ v = d) ∨ (u = d ∧ v = c) := by
  have w := g.1
  have hv1 := fun u v => tri_hv l1 k u v
  have hv2 := fun u v => tri_hv l2 k2 u v
  rw [ka, kb, kc] at hv1
  rw [kb2, ka2, kd] at hv2
  have own1 : ∀ u v, ((u = a ∧ v = b) ∨ (u = b ∧ v = c) ∨ (u = c ∧ v = a)) → ow u v = f + 1 := fun u v z => (w.1 u v f).mpr ⟨hf, (hv1 u v).mpr z⟩
  have own2 : ∀ u v, ((u = b ∧ v = a) ∨ (u = a ∧ v = d) ∨ (u = d ∧ v = b)) → ow u v = f2 + 1 := fun u v z => (w.1 u v f2).mpr ⟨hf2, (hv2 u v).mpr z⟩
  have q1 := own1 a b (Or.inl ⟨rfl, rfl⟩)
  have q2 := own1 b c (Or.inr (Or.inl ⟨rfl, rfl⟩))
  have q3 := own1 c a (Or.inr (Or.inr ⟨rfl, rfl⟩))
  have p1 := own2 b a (Or.inl ⟨rfl, rfl⟩)
  have p2 := own2 a d (Or.inr (Or.inl ⟨rfl, rfl⟩))
  have p3 := own2 d b (Or.inr (Or.inr ⟨rfl, rfl⟩))
  have nab := (g.half (a := a) (b := b) (by omega)).2.2
  have nbc := (g.half (a := b) (b := c) (by omega)).2.2
  have nca := (g.half (a := c) (b := a) (by omega)).2.2
  have nad := (g.half (a := a) (b := d) (by omega)).2.2
  have ndb := (g.half (a := d) (b := b) (by omega)).2.2
  have ta := (g.half (a := a) (b := b) (by omega)).1
  have tb := (g.half (a := a) (b := b) (by omega)).2.1
  have tc := (g.half (a := b) (b := c) (by omega)).2.1
  have td := (g.half (a := a) (b := d) (by omega)).2.1
  have hr1 : rs f ≠ [] := fun z => by rw [z] at l1; cases l1
  have hr2 : rs f2 ≠ [] := fun z => by rw [z] at l2; cases l2
  have R1 : upr (upr rs f [c, d, b]) f2 [d, c, a] f = [c, d, b] := by unfold upr; rw [if_neg hne, if_pos rfl]
  have R2 : upr (upr rs f [c, d, b]) f2 [d, c, a] f2 = [d, c, a] := by unfold upr; rw [if_pos rfl]
  have R3 : ∀ k, k ≠ f → k ≠ f2 → upr (upr rs f [c, d, b]) f2 [d, c, a] k = rs k := fun k h1 h2 => by unfold upr; rw [if_neg h2, if_neg h1]
  have r12 : upr rs f [c, d, b] f2 = rs f2 := by unfold upr; rw [if_neg (fun z => hne z.symm)]
  -- what the owners of old say of a half of the new rings
  have say : ∀ k u v, k < 160 → hvk (upr (upr rs f [c, d, b]) f2 [d, c, a] k) (upr (upr rs f [c, d, b]) f2 [d, c, a] k).length u v → (k = f ∧ ((u = c ∧ v = d) ∨ (u = d ∧ v = b) ∨ (u = b ∧ v = c))) ∨ (k = f2 ∧ ((u = d ∧ v = c) ∨ (u = c ∧ v = a) ∨ (u = a ∧ v = d))) ∨ (k ≠ f ∧ k ≠ f2 ∧ ow u v = k + 1) := by
    intro k u v hk z
    by_cases x : k = f
    · subst x
      rw [R1] at z
      exact Or.inl ⟨rfl, (tri_hv3 c d b u v).mp z⟩
    · by_cases y : k = f2
      · subst y
        rw [R2] at z
        exact Or.inr (Or.inl ⟨rfl, (tri_hv3 d c a u v).mp z⟩)
      · rw [R3 k x y] at z
        exact Or.inr (Or.inr ⟨x, y, (w.1 u v k).mpr ⟨hk, z⟩⟩)
  have dj : Dj (upr (upr rs f [c, d, b]) f2 [d, c, a]) := by
    intro k k2 u v hk hk2 z z2
    have s1 := say k u v hk z
    have s2 := say k2 u v hk2 z2
    have val : ∀ k, ((k = f ∧ ((u = c ∧ v = d) ∨ (u = d ∧ v = b) ∨ (u = b ∧ v = c))) ∨ (k = f2 ∧ ((u = d ∧ v = c) ∨ (u = c ∧ v = a) ∨ (u = a ∧ v = d))) ∨ (k ≠ f ∧ k ≠ f2 ∧ ow u v = k + 1)) → (k = f ∧ ((u = c ∧ v = d ∧ ow u v = 0) ∨ (u = d ∧ v = b ∧ ow u v = f2 + 1) ∨ (u = b ∧ v = c ∧ ow u v = f + 1))) ∨ (k = f2 ∧ ((u = d ∧ v = c ∧ ow u v = 0) ∨ (u = c ∧ v = a ∧ ow u v = f + 1) ∨ (u = a ∧ v = d ∧ ow u v = f2 + 1))) ∨ (k ≠ f ∧ k ≠ f2 ∧ ow u v = k + 1) := by
      intro k y
      rcases y with ⟨y, ⟨rfl, rfl⟩ | ⟨rfl, rfl⟩ | ⟨rfl, rfl⟩⟩ | ⟨y, ⟨rfl, rfl⟩ | ⟨rfl, rfl⟩ | ⟨rfl, rfl⟩⟩ | y
      · exact Or.inl ⟨y, Or.inl ⟨rfl, rfl, o1⟩⟩
      · exact Or.inl ⟨y, Or.inr (Or.inl ⟨rfl, rfl, p3⟩)⟩
      · exact Or.inl ⟨y, Or.inr (Or.inr ⟨rfl, rfl, q2⟩)⟩
      · exact Or.inr (Or.inl ⟨y, Or.inl ⟨rfl, rfl, o2⟩⟩)
      · exact Or.inr (Or.inl ⟨y, Or.inr (Or.inl ⟨rfl, rfl, q3⟩)⟩)
      · exact Or.inr (Or.inl ⟨y, Or.inr (Or.inr ⟨rfl, rfl, p2⟩)⟩)
      · exact Or.inr (Or.inr y)
    have v1 := val k s1
    have v2 := val k2 s2
    omega
  have b0 : Bt rs ow (fun _ => False) (upr (upr rs f [c, d, b]) f2 [d, c, a]) := Bt.start w
  have b1 := b0.step dj hf (ys := [c, d, b]) R1.symm
  have b2 := b1.step dj hf2 (ys := [d, c, a]) R2.symm
  rw [r12] at b2
  have W : Wf (upr (upr rs f [c, d, b]) f2 [d, c, a]) (rshT f2 (rs f2) [d, c, a] (rshT f (rs f) [c, d, b] ow)) := by
    refine b2.fin dj (fun _ _ _ => rfl) (fun k i j hk hi hj e => ?_)
    have three : ∀ x y z : Nat, x ≠ y → y ≠ z → z ≠ x → ∀ i j, i < 3 → j < 3 → gn [x, y, z] i = gn [x, y, z] j → i = j := by
      intro x y z h1 h2 h3 i j hi hj e
      have ai : i = 0 ∨ i = 1 ∨ i = 2 := by omega
      have aj : j = 0 ∨ j = 1 ∨ j = 2 := by omega
      have g0 : gn [x, y, z] 0 = x := rfl
      have g1 : gn [x, y, z] 1 = y := rfl
      have g2 : gn [x, y, z] 2 = z := rfl
      rcases ai with rfl | rfl | rfl <;> rcases aj with rfl | rfl | rfl <;> first | rfl | (rw [g0, g1] at e; omega) | (rw [g0, g2] at e; omega) | (rw [g1, g0] at e; omega) | (rw [g1, g2] at e; omega) | (rw [g2, g0] at e; omega) | (rw [g2, g1] at e; omega)
    by_cases x : k = f
    · subst x
      rw [R1] at hi hj e
      exact three c d b hcd ndb nbc i j hi hj e
    · by_cases y : k = f2
      · subst y
        rw [R2] at hi hj e
        exact three d c a (fun z => hcd z.symm) nca nad i j hi hj e
      · rw [R3 k x y] at hi hj e
        exact w.2 k i j hk hi hj e
  refine ⟨⟨W, fun k => ?_, fun k hk => ?_, ?_, g.2.2.2.2.1, g.2.2.2.2.2.1, fun k p hp => ?_, g.2.2.2.2.2.2.2⟩, fun u v => ?_⟩
  · by_cases x : k = f
    · subst x; rw [R1]; exact Or.inr (Nat.le_refl _)
    · by_cases y : k = f2
      · subst y; rw [R2]; exact Or.inr (Nat.le_refl _)
      · rw [R3 k x y]; exact g.2.1 k
  · have x : k ≠ f := fun z => hr1 (g.2.2.1 f (by omega))
    have y : k ≠ f2 := fun z => hr2 (g.2.2.1 f2 (by omega))
    rw [R3 k x y]
    exact g.2.2.1 k hk
  · have n1 := NE_up (rs := rs) hf (ys := [c, d, b])
    have n2 := NE_up (rs := upr rs f [c, d, b]) hf2 (ys := [d, c, a])
    rw [if_neg hr1, if_neg (by simp)] at n1
    rw [r12, if_neg hr2, if_neg (by simp)] at n2
    have := g.2.2.2.1
    omega
  · by_cases x : k = f
    · subst x
      rw [R1] at hp
      simp only [List.mem_cons, List.not_mem_nil, or_false] at hp
      rcases hp with rfl | rfl | rfl <;> assumption
    · by_cases y : k = f2
      · subst y
        rw [R2] at hp
        simp only [List.mem_cons, List.not_mem_nil, or_false] at hp
        rcases hp with rfl | rfl | rfl <;> assumption
      · rw [R3 k x y] at hp
        exact g.2.2.2.2.2.2.1 k p hp
  · have z0 := wf_zero w u v
    constructor
    · intro ⟨k, hk, z⟩
      have hvv : ow u v ≠ 0 → Hv rs u v := fun y => Classical.byContradiction (fun x => y (z0.mpr x))
      rcases say k u v hk z with ⟨_, ⟨rfl, rfl⟩ | ⟨rfl, rfl⟩ | ⟨rfl, rfl⟩⟩ | ⟨_, ⟨rfl, rfl⟩ | ⟨rfl, rfl⟩ | ⟨rfl, rfl⟩⟩ | ⟨x, y, e⟩
      · exact Or.inr (Or.inl ⟨rfl, rfl⟩)
      · exact Or.inl ⟨hvv (by omega), by omega, by omega⟩
      · exact Or.inl ⟨hvv (by omega), by omega, by omega⟩
      · exact Or.inr (Or.inr ⟨rfl, rfl⟩)
      · exact Or.inl ⟨hvv (by omega), by omega, by omega⟩
      · exact Or.inl ⟨hvv (by omega), by omega, by omega⟩
      · refine Or.inl ⟨hvv (by omega), fun ⟨h1, h2⟩ => ?_, fun ⟨h1, h2⟩ => ?_⟩
        · rw [h1, h2] at e; omega
        · rw [h1, h2] at e; omega
    · intro z
      rcases z with ⟨⟨k, hk, z⟩, n1, n2⟩ | ⟨rfl, rfl⟩ | ⟨rfl, rfl⟩
      · by_cases x : k = f
        · subst x
          rcases (hv1 u v).mp z with y | ⟨rfl, rfl⟩ | ⟨rfl, rfl⟩
          · exact absurd y n1
          · exact ⟨k, hf, by rw [R1]; exact (tri_hv3 _ _ _ _ _).mpr (Or.inr (Or.inr ⟨rfl, rfl⟩))⟩
          · exact ⟨f2, hf2, by rw [R2]; exact (tri_hv3 _ _ _ _ _).mpr (Or.inr (Or.inl ⟨rfl, rfl⟩))⟩
        · by_cases y : k = f2
          · subst y
            rcases (hv2 u v).mp z with y | ⟨rfl, rfl⟩ | ⟨rfl, rfl⟩
            · exact absurd y n2
            · exact ⟨k, hf2, by rw [R2]; exact (tri_hv3 _ _ _ _ _).mpr (Or.inr (Or.inr ⟨rfl, rfl⟩))⟩
            · exact ⟨f, hf, by rw [R1]; exact (tri_hv3 _ _ _ _ _).mpr (Or.inr (Or.inl ⟨rfl, rfl⟩))⟩
          · exact ⟨k, hk, by rw [R3 k x y]; exact z⟩
      · exact ⟨f, hf, by rw [R1]; exact (tri_hv3 _ _ _ _ _).mpr (Or.inl ⟨rfl, rfl⟩)⟩
      · exact ⟨f2, hf2, by rw [R2]; exact (tri_hv3 _ _ _ _ _).mpr (Or.inl ⟨rfl, rfl⟩)⟩
/-- the machine's own questions ahead of a flip -/
theorem n_between {a b : Nat} {Q : Int32 → Prop} (h : SD A M B rs ow th ps fe fl pe pl) (ha : a < 100) (hb : b < 100) (q1 : ∀ f f2, ow a b = f + 1 → ow b a = f2 + 1 → (rs f).length = 3 → (rs f2).length = 3 → Q 1) (q0 : (∀ f f2, ow a b = f + 1 → ow b a = f2 + 1 → (rs f).length = 3 → (rs f2).length = 3 → False) → Q 0) : T_X8_isBetweenTriangles M (A 0) (nI a) (nI b) Q := by
  unfold T_X8_isBetweenTriangles
  have hF := (h.1.2.2.2.1 a b ha hb).2
  have hG := (h.1.2.2.2.1 b a hb ha).2
  have ln : ∀ F, F ≤ 160 → (rgL rs F).length ≤ 12 := fun F hF => by
    unfold rgL
    split
    · exact Nat.zero_le _
    · exact h.1.len (by omega)
  have is3 : ∀ n, n ≤ 12 → (nI n = 3 ↔ n = 3) := fun n hn => nI_eq (b := 3) (by omega) (by omega)
  have bk : ∀ F f, F = f + 1 → (rgL rs F).length = (rs f).length := fun F f e => by
    subst e
    unfold rgL
    rw [if_neg (by omega), Nat.add_sub_cancel]
  have ok : ∀ F, (rgL rs F).length = 3 → ∃ f, F = f + 1 ∧ (rs f).length = 3 := fun F e => by
    unfold rgL at e
    by_cases z : F = 0
    · rw [if_pos z] at e; cases e
    · rw [if_neg z] at e
      exact ⟨F - 1, by omega, e⟩
  refine ⟨h.sh.k 0, A 7, h.sh.r 0 1 7, h.sh.k 0, A 7, h.sh.r 0 1 7, h.sh.k 7, t_owner h.1 ha hb ⟨h.sh.k 7, t_oring h.1 hF (fun o w r _ => ⟨r.1, t_length r ?_⟩)⟩⟩
  rw [List.length_map, is3 _ (ln _ hF)]
  refine ⟨fun z => q0 (fun f f2 x1 _ x3 _ => z (by rw [bk _ f x1]; exact x3)), fun e1 => ⟨h.sh.k 0, A 7, h.sh.r 0 1 7, h.sh.k 0, A 7, h.sh.r 0 1 7, h.sh.k 7, t_owner h.1 hb ha ⟨h.sh.k 7, t_oring h.1 hG (fun o w r _ => ⟨r.1, t_length r ?_⟩)⟩⟩⟩
  rw [List.length_map, is3 _ (ln _ hG)]
  refine ⟨fun z => q0 (fun f f2 _ x2 _ x4 => z (by rw [bk _ f2 x2]; exact x4)), fun e2 => ?_⟩
  obtain ⟨f, z1, z2⟩ := ok _ e1
  obtain ⟨f2, y1, y2⟩ := ok _ e2
  exact q1 f f2 z1 y1 z2 y2
theorem n_flipFits {a b f f2 : Nat} {Q : Int32 → Prop} (h : SD A M B rs ow th ps fe fl pe pl) (ha : a < 100) (hb : b < 100) (hf : f < 160) (hf2 : f2 < 160) (e1 : ow a b = f + 1) (e2 : ow b a = f2 + 1) (mb : b ∈ rs f) (ma : a ∈ rs f2) (q1 : aft rs f b ≠ aft rs f2 a → ow (aft rs f b) (aft rs f2 a) = 0 → ow (aft rs f2 a) (aft rs f b) = 0 → Q 1) (q0 : ¬ (aft rs f b ≠ aft rs f2 a ∧ ow (aft rs f b) (aft rs f2 a) = 0 ∧ ow (aft rs f2 a) (aft rs f b) = 0) → Q 0) : T_X8_flipFits M (A 0) (nI a) (nI b) Q := by
  unfold T_X8_flipFits
  have bc : aft rs f b < 100 := by unfold aft; exact h.1.2.2.2.2 f _ hf (gn_mem (List.length_pos_of_mem mb))
  have bd : aft rs f2 a < 100 := by unfold aft; exact h.1.2.2.2.2 f2 _ hf2 (gn_mem (List.length_pos_of_mem ma))
  refine ⟨h.sh.k 0, A 7, h.sh.r 0 1 7, h.sh.k 0, A 7, h.sh.r 0 1 7, h.sh.k 7, t_owner h.1 ha hb ?_⟩
  rw [e1, oi_s]
  refine ⟨h.sh.k 7, t_after h.1 hf hb mb ⟨h.sh.k 0, A 7, h.sh.r 0 1 7, h.sh.k 0, A 7, h.sh.r 0 1 7, h.sh.k 7, t_owner h.1 hb ha ?_⟩⟩
  rw [e2, oi_s]
  refine ⟨h.sh.k 7, t_after h.1 hf2 ha ma ⟨fun z => q0 (fun w => w.1 ((nI_eq (by omega) (by omega)).mp z)), fun z => ⟨h.sh.k 0, A 7, h.sh.r 0 1 7, h.sh.k 7, t_isEdge h.1 bc bd (fun y => ⟨fun _ => q0 (fun w => by rcases y with x | x <;> omega), fun y => absurd y (by decide)⟩) (fun x y => ⟨fun w => absurd rfl w, fun _ => q1 (fun w => z (by rw [w])) x y⟩)⟩⟩⟩
end
section
variable {A : Nat → Nat} {M M' : Mm} {B : Nat} {rs rs2 : Nat → List Nat} {ow ow2 : Nat → Nat → Nat} {th : Nat → Bool} {ps : Nat → Nat → Int32} {fe fl pe pl : Nat} {Cc Zz : Nat}
theorem aft_at (w : Wf rs ow) {f k p : Nat} (hf : f < 160) (hn : 0 < (rs f).length) (e : gn (rs f) k = p) : aft rs f p = gn (rs f) (k + 1) := by
  have hm : p ∈ rs f := e ▸ gn_mem hn
  obtain ⟨z1, z2⟩ := pl_gn hm
  have z3 : gn (rs f) (pl (rs f) p) = gn (rs f) k := (gn_eq z2).trans e.symm
  have z4 := gn_inj w hf hn z3
  unfold aft
  rw [← gn_mod1 (rs f) (pl (rs f) p), z4, gn_mod1]
theorem o_flip {i1 i2 : Int32} {Q : Int32 → Mm → Prop} {X : String → Mm → Prop} (h : SD A M B rs ow th ps fe fl pe pl) (g : Gd rs ow th ps fe fl pe pl) (hc : 4 ≤ Cc) (hz : 24 ≤ Zz) (hX : ∀ E M', xE E → SD A M' B rs ow th ps fe fl pe pl → X E M')
    (q : ∀ M' rs' ow' v, ¬ v < 0 → SD A M' B rs' ow' th ps fe fl pe pl → Gd rs' ow' th ps fe fl pe pl → eC rs' ow' fe = eC rs ow fe → Q v M') : T_X8_flip Cc Zz M (A 0) i1 i2 Q X := by
  unfold T_X8_flip
  refine ⟨2, 12, ⟨by omega, by omega⟩, h.sh.k 0, n_pts h (by omega) (by omega) (fun a b ha hb ea eb ta tb => ?_) (fun _ => hX _ _ (Or.inl rfl) h)⟩
  subst ea
  subst eb
  refine ⟨⟨by omega, by omega⟩, h.sh.k 0, n_between h ha hb (fun f f2 e1 e2 l1 l2 => ⟨1, 6, ⟨by omega, by omega⟩, n_arg (by omega) (by omega) (fun _ => ?_) (fun z => absurd z (by decide))⟩) (fun _ => ⟨1, 6, ⟨by omega, by omega⟩, n_arg (by omega) (by omega) (fun z => absurd rfl z) (fun _ => hX _ _ (Or.inr (Or.inl rfl)) h)⟩)⟩
  obtain ⟨hf, k, hk, ka, kb⟩ := half_at_ring g.1 e1
  obtain ⟨hf2, k2, hk2, kb2, ka2⟩ := half_at_ring g.1 e2
  have hne : f ≠ f2 := fun z => two_faces g e1 (by rw [e2, z])
  have mb : b ∈ rs f := kb ▸ gn_mem (by omega)
  have ma : a ∈ rs f2 := ka2 ▸ gn_mem (by omega)
  have c1 : aft rs f b = gn (rs f) (k + 2) := aft_at g.1 hf (by omega) kb
  have d1 : aft rs f2 a = gn (rs f2) (k2 + 2) := aft_at g.1 hf2 (by omega) ka2
  refine ⟨⟨by omega, by omega⟩, h.sh.k 0, n_flipFits h ha hb hf hf2 e1 e2 mb ma (fun hcd o1 o2 => ⟨1, 6, ⟨by omega, by omega⟩, n_stt (by omega) (by omega) (fun _ => ?_) (fun z => absurd z (by decide))⟩) (fun _ => ⟨1, 6, ⟨by omega, by omega⟩, n_stt (by omega) (by omega) (fun z => absurd rfl z) (fun _ => hX _ _ (Or.inr (Or.inr rfl)) h)⟩)⟩
  have bc : aft rs f b < 100 := by rw [c1]; exact h.1.2.2.2.2 f _ hf (gn_mem (by omega))
  have bd : aft rs f2 a < 100 := by rw [d1]; exact h.1.2.2.2.2 f2 _ hf2 (gn_mem (by omega))
  obtain ⟨g6, hv6⟩ := flip_data g (c := aft rs f b) (d := aft rs f2 a) hf hf2 hne l1 l2 ka kb c1.symm kb2 ka2 d1.symm hcd o1 o2
  refine ⟨h.sh.k 0, A 7, h.sh.r 0 1 7, ⟨by omega, by omega⟩, h.sh.k 7, t_owner h.1 ha hb ?_⟩
  rw [e1, oi_s]
  refine ⟨h.sh.k 0, A 7, h.sh.r 0 1 7, ⟨by omega, by omega⟩, h.sh.k 7, t_owner h.1 hb ha ?_⟩
  rw [e2, oi_s]
  refine ⟨h.sh.k 0, A 7, h.sh.r 0 1 7, ⟨by omega, by omega⟩, h.sh.k 7, t_after h.1 hf hb mb ⟨h.sh.k 0, A 7, h.sh.r 0 1 7, ⟨by omega, by omega⟩, h.sh.k 7, t_after h.1 hf2 ha ma ?_⟩⟩
  obtain ⟨xs, hx⟩ := h.2.2.2.2.2 31 (Or.inl rfl)
  refine ⟨h.sh.k 0, A 31, h.sh.r 0 6 31, ⟨by omega, by omega⟩, h.sh.k 31, t_set4 hx (fun M2 c2 r2 => ?_)⟩
  have c2' := c2.two (A := A) (by omega) (by omega)
  have s2 : SD A M2 B rs ow th ps fe fl pe pl := h.go c2' (fun i z => by omega) (h.2.2.2.2.rg h.sh c2' (Or.inl rfl) (fun i z => z) r2)
  rw [if_pos rfl] at r2
  obtain ⟨xs2, hx2⟩ := s2.2.2.2.2.2 33 (Or.inr (Or.inl rfl))
  refine ⟨s2.sh.k 0, A 33, s2.sh.r 0 7 33, ⟨by omega, by omega⟩, s2.sh.k 33, t_set4 hx2 (fun M3 c3 r3 => ?_)⟩
  have c3' := c3.two (A := A) (by omega) (by omega)
  have s3 : SD A M3 B rs ow th ps fe fl pe pl := s2.go c3' (fun i z => by omega) (s2.2.2.2.2.rg s2.sh c3' (Or.inr (Or.inl rfl)) (fun i z => z) r3)
  rw [if_pos rfl] at r3
  have r2a := r2.kept c3' (In.not s2.sh (by omega) (by omega)) (In.not s2.sh (by omega) (by omega))
  refine ⟨s3.sh.k 0, A 7, s3.sh.r 0 1 7, s3.sh.k 0, A 31, s3.sh.r 0 6 31, ⟨by omega, by omega⟩, s3.sh.k 7, t_reshape (ys := [aft rs f b, aft rs f2 a, b]) s3.1 hf (by omega) (by omega) r2a (fun p hp => ?_) (fun M4 c4 f4 => ?_)⟩
  · simp only [List.mem_cons, List.not_mem_nil, or_false] at hp
    omega
  have s4 : SD A M4 B (upr rs f [aft rs f b, aft rs f2 a, b]) (rshT f (rs f) [aft rs f b, aft rs f2 a, b] ow) th ps fe fl pe pl := s3.face c4 (fun i z => by omega) f4 (s3.2.1.go s3.sh c4 (by omega))
  have r4 := r3.kept c4 (In.not s3.sh (by omega) (by omega)) (In.not s3.sh (by omega) (by omega))
  refine ⟨s4.sh.k 0, A 7, s4.sh.r 0 1 7, s4.sh.k 0, A 33, s4.sh.r 0 7 33, ⟨by omega, by omega⟩, s4.sh.k 7, t_reshape (ys := [aft rs f2 a, aft rs f b, a]) s4.1 hf2 (by omega) (by omega) r4 (fun p hp => ?_) (fun M5 c5 f5 => ?_)⟩
  · simp only [List.mem_cons, List.not_mem_nil, or_false] at hp
    omega
  have e6 : upr rs f [aft rs f b, aft rs f2 a, b] f2 = rs f2 := by unfold upr; rw [if_neg (fun z => hne z.symm)]
  rw [e6] at f5
  have s5 : SD A M5 B (upr (upr rs f [aft rs f b, aft rs f2 a, b]) f2 [aft rs f2 a, aft rs f b, a]) (rshT f2 (rs f2) [aft rs f2 a, aft rs f b, a] (rshT f (rs f) [aft rs f b, aft rs f2 a, b] ow)) th ps fe fl pe pl := s4.face c5 (fun i z => by omega) f5 (s4.2.1.go s4.sh c5 (by omega))
  refine ⟨by omega, by omega, q M5 _ _ _ ?_ s5 g6 ?_⟩
  · show ¬ nI 1000 * nI (aft rs f b) + nI (aft rs f2 a) < 0
    rw [nI_mulx, show nI (1000 * aft rs f b) + nI (aft rs f2 a) = nI (1000 * aft rs f b + aft rs f2 a) from (Int32.ofNat_add _ _).symm]
    exact nI_pos (by omega)
  · have hab : Hv rs a b := ⟨f, hf, k, hk, ka, kb⟩
    have hba : Hv rs b a := ⟨f2, hf2, k2, hk2, kb2, ka2⟩
    have ncd := (g.zero _ _).mp o1
    have ndc := (g.zero _ _).mp o2
    have nab : ¬ Hv (upr (upr rs f [aft rs f b, aft rs f2 a, b]) f2 [aft rs f2 a, aft rs f b, a]) a b := fun z => by
      rcases (hv6 a b).mp z with y | ⟨y1, y2⟩ | ⟨y1, y2⟩
      · exact y.2.1 ⟨rfl, rfl⟩
      · rw [← y1, ← y2] at ncd; exact ncd hab
      · rw [← y1, ← y2] at ndc; exact ndc hab
    have nba : ¬ Hv (upr (upr rs f [aft rs f b, aft rs f2 a, b]) f2 [aft rs f2 a, aft rs f b, a]) b a := fun z => by
      rcases (hv6 b a).mp z with y | ⟨y1, y2⟩ | ⟨y1, y2⟩
      · exact y.2.2 ⟨rfl, rfl⟩
      · rw [← y1, ← y2] at ncd; exact ncd hba
      · rw [← y1, ← y2] at ndc; exact ndc hba
    have hcnt := opn_same g.1 g6.1 (fun u v => (u = a ∧ v = b) ∨ (u = b ∧ v = a) ∨ (u = aft rs f b ∧ v = aft rs f2 a) ∨ (u = aft rs f2 a ∧ v = aft rs f b)) (fun u v z => by omega) (fun u v z => by
      rw [hv6 u v]
      exact ⟨fun y => y.elim (fun x => x.1) (fun x => absurd x (by omega)), fun y => Or.inl ⟨y, by omega, by omega⟩⟩) (fun u v z => by
      rcases z with ⟨rfl, rfl⟩ | ⟨rfl, rfl⟩ | ⟨rfl, rfl⟩ | ⟨rfl, rfl⟩
      · exact ⟨⟨fun _ => hba, fun _ => hab⟩, ⟨fun y => absurd y nab, fun y => absurd y nba⟩⟩
      · exact ⟨⟨fun _ => hab, fun _ => hba⟩, ⟨fun y => absurd y nba, fun y => absurd y nab⟩⟩
      · exact ⟨⟨fun y => absurd y ncd, fun y => absurd y ndc⟩, ⟨fun _ => (hv6 _ _).mpr (Or.inr (Or.inr ⟨rfl, rfl⟩)), fun _ => (hv6 _ _).mpr (Or.inr (Or.inl ⟨rfl, rfl⟩))⟩⟩
      · exact ⟨⟨fun y => absurd y ndc, fun y => absurd y ncd⟩, ⟨fun _ => (hv6 _ _).mpr (Or.inr (Or.inl ⟨rfl, rfl⟩)), fun _ => (hv6 _ _).mpr (Or.inr (Or.inr ⟨rfl, rfl⟩))⟩⟩)
    have n1 := lenF_up (rs := rs) hf (ys := [aft rs f b, aft rs f2 a, b])
    have n2 := lenF_up (rs := upr rs f [aft rs f b, aft rs f2 a, b]) hf2 (ys := [aft rs f2 a, aft rs f b, a])
    rw [e6] at n2
    have x1 : [aft rs f b, aft rs f2 a, b].length = 3 := rfl
    have x2 : [aft rs f2 a, aft rs f b, a].length = 3 := rfl
    have := edges_up g h g6 s5 (k := 0) (k2 := 0) (by omega)
    omega
end
