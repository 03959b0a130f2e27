section
variable {A : Nat → Nat} {M M' : Mm} {B : Nat} {rs rs2 : Nat → List Nat} {ow ow2 : Nat → Nat → Nat} {th : Nat → Bool} {ps : Nat → Nat → Int32} {fe fl pe pl : Nat} {Cc Zz : Nat}
/-- a half may be taken by a shaped ring -/
def okH (rs : Nat → List Nat) (ow : Nat → Nat → Nat) (b u v : Nat) : Prop := ow u v = 0 ∨ b ∈ rs (ow u v - 1)
/-- the collapse of b to a fits -/
def FitC (rs : Nat → List Nat) (ow : Nat → Nat → Nat) (a b : Nat) : Prop :=
  ∀ q f, q < 100 → ow b q = f + 1 → 3 ≤ (shp (rs f) a b).length → ∀ u v, hvk (shp (rs f) a b) (shp (rs f) a b).length u v → okH rs ow b u v ∧ ∀ q2 f2, q2 < 100 → ow b q2 = f2 + 1 → f2 ≠ f → 3 ≤ (shp (rs f2) a b).length → ¬ hvk (shp (rs f2) a b) (shp (rs f2) a b).length u v
theorem t_halvesFit {S : List Nat} {b now : Nat} {mk : Nat → Nat → Nat} {Q : Int32 → Mm → Prop} (h : SD A M B rs ow th ps fe fl pe pl) (hb : b < 100) (hr : RG M (A 19) (A 20) (S.map nI)) (hS : ∀ p, p ∈ S → p < 100) (h3 : 3 ≤ S.length) (hm : MT A M now mk) (hnow : now ≤ B)
    (q0 : ∀ M', SD A M' B rs ow th ps fe fl pe pl → Q 0 M') (q1 : ∀ M' mk', SD A M' B rs ow th ps fe fl pe pl → MT A M' now mk' → (∀ u v, mk' u v = now ↔ mk u v = now ∨ hvk S S.length u v) → (∀ u v, hvk S S.length u v → okH rs ow b u v ∧ mk u v ≠ now) → Q 1 M') : T_X0_halvesFit M (A 18) (A 19) (nI b) Q := by
  unfold T_X0_halvesFit
  intro K2 K67 h2 h67
  have hl12 := hr.2.2.2.2.1
  rw [List.length_map] at hl12
  have key : ∀ d i M2 mk2, i + d = S.length → SD A M2 B rs ow th ps fe fl pe pl → RG M2 (A 19) (A 20) (S.map nI) → MT A M2 now mk2 → (∀ u v, mk2 u v = now ↔ mk u v = now ∨ hvk S i u v) → (∀ u v, hvk S i u v → okH rs ow b u v ∧ mk u v ≠ now) → K2 (A 18) (A 19) (nI b) (nI i) M2 := by
    intro d
    induction d with
    | zero =>
      intro i M2 mk2 hi s2 r2 m2 e2 f2
      have : i = S.length := by omega
      subst this
      refine h2 _ _ _ _ _ ⟨r2.1, t_length r2 ?_⟩
      rw [List.length_map]
      exact ⟨fun _ => q1 M2 mk2 s2 m2 e2 f2, fun z => absurd (nI_le (Nat.le_refl _) (by omega)) z⟩
    | succ d ih =>
      intro i M2 mk2 hi s2 r2 m2 e2 f2
      have hu := hS _ (gn_mem (xs := S) (p := i) (by omega))
      have hv := hS _ (gn_mem (xs := S) (p := i + 1) (by omega))
      have good : okH rs ow b (gn S i) (gn S (i + 1)) → K67 (A 18) (A 19) (nI b) (nI i) (nI (gn S i)) (nI (gn S (i + 1))) 0 M2 := fun ok => by
        refine h67 _ _ _ _ _ _ _ _ ⟨fun z => absurd rfl z, fun _ => ⟨s2.sh.k 18, A 12, s2.sh.r 18 1 12, s2.sh.k 12, t_mark m2 hu hv (fun _ => ⟨fun z => absurd rfl z, fun _ => q0 M2 s2⟩) (fun M3 ne c3 m3 => ⟨fun _ => ?_, fun z => absurd z (by decide)⟩)⟩⟩
        have s3 : SD A M3 B rs ow th ps fe fl pe pl := s2.go c3 (fun i z => by omega) (s2.2.2.2.2.mt s2.sh c3 (fun i z => by omega) m3 hnow)
        have r3 := r2.kept c3 (In.not s2.sh (by omega) (by omega)) (In.not s2.sh (by omega) (by omega))
        have nmk : mk (gn S i) (gn S (i + 1)) ≠ now := fun y => ne ((e2 _ _).mpr (Or.inl y))
        rw [nI_1]
        refine ih (i + 1) M3 _ (by omega) s3 r3 m3 (fun u v => ?_) (fun u v ⟨j, hj, a1, a2⟩ => ?_)
        · unfold upO
          by_cases z : u = gn S i ∧ v = gn S (i + 1)
          · rw [if_pos z]
            exact ⟨fun _ => Or.inr ⟨i, by omega, z.1.symm, z.2.symm⟩, fun _ => rfl⟩
          · rw [if_neg z, e2]
            constructor
            · intro y
              exact y.elim Or.inl (fun ⟨j, hj, a1, a2⟩ => Or.inr ⟨j, by omega, a1, a2⟩)
            · intro y
              rcases y with y | ⟨j, hj, a1, a2⟩
              · exact Or.inl y
              · refine Or.inr ⟨j, ?_, a1, a2⟩
                refine Classical.byContradiction (fun x => z ?_)
                have : j = i := by omega
                subst this
                exact ⟨a1.symm, a2.symm⟩
        · by_cases y : j < i
          · exact f2 u v ⟨j, y, a1, a2⟩
          · have : j = i := by omega
            subst this
            rw [← a1, ← a2]
            exact ⟨ok, nmk⟩
      have badk : K67 (A 18) (A 19) (nI b) (nI i) (nI (gn S i)) (nI (gn S (i + 1))) 1 M2 := h67 _ _ _ _ _ _ _ _ ⟨fun _ => q0 M2 s2, fun z => absurd z (by decide)⟩
      refine h2 _ _ _ _ _ ⟨r2.1, t_length r2 ?_⟩
      rw [List.length_map]
      refine ⟨fun z => absurd z (nI_ge (by omega) (by omega)), fun _ => ⟨r2.1, t_gt r2 (by omega) ⟨r2.1, ?_⟩⟩⟩
      rw [nI_1]
      refine t_gt r2 (by omega) ?_
      rw [gt_map (by omega), gt_map (by omega)]
      have hO := (h.1.2.2.2.1 _ _ hu hv).2
      refine ⟨s2.sh.k 18, A 7, s2.sh.r 18 0 7, s2.sh.k 7, t_owner s2.1 hu hv ⟨fun z => good (Or.inl ((oi_none (by omega)).mp z)), fun z => ?_⟩⟩
      have hne : ow (gn S i) (gn S (i + 1)) ≠ 0 := fun y => z ((oi_none (by omega)).mpr y)
      obtain ⟨f, ef⟩ := Nat.exists_eq_succ_of_ne_zero hne
      have ef : ow (gn S i) (gn S (i + 1)) = f + 1 := ef
      have hf : f < 160 := by omega
      refine ⟨s2.sh.k 18, A 7, s2.sh.r 18 0 7, s2.sh.k 7, ?_⟩
      rw [ef, oi_s]
      refine t_ring s2.1 hf ⟨(s2.1.2.1 f hf).1, t_place s2.1 hf hb (fun hm _ _ => ⟨fun _ => good (Or.inr (by rw [ef]; exact hm)), fun y => absurd y (nI_ne1 (by have := (pl_gn hm).1; have := h.1.len hf; omega))⟩) (fun _ => ⟨fun y => absurd rfl y, fun _ => badk⟩)⟩
  have := key S.length 0 M mk (by omega) h hr hm (fun u v => ⟨Or.inl, fun z => z.elim id (fun ⟨j, hj, _⟩ => absurd hj (Nat.not_lt_zero _))⟩) (fun u v ⟨j, hj, _⟩ => absurd hj (Nat.not_lt_zero _))
  rw [nI_0] at this
  exact this
theorem shp_lt {f a b : Nat} (h : FT A M rs ow) (hf : f < 160) (ha : a < 100) (hab : a ≠ b) : ∀ p, p ∈ shp (rs f) a b → p < 100 := fun p hp => by
  rcases (shp_mem hab hp).2 with z | z
  · exact h.2.2.2.2 f p hf z
  · rw [z]; exact ha
theorem one_from (w : Wf rs ow) {b q q2 f : Nat} (e1 : ow b q = f + 1) (e2 : ow b q2 = f + 1) : q = q2 := by
  obtain ⟨hf, k, hk, a1, a2⟩ := half_at_ring w e1
  obtain ⟨_, k2, hk2, b1, b2⟩ := half_at_ring w e2
  have := w.2 f k k2 hf hk hk2 (a1.trans b1.symm)
  subst this
  rw [← a2, ← b2]
/-- whether a collapse fits; only the marks and a ring of use are changed -/
theorem t_fits {a b : Nat} {Q : Int32 → Mm → Prop} (h : SD A M B rs ow th ps fe fl pe pl) (w : Wf rs ow) (ha : a < 100) (hb : b < 100) (hab : a ≠ b) (hB : B + 1 < 2 ^ 30) (q0 : ∀ M', SD A M' (B + 1) rs ow th ps fe fl pe pl → Q 0 M') (q1 : ∀ M', SD A M' (B + 1) rs ow th ps fe fl pe pl → FitC rs ow a b → Q 1 M') : T_X0_fits M (A 18) (nI a) (nI b) Q := by
  unfold T_X0_fits
  intro K hK
  obtain ⟨now, mk, m, e⟩ := h.2.2.2.2.1
  refine ⟨h.sh.k 18, A 12, h.sh.r 18 1 12, h.sh.k 12, t_takeOff m (by omega) (fun M1 c1 m1 low => ?_)⟩
  have s1 : SD A M1 (B + 1) rs ow th ps fe fl pe pl := h.go c1 (fun i z => by omega) (h.2.2.2.2.mt h.sh c1 (fun i z => by omega) m1 (by omega))
  have key : ∀ d k M2 mk2 gone, k + d = 100 → SD A M2 (B + 1) rs ow th ps fe fl pe pl → MT A M2 (now + 1) mk2 → (∀ u v, u < 100 → v < 100 → mk2 u v = now + 1 → ∃ q f, q < k ∧ ow b q = f + 1 ∧ 3 ≤ (shp (rs f) a b).length ∧ hvk (shp (rs f) a b) (shp (rs f) a b).length u v) →
      (∀ q f, q < k → ow b q = f + 1 → 3 ≤ (shp (rs f) a b).length → ∀ u v, hvk (shp (rs f) a b) (shp (rs f) a b).length u v → mk2 u v = now + 1 ∧ okH rs ow b u v ∧ ∀ q2 f2, q2 < k → ow b q2 = f2 + 1 → f2 ≠ f → 3 ≤ (shp (rs f2) a b).length → ¬ hvk (shp (rs f2) a b) (shp (rs f2) a b).length u v) → K (A 18) (nI a) (nI b) gone (nI k) M2 := by
    intro d
    induction d with
    | zero =>
      intro k M2 mk2 gone hk s2 m2 i1 i2
      have : k = 100 := by omega
      subst this
      refine hK _ _ _ _ _ _ ⟨fun _ => ⟨s2.sh.k 18, A 7, s2.sh.r 18 0 7, s2.sh.k 7, t_fleft s2 ⟨fun _ => q0 M2 s2, fun _ => q1 M2 s2 (fun q f hq e1 l3 u v x => (i2 q f hq e1 l3 u v x).2)⟩⟩, fun z => absurd (by decide) z⟩
    | succ d ih =>
      intro k M2 mk2 gone hk s2 m2 i1 i2
      have hO := (h.1.2.2.2.1 b k hb (by omega)).2
      refine hK _ _ _ _ _ _ ⟨fun z => absurd z (show ¬ nI 100 ≤ nI k from nI_ge (by omega) (by omega)), fun _ => ⟨s2.sh.k 18, A 7, s2.sh.r 18 0 7, s2.sh.k 7, t_owner s2.1 hb (by omega) ⟨fun z => ?_, fun z => ?_⟩⟩⟩
      · have e0 : ow b k = 0 := (oi_none (by omega)).mp z
        rw [nI_1]
        refine ih (k + 1) M2 mk2 gone (by omega) s2 m2 (fun u v hu hv x => ?_) (fun q f hq e1 l3 u v x => ?_)
        · obtain ⟨q, f, y1, y2⟩ := i1 u v hu hv x
          exact ⟨q, f, by omega, y2⟩
        · have hq2 : q < k := Classical.byContradiction (fun y => by
            have : q = k := by omega
            subst this
            omega)
          obtain ⟨z1, z2, z3⟩ := i2 q f hq2 e1 l3 u v x
          refine ⟨z1, z2, fun q2 f2 hq3 e2 => z3 q2 f2 ?_ e2⟩
          refine Classical.byContradiction (fun y => ?_)
          have : q2 = k := by omega
          subst this
          omega
      · have hne : ow b k ≠ 0 := fun y => z ((oi_none (by omega)).mpr y)
        obtain ⟨f, ef⟩ := Nat.exists_eq_succ_of_ne_zero hne
        have ef : ow b k = f + 1 := ef
        have hf : f < 160 := by omega
        rw [ef, oi_s]
        refine ⟨s2.sh.k 18, t_shape s2 hf ha hb (fun M3 c3 s3 r3 => ⟨s3.sh.k 19, t_length r3 ?_⟩)⟩
        rw [List.length_map]
        have m3 := m2.go c3 (by omega) (by omega)
        have l12 := shp_len (rs f) a b
        have lf := h.1.len hf
        have none_here : ¬ 3 ≤ (shp (rs f) a b).length → ∀ gone', K (A 18) (nI a) (nI b) gone' (nI k + 1) M3 := fun lt gone' => by
          rw [nI_1]
          refine ih (k + 1) M3 mk2 gone' (by omega) s3 m3 (fun u v hu hv x => ?_) (fun q f' hq e1 l3 u v x => ?_)
          · obtain ⟨q, f', y1, y2⟩ := i1 u v hu hv x
            exact ⟨q, f', by omega, y2⟩
          · have hq2 : q < k := Classical.byContradiction (fun y => by
              have : q = k := by omega
              subst this
              have : f' = f := by omega
              subst this
              exact lt l3)
            obtain ⟨z1, z2, z3⟩ := i2 q f' hq2 e1 l3 u v x
            refine ⟨z1, z2, fun q2 f2 hq3 e2 n2 l2 => ?_⟩
            by_cases y : q2 < k
            · exact z3 q2 f2 y e2 n2 l2
            · have : q2 = k := by omega
              subst this
              have : f2 = f := by omega
              subst this
              exact absurd l2 lt
        refine ⟨fun z3 => ?_, fun z3 => none_here (fun y => z3 (show nI 3 ≤ _ from nI_le y (by omega))) _⟩
        have h3 : 3 ≤ (shp (rs f) a b).length := (nI_leI (a := 3) (by omega) (by omega)).mp z3
        refine ⟨s3.sh.k 18, t_halvesFit s3 hb r3 (shp_lt s3.1 hf ha hab) h3 m3 (by omega) (fun M4 s4 => ⟨fun y => absurd rfl y, fun _ => q0 M4 s4⟩) (fun M4 mk4 s4 m4 e4 f4 => ⟨fun _ => ?_, fun y => absurd y (by decide)⟩)⟩
        rw [nI_1]
        refine ih (k + 1) M4 mk4 gone (by omega) s4 m4 (fun u v hu hv x => ?_) (fun q f' hq e1 l3 u v x => ?_)
        · rcases (e4 u v).mp x with x | x
          · obtain ⟨q, f', y1, y2⟩ := i1 u v hu hv x
            exact ⟨q, f', by omega, y2⟩
          · exact ⟨k, f, by omega, ef, h3, x⟩
        · have bd : u < 100 ∧ v < 100 := by
            have hf' : f' < 160 := by have := (h.1.2.2.2.1 b q hb (by omega)).2; omega
            exact ⟨shp_lt h.1 hf' ha hab u (hvk_in x).1, shp_lt h.1 hf' ha hab v (hvk_in x).2⟩
          by_cases y : q < k
          · obtain ⟨z1, z2, z4⟩ := i2 q f' y e1 l3 u v x
            refine ⟨(e4 u v).mpr (Or.inl z1), z2, fun q2 f2 hq3 e2 n2 l2 x2 => ?_⟩
            by_cases y2 : q2 < k
            · exact z4 q2 f2 y2 e2 n2 l2 x2
            · have : q2 = k := by omega
              subst this
              have : f2 = f := by omega
              subst this
              exact (f4 u v x2).2 z1
          · have : q = k := by omega
            subst this
            have : f' = f := by omega
            subst this
            refine ⟨(e4 u v).mpr (Or.inr x), (f4 u v x).1, fun q2 f2 hq3 e2 n2 l2 x2 => ?_⟩
            have y2 : q2 < q := Classical.byContradiction (fun y2 => by
              have : q2 = q := by omega
              subst this
              omega)
            exact (f4 u v x).2 (i2 q2 f2 y2 e2 l2 u v x2).1
  have := key 100 0 M1 mk 0 (by omega) s1 m1 (fun u v hu hv x => by have := low u v hu hv; omega) (fun q f hq => absurd hq (Nat.not_lt_zero _))
  rw [nI_0] at this
  exact this
end
