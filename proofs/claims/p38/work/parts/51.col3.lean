section
variable {A : Nat → Nat} {M M' : Mm} {B : Nat} {rs rs2 : Nat → List Nat} {ow ow2 : Nat → Nat → Nat} {th : Nat → Bool} {ps : Nat → Nat → Int32} {fe fl pe pl : Nat} {Cc Zz : Nat}
def colR (rs : Nat → List Nat) (a b g : Nat) : List Nat := if b ∈ rs g then (if (shp (rs g) a b).length < 3 then [] else shp (rs g) a b) else rs g
theorem from_b (w : Wf rs ow) (hp : ∀ f p, f < 160 → p ∈ rs f → p < 100) {g b : Nat} (hg : g < 160) (hb : b ∈ rs g) : ∃ q, q < 100 ∧ ow b q = g + 1 := by
  obtain ⟨h1, h2⟩ := pl_gn hb
  refine ⟨gn (rs g) (pl (rs g) b + 1), hp g _ hg (gn_mem (by omega)), (w.1 _ _ g).mpr ⟨hg, pl (rs g) b, h1, gn_eq h2, rfl⟩⟩
theorem b_from (w : Wf rs ow) {g b q : Nat} (e : ow b q = g + 1) : g < 160 ∧ b ∈ rs g := by
  have := w.mem (a := b) (b := q) (by omega)
  rw [e, Nat.add_sub_cancel] at this
  exact ⟨this.1, this.2.1⟩
theorem col_dj (w : Wf rs ow) (hp : ∀ f p, f < 160 → p ∈ rs f → p < 100) {a b : Nat} (fc : FitC rs ow a b) : Dj (colR rs a b) := by
  have cl : ∀ g u v, g < 160 → hvk (colR rs a b g) (colR rs a b g).length u v → (b ∈ rs g ∧ 3 ≤ (shp (rs g) a b).length ∧ hvk (shp (rs g) a b) (shp (rs g) a b).length u v) ∨ (b ∉ rs g ∧ ow u v = g + 1) := by
    intro g u v hg h
    unfold colR at h
    by_cases z : b ∈ rs g
    · rw [if_pos z] at h
      by_cases y : (shp (rs g) a b).length < 3
      · rw [if_pos y] at h
        obtain ⟨i, hi, _⟩ := h
        exact absurd hi (Nat.not_lt_zero _)
      · rw [if_neg y] at h
        exact Or.inl ⟨z, by omega, h⟩
    · rw [if_neg z] at h
      exact Or.inr ⟨z, (w.1 u v g).mpr ⟨hg, h⟩⟩
  intro g g2 u v hg hg2 h1 h2
  rcases cl g u v hg h1 with ⟨z1, z2, z3⟩ | ⟨z1, z2⟩
  · obtain ⟨q, hq, e⟩ := from_b w hp hg z1
    obtain ⟨f1, f2⟩ := fc q g hq e z2 u v z3
    rcases cl g2 u v hg2 h2 with ⟨y1, y2, y3⟩ | ⟨y1, y2⟩
    · refine Classical.byContradiction (fun n => ?_)
      obtain ⟨q2, hq2, e2⟩ := from_b w hp hg2 y1
      exact f2 q2 g2 hq2 e2 (fun x => n x.symm) y2 y3
    · rcases f1 with f1 | f1
      · omega
      · rw [y2, Nat.add_sub_cancel] at f1
        exact absurd f1 y1
  · rcases cl g2 u v hg2 h2 with ⟨y1, y2, y3⟩ | ⟨y1, y2⟩
    · obtain ⟨q, hq, e⟩ := from_b w hp hg2 y1
      rcases (fc q g2 hq e y2 u v y3).1 with f1 | f1
      · omega
      · rw [z2, Nat.add_sub_cancel] at f1
        exact absurd f1 z1
    · omega
theorem col_no {a b g : Nat} (hab : a ≠ b) : b ∉ colR rs a b g := by
  unfold colR
  by_cases z : b ∈ rs g
  · rw [if_pos z]
    split
    · exact List.not_mem_nil
    · exact fun y => (shp_mem hab y).1 rfl
  · rw [if_neg z]
    exact z
theorem t_apply {a b : Nat} {Q : Int32 → Mm → Prop} (h : SD A M B rs ow th ps fe fl pe pl) (g : Gd rs ow th ps fe fl pe pl) (ha : a < 100) (hb : b < 100) (hab : a ≠ b) (fc : FitC rs ow a b) (q : ∀ M' rs' ow' gone, gone ≤ fl → SD A M' B rs' ow' th ps fe (fl - gone) pe pl → (∀ k, rs' k = colR rs a b k) → Wf rs' ow' → fl - gone = NE rs' → Q (nI gone) M') : T_X0_apply M (A 18) (nI a) (nI b) Q := by
  unfold T_X0_apply
  intro K hK
  have dj := col_dj g.1 h.1.2.2.2.2 fc
  have hfl := h.2.1.2.2.2
  have key : ∀ d k M2 rs2 ow2 gone, k + d = 100 → gone ≤ fl → SD A M2 B rs2 ow2 th ps fe (fl - gone) pe pl → fl - gone = NE rs2 → Bt rs2 ow2 (fun f => ∃ q, q < k ∧ ow b q = f + 1) (colR rs a b) → (∀ f, ¬ (∃ q, q < k ∧ ow b q = f + 1) → rs2 f = rs f) → (∀ q, k ≤ q → q < 100 → ow2 b q = ow b q) → K (A 18) (nI a) (nI b) (nI gone) (nI k) M2 := by
    intro d
    induction d with
    | zero =>
      intro k M2 rs2 ow2 gone hk hg s2 n2 b2 k2 o2
      have : k = 100 := by omega
      subst this
      have nb : ∀ f, ¬ (∃ q, q < 100 ∧ ow b q = f + 1) → colR rs a b f = rs f := fun f n => by
        unfold colR
        rw [if_neg (fun z => ?_)]
        by_cases x : f < 160
        · exact n (from_b g.1 h.1.2.2.2.2 x z)
        · have e0 := g.2.2.1 f (by have := h.2.1.2.2.1; omega)
          rw [e0] at z
          cases z
      have all : ∀ f, rs2 f = colR rs a b f := fun f => by
        by_cases z : ∃ q, q < 100 ∧ ow b q = f + 1
        · obtain ⟨q, _, e⟩ := z
          exact b2.2.1 f (b_from g.1 e).1 ⟨q, by assumption, e⟩
        · rw [k2 f z, nb f z]
      have W : Wf rs2 ow2 := b2.fin dj (fun f _ z => all f) (fun f i j hf hi hj e => by
        unfold colR at hi hj e
        by_cases z : b ∈ rs f
        · rw [if_pos z] at hi hj e
          by_cases y : (shp (rs f) a b).length < 3
          · rw [if_pos y] at hi
            exact absurd hi (Nat.not_lt_zero _)
          · rw [if_neg y] at hi hj e
            exact shp_dist (fun i j hi hj e => g.1.2 f i j hf hi hj e) i j hi hj e
        · rw [if_neg z] at hi hj e
          exact g.1.2 f i j hf hi hj e)
      exact hK _ _ _ _ _ _ ⟨fun _ => q M2 rs2 ow2 gone hg s2 all W n2, fun z => absurd (by decide) z⟩
    | succ d ih =>
      intro k M2 rs2 ow2 gone hk hg s2 n2 b2 k2 o2
      have hO := (h.1.2.2.2.1 b k hb (by omega)).2
      refine hK _ _ _ _ _ _ ⟨fun z => absurd z (show ¬ nI 100 ≤ nI k from nI_ge (by omega) (by omega)), fun _ => ⟨s2.sh.k 18, A 7, s2.sh.r 18 0 7, s2.sh.k 7, t_owner s2.1 hb (by omega) ?_⟩⟩
      rw [o2 k (Nat.le_refl _) (by omega)]
      refine ⟨fun z => ?_, fun z => ?_⟩
      · have e0 : ow b k = 0 := (oi_none (by omega)).mp z
        have same : ∀ f, (∃ q, q < k ∧ ow b q = f + 1) ↔ ∃ q, q < k + 1 ∧ ow b q = f + 1 := fun f => by
          constructor
          · intro ⟨q, h1, h2⟩; exact ⟨q, by omega, h2⟩
          · intro ⟨q, h1, h2⟩
            refine ⟨q, Classical.byContradiction (fun y => ?_), h2⟩
            have : q = k := by omega
            subst this
            omega
        rw [nI_1]
        exact ih (k + 1) M2 rs2 ow2 gone (by omega) hg s2 n2 (b2.mono (fun f _ => same f)) (fun f n => k2 f (fun y => n ((same f).mp y))) (fun q h1 h2 => o2 q (by omega) h2)
      · have hne : ow b k ≠ 0 := fun y => z ((oi_none (by omega)).mpr y)
        obtain ⟨f, ef⟩ := Nat.exists_eq_succ_of_ne_zero hne
        have ef : ow b k = f + 1 := ef
        obtain ⟨hf, mb⟩ := b_from g.1 ef
        have fresh : ¬ ∃ q, q < k ∧ ow b q = f + 1 := fun ⟨q, h1, h2⟩ => by
          have := one_from g.1 h2 ef
          omega
        have ef2 : rs2 f = rs f := k2 f fresh
        have rne : rs2 f ≠ [] := fun y => by rw [ef2] at y; rw [y] at mb; cases mb
        have ec : colR rs a b f = if (shp (rs f) a b).length < 3 then [] else shp (rs f) a b := by unfold colR; rw [if_pos mb]
        have dd : ∀ x, ((∃ q, q < k ∧ ow b q = x + 1) ∨ x = f) ↔ ∃ q, q < k + 1 ∧ ow b q = x + 1 := fun x => by
          constructor
          · intro y
            rcases y with ⟨q, h1, h2⟩ | y
            · exact ⟨q, by omega, h2⟩
            · exact ⟨k, by omega, by rw [y]; exact ef⟩
          · intro ⟨q, h1, h2⟩
            by_cases y : q < k
            · exact Or.inl ⟨q, y, h2⟩
            · have : q = k := by omega
              subst this
              exact Or.inr (by omega)
        -- what the step leaves of the owners of b's halves
        have later : ∀ ys : List Nat, b ∉ ys → ∀ q, k + 1 ≤ q → q < 100 → rshT f (rs2 f) ys ow2 b q = ow b q := fun ys hy q h1 h2 => by
          obtain ⟨_, _, r3⟩ := rsh_at b2.1 (f := f) (ys := ys) b q
          rw [r3 (fun y => hy (hvk_in y).1) (fun y => ?_)]
          · exact o2 q (by omega) h2
          · rw [o2 q (by omega) h2] at y
            have := one_from g.1 y ef
            omega
        have rest : ∀ ys : List Nat, ∀ x, ¬ (∃ q, q < k + 1 ∧ ow b q = x + 1) → upr rs2 f ys x = rs x := fun ys x n => by
          have n2 := fun y => n ((dd x).mp y)
          unfold upr
          rw [if_neg (fun y => n2 (Or.inr y))]
          exact k2 x (fun y => n2 (Or.inl y))
        rw [ef, oi_s]
        refine ⟨s2.sh.k 18, t_shape s2 hf ha hb (fun M3 c3 s3 r3 => ⟨s3.sh.k 19, t_length r3 ?_⟩)⟩
        rw [List.length_map]
        rw [ef2] at r3 ⊢
        have l12 := shp_len (rs f) a b
        have lf := h.1.len hf
        refine ⟨fun z3 => ?_, fun z3 => ?_⟩
        · have h3 : 3 ≤ (shp (rs f) a b).length := (nI_leI (a := 3) (by omega) (by omega)).mp z3
          have ec3 : shp (rs f) a b = colR rs a b f := by rw [ec, if_neg (by omega)]
          refine ⟨s3.sh.k 18, A 7, s3.sh.r 18 0 7, s3.sh.k 7, t_reshape s3.1 hf (by omega) (by omega) r3 (shp_lt h.1 hf ha hab) (fun M4 c4 f4 => ?_)⟩
          have s4 := s3.face c4 (fun i z => by omega) f4 (s3.2.1.go s3.sh c4 (by omega))
          rw [nI_1]
          refine ih (k + 1) M4 _ _ gone (by omega) hg s4 ?_ ((b2.step dj hf ec3).mono (fun x _ => dd x)) (rest _) (later _ (fun y => (shp_mem hab y).1 rfl))
          have := NE_up (rs := rs2) hf (ys := shp (rs f) a b)
          rw [if_neg rne, if_neg (fun y => by rw [y] at h3; exact absurd h3 (by decide))] at this
          omega
        · have h3 : (shp (rs f) a b).length < 3 := Classical.byContradiction (fun y => z3 (show nI 3 ≤ _ from nI_le (by omega) (by omega)))
          have ec3 : [] = colR rs a b f := by rw [ec, if_pos h3]
          have ne := NE_up (rs := rs2) hf (ys := [])
          rw [if_neg rne, if_pos rfl] at ne
          refine ⟨s3.sh.k 18, A 7, s3.sh.r 18 0 7, s3.sh.k 7, t_drop s3.1 s3.2.1 hf rne (by omega) (fun M4 c4 f4 n4 => ?_)⟩
          have s4 := s3.face c4 (fun i z => by omega) f4 n4
          rw [show fl - gone - 1 = fl - (gone + 1) by omega] at s4
          rw [nI_1, nI_1]
          exact ih (k + 1) M4 _ (rshT f (rs2 f) [] ow2) (gone + 1) (by omega) (by omega) s4 (by omega) ((b2.step dj hf ec3).mono (fun x _ => dd x)) (rest _) (later _ List.not_mem_nil)
  have := key 100 0 M rs ow 0 (by omega) (Nat.zero_le _) h g.2.2.2.1 ((Bt.start g.1).mono (fun x _ => ⟨fun z => z.elim, fun ⟨q, hq, _⟩ => absurd hq (Nat.not_lt_zero _)⟩)) (fun f _ => rfl) (fun q _ _ => rfl)
  rw [nI_0] at this
  exact this
theorem o_collapse {i1 i2 : Int32} {Q : Int32 → Mm → Prop} {X : String → Mm → Prop} (h : SD A M B rs ow th ps fe fl pe pl) (g : Gd rs ow th ps fe fl pe pl) (hB : B + 1 < 2 ^ 30) (hc : 4 ≤ Cc) (hz : 24 ≤ Zz) (hX : ∀ E M', xE E → SD A M' (B + 1) rs ow th ps fe fl pe pl → X E M')
    (q : ∀ M' rs' ow' th' gone, gone ≤ fl → 0 < pl → SD A M' (B + 1) rs' ow' th' ps fe (fl - gone) pe (pl - 1) → Gd rs' ow' th' ps fe (fl - gone) pe (pl - 1) → Q (nI gone) M') : T_X8_collapse Cc Zz M (A 0) i1 i2 Q X := by
  unfold T_X8_collapse
  have up := h.up (B2 := B + 1) (by omega)
  refine ⟨2, 12, ⟨by omega, by omega⟩, h.sh.k 0, n_pts h (by omega) (by omega) (fun a b ha hb ea eb ta tb => ?_) (fun _ => hX _ _ (Or.inl rfl) up)⟩
  subst ea
  subst eb
  refine ⟨h.sh.k 0, A 7, h.sh.r 0 1 7, ⟨by omega, by omega⟩, h.sh.k 7, t_isEdge h.1 ha hb (fun he => ⟨1, 6, ⟨by omega, by omega⟩, n_arg (by omega) (by omega) (fun _ => ?_) (fun z => absurd z (by decide))⟩) (fun _ _ => ⟨1, 6, ⟨by omega, by omega⟩, n_arg (by omega) (by omega) (fun z => absurd rfl z) (fun _ => hX _ _ (Or.inr (Or.inl rfl)) up)⟩)⟩
  have hab : a ≠ b := fun e => by
    subst e
    rcases he with z | z <;> exact z (g.noloop a)
  refine ⟨h.sh.k 0, A 18, h.sh.r 0 3 18, ⟨by omega, by omega⟩, h.sh.k 18, t_fits h g.1 ha hb hab hB (fun M2 s2 => ⟨1, 6, ⟨by omega, by omega⟩, n_stt (by omega) (by omega) (fun z => absurd rfl z) (fun _ => hX _ _ (Or.inr (Or.inr rfl)) s2)⟩) (fun M2 s2 fc => ⟨1, 6, ⟨by omega, by omega⟩, n_stt (by omega) (by omega) (fun _ => ?_) (fun z => absurd z (by decide))⟩)⟩
  refine ⟨s2.sh.k 0, A 18, s2.sh.r 0 3 18, ⟨by omega, by omega⟩, s2.sh.k 18, t_apply s2 g ha hb hab fc (fun M3 rs3 ow3 gone hg s3 all W n3 => ?_)⟩
  have g3 : Gd rs3 ow3 th ps fe (fl - gone) pe pl := by
    refine ⟨W, fun k => ?_, fun k hk => ?_, n3, g.2.2.2.2.1, g.2.2.2.2.2.1, fun k p hp => ?_, g.2.2.2.2.2.2.2⟩
    · rw [all k]
      unfold colR
      by_cases z : b ∈ rs k
      · rw [if_pos z]
        split
        · exact Or.inl rfl
        · exact Or.inr (by omega)
      · rw [if_neg z]
        exact g.2.1 k
    · rw [all k]
      unfold colR
      have e0 := g.2.2.1 k hk
      rw [if_neg (fun z => by rw [e0] at z; cases z)]
      exact e0
    · rw [all k] at hp
      unfold colR at hp
      by_cases z : b ∈ rs k
      · rw [if_pos z] at hp
        split at hp
        · cases hp
        · rcases (shp_mem hab hp).2 with y | y
          · exact g.2.2.2.2.2.2.1 k p y
          · rw [y]; exact ta
      · rw [if_neg z] at hp
        exact g.2.2.2.2.2.2.1 k p hp
  obtain ⟨g4, hpl⟩ := g3.dropP hb tb (fun k => by rw [all k]; exact col_no hab)
  refine ⟨s3.sh.k 0, A 1, s3.sh.r 0 0 1, ⟨by omega, by omega⟩, s3.sh.k 1, t_pdrop s3.2.2.1 s3.2.2.2.1 hb tb hpl (fun M4 c4 p4 n4 => ⟨by omega, by omega, q M4 rs3 ow3 _ gone hg hpl (s3.point c4 (fun i z => by omega) p4 n4) g4⟩)⟩
end
