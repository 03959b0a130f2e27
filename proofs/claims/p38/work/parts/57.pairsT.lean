section
noncomputable def ind (p : Prop) : Nat := @ite Nat p (Classical.propDecidable p) 1 0
theorem ind_1 {p : Prop} (h : p) : ind p = 1 := by unfold ind; rw [if_pos h]
theorem ind_0 {p : Prop} (h : ¬ p) : ind p = 0 := by unfold ind; rw [if_neg h]
theorem ind_le (p : Prop) : ind p ≤ 1 := by
  by_cases h : p
  · rw [ind_1 h]
    exact Nat.le_refl _
  · rw [ind_0 h]
    exact Nat.zero_le _
/-- a FLIP, a JOIN would be done -/
def flA (rs : Nat → List Nat) (ow : Nat → Nat → Nat) (a b : Nat) : Prop := ∃ f f2, ow a b = f + 1 ∧ ow b a = f2 + 1 ∧ (rs f).length = 3 ∧ (rs f2).length = 3 ∧ aft rs f b ≠ aft rs f2 a ∧ ow (aft rs f b) (aft rs f2 a) = 0 ∧ ow (aft rs f2 a) (aft rs f b) = 0
def joA (rs : Nat → List Nat) (ow : Nat → Nat → Nat) (a b : Nat) : Prop := ∃ f f2, ow a b = f + 1 ∧ ow b a = f2 + 1 ∧ (rs f).length + (rs f2).length ≤ 14 ∧ ∀ i, i < (rs f2).length → gn (rs f2) i = a ∨ gn (rs f2) i = b ∨ gn (rs f2) i ∉ rs f
/-- what a ring's halves add to a count of pairs -/
def prS (rs : Nat → List Nat) (ow : Nat → Nat → Nat) (φ : Nat → Nat → Nat) (f i : Nat) : Nat := sumN (fun k => φ (gn (rs f) k) (gn (rs f) (k + 1)) + (if opn ow (gn (rs f) (k + 1)) (gn (rs f) k) then φ (gn (rs f) (k + 1)) (gn (rs f) k) else 0)) i
def prA (rs : Nat → List Nat) (ow : Nat → Nat → Nat) (φ : Nat → Nat → Nat) (k : Nat) : Nat := sumN (fun f => prS rs ow φ f (rs f).length) k
variable {A : Nat → Nat} {M M' : Mm} {B : Nat} {rs rs2 : Nat → List Nat} {ow ow2 : Nat → Nat → Nat} {th : Nat → Bool} {ps : Nat → Nat → Int32} {fe fl pe pl : Nat} {Cc Zz : Nat}
theorem prS_le {φ : Nat → Nat → Nat} (h : ∀ a b, φ a b ≤ 1) (f : Nat) : ∀ i, prS rs ow φ f i ≤ 2 * i := by
  intro i
  induction i with
  | zero => exact Nat.le_refl _
  | succ i ih =>
    show prS rs ow φ f i + (φ (gn (rs f) i) (gn (rs f) (i + 1)) + (if opn ow (gn (rs f) (i + 1)) (gn (rs f) i) then φ (gn (rs f) (i + 1)) (gn (rs f) i) else 0)) ≤ 2 * (i + 1)
    have h1 := h (gn (rs f) i) (gn (rs f) (i + 1))
    have h2 := h (gn (rs f) (i + 1)) (gn (rs f) i)
    split <;> omega
/-- counting pairs: between the sums of lo and hi -/
theorem t_pairs {w : Int32} {lo hi : Nat → Nat → Nat} {Q : Int32 → Mm → Prop} (h : SD A M B rs ow th ps fe fl pe pl) (g : Gd rs ow th ps fe fl pe pl) (hlo : ∀ a b, lo a b ≤ 1) (hhi : ∀ a b, hi a b ≤ 1) (hB : B + 8000 < 2 ^ 30)
    (hal : ∀ j M2 a b (R : Int32 → Mm → Prop), j < 8000 → SD A M2 (B + j) rs ow th ps fe fl pe pl → a < 100 → b < 100 → a ≠ b → (ow a b ≠ 0 ∨ ow b a ≠ 0) → (∀ M' v, lo a b ≤ v → v ≤ hi a b → SD A M' (B + (j + 1)) rs ow th ps fe fl pe pl → R (nI v) M') → T_X8_isAllowed M2 (A 0) w (nI a) (nI b) R)
    (q : ∀ M' c, prA rs ow lo fe ≤ c → c ≤ prA rs ow hi fe → SD A M' (B + 8000) rs ow th ps fe fl pe pl → Q (nI c) M') : T_X8_countPairs M (A 0) w Q := by
  unfold T_X8_countPairs
  intro K4 K28 K76 h4 h28 h76
  have hfe := h.2.1.2.2.1
  have key : ∀ d f c j M2, f + d = fe → j ≤ 24 * f → prA rs ow lo f ≤ c → c ≤ prA rs ow hi f → c ≤ 24 * f → SD A M2 (B + j) rs ow th ps fe fl pe pl → K4 (A 0) w (nI c) (nI f) M2 := by
    intro d
    induction d with
    | zero =>
      intro f c j M2 hd hj c1 c2 c3 s2
      have : f = fe := by omega
      subst this
      exact h4 _ _ _ _ _ ⟨s2.sh.k 0, A 7, s2.sh.r 0 1 7, s2.sh.k 7, t_fever s2 ⟨fun _ => q M2 c c1 c2 (s2.up (by omega)), fun z => absurd (nI_le (Nat.le_refl _) (by omega)) z⟩⟩
    | succ d ih =>
      intro f c j M2 hd hj c1 c2 c3 s2
      have hf : f < 160 := by omega
      have hl := h.1.len hf
      have inner : ∀ d2 i c j M3, i + d2 = (rs f).length → j ≤ 24 * f + 2 * i → prA rs ow lo f + prS rs ow lo f i ≤ c → c ≤ prA rs ow hi f + prS rs ow hi f i → c ≤ 24 * f + 2 * i → SD A M3 (B + j) rs ow th ps fe fl pe pl → K28 (A 0) w (nI c) (nI f) (A (64 + 2 * f)) (nI i) M3 := by
        intro d2
        induction d2 with
        | zero =>
          intro i c j M3 hi2 hj2 b1 b2 b3 s3
          have : i = (rs f).length := by omega
          subst this
          refine h28 _ _ _ _ _ _ _ ⟨(s3.1.2.1 f hf).1, t_length (s3.1.2.1 f hf) ?_⟩
          rw [List.length_map]
          refine ⟨fun _ => ?_, fun z => absurd (nI_le (Nat.le_refl _) (by omega)) z⟩
          rw [nI_1]
          exact ih (f + 1) c j M3 (by omega) (by omega) b1 b2 (by omega) s3
        | succ d2 ih2 =>
          intro i c j M3 hi2 hj2 b1 b2 b3 s3
          have hu := h.1.2.2.2.2 f _ hf (gn_mem (xs := rs f) (p := i) (by omega))
          have hv := h.1.2.2.2.2 f _ hf (gn_mem (xs := rs f) (p := i + 1) (by omega))
          have hne : rs f ≠ [] := fun y => by rw [y] at hi2; simp at hi2
          have own : ow (gn (rs f) i) (gn (rs f) (i + 1)) = f + 1 := (g.1.1 _ _ f).mpr ⟨hf, i, by omega, rfl, rfl⟩
          have nab := (g.half (a := gn (rs f) i) (b := gn (rs f) (i + 1)) (by omega)).2.2
          have st : ∀ φ : Nat → Nat → Nat, prS rs ow φ f (i + 1) = prS rs ow φ f i + (φ (gn (rs f) i) (gn (rs f) (i + 1)) + (if opn ow (gn (rs f) (i + 1)) (gn (rs f) i) then φ (gn (rs f) (i + 1)) (gn (rs f) i) else 0)) := fun φ => rfl
          -- behind the first question
          have second : ∀ v M4, lo (gn (rs f) i) (gn (rs f) (i + 1)) ≤ v → v ≤ hi (gn (rs f) i) (gn (rs f) (i + 1)) → SD A M4 (B + (j + 1)) rs ow th ps fe fl pe pl → K76 (A 0) w (nI f) (A (64 + 2 * f)) (nI i) (nI (gn (rs f) i)) (nI (gn (rs f) (i + 1))) (nI c) (nI v) M4 := by
            intro v M4 v1 v2 s4
            have hv1 := hhi (gn (rs f) i) (gn (rs f) (i + 1))
            refine h76 _ _ _ _ _ _ _ _ _ _ ⟨s4.sh.k 0, A 7, s4.sh.r 0 1 7, s4.sh.k 7, t_isOpen s4.1 hv hu (fun o1 o2 => ⟨fun z => absurd z (by decide), fun _ => ⟨s4.sh.k 0, hal (j + 1) M4 _ _ _ (by omega) s4 hv hu (fun y => nab y.symm) (Or.inr o2) (fun M5 x x1 x2 s5 => ⟨fun z => ?_, fun z => ?_⟩)⟩⟩) (fun no => ⟨fun _ => ?_, fun z => absurd rfl z⟩)⟩
            · have hx1 := hhi (gn (rs f) (i + 1)) (gn (rs f) i)
              have x0 : x = 0 := (nI_eq (b := 0) (by omega) (by omega)).mp (by rw [nI_0]; exact z)
              rw [nI_add, Int32.add_zero, nI_1]
              refine ih2 (i + 1) (c + v) (j + 1 + 1) M5 (by omega) (by omega) ?_ ?_ (by omega) s5
              · rw [st, if_pos ⟨o1, o2⟩]; omega
              · rw [st, if_pos ⟨o1, o2⟩]; omega
            · have hx1 := hhi (gn (rs f) (i + 1)) (gn (rs f) i)
              have x0 : x ≠ 0 := fun y => z (by rw [y]; exact nI_0)
              rw [nI_add, nI_1, nI_1]
              refine ih2 (i + 1) (c + v + 1) (j + 1 + 1) M5 (by omega) (by omega) ?_ ?_ (by omega) s5
              · rw [st, if_pos ⟨o1, o2⟩]; omega
              · rw [st, if_pos ⟨o1, o2⟩]; omega
            · rw [nI_add, Int32.add_zero, nI_1]
              refine ih2 (i + 1) (c + v) (j + 1) M4 (by omega) (by omega) ?_ ?_ (by omega) s4
              · rw [st, if_neg no]; omega
              · rw [st, if_neg no]; omega
          refine h28 _ _ _ _ _ _ _ ⟨(s3.1.2.1 f hf).1, t_length (s3.1.2.1 f hf) ?_⟩
          rw [List.length_map]
          refine ⟨fun z => absurd z (nI_ge (by omega) (by omega)), fun _ => ⟨(s3.1.2.1 f hf).1, t_gt (s3.1.2.1 f hf) (by omega) ⟨(s3.1.2.1 f hf).1, ?_⟩⟩⟩
          rw [nI_1]
          refine t_gt (s3.1.2.1 f hf) (by omega) ?_
          rw [gt_map (by omega), gt_map (by omega)]
          have hv1 := hhi (gn (rs f) i) (gn (rs f) (i + 1))
          refine ⟨s3.sh.k 0, hal j M3 _ _ _ (by omega) s3 hu hv nab (Or.inl (by omega)) (fun M4 v v1 v2 s4 => ⟨fun z => ?_, fun z => ?_⟩)⟩
          · have v0 : v = 0 := (nI_eq (b := 0) (by omega) (by omega)).mp (by rw [nI_0]; exact z)
            subst v0
            have := second 0 M4 v1 v2 s4
            rw [nI_0] at this
            exact this
          · have v0 : v = 1 := by
              have : v ≠ 0 := fun y => z (by rw [y]; exact nI_0)
              omega
            subst v0
            exact second 1 M4 v1 v2 s4
      refine h4 _ _ _ _ _ ⟨s2.sh.k 0, A 7, s2.sh.r 0 1 7, s2.sh.k 7, t_fever s2 ⟨fun z => absurd z (nI_ge (by omega) (by omega)), fun _ => ⟨s2.sh.k 0, A 7, s2.sh.r 0 1 7, s2.sh.k 7, t_ring s2.1 hf ?_⟩⟩⟩
      have := inner (rs f).length 0 c j M2 (by omega) (by omega) c1 c2 (by omega) s2
      rw [nI_0] at this
      exact this
  have := key fe 0 0 0 M (by omega) (by omega) (Nat.le_refl _) (Nat.le_refl _) (by omega) h
  rw [nI_0] at this
  exact this
/-- no more than two for each EDGE -/
theorem prA_edges {φ : Nat → Nat → Nat} (hφ : ∀ a b, φ a b ≤ 1) (h : SD A M B rs ow th ps fe fl pe pl) (g : Gd rs ow th ps fe fl pe pl) : prA rs ow φ fe ≤ 2 * eC rs ow fe := by
  have ok := g.ok h.1
  have hfe := h.2.1.2.2.1
  have e1 : prA rs ow φ fe ≤ sumN (fun f => sumN (fun i => (fun a b => 1 + if opn ow b a then 1 else 0) (gn (rs f) i) (gn (rs f) (i + 1))) (rs f).length) fe := by
    have mono : ∀ (g1 g2 : Nat → Nat) n, (∀ k, k < n → g1 k ≤ g2 k) → sumN g1 n ≤ sumN g2 n := by
      intro g1 g2 n
      induction n with
      | zero => intro _; exact Nat.le_refl _
      | succ n ih =>
        intro hh
        have a1 := ih (fun k hk => hh k (by omega))
        have a2 := hh n (by omega)
        show sumN g1 n + g1 n ≤ sumN g2 n + g2 n
        omega
    refine mono _ _ fe (fun f _ => mono _ _ _ (fun i _ => ?_))
    have a1 := hφ (gn (rs f) i) (gn (rs f) (i + 1))
    have a2 := hφ (gn (rs f) (i + 1)) (gn (rs f) i)
    show φ (gn (rs f) i) (gn (rs f) (i + 1)) + (if opn ow (gn (rs f) (i + 1)) (gn (rs f) i) then φ (gn (rs f) (i + 1)) (gn (rs f) i) else 0) ≤ 1 + if opn ow (gn (rs f) (i + 1)) (gn (rs f) i) then 1 else 0
    split <;> omega
  rw [sum_all ok (fun a b => 1 + if opn ow b a then 1 else 0) hfe (fun f hf _ => g.2.2.1 f hf), sumP_add (fun _ _ => 1) (fun a b => if opn ow b a then 1 else 0)] at e1
  have e2 := lenF_P ok hfe (fun f hf _ => g.2.2.1 f hf)
  have e3 : sumP (fun a b => ow a b ≠ 0) (fun a b => if opn ow b a then 1 else 0) = cntP (fun a b => opn ow a b) := by
    rw [sumP_swap]
    unfold sumP cntP
    refine sumN_same (fun a ha => sumN_same (fun b hb => ?_))
    by_cases o : opn ow a b
    · rw [if_pos o.2, if_pos o]
      exact if_pos o
    · rw [if_neg o]
      split
      · exact if_neg o
      · rfl
  have e4 := edges2 ok g.noloop hfe (fun f hf _ => g.2.2.1 f hf)
  omega
end
section
variable {A : Nat → Nat} {M M' : Mm} {B : Nat} {rs rs2 : Nat → List Nat} {ow ow2 : Nat → Nat → Nat} {th : Nat → Bool} {ps : Nat → Nat → Int32} {fe fl pe pl : Nat} {Cc Zz : Nat}
theorem al_0 {a b j : Nat} {R : Int32 → Mm → Prop} (h : SD A M (B + j) rs ow th ps fe fl pe pl) (w : Wf rs ow) (ha : a < 100) (hb : b < 100) (hab : a ≠ b) (hB : B + j + 1 < 2 ^ 30) (q : ∀ M' v, 0 ≤ v → v ≤ 1 → SD A M' (B + (j + 1)) rs ow th ps fe fl pe pl → R (nI v) M') : T_X8_isAllowed M (A 0) 0 (nI a) (nI b) R := by
  unfold T_X8_isAllowed
  refine ⟨fun _ => ⟨h.sh.k 0, A 18, h.sh.r 0 3 18, h.sh.k 18, t_fits h w ha hb hab hB (fun M2 s2 => ⟨Or.inl rfl, ?_⟩) (fun M2 s2 _ => ⟨Or.inr rfl, ?_⟩)⟩, fun z => absurd z (by decide), fun z => absurd rfl z.1⟩
  · have := q M2 0 (Nat.le_refl _) (Nat.zero_le _) s2
    rw [nI_0] at this
    exact this
  · exact q M2 1 (Nat.zero_le _) (Nat.le_refl _) s2
theorem al_1 {a b j : Nat} {R : Int32 → Mm → Prop} (h : SD A M (B + j) rs ow th ps fe fl pe pl) (g : Gd rs ow th ps fe fl pe pl) (ha : a < 100) (hb : b < 100) (q : ∀ M' v, ind (flA rs ow a b) ≤ v → v ≤ ind (flA rs ow a b) → SD A M' (B + (j + 1)) rs ow th ps fe fl pe pl → R (nI v) M') : T_X8_isAllowed M (A 0) 1 (nI a) (nI b) R := by
  unfold T_X8_isAllowed
  have up := h.up (B2 := B + (j + 1)) (by omega)
  have no : ¬ flA rs ow a b → R 0 M := fun n => by
    have := q M 0 (Nat.le_of_eq (ind_0 n)) (Nat.zero_le _) up
    rw [nI_0] at this
    exact this
  refine ⟨fun z => absurd z (by decide), fun _ => ⟨h.sh.k 0, n_between h ha hb (fun f f2 e1 e2 l1 l2 => ⟨fun z => absurd z (by decide), fun _ => ?_⟩) (fun n => ⟨fun _ => no (fun ⟨f, f2, e1, e2, l1, l2, _⟩ => n f f2 e1 e2 l1 l2), fun z => absurd rfl z⟩)⟩, fun z => absurd rfl z.2⟩
  obtain ⟨hf, k, hk, ka, kb⟩ := half_at_ring g.1 e1
  obtain ⟨hf2, k2, hk2, kb2, ka2⟩ := half_at_ring g.1 e2
  have mb : b ∈ rs f := kb ▸ gn_mem (by omega)
  have ma : a ∈ rs f2 := ka2 ▸ gn_mem (by omega)
  refine ⟨h.sh.k 0, n_flipFits h ha hb hf hf2 e1 e2 mb ma (fun x1 x2 x3 => ⟨fun z => absurd z (by decide), fun _ => ?_⟩) (fun n => ⟨fun _ => no (fun ⟨f', f2', y1, y2, _, _, y3⟩ => ?_), fun z => absurd rfl z⟩)⟩
  · have hy : flA rs ow a b := ⟨f, f2, e1, e2, l1, l2, x1, x2, x3⟩
    exact q M 1 (ind_le _) (Nat.le_of_eq (ind_1 hy).symm) up
  · have : f' = f := by omega
    subst this
    have : f2' = f2 := by omega
    subst this
    exact n y3
theorem al_2 {a b j : Nat} {R : Int32 → Mm → Prop} (h : SD A M (B + j) rs ow th ps fe fl pe pl) (ha : a < 100) (hb : b < 100) (q : ∀ M' v, ind (joA rs ow a b) ≤ v → v ≤ ind (joA rs ow a b) → SD A M' (B + (j + 1)) rs ow th ps fe fl pe pl → R (nI v) M') : T_X8_isAllowed M (A 0) 2 (nI a) (nI b) R := by
  unfold T_X8_isAllowed
  have up := h.up (B2 := B + (j + 1)) (by omega)
  have no : ¬ joA rs ow a b → R 0 M := fun n => by
    have := q M 0 (Nat.le_of_eq (ind_0 n)) (Nat.zero_le _) up
    rw [nI_0] at this
    exact this
  refine ⟨fun z => absurd z (by decide), fun z => absurd z (by decide), fun _ => ⟨h.sh.k 0, A 7, h.sh.r 0 1 7, h.sh.k 7, t_isInner h.1 ha hb (fun i1 i2 => ⟨fun z => absurd z (by decide), fun _ => ?_⟩) (fun n => ⟨fun _ => no (fun ⟨f, f2, e1, e2, _⟩ => by rcases n with n | n <;> omega), fun z => absurd rfl z⟩)⟩⟩
  obtain ⟨f, e1⟩ := Nat.exists_eq_succ_of_ne_zero i1
  obtain ⟨f2, e2⟩ := Nat.exists_eq_succ_of_ne_zero i2
  have e1 : ow a b = f + 1 := e1
  have e2 : ow b a = f2 + 1 := e2
  refine ⟨h.sh.k 0, n_joinFits h ha hb e1 e2 (fun x1 x2 => ⟨fun z => absurd z (by decide), fun _ => ?_⟩) (fun n => ⟨fun _ => no (fun ⟨f', f2', y1, y2, y3⟩ => ?_), fun z => absurd rfl z⟩)⟩
  · have hy : joA rs ow a b := ⟨f, f2, e1, e2, x1, x2⟩
    exact q M 1 (ind_le _) (Nat.le_of_eq (ind_1 hy).symm) up
  · have : f' = f := by omega
    subst this
    have : f2' = f2 := by omega
    subst this
    exact n y3
/-- may(what): no more pairs than edges have ends -/
theorem a_may {k : Nat} {Q : Int32 → Mm → Prop} {X : String → Mm → Prop} (h : SD A M B rs ow th ps fe fl pe pl) (g : Gd rs ow th ps fe fl pe pl) (hk : k < 3) (hB : B + 9000 < 2 ^ 30) (hc : 1 ≤ Cc) (hz : 6 ≤ Zz) (q : ∀ M' c, c ≤ 2 * eC rs ow fe → SD A M' (B + 8000) rs ow th ps fe fl pe pl → Q (nI c) M') : T_X8_may Cc Zz M (A 0) (nI k) Q X := by
  unfold T_X8_may
  intro K14 h14
  have pe0 := prA_edges (φ := fun _ _ => 1) (fun _ _ => Nat.le_refl _) h g
  refine ⟨fun z => absurd z (nI_pos (by omega)), fun _ => ⟨fun z => absurd z (show ¬ nI 2 < nI k from nI_nlt (by omega) (by omega)), fun _ => h14 _ _ _ _ _ _ ⟨1, 6, ⟨by omega, by omega⟩, n_arg (by omega) (by omega) (fun _ => ⟨⟨by omega, by omega⟩, h.sh.k 0, ?_⟩) (fun z => absurd z (by decide))⟩⟩⟩
  have : k = 0 ∨ k = 1 ∨ k = 2 := by omega
  rcases this with rfl | rfl | rfl
  · rw [nI_0]
    exact t_pairs (lo := fun _ _ => 0) (hi := fun _ _ => 1) h g (fun _ _ => Nat.zero_le _) (fun _ _ => Nat.le_refl _) (by omega) (fun j M2 a b R hj s2 ha hb hab _ q2 => al_0 s2 g.1 ha hb hab (by omega) q2) (fun M2 c _ c2 s2 => ⟨by omega, by omega, q M2 c (Nat.le_trans c2 pe0) s2⟩)
  · exact t_pairs (w := 1) (lo := fun a b => ind (flA rs ow a b)) (hi := fun a b => ind (flA rs ow a b)) h g (fun _ _ => ind_le _) (fun _ _ => ind_le _) (by omega) (fun j M2 a b R hj s2 ha hb hab _ q2 => al_1 s2 g ha hb q2) (fun M2 c _ c2 s2 => ⟨by omega, by omega, q M2 c (Nat.le_trans c2 (prA_edges (fun _ _ => ind_le _) h g)) s2⟩)
  · exact t_pairs (w := 2) (lo := fun a b => ind (joA rs ow a b)) (hi := fun a b => ind (joA rs ow a b)) h g (fun _ _ => ind_le _) (fun _ _ => ind_le _) (by omega) (fun j M2 a b R hj s2 ha hb hab _ q2 => al_2 s2 ha hb q2) (fun M2 c _ c2 s2 => ⟨by omega, by omega, q M2 c (Nat.le_trans c2 (prA_edges (fun _ _ => ind_le _) h g)) s2⟩)
end
