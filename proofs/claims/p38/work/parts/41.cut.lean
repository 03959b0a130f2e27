section
variable {A : Nat → Nat} {M M' : Mm} {B : Nat} {rs rs2 : Nat → List Nat} {ow ow2 : Nat → Nat → Nat} {th th2 : Nat → Bool} {ps ps2 : Nat → Nat → Int32} {fe fl pe pl fe2 fl2 pe2 pl2 : Nat}
/-- a ring's halves, from any place on -/
theorem hv_from {xs : List Nat} (hn : 0 < xs.length) (s a b : Nat) : hvk xs xs.length a b ↔ ∃ i, i < xs.length ∧ gn xs (s + i) = a ∧ gn xs (s + i + 1) = b := by
  constructor
  · intro ⟨k, hk, e1, e2⟩
    have hs : s % xs.length < xs.length := Nat.mod_lt _ hn
    by_cases z : s % xs.length ≤ k
    · refine ⟨k - s % xs.length, by omega, ?_, ?_⟩
      · rw [← gn_mod, Nat.add_mod, Nat.mod_eq_of_lt (show k - s % xs.length < xs.length by omega), show s % xs.length + (k - s % xs.length) = k by omega, gn_mod]
        exact e1
      · rw [← gn_mod1, Nat.add_mod, Nat.mod_eq_of_lt (show k - s % xs.length < xs.length by omega), show s % xs.length + (k - s % xs.length) = k by omega, gn_mod1]
        exact e2
    · refine ⟨k + xs.length - s % xs.length, by omega, ?_, ?_⟩
      · rw [← gn_mod, Nat.add_mod, Nat.mod_eq_of_lt (show k + xs.length - s % xs.length < xs.length by omega), show s % xs.length + (k + xs.length - s % xs.length) = k + xs.length by omega, gn_mod, gn_add]
        exact e1
      · rw [← gn_mod1, Nat.add_mod, Nat.mod_eq_of_lt (show k + xs.length - s % xs.length < xs.length by omega), show s % xs.length + (k + xs.length - s % xs.length) = k + xs.length by omega, gn_mod1, show k + xs.length + 1 = k + 1 + xs.length by omega, gn_add]
        exact e2
  · intro ⟨i, _, e1, e2⟩
    have := hv_any hn (s + i)
    rw [e1, e2] at this
    exact this
theorem cut_hv (w : Wf rs ow) {f s c : Nat} (hf : f < 160) (h1 : 1 < c) (h2 : c + 1 < (rs f).length) (u v : Nat) :
    (hvk (rs f) (rs f).length u v ↔ (∃ i, i < c ∧ gn (rs f) (s + i) = u ∧ gn (rs f) (s + i + 1) = v) ∨ ∃ i, i < (rs f).length - c ∧ gn (rs f) (s + c + i) = u ∧ gn (rs f) (s + c + i + 1) = v) ∧ ¬ ((∃ i, i < c ∧ gn (rs f) (s + i) = u ∧ gn (rs f) (s + i + 1) = v) ∧ ∃ i, i < (rs f).length - c ∧ gn (rs f) (s + c + i) = u ∧ gn (rs f) (s + c + i + 1) = v) := by
  refine ⟨?_, ?_⟩
  · rw [hv_from (by omega) s]
    constructor
    · intro ⟨i, hi, e1, e2⟩
      by_cases z : i < c
      · exact Or.inl ⟨i, z, e1, e2⟩
      · refine Or.inr ⟨i - c, by omega, ?_, ?_⟩
        · rw [show s + c + (i - c) = s + i by omega]; exact e1
        · rw [show s + c + (i - c) + 1 = s + i + 1 by omega]; exact e2
    · intro z
      rcases z with ⟨i, hi, e1, e2⟩ | ⟨i, hi, e1, e2⟩
      · exact ⟨i, by omega, e1, e2⟩
      · exact ⟨c + i, by omega, by rw [show s + (c + i) = s + c + i by omega]; exact e1, by rw [show s + (c + i) + 1 = s + c + i + 1 by omega]; exact e2⟩
  · intro ⟨⟨i, hi, e1, _⟩, j, hj, e3, _⟩
    have := gn_off w hf (s := s) (i := i) (j := c + j) (by omega) (by omega) (by rw [e1, show s + (c + j) = s + c + j by omega, e3])
    omega
/-- a face cut in two: what it is then -/
theorem cut_data (g : Gd rs ow th ps fe fl pe pl) {f s c : Nat} (hf : f < 160) (hfe : fe < 160) (h1 : 1 < c) (h2 : c + 1 < (rs f).length) (hab : ow (gn (rs f) s) (gn (rs f) (s + c)) = 0) (hba : ow (gn (rs f) (s + c)) (gn (rs f) s) = 0) :
    Gd (upr rs f (stN (rs f) s (c + 1))) (rshT f (rs f) (stN (rs f) s (c + 1)) ow) th ps fe fl pe pl ∧
    (∀ u v, hvk (stN (rs f) (s + c) ((rs f).length - c + 1)) ((rs f).length - c + 1) u v → rshT f (rs f) (stN (rs f) s (c + 1)) ow u v = 0) ∧
    ∀ u v, Hv (upr (upr rs f (stN (rs f) s (c + 1))) fe (stN (rs f) (s + c) ((rs f).length - c + 1))) u v ↔ Hv rs u v ∨ (u = gn (rs f) s ∧ v = gn (rs f) (s + c)) ∨ (u = gn (rs f) (s + c) ∧ v = gn (rs f) s) := by
  have hne : rs f ≠ [] := fun z => by rw [z] at h2; exact absurd h2 (Nat.not_lt_zero _)
  have hlt : f < fe := Classical.byContradiction (fun z => hne (g.2.2.1 f (by omega)))
  have w := g.1
  have sp := fun u v => cut_hv w (s := s) hf h1 h2 u v
  have l1 := stN_len (rs f) s (c + 1)
  have l2 := stN_len (rs f) (s + c) ((rs f).length - c + 1)
  have v1 : ∀ u v, hvk (stN (rs f) s (c + 1)) (stN (rs f) s (c + 1)).length u v ↔ (∃ i, i < c ∧ gn (rs f) (s + i) = u ∧ gn (rs f) (s + i + 1) = v) ∨ (gn (rs f) (s + c) = u ∧ gn (rs f) s = v) := fun u v => by
    rw [l1]; exact stN_hv (by omega) u v
  have v2 : ∀ u v, hvk (stN (rs f) (s + c) ((rs f).length - c + 1)) ((rs f).length - c + 1) u v ↔ (∃ i, i < (rs f).length - c ∧ gn (rs f) (s + c + i) = u ∧ gn (rs f) (s + c + i + 1) = v) ∨ (gn (rs f) s = u ∧ gn (rs f) (s + c) = v) := fun u v => by
    rw [stN_hv (by omega) u v, show s + c + ((rs f).length - c) = s + (rs f).length by omega, gn_add]
  have nab : ∀ k, k < 160 → ¬ hvk (rs k) (rs k).length (gn (rs f) s) (gn (rs f) (s + c)) := fun k hk z => (g.zero _ _).mp hab ⟨k, hk, z⟩
  have nba : ∀ k, k < 160 → ¬ hvk (rs k) (rs k).length (gn (rs f) (s + c)) (gn (rs f) s) := fun k hk z => (g.zero _ _).mp hba ⟨k, hk, z⟩
  have dab : gn (rs f) s ≠ gn (rs f) (s + c) := fun z => by
    have := gn_off w hf (s := s) (i := 0) (j := c) (by omega) (by omega) z
    omega
  have g1 : Gd (upr rs f (stN (rs f) s (c + 1))) (rshT f (rs f) (stN (rs f) s (c + 1)) ow) th ps fe fl pe pl := by
    refine g.re hf hne (by omega) (stN_dist w hf (by omega)) (fun u v z => ?_) (fun p hp => g.2.2.2.2.2.2.1 f p (stN_mem (by omega) hp))
    rcases (v1 u v).mp z with y | ⟨e1, e2⟩
    · exact Or.inr ((w.1 u v f).mpr ⟨hf, (sp u v).1.mpr (Or.inl y)⟩)
    · rw [← e1, ← e2]
      exact Or.inl hba
  have h3 : ∀ u v, Hv (upr rs f (stN (rs f) s (c + 1))) u v ↔ ((∃ i, i < c ∧ gn (rs f) (s + i) = u ∧ gn (rs f) (s + i + 1) = v) ∨ (gn (rs f) (s + c) = u ∧ gn (rs f) s = v)) ∨ (Hv rs u v ∧ ¬ hvk (rs f) (rs f).length u v) := fun u v => by
    rw [Hv_up hf, v1, Hv_oth w hf]
  refine ⟨g1, fun u v z => ?_, fun u v => ?_⟩
  · rw [wf_zero g1.1, h3]
    rcases (v2 u v).mp z with y | ⟨e1, e2⟩
    · intro q
      rcases q with (q | ⟨q1, q2⟩) | q
      · exact (sp u v).2 ⟨q, y⟩
      · refine nba f hf ((sp _ _).1.mpr (Or.inr ?_))
        rw [q1, q2]
        exact y
      · exact q.2 ((sp u v).1.mpr (Or.inr y))
    · intro q
      rcases q with (q | ⟨q1, q2⟩) | q
      · refine nab f hf ((sp _ _).1.mpr (Or.inl ?_))
        rw [e1, e2]
        exact q
      · exact dab (e1.trans q1.symm)
      · exact (g.zero _ _).mp hab (by rw [e1, e2]; exact q.1)
  · have hfe2 : ∀ a b, (∃ k, k < 160 ∧ k ≠ fe ∧ hvk (upr rs f (stN (rs f) s (c + 1)) k) (upr rs f (stN (rs f) s (c + 1)) k).length a b) ↔ Hv (upr rs f (stN (rs f) s (c + 1))) a b := fun a b => by
      refine ⟨fun ⟨k, hk, _, z⟩ => ⟨k, hk, z⟩, fun ⟨k, hk, z⟩ => ⟨k, hk, fun e => ?_, z⟩⟩
      subst e
      rw [g1.2.2.1 k (Nat.le_refl _)] at z
      obtain ⟨i, hi, -⟩ := z
      exact absurd hi (Nat.not_lt_zero _)
    rw [Hv_up hfe, hfe2, h3, l2, v2]
    have own : hvk (rs f) (rs f).length u v → Hv rs u v := fun z => ⟨f, hf, z⟩
    have s1 := (sp u v).1
    constructor
    · intro z
      rcases z with (z | ⟨e1, e2⟩) | (z | ⟨e1, e2⟩) | z
      · exact Or.inl (own (s1.mpr (Or.inr z)))
      · exact Or.inr (Or.inl ⟨e1.symm, e2.symm⟩)
      · exact Or.inl (own (s1.mpr (Or.inl z)))
      · exact Or.inr (Or.inr ⟨e1.symm, e2.symm⟩)
      · exact Or.inl z.1
    · intro z
      rcases z with z | ⟨e1, e2⟩ | ⟨e1, e2⟩
      · by_cases o : hvk (rs f) (rs f).length u v
        · rcases s1.mp o with y | y
          · exact Or.inr (Or.inl (Or.inl y))
          · exact Or.inl (Or.inl y)
        · exact Or.inr (Or.inr ⟨z, o⟩)
      · exact Or.inl (Or.inr ⟨e1.symm, e2.symm⟩)
      · exact Or.inr (Or.inl (Or.inr ⟨e1.symm, e2.symm⟩))
end
section
variable {A : Nat → Nat} {M M' : Mm} {B : Nat} {rs rs2 : Nat → List Nat} {ow ow2 : Nat → Nat → Nat} {th th2 : Nat → Bool} {ps ps2 : Nat → Nat → Int32} {fe fl pe pl fe2 fl2 pe2 pl2 : Nat} {Cc Zz : Nat}
theorem nI_ne1 {k : Nat} (h : k < 2 ^ 30) : ¬ nI k = -1 := fun e => by
  have q : ¬ nI k < 0 := nI_pos (by omega)
  rw [e] at q
  exact q (by decide)
theorem nI_one : (1 : Int32) = nI 1 := rfl
theorem nI_turn {s t n : Nat} (h : s ≤ t + n) : nI t - nI s + nI n = nI (t + n - s) := by
  rw [← pk_sub h, show nI (t + n) = nI t + nI n from Int32.ofNat_add t n, Int32.sub_eq_add_neg, Int32.sub_eq_add_neg, Int32.add_assoc, Int32.add_assoc, Int32.add_comm (-(nI s)) (nI n)]
theorem stN_mod {xs : List Nat} {s t : Nat} (c : Nat) (h : s % xs.length = t % xs.length) : stN xs s c = stN xs t c := by
  unfold stN
  refine List.map_congr_left (fun k _ => ?_)
  rw [← gn_mod xs (s + k), ← gn_mod xs (t + k), Nat.add_mod s, Nat.add_mod t, h]
theorem ring_in {x : Int32} {xs : List Nat} {k : Nat} (h : (xs.map nI)[k]? = some x) : k < xs.length ∧ x = nI (gn xs k) := by
  rw [List.getElem?_map] at h
  cases e : xs[k]? with
  | none => rw [e] at h; cases h
  | some p =>
    rw [e] at h
    have hk : k < xs.length := (List.getElem?_eq_some_iff.mp e).1
    refine ⟨hk, ?_⟩
    rw [gn_eq e]
    exact (Option.some.inj h).symm
theorem o_cut {i1 i2 i3 : Int32} {Q : Int32 → Mm → Prop} {X : String → Mm → Prop} (h : SD A M B rs ow th ps fe fl pe pl) (g : Gd rs ow th ps fe fl pe pl) (hc : 5 ≤ Cc) (hz : 30 ≤ Zz) (hX : ∀ E M', xE E → SD A M' B rs ow th ps fe fl pe pl → X E M') (q : ∀ M' rs' ow', SD A M' B rs' ow' th ps (fe + 1) (fl + 1) pe pl → Gd rs' ow' th ps (fe + 1) (fl + 1) pe pl → eC rs' ow' (fe + 1) = eC rs ow fe + 1 → 3 ≤ (rs' fe).length → Q (nI fe) M') : T_X8_cut Cc Zz M (A 0) i1 i2 i3 Q X := by
  unfold T_X8_cut
  intro K53 K82 K111 K142 h53 h82 h111 h142
  have bad53 : ∀ a4 i5 i6 cc zz, cc + 1 ≤ Cc → zz + 6 ≤ Zz → K53 (A 0) i1 i2 i3 a4 i5 i6 0 M cc zz := fun a4 i5 i6 cc zz c1 c2 => h53 _ _ _ _ _ _ _ _ _ _ _ ⟨1, 6, ⟨by omega, by omega⟩, n_arg (by omega) (by omega) (fun z => absurd rfl z) (fun _ => hX _ _ (Or.inr (Or.inl rfl)) h)⟩
  have bad111 : ∀ a4 i5 i6 i7 i8 cc zz, cc + 1 ≤ Cc → zz + 6 ≤ Zz → K111 (A 0) i1 i2 i3 a4 i5 i6 i7 i8 0 M cc zz := fun a4 i5 i6 i7 i8 cc zz c1 c2 => h111 _ _ _ _ _ _ _ _ _ _ _ _ _ ⟨1, 6, ⟨by omega, by omega⟩, n_arg (by omega) (by omega) (fun z => absurd rfl z) (fun _ => hX _ _ (Or.inr (Or.inl rfl)) h)⟩
  have bad142 : ∀ a4 i5 i6 i7 i8 cc zz, cc + 1 ≤ Cc → zz + 6 ≤ Zz → K142 (A 0) i1 a4 i5 i6 i7 i8 0 M cc zz := fun a4 i5 i6 i7 i8 cc zz c1 c2 => h142 _ _ _ _ _ _ _ _ _ _ _ ⟨1, 6, ⟨by omega, by omega⟩, n_stt (by omega) (by omega) (fun z => absurd rfl z) (fun _ => hX _ _ (Or.inr (Or.inr rfl)) h)⟩
  refine ⟨1, 6, ⟨by omega, by omega⟩, h.sh.k 0, n_fc h (by omega) (by omega) (fun f hf ef hne => ?_) (fun _ => hX _ _ (Or.inl rfl) h)⟩
  subst ef
  have hr := h.1.2.1 f hf
  have hn3 : 3 ≤ (rs f).length := (g.2.1 f).resolve_left hne
  have hn12 := h.1.len hf
  refine ⟨h.sh.k 0, A 7, h.sh.r 0 1 7, ⟨by omega, by omega⟩, h.sh.k 7, t_ring h.1 hf ?_⟩
  refine ⟨⟨by omega, by omega⟩, hr.1, t_placeOf hr (fun s es _ => ?_) (fun _ => ⟨⟨by omega, by omega⟩, hr.1, t_placeOf hr (fun t et _ => ⟨fun _ => bad53 _ _ _ _ _ (by omega) (by omega), fun z => absurd rfl z⟩) (fun _ => ⟨fun _ => bad53 _ _ _ _ _ (by omega) (by omega), fun z => absurd rfl z⟩)⟩)⟩
  obtain ⟨hs, ea⟩ := ring_in es
  have ns : ¬ nI s = -1 := nI_ne1 (by omega)
  refine ⟨⟨by omega, by omega⟩, hr.1, t_placeOf hr (fun t et _ => ?_) (fun _ => ⟨fun z => absurd z ns, fun _ => ⟨fun _ => bad53 _ _ _ _ _ (by omega) (by omega), fun z => absurd rfl z⟩⟩)⟩
  obtain ⟨ht, eb⟩ := ring_in et
  have nt : ¬ nI t = -1 := nI_ne1 (by omega)
  refine ⟨fun z => absurd z ns, fun _ => ⟨fun z => absurd z nt, fun _ => ⟨fun _ => bad53 _ _ _ _ _ (by omega) (by omega), fun eab => ?_⟩⟩⟩
  have hst : s ≠ t := fun z => by
    subst z
    exact eab (ea.trans eb.symm)
  have hpa : gn (rs f) s < 100 := h.1.2.2.2.2 f _ hf (gn_mem (by omega))
  have hpb : gn (rs f) t < 100 := h.1.2.2.2.2 f _ hf (gn_mem (by omega))
  -- the stretch from a to b has c steps
  obtain ⟨c, hc1, hc2, hc3⟩ : ∃ c, (s < t → c = t - s) ∧ (¬ s < t → c = t + (rs f).length - s) ∧ (s + c) % (rs f).length = t % (rs f).length := by
    by_cases z : s < t
    · exact ⟨t - s, fun _ => rfl, fun y => absurd z y, by rw [show s + (t - s) = t by omega]⟩
    · exact ⟨t + (rs f).length - s, fun y => absurd y z, fun _ => rfl, by rw [show s + (t + (rs f).length - s) = t + (rs f).length by omega, Nat.add_mod_right]⟩
  have hcn : 0 < c ∧ c < (rs f).length := by
    by_cases z : s < t
    · have := hc1 z; omega
    · have := hc2 z; omega
  have eb2 : gn (rs f) (s + c) = gn (rs f) t := by rw [← gn_mod, hc3, gn_mod]
  -- both counts
  have k82 : ∀ cc zz, cc + 2 ≤ Cc → zz + 12 ≤ Zz → K82 (A 0) (nI f) i2 i3 (A (64 + 2 * f)) (nI s) (nI t) (nI c) M cc zz := by
    intro cc zz cc1 zz1
    refine h82 _ _ _ _ _ _ _ _ _ _ _ ⟨⟨by omega, by omega⟩, hr.1, t_length hr ?_⟩
    rw [List.length_map, pk_sub (by omega : c ≤ (rs f).length), nI_one]
    refine ⟨fun _ => bad111 _ _ _ _ _ _ _ (by omega) (by omega), fun z1 => ⟨fun _ => bad111 _ _ _ _ _ _ _ (by omega) (by omega), fun z2 => ?_⟩⟩
    have h1 : 1 < c := Classical.byContradiction (fun w => z1 (nI_le (by omega) (by omega)))
    have h2 : c + 1 < (rs f).length := Classical.byContradiction (fun w => z2 (nI_le (by omega) (by omega)))
    refine h111 _ _ _ _ _ _ _ _ _ _ _ _ _ ⟨1, 6, ⟨by omega, by omega⟩, n_arg (by omega) (by omega) (fun _ => ?_) (fun z => absurd z (by decide))⟩
    refine ⟨h.sh.k 0, A 7, h.sh.r 0 1 7, ⟨by omega, by omega⟩, h.sh.k 7, t_room (k := 1) h (by omega) (fun hroom => ⟨fun z => absurd z (by decide), fun _ => ?_⟩) (fun _ => ⟨fun _ => bad142 _ _ _ _ _ _ _ (by omega) (by omega), fun z => absurd rfl z⟩)⟩
    rw [ea, eb]
    refine ⟨h.sh.k 0, A 7, h.sh.r 0 1 7, ⟨by omega, by omega⟩, h.sh.k 7, t_isEdge h.1 hpa hpb (fun _ => ⟨fun _ => bad142 _ _ _ _ _ _ _ (by omega) (by omega), fun z => absurd z (by decide)⟩) (fun o1 o2 => ⟨fun z => absurd rfl z, fun _ => ?_⟩)⟩
    refine h142 _ _ _ _ _ _ _ _ _ _ _ ⟨1, 6, ⟨by omega, by omega⟩, n_stt (by omega) (by omega) (fun _ => ?_) (fun z => absurd z (by decide))⟩
    obtain ⟨g1, g2, g3⟩ := cut_data g (s := s) hf (by omega) h1 h2 (by rw [eb2]; exact o1) (by rw [eb2]; exact o2)
    -- the first ring
    obtain ⟨xs, hx⟩ := h.2.2.2.2.2 31 (Or.inl rfl)
    refine ⟨h.sh.k 0, A 31, h.sh.r 0 6 31, ⟨by omega, by omega⟩, h.sh.k 31, t_clear hx (fun M2 c2 r2 => ?_)⟩
    have c2' := c2.two (A := A) (by omega) (by omega)
    have s2 : SD A M2 B rs ow th ps fe fl pe pl := h.go c2' (fun i z => by omega) (h.2.2.2.2.rg h.sh c2' (Or.inl rfl) (fun i z => z) r2)
    rw [nI_1, nI_1]
    refine ⟨s2.sh.k 0, A 31, s2.sh.r 0 6 31, ⟨by omega, by omega⟩, s2.sh.k 31, t_addStretch r2 (s2.1.2.1 f hf) (s2.sh.ne (by omega) (by omega) (by omega)) (s2.sh.ne (by omega) (by omega) (by omega)) (by omega) (by rw [List.length_nil]; omega) (fun M3 c3 r3 => ?_)⟩
    rw [List.nil_append, ← stN_map (by omega)] at r3
    have c3' := c3.two (A := A) (by omega) (by omega)
    have s3 : SD A M3 B rs ow th ps fe fl pe pl := s2.go c3' (fun i z => by omega) (s2.2.2.2.2.rg s2.sh c3' (Or.inl rfl) (fun i z => z) r3)
    -- the second ring
    obtain ⟨xs2, hx2⟩ := s3.2.2.2.2.2 33 (Or.inr (Or.inl rfl))
    refine ⟨s3.sh.k 0, A 33, s3.sh.r 0 7 33, ⟨by omega, by omega⟩, s3.sh.k 33, t_clear hx2 (fun M4 c4 r4 => ?_)⟩
    have c4' := c4.two (A := A) (by omega) (by omega)
    have s4 : SD A M4 B rs ow th ps fe fl pe pl := s3.go c4' (fun i z => by omega) (s3.2.2.2.2.rg s3.sh c4' (Or.inr (Or.inl rfl)) (fun i z => z) r4)
    have r4a := r3.kept c4' (In.not s3.sh (by omega) (by omega)) (In.not s3.sh (by omega) (by omega))
    refine ⟨s4.sh.k 0, A 33, s4.sh.r 0 7 33, ⟨by omega, by omega⟩, s4.sh.k 33, t_addStretch r4 (s4.1.2.1 f hf) (s4.sh.ne (by omega) (by omega) (by omega)) (s4.sh.ne (by omega) (by omega) (by omega)) (by omega) (by rw [List.length_nil]; omega) (fun M5 c5 r5 => ?_)⟩
    rw [List.nil_append, ← stN_map (by omega), ← stN_mod _ hc3] at r5
    have c5' := c5.two (A := A) (by omega) (by omega)
    have s5 : SD A M5 B rs ow th ps fe fl pe pl := s4.go c5' (fun i z => by omega) (s4.2.2.2.2.rg s4.sh c5' (Or.inr (Or.inl rfl)) (fun i z => z) r5)
    have r5a := r4a.kept c5' (In.not s4.sh (by omega) (by omega)) (In.not s4.sh (by omega) (by omega))
    have hmem : ∀ m p, p ∈ stN (rs f) s m → p < 100 := fun m p hp => h.1.2.2.2.2 f p hf (stN_mem (by omega) hp)
    refine ⟨s5.sh.k 0, A 7, s5.sh.r 0 1 7, s5.sh.k 0, A 31, s5.sh.r 0 6 31, ⟨by omega, by omega⟩, s5.sh.k 7, t_reshape s5.1 hf (by omega) (by omega) r5a (hmem _) (fun M6 c6 f6 => ?_)⟩
    have s6 : SD A M6 B (upr rs f (stN (rs f) s (c + 1))) (rshT f (rs f) (stN (rs f) s (c + 1)) ow) th ps fe fl pe pl := s5.face c6 (fun i z => by omega) f6 (s5.2.1.go s5.sh c6 (by omega))
    have r6 := r5.kept c6 (In.not s5.sh (by omega) (by omega)) (In.not s5.sh (by omega) (by omega))
    have l2 := stN_len (rs f) (s + c) ((rs f).length - c + 1)
    refine ⟨s6.sh.k 0, A 7, s6.sh.r 0 1 7, s6.sh.k 0, A 33, s6.sh.r 0 7 33, ⟨by omega, by omega⟩, s6.sh.k 7, o_addF s6 g1 (Or.inr (Or.inl rfl)) r6 (by omega) (by omega) (stN_dist g.1 hf (by omega)) (fun a b v => g2 a b (by have v2 := v; rw [l2] at v2; exact v2)) (fun p hp => g.2.2.2.2.2.2.1 f p (stN_mem (by omega) hp)) (fun M7 _ s7 g7 => ⟨by omega, by omega, q M7 _ _ s7 g7 ?_ ?_⟩)⟩
    · have hlt : f < fe := Classical.byContradiction (fun z => hne (g.2.2.1 f (by omega)))
      have hcnt := opn_same g.1 g7.1 (fun u v => (u = gn (rs f) s ∧ v = gn (rs f) (s + c)) ∨ (u = gn (rs f) (s + c) ∧ v = gn (rs f) s)) (fun u v z => z.elim (fun y => Or.inr ⟨y.2, y.1⟩) (fun y => Or.inl ⟨y.2, y.1⟩)) (fun u v z => ⟨fun y => ((g3 u v).mp y).resolve_right z, fun y => (g3 u v).mpr (Or.inl y)⟩) (fun u v z => ⟨?_, ?_⟩)
      · have e1 := lenF_up (rs := rs) hf (ys := stN (rs f) s (c + 1))
        have e2 := lenF_up (rs := upr rs f (stN (rs f) s (c + 1))) (f := fe) (by omega) (ys := stN (rs f) (s + c) ((rs f).length - c + 1))
        rw [stN_len] at e1 e2
        have e3 : (upr rs f (stN (rs f) s (c + 1)) fe).length = 0 := by
          rw [g1.2.2.1 fe (Nat.le_refl _)]
          rfl
        have := edges_up g h g7 s7 (k := 0) (k2 := 1) (by omega)
        omega
      · have n1 := (g.zero (gn (rs f) s) (gn (rs f) (s + c))).mp (by rw [eb2]; exact o1)
        have n2 := (g.zero (gn (rs f) (s + c)) (gn (rs f) s)).mp (by rw [eb2]; exact o2)
        rcases z with ⟨rfl, rfl⟩ | ⟨rfl, rfl⟩
        · exact ⟨fun y => absurd y n1, fun y => absurd y n2⟩
        · exact ⟨fun y => absurd y n2, fun y => absurd y n1⟩
      · rcases z with ⟨rfl, rfl⟩ | ⟨rfl, rfl⟩
        · exact ⟨fun _ => (g3 _ _).mpr (Or.inr (Or.inr ⟨rfl, rfl⟩)), fun _ => (g3 _ _).mpr (Or.inr (Or.inl ⟨rfl, rfl⟩))⟩
        · exact ⟨fun _ => (g3 _ _).mpr (Or.inr (Or.inl ⟨rfl, rfl⟩)), fun _ => (g3 _ _).mpr (Or.inr (Or.inr ⟨rfl, rfl⟩))⟩
    · have : upr (upr rs f (stN (rs f) s (c + 1))) fe (stN (rs f) (s + c) ((rs f).length - c + 1)) fe = stN (rs f) (s + c) ((rs f).length - c + 1) := by unfold upr; rw [if_pos rfl]
      rw [this, l2]
      omega
  refine h53 _ _ _ _ _ _ _ _ _ _ _ ⟨1, 6, ⟨by omega, by omega⟩, n_arg (by omega) (by omega) (fun _ => ⟨fun z => ?_, fun z => ?_⟩) (fun z => absurd z (by decide))⟩
  · have hle : ¬ s < t := fun y => by
      have := (nI_leI (by omega) (by omega)).mp z
      omega
    refine ⟨⟨by omega, by omega⟩, hr.1, t_length hr ?_⟩
    rw [List.length_map, nI_turn (by omega), ← hc2 hle]
    exact k82 _ _ (by omega) (by omega)
  · have hlt : s < t := Classical.byContradiction (fun y => z (nI_le (by omega) (by omega)))
    rw [pk_sub (by omega), ← hc1 hlt]
    exact k82 _ _ (by omega) (by omega)
end
