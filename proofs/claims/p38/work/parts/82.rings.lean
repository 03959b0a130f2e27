section
variable {A : Nat → Nat} {M M' : Mm} {B : Nat} {rs rs2 : Nat → List Nat} {ow ow2 : Nat → Nat → Nat} {th : Nat → Bool} {ps : Nat → Nat → Int32} {fe fl pe pl : Nat} {Cc Zz : Nat} {Q : Int32 → Mm → Prop} {X : String → Mm → Prop}
theorem RG.same {o w : Nat} {xs : List Int32} (h : RG M o w xs) (ko : kM M' o = kM M o ∧ (∀ j, iM M' o j = iM M o j) ∧ ∀ j, rM M' o j = rM M o j) (kw : kM M' w = kM M w ∧ (∀ j, iM M' w j = iM M w j) ∧ ∀ j, rM M' w j = rM M w j) : RG M' o w xs :=
  ⟨ko.1.trans h.1, (ko.2.2 0).trans h.2.1, kw.1.trans h.2.2.1, (ko.2.1 1).trans h.2.2.2.1, h.2.2.2.2.1, fun k x hk => (kw.2.1 k).trans (h.2.2.2.2.2 k x hk)⟩
/-- the mesh's own things are as they were -/
def SmA (A : Nat → Nat) (M M' : Mm) : Prop := ∀ i, i < 384 → CI i → kM M' (A i) = kM M (A i) ∧ (∀ j, iM M' (A i) j = iM M (A i) j) ∧ ∀ j, rM M' (A i) j = rM M (A i) j
theorem Sh.same (h : Sh A M) (o : SmA A M M') : Sh A M' := by
  have r35 : ∀ q ∈ rfL, q.1 < 35 := by decide
  refine ⟨h.1, fun i k e => ?_, fun q hq => ?_, fun f hf => ?_⟩
  · have hi : i < 35 := (List.getElem?_eq_some_iff.mp e).1
    exact (o i (by omega) (Or.inl hi)).1.trans (h.2.1 i k e)
  · have hi := r35 q hq
    exact ((o q.1 (by omega) (Or.inl hi)).2.2 _).trans (h.2.2.1 q hq)
  · have a := o (64 + 2 * f) (by omega) (Or.inr (by omega))
    have b := o (65 + 2 * f) (by omega) (Or.inr (by omega))
    have c := o 8 (by omega) (Or.inl (by omega))
    have hh := h.2.2.2 f hf
    exact ⟨a.1.trans hh.1, b.1.trans hh.2.1, (c.2.2 f).trans hh.2.2.1, (a.2.2 0).trans hh.2.2.2⟩
theorem SD.same (h : SD A M B rs ow th ps fe fl pe pl) (o : SmA A M M') : SD A M' B rs ow th ps fe fl pe pl := by
  have hS := h.sh.same o
  have lo : ∀ i, i < 35 → kM M' (A i) = kM M (A i) ∧ (∀ j, iM M' (A i) j = iM M (A i) j) ∧ ∀ j, rM M' (A i) j = rM M (A i) j := fun i hi => o i (by omega) (Or.inl hi)
  obtain ⟨f1, n1, p1, q1, s1⟩ := h
  refine ⟨⟨hS, fun f hf => (f1.2.1 f hf).same (o _ (by omega) (Or.inr (by omega))) (o _ (by omega) (Or.inr (by omega))), f1.2.2.1.same (lo 9 (by omega)) (lo 10 (by omega)), fun a b ha hb => ?_, f1.2.2.2.2⟩, ?_, ⟨hS, fun p hp => ?_, fun ax p ha hp => ?_⟩, ?_, ?_, fun i hi => ?_⟩
  · rw [(lo 11 (by omega)).2.1]
    exact f1.2.2.2.1 a b ha hb
  · exact ⟨((lo 7 (by omega)).2.1 3).trans n1.1, ((lo 7 (by omega)).2.1 4).trans n1.2.1, n1.2.2⟩
  · rw [(lo 6 (by omega)).2.1]
    exact p1.2.1 p hp
  · rw [(lo (3 + ax) (by omega)).2.1]
    exact p1.2.2 ax p ha hp
  · exact ⟨((lo 1 (by omega)).2.1 2).trans q1.1, ((lo 1 (by omega)).2.1 3).trans q1.2.1, q1.2.2⟩
  · obtain ⟨⟨now, mk, m, e⟩, -⟩ := s1
    exact ⟨now, mk, ⟨hS, ((lo 12 (by omega)).2.1 1).trans m.2.1, m.2.2.1, fun a b ha hb => ⟨((lo 13 (by omega)).2.1 _).trans (m.2.2.2 a b ha hb).1, (m.2.2.2 a b ha hb).2⟩⟩, e⟩
  · obtain ⟨xs, hx⟩ := s1.2 i hi
    exact ⟨xs, hx.same (lo i (by omega)) (lo (i + 1) (by omega))⟩
/-- the rows of 'has', as the memory holds them -/
def GR (A : Nat → Nat) (M : Mm) (q1 : Nat) (hs : Nat → Nat → Prop) : Prop :=
  kM M q1 = (122, 100) ∧ ∀ a, a < 100 → rM M q1 a = some (q1 + 1 + a) ∧ kM M (q1 + 1 + a) = (101, 100) ∧ q1 + 1 + a ≠ A 6 ∧ ∀ b, b < 100 → (hs a b → iM M (q1 + 1 + a) b = 1) ∧ (¬ hs a b → iM M (q1 + 1 + a) b = 0)
theorem GR.iff {q1 : Nat} {hs hs2 : Nat → Nat → Prop} (hG : GR A M q1 hs) (e : ∀ a b, hs a b ↔ hs2 a b) : GR A M q1 hs2 :=
  ⟨hG.1, fun a ha => ⟨(hG.2 a ha).1, (hG.2 a ha).2.1, (hG.2 a ha).2.2.1, fun b hb => ⟨fun z => ((hG.2 a ha).2.2.2 b hb).1 ((e a b).mpr z), fun z => ((hG.2 a ha).2.2.2 b hb).2 (fun y => z ((e a b).mp y))⟩⟩⟩
theorem GR.ch {q1 : Nat} {hs : Nat → Nat → Prop} (hG : GR A M q1 hs) (hS : Sh A M) (c : Ch (In A WyI) M M') : GR A M' q1 hs := by
  refine ⟨(c.k _).trans hG.1, fun a ha => ⟨(c.r _ _).trans (hG.2 a ha).1, (c.k _).trans (hG.2 a ha).2.1, (hG.2 a ha).2.2.1, fun b hb => ?_⟩⟩
  have n : ¬ In A WyI (q1 + 1 + a) := by
    intro ⟨i, hi, z, e⟩
    have k := (hG.2 a ha).2.1
    rw [e] at k
    rcases z with rfl | rfl | rfl
    · rw [hS.k 14] at k
      cases k
    · rw [hS.k 16] at k
      cases k
    · rw [hS.k 17] at k
      cases k
  rw [c.i n]
  exact (hG.2 a ha).2.2.2 b hb
theorem hg_ne {q1 a i : Nat} {hs : Nat → Nat → Prop} (hS : Sh A M) (hG : GR A M q1 hs) (hi : i < 384) (ci : CI i) (ha : a < 100) : q1 + 1 + a ≠ A i := by
  intro e
  have k := (hG.2 a ha).2.1
  rw [e] at k
  have six : ∀ i : Fin 35, kdL[i.val]? = some (101, 100) → i.val = 6 := by decide
  rcases ci with z | z
  · have h1 : kdL[i]? = some kdL[i] := List.getElem?_eq_getElem z
    have h2 := hS.2.1 i _ h1
    rw [k] at h2
    rw [← h2] at h1
    have h6 := six ⟨i, z⟩ h1
    have h6 : i = 6 := h6
    rw [h6] at e
    exact (hG.2 a ha).2.2.1 e
  · rcases Nat.mod_two_eq_zero_or_one i with y | y
    · have hh := (hS.2.2.2 ((i - 64) / 2) (by omega)).1
      rw [show 64 + 2 * ((i - 64) / 2) = i by omega, k] at hh
      cases hh
    · have hh := (hS.2.2.2 ((i - 64) / 2) (by omega)).2.1
      rw [show 65 + 2 * ((i - 64) / 2) = i by omega, k] at hh
      cases hh
theorem hg_put {q1 a b : Nat} {hs : Nat → Nat → Prop} (hS : Sh A M) (hG : GR A M q1 hs) (ha : a < 100) : GR A (wI M (q1 + 1 + a) b 1) q1 (fun x y => hs x y ∨ (x = a ∧ y = b)) ∧ SmA A M (wI M (q1 + 1 + a) b 1) := by
  refine ⟨⟨hG.1, fun x hx => ⟨(hG.2 x hx).1, (hG.2 x hx).2.1, (hG.2 x hx).2.2.1, fun y hy => ?_⟩⟩, fun i hi ci => ⟨rfl, fun j => ?_, fun _ => rfl⟩⟩
  · rw [iM_wI]
    by_cases z : x = a ∧ y = b
    · rw [if_pos ⟨by rw [z.1], z.2⟩]
      exact ⟨fun _ => rfl, fun n => absurd (Or.inr z) n⟩
    · rw [if_neg (fun w => z ⟨by omega, w.2⟩)]
      have := (hG.2 x hx).2.2.2 y hy
      exact ⟨fun w => this.1 (w.resolve_right z), fun n => this.2 (fun w => n (Or.inl w))⟩
  · rw [iM_wI, if_neg (fun w => hg_ne hS hG hi ci ha w.1.symm)]
theorem hg_new {q1 : Nat} (hS : Sh A M) (hq : frs M q1) : GR A (wG M q1 122 101 100 100) q1 (fun _ _ => False) ∧ SmA A M (wG M q1 122 101 100 100) := by
  have old : ∀ i, i < 384 → CI i → A i < q1 := by
    intro i hi ci
    refine frs_ne hq ?_
    rcases ci with z | z
    · have h1 : kdL[i]? = some kdL[i] := List.getElem?_eq_getElem z
      rw [hS.2.1 i _ h1]
      exact kdL_ne h1
    · rcases Nat.mod_two_eq_zero_or_one i with y | y
      · have hh := (hS.2.2.2 ((i - 64) / 2) (by omega)).1
        rw [show 64 + 2 * ((i - 64) / 2) = i by omega] at hh
        rw [hh]
        decide
      · have hh := (hS.2.2.2 ((i - 64) / 2) (by omega)).2.1
        rw [show 65 + 2 * ((i - 64) / 2) = i by omega] at hh
        rw [hh]
        decide
  have o6 := old 6 (by omega) (Or.inl (by omega))
  refine ⟨⟨by rw [kM_wG, if_pos rfl], fun a ha => ⟨?_, ?_, by omega, fun b hb => ⟨fun z => z.elim, fun _ => ?_⟩⟩⟩, fun i hi ci => ?_⟩
  · rw [rM_wG, if_pos rfl, if_pos ha]
  · rw [kM_wG, if_neg (by omega), if_pos (by omega)]
  · rw [iM_wG, if_pos (by omega)]
  · have := old i hi ci
    refine ⟨by rw [kM_wG, if_neg (by omega), if_neg (by omega)], fun j => by rw [iM_wG, if_neg (by omega)], fun j => by rw [rM_wG, if_neg (by omega), if_neg (by omega)]⟩
theorem gn_round {xs : List Nat} {k : Nat} (hn : 0 < xs.length) (hk : k < 2 ^ 30) (hl : xs.length ≤ 12) : nI k + 1 - (nI k + 1) / nI xs.length * nI xs.length = nI ((k + 1) % xs.length) := by
  rw [nI_1]
  exact pk_rem (by omega) hn (by omega)
theorem a_stepsC {a b : Nat} (h : SD A M B rs ow th ps fe fl pe pl) (g : Gd rs ow th ps fe fl pe pl) (he : ow a b ≠ 0 ∨ ow b a ≠ 0) (hc : 2 ≤ Cc) (hz : 12 ≤ Zz) (q : ∀ M', Ch (In A WyI) M M' → SD A M' B rs ow th ps fe fl pe pl → Q 1 M') : T_X8_steps Cc Zz M (A 0) (nI a) (nI b) Q X := by
  unfold T_X8_steps
  have ta : th a = true ∧ th b = true ∧ a ≠ b := by
    rcases he with z | z
    · exact g.half z
    · exact ⟨(g.half z).2.1, (g.half z).1, fun y => (g.half z).2.2 y.symm⟩
  have ha := g.lt h ta.1
  have hb := g.lt h ta.2.1
  refine ⟨2, 12, ⟨by omega, by omega⟩, h.sh.k 0, n_pts h (by omega) (by omega) (fun a2 b2 ha2 hb2 ea eb _ _ => ?_) (fun n => absurd ⟨a, b, ha, hb, rfl, rfl, ta.1, ta.2.1⟩ n)⟩
  exact ⟨h.sh.k 0, A 14, h.sh.r 0 2 14, ⟨by omega, by omega⟩, h.sh.k 14, t_way h ha hb ta.2.2 he (fun M2 c2 => ⟨by omega, by omega, q M2 c2 (h.svy c2 (fun i z => by omega))⟩)⟩
end
section
variable {A : Nat → Nat} {M M' : Mm} {B : Nat} {rs rs2 : Nat → List Nat} {ow ow2 : Nat → Nat → Nat} {th : Nat → Bool} {ps : Nat → Nat → Int32} {fe fl pe pl : Nat} {Cc Zz : Nat} {Q : Int32 → Mm → Prop} {X : String → Mm → Prop}
def opS (ow : Nat → Nat → Nat) (a k : Nat) : Nat := sumN (fun b => if opn ow a b then 1 else 0) k
def opA (ow : Nat → Nat → Nat) (k : Nat) : Nat := sumN (fun a => opS ow a 100) k
theorem opS_le (ow : Nat → Nat → Nat) (a : Nat) : ∀ k, opS ow a k ≤ k := by
  intro k
  induction k with
  | zero => exact Nat.le_refl _
  | succ k ih =>
    show opS ow a k + (if opn ow a k then 1 else 0) ≤ k + 1
    split <;> omega
theorem opA_le (ow : Nat → Nat → Nat) : ∀ k, opA ow k ≤ 100 * k := by
  intro k
  induction k with
  | zero => exact Nat.le_refl _
  | succ k ih =>
    show opA ow k + opS ow k 100 ≤ 100 * (k + 1)
    have := opS_le ow k 100
    omega
def haF (rs : Nat → List Nat) (f k a b : Nat) : Prop := (∃ g, g < f ∧ hvk (rs g) (rs g).length a b) ∨ hvk (rs f) k a b
theorem haF_0 (a b : Nat) : haF rs 0 0 a b ↔ False := ⟨fun z => z.elim (fun ⟨_, h, _⟩ => absurd h (Nat.not_lt_zero _)) (fun ⟨_, h, _⟩ => absurd h (Nat.not_lt_zero _)), fun z => z.elim⟩
theorem haF_up (f a b : Nat) : haF rs f (rs f).length a b ↔ haF rs (f + 1) 0 a b := by
  constructor
  · intro z
    rcases z with ⟨g, hg, e⟩ | e
    · exact Or.inl ⟨g, by omega, e⟩
    · exact Or.inl ⟨f, by omega, e⟩
  · intro z
    rcases z with ⟨g, hg, e⟩ | ⟨_, h, _⟩
    · by_cases y : g = f
      · exact Or.inr (y ▸ e)
      · exact Or.inl ⟨g, by omega, e⟩
    · exact absurd h (Nat.not_lt_zero _)
theorem haF_all (a b : Nat) : haF rs 160 0 a b ↔ Hv rs a b := ⟨fun z => z.elim (fun h => h) (fun ⟨_, h, _⟩ => absurd h (Nat.not_lt_zero _)), fun z => Or.inl z⟩
theorem haF_k (f k a b : Nat) : haF rs f (k + 1) a b ↔ haF rs f k a b ∨ (a = gn (rs f) k ∧ b = gn (rs f) (k + 1)) := by
  constructor
  · intro z
    rcases z with e | ⟨i, hi, e1, e2⟩
    · exact Or.inl (Or.inl e)
    · by_cases y : i = k
      · subst y
        exact Or.inr ⟨e1.symm, e2.symm⟩
      · exact Or.inl (Or.inr ⟨i, by omega, e1, e2⟩)
  · intro z
    rcases z with (e | ⟨i, hi, e⟩) | ⟨e1, e2⟩
    · exact Or.inl e
    · exact Or.inr ⟨i, by omega, e⟩
    · exact Or.inr ⟨k, by omega, e1.symm, e2.symm⟩
theorem lenF_le (h : FT A M rs ow) : ∀ f, f ≤ 160 → lenF rs f ≤ 12 * f := by
  intro f
  induction f with
  | zero => intro _; exact Nat.le_refl _
  | succ f ih =>
    intro hf
    show lenF rs f + (rs f).length ≤ 12 * (f + 1)
    have := ih (by omega)
    have := h.len (f := f) (by omega)
    omega
theorem l_rings (h : SD A M B rs ow th ps fe fl pe pl) (g : Gd rs ow th ps fe fl pe pl) (hB : B + 100 < 2 ^ 30) (hc : 82000 ≤ Cc) (hz : 500000 ≤ Zz) (q : ∀ M', SD A M' (B + 2) rs ow th ps fe fl pe pl → Q 1 M') : T_L_areRingsRight Cc Zz M (A 0) Q X := by
  unfold T_L_areRingsRight
  intro K16 K225 K43 K335 K235 K73 K179 h16 h225 h43 h335 h235 h73 h179
  refine ⟨by omega, by omega, fun q1 hq => ?_⟩
  obtain ⟨hG0, sm0⟩ := hg_new h.sh hq
  have h0 := h.same sm0
  generalize wG M q1 122 101 100 100 = M0 at hG0 h0
  have ok := g.ok h.1
  have hfe := h.2.1.2.2.1
  have e100 : (100 : Int32) = nI 100 := rfl
  have e160 : (160 : Int32) = nI 160 := rfl
  have hcnt : cntP (fun a b => opn ow a b) = opA ow 100 := rfl
  have hall := ok_holes ok hfe (fun f hf _ => g.2.2.1 f hf)
  have hed := g.edges h
  rw [hcnt] at hall hed
  have hoA := opA_le ow 100
  have hL160 := lenF_le h.1 160 (Nat.le_refl _)
  -- behind all the counts
  have k335 : ∀ M2 cc zz, SD A M2 (B + 1) rs ow th ps fe fl pe pl → cc ≤ 82000 → zz ≤ 500000 → ∀ is, K335 (A 0) (nI (opA ow 100)) is is M2 cc zz := by
    intro M2 cc zz s2 hcc hzz is
    refine h335 _ _ _ _ _ _ _ ⟨fun z => absurd rfl z, fun _ => ⟨⟨by omega, by omega⟩, s2.sh.k 0, a_holes s2 g (by omega) (fun M3 s3 => ⟨fun z => absurd z ?_, fun _ => ⟨by omega, by omega, q M3 (s3.up (by omega))⟩⟩)⟩⟩
    rw [show (3 : Int32) = nI 3 from rfl, nI_mulx]
    exact nI_nlt hall.1 (by omega)
  have k225 : ∀ M2 cc zz, SD A M2 B rs ow th ps fe fl pe pl → GR A M2 q1 (Hv rs) → cc ≤ 82000 → zz ≤ 500000 → ∀ d a, a + d = 100 → K225 (A 0) q1 (nI fl) (nI (lenF rs 160)) (nI (opA ow a)) (nI a) M2 cc zz := by
    intro M2 cc zz s2 G2 hcc hzz d
    induction d with
    | zero =>
      intro a ha
      have : a = 100 := by omega
      subst this
      refine h225 _ _ _ _ _ _ _ _ _ ⟨fun _ => ⟨⟨by omega, by omega⟩, s2.sh.k 0, a_faces s2 ⟨fun z => absurd rfl z, fun _ => ⟨⟨by omega, by omega⟩, s2.sh.k 0, a_edges s2 ⟨fun z => absurd ?_ z, fun _ => ⟨⟨by omega, by omega⟩, s2.sh.k 0, a_shells s2 (fun M3 s3 => ⟨fun z => absurd z ?_, fun _ => ⟨⟨by omega, by omega⟩, s3.sh.k 0, a_holes s3 g (by omega) (fun M4 s4 => ?_)⟩⟩)⟩⟩⟩⟩⟩, fun z => absurd (by decide) z⟩
      · rw [show (2 : Int32) = nI 2 from rfl, nI_mulx, nI_add, hed]
      · have hfl := s2.2.1.2.2.2
        exact nI_nlt (shC_fl s2 g) (by omega)
      · have hlt := hC_lt s4
        refine ⟨fun z => ⟨fun _ => k335 M4 cc zz s4 hcc hzz 0, fun y => absurd ?_ z⟩, fun z => ⟨fun y => absurd ?_ y, fun _ => k335 M4 cc zz s4 hcc hzz 1⟩⟩
        · have y2 : opA ow 100 = 0 := (nI_eq (b := 0) (by omega) (by omega)).mp (by rw [nI_0]; exact y)
          rw [hall.2.mpr y2]
          exact nI_0
        · have z2 : hC rs ow fe = 0 := (nI_eq (b := 0) (by omega) (by omega)).mp (by rw [nI_0]; exact z)
          rw [hall.2.mp z2]
          exact nI_0
    | succ d ih =>
      intro a ha
      have key : ∀ d2 b, b + d2 = 100 → K235 (A 0) q1 (nI fl) (nI (lenF rs 160)) (nI (opA ow a + opS ow a b)) (nI a) (nI b) M2 cc zz := by
        intro d2
        induction d2 with
        | zero =>
          intro b hb
          have : b = 100 := by omega
          subst this
          refine h235 _ _ _ _ _ _ _ _ _ _ ⟨fun _ => ?_, fun z => absurd (by decide) z⟩
          rw [nI_1]
          exact ih (a + 1) (by omega)
        | succ d2 ih2 =>
          intro b hb
          have nx := ih2 (b + 1) (by omega)
          rw [show opS ow a (b + 1) = opS ow a b + (if opn ow a b then 1 else 0) from rfl, ← Nat.add_assoc] at nx
          obtain ⟨r1, r2, -, r3⟩ := G2.2 a (by omega)
          obtain ⟨t1, t2, -, t3⟩ := G2.2 b (by omega)
          have r4 := r3 b (by omega)
          have t4 := t3 a (by omega)
          have io := opn_hv (rs := rs) g.1 a b
          refine h235 _ _ _ _ _ _ _ _ _ _ ⟨fun z => absurd z (by rw [e100]; exact nI_ge (by omega) (by omega)), fun _ => ⟨100, G2.1, vp_in_nI (by omega) (by omega), q1 + 1 + a, by rw [nI_clamp (by omega)]; exact r1, 100, r2, vp_in_nI (by omega) (by omega), fun z => ?_, fun z => ⟨100, G2.1, vp_in_nI (by omega) (by omega), q1 + 1 + b, by rw [nI_clamp (by omega)]; exact t1, 100, t2, vp_in_nI (by omega) (by omega), fun y => ?_, fun y => ?_⟩⟩⟩
          · rw [nI_clamp (by omega)] at z
            have hv : Hv rs a b := Classical.byContradiction (fun n => z (r4.2 n))
            rw [if_neg (fun o => (io.mp o).1 hv)] at nx
            rw [nI_1, Int32.add_zero]
            exact nx
          · rw [nI_clamp (by omega)] at y
            have hv : ¬ Hv rs b a := fun n => by
              rw [t4.1 n] at y
              exact absurd y (by decide)
            rw [if_neg (fun o => hv (io.mp o).2)] at nx
            rw [nI_1, Int32.add_zero]
            exact nx
          · rw [nI_clamp (by omega)] at y z
            have hv : Hv rs b a := Classical.byContradiction (fun n => y (t4.2 n))
            have hn : ¬ Hv rs a b := fun n => by
              rw [r4.1 n] at z
              exact absurd z (by decide)
            rw [if_pos (io.mpr ⟨hn, hv⟩)] at nx
            rw [nI_1, nI_1]
            exact nx
      have k0 := key 100 0 (by omega)
      rw [show opA ow a + opS ow a 0 = opA ow a from rfl, show nI 0 = 0 from nI_0] at k0
      exact h225 _ _ _ _ _ _ _ _ _ ⟨fun z => absurd z (by rw [e100]; exact nI_ge (by omega) (by omega)), fun _ => k0⟩
  have k16 : ∀ d f M2 cc zz, f + d = 160 → SD A M2 B rs ow th ps fe fl pe pl → GR A M2 q1 (haF rs f 0) → cc ≤ 101 + 500 * f → zz ≤ 10100 + 3000 * f → K16 (A 0) q1 (nI (sumN (fun g => if rs g = [] then 0 else 1) f)) (nI (lenF rs f)) (nI f) M2 cc zz := by
    intro d
    induction d with
    | zero =>
      intro f M2 cc zz hf s2 G2 hcc hzz
      have : f = 160 := by omega
      subst this
      have k0 := k225 M2 cc zz s2 (G2.iff haF_all) (by omega) (by omega) 100 0 (by omega)
      rw [show opA ow 0 = 0 from rfl, show nI 0 = 0 from nI_0, show fl = sumN (fun g => if rs g = [] then 0 else 1) 160 from g.2.2.2.1] at k0
      exact h16 _ _ _ _ _ _ _ _ ⟨fun _ => k0, fun z => absurd (by decide) z⟩
    | succ d ih =>
      intro f M2 cc zz hf s2 G2 hcc hzz
      have hf1 : f < 160 := by omega
      have hl := h.1.len hf1
      have k73 : ∀ d2 k M3 cc zz, k + d2 = (rs f).length → SD A M3 B rs ow th ps fe fl pe pl → GR A M3 q1 (haF rs f k) → cc ≤ 102 + 500 * f + 40 * k → zz ≤ 10106 + 3000 * f + 240 * k → K73 (A 0) q1 (nI (sumN (fun g => if rs g = [] then 0 else 1) (f + 1))) (nI (lenF rs (f + 1))) (nI f) (nI (rs f).length) (nI k) M3 cc zz := by
        intro d2
        induction d2 with
        | zero =>
          intro k M3 cc zz hk s3 G3 hcc hzz
          have : k = (rs f).length := by omega
          subst this
          refine h73 _ _ _ _ _ _ _ _ _ _ ⟨fun _ => ?_, fun z => absurd (nI_le (Nat.le_refl _) (by omega)) z⟩
          rw [nI_1]
          exact ih (f + 1) M3 cc zz (by omega) s3 (G3.iff (haF_up f)) (by omega) (by omega)
        | succ d2 ih2 =>
          intro k M3 cc zz hk s3 G3 hcc hzz
          have hn : 0 < (rs f).length := by omega
          have hu := s3.1.2.2.2.2 f _ hf1 (gn_mem (xs := rs f) (p := k) hn)
          have hv := s3.1.2.2.2.2 f _ hf1 (gn_mem (xs := rs f) (p := k + 1) hn)
          have own : ow (gn (rs f) k) (gn (rs f) (k + 1)) = f + 1 := (g.1.1 _ _ f).mpr ⟨hf1, k, by omega, rfl, rfl⟩
          have tt := g.half (a := gn (rs f) k) (b := gn (rs f) (k + 1)) (by omega)
          have nha : ¬ haF rs f k (gn (rs f) k) (gn (rs f) (k + 1)) := by
            intro z
            rcases z with ⟨g2, hg2, e⟩ | ⟨i, hi, e1, _⟩
            · have := (g.1.1 _ _ g2).mpr ⟨by omega, e⟩
              omega
            · have := g.1.2 f i k hf1 (by omega) (by omega) e1
              omega
          refine h73 _ _ _ _ _ _ _ _ _ _ ⟨fun z => absurd z (nI_ge (by omega) (by omega)), fun _ => ?_⟩
          refine ⟨2, 12, ⟨by omega, by omega⟩, s3.sh.k 0, a_corner s3 (by omega) (by omega) (fun n => absurd rfl (n f k hf1 rfl (by omega))) (fun f2 k2 hf2 ef2 hk2 ek2 => ?_)⟩
          have e1 : f = f2 := (nI_eq (by omega) (by omega)).mp ef2
          subst e1
          have e2 : k = k2 := (nI_eq (by omega) (by have := h.1.len hf2; omega)).mp ek2
          subst e2
          refine ⟨nI_ne0 hn (by omega), ?_⟩
          rw [gn_round hn (by omega) hl]
          have hm := Nat.mod_lt (k + 1) hn
          refine ⟨2, 12, ⟨by omega, by omega⟩, s3.sh.k 0, a_corner s3 (by omega) (by omega) (fun n => absurd rfl (n f _ hf1 rfl hm)) (fun f3 k3 hf3 ef3 hk3 ek3 => ?_)⟩
          have e1 : f = f3 := (nI_eq (by omega) (by omega)).mp ef3
          subst e1
          have e2 : (k + 1) % (rs f).length = k3 := (nI_eq (by omega) (by omega)).mp ek3
          subst e2
          rw [gn_mod]
          obtain ⟨r1, r2, -, r3⟩ := G3.2 _ hu
          have r4 := r3 _ hv
          refine ⟨100, G3.1, vp_in_nI hu (by omega), _, by rw [nI_clamp (by omega)]; exact r1, 100, r2, vp_in_nI hv (by omega), fun z => absurd (by rw [nI_clamp (by omega)]; exact r4.2 nha) z, fun _ => ?_⟩
          refine ⟨2, 12, ⟨by omega, by omega⟩, s3.sh.k 0, a_faceOf s3 (by omega) (by omega) (fun n => absurd ⟨_, _, hu, hv, rfl, rfl, tt.1, tt.2.1⟩ n) (fun a2 b2 ha2 hb2 ea2 eb2 _ _ => ?_)⟩
          have e1 : gn (rs f) k = a2 := (nI_eq (by omega) (by omega)).mp ea2
          subst e1
          have e2 : gn (rs f) (k + 1) = b2 := (nI_eq (by omega) (by omega)).mp eb2
          subst e2
          rw [own, oi_s]
          have na0 := g.2.2.2.2.2.2.2 0 _ (by omega) tt.1
          have na2 := g.2.2.2.2.2.2.2 2 _ (by omega) tt.1
          refine ⟨fun z => absurd rfl z, fun _ => ⟨2, 12, ⟨by omega, by omega⟩, s3.sh.k 0, a_at0 s3 (by omega) (by omega) (fun n => absurd tt.1 (by rw [n _ hu rfl]; decide)) (fun p hp ep _ => ?_)⟩⟩
          have e1 : gn (rs f) k = p := (nI_eq (by omega) (by omega)).mp ep
          subst e1
          refine ⟨fun z => absurd z na0.1, fun _ => ⟨2, 12, ⟨by omega, by omega⟩, s3.sh.k 0, a_at2 s3 (by omega) (by omega) (fun n => absurd tt.1 (by rw [n _ hu rfl]; decide)) (fun p hp ep _ => ?_)⟩⟩
          have e1 : gn (rs f) k = p := (nI_eq (by omega) (by omega)).mp ep
          subst e1
          refine ⟨fun z => absurd z na2.2, fun _ => ⟨2, 12, ⟨by omega, by omega⟩, s3.sh.k 0, a_stepsC s3 g (Or.inl (by omega)) (by omega) (by omega) (fun M4 c4 s4 => ?_)⟩⟩
          have G4 := G3.ch s3.sh c4
          refine ⟨fun _ => ⟨100, G4.1, vp_in_nI hu (by omega), q1 + 1 + gn (rs f) k, by rw [nI_clamp (by omega)]; exact (G4.2 _ hu).1, 100, (G4.2 _ hu).2.1, vp_in_nI hv (by omega), ?_⟩, fun z => absurd rfl z⟩
          rw [nI_clamp (n := gn (rs f) (k + 1)) (by omega), show vp_nar .boolean 1 = 1 from rfl]
          obtain ⟨G5, sm5⟩ := hg_put (b := gn (rs f) (k + 1)) s4.sh G4 hu
          have s5 := s4.same sm5
          generalize wI M4 (q1 + 1 + gn (rs f) k) (gn (rs f) (k + 1)) 1 = M5 at G5 s5
          have k179 : ∀ d3 j cc zz, j + d3 = k → cc ≤ 102 + 500 * f + 40 * k + 12 + 2 * j → zz ≤ 10106 + 3000 * f + 240 * k + 72 + 12 * j → K179 (A 0) q1 (nI (sumN (fun g => if rs g = [] then 0 else 1) (f + 1))) (nI (lenF rs (f + 1))) (nI f) (nI (rs f).length) (nI k) (nI (gn (rs f) k)) (nI j) M5 cc zz := by
            intro d3
            induction d3 with
            | zero =>
              intro j cc zz hj hcc hzz
              have : j = k := by omega
              subst this
              refine h179 _ _ _ _ _ _ _ _ _ _ _ _ ⟨fun _ => ?_, fun z => absurd (nI_le (Nat.le_refl _) (by omega)) z⟩
              rw [nI_1]
              exact ih2 (j + 1) M5 cc zz (by omega) s5 (G5.iff (fun a b => (haF_k f j a b).symm)) (by omega) (by omega)
            | succ d3 ih3 =>
              intro j cc zz hj hcc hzz
              refine h179 _ _ _ _ _ _ _ _ _ _ _ _ ⟨fun z => absurd z (nI_ge (by omega) (by omega)), fun _ => ?_⟩
              refine ⟨2, 12, ⟨by omega, by omega⟩, s5.sh.k 0, a_corner s5 (by omega) (by omega) (fun n => absurd rfl (n f j hf1 rfl (by omega))) (fun f4 k4 hf4 ef4 hk4 ek4 => ?_)⟩
              have e1 : f = f4 := (nI_eq (by omega) (by omega)).mp ef4
              subst e1
              have e2 : j = k4 := (nI_eq (by omega) (by omega)).mp ek4
              subst e2
              have hw := s3.1.2.2.2.2 f _ hf1 (gn_mem (xs := rs f) (p := j) hn)
              refine ⟨fun _ => ?_, fun z => ?_⟩
              · rw [nI_1]
                exact ih3 (j + 1) _ _ (by omega) (by omega) (by omega)
              · have e3 : gn (rs f) j = gn (rs f) k := (nI_eq (by omega) (by omega)).mp z
                have := g.1.2 f j k hf1 (by omega) (by omega) e3
                omega
          have k0 := k179 k 0 (cc + 2 + 2 + 2 + 2 + 2 + 2) (zz + 12 + 12 + 12 + 12 + 12 + 12) (by omega) (by omega) (by omega)
          rw [show nI 0 = 0 from nI_0] at k0
          exact k0
      have both : ∀ (v : Int32) cc zz, nI (sumN (fun g => if rs g = [] then 0 else 1) f) + v = nI (sumN (fun g => if rs g = [] then 0 else 1) (f + 1)) → cc ≤ 102 + 500 * f → zz ≤ 10106 + 3000 * f → K43 (A 0) q1 (nI (lenF rs f)) (nI f) (nI (rs f).length) (nI (sumN (fun g => if rs g = [] then 0 else 1) f)) v M2 cc zz := by
        intro v cc zz ev hcc hzz
        have k0 := k73 (rs f).length 0 M2 cc zz (by omega) s2 G2 (by omega) (by omega)
        rw [show nI 0 = 0 from nI_0] at k0
        have k1 : K73 (A 0) q1 (nI (sumN (fun g => if rs g = [] then 0 else 1) f) + v) (nI (lenF rs f) + nI (rs f).length) (nI f) (nI (rs f).length) 0 M2 cc zz := by
          rw [ev, nI_add]
          exact k0
        refine h43 _ _ _ _ _ _ _ _ _ _ ⟨fun _ => k1, fun z => ⟨fun y => absurd y ?_, fun _ => ⟨fun _ => k1, fun y => absurd (show nI (rs f).length ≤ nI 12 from nI_le hl (by omega)) y⟩⟩⟩
        rcases g.2.1 f with e | e
        · exact absurd (by rw [e]; decide) z
        · exact nI_nlt (b := 3) e (by omega)
      refine h16 _ _ _ _ _ _ _ _ ⟨fun z => absurd z (by rw [e160]; exact nI_ge (by omega) (by omega)), fun _ => ⟨1, 6, ⟨by omega, by omega⟩, l_size s2 hf1 (by omega) (by omega) ⟨fun z => ?_, fun z => ?_⟩⟩⟩
      · refine both 0 _ _ ?_ (by omega) (by omega)
        have e : rs f = [] := by
          rcases g.2.1 f with e | e
          · exact e
          · exact absurd z (nI_nle (by omega) (by omega))
        rw [show sumN (fun g => if rs g = [] then 0 else 1) (f + 1) = sumN (fun g => if rs g = [] then 0 else 1) f + (if rs f = [] then 0 else 1) from rfl, if_pos e, Int32.add_zero]
        rfl
      · refine both 1 _ _ ?_ (by omega) (by omega)
        have e : ¬ rs f = [] := fun e => z (by rw [e]; decide)
        rw [show sumN (fun g => if rs g = [] then 0 else 1) (f + 1) = sumN (fun g => if rs g = [] then 0 else 1) f + (if rs f = [] then 0 else 1) from rfl, if_neg e, nI_1]
  have k0 := k16 160 0 M0 (0 + 1 + 100) (0 + 100 + 10000) (by omega) h0 (hG0.iff (fun a b => (haF_0 a b).symm)) (by omega) (by omega)
  rw [show sumN (fun g => if rs g = [] then 0 else 1) 0 = 0 from rfl, show lenF rs 0 = 0 from rfl, show nI 0 = 0 from nI_0] at k0
  exact k0
end
