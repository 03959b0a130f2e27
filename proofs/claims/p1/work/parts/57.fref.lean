/-- the long at o stays -/
def Kp (o : Nat) (M M' : Mm) : Prop := kM M o = (110, 1) → kM M' o = (110, 1) ∧ lM M' o 0 = lM M o 0
theorem Kp.rf {o : Nat} {M : Mm} : Kp o M M := fun h => ⟨h, rfl⟩
theorem Kp.tr {o : Nat} {M M1 M2 : Mm} (h : Kp o M M1) (h2 : Kp o M1 M2) : Kp o M M2 := fun e => ⟨(h2 (h e).1).1, (h2 (h e).1).2.trans (h e).2⟩
theorem Kp.i {o a k : Nat} {v : Int32} {M : Mm} : Kp o M (wI M a k v) := fun h => ⟨h, rfl⟩
theorem Kp.r {o a k : Nat} {v : Option Nat} {M : Mm} : Kp o M (wR M a k v) := fun h => ⟨h, rfl⟩
theorem Kp.c {o a b i j n : Nat} {M : Mm} : Kp o M (wC M a b i j n) := fun h => ⟨h, rfl⟩
theorem Kp.ch {o : Nat} {S : Nat → Prop} {M M' : Mm} (c : Ch S M M') : Kp o M M' := fun h => ⟨(c.k o).trans h, c.l o 0⟩
theorem Kp.n {o q kd n : Nat} {M : Mm} (hq : frs M q) : Kp o M (wN M q kd n) := fun h => by
  have e : o ≠ q := Nat.ne_of_lt (frs_ne hq (by rw [h]; decide))
  exact ⟨by rw [kM_wN, if_neg e]; exact h, by rw [lM_wN, if_neg e]⟩
theorem Kp.g {o q kd kr n k : Nat} {M : Mm} (hq : frs M q) : Kp o M (wG M q kd kr n k) := fun h => by
  have e : o < q := frs_ne hq (by rw [h]; decide)
  exact ⟨by rw [kM_wG, if_neg (by omega), if_neg (by omega)]; exact h, by rw [lM_wG, if_neg (by omega)]⟩
theorem Kp.l {o m k : Nat} {v : Int64} {M : Mm} (hm : kM M m = (9, 13)) : Kp o M (wL M m k v) := fun h => ⟨h, by
  rw [lM_wL, if_neg (fun z => by rw [z.1, hm] at h; cases h)]⟩
theorem old_N {M : Mm} {q kd n : Nat} (hq : frs M q) : ∀ b, (kM M b).1 ≠ 255 → kM (wN M q kd n) b = kM M b ∧ (∀ j, iM (wN M q kd n) b j = iM M b j) ∧ ∀ j, rM (wN M q kd n) b j = rM M b j := fun b hb => by
  have e : b ≠ q := Nat.ne_of_lt (frs_ne hq hb)
  exact ⟨by rw [kM_wN, if_neg e], fun j => by rw [iM_wN, if_neg e], fun j => by rw [rM_wN, if_neg e]⟩
theorem old_G {M : Mm} {q kd kr n k : Nat} (hq : frs M q) : ∀ b, (kM M b).1 ≠ 255 → kM (wG M q kd kr n k) b = kM M b ∧ (∀ j, iM (wG M q kd kr n k) b j = iM M b j) ∧ ∀ j, rM (wG M q kd kr n k) b j = rM M b j := fun b hb => by
  have e : b < q := frs_ne hq hb
  exact ⟨by rw [kM_wG, if_neg (by omega), if_neg (by omega)], fun j => by rw [iM_wG, if_neg (by omega)], fun j => by rw [rM_wG, if_neg (by omega), if_neg (by omega)]⟩
theorem and01 {a b : Int32} (ha : a = 0 ∨ a = 1) (hb : b = 0 ∨ b = 1) : a &&& b = 0 ∨ a &&& b = 1 := by
  rcases ha with rfl | rfl <;> rcases hb with rfl | rfl <;> decide
theorem ak100 : ak 100 := Or.inl rfl
theorem ak121 : ak 121 := Or.inr (Or.inr (Or.inr (Or.inr (Or.inl rfl))))
section
variable {M M' : Mm} {m P T G O np nf : Nat}
theorem RF.old (h : RF M m P T G O np nf) (e : ∀ b, (kM M b).1 ≠ 255 → kM M' b = kM M b ∧ (∀ j, iM M' b j = iM M b j) ∧ ∀ j, rM M' b j = rM M b j) : RF M' m P T G O np nf :=
  h.go (fun b hb => (e b hb).1) (fun b hb => (e b hb).2.2) ((e m (by rw [h.1]; decide)).2.1 3) ((e m (by rw [h.1]; decide)).2.1 5) (fun b hb => (e b (by rw [hb]; decide)).2.1)
theorem RF.ch {S : Nat → Prop} (h : RF M m P T G O np nf) (c : Ch S M M') (hS : ∀ b, S b → kM M b ≠ (9, 13) ∧ kM M b ≠ (100, 4)) : RF M' m P T G O np nf :=
  h.go (fun b _ => c.k b) (fun b _ => c.r b) (c.i (fun z => (hS m z).1 h.1) 3) (c.i (fun z => (hS m z).1 h.1) 5) (fun b hb j => c.i (fun z => (hS b z).2 hb) j)
theorem t9_near {x : Int32} {Q : Int32 → Prop} (q1 : nr x → Q 1) (q0 : ¬ nr x → Q 0) : T_X9_isNear M x Q := by
  unfold T_X9_isNear T_X9_is
  exact ⟨fun z => ⟨Or.inl rfl, q0 (fun n => n.1 z)⟩, fun z => ⟨fun w => ⟨Or.inl rfl, q0 (fun n => n.2 w)⟩, fun w => ⟨Or.inr rfl, q1 ⟨z, w⟩⟩⟩⟩
theorem RF.p0 (h : RF M m P T G O 0 nf) : iM M m 3 = 0 := h.2.1.trans nI_0
theorem RF.f0 (h : RF M m P T G O np 0) : iM M m 5 = 0 := h.2.2.1.trans nI_0
theorem RF.rP (h : RF M m P T G O np nf) : rM M m 1 = some P ∧ rM M m 2 = some T ∧ rM M m 4 = some G ∧ rM M m 6 = some O := ⟨h.2.2.2.1, h.2.2.2.2.1, h.2.2.2.2.2.1, h.2.2.2.2.2.2.1⟩
theorem RF.kP (h : RF M m P T G O np nf) : kM M P = (121, 100) ∧ kM M T = (101, 100) ∧ kM M G = (121, 160) ∧ kM M O = (121, 100) := ⟨h.2.2.2.2.2.2.2.1, h.2.2.2.2.2.2.2.2.1, h.2.2.2.2.2.2.2.2.2.1, h.2.2.2.2.2.2.2.2.2.2.1⟩
theorem RF.pl (h : RF M m P T G O np nf) {j : Nat} (hj : j < 100) : rM M P j = some (P + 1 + j) ∧ kM M (P + 1 + j) = (100, 3) := h.2.2.2.2.2.2.2.2.2.2.2.1 j hj
theorem RF.ow (h : RF M m P T G O np nf) {j : Nat} (hj : j < 100) : rM M O j = some (O + 1 + j) ∧ kM M (O + 1 + j) = (100, 100) := h.2.2.2.2.2.2.2.2.2.2.2.2.1 j hj
theorem RF.bd (h : RF M m P T G O np nf) : np ≤ 100 ∧ nf ≤ 160 := h.2.2.2.2.2.2.2.2.2.2.2.2.2.1
theorem RF.rg (h : RF M m P T G O np nf) {f : Nat} (hf : f < nf) : ∃ r, rM M G f = some r ∧ kM M r = (100, 4) ∧ ∀ k, k < 4 → ∃ p, p < 100 ∧ iM M r k = nI p := h.2.2.2.2.2.2.2.2.2.2.2.2.2.2 f hf
theorem c9_faces {Q : Int32 → Prop} (h : RF M m P T G O np 0) (q : Q 0) : T_X9_facesNow M m Q := by
  unfold T_X9_facesNow
  intro K hK
  refine hK _ _ _ ?_
  unfold S_X9_facesNow_4
  rw [h.f0]
  exact ⟨h.1, fun _ => q, nle00⟩
theorem c9_points {Q : Int32 → Prop} (h : RF M m P T G O 0 nf) (q : Q 0) : T_X9_pointsNow M m Q := by
  unfold T_X9_pointsNow
  intro K hK
  refine hK _ _ _ ?_
  unfold S_X9_pointsNow_4
  rw [h.p0]
  exact ⟨h.1, fun _ => q, nle00⟩
theorem c9_edges {Q : Int32 → Prop} (h : RF M m P T G O 0 nf) (q : Q 0) : T_X9_edgesNow M m Q := by
  unfold T_X9_edgesNow
  intro K K14 hK h14
  refine hK _ _ _ ?_
  unfold S_X9_edgesNow_4
  rw [h.p0]
  exact ⟨h.1, fun _ => q, nle00⟩
theorem c9_volume {Q : Int64 → Prop} (h : RF M m P T G O np 0) (q : Q 0) : T_X9_volumeNow M m Q := by
  unfold T_X9_volumeNow
  intro K4 K42 K93 h4 h42 h93
  refine h4 _ _ _ ?_
  unfold S_X9_volumeNow_4
  rw [h.f0]
  exact ⟨h.1, fun _ => q, nle00⟩
theorem c9_may {w : Int32} {Q : Int32 → Prop} (h : RF M m P T G O 0 nf) (q : Q 0) : T_X9_mayNow M m w Q := by
  unfold T_X9_mayNow
  intro K4 K15 h4 h15
  refine h4 _ _ _ _ ?_
  unfold S_X9_mayNow_4
  rw [h.p0]
  exact ⟨h.1, fun _ => q, nle00⟩
theorem c9_holes {Cc Zz : Nat} {Q : Int32 → Mm → Prop} (h : RF M m P T G O 0 nf) (hc : 1 ≤ Cc) (q : ∀ M', RF M' m P T G O 0 nf → iM M' m 0 = iM M m 0 → (∀ k, lM M' m k = lM M m k) → (∀ o, Kp o M M') → Q 0 M') : T_X9_holesNow Cc Zz M m Q := by
  unfold T_X9_holesNow
  intro K17 K28 h17 h28
  rw [h.p0]
  refine ⟨h.1, h.1, by decide, by decide, by decide, by decide, by show 0 + (1 + 0) ≤ Cc; omega, by show 0 + (0 + 0 * 0) ≤ Zz; omega, fun q1 hq => ?_⟩
  have hm : m < q1 := frs_ne hq (by rw [h.1]; decide)
  have h1 : RF (wG M q1 122 101 (0 : Int32).toNatClampNeg (0 : Int32).toNatClampNeg) m P T G O 0 nf := h.old (old_G hq)
  refine h17 _ _ _ _ _ _ _ ?_
  unfold S_X9_holesNow_17
  rw [h1.p0]
  exact ⟨h1.1, fun _ => ⟨by show 0 + 1 + 0 ≤ Cc; omega, by show 0 + 0 + 0 * 0 ≤ Zz; omega, q _ h1 (by rw [iM_wG, if_neg (by omega)]) (fun k => by rw [lM_wG, if_neg (by omega)]) (fun o => Kp.g hq)⟩, nle00⟩
theorem c9_groups {Cc Zz : Nat} {Q : Int32 → Mm → Prop} (h : RF M m P T G O np 0) (hc : 1 ≤ Cc) {w : Int32} (q : ∀ M', RF M' m P T G O np 0 → iM M' m 0 = iM M m 0 → (∀ k, lM M' m k = lM M m k) → (∀ o, Kp o M M') → Q 0 M') : T_X9_groups Cc Zz M m w Q := by
  unfold T_X9_groups
  intro K9 K56 K108 K65 h9 h56 h108 h65
  rw [h.f0]
  refine ⟨h.1, by decide, by decide, by omega, by show 0 + 0 ≤ Zz; omega, fun q1 hq => ?_⟩
  have hm : m ≠ q1 := Nat.ne_of_lt (frs_ne hq (by rw [h.1]; decide))
  have h1 : RF (wN M q1 100 (0 : Int32).toNatClampNeg) m P T G O np 0 := h.old (old_N hq)
  have hf := h1.f0
  refine h9 _ _ _ _ _ _ _ ?_
  unfold S_X9_groups_9
  rw [hf]
  refine ⟨h1.1, fun _ => h56 _ _ _ _ _ _ _ ⟨fun z => absurd z (by decide), fun _ => h65 _ _ _ _ _ _ _ _ ?_⟩, nle00⟩
  unfold S_X9_groups_65
  rw [hf]
  refine ⟨h1.1, fun _ => h56 _ _ _ _ _ _ _ ⟨fun _ => h108 _ _ _ _ _ _ _ ?_, fun z => absurd rfl z⟩, nle00⟩
  unfold S_X9_groups_108
  rw [hf]
  exact ⟨h1.1, fun _ => ⟨by omega, by show 0 + 0 ≤ Zz; omega, q _ h1 (by rw [iM_wN, if_neg hm]) (fun k => by rw [lM_wN, if_neg hm]) (fun o => Kp.n hq)⟩, nle00⟩
theorem t9_fill {a n : Nat} {v : Int32} {Q : Mm → Prop} (hk : kM M a = (100, n)) (hn : n < 2 ^ 31) (q : ∀ M', Ch (fun b => b = a) M M' → Q M') : T_J7_fill_53178 M a v Q := by
  unfold T_J7_fill_53178
  intro K hK
  have key : ∀ d k M', d + k = n → Ch (fun b => b = a) M M' → K a v (nI k) (nI n) M' := by
    intro d
    induction d with
    | zero =>
      intro k M' hd c
      have : k = n := by omega
      subst this
      exact hK _ _ _ _ _ ⟨fun _ => q M' c, fun z => absurd (nI_le (Nat.le_refl _) hn) z⟩
    | succ d ih =>
      intro k M' hd c
      refine hK _ _ _ _ _ ⟨fun z => absurd z (nI_ge (by omega) hn), fun _ => ⟨n, (c.k a).trans hk, vp_in_nI (by omega) hn, ?_⟩⟩
      rw [nI_1]
      exact ih (k + 1) _ (by omega) (c.t (Ch.put rfl))
  have := key n 0 M (by omega) Ch.rf
  rw [nI_0] at this
  exact ⟨100, n, hk, ak100, this⟩
/-- changed at most in the ints of the model itself and of the rows of its table -/
def Tb (m O : Nat) (M0 M : Mm) : Prop := (∀ b, kM M b = kM M0 b) ∧ (∀ b k, rM M b k = rM M0 b k) ∧ (∀ b k, lM M b k = lM M0 b k) ∧ ∀ b, b ≠ m → (∀ j, j < 100 → b ≠ O + 1 + j) → ∀ k, iM M b k = iM M0 b k
theorem Tb.rf {m O : Nat} {M : Mm} : Tb m O M M := ⟨fun _ => rfl, fun _ _ => rfl, fun _ _ => rfl, fun _ _ _ _ => rfl⟩
theorem Tb.kp {m O o : Nat} {M0 M : Mm} (h : Tb m O M0 M) : Kp o M0 M := fun e => ⟨(h.1 o).trans e, h.2.2.1 o 0⟩
theorem Tb.mo {m O k : Nat} {v : Int32} {M0 M : Mm} (h : Tb m O M0 M) : Tb m O M0 (wI M m k v) := ⟨h.1, h.2.1, h.2.2.1, fun b hb hj k => by rw [iM_wI, if_neg (fun z => hb z.1)]; exact h.2.2.2 b hb hj k⟩
theorem Tb.row {m O p k : Nat} {v : Int32} {M0 M : Mm} (h : Tb m O M0 M) (hp : p < 100) : Tb m O M0 (wI M (O + 1 + p) k v) := ⟨h.1, h.2.1, h.2.2.1, fun b hb hj k => by rw [iM_wI, if_neg (fun z => hj p hp z.1)]; exact h.2.2.2 b hb hj k⟩
theorem Tb.ch {m O p : Nat} {M0 M M' : Mm} (h : Tb m O M0 M) (hp : p < 100) (c : Ch (fun b => b = O + 1 + p) M M') : Tb m O M0 M' := ⟨fun b => (c.k b).trans (h.1 b), fun b k => (c.r b k).trans (h.2.1 b k), fun b k => (c.l b k).trans (h.2.2.1 b k), fun b hb hj k => (c.i (hj p hp) k).trans (h.2.2.2 b hb hj k)⟩
/-- what table and enter keep -/
def Iv (M0 M : Mm) (m P T G O np nf : Nat) : Prop := RF M m P T G O np nf ∧ (iM M m 7 = 0 ∨ iM M m 7 = 1) ∧ iM M m 0 = iM M0 m 0 ∧ Tb m O M0 M
theorem Iv.seven {M0 : Mm} {v : Int32} (h : Iv M0 M m P T G O np nf) (hv : v = 0 ∨ v = 1) : Iv M0 (wI M m 7 v) m P T G O np nf :=
  ⟨h.1.thr (by decide) (by decide), by rw [iM_wI, if_pos ⟨rfl, rfl⟩]; exact hv, by rw [iM_wI, if_neg (by omega)]; exact h.2.2.1, h.2.2.2.mo⟩
theorem Iv.row {M0 : Mm} {v : Int32} {p j : Nat} (h : Iv M0 M m P T G O np nf) (hp : p < 100) : Iv M0 (wI M (O + 1 + p) j v) m P T G O np nf := by
  have hk := (h.1.ow hp).2
  have hne : m ≠ O + 1 + p := fun z => by
    have := h.1.1
    rw [z, hk] at this
    cases this
  exact ⟨h.1.ch (Ch.put (S := fun b => b = O + 1 + p) rfl) (fun b hb => by subst hb; rw [hk]; exact ⟨by decide, by decide⟩), by rw [iM_wI, if_neg (fun z => hne z.1)]; exact h.2.1, by rw [iM_wI, if_neg (fun z => hne z.1)]; exact h.2.2.1, h.2.2.2.row hp⟩
theorem t9_enter {M0 : Mm} {f : Nat} {Q : Mm → Prop} (h : Iv M0 M m P T G O np nf) (hf : f < nf) (q : ∀ M', Iv M0 M' m P T G O np nf → Q M') : T_X9_enter M m (nI f) Q := by
  obtain ⟨r, r1, r2, r3⟩ := h.1.rg hf
  have hfb := h.1.bd
  unfold T_X9_enter
  intro K26 K75 K94 h26 h75 h94
  have ring : ∀ M', RF M' m P T G O np nf → rM M' G f = some r → kM M' r = (100, 4) ∧ ∀ k, k < 4 → ∃ p, p < 100 ∧ iM M' r k = nI p := by
    intro M' h' e
    obtain ⟨r', b1, b2, b3⟩ := h'.rg hf
    rw [e] at b1
    cases b1
    exact ⟨b2, b3⟩
  have in94 : ∀ k, k < 4 → (∀ M', Iv M0 M' m P T G O np nf → rM M' G f = some r → K26 m (nI f) r (nI k + 1) M') → ∀ d j M', d + j = k → Iv M0 M' m P T G O np nf → rM M' G f = some r → K94 m (nI f) r (nI k) (nI j) M' := by
    intro k hk nx d
    induction d with
    | zero =>
      intro j M' hd h' e
      have : j = k := by omega
      subst this
      exact h94 _ _ _ _ _ _ ⟨fun _ => nx M' h' e, fun z => absurd (nI_le (Nat.le_refl _) (by omega)) z⟩
    | succ d ih =>
      intro j M' hd h' e
      obtain ⟨k1, k2⟩ := ring M' h'.1 e
      refine h94 _ _ _ _ _ _ ⟨fun z => absurd z (nI_ge (by omega) (by omega)), fun _ => ⟨h'.1.1, 4, k1, vp_in_nI (by omega) (by omega), 4, k1, vp_in_nI (by omega) (by omega), fun _ => ⟨h'.1.1, and01 h'.2.1 (Or.inl rfl), ?_⟩, fun _ => ⟨h'.1.1, and01 h'.2.1 (Or.inr rfl), ?_⟩⟩⟩
      · rw [nI_1]; exact ih (j + 1) _ (by omega) (h'.seven (and01 h'.2.1 (Or.inl rfl))) e
      · rw [nI_1]; exact ih (j + 1) _ (by omega) (h'.seven (and01 h'.2.1 (Or.inr rfl))) e
  have in75 : ∀ k, k < 4 → (∀ M', Iv M0 M' m P T G O np nf → rM M' G f = some r → K26 m (nI f) r (nI k + 1) M') → ∀ p2, p2 < 100 → ∀ v : Int32, (v = 0 ∨ v = 1) → ∀ M', Iv M0 M' m P T G O np nf → rM M' G f = some r → K75 m (nI f) r (nI k) (nI p2) m (iM M' m 7) v M' := by
    intro k hk nx p2 hp2 v hv M' h' e
    have h2 := h'.seven (and01 h'.2.1 hv)
    obtain ⟨k1, k2⟩ := ring _ h2.1 e
    obtain ⟨p, c1, c2⟩ := k2 k hk
    refine h75 _ _ _ _ _ _ _ _ _ ?_
    unfold S_X9_enter_75
    rw [nI_clamp (show k < 2 ^ 31 by omega), c2, nI_clamp (show p < 2 ^ 31 by omega)]
    refine ⟨h'.1.1, and01 h'.2.1 hv, h2.1.1, O, h2.1.rP.2.2.2, 4, k1, vp_in_nI (by omega) (by omega), 100, h2.1.kP.2.2.2, vp_in_nI (by omega) (by omega), O + 1 + p, (h2.1.ow c1).1, 100, (h2.1.ow c1).2, vp_in_nI (by omega) (by omega), ?_⟩
    have := in94 k hk nx k 0 _ (by omega) (h2.row (j := (nI p2).toNatClampNeg) (v := nI f) c1) e
    rw [nI_0] at this
    exact this
  have out : ∀ d k M', d + k = 4 → Iv M0 M' m P T G O np nf → rM M' G f = some r → K26 m (nI f) r (nI k) M' := by
    intro d
    induction d with
    | zero =>
      intro k M' hd h' e
      have : k = 4 := by omega
      subst this
      exact h26 _ _ _ _ _ ⟨100, 4, (ring M' h'.1 e).1, ak100, fun _ => q M' h', fun z => absurd (nI_le (Nat.le_refl _) (by omega)) z⟩
    | succ d ih =>
      intro k M' hd h' e
      obtain ⟨k1, k2⟩ := ring M' h'.1 e
      have nx : ∀ M', Iv M0 M' m P T G O np nf → rM M' G f = some r → K26 m (nI f) r (nI k + 1) M' := fun M2 h2 e2 => by
        rw [nI_1]
        exact ih (k + 1) M2 (by omega) h2 e2
      obtain ⟨p, c1, c2⟩ := k2 k (by omega)
      obtain ⟨p2, d1, d2⟩ := k2 ((k + 1) % 4) (Nat.mod_lt _ (by omega))
      have em : (nI k + 1) - (nI k + 1) / nI 4 * nI 4 = nI ((k + 1) % 4) := by rw [nI_1]; exact pk_rem (by omega) (by omega) (by omega)
      have ml : (k + 1) % 4 < 4 := Nat.mod_lt _ (by omega)
      refine h26 _ _ _ _ _ ⟨100, 4, k1, ak100, fun z => absurd z (nI_ge (by omega) (by omega)), fun _ => ⟨100, 4, k1, ak100, nI_ne0 (by omega) (by omega), 4, k1, ?_⟩⟩
      rw [em, nI_clamp (show (k + 1) % 4 < 2 ^ 31 by omega), d2, nI_clamp (show k < 2 ^ 31 by omega), c2, nI_clamp (show p < 2 ^ 31 by omega)]
      refine ⟨vp_in_nI ml (by omega), h'.1.1, h'.1.1, O, h'.1.rP.2.2.2, 4, k1, vp_in_nI (by omega) (by omega), 100, h'.1.kP.2.2.2, vp_in_nI (by omega) (by omega), O + 1 + p, (h'.1.ow c1).1, 100, (h'.1.ow c1).2, vp_in_nI (by omega) (by omega), fun _ => in75 k (by omega) nx p2 d1 0 (Or.inl rfl) M' h' e, fun _ => ⟨4, k1, vp_in_nI (by omega) (by omega), fun _ => in75 k (by omega) nx p2 d1 0 (Or.inl rfl) M' h' e, fun _ => in75 k (by omega) nx p2 d1 1 (Or.inr rfl) M' h' e⟩⟩
  have is01 : ∀ {x lo hi : Int32} {Q : Int32 → Prop}, (∀ v : Int32, (v = 0 ∨ v = 1) → Q v) → T_X9_is M x lo hi Q := fun hq => ⟨fun _ => hq 0 (Or.inl rfl), fun _ => ⟨fun _ => hq 0 (Or.inl rfl), fun _ => hq 1 (Or.inr rfl)⟩⟩
  refine ⟨h.1.1, G, h.1.rP.2.2.1, 160, h.1.kP.2.2.1, vp_in_nI (by omega) (by omega), r, by rw [nI_clamp (by omega)]; exact r1, h.1.1, 100, 4, r2, ak100, is01 (fun v hv => ⟨h.1.1, and01 h.2.1 hv, ?_⟩)⟩
  have := out 4 0 _ rfl (h.seven (and01 h.2.1 hv)) r1
  rw [nI_0] at this
  exact this
theorem t9_table (h : RF M m P T G O np nf) {Q : Mm → Prop} (q : ∀ M', Iv M M' m P T G O np nf → Q M') : T_X9_table M m Q := by
  unfold T_X9_table
  intro K10 K62 h10 h62
  have hbd := h.bd
  have second : ∀ d f M', d + f = nf → Iv M M' m P T G O np nf → K62 m (nI f) M' := by
    intro d
    induction d with
    | zero =>
      intro f M' hd h'
      have : f = nf := by omega
      subst this
      refine h62 _ _ _ ⟨h'.1.1, fun _ => q M' h', fun z => absurd (by rw [h'.1.2.2.1]; exact nI_le (Nat.le_refl _) (by omega)) z⟩
    | succ d ih =>
      intro f M' hd h'
      obtain ⟨r, r1, r2, r3⟩ := h'.1.rg (f := f) (by omega)
      refine h62 _ _ _ ⟨h'.1.1, fun z => absurd z (by rw [h'.1.2.2.1]; exact nI_ge (by omega) (by omega)), fun _ => ⟨h'.1.1, G, h'.1.rP.2.2.1, 160, h'.1.kP.2.2.1, vp_in_nI (by omega) (by omega), ?_⟩⟩
      rw [nI_clamp (by omega), r1]
      refine ⟨fun z => (by cases z), fun a _ => ⟨h'.1.1, t9_enter h' (by omega) (fun M2 h2 => ?_)⟩⟩
      rw [nI_1]
      exact ih (f + 1) M2 (by omega) h2
  have e100 : (100 : Int32) = nI 100 := rfl
  have e160 : (160 : Int32) = nI 160 := rfl
  have first : ∀ d j M', d + j = 100 → RF M' m P T G O np nf → iM M' m 0 = iM M m 0 → Tb m O M M' → K10 m O (nI 100) (nI j) M' := by
    intro d
    induction d with
    | zero =>
      intro j M' hd h' e0 kp
      have : j = 100 := by omega
      subst this
      refine h10 _ _ _ _ _ ⟨fun _ => ⟨h'.1, fun z => absurd z (by rw [h'.2.1, e100]; exact nI_nlt (by omega) (by omega)), fun _ => ⟨h'.1, fun z => absurd z (by rw [h'.2.2.1, e160]; exact nI_nlt (by omega) (by omega)), fun _ => ⟨h'.1, Or.inr rfl, ?_⟩⟩⟩, fun z => absurd (nI_le (Nat.le_refl _) (by omega)) z⟩
      have := second nf 0 (wI M' m 7 1) (by omega) ⟨h'.thr (by decide) (by decide), Or.inr (by rw [iM_wI, if_pos ⟨rfl, rfl⟩]), by rw [iM_wI, if_neg (by omega)]; exact e0, kp.mo⟩
      rw [nI_0] at this
      exact this
    | succ d ih =>
      intro j M' hd h' e0 kp
      have hj := h'.ow (j := j) (by omega)
      refine h10 _ _ _ _ _ ⟨fun z => absurd z (nI_ge (by omega) (by omega)), fun _ => ⟨100, h'.kP.2.2.2, vp_in_nI (by omega) (by omega), O + 1 + j, by rw [nI_clamp (by omega)]; exact hj.1, t9_fill hj.2 (by omega) (fun M2 c => ?_)⟩⟩
      rw [nI_1]
      refine ih (j + 1) M2 (by omega) (h'.ch c (fun b hb => by subst hb; rw [hj.2]; exact ⟨by decide, by decide⟩)) ?_ (kp.ch (by omega) c)
      rw [c.i (fun z => ?_)]
      · exact e0
      · have := h'.1
        rw [z, hj.2] at this
        cases this
  have := first 100 0 M rfl h rfl Tb.rf
  rw [nI_0] at this
  exact ⟨h.1, O, h.rP.2.2.2, 121, 100, h.kP.2.2.2, ak121, this⟩
end
