/-- the mesh's data on which nothing was done: no faces, no points -/
def Emp (A : Nat → Nat) (M : Mm) : Prop := FT A M (fun _ => []) (fun _ _ => 0) ∧ FN A M 0 0 ∧ PT A M (fun _ => false) (fun _ _ => 0) ∧ PN A M 0 0
/-- changed at most in the mesh's own ints -/
def Co (A : Nat → Nat) (M M' : Mm) : Prop := (∀ b, kM M' b = kM M b) ∧ (∀ b j, rM M' b j = rM M b j) ∧ ∀ b, ¬ In A CI b → ∀ j, iM M' b j = iM M b j
def C6 (i : Nat) : Prop := i = 12 ∨ i = 13 ∨ i = 15 ∨ i = 28 ∨ i = 29 ∨ i = 30
theorem sumN_zz {g : Nat → Nat} (h : ∀ k, g k = 0) : ∀ n, sumN g n = 0 := by
  intro n
  induction n with
  | zero => rfl
  | succ n ih => show sumN g n + g n = 0; rw [ih, h]
section
variable {A : Nat → Nat} {M M' : Mm}
theorem Emp.go {I : Nat → Prop} (h : Emp A M) (c : Ch (In A I) M M') (hI : ∀ i, I i → C6 i) : Emp A M' := by
  have hI2 : ∀ i, I i → i = 12 ∨ i = 13 ∨ i = 15 ∨ i = 28 ∨ i = 29 ∨ i = 30 := hI
  exact ⟨h.1.go c (fun i q => by have := hI2 i q; omega), h.2.1.go h.1.1 c (fun q => by have := hI2 _ q; omega), h.2.2.1.go c (fun i q => by have := hI2 i q; omega), h.2.2.2.go h.1.1 c (fun q => by have := hI2 _ q; omega)⟩
theorem FRSH.f0 (h : FRSH A M) : Emp A M := ⟨h.1, h.2.1, h.2.2.1, h.2.2.2.1⟩
theorem Co.rf : Co A M M := ⟨fun _ => rfl, fun _ _ => rfl, fun _ _ _ => rfl⟩
theorem Co.tr {M2 : Mm} (h : Co A M M') (h2 : Co A M' M2) : Co A M M2 := ⟨fun b => (h2.1 b).trans (h.1 b), fun b j => (h2.2.1 b j).trans (h.2.1 b j), fun b hb j => (h2.2.2 b hb j).trans (h.2.2 b hb j)⟩
theorem Co.ch {I : Nat → Prop} (c : Ch (In A I) M M') (hI : ∀ i, I i → CI i) : Co A M M' := ⟨fun b => c.k b, fun b j => c.r b j, fun b hb j => c.i (fun q => hb (In.mono hI b q)) j⟩
theorem C6.ci (i : Nat) (h : C6 i) : CI i := by
  rcases h with h | h | h | h | h | h <;> exact Or.inl (by omega)
theorem Co.out {o k : Nat} {v : Int64} : Co A M (wL M o k v) := ⟨fun _ => rfl, fun _ _ => rfl, fun _ _ _ => rfl⟩
theorem f_ever {Q : Int32 → Prop} (h : Emp A M) (q : Q 0) : T_X1_ever M (A 7) Q := by
  unfold T_X1_ever
  rw [h.2.1.1, nI_0]
  exact ⟨h.1.1.k 7, q⟩
theorem f_left {Q : Int32 → Prop} (h : Emp A M) (q : Q 0) : T_X1_left M (A 7) Q := by
  unfold T_X1_left
  rw [h.2.1.2.1, nI_0]
  exact ⟨h.1.1.k 7, q⟩
theorem f_pever {Q : Int32 → Prop} (h : Emp A M) (q : Q 0) : T_X3_ever M (A 1) Q := by
  unfold T_X3_ever
  rw [h.2.2.2.1, nI_0]
  exact ⟨h.1.1.k 1, q⟩
theorem f_pleft {Q : Int32 → Prop} (h : Emp A M) (q : Q 0) : T_X3_left M (A 1) Q := by
  unfold T_X3_left
  rw [h.2.2.2.2.1, nI_0]
  exact ⟨h.1.1.k 1, q⟩
theorem f_edges {Q : Int32 → Prop} (h : Emp A M) (q : Q 0) : T_X1_edgeCount M (A 7) Q := t_edgeCount h.1 h.2.1 q
theorem f_halves {Q : Int32 → Prop} (h : Emp A M) (q : Q 0) : T_X1_halfCount M (A 7) Q := t_halfCount h.1 h.2.1 q
theorem f_proom {k : Nat} {Q : Int32 → Prop} (h : Emp A M) (hk : k ≤ 100) (q : Q 1) : T_X3_hasRoom M (A 1) (nI k) Q := t_phasRoom h.2.2.1 h.2.2.2 (by omega) (fun _ => q) (fun z => absurd z (by omega))
theorem f_room {k : Nat} {Q : Int32 → Prop} (h : Emp A M) (hk : k ≤ 160) (q : Q 1) : T_X1_hasRoom M (A 7) (nI k) Q := by
  unfold T_X1_hasRoom
  rw [h.2.1.1, show (160 : Int32) - nI 0 = nI 160 by decide]
  exact ⟨h.1.1.k 7, fun z => absurd ((nI_ltI (by omega) (by omega)).mp z) (by omega), fun _ => q⟩
theorem f_has {k : Nat} {Q : Int32 → Prop} (h : Emp A M) (q : Q 0) : T_X1_has M (A 7) (nI k) Q := t_has h.1 (fun f hf e ht => absurd rfl ht) (fun _ => q)
theorem f_isEdge {a b : Nat} {Q : Int32 → Prop} (h : Emp A M) (ha : a < 100) (hb : b < 100) (q : Q 0) : T_X1_isEdge M (A 7) (nI a) (nI b) Q := t_isEdge h.1 ha hb (fun z => absurd z (by simp)) (fun _ _ => q)
theorem f_isOpen {a b : Nat} {Q : Int32 → Prop} (h : Emp A M) (ha : a < 100) (hb : b < 100) (q : Q 0) : T_X1_isOpen M (A 7) (nI a) (nI b) Q := t_isOpen h.1 ha hb (fun _ z => absurd rfl z) (fun _ => q)
theorem le00 {x : Int32} {P : Prop} (q : P) : ((0 : Int32) ≤ 0 → P) := fun _ => q
theorem nle00 {P : Prop} : (¬ (0 : Int32) ≤ 0 → P) := fun z => absurd (by decide) z
theorem t_forget (hS : Sh A M) {Q : Mm → Prop} (q : ∀ M', Ch (In A (fun l => l = 15)) M M' → Q M') : T_X7_forgetFaces M (A 14) Q := by
  unfold T_X7_forgetFaces
  intro K hK
  have e160 : (160 : Int32) = nI 160 := rfl
  have key : ∀ d k M', d + k = 160 → Ch (In A (fun l => l = 15)) M M' → K (A 14) (nI k) M' := by
    intro d
    induction d with
    | zero =>
      intro k M' hd c
      have : k = 160 := by omega
      subst this
      exact hK _ _ _ ⟨fun _ => q M' c, fun z => absurd (by rw [e160]; exact nI_le (Nat.le_refl _) (by omega)) z⟩
    | succ d ih =>
      intro k M' hd c
      have s' := hS.go c
      refine hK _ _ _ ⟨fun z => absurd z (by rw [e160]; exact nI_ge (by omega) (by omega)), fun _ => ⟨s'.k 14, A 15, s'.r 14 2 15, 160, s'.k 15, vp_in_nI (by omega) (by omega), ?_⟩⟩
      rw [nI_1]
      exact ih (k + 1) _ (by omega) (c.t (Ch.one (by omega)))
  have := key 160 0 M rfl Ch.rf
  rw [nI_0] at this
  exact this
theorem f_shells {Q : Int32 → Mm → Prop} (h : Emp A M) (q : ∀ M', Ch (In A (fun l => l = 15)) M M' → Q 0 M') : T_X7_shellCount M (A 14) Q := by
  unfold T_X7_shellCount
  intro K hK
  refine ⟨h.1.1.k 14, t_forget h.1.1 (fun M' c => ?_)⟩
  have h' : Emp A M' := h.go c (fun i e => Or.inr (Or.inr (Or.inl e)))
  exact hK _ _ _ _ ⟨h'.1.1.k 14, A 7, h'.1.1.r 14 0 7, h'.1.1.k 7, f_ever h' ⟨fun _ => q M' c, nle00⟩⟩
theorem f_holes {Q : Int32 → Mm → Prop} (h : Emp A M) (hm : MT A M 0 (fun _ _ => 0)) (q : ∀ M', Ch (In A (fun l => l = 12 ∨ l = 13)) M M' → Q 0 M') : T_X7_holeCount M (A 14) Q :=
  t_holeCount h.1 h.2.1 (fun a b z => absurd rfl z) (fun u v _ _ z => absurd rfl z.2) hm (by omega) (fun M' c _ _ => q M' c)
theorem f_bulk {Q : Int64 → Prop} (h : Emp A M) (q : Q 0) : T_X8_wholeBulk M (A 0) Q := by
  unfold T_X8_wholeBulk
  intro K hK
  exact hK _ _ _ ⟨h.1.1.k 0, A 7, h.1.1.r 0 1 7, h.1.1.k 7, f_ever h ⟨fun _ => q, nle00⟩⟩
theorem f_pairs {w : Int32} {Q : Int32 → Mm → Prop} (h : Emp A M) (q : Q 0 M) : T_X8_countPairs M (A 0) w Q := by
  unfold T_X8_countPairs
  intro K4 K28 K76 h4 h28 h76
  exact h4 _ _ _ _ _ ⟨h.1.1.k 0, A 7, h.1.1.r 0 1 7, h.1.1.k 7, f_ever h ⟨fun _ => q, nle00⟩⟩
theorem f_turn {Q : Int32 → Mm → Prop} (h : Emp A M) (q : Q 0 M) : T_X8_turn M (A 0) Q := by
  unfold T_X8_turn
  intro K hK
  exact hK _ _ _ ⟨h.1.1.k 0, A 7, h.1.1.r 0 1 7, h.1.1.k 7, f_ever h ⟨fun _ => ⟨h.1.1.k 0, A 7, h.1.1.r 0 1 7, h.1.1.k 7, f_left h q⟩, nle00⟩⟩
theorem f_fits {Q : Int32 → Prop} (h : Emp A M) (q : Q 1) : T_X4_fits M (A 21) Q := by
  unfold T_X4_fits
  have e : (0 + 0 : Int32) = nI 0 := by decide
  have e0 : (0 : Int32) = nI 0 := nI_0.symm
  refine ⟨h.1.1.k 21, A 1, h.1.1.r 21 0 1, h.1.1.k 21, A 7, h.1.1.r 21 1 7, h.1.1.k 7, f_edges h ⟨h.1.1.k 21, A 7, h.1.1.r 21 1 7, h.1.1.k 7, f_left h ⟨h.1.1.k 1, ?_⟩⟩⟩
  rw [e]
  refine f_proom h (by omega) ⟨fun z => absurd z (by decide), fun _ => ⟨h.1.1.k 21, A 7, h.1.1.r 21 1 7, h.1.1.k 21, A 7, h.1.1.r 21 1 7, h.1.1.k 7, f_halves h ⟨h.1.1.k 7, ?_⟩⟩⟩
  rw [e0]
  exact f_room h (by omega) ⟨fun z => absurd z (by decide), fun _ => q⟩
theorem f_middles {Q : Mm → Prop} (h : Emp A M) (q : Q M) : T_X4_addMiddles M (A 21) Q := by
  unfold T_X4_addMiddles
  intro K2 K12 h2 h12
  have e100 : (100 : Int32) = nI 100 := rfl
  have inner : ∀ i, i < 100 → K2 (A 21) (nI i + 1) M → ∀ d j, d + j = 100 → K12 (A 21) (nI i) (nI j) M := by
    intro i hi hk d
    induction d with
    | zero =>
      intro j hd
      have : j = 100 := by omega
      subst this
      exact h12 _ _ _ _ ⟨fun _ => hk, fun z => absurd (by rw [e100]; exact nI_le (Nat.le_refl _) (by omega)) z⟩
    | succ d ih =>
      intro j hd
      refine h12 _ _ _ _ ⟨fun z => absurd z (by rw [e100]; exact nI_ge (by omega) (by omega)), fun _ => ⟨h.1.1.k 21, A 7, h.1.1.r 21 1 7, h.1.1.k 7, f_isEdge h hi (by omega) ⟨fun _ => ?_, fun z => absurd rfl z⟩⟩⟩
      rw [nI_1]
      exact ih (j + 1) (by omega)
  have outer : ∀ d i, d + i = 100 → K2 (A 21) (nI i) M := by
    intro d
    induction d with
    | zero =>
      intro i hd
      have : i = 100 := by omega
      subst this
      exact h2 _ _ _ ⟨fun _ => q, fun z => absurd (by rw [e100]; exact nI_le (Nat.le_refl _) (by omega)) z⟩
    | succ d ih =>
      intro i hd
      refine h2 _ _ _ ⟨fun z => absurd z (by rw [e100]; exact nI_ge (by omega) (by omega)), fun _ => ?_⟩
      have := inner i (by omega) (by rw [nI_1]; exact ih (i + 1) (by omega)) (100 - (i + 1)) (i + 1) (by omega)
      rw [nI_1]
      exact this
  have := outer 100 0 rfl
  rw [nI_0] at this
  exact this
theorem f_centres {Q : Mm → Prop} (h : Emp A M) (q : Q M) : T_X4_addCentres M (A 21) Q := by
  unfold T_X4_addCentres
  intro K2 h2
  have e160 : (160 : Int32) = nI 160 := rfl
  have outer : ∀ d i, d + i = 160 → K2 (A 21) (nI i) M := by
    intro d
    induction d with
    | zero =>
      intro i hd
      have : i = 160 := by omega
      subst this
      exact h2 _ _ _ ⟨fun _ => q, fun z => absurd (by rw [e160]; exact nI_le (Nat.le_refl _) (by omega)) z⟩
    | succ d ih =>
      intro i hd
      refine h2 _ _ _ ⟨fun z => absurd z (by rw [e160]; exact nI_ge (by omega) (by omega)), fun _ => ⟨h.1.1.k 21, A 7, h.1.1.r 21 1 7, h.1.1.k 7, f_has h ⟨fun _ => ?_, fun z => absurd rfl z⟩⟩⟩
      rw [nI_1]
      exact ih (i + 1) (by omega)
  have := outer 160 0 rfl
  rw [nI_0] at this
  exact this
theorem f_qapply {Q : Mm → Prop} (h : Emp A M) (q : Q M) : T_X4_apply M (A 21) Q := by
  unfold T_X4_apply
  intro K hK
  exact ⟨h.1.1.k 21, A 7, h.1.1.r 21 1 7, h.1.1.k 7, f_ever h ⟨h.1.1.k 21, f_middles h ⟨h.1.1.k 21, f_centres h (hK _ _ _ _ ⟨fun _ => q, nle00⟩)⟩⟩⟩
theorem f_atOpen {p : Nat} {Q : Int32 → Prop} (h : Emp A M) (hp : p < 100) (q : Q 0) : T_X6_isAtOpenHalf M (A 26) (nI p) Q := by
  unfold T_X6_isAtOpenHalf
  intro K hK
  have e100 : (100 : Int32) = nI 100 := rfl
  have outer : ∀ d i, d + i = 100 → K (A 26) (nI p) (nI i) := by
    intro d
    induction d with
    | zero =>
      intro i hd
      have : i = 100 := by omega
      subst this
      exact hK _ _ _ ⟨fun _ => q, fun z => absurd (by rw [e100]; exact nI_le (Nat.le_refl _) (by omega)) z⟩
    | succ d ih =>
      intro i hd
      refine hK _ _ _ ⟨fun z => absurd z (by rw [e100]; exact nI_ge (by omega) (by omega)), fun _ => ⟨h.1.1.k 26, A 7, h.1.1.r 26 1 7, h.1.1.k 7, f_isOpen h hp (by omega) ⟨fun z => absurd rfl z, fun _ => ⟨h.1.1.k 26, A 7, h.1.1.r 26 1 7, h.1.1.k 7, f_isOpen h (by omega) hp ⟨fun _ => ?_, fun z => absurd rfl z⟩⟩⟩⟩⟩
      rw [nI_1]
      exact ih (i + 1) (by omega)
  have := outer 100 0 rfl
  rw [nI_0] at this
  exact this
theorem f_find {p : Nat} {Q : Mm → Prop} (h : Emp A M) (hp : p < 100) (q : Q M) : T_X6_findPlace M (A 26) (nI p) Q := by
  unfold T_X6_findPlace
  intro K23 K34 h23 h34
  refine ⟨h.1.1.k 26, A 7, h.1.1.r 26 1 7, h.1.1.k 7, t_neighboursOf h.1 hp ?_⟩
  have e : nbrs (fun _ _ => 0) p = 0 := sumN_zz (fun k => by simp) 100
  rw [e]
  exact ⟨fun _ => q, fun z => absurd nI_0 z⟩
theorem f_settle {p : Nat} {Q : Int32 → Mm → Prop} (h : Emp A M) (q : Q 0 M) : T_X6_settle M (A 26) (nI p) Q := by
  unfold T_X6_settle
  intro K hK
  exact ⟨h.1.1.k 26, A 1, h.1.1.r 26 0 1, h.1.1.k 1, t_phas h.2.2.1 (fun p hp e ht => by simp at ht) (fun _ => ⟨fun z => absurd rfl z, fun _ => q⟩)⟩
theorem f_smooth {Q : Int32 → Mm → Prop} (h : Emp A M) (q : ∀ M', Ch (In A C6) M M' → Q 0 M') : T_X6_apply M (A 26) Q := by
  unfold T_X6_apply
  intro K2 K61 K10 h2 h61 h10
  have e100 : (100 : Int32) = nI 100 := rfl
  have e3 : (3 : Int32) = nI 3 := rfl
  have last : ∀ M', Ch (In A C6) M M' → ∀ d i, d + i = 100 → K61 (A 26) 0 (nI i) M' := by
    intro M' c d
    have h' := h.go c (fun _ e => e)
    induction d with
    | zero =>
      intro i hd
      have : i = 100 := by omega
      subst this
      exact h61 _ _ _ _ ⟨fun _ => q M' c, fun z => absurd (by rw [e100]; exact nI_le (Nat.le_refl _) (by omega)) z⟩
    | succ d ih =>
      intro i hd
      refine h61 _ _ _ _ ⟨fun z => absurd z (by rw [e100]; exact nI_ge (by omega) (by omega)), fun _ => ⟨h'.1.1.k 26, f_settle h' ⟨fun _ => ?_, fun z => absurd rfl z⟩⟩⟩
      rw [nI_1]
      exact ih (i + 1) (by omega)
  have inner : ∀ i, i < 100 → (∀ M', Ch (In A C6) M M' → K2 (A 26) (nI i + 1) M') → ∀ d ax M', d + ax = 3 → Ch (In A C6) M M' → K10 (A 26) (nI i) (nI ax) M' := by
    intro i hi hk d
    induction d with
    | zero =>
      intro ax M' hd c
      have h' := h.go c (fun _ e => e)
      have : ax = 3 := by omega
      subst this
      exact h10 _ _ _ _ ⟨fun _ => ⟨h'.1.1.k 26, f_atOpen h' hi ⟨fun z => absurd rfl z, fun _ => ⟨h'.1.1.k 26, f_find h' hi (hk M' c)⟩⟩⟩, fun z => absurd (by rw [e3]; exact nI_le (Nat.le_refl _) (by omega)) z⟩
    | succ d ih =>
      intro ax M' hd c
      have h' := h.go c (fun _ e => e)
      have hg : rM M' (A 27) ax = some (A (28 + ax)) ∧ kM M' (A (28 + ax)) = (100, 100) := by
        rcases (show ax = 0 ∨ ax = 1 ∨ ax = 2 by omega) with e | e | e <;> subst e
        · exact ⟨h'.1.1.r 27 0 28, h'.1.1.k 28⟩
        · exact ⟨h'.1.1.r 27 1 29, h'.1.1.k 29⟩
        · exact ⟨h'.1.1.r 27 2 30, h'.1.1.k 30⟩
      refine h10 _ _ _ _ ⟨fun z => absurd z (by rw [e3]; exact nI_ge (by omega) (by omega)), fun _ => ⟨h'.1.1.k 26, A 27, h'.1.1.r 26 2 27, 3, h'.1.1.k 27, vp_in_nI (by omega) (by omega), A (28 + ax), by rw [nI_clamp (by omega)]; exact hg.1, h'.1.1.k 26, A 1, h'.1.1.r 26 0 1, h'.1.1.k 1, t_pget h'.2.2.1 hi (by omega) ⟨100, hg.2, vp_in_nI (by omega) (by omega), ?_⟩⟩⟩
      rw [nI_1]
      refine ih (ax + 1) _ (by omega) (c.t (Ch.put ⟨28 + ax, by omega, ?_, rfl⟩))
      show 28 + ax = 12 ∨ 28 + ax = 13 ∨ 28 + ax = 15 ∨ 28 + ax = 28 ∨ 28 + ax = 29 ∨ 28 + ax = 30
      omega
  have outer : ∀ d i M', d + i = 100 → Ch (In A C6) M M' → K2 (A 26) (nI i) M' := by
    intro d
    induction d with
    | zero =>
      intro i M' hd c
      have : i = 100 := by omega
      subst this
      have := last M' c 100 0 rfl
      rw [nI_0] at this
      exact h2 _ _ _ ⟨fun _ => this, fun z => absurd (by rw [e100]; exact nI_le (Nat.le_refl _) (by omega)) z⟩
    | succ d ih =>
      intro i M' hd c
      have := inner i (by omega) (fun M2 c2 => by rw [nI_1]; exact ih (i + 1) M2 (by omega) c2) 3 0 M' rfl c
      rw [nI_0] at this
      exact h2 _ _ _ ⟨fun z => absurd z (by rw [e100]; exact nI_ge (by omega) (by omega)), fun _ => this⟩
  have := outer 100 0 M rfl Ch.rf
  rw [nI_0] at this
  exact this
end
