/-- the memory has changed at most in the ints of S's things -/
def Ch (S : Nat → Prop) (M M' : Mm) : Prop := M'.1 = M.1 ∧ M'.2.2 = M.2.2 ∧ ∀ b, ¬ S b → ∀ j, iM M' b j = iM M b j
theorem Ch.rf {S : Nat → Prop} {M : Mm} : Ch S M M := ⟨rfl, rfl, fun _ _ _ => rfl⟩
theorem Ch.trans {S T : Nat → Prop} {M M1 M2 : Mm} (h : Ch S M M1) (h2 : Ch T M1 M2) : Ch (fun b => S b ∨ T b) M M2 := ⟨h2.1.trans h.1, h2.2.1.trans h.2.1, fun b hb j => (h2.2.2 b (fun q => hb (Or.inr q)) j).trans (h.2.2 b (fun q => hb (Or.inl q)) j)⟩
theorem Ch.mono {S T : Nat → Prop} {M M1 : Mm} (h : Ch S M M1) (hs : ∀ b, S b → T b) : Ch T M M1 := ⟨h.1, h.2.1, fun b hb j => h.2.2 b (fun q => hb (hs b q)) j⟩
theorem Ch.t {S : Nat → Prop} {M M1 M2 : Mm} (h : Ch S M M1) (h2 : Ch S M1 M2) : Ch S M M2 := (h.trans h2).mono (fun _ q => q.elim id id)
theorem Ch.k {S : Nat → Prop} {M M1 : Mm} (h : Ch S M M1) (a : Nat) : kM M1 a = kM M a := by unfold kM; rw [h.1]
theorem Ch.r {S : Nat → Prop} {M M1 : Mm} (h : Ch S M M1) (a k : Nat) : rM M1 a k = rM M a k := by unfold rM; rw [h.2.1]
theorem Ch.l {S : Nat → Prop} {M M1 : Mm} (h : Ch S M M1) (a k : Nat) : lM M1 a k = lM M a k := by unfold lM; rw [h.2.1]
theorem Ch.i {S : Nat → Prop} {M M1 : Mm} (h : Ch S M M1) {a : Nat} (ha : ¬ S a) (k : Nat) : iM M1 a k = iM M a k := h.2.2 a ha k
theorem Ch.put {S : Nat → Prop} {M : Mm} {a k : Nat} {v : Int32} (ha : S a) : Ch S M (wI M a k v) := ⟨rfl, rfl, fun b hb j => by rw [iM_wI, if_neg (fun q : b = a ∧ j = k => hb (q.1 ▸ ha))]⟩
/-- a Ring o with its row w holds xs -/
def RG (M : Mm) (o w : Nat) (xs : List Int32) : Prop := kM M o = (5, 2) ∧ rM M o 0 = some w ∧ kM M w = (100, 12) ∧ iM M o 1 = nI xs.length ∧ xs.length ≤ 12 ∧ ∀ k x, xs[k]? = some x → iM M w k = x
theorem RG.ne {M : Mm} {o w : Nat} {xs : List Int32} (h : RG M o w xs) : o ≠ w := fun e => by
  have h1 := h.1
  have h2 := h.2.2.1
  rw [e, h2] at h1
  cases h1
theorem RG.ne2 {M : Mm} {o w o2 w2 : Nat} {xs ys : List Int32} (h : RG M o w xs) (h2 : RG M o2 w2 ys) : o ≠ w2 := fun e => by
  have h1 := h.1
  have h2 := h2.2.2.1
  rw [e, h2] at h1
  cases h1
theorem RG.kept {S : Nat → Prop} {M M' : Mm} {o w : Nat} {xs : List Int32} (h : RG M o w xs) (c : Ch S M M') (ho : ¬ S o) (hw : ¬ S w) : RG M' o w xs :=
  ⟨(c.k o).trans h.1, (c.r o 0).trans h.2.1, (c.k w).trans h.2.2.1, (c.i ho 1).trans h.2.2.2.1, h.2.2.2.2.1, fun k x hk => (c.i hw k).trans (h.2.2.2.2.2 k x hk)⟩
theorem t_length {M : Mm} {o w : Nat} {xs : List Int32} {Q : Int32 → Prop} (h : RG M o w xs) (q : Q (nI xs.length)) : T_X5_length M o Q := by
  unfold T_X5_length
  exact ⟨h.1, by rw [h.2.2.2.1]; exact q⟩
theorem t_get0 {M : Mm} {o w : Nat} {i : Int32} {Q : Int32 → Prop} (h : RG M o w []) (q : Q (-1)) : T_X5_get M o i Q := by
  unfold T_X5_get
  refine ⟨h.1, fun z => absurd z ?_, fun _ => q⟩
  rw [h.2.2.2.1]
  decide
theorem t_get {M : Mm} {o w p : Nat} {xs : List Int32} {x : Int32} {Q : Int32 → Prop} (h : RG M o w xs) (hp : p < 2 ^ 31) (hx : xs[p % xs.length]? = some x) (q : Q x) : T_X5_get M o (nI p) Q := by
  obtain ⟨h1, h2, h3, h4, h5, h6⟩ := h
  have hlt : p % xs.length < xs.length := (List.getElem?_eq_some_iff.mp hx).1
  have hn : 0 < xs.length := by omega
  unfold T_X5_get
  have hr : nI p - nI p / nI xs.length * nI xs.length = nI (p % xs.length) := pk_rem hp hn (by omega)
  rw [h4, hr]
  refine ⟨h1, fun _ => ⟨h1, nI_ne0 hn (by omega), h1, w, h2, fun _ => ⟨12, h3, vp_in_nI (by omega) (by omega), ?_⟩, fun z => absurd (nI_pos' (by omega)) z⟩, fun z => ?_⟩
  · rw [nI_clamp (by omega), h6 _ _ hx]; exact q
  · exact absurd (by have := nI_lt (a := 0) (b := xs.length) hn (by omega); rwa [nI_0] at this) z
/-- a place told from behind: -p, p up to the length -/
theorem t_getN {M : Mm} {o w p : Nat} {xs : List Int32} {x : Int32} {Q : Int32 → Prop} (h : RG M o w xs) (hp : p ≤ xs.length) (hx : xs[(xs.length - p) % xs.length]? = some x) (q : Q x) : T_X5_get M o (-(nI p)) Q := by
  obtain ⟨h1, h2, h3, h4, h5, h6⟩ := h
  have hlt : (xs.length - p) % xs.length < xs.length := (List.getElem?_eq_some_iff.mp hx).1
  have hn : 0 < xs.length := by omega
  have hcase : p = 0 ∨ p = xs.length ∨ (0 < p ∧ p < xs.length) := by omega
  have key : -(nI p) - -(nI p) / nI xs.length * nI xs.length = if p = xs.length then 0 else -(nI p) := by
    have hd : (-(nI p)) / nI xs.length = if p = xs.length then -1 else 0 := by
      revert h5 hp hn
      generalize xs.length = n
      intro hp h5 hn
      have e : ∀ n : Fin 13, ∀ p : Fin 13, 0 < n.val → p.val ≤ n.val → (-(nI p.val)) / nI n.val = if p.val = n.val then -1 else 0 := by decide +kernel
      exact e ⟨n, by omega⟩ ⟨p, by omega⟩ hn hp
    rw [hd]
    by_cases e : p = xs.length
    · rw [if_pos e, if_pos e, e]
      have : (-1 : Int32) * nI xs.length = -(nI xs.length) := by rw [Int32.neg_mul, Int32.one_mul]
      rw [this, Int32.sub_self]
    · rw [if_neg e, if_neg e, Int32.zero_mul, Int32.sub_zero]
  unfold T_X5_get
  rw [h4, key]
  refine ⟨h1, fun _ => ⟨h1, nI_ne0 hn (by omega), h1, w, h2, ?_⟩, fun z => ?_⟩
  · rcases hcase with e | e | ⟨e1, e2⟩
    · subst e
      have e0 : ¬ 0 = xs.length := by omega
      rw [if_neg e0]
      have en : -(nI 0) = nI 0 := by decide
      rw [en]
      rw [Nat.sub_zero, Nat.mod_self] at hx
      refine ⟨fun _ => ⟨12, h3, vp_in_nI (by omega) (by omega), ?_⟩, fun z => absurd (nI_pos' (by omega)) z⟩
      rw [nI_clamp (by omega), h6 _ _ hx]; exact q
    · rw [if_pos e]
      rw [e, Nat.sub_self, Nat.zero_mod] at hx
      have en : (0 : Int32) = nI 0 := nI_0.symm
      rw [en]
      refine ⟨fun _ => ⟨12, h3, vp_in_nI (by omega) (by omega), ?_⟩, fun z => absurd (nI_pos' (by omega)) z⟩
      rw [nI_clamp (by omega), h6 _ _ hx]; exact q
    · rw [if_neg (by omega)]
      have hneg : ¬ (0 : Int32) ≤ -(nI p) := by
        have e : ∀ p : Fin 13, 0 < p.val → ¬ (0 : Int32) ≤ -(nI p.val) := by decide +kernel
        exact e ⟨p, by omega⟩ e1
      have hadd : -(nI p) + nI xs.length = nI (xs.length - p) := by
        rw [Int32.add_comm, ← Int32.sub_eq_add_neg, pk_sub (by omega)]
      refine ⟨fun z => absurd z hneg, fun _ => ⟨h1, 12, h3, ?_, ?_⟩⟩
      · rw [hadd]; exact vp_in_nI (by omega) (by omega)
      · rw [hadd, nI_clamp (by omega)]
        rw [Nat.mod_eq_of_lt (by omega)] at hx
        rw [h6 _ _ hx]; exact q
  · exact absurd (by have := nI_lt (a := 0) (b := xs.length) hn (by omega); rwa [nI_0] at this) z
theorem t_placeOf {M : Mm} {o w : Nat} {xs : List Int32} {x : Int32} {Q : Int32 → Prop} (h : RG M o w xs) (q1 : ∀ k, xs[k]? = some x → (∀ j, j < k → xs[j]? ≠ some x) → Q (nI k)) (q2 : x ∉ xs → Q (-1)) : T_X5_placeOf M o x Q := by
  obtain ⟨h1, h2, h3, h4, h5, h6⟩ := h
  intro K hK
  have loop : ∀ (d k : Nat), k + d = xs.length → (∀ j, j < k → xs[j]? ≠ some x) → K o x (nI k) := by
    intro d
    induction d with
    | zero =>
      intro k hk hj
      refine hK _ _ _ ?_
      unfold S_X5_placeOf_2
      rw [h4]
      refine ⟨h1, fun _ => q2 (fun hm => ?_), fun z => absurd (nI_le (by omega) (by omega)) z⟩
      obtain ⟨j, hlt, e⟩ := List.getElem_of_mem hm
      exact hj j (by omega) (by rw [List.getElem?_eq_getElem hlt, e])
    | succ d ih =>
      intro k hk hj
      refine hK _ _ _ ?_
      unfold S_X5_placeOf_2
      have hx : xs[k]? = some xs[k] := List.getElem?_eq_getElem (by omega)
      rw [h4, nI_clamp (by omega)]
      refine ⟨h1, fun z => absurd z (nI_ge (by omega) (by omega)), fun _ => ⟨h1, w, h2, 12, h3, vp_in_nI (by omega) (by omega), fun z => ?_, fun z => q1 k (by rw [hx, ← h6 k _ hx, z]) hj⟩⟩
      rw [h6 k _ hx] at z
      rw [nI_1]
      refine ih (k + 1) (by omega) (fun j hlt => ?_)
      by_cases e : j = k
      · subst e; rw [hx]; exact fun q => z (Option.some.inj q)
      · exact hj j (by omega)
  have := loop xs.length 0 (by omega) (fun j hj => absurd hj (by omega))
  rwa [nI_0] at this
/-- no value twice -/
def Dist (xs : List Int32) : Prop := ∀ i j, i < j → j < xs.length → xs[i]? ≠ xs[j]?
theorem t_hasTwice {M : Mm} {o w : Nat} {xs : List Int32} {Q : Int32 → Prop} (h : RG M o w xs) (q1 : ¬ Dist xs → Q 1) (q2 : Dist xs → Q 0) : T_X5_hasTwice M o Q := by
  intro K hK
  have loop : ∀ (d k : Nat), k + d = xs.length → (∀ i j, i < j → j < k → xs[i]? ≠ xs[j]?) → K o (nI k) := by
    intro d
    induction d with
    | zero =>
      intro k hk hj
      refine hK _ _ ?_
      unfold S_X5_hasTwice_2
      rw [h.2.2.2.1]
      refine ⟨h.1, fun _ => q2 (fun i j hij hjl => hj i j hij (by omega)), fun z => absurd (nI_le (by omega) (by have := h.2.2.2.2.1; omega)) z⟩
    | succ d ih =>
      intro k hk hj
      have h5 := h.2.2.2.2.1
      refine hK _ _ ?_
      unfold S_X5_hasTwice_2
      have hx : xs[k]? = some xs[k] := List.getElem?_eq_getElem (by omega)
      rw [h.2.2.2.1, nI_clamp (by omega)]
      refine ⟨h.1, fun z => absurd z (nI_ge (by omega) (by omega)), fun _ => ⟨h.1, w, h.2.1, 12, h.2.2.1, vp_in_nI (by omega) (by omega), h.1, ?_⟩⟩
      rw [h.2.2.2.2.2 k _ hx]
      refine (t_placeOf h (fun i hi hf => ⟨fun z => ?_, fun z => ?_⟩) (fun hm => absurd (List.getElem_mem _) hm))
      · have hil : i < xs.length := (List.getElem?_eq_some_iff.mp hi).1
        have hik : i = k := (nI_eq (by omega) (by omega)).mp z
        rw [nI_1]
        refine ih (k + 1) (by omega) (fun a b hab hb => ?_)
        by_cases e : b = k
        · subst e
          rw [hx]
          exact hf a (by omega)
        · exact hj a b hab (by omega)
      · refine q1 (fun hd => ?_)
        have hil : i < xs.length := (List.getElem?_eq_some_iff.mp hi).1
        have hne : i ≠ k := fun e => z (by rw [e])
        have hle : ¬ k < i := fun hlt => hf k hlt hx
        exact hd i k (by omega) (by omega) (by rw [hi, hx])
  have := loop xs.length 0 (by omega) (fun i j hij hj => absurd hj (by omega))
  rwa [nI_0] at this
theorem t_clear {M : Mm} {o w : Nat} {xs : List Int32} {Q : Mm → Prop} (h : RG M o w xs) (q : ∀ M', Ch (fun b => b = o ∨ b = w) M M' → RG M' o w [] → Q M') : T_X5_clear M o Q := by
  unfold T_X5_clear
  refine ⟨h.1, q _ (Ch.put (Or.inl rfl)) ⟨h.1, h.2.1, h.2.2.1, ?_, by simp, fun k x hk => by simp at hk⟩⟩
  rw [iM_wI, if_pos ⟨rfl, rfl⟩]
  rfl
theorem t_add {M : Mm} {o w : Nat} {xs : List Int32} {x : Int32} {Q : Mm → Prop} (h : RG M o w xs) (hl : xs.length < 12) (q : ∀ M', Ch (fun b => b = o ∨ b = w) M M' → RG M' o w (xs ++ [x]) → Q M') : T_X5_add M o x Q := by
  have hne := h.ne
  obtain ⟨h1, h2, h3, h4, h5, h6⟩ := h
  unfold T_X5_add
  rw [h4, nI_clamp (by omega)]
  have e12 : (12 : Int32) = nI 12 := rfl
  refine ⟨h1, fun z => absurd z (by rw [e12]; exact nI_ge hl (by omega)), fun _ => ⟨h1, w, h2, h1, 12, h3, vp_in_nI hl (by omega), h1, h1, q _ ((Ch.put (S := fun b => b = o ∨ b = w) (Or.inr rfl)).t (Ch.put (Or.inl rfl))) ⟨h1, h2, h3, ?_, by simp; omega, fun k y hk => ?_⟩⟩⟩
  · rw [iM_wI, if_pos ⟨rfl, rfl⟩, iM_wI, if_neg (fun q => hne q.1), h4, nI_1]
    simp
  · rw [iM_wI, if_neg (fun q => hne q.1.symm), iM_wI]
    rcases Nat.lt_trichotomy k xs.length with e | e | e
    · rw [List.getElem?_append_left e] at hk
      rw [if_neg (fun q => by omega)]
      exact h6 k y hk
    · subst e
      rw [if_pos ⟨rfl, rfl⟩]
      simpa using hk
    · rw [List.getElem?_append_right (by omega)] at hk
      have := (List.getElem?_eq_some_iff.mp hk).1
      simp at this
      omega
theorem t_add12 {M : Mm} {o w : Nat} {xs : List Int32} {x : Int32} {Q : Mm → Prop} (h : RG M o w xs) (hl : xs.length = 12) (q : Q M) : T_X5_add M o x Q := by
  unfold T_X5_add
  rw [h.2.2.2.1, hl]
  exact ⟨h.1, fun _ => q, fun z => absurd (show (12 : Int32) ≤ nI 12 by decide) z⟩
theorem t_set4 {M : Mm} {o w : Nat} {xs : List Int32} {a b c d : Int32} {Q : Mm → Prop} (h : RG M o w xs) (q : ∀ M', Ch (fun b => b = o ∨ b = w) M M' → RG M' o w (if d = -1 then [a, b, c] else [a, b, c, d]) → Q M') : T_X5_set M o a b c d Q := by
  unfold T_X5_set
  refine ⟨h.1, t_clear h (fun M1 c1 h1 => ⟨h1.1, t_add h1 (by simp) (fun M2 c2 h2 => ⟨h2.1, t_add h2 (by simp) (fun M3 c3 h3 => ⟨h3.1, t_add h3 (by simp) (fun M4 c4 h4 => ⟨fun z => ?_, fun z => ?_⟩)⟩)⟩)⟩)⟩
  · exact q M4 (((c1.t c2).t c3).t c4) (by rw [if_pos z]; exact h4)
  · exact ⟨h4.1, t_add h4 (by simp) (fun M5 c5 h5 => q M5 ((((c1.t c2).t c3).t c4).t c5) (by rw [if_neg z]; exact h5))⟩
