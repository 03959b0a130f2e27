theorem upto {P : Nat → Prop} {n : Nat} (h0 : P n) (hs : ∀ k, k < n → P (k + 1) → P k) : P 0 := by
  have key : ∀ d k, k + d = n → P k := by
    intro d
    induction d with
    | zero => intro k hk; rw [show k = n by omega]; exact h0
    | succ d ih => intro k hk; exact hs k (by omega) (ih (k + 1) (by omega))
  exact key n 0 (by omega)
/-- what stands at a place of a row that goes round; -1 in an empty one -/
def gt (xs : List Int32) (p : Nat) : Int32 := (xs[p % xs.length]?).getD (-1)
theorem gt_some {xs : List Int32} {p : Nat} (h : 0 < xs.length) : xs[p % xs.length]? = some (gt xs p) := by
  unfold gt
  rw [List.getElem?_eq_getElem (Nat.mod_lt _ h)]
  rfl
theorem gt_nil (p : Nat) : gt [] p = -1 := rfl
theorem gt_lt {xs : List Int32} {p : Nat} (h : p < xs.length) : xs[p]? = some (gt xs p) := by
  have := gt_some (xs := xs) (p := p) (by omega)
  rwa [Nat.mod_eq_of_lt h] at this
theorem gt_eq {xs : List Int32} {p : Nat} {x : Int32} (h : xs[p]? = some x) : gt xs p = x := by
  have hl : p < xs.length := (List.getElem?_eq_some_iff.mp h).1
  have := gt_lt hl
  rw [h] at this
  exact (Option.some.inj this).symm
theorem RG.apart {M M' : Mm} {o w o2 w2 : Nat} {xs ys : List Int32} (h2 : RG M o2 w2 ys) (h : RG M o w xs) (c : Ch (fun b => b = o ∨ b = w) M M') (ho : o2 ≠ o) (hw : w2 ≠ w) : RG M' o2 w2 ys :=
  h2.kept c (fun e => e.elim ho (fun e => h2.ne2 h e)) (fun e => e.elim (fun e => h.ne2 h2 e.symm) hw)
theorem t_gt {M : Mm} {o w p : Nat} {xs : List Int32} {Q : Int32 → Prop} (h : RG M o w xs) (hp : p < 2 ^ 31) (q : Q (gt xs p)) : T_X5_get M o (nI p) Q := by
  by_cases e : 0 < xs.length
  · exact t_get h hp (gt_some e) q
  · have : xs = [] := List.length_eq_zero_iff.mp (by omega)
    subst this
    exact t_get0 h q
theorem t_gtN {M : Mm} {o w p : Nat} {xs : List Int32} {Q : Int32 → Prop} (h : RG M o w xs) (hp : p ≤ xs.length) (q : Q (gt xs (xs.length - p))) : T_X5_get M o (-(nI p)) Q := by
  by_cases e : 0 < xs.length
  · exact t_getN h hp (gt_some e) q
  · have : xs = [] := List.length_eq_zero_iff.mp (by omega)
    subst this
    exact t_get0 h q
/-- c values of a row from a place on -/
def strt (ys : List Int32) (s : Nat) : Nat → List Int32
  | 0 => []
  | c + 1 => strt ys s c ++ [gt ys (s + c)]
theorem strt_len (ys : List Int32) (s c : Nat) : (strt ys s c).length = c := by
  induction c with
  | zero => rfl
  | succ c ih => simp [strt, ih]
theorem strt_get {ys : List Int32} {s c k : Nat} (h : k < c) : (strt ys s c)[k]? = some (gt ys (s + k)) := by
  induction c with
  | zero => omega
  | succ c ih =>
    unfold strt
    by_cases e : k = c
    · subst e
      rw [List.getElem?_append_right (by rw [strt_len]; omega), strt_len]
      simp
    · rw [List.getElem?_append_left (by rw [strt_len]; omega)]
      exact ih (by omega)
theorem t_addStretch {M : Mm} {o w o2 w2 s c : Nat} {xs ys : List Int32} {Q : Mm → Prop} (h : RG M o w xs) (h2 : RG M o2 w2 ys) (ho : o2 ≠ o) (hw : w2 ≠ w) (hs : s + c < 2 ^ 30) (hl : xs.length + c ≤ 12) (q : ∀ M', Ch (fun b => b = o ∨ b = w) M M' → RG M' o w (xs ++ strt ys s c) → Q M') : T_X5_addStretch M o o2 (nI s) (nI c) Q := by
  intro K hK
  have key : ∀ M', Ch (fun b => b = o ∨ b = w) M M' → RG M' o w (xs ++ strt ys s 0) → K o o2 (nI s) (nI c) (nI 0) M' := by
    refine upto (P := fun k => ∀ M', Ch (fun b => b = o ∨ b = w) M M' → RG M' o w (xs ++ strt ys s k) → K o o2 (nI s) (nI c) (nI k) M') (n := c) ?_ ?_
    · intro M' c1 h1
      refine hK _ _ _ _ _ _ ?_
      unfold S_X5_addStretch_3
      exact ⟨fun _ => q M' c1 h1, fun z => absurd (nI_le (by omega) (by omega)) z⟩
    · intro k hk ih M' c1 h1
      have h3 : RG M' o2 w2 ys := h2.apart h c1 ho hw
      refine hK _ _ _ _ _ _ ?_
      unfold S_X5_addStretch_3
      refine ⟨fun z => absurd z (nI_ge (by omega) (by omega)), fun _ => ⟨h3.1, ?_⟩⟩
      rw [show nI s + nI k = nI (s + k) from nI_add s k]
      refine t_gt h3 (by omega) ⟨h1.1, t_add h1 (by rw [List.length_append, strt_len]; omega) (fun M2 c2 h4 => ?_)⟩
      rw [nI_1]
      refine ih M2 (c1.t c2) ?_
      rw [List.append_assoc] at h4
      exact h4
  have := key M Ch.rf (by rw [show strt ys s 0 = [] from rfl, List.append_nil]; exact h)
  rwa [nI_0] at this
theorem t_copyFrom {M : Mm} {o w o2 w2 : Nat} {xs ys : List Int32} {Q : Mm → Prop} (h : RG M o w xs) (h2 : RG M o2 w2 ys) (ho : o2 ≠ o) (hw : w2 ≠ w) (q : ∀ M', Ch (fun b => b = o ∨ b = w) M M' → RG M' o w ys → Q M') : T_X5_copyFrom M o o2 Q := by
  intro K hK
  have hne := h.ne
  have hl := h2.2.2.2.2.1
  have key : ∀ M', Ch (fun b => b = o ∨ b = w) M M' → iM M' o 1 = nI ys.length → (∀ j x, j < 0 → ys[j]? = some x → iM M' w j = x) → K o o2 (nI 0) M' := by
    refine upto (P := fun k => ∀ M', Ch (fun b => b = o ∨ b = w) M M' → iM M' o 1 = nI ys.length → (∀ j x, j < k → ys[j]? = some x → iM M' w j = x) → K o o2 (nI k) M') (n := ys.length) ?_ ?_
    · intro M' c1 h1 hj
      refine hK _ _ _ _ ?_
      unfold S_X5_copyFrom_10
      rw [h1]
      refine ⟨(c1.k o).trans h.1, fun _ => q M' c1 ⟨(c1.k o).trans h.1, (c1.r o 0).trans h.2.1, (c1.k w).trans h.2.2.1, h1, hl, fun k x hk => hj k x (List.getElem?_eq_some_iff.mp hk).1 hk⟩, fun z => absurd (nI_le (by omega) (by omega)) z⟩
    · intro k hk ih M' c1 h1 hj
      refine hK _ _ _ _ ?_
      unfold S_X5_copyFrom_10
      have h3 : RG M' o2 w2 ys := h2.apart h c1 ho hw
      have e12 : (12 : Int32) = nI 12 := rfl
      rw [h1, nI_clamp (by omega)]
      refine ⟨(c1.k o).trans h.1, fun z => absurd z (nI_ge (by omega) (by omega)), fun _ => ⟨fun z => absurd z (by rw [e12]; exact nI_ge (by omega) (by omega)), fun _ => ⟨(c1.k o).trans h.1, w, (c1.r o 0).trans h.2.1, h3.1, w2, h3.2.1, 12, h3.2.2.1, vp_in_nI (by omega) (by omega), 12, (c1.k w).trans h.2.2.1, vp_in_nI (by omega) (by omega), ?_⟩⟩⟩
      rw [nI_1]
      refine ih _ (c1.t (Ch.put (Or.inr rfl))) ?_ (fun j x hjk hx => ?_)
      · rw [iM_wI, if_neg (fun z => hne z.1), h1]
      · rw [iM_wI]
        by_cases e : j = k
        · subst e
          rw [if_pos ⟨rfl, rfl⟩]
          exact h3.2.2.2.2.2 j x hx
        · rw [if_neg (fun z => e z.2)]
          exact hj j x (by omega) hx
  have := key _ (Ch.put (v := iM M o2 1) (k := 1) (Or.inl rfl)) (by rw [iM_wI, if_pos ⟨rfl, rfl⟩]; exact h2.2.2.2.1) (fun j x hj => absurd hj (by omega))
  rw [nI_0] at this
  exact ⟨h2.1, h.1, this⟩
/-- the first c values of a row, read backwards from its first on -/
def bwd (ys : List Int32) : Nat → List Int32
  | 0 => []
  | c + 1 => bwd ys c ++ [gt ys (ys.length - c)]
theorem bwd_len (ys : List Int32) (c : Nat) : (bwd ys c).length = c := by
  induction c with
  | zero => rfl
  | succ c ih => simp [bwd, ih]
theorem bwd_get {ys : List Int32} {c k : Nat} (h : k < c) : (bwd ys c)[k]? = some (gt ys (ys.length - k)) := by
  induction c with
  | zero => omega
  | succ c ih =>
    unfold bwd
    by_cases e : k = c
    · subst e
      rw [List.getElem?_append_right (by rw [bwd_len]; omega), bwd_len]
      simp
    · rw [List.getElem?_append_left (by rw [bwd_len]; omega)]
      exact ih (by omega)
theorem t_copyBackwards {M : Mm} {o w o2 w2 : Nat} {xs ys : List Int32} {Q : Mm → Prop} (h : RG M o w xs) (h2 : RG M o2 w2 ys) (ho : o2 ≠ o) (hw : w2 ≠ w) (q : ∀ M', Ch (fun b => b = o ∨ b = w) M M' → RG M' o w (bwd ys ys.length) → Q M') : T_X5_copyBackwards M o o2 Q := by
  intro K hK
  have hl := h2.2.2.2.2.1
  refine ⟨h.1, t_clear h (fun M1 c1 h1 => ?_)⟩
  have key : ∀ M', Ch (fun b => b = o ∨ b = w) M M' → RG M' o w (bwd ys 0) → K o o2 (nI 0) M' := by
    refine upto (P := fun k => ∀ M', Ch (fun b => b = o ∨ b = w) M M' → RG M' o w (bwd ys k) → K o o2 (nI k) M') (n := ys.length) ?_ ?_
    · intro M' c2 h4
      have h3 : RG M' o2 w2 ys := h2.apart h c2 ho hw
      refine hK _ _ _ _ ?_
      unfold S_X5_copyBackwards_6
      exact ⟨h3.1, t_length h3 ⟨fun _ => q M' c2 h4, fun z => absurd (nI_le (by omega) (by omega)) z⟩⟩
    · intro k hk ih M' c2 h4
      have h3 : RG M' o2 w2 ys := h2.apart h c2 ho hw
      refine hK _ _ _ _ ?_
      unfold S_X5_copyBackwards_6
      refine ⟨h3.1, t_length h3 ⟨fun z => absurd z (nI_ge (by omega) (by omega)), fun _ => ⟨h3.1, t_gtN h3 (by omega) ⟨h4.1, t_add h4 (by rw [bwd_len]; omega) (fun M3 c3 h5 => ?_)⟩⟩⟩⟩
      rw [nI_1]
      exact ih M3 (c2.t c3) h5
  have := key M1 c1 h1
  rwa [nI_0] at this
