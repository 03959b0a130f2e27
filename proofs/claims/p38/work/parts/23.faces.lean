def upO (ow : Nat → Nat → Nat) (u v w : Nat) : Nat → Nat → Nat := fun a b => if a = u ∧ b = v then w else ow a b
def upr (rs : Nat → List Nat) (f : Nat) (xs : List Nat) : Nat → List Nat := fun g => if g = f then xs else rs g
/-- the owners with the first k halves of a row let go by f -/
def relT (f : Nat) (xs : List Nat) (ow : Nat → Nat → Nat) : Nat → Nat → Nat → Nat
  | 0 => ow
  | k + 1 => if relT f xs ow k (gn xs k) (gn xs (k + 1)) = f + 1 then upO (relT f xs ow k) (gn xs k) (gn xs (k + 1)) 0 else relT f xs ow k
/-- the owners with the first k halves of a row taken by f -/
def clT (f : Nat) (xs : List Nat) (ow : Nat → Nat → Nat) : Nat → Nat → Nat → Nat
  | 0 => ow
  | k + 1 => upO (clT f xs ow k) (gn xs k) (gn xs (k + 1)) (f + 1)
/-- (a, b) is one of the first k halves of a row -/
def hvk (xs : List Nat) (k a b : Nat) : Prop := ∃ i, i < k ∧ gn xs i = a ∧ gn xs (i + 1) = b
theorem relT_at (f : Nat) (xs : List Nat) (ow : Nat → Nat → Nat) (k a b : Nat) : (hvk xs k a b ∧ ow a b = f + 1 → relT f xs ow k a b = 0) ∧ (¬ (hvk xs k a b ∧ ow a b = f + 1) → relT f xs ow k a b = ow a b) := by
  induction k with
  | zero => exact ⟨fun q => absurd q.1 (fun ⟨i, hi, _⟩ => by omega), fun _ => rfl⟩
  | succ k ih =>
    have key : hvk xs (k + 1) a b ↔ hvk xs k a b ∨ (gn xs k = a ∧ gn xs (k + 1) = b) := by
      constructor
      · rintro ⟨i, hi, e1, e2⟩
        by_cases e : i = k
        · subst e; exact Or.inr ⟨e1, e2⟩
        · exact Or.inl ⟨i, by omega, e1, e2⟩
      · rintro (⟨i, hi, e1, e2⟩ | ⟨e1, e2⟩)
        · exact ⟨i, by omega, e1, e2⟩
        · exact ⟨k, by omega, e1, e2⟩
    rw [key]
    show (_ → (if relT f xs ow k (gn xs k) (gn xs (k + 1)) = f + 1 then upO (relT f xs ow k) (gn xs k) (gn xs (k + 1)) 0 else relT f xs ow k) a b = 0) ∧ (_ → (if relT f xs ow k (gn xs k) (gn xs (k + 1)) = f + 1 then upO (relT f xs ow k) (gn xs k) (gn xs (k + 1)) 0 else relT f xs ow k) a b = ow a b)
    by_cases e : gn xs k = a ∧ gn xs (k + 1) = b
    · rw [e.1, e.2]
      by_cases g : relT f xs ow k a b = f + 1
      · rw [if_pos g]
        unfold upO
        rw [if_pos ⟨rfl, rfl⟩]
        refine ⟨fun _ => rfl, fun q => ?_⟩
        exfalso
        by_cases hq : hvk xs k a b ∧ ow a b = f + 1
        · have := ih.1 hq; omega
        · have := ih.2 hq
          exact q ⟨Or.inr ⟨rfl, rfl⟩, by omega⟩
      · rw [if_neg g]
        by_cases hq : hvk xs k a b ∧ ow a b = f + 1
        · exact ⟨fun _ => ih.1 hq, fun q => absurd ⟨Or.inl hq.1, hq.2⟩ q⟩
        · have := ih.2 hq
          exact ⟨fun q => absurd q.2 (by omega), fun _ => this⟩
    · have e2 : (if relT f xs ow k (gn xs k) (gn xs (k + 1)) = f + 1 then upO (relT f xs ow k) (gn xs k) (gn xs (k + 1)) 0 else relT f xs ow k) a b = relT f xs ow k a b := by
        split
        · unfold upO
          rw [if_neg (fun q => e ⟨q.1.symm, q.2.symm⟩)]
        · rfl
      rw [e2]
      exact ⟨fun q => ih.1 ⟨q.1.elim id (fun w => absurd w e), q.2⟩, fun q => ih.2 (fun w => q ⟨Or.inl w.1, w.2⟩)⟩
theorem clT_at (f : Nat) (xs : List Nat) (ow : Nat → Nat → Nat) (k a b : Nat) : (hvk xs k a b → clT f xs ow k a b = f + 1) ∧ (¬ hvk xs k a b → clT f xs ow k a b = ow a b) := by
  induction k with
  | zero => exact ⟨fun q => absurd q (fun ⟨i, hi, _⟩ => by omega), fun _ => rfl⟩
  | succ k ih =>
    show (_ → upO (clT f xs ow k) (gn xs k) (gn xs (k + 1)) (f + 1) a b = f + 1) ∧ (_ → upO (clT f xs ow k) (gn xs k) (gn xs (k + 1)) (f + 1) a b = ow a b)
    unfold upO
    by_cases e : a = gn xs k ∧ b = gn xs (k + 1)
    · rw [if_pos e]
      exact ⟨fun _ => rfl, fun q => absurd ⟨k, by omega, e.1.symm, e.2.symm⟩ q⟩
    · rw [if_neg e]
      refine ⟨fun ⟨i, hi, e1, e2⟩ => ih.1 ?_, fun q => ih.2 (fun ⟨i, hi, e1, e2⟩ => q ⟨i, by omega, e1, e2⟩)⟩
      by_cases g : i = k
      · subst g; exact absurd ⟨e1.symm, e2.symm⟩ e
      · exact ⟨i, by omega, e1, e2⟩
theorem relT_le {f : Nat} {xs : List Nat} {ow : Nat → Nat → Nat} {k a b : Nat} (h : ow a b ≤ 160) : relT f xs ow k a b ≤ 160 := by
  have := relT_at f xs ow k a b
  by_cases q : hvk xs k a b ∧ ow a b = f + 1
  · rw [this.1 q]; omega
  · rw [this.2 q]; exact h
theorem upto2 {P : Nat → Mm → Prop} {n : Nat} (h0 : ∀ M, P n M) (hs : ∀ k, k < n → (∀ M, P (k + 1) M) → ∀ M, P k M) : ∀ M, P 0 M :=
  upto (P := fun k => ∀ M, P k M) h0 hs
section
variable {A : Nat → Nat} {M : Mm} {rs : Nat → List Nat} {ow : Nat → Nat → Nat}
theorem FT.bd (h : FT A M rs ow) {f k : Nat} (hf : f < 160) (hk : k < (rs f).length) : gn (rs f) k < 100 ∧ gn (rs f) (k + 1) < 100 := ⟨h.2.2.2.2 f _ hf (gn_mem (by omega)), h.2.2.2.2 f _ hf (gn_mem (by omega))⟩
/-- one place of the owners is written -/
theorem FT.put (h : FT A M rs ow) {u v w : Nat} (hu : u < 100) (hv : v < 100) (hw : w ≤ 160) : FT A (wI M (A 11) (u * 100 + v) (nI w)) rs (upO ow u v w) := by
  obtain ⟨h1, h2, h3, h4, h5⟩ := h
  have c : Ch (In A (fun l => l = 11)) M (wI M (A 11) (u * 100 + v) (nI w)) := Ch.one (by omega)
  refine ⟨h1.go c, fun f hf => (h2 f hf).kept c (In.not h1 (by omega) (by omega)) (In.not h1 (by omega) (by omega)), h3.kept c (In.not h1 (by omega) (by omega)) (In.not h1 (by omega) (by omega)), fun a b ha hb => ?_, h5⟩
  rw [iM_wI]
  unfold upO
  by_cases e : a = u ∧ b = v
  · rw [if_pos e, e.1, e.2, if_pos ⟨rfl, rfl⟩]; exact ⟨rfl, hw⟩
  · rw [if_neg e, if_neg (fun q => e (by omega))]; exact h4 a b ha hb
theorem t_setOwner {u v w : Nat} {x : Int32} {Q : Mm → Prop} (h : FT A M rs ow) (hu : u < 100) (hv : v < 100) (hx : x + 1 = nI w) (q : Q (wI M (A 11) (u * 100 + v) (nI w))) : T_X1_setOwner M (A 7) (nI u) (nI v) x Q := by
  unfold T_X1_setOwner
  have e : (100 : Int32) = nI 100 := rfl
  have e2 : nI u * 100 + nI v = nI (u * 100 + v) := by rw [e, nI_mulx, nI_add]
  rw [e2, hx]
  refine ⟨fun z => absurd z (nI_pos (by omega)), fun _ => ⟨fun z => absurd z (by rw [e]; exact nI_ge hu (by omega)), fun _ => ⟨fun z => absurd z (nI_pos (by omega)), fun _ => ⟨fun z => absurd z (by rw [e]; exact nI_ge hv (by omega)), fun _ => ⟨h.1.k 7, A 11, h.1.r 7 2 11, 10000, h.1.k 11, vp_in_nI (by omega) (by omega), ?_⟩⟩⟩⟩⟩
  rw [nI_clamp (by omega)]
  exact q
theorem t_claim {f : Nat} {Q : Mm → Prop} (h : FT A M rs ow) (hf : f < 160) (q : ∀ M', Ch (In A (fun l => l = 11)) M M' → FT A M' rs (clT f (rs f) ow (rs f).length) → Q M') : T_X1_claim M (A 7) (nI f) Q := by
  intro K hK
  refine ⟨h.1.k 7, t_ring h hf ?_⟩
  have hl := h.len hf
  have key : ∀ M', Ch (In A (fun l => l = 11)) M M' → FT A M' rs (clT f (rs f) ow 0) → K (A 7) (nI f) (A (64 + 2 * f)) (nI 0) M' := by
    refine upto2 (P := fun k M' => Ch (In A (fun l => l = 11)) M M' → FT A M' rs (clT f (rs f) ow k) → K (A 7) (nI f) (A (64 + 2 * f)) (nI k) M') (n := (rs f).length) ?_ ?_
    · intro M' c h1
      refine hK _ _ _ _ _ ?_
      unfold S_X1_claim_8
      refine ⟨(h1.2.1 f hf).1, t_length (h1.2.1 f hf) ?_⟩
      rw [List.length_map]
      exact ⟨fun _ => q M' c h1, fun z => absurd (nI_le (by omega) (by omega)) z⟩
    · intro k hk ih M' c h1
      refine hK _ _ _ _ _ ?_
      unfold S_X1_claim_8
      have hr := h1.2.1 f hf
      have hb := h1.bd hf hk
      refine ⟨hr.1, t_length hr ?_⟩
      rw [List.length_map]
      refine ⟨fun z => absurd z (nI_ge (by omega) (by omega)), fun _ => ⟨hr.1, t_gt hr (by omega) ⟨hr.1, ?_⟩⟩⟩
      rw [nI_1]
      refine t_gt hr (by omega) ⟨h1.1.k 7, ?_⟩
      rw [gt_map (by omega), gt_map (by omega)]
      refine t_setOwner h1 hb.1 hb.2 (nI_1 f) (ih _ (c.t (Ch.one (by omega))) ?_)
      exact h1.put hb.1 hb.2 (by omega)
  have := key M Ch.rf h
  rwa [nI_0] at this
theorem t_release {f : Nat} {Q : Mm → Prop} (h : FT A M rs ow) (hf : f < 160) (q : ∀ M', Ch (In A (fun l => l = 11)) M M' → FT A M' rs (relT f (rs f) ow (rs f).length) → Q M') : T_X1_release M (A 7) (nI f) Q := by
  intro K hK
  refine ⟨h.1.k 7, t_ring h hf ?_⟩
  have hl := h.len hf
  have key : ∀ M', Ch (In A (fun l => l = 11)) M M' → FT A M' rs (relT f (rs f) ow 0) → K (A 7) (nI f) (A (64 + 2 * f)) (nI 0) M' := by
    refine upto2 (P := fun k M' => Ch (In A (fun l => l = 11)) M M' → FT A M' rs (relT f (rs f) ow k) → K (A 7) (nI f) (A (64 + 2 * f)) (nI k) M') (n := (rs f).length) ?_ ?_
    · intro M' c h1
      refine hK _ _ _ _ _ ?_
      unfold S_X1_release_8
      refine ⟨(h1.2.1 f hf).1, t_length (h1.2.1 f hf) ?_⟩
      rw [List.length_map]
      exact ⟨fun _ => q M' c h1, fun z => absurd (nI_le (by omega) (by omega)) z⟩
    · intro k hk ih M' c h1
      refine hK _ _ _ _ _ ?_
      unfold S_X1_release_8
      have hr := h1.2.1 f hf
      have hb := h1.bd hf hk
      have ho := (h1.2.2.2.1 _ _ hb.1 hb.2).2
      refine ⟨hr.1, t_length hr ?_⟩
      rw [List.length_map]
      refine ⟨fun z => absurd z (nI_ge (by omega) (by omega)), fun _ => ⟨hr.1, t_gt hr (by omega) ⟨hr.1, ?_⟩⟩⟩
      rw [nI_1]
      refine t_gt hr (by omega) ⟨h1.1.k 7, ?_⟩
      rw [gt_map (by omega), gt_map (by omega)]
      refine t_owner h1 hb.1 hb.2 ⟨fun z => ih _ c ?_, fun z => ⟨hr.1, t_gt hr (by omega) ⟨hr.1, t_gt hr (by omega) ⟨h1.1.k 7, ?_⟩⟩⟩⟩
      · have g : ¬ relT f (rs f) ow k (gn (rs f) k) (gn (rs f) (k + 1)) = f + 1 := fun w => z ((oi_is (by omega) (by omega)).mpr w)
        show FT A M' rs (if _ then _ else _)
        rw [if_neg g]
        exact h1
      · rw [gt_map (by omega), gt_map (by omega)]
        have g := (oi_is (by omega) (by omega)).mp z
        refine t_setOwner h1 hb.1 hb.2 (w := 0) (by decide) (ih _ (c.t (Ch.one (by omega))) ?_)
        show FT A _ rs (if _ then _ else _)
        rw [if_pos g]
        exact h1.put hb.1 hb.2 (by omega)
  have := key M Ch.rf h
  rwa [nI_0] at this
/-- a face's ring is written -/
theorem FT.ring {M' : Mm} (h : FT A M rs ow) {f : Nat} (hf : f < 160) {ys : List Nat} (hy : ∀ p, p ∈ ys → p < 100) (c : Ch (fun b => b = A (64 + 2 * f) ∨ b = A (65 + 2 * f)) M M') (hr : RG M' (A (64 + 2 * f)) (A (65 + 2 * f)) (ys.map nI)) : FT A M' (upr rs f ys) ow := by
  obtain ⟨h1, h2, h3, h4, h5⟩ := h
  have c2 := c.two (by omega) (by omega)
  refine ⟨h1.go c, fun g hg => ?_, h3.kept c2 (In.not h1 (by omega) (by omega)) (In.not h1 (by omega) (by omega)), fun a b ha hb => ?_, fun g p hg hp => ?_⟩
  · unfold upr
    by_cases e : g = f
    · subst e
      rw [if_pos rfl]; exact hr
    · rw [if_neg e]
      exact (h2 g hg).kept c2 (In.not h1 (by omega) (by omega)) (In.not h1 (by omega) (by omega))
  · rw [c2.at h1 (by omega) (by omega)]
    exact h4 a b ha hb
  · unfold upr at hp
    by_cases e : g = f
    · rw [if_pos e] at hp; exact hy p hp
    · rw [if_neg e] at hp; exact h5 g p hg hp
/-- the owners behind a reshape -/
def rshT (f : Nat) (xs ys : List Nat) (ow : Nat → Nat → Nat) : Nat → Nat → Nat := clT f ys (relT f xs ow xs.length) ys.length
theorem t_reshape {f s : Nat} {ys : List Nat} {Q : Mm → Prop} (h : FT A M rs ow) (hf : f < 160) (hs : s < 63) (hsn : s ≠ 11 ∧ s ≠ 10) (hr : RG M (A s) (A (s + 1)) (ys.map nI)) (hy : ∀ p, p ∈ ys → p < 100) (q : ∀ M', Ch (In A (fun l => l = 11 ∨ l = 64 + 2 * f ∨ l = 65 + 2 * f)) M M' → FT A M' (upr rs f ys) (rshT f (rs f) ys ow) → Q M') : T_X1_reshape M (A 7) (nI f) (A s) Q := by
  unfold T_X1_reshape
  refine ⟨h.1.k 7, t_release h hf (fun M1 c1 h1 => ⟨h1.1.k 7, t_ring h1 hf ⟨(h1.2.1 f hf).1, ?_⟩⟩)⟩
  have hr1 := hr.kept c1 (In.not h.1 (by omega) (by omega)) (In.not h.1 (by omega) (by omega))
  refine t_copyFrom (h1.2.1 f hf) hr1 (h.1.ne (by omega) (by omega) (by omega)) (h.1.ne (by omega) (by omega) (by omega)) (fun M2 c2 h2 => ?_)
  have h3 := h1.ring hf hy c2 h2
  refine ⟨h3.1.k 7, t_claim h3 hf (fun M3 c3 h4 => ?_)⟩
  have e : upr rs f ys f = ys := if_pos rfl
  rw [e] at h4
  refine q M3 ?_ h4
  exact ((c1.wide (fun i e => Or.inl e)).t ((c2.two (by omega) (by omega)).wide (fun i e => Or.inr e))).t (c3.wide (fun i e => Or.inl e))
/-- numbers of faces: ever, left -/
def FN (A : Nat → Nat) (M : Mm) (fe fl : Nat) : Prop := iM M (A 7) 3 = nI fe ∧ iM M (A 7) 4 = nI fl ∧ fe ≤ 160 ∧ fl ≤ 160
theorem FN.go {I : Nat → Prop} {M' : Mm} {fe fl : Nat} (h : FN A M fe fl) (hS : Sh A M) (c : Ch (In A I) M M') (hI : ¬ I 7) : FN A M' fe fl := by
  unfold FN
  rw [c.at hS (by omega) hI, c.at hS (by omega) hI]
  exact h
theorem t_drop {f fe fl : Nat} {Q : Mm → Prop} (h : FT A M rs ow) (hn : FN A M fe fl) (hf : f < 160) (hne : rs f ≠ []) (hfl : 0 < fl) (q : ∀ M', Ch (In A (fun l => l = 11 ∨ l = 64 + 2 * f ∨ l = 65 + 2 * f ∨ l = 7)) M M' → FT A M' (upr rs f []) (relT f (rs f) ow (rs f).length) → FN A M' fe (fl - 1) → Q M') : T_X1_drop M (A 7) (nI f) Q := by
  unfold T_X1_drop
  refine ⟨h.1.k 7, t_has h (fun g hg e _ => ⟨fun z => absurd z (by decide), fun _ => ⟨h.1.k 7, t_release h hf (fun M1 c1 h1 => ⟨h1.1.k 7, t_ring h1 hf ⟨(h1.2.1 f hf).1, t_clear (h1.2.1 f hf) (fun M2 c2 h2 => ?_)⟩⟩)⟩⟩) (fun z => absurd (z f hf rfl) hne)⟩
  have h3 := h1.ring hf (ys := []) (fun p hp => absurd hp List.not_mem_nil) c2 h2
  have hn1 := (hn.go h.1 c1 (by omega)).go h1.1 (c2.two (by omega) (by omega)) (by omega)
  refine ⟨h3.1.k 7, h3.1.k 7, q _ ?_ (h3.go (I := fun l => l = 7) (Ch.one (by omega)) (by omega)) ?_⟩
  · exact ((c1.wide (fun i e => Or.inl e)).t ((c2.two (by omega) (by omega)).wide (fun i e => Or.inr (e.elim Or.inl (fun e => Or.inr (Or.inl e)))))).t ((Ch.one (i := 7) (by omega)).wide (fun i e => Or.inr (Or.inr (Or.inr e))))
  · unfold FN
    rw [iM_wI, iM_wI, if_neg (fun z => by omega), if_pos ⟨rfl, rfl⟩, hn1.2.1]
    obtain ⟨fl, rfl⟩ : ∃ n, fl = n + 1 := ⟨fl - 1, by omega⟩
    exact ⟨hn1.1, nI_pred fl, hn1.2.2.1, by have := hn1.2.2.2; omega⟩
theorem t_drop0 {f fe fl : Nat} {Q : Mm → Prop} (h : FT A M rs ow) (hf : f < 160) (hne : rs f = []) (q : Q M) : T_X1_drop M (A 7) (nI f) Q := by
  unfold T_X1_drop
  exact ⟨h.1.k 7, t_has h (fun g hg e n => absurd (by rw [← (nI_eq (by omega) (by omega)).mp e]; exact hne) n) (fun _ => ⟨fun _ => q, fun z => absurd rfl z⟩)⟩
theorem t_isFN {x : Nat} {Q : Int32 → Prop} (hx : x < 2 ^ 31) (q1 : x < 160 → Q 1) (q0 : 160 ≤ x → Q 0) : T_X8_isFaceNumber M (nI x) Q := by
  unfold T_X8_isFaceNumber
  have e : (160 : Int32) = nI 160 := rfl
  rw [e]
  refine ⟨fun z => absurd z (nI_pos hx), fun _ => ⟨fun z => q0 ((nI_leI (by omega) (by omega)).mp z), fun z => q1 ?_⟩⟩
  have : ¬ 160 ≤ x := fun w => z (nI_le w (by omega))
  omega
theorem t_addF {s fe fl : Nat} {ys : List Nat} {Q : Int32 → Mm → Prop} (h : FT A M rs ow) (hn : FN A M fe fl) (hf : fe < 160) (hfl : fl < 160) (hs : s < 63) (hsn : s ≠ 11 ∧ s ≠ 10 ∧ s ≠ 7 ∧ s ≠ 6) (hr : RG M (A s) (A (s + 1)) (ys.map nI)) (hy : ∀ p, p ∈ ys → p < 100) (q : ∀ M', Ch (In A (fun l => l = 11 ∨ l = 64 + 2 * fe ∨ l = 65 + 2 * fe ∨ l = 7)) M M' → FT A M' (upr rs fe ys) (rshT fe (rs fe) ys ow) → FN A M' (fe + 1) (fl + 1) → Q (nI fe) M') : T_X1_add M (A 7) (A s) Q := by
  unfold T_X1_add
  rw [hn.1]
  refine ⟨h.1.k 7, t_isFN (by omega) (fun _ => ⟨fun _ => ⟨h.1.k 7, h.1.k 7, h.1.k 7, h.1.k 7, h.1.k 7, ?_⟩, fun z => absurd z (by decide)⟩) (fun z => by omega)⟩
  rw [iM_wI, if_neg (fun z => by omega), hn.2.1, nI_1, nI_1]
  have c1 : Ch (In A (fun l => l = 7)) M (wI (wI M (A 7) 3 (nI (fe + 1))) (A 7) 4 (nI (fl + 1))) := (Ch.one (by omega)).t (Ch.one (by omega))
  have h1 := h.go c1 (by omega)
  have hn1 : FN A (wI (wI M (A 7) 3 (nI (fe + 1))) (A 7) 4 (nI (fl + 1))) (fe + 1) (fl + 1) := by
    unfold FN
    rw [iM_wI, iM_wI, iM_wI, if_neg (fun z => by omega), if_pos ⟨rfl, rfl⟩, if_pos ⟨rfl, rfl⟩]
    exact ⟨rfl, rfl, by omega, by omega⟩
  have hr1 := hr.kept c1 (In.not h.1 (by omega) (by omega)) (In.not h.1 (by omega) (by omega))
  refine t_reshape h1 hf hs ⟨hsn.1, hsn.2.1⟩ hr1 hy (fun M2 c2 h2 => q M2 ?_ h2 (hn1.go h1.1 c2 (by omega)))
  exact (c1.wide (fun i e => Or.inr (Or.inr (Or.inr e)))).t (c2.wide (fun i e => e.elim Or.inl (fun e => Or.inr (e.elim Or.inl (fun e => Or.inr (Or.inl e))))))
end
