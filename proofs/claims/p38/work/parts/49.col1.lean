section
theorem gn_get {xs : List Nat} {i : Nat} (h : i < xs.length) : gn xs i = xs[i] := gn_eq (List.getElem?_eq_getElem h)
theorem nodup_of {xs : List Nat} (h : ∀ i j, i < xs.length → j < xs.length → gn xs i = gn xs j → i = j) : xs.Nodup := by
  refine List.pairwise_iff_getElem.mpr (fun i j hi hj hij e => ?_)
  have := h i j hi hj (by rw [gn_get hi, gn_get hj]; exact e)
  omega
theorem dist_of {xs : List Nat} (h : xs.Nodup) : ∀ i j, i < xs.length → j < xs.length → gn xs i = gn xs j → i = j := by
  have key : ∀ i j, i < j → i < xs.length → j < xs.length → gn xs i ≠ gn xs j := fun i j hij hi hj e => by
    refine (List.pairwise_iff_getElem.mp h) i j hi hj hij ?_
    rw [← gn_get hi, ← gn_get hj]
    exact e
  intro i j hi hj e
  rcases Nat.lt_trichotomy i j with z | z | z
  · exact absurd e (key i j z hi hj)
  · exact z
  · exact absurd e.symm (key j i z hj hi)
/-- what one point of a ring is behind the collapse of b to a -/
def shO (w : Bool) (a b p : Nat) : List Nat := if p = b then (if w = true then [a] else []) else [p]
def shF (w : Bool) (a b : Nat) (xs : List Nat) : List Nat := xs.flatMap (shO w a b)
def shp (xs : List Nat) (a b : Nat) : List Nat := shF (decide (a ∉ xs)) a b xs
theorem shF_mem {w : Bool} {a b x : Nat} : ∀ {xs : List Nat}, x ∈ shF w a b xs → (x ∈ xs ∧ x ≠ b) ∨ (w = true ∧ x = a ∧ b ∈ xs) := by
  intro xs h
  unfold shF at h
  obtain ⟨p, hp, hx⟩ := List.mem_flatMap.mp h
  unfold shO at hx
  by_cases z : p = b
  · rw [if_pos z] at hx
    by_cases y : w = true
    · rw [if_pos y] at hx
      simp only [List.mem_cons, List.not_mem_nil, or_false] at hx
      exact Or.inr ⟨y, hx, z ▸ hp⟩
    · rw [if_neg y] at hx
      cases hx
  · rw [if_neg z] at hx
    simp only [List.mem_cons, List.not_mem_nil, or_false] at hx
    subst hx
    exact Or.inl ⟨hp, z⟩
theorem shO_len (w : Bool) (a b p : Nat) : (shO w a b p).length ≤ 1 := by
  unfold shO
  split
  · split
    · exact Nat.le_refl 1
    · exact Nat.zero_le 1
  · exact Nat.le_refl 1
theorem shF_app (w : Bool) (a b : Nat) (xs : List Nat) (p : Nat) : shF w a b (xs ++ [p]) = shF w a b xs ++ shO w a b p := by
  unfold shF
  rw [List.flatMap_append]
  congr 1
  show (shO w a b p) ++ [] = _
  rw [List.append_nil]
theorem shF_len (w : Bool) (a b : Nat) : ∀ xs : List Nat, (shF w a b xs).length ≤ xs.length := by
  intro xs
  induction xs with
  | nil => exact Nat.le_refl _
  | cons p xs ih =>
    show (shO w a b p ++ shF w a b xs).length ≤ xs.length + 1
    rw [List.length_append]
    have := shO_len w a b p
    omega
theorem shF_nodup {w : Bool} {a b : Nat} : ∀ {xs : List Nat}, xs.Nodup → (w = true → a ∉ xs) → (shF w a b xs).Nodup := by
  intro xs
  induction xs with
  | nil => intro _ _; exact List.nodup_nil
  | cons p xs ih =>
    intro h hw
    have h1 := List.nodup_cons.mp h
    have ih2 := ih h1.2 (fun z y => hw z (List.mem_cons_of_mem _ y))
    show (shO w a b p ++ shF w a b xs).Nodup
    unfold shO
    by_cases z : p = b
    · rw [if_pos z]
      by_cases y : w = true
      · rw [if_pos y]
        refine List.nodup_cons.mpr ⟨fun x => ?_, ih2⟩
        rcases shF_mem x with x | x
        · exact hw y (List.mem_cons_of_mem _ x.1)
        · exact h1.1 (z ▸ x.2.2)
      · rw [if_neg y]
        exact ih2
    · rw [if_neg z]
      refine List.nodup_cons.mpr ⟨fun x => ?_, ih2⟩
      rcases shF_mem x with x | x
      · exact h1.1 x.1
      · exact hw x.1 (by rw [← x.2.1]; exact List.mem_cons_self)
theorem range_gn (xs : List Nat) : (List.range xs.length).map (gn xs) = xs := by
  refine List.ext_getElem? (fun k => ?_)
  by_cases hk : k < xs.length
  · rw [List.getElem?_map, List.getElem?_range hk, gn_lt hk]
    rfl
  · rw [List.getElem?_eq_none (by rw [List.length_map, List.length_range]; omega), List.getElem?_eq_none (by omega)]
theorem shp_mem {xs : List Nat} {a b x : Nat} (hab : a ≠ b) (h : x ∈ shp xs a b) : x ≠ b ∧ (x ∈ xs ∨ x = a) := by
  unfold shp at h
  rcases shF_mem h with z | z
  · exact ⟨z.2, Or.inl z.1⟩
  · exact ⟨by rw [z.2.1]; exact hab, Or.inr z.2.1⟩
theorem shp_len (xs : List Nat) (a b : Nat) : (shp xs a b).length ≤ xs.length := shF_len _ _ _ _
theorem shp_dist {xs : List Nat} {a b : Nat} (h : ∀ i j, i < xs.length → j < xs.length → gn xs i = gn xs j → i = j) : ∀ i j, i < (shp xs a b).length → j < (shp xs a b).length → gn (shp xs a b) i = gn (shp xs a b) j → i = j := by
  refine dist_of ?_
  unfold shp
  exact shF_nodup (nodup_of h) (fun z => by simpa using z)
variable {A : Nat → Nat} {M M' : Mm} {B : Nat} {rs rs2 : Nat → List Nat} {ow ow2 : Nat → Nat → Nat} {th : Nat → Bool} {ps : Nat → Nat → Int32} {fe fl pe pl : Nat} {Cc Zz : Nat}
theorem t_shape {f a b : Nat} {Q : Nat → Mm → Prop} (h : SD A M B rs ow th ps fe fl pe pl) (hf : f < 160) (ha : a < 100) (hb : b < 100) (q : ∀ M', Ch (In A (fun l => l = 19 ∨ l = 20)) M M' → SD A M' B rs ow th ps fe fl pe pl → RG M' (A 19) (A 20) ((shp (rs f) a b).map nI) → Q (A 19) M') : T_X0_shape M (A 18) (nI f) (nI a) (nI b) Q := by
  unfold T_X0_shape
  intro K25 K37 h25 h37
  have hl := h.1.len hf
  have key : ∀ w : Bool, w = decide (a ∉ rs f) → ∀ d i M2, i + d = (rs f).length → Ch (In A (fun l => l = 19 ∨ l = 20)) M M2 → SD A M2 B rs ow th ps fe fl pe pl → RG M2 (A 19) (A 20) ((shF w a b ((List.range i).map (gn (rs f)))).map nI) → K37 (A 18) (nI a) (nI b) (A (64 + 2 * f)) (if w = true then 1 else 0) (nI i) M2 := by
    intro w hw d
    induction d with
    | zero =>
      intro i M2 hi c2 s2 r2
      have : i = (rs f).length := by omega
      subst this
      rw [range_gn] at r2
      refine h37 _ _ _ _ _ _ _ ⟨(s2.1.2.1 f hf).1, t_length (s2.1.2.1 f hf) ?_⟩
      rw [List.length_map]
      refine ⟨fun _ => ⟨s2.sh.k 18, A 19, s2.sh.r 18 2 19, q M2 c2 s2 ?_⟩, fun z => absurd (nI_le (Nat.le_refl _) (by omega)) z⟩
      unfold shp
      rw [← hw]
      exact r2
    | succ d ih =>
      intro i M2 hi c2 s2 r2
      have hb2 := h.1.2.2.2.2 f _ hf (gn_mem (xs := rs f) (p := i) (by omega))
      have suc : (List.range (i + 1)).map (gn (rs f)) = (List.range i).map (gn (rs f)) ++ [gn (rs f) i] := by rw [List.range_succ, List.map_append]; rfl
      have hl2 := shF_len w a b ((List.range i).map (gn (rs f)))
      rw [List.length_map, List.length_range] at hl2
      have step : ∀ x, shO w a b (gn (rs f) i) = [x] → ∀ M3, Ch (fun l => l = A 19 ∨ l = A 20) M2 M3 → RG M3 (A 19) (A 20) ((shF w a b ((List.range i).map (gn (rs f)))).map nI ++ [nI x]) → K37 (A 18) (nI a) (nI b) (A (64 + 2 * f)) (if w = true then 1 else 0) (nI i + 1) M3 := fun x hx M3 c3 r3 => by
        have c3' := c3.two (A := A) (by omega) (by omega)
        have s3 : SD A M3 B rs ow th ps fe fl pe pl := s2.go c3' (fun i z => by omega) (s2.2.2.2.2.rg s2.sh c3' (Or.inr (Or.inr (Or.inl rfl))) (fun i z => z) r3)
        rw [nI_1]
        refine ih (i + 1) M3 (by omega) (c2.t c3') s3 ?_
        rw [suc, shF_app, hx, List.map_append]
        exact r3
      refine h37 _ _ _ _ _ _ _ ⟨(s2.1.2.1 f hf).1, t_length (s2.1.2.1 f hf) ?_⟩
      rw [List.length_map]
      refine ⟨fun z => absurd z (nI_ge (by omega) (by omega)), fun _ => ⟨(s2.1.2.1 f hf).1, t_gt (s2.1.2.1 f hf) (by omega) ?_⟩⟩
      rw [gt_map (by omega)]
      refine ⟨fun z => ?_, fun z => ?_⟩
      · have e : gn (rs f) i = b := (nI_eq (by omega) (by omega)).mp z
        cases w with
        | false =>
          refine ⟨fun _ => ?_, fun y => absurd rfl y⟩
          rw [nI_1]
          refine ih (i + 1) M2 (by omega) c2 s2 ?_
          rw [suc, shF_app]
          unfold shO
          rw [if_pos e, if_neg (by decide), List.append_nil]
          exact r2
        | true =>
          refine ⟨fun y => absurd y (by decide), fun _ => ⟨s2.sh.k 18, A 19, s2.sh.r 18 2 19, s2.sh.k 19, t_add r2 (by rw [List.length_map]; omega) (fun M3 c3 r3 => step a ?_ M3 c3 r3)⟩⟩
          unfold shO
          rw [if_pos e, if_pos rfl]
      · have e : gn (rs f) i ≠ b := fun y => z (by rw [y])
        refine ⟨s2.sh.k 18, A 19, s2.sh.r 18 2 19, s2.sh.k 19, t_add r2 (by rw [List.length_map]; omega) (fun M3 c3 r3 => step (gn (rs f) i) ?_ M3 c3 r3)⟩
        unfold shO
        rw [if_neg e]
  have go : ∀ w : Bool, w = decide (a ∉ rs f) → K25 (A 18) (nI a) (nI b) (A (64 + 2 * f)) (if w = true then 1 else 0) M := fun w hw => by
    obtain ⟨xs, hx⟩ := h.2.2.2.2.2 19 (Or.inr (Or.inr (Or.inl rfl)))
    refine h25 _ _ _ _ _ _ ⟨h.sh.k 18, A 19, h.sh.r 18 2 19, h.sh.k 19, t_clear hx (fun M2 c2 r2 => ?_)⟩
    have c2' := c2.two (A := A) (by omega) (by omega)
    have s2 : SD A M2 B rs ow th ps fe fl pe pl := h.go c2' (fun i z => by omega) (h.2.2.2.2.rg h.sh c2' (Or.inr (Or.inr (Or.inl rfl))) (fun i z => z) r2)
    have := key w hw (rs f).length 0 M2 (by omega) c2' s2 r2
    rw [nI_0] at this
    exact this
  refine ⟨h.sh.k 18, A 7, h.sh.r 18 0 7, h.sh.k 7, t_ring h.1 hf ⟨(h.1.2.1 f hf).1, t_place h.1 hf ha (fun hm _ _ => ⟨fun _ => ?_, fun z => absurd z (nI_ne1 (by have := (pl_gn hm).1; omega))⟩) (fun hm => ⟨fun z => absurd rfl z, fun _ => ?_⟩)⟩⟩
  · exact go false (by simp [hm])
  · exact go true (by simp [hm])
end
