section
/-- two rings made one: xs from place s on, all of it; zs from behind place t on, up to the last but one -/
def jnF (xs zs : List Nat) (s t i : Nat) : Nat := if i < xs.length then gn xs (s + i) else gn zs (t + 1 + (i - xs.length))
def jnL (xs zs : List Nat) (s t : Nat) : List Nat := stN xs s xs.length ++ stN zs (t + 1) (zs.length - 2)
theorem jnL_len {xs zs : List Nat} {s t : Nat} : (jnL xs zs s t).length = xs.length + (zs.length - 2) := by
  unfold jnL
  rw [List.length_append, stN_len, stN_len]
theorem jnL_at {xs zs : List Nat} {s t i : Nat} (h : i < xs.length + (zs.length - 2)) : gn (jnL xs zs s t) i = jnF xs zs s t i := by
  have hl := jnL_len (xs := xs) (zs := zs) (s := s) (t := t)
  refine gn_eq' ?_ ?_
  · rw [hl]; exact h
  · unfold jnL jnF
    by_cases z : i < xs.length
    · rw [if_pos z, List.getElem?_append_left (by rw [stN_len]; exact z)]
      unfold stN
      rw [List.getElem?_map, List.getElem?_range z]
      rfl
    · rw [if_neg z, List.getElem?_append_right (by rw [stN_len]; omega), stN_len]
      unfold stN
      rw [List.getElem?_map, List.getElem?_range (by omega)]
      rfl
variable {A : Nat → Nat} {M M' : Mm} {B : Nat} {rs rs2 : Nat → List Nat} {ow ow2 : Nat → Nat → Nat} {th : Nat → Bool} {ps : Nat → Nat → Int32} {fe fl pe pn : Nat} {Cc Zz : Nat}
theorem jn_hv {xs zs : List Nat} {s t : Nat} (hx : 3 ≤ xs.length) (hz : 3 ≤ zs.length) (e1 : gn xs (s + xs.length - 1) = gn zs t) (e2 : gn zs (t + zs.length - 1) = gn xs s) (u v : Nat) :
    hvk (jnL xs zs s t) (jnL xs zs s t).length u v ↔ (∃ i, i < xs.length - 1 ∧ gn xs (s + i) = u ∧ gn xs (s + i + 1) = v) ∨ ∃ i, i < zs.length - 1 ∧ gn zs (t + i) = u ∧ gn zs (t + i + 1) = v := by
  have hl := jnL_len (xs := xs) (zs := zs) (s := s) (t := t)
  have hi1 : ∀ i, i < xs.length → gn (jnL xs zs s t) i = gn xs (s + i) := fun i h => by
    rw [jnL_at (by omega)]; unfold jnF; rw [if_pos h]
  have hi2 : ∀ i, xs.length - 1 ≤ i → i < xs.length + (zs.length - 2) → gn (jnL xs zs s t) i = gn zs (t + (i - (xs.length - 1))) := fun i h h2 => by
    rw [jnL_at h2]
    unfold jnF
    by_cases z : i < xs.length
    · rw [if_pos z, show i = xs.length - 1 by omega, show s + (xs.length - 1) = s + xs.length - 1 by omega, e1, show t + (xs.length - 1 - (xs.length - 1)) = t by omega]
    · rw [if_neg z, show t + 1 + (i - xs.length) = t + (i - (xs.length - 1)) by omega]
  have last : gn (jnL xs zs s t) (xs.length + (zs.length - 2)) = gn zs (t + (zs.length - 1)) := by
    have := gn_add (jnL xs zs s t) 0
    rw [hl, Nat.zero_add] at this
    rw [this, hi1 0 (by omega), show t + (zs.length - 1) = t + zs.length - 1 by omega, e2]
    rfl
  rw [hl]
  constructor
  · intro ⟨i, hi, a1, a2⟩
    by_cases z : i < xs.length - 1
    · rw [hi1 i (by omega)] at a1
      rw [hi1 (i + 1) (by omega)] at a2
      exact Or.inl ⟨i, z, a1, a2⟩
    · rw [hi2 i (by omega) hi] at a1
      refine Or.inr ⟨i - (xs.length - 1), by omega, a1, ?_⟩
      by_cases y : i + 1 < xs.length + (zs.length - 2)
      · rw [hi2 (i + 1) (by omega) y] at a2
        rw [show t + (i - (xs.length - 1)) + 1 = t + (i + 1 - (xs.length - 1)) by omega]
        exact a2
      · rw [show i + 1 = xs.length + (zs.length - 2) by omega, last] at a2
        rw [show t + (i - (xs.length - 1)) + 1 = t + (zs.length - 1) by omega]
        exact a2
  · intro z
    rcases z with ⟨i, hi, a1, a2⟩ | ⟨i, hi, a1, a2⟩
    · exact ⟨i, by omega, by rw [hi1 i (by omega)]; exact a1, by rw [hi1 (i + 1) (by omega)]; exact a2⟩
    · refine ⟨i + (xs.length - 1), by omega, ?_, ?_⟩
      · rw [hi2 _ (by omega) (by omega), show i + (xs.length - 1) - (xs.length - 1) = i by omega]
        exact a1
      · by_cases y : i + (xs.length - 1) + 1 < xs.length + (zs.length - 2)
        · rw [hi2 _ (by omega) y, show i + (xs.length - 1) + 1 - (xs.length - 1) = i + 1 by omega]
          exact a2
        · rw [show i + (xs.length - 1) + 1 = xs.length + (zs.length - 2) by omega, last, show t + (zs.length - 1) = t + i + 1 by omega]
          exact a2
/-- (a, b) and (b, a) stand in two faces -/
theorem two_faces (g : Gd rs ow th ps fe fl pe pn) {a b f : Nat} (e1 : ow a b = f + 1) (e2 : ow b a = f + 1) : False := by
  obtain ⟨hf, k2, y2, y3, y4⟩ := half_at_ring g.1 e1
  obtain ⟨_, k, z2, z3, z4⟩ := half_at_ring g.1 e2
  have h3 : 3 ≤ (rs f).length := (g.2.1 f).resolve_left (fun w => by rw [w] at z2; exact absurd z2 (Nat.not_lt_zero _))
  have e1 := gn_inj g.1 hf (by omega) (y4.trans z3.symm)
  have e2 := gn_inj g.1 hf (by omega) (z4.trans y3.symm)
  have e3 : (k2 + 2) % (rs f).length = (k2 + 0) % (rs f).length := by
    rw [show k2 + 2 = k2 + 1 + 1 by omega, Nat.add_mod, e1, ← Nat.add_mod, e2]
    rfl
  have := mod_small (by omega) (by omega) e3
  omega
/-- two faces joined: what it is then -/
theorem join_data (g : Gd rs ow th ps fe fl pe pn) {f f2 s t : Nat} (hf : f < 160) (hf2 : f2 < 160) (hne : f ≠ f2) (hx : 3 ≤ (rs f).length) (hz : 3 ≤ (rs f2).length) (e1 : gn (rs f) (s + (rs f).length - 1) = gn (rs f2) t) (e2 : gn (rs f2) (t + (rs f2).length - 1) = gn (rs f) s)
    (hd : ∀ i, i < (rs f2).length → gn (rs f2) i = gn (rs f2) t ∨ gn (rs f2) i = gn (rs f) s ∨ gn (rs f2) i ∉ rs f) :
    Gd (upr (upr rs f2 []) f (jnL (rs f) (rs f2) s t)) (rshT f (rs f) (jnL (rs f) (rs f2) s t) (relT f2 (rs f2) ow (rs f2).length)) th ps fe (fl - 1) pe pn ∧ 0 < fl ∧
    ∀ u v, Hv (upr (upr rs f2 []) f (jnL (rs f) (rs f2) s t)) u v ↔ Hv rs u v ∧ ¬ (u = gn (rs f2) t ∧ v = gn (rs f) s) ∧ ¬ (u = gn (rs f) s ∧ v = gn (rs f2) t) := by
  have w := g.1
  have hz0 : rs f2 ≠ [] := fun y => by rw [y] at hz; exact absurd hz (by decide)
  obtain ⟨g1, hfl⟩ := g.drop hf2 hz0
  have r1 : upr rs f2 [] f = rs f := by unfold upr; rw [if_neg hne]
  have hx0 : upr rs f2 [] f ≠ [] := fun y => by rw [r1] at y; rw [y] at hx; exact absurd hx (by decide)
  have hl := jnL_len (xs := rs f) (zs := rs f2) (s := s) (t := t)
  have hv := fun u v => jn_hv (s := s) (t := t) hx hz e1 e2 u v
  have ox : ∀ i, hvk (rs f) (rs f).length (gn (rs f) (s + i)) (gn (rs f) (s + i + 1)) := fun i => hv_any (by omega) (s + i)
  have oz : ∀ i, hvk (rs f2) (rs f2).length (gn (rs f2) (t + i)) (gn (rs f2) (t + i + 1)) := fun i => hv_any (by omega) (t + i)
  have H1 : ∀ u v, Hv (upr rs f2 []) u v ↔ Hv rs u v ∧ ¬ hvk (rs f2) (rs f2).length u v := fun u v => by
    rw [Hv_up hf2, Hv_oth w hf2]
    exact ⟨fun y => y.elim (fun ⟨i, hi, _⟩ => absurd hi (Nat.not_lt_zero _)) id, Or.inr⟩
  have key : Gd (upr (upr rs f2 []) f (jnL (rs f) (rs f2) s t)) (rshT f (upr rs f2 [] f) (jnL (rs f) (rs f2) s t) (relT f2 (rs f2) ow (rs f2).length)) th ps fe (fl - 1) pe pn := by
    refine g1.re hf hx0 (by omega) (fun i j hi hj e => ?_) (fun u v y => ?_) (fun p hp => ?_)
    · rw [hl] at hi hj
      rw [jnL_at hi, jnL_at hj] at e
      unfold jnF at e
      -- a point of the second stretch is not in the first ring
      have far : ∀ i, (rs f).length ≤ i → i < (rs f).length + ((rs f2).length - 2) → gn (rs f2) (t + 1 + (i - (rs f).length)) ∉ rs f := fun i h1 h2 => by
        have q := hd ((t + 1 + (i - (rs f).length)) % (rs f2).length) (Nat.mod_lt _ (by omega))
        rw [gn_mod] at q
        rcases q with q | q | q
        · have := gn_off w hf2 (s := t) (i := 1 + (i - (rs f).length)) (j := 0) (by omega) (by omega) (by rw [← Nat.add_assoc]; exact q)
          omega
        · have := gn_off w hf2 (s := t) (i := 1 + (i - (rs f).length)) (j := (rs f2).length - 1) (by omega) (by omega) (by rw [← Nat.add_assoc, show t + ((rs f2).length - 1) = t + (rs f2).length - 1 by omega, e2]; exact q)
          omega
        · exact q
      by_cases a : i < (rs f).length
      · rw [if_pos a] at e
        by_cases b : j < (rs f).length
        · rw [if_pos b] at e
          exact gn_off w hf a b e
        · rw [if_neg b] at e
          exact absurd (e ▸ gn_mem (by omega)) (far j (by omega) hj)
      · rw [if_neg a] at e
        by_cases b : j < (rs f).length
        · rw [if_pos b] at e
          exact absurd (e ▸ gn_mem (by omega)) (far i (by omega) hi)
        · rw [if_neg b] at e
          have := gn_off w hf2 (s := t + 1) (by omega) (by omega) e
          omega
    · rw [wf_zero g1.1, H1]
      rcases (hv u v).mp y with ⟨i, hi, a1, a2⟩ | ⟨i, hi, a1, a2⟩
      · refine Or.inr ((g1.1.1 u v f).mpr ⟨hf, ?_⟩)
        rw [r1, ← a1, ← a2]
        exact ox i
      · refine Or.inl (fun z => z.2 ?_)
        rw [← a1, ← a2]
        exact oz i
    · unfold jnL at hp
      rcases List.mem_append.mp hp with q | q
      · exact g.2.2.2.2.2.2.1 f p (stN_mem (by omega) q)
      · exact g.2.2.2.2.2.2.1 f2 p (stN_mem (by omega) q)
  rw [r1] at key
  refine ⟨key, hfl, fun u v => ?_⟩
  rw [Hv_up hf, Hv_oth g1.1 hf, hv, H1, r1]
  have fx := hv_from (xs := rs f) (by omega) s u v
  have fz := hv_from (xs := rs f2) (by omega) t u v
  have lx : gn (rs f) (s + ((rs f).length - 1) + 1) = gn (rs f) s := by rw [show s + ((rs f).length - 1) + 1 = s + (rs f).length by omega, gn_add]
  have lz : gn (rs f2) (t + ((rs f2).length - 1) + 1) = gn (rs f2) t := by rw [show t + ((rs f2).length - 1) + 1 = t + (rs f2).length by omega, gn_add]
  have e1' : gn (rs f) (s + ((rs f).length - 1)) = gn (rs f2) t := by rw [show s + ((rs f).length - 1) = s + (rs f).length - 1 by omega]; exact e1
  have e2' : gn (rs f2) (t + ((rs f2).length - 1)) = gn (rs f) s := by rw [show t + ((rs f2).length - 1) = t + (rs f2).length - 1 by omega]; exact e2
  have dx : gn (rs f2) t ≠ gn (rs f) s := fun z => by
    have := gn_off w hf (s := s) (i := (rs f).length - 1) (j := 0) (by omega) (by omega) (by rw [e1', z]; rfl)
    omega
  have oab : hvk (rs f) (rs f).length (gn (rs f2) t) (gn (rs f) s) := by
    have := ox ((rs f).length - 1)
    rw [e1', lx] at this
    exact this
  have oba : hvk (rs f2) (rs f2).length (gn (rs f) s) (gn (rs f2) t) := by
    have := oz ((rs f2).length - 1)
    rw [e2', lz] at this
    exact this
  have uniq : ∀ x y k, k < 160 → ∀ k2, k2 < 160 → hvk (rs k) (rs k).length x y → hvk (rs k2) (rs k2).length x y → k = k2 := fun x y k hk k2 hk2 p1 p2 => by
    have q1 := (w.1 x y k).mpr ⟨hk, p1⟩
    have q2 := (w.1 x y k2).mpr ⟨hk2, p2⟩
    omega
  constructor
  · intro z
    rcases z with (⟨i, hi, a1, a2⟩ | ⟨i, hi, a1, a2⟩) | ⟨⟨z1, z2⟩, z3⟩
    · have ho : hvk (rs f) (rs f).length u v := by rw [← a1, ← a2]; exact ox i
      refine ⟨⟨f, hf, ho⟩, fun ⟨b1, b2⟩ => ?_, fun ⟨b1, b2⟩ => ?_⟩
      · have := gn_off w hf (s := s) (i := i) (j := (rs f).length - 1) (by omega) (by omega) (by rw [a1, e1']; exact b1)
        omega
      · rw [b1, b2] at ho
        exact hne (uniq _ _ f hf f2 hf2 ho oba)
    · have ho : hvk (rs f2) (rs f2).length u v := by rw [← a1, ← a2]; exact oz i
      refine ⟨⟨f2, hf2, ho⟩, fun ⟨b1, b2⟩ => ?_, fun ⟨b1, b2⟩ => ?_⟩
      · rw [b1, b2] at ho
        exact hne (uniq _ _ f hf f2 hf2 oab ho)
      · have := gn_off w hf2 (s := t) (i := i) (j := (rs f2).length - 1) (by omega) (by omega) (by rw [a1, e2']; exact b1)
        omega
    · refine ⟨z1, fun ⟨b1, b2⟩ => z3 ?_, fun ⟨b1, b2⟩ => z2 ?_⟩
      · rw [b1, b2]; exact oab
      · rw [b1, b2]; exact oba
  · intro ⟨z1, z2, z3⟩
    by_cases p1 : hvk (rs f) (rs f).length u v
    · obtain ⟨i, hi, a1, a2⟩ := fx.mp p1
      refine Or.inl (Or.inl ⟨i, ?_, a1, a2⟩)
      refine Classical.byContradiction (fun y => z2 ?_)
      have : i = (rs f).length - 1 := by omega
      subst this
      exact ⟨by rw [← a1, e1'], by rw [← a2, lx]⟩
    · by_cases p2 : hvk (rs f2) (rs f2).length u v
      · obtain ⟨i, hi, a1, a2⟩ := fz.mp p2
        refine Or.inl (Or.inr ⟨i, ?_, a1, a2⟩)
        refine Classical.byContradiction (fun y => z3 ?_)
        have : i = (rs f2).length - 1 := by omega
        subst this
        exact ⟨by rw [← a1, e2'], by rw [← a2, lz]⟩
      · exact Or.inr ⟨⟨z1, p2⟩, p1⟩
end
section
variable {A : Nat → Nat} {M M' : Mm} {B : Nat} {rs rs2 : Nat → List Nat} {ow ow2 : Nat → Nat → Nat} {th : Nat → Bool} {ps : Nat → Nat → Int32} {fe fl pe pn : Nat} {Cc Zz : Nat}
/-- the ring of a face that is told by the owners' table, be there one or not -/
def rgA (A : Nat → Nat) (F : Nat) : Nat := if F = 0 then A 9 else A (62 + 2 * F)
def rgL (rs : Nat → List Nat) (F : Nat) : List Nat := if F = 0 then [] else rs (F - 1)
theorem t_oring {F : Nat} {Q : Nat → Prop} (h : FT A M rs ow) (hF : F ≤ 160) (q : ∀ o w, RG M o w ((rgL rs F).map nI) → (∀ f, F = f + 1 → o = A (64 + 2 * f)) → Q o) : T_X1_ring M (A 7) (oi F) Q := by
  cases F with
  | zero =>
    rw [oi_0]
    exact t_ring_out h (Or.inl (by decide)) (q (A 9) (A 10) h.2.2.1 (fun f e => by omega))
  | succ f =>
    rw [oi_s]
    refine t_ring h (by omega) (q _ (A (65 + 2 * f)) ?_ (fun f2 e => by rw [show f2 = f by omega]))
    unfold rgL
    rw [if_neg (by omega)]
    exact h.2.1 f (by omega)
theorem n_joinFits {a b f f2 : Nat} {Q : Int32 → Prop} (h : SD A M B rs ow th ps fe fl pe pn) (ha : a < 100) (hb : b < 100) (e1 : ow a b = f + 1) (e2 : ow b a = f2 + 1) (q1 : (rs f).length + (rs f2).length ≤ 14 → (∀ i, i < (rs f2).length → gn (rs f2) i = a ∨ gn (rs f2) i = b ∨ gn (rs f2) i ∉ rs f) → Q 1) (q0 : ¬ ((rs f).length + (rs f2).length ≤ 14 ∧ ∀ i, i < (rs f2).length → gn (rs f2) i = a ∨ gn (rs f2) i = b ∨ gn (rs f2) i ∉ rs f) → Q 0) : T_X8_joinFits M (A 0) (nI a) (nI b) Q := by
  unfold T_X8_joinFits
  intro K hK
  have hf : f < 160 := by have := (h.1.2.2.2.1 a b ha hb).2; omega
  have hf2 : f2 < 160 := by have := (h.1.2.2.2.1 b a hb ha).2; omega
  have hr := h.1.2.1 f hf
  have hr2 := h.1.2.1 f2 hf2
  have l1 := h.1.len hf
  have l2 := h.1.len hf2
  have bd2 : ∀ i, i < (rs f2).length → gn (rs f2) i < 100 := fun i hi => h.1.2.2.2.2 f2 _ hf2 (gn_mem (by omega))
  refine ⟨h.sh.k 0, A 7, h.sh.r 0 1 7, h.sh.k 0, A 7, h.sh.r 0 1 7, h.sh.k 7, t_owner h.1 ha hb ?_⟩
  rw [e1, oi_s]
  refine ⟨h.sh.k 7, t_ring h.1 hf ⟨h.sh.k 0, A 7, h.sh.r 0 1 7, h.sh.k 0, A 7, h.sh.r 0 1 7, h.sh.k 7, t_owner h.1 hb ha ?_⟩⟩
  rw [e2, oi_s]
  refine ⟨h.sh.k 7, t_ring h.1 hf2 ⟨hr.1, t_length hr ⟨hr2.1, t_length hr2 ?_⟩⟩⟩
  rw [List.length_map, List.length_map]
  have esum : nI (rs f).length + nI (rs f2).length - 2 ≤ 12 ↔ (rs f).length + (rs f2).length ≤ 14 := by
    rw [Int32.le_iff_toInt_le]
    have x1 : (nI (rs f).length).toInt = (rs f).length := Int32.toInt_ofNat_of_lt (by omega)
    have x2 : (nI (rs f2).length).toInt = (rs f2).length := Int32.toInt_ofNat_of_lt (by omega)
    have t2 : (2 : Int32).toInt = 2 := by decide
    have y1 : (nI (rs f).length + nI (rs f2).length).toInt = (rs f).length + (rs f2).length := by
      rw [k32_add (by omega) (by omega), x1, x2]
    rw [k32_sub (by omega) (by omega), y1, t2, show (12 : Int32).toInt = 12 by decide]
    omega
  refine ⟨fun z => ?_, fun z => q0 (fun w => z (esum.mpr w.1))⟩
  have hs := esum.mp z
  have key : ∀ d i, i + d = (rs f2).length → (∀ j, j < i → gn (rs f2) j = a ∨ gn (rs f2) j = b ∨ gn (rs f2) j ∉ rs f) → K (nI a) (nI b) (A (64 + 2 * f)) (A (64 + 2 * f2)) (nI i) := by
    intro d
    induction d with
    | zero =>
      intro i hi hj
      refine hK _ _ _ _ _ ⟨hr2.1, t_length hr2 ?_⟩
      rw [List.length_map]
      exact ⟨fun _ => q1 hs (fun j hj2 => hj j (by omega)), fun y => absurd (nI_le (by omega) (by omega)) y⟩
    | succ d ih =>
      intro i hi hj
      have step : (gn (rs f2) i = a ∨ gn (rs f2) i = b ∨ gn (rs f2) i ∉ rs f) → K (nI a) (nI b) (A (64 + 2 * f)) (A (64 + 2 * f2)) (nI i + 1) := fun y => by
        rw [nI_1]
        refine ih (i + 1) (by omega) (fun j hj2 => ?_)
        by_cases x : j < i
        · exact hj j x
        · rw [show j = i by omega]; exact y
      refine hK _ _ _ _ _ ⟨hr2.1, t_length hr2 ?_⟩
      rw [List.length_map]
      refine ⟨fun y => absurd y (nI_ge (by omega) (by omega)), fun _ => ⟨hr2.1, t_gt hr2 (by omega) ?_⟩⟩
      rw [gt_map (by omega)]
      have b2 := bd2 i (by omega)
      refine ⟨fun y => step (Or.inl ((nI_eq (by omega) (by omega)).mp y)), fun ya => ⟨fun y => step (Or.inr (Or.inl ((nI_eq (by omega) (by omega)).mp y))), fun yb => ⟨hr.1, t_place h.1 hf b2 (fun hm hp _ => ⟨fun y => absurd y (nI_ne1 (by omega)), fun _ => q0 (fun w => by
        rcases w.2 i (by omega) with x | x | x
        · exact ya (by rw [x])
        · exact yb (by rw [x])
        · exact x hm)⟩) (fun y => ⟨fun _ => step (Or.inr (Or.inr y)), fun y => absurd rfl y⟩)⟩⟩⟩
  have := key (rs f2).length 0 (by omega) (fun j hj => absurd hj (Nat.not_lt_zero _))
  rw [nI_0] at this
  exact this
theorem o_join {i1 i2 : Int32} {Q : Int32 → Mm → Prop} {X : String → Mm → Prop} (h : SD A M B rs ow th ps fe fl pe pn) (g : Gd rs ow th ps fe fl pe pn) (hc : 4 ≤ Cc) (hz : 24 ≤ Zz) (hX : ∀ E M', xE E → SD A M' B rs ow th ps fe fl pe pn → X E M')
    (q : ∀ M' rs' ow' f, f < 160 → 3 < (rs' f).length → 0 < fl → SD A M' B rs' ow' th ps fe (fl - 1) pe pn → Gd rs' ow' th ps fe (fl - 1) pe pn → eC rs' ow' fe + 1 = eC rs ow fe → Q (nI f) M') : T_X8_join Cc Zz M (A 0) i1 i2 Q X := by
  unfold T_X8_join
  refine ⟨2, 12, ⟨by omega, by omega⟩, h.sh.k 0, n_pts h (by omega) (by omega) (fun a b ha hb ea eb ta tb => ?_) (fun _ => hX _ _ (Or.inl rfl) h)⟩
  subst ea
  subst eb
  refine ⟨h.sh.k 0, A 7, h.sh.r 0 1 7, ⟨by omega, by omega⟩, h.sh.k 7, t_isInner h.1 ha hb (fun i1 i2 => ⟨1, 6, ⟨by omega, by omega⟩, n_arg (by omega) (by omega) (fun _ => ?_) (fun z => absurd z (by decide))⟩) (fun _ => ⟨1, 6, ⟨by omega, by omega⟩, n_arg (by omega) (by omega) (fun z => absurd rfl z) (fun _ => hX _ _ (Or.inr (Or.inl rfl)) h)⟩)⟩
  obtain ⟨f, e1⟩ := Nat.exists_eq_succ_of_ne_zero i1
  obtain ⟨f2, e2⟩ := Nat.exists_eq_succ_of_ne_zero i2
  have e1 : ow a b = f + 1 := e1
  have e2 : ow b a = f2 + 1 := e2
  refine ⟨⟨by omega, by omega⟩, h.sh.k 0, n_joinFits h ha hb e1 e2 (fun hlen hfit => ⟨1, 6, ⟨by omega, by omega⟩, n_stt (by omega) (by omega) (fun _ => ?_) (fun z => absurd z (by decide))⟩) (fun _ => ⟨1, 6, ⟨by omega, by omega⟩, n_stt (by omega) (by omega) (fun z => absurd rfl z) (fun _ => hX _ _ (Or.inr (Or.inr rfl)) h)⟩)⟩
  obtain ⟨hf, k, hk, ka, kb⟩ := half_at_ring g.1 e1
  obtain ⟨hf2, k2, hk2, kb2, ka2⟩ := half_at_ring g.1 e2
  have hne : f ≠ f2 := fun z => two_faces g e1 (by rw [e2, z])
  have h3 : 3 ≤ (rs f).length := (g.2.1 f).resolve_left (fun w => by rw [w] at hk; exact absurd hk (Nat.not_lt_zero _))
  have h32 : 3 ≤ (rs f2).length := (g.2.1 f2).resolve_left (fun w => by rw [w] at hk2; exact absurd hk2 (Nat.not_lt_zero _))
  have ma : a ∈ rs f2 := ka2 ▸ gn_mem (by omega)
  have mb : b ∈ rs f := kb ▸ gn_mem (by omega)
  have hne2 : rs f2 ≠ [] := fun w => by rw [w] at hk2; exact absurd hk2 (Nat.not_lt_zero _)
  refine ⟨h.sh.k 0, A 7, h.sh.r 0 1 7, ⟨by omega, by omega⟩, h.sh.k 7, t_owner h.1 ha hb ?_⟩
  rw [e1, oi_s]
  refine ⟨h.sh.k 0, A 7, h.sh.r 0 1 7, ⟨by omega, by omega⟩, h.sh.k 7, t_owner h.1 hb ha ?_⟩
  rw [e2, oi_s]
  refine ⟨h.sh.k 0, A 7, h.sh.r 0 1 7, ⟨by omega, by omega⟩, h.sh.k 7, t_ring h.1 hf ⟨h.sh.k 0, A 7, h.sh.r 0 1 7, ⟨by omega, by omega⟩, h.sh.k 7, t_ring h.1 hf2 ?_⟩⟩
  obtain ⟨xs, hx⟩ := h.2.2.2.2.2 31 (Or.inl rfl)
  refine ⟨h.sh.k 0, A 31, h.sh.r 0 6 31, ⟨by omega, by omega⟩, h.sh.k 31, t_clear hx (fun M2 c2 r2 => ?_)⟩
  have c2' := c2.two (A := A) (by omega) (by omega)
  have s2 : SD A M2 B rs ow th ps fe fl pe pn := h.go c2' (fun i z => by omega) (h.2.2.2.2.rg h.sh c2' (Or.inl rfl) (fun i z => z) r2)
  have hr2 := s2.1.2.1 f hf
  refine ⟨s2.sh.k 0, A 31, s2.sh.r 0 6 31, ⟨by omega, by omega⟩, hr2.1, t_place s2.1 hf hb (fun _ hpl hgs => ?_) (fun z => absurd mb z)⟩
  refine ⟨⟨by omega, by omega⟩, hr2.1, t_length hr2 ?_⟩
  rw [List.length_map]
  refine ⟨⟨by omega, by omega⟩, s2.sh.k 31, t_addStretch r2 hr2 (s2.sh.ne (by omega) (by omega) (by omega)) (s2.sh.ne (by omega) (by omega) (by omega)) (by omega) (by rw [List.length_nil]; omega) (fun M3 c3 r3 => ?_)⟩
  rw [List.nil_append, ← stN_map (by omega)] at r3
  have c3' := c3.two (A := A) (by omega) (by omega)
  have s3 : SD A M3 B rs ow th ps fe fl pe pn := s2.go c3' (fun i z => by omega) (s2.2.2.2.2.rg s2.sh c3' (Or.inl rfl) (fun i z => z) r3)
  have hr3 := s3.1.2.1 f2 hf2
  refine ⟨s3.sh.k 0, A 31, s3.sh.r 0 6 31, ⟨by omega, by omega⟩, hr3.1, t_place s3.1 hf2 ha (fun _ hpl2 hgt => ?_) (fun z => absurd ma z)⟩
  refine ⟨⟨by omega, by omega⟩, hr3.1, t_length hr3 ?_⟩
  rw [List.length_map, nI_1, show nI (rs f2).length - 2 = nI ((rs f2).length - 2) from pk_sub (by omega : 2 ≤ (rs f2).length)]
  refine ⟨⟨by omega, by omega⟩, s3.sh.k 31, t_addStretch r3 hr3 (s3.sh.ne (by omega) (by omega) (by omega)) (s3.sh.ne (by omega) (by omega) (by omega)) (by omega) (by rw [List.length_map, stN_len]; omega) (fun M4 c4 r4 => ?_)⟩
  rw [← stN_map (by omega), ← List.map_append] at r4
  have c4' := c4.two (A := A) (by omega) (by omega)
  have s4 : SD A M4 B rs ow th ps fe fl pe pn := s3.go c4' (fun i z => by omega) (s3.2.2.2.2.rg s3.sh c4' (Or.inl rfl) (fun i z => z) r4)
  -- the places: b at s, a ahead of it; a at t, b ahead of it
  have p1 : gn (rs f) (pl (rs f) b + (rs f).length - 1) = gn (rs f2) (pl (rs f2) a) := by
    have q1 := gn_inj g.1 hf (by omega) (hgs.trans kb.symm)
    rw [hgt, show pl (rs f) b + (rs f).length - 1 = pl (rs f) b + ((rs f).length - 1) by omega, ← gn_mod, Nat.add_mod, q1, ← Nat.add_mod, gn_mod, show k + 1 + ((rs f).length - 1) = k + (rs f).length by omega, gn_add]
    exact ka
  have p2 : gn (rs f2) (pl (rs f2) a + (rs f2).length - 1) = gn (rs f) (pl (rs f) b) := by
    have q1 := gn_inj g.1 hf2 (by omega) (hgt.trans ka2.symm)
    rw [hgs, show pl (rs f2) a + (rs f2).length - 1 = pl (rs f2) a + ((rs f2).length - 1) by omega, ← gn_mod, Nat.add_mod, q1, ← Nat.add_mod, gn_mod, show k2 + 1 + ((rs f2).length - 1) = k2 + (rs f2).length by omega, gn_add]
    exact kb2
  obtain ⟨g5, hfl, hv5⟩ := join_data g hf hf2 hne h3 h32 p1 p2 (fun i hi => by rw [hgt, hgs]; exact hfit i hi)
  have hl5 := jnL_len (xs := rs f) (zs := rs f2) (s := pl (rs f) b) (t := pl (rs f2) a)
  refine ⟨s4.sh.k 0, A 7, s4.sh.r 0 1 7, ⟨by omega, by omega⟩, s4.sh.k 7, t_drop s4.1 s4.2.1 hf2 hne2 hfl (fun M5 c5 f5 n5 => ?_)⟩
  have s5 : SD A M5 B (upr rs f2 []) (relT f2 (rs f2) ow (rs f2).length) th ps fe (fl - 1) pe pn := s4.face c5 (fun i z => by omega) f5 n5
  have r5 := r4.kept c5 (In.not s4.sh (by omega) (by omega)) (In.not s4.sh (by omega) (by omega))
  refine ⟨s5.sh.k 0, A 7, s5.sh.r 0 1 7, s5.sh.k 0, A 31, s5.sh.r 0 6 31, ⟨by omega, by omega⟩, s5.sh.k 7, t_reshape (ys := jnL (rs f) (rs f2) (pl (rs f) b) (pl (rs f2) a)) s5.1 hf (by omega) (by omega) r5 (fun p hp => ?_) (fun M6 c6 f6 => ?_)⟩
  · unfold jnL at hp
    rcases List.mem_append.mp hp with z | z
    · exact h.1.2.2.2.2 f p hf (stN_mem (by omega) z)
    · exact h.1.2.2.2.2 f2 p hf2 (stN_mem (by omega) z)
  · have e6 : upr rs f2 [] f = rs f := by unfold upr; rw [if_neg hne]
    rw [e6] at f6
    have s6 : SD A M6 B (upr (upr rs f2 []) f (jnL (rs f) (rs f2) (pl (rs f) b) (pl (rs f2) a))) (rshT f (rs f) (jnL (rs f) (rs f2) (pl (rs f) b) (pl (rs f2) a)) (relT f2 (rs f2) ow (rs f2).length)) th ps fe (fl - 1) pe pn := s5.face c6 (fun i z => by omega) f6 (s5.2.1.go s5.sh c6 (by omega))
    refine ⟨by omega, by omega, q M6 _ _ f hf ?_ hfl s6 g5 ?_⟩
    · have : upr (upr rs f2 []) f (jnL (rs f) (rs f2) (pl (rs f) b) (pl (rs f2) a)) f = jnL (rs f) (rs f2) (pl (rs f) b) (pl (rs f2) a) := by unfold upr; rw [if_pos rfl]
      rw [this, hl5]
      omega
    · rw [hgt, hgs] at hv5
      have hab : Hv rs a b := Classical.byContradiction (fun z => i1 ((g.zero a b).mpr z))
      have hba : Hv rs b a := Classical.byContradiction (fun z => i2 ((g.zero b a).mpr z))
      have hcnt := opn_same g.1 g5.1 (fun u v => (u = a ∧ v = b) ∨ (u = b ∧ v = a)) (fun u v z => by omega) (fun u v z => by
        rw [hv5 u v]
        exact ⟨fun y => y.1, fun y => ⟨y, by omega, by omega⟩⟩) (fun u v z => by
        rcases z with ⟨rfl, rfl⟩ | ⟨rfl, rfl⟩
        · exact ⟨⟨fun _ => hba, fun _ => hab⟩, ⟨fun y => absurd ⟨rfl, rfl⟩ ((hv5 _ _).mp y).2.1, fun y => absurd ⟨rfl, rfl⟩ ((hv5 _ _).mp y).2.2⟩⟩
        · exact ⟨⟨fun _ => hab, fun _ => hba⟩, ⟨fun y => absurd ⟨rfl, rfl⟩ ((hv5 _ _).mp y).2.2, fun y => absurd ⟨rfl, rfl⟩ ((hv5 _ _).mp y).2.1⟩⟩)
      have l1 := lenF_up (rs := rs) hf2 (ys := [])
      have l2 := lenF_up (rs := upr rs f2 []) hf (ys := jnL (rs f) (rs f2) (pl (rs f) b) (pl (rs f2) a))
      rw [e6, hl5] at l2
      rw [List.length_nil] at l1
      have := edges_up g h g5 s6 (k := 1) (k2 := 0) (by omega)
      omega
end
