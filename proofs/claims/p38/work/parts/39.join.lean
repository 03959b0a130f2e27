section
/-- two rings made one: xs from place s on, all of it; zs from behind place t on, up to the last but one -/
def jnF (xs zs : List Nat) (s t i : Nat) : Nat := if i < xs.length then gn xs (s + i) else gn zs (t + 1 + (i - xs.length))
def jnL (xs zs : List Nat) (s t : Nat) : List Nat := stN xs s xs.length ++ stN zs (t + 1) (zs.length - 2)
theorem jnL_len {xs zs : List Nat} {s t : Nat} : (jnL xs zs s t).length = xs.length + (zs.length - 2) := by
  unfold jnL
  rw [List.length_append, stN_len, stN_len]
theorem jnL_at {xs zs : List Nat} {s t i : Nat} (h : i < xs.length + (zs.length - 2)) : gn (jnL xs zs s t) i = jnF xs zs s t i := by
  have hl := jnL_len (xs := xs) (zs := zs) (s := s) (t := t)
  refine gn_eq' ?_ ?_
  · rw [hl]; exact h
  · unfold jnL jnF
    by_cases z : i < xs.length
    · rw [if_pos z, List.getElem?_append_left (by rw [stN_len]; exact z)]
      unfold stN
      rw [List.getElem?_map, List.getElem?_range z]
      rfl
    · rw [if_neg z, List.getElem?_append_right (by rw [stN_len]; omega), stN_len]
      unfold stN
      rw [List.getElem?_map, List.getElem?_range (by omega)]
      rfl
variable {A : Nat → Nat} {M M' : Mm} {B : Nat} {rs rs2 : Nat → List Nat} {ow ow2 : Nat → Nat → Nat} {th : Nat → Bool} {ps : Nat → Nat → Int32} {fe fl pe pl : Nat} {Cc Zz : Nat}
theorem jn_hv {xs zs : List Nat} {s t : Nat} (hx : 3 ≤ xs.length) (hz : 3 ≤ zs.length) (e1 : gn xs (s + xs.length - 1) = gn zs t) (e2 : gn zs (t + zs.length - 1) = gn xs s) (u v : Nat) :
    hvk (jnL xs zs s t) (jnL xs zs s t).length u v ↔ (∃ i, i < xs.length - 1 ∧ gn xs (s + i) = u ∧ gn xs (s + i + 1) = v) ∨ ∃ i, i < zs.length - 1 ∧ gn zs (t + i) = u ∧ gn zs (t + i + 1) = v := by
  have hl := jnL_len (xs := xs) (zs := zs) (s := s) (t := t)
  have hi1 : ∀ i, i < xs.length → gn (jnL xs zs s t) i = gn xs (s + i) := fun i h => by
    rw [jnL_at (by omega)]; unfold jnF; rw [if_pos h]
  have hi2 : ∀ i, xs.length - 1 ≤ i → i < xs.length + (zs.length - 2) → gn (jnL xs zs s t) i = gn zs (t + (i - (xs.length - 1))) := fun i h h2 => by
    rw [jnL_at h2]
    unfold jnF
    by_cases z : i < xs.length
    · rw [if_pos z, show i = xs.length - 1 by omega, show s + (xs.length - 1) = s + xs.length - 1 by omega, e1, show t + (xs.length - 1 - (xs.length - 1)) = t by omega]
    · rw [if_neg z, show t + 1 + (i - xs.length) = t + (i - (xs.length - 1)) by omega]
  have last : gn (jnL xs zs s t) (xs.length + (zs.length - 2)) = gn zs (t + (zs.length - 1)) := by
    have := gn_add (jnL xs zs s t) 0
    rw [hl, Nat.zero_add] at this
    rw [this, hi1 0 (by omega), show t + (zs.length - 1) = t + zs.length - 1 by omega, e2]
    rfl
  rw [hl]
  constructor
  · intro ⟨i, hi, a1, a2⟩
    by_cases z : i < xs.length - 1
    · rw [hi1 i (by omega)] at a1
      rw [hi1 (i + 1) (by omega)] at a2
      exact Or.inl ⟨i, z, a1, a2⟩
    · rw [hi2 i (by omega) hi] at a1
      refine Or.inr ⟨i - (xs.length - 1), by omega, a1, ?_⟩
      by_cases y : i + 1 < xs.length + (zs.length - 2)
      · rw [hi2 (i + 1) (by omega) y] at a2
        rw [show t + (i - (xs.length - 1)) + 1 = t + (i + 1 - (xs.length - 1)) by omega]
        exact a2
      · rw [show i + 1 = xs.length + (zs.length - 2) by omega, last] at a2
        rw [show t + (i - (xs.length - 1)) + 1 = t + (zs.length - 1) by omega]
        exact a2
  · intro z
    rcases z with ⟨i, hi, a1, a2⟩ | ⟨i, hi, a1, a2⟩
    · exact ⟨i, by omega, by rw [hi1 i (by omega)]; exact a1, by rw [hi1 (i + 1) (by omega)]; exact a2⟩
    · refine ⟨i + (xs.length - 1), by omega, ?_, ?_⟩
      · rw [hi2 _ (by omega) (by omega), show i + (xs.length - 1) - (xs.length - 1) = i by omega]
        exact a1
      · by_cases y : i + (xs.length - 1) + 1 < xs.length + (zs.length - 2)
        · rw [hi2 _ (by omega) y, show i + (xs.length - 1) + 1 - (xs.length - 1) = i + 1 by omega]
          exact a2
        · rw [show i + (xs.length - 1) + 1 = xs.length + (zs.length - 2) by omega, last, show t + (zs.length - 1) = t + i + 1 by omega]
          exact a2
/-- (a, b) and (b, a) stand in two faces -/
theorem two_faces (g : Gd rs ow th ps fe fl pe pl) {a b f : Nat} (e1 : ow a b = f + 1) (e2 : ow b a = f + 1) : False := by
  obtain ⟨hf, k2, y2, y3, y4⟩ := half_at_ring g.1 e1
  obtain ⟨_, k, z2, z3, z4⟩ := half_at_ring g.1 e2
  have h3 : 3 ≤ (rs f).length := (g.2.1 f).resolve_left (fun w => by rw [w] at z2; exact absurd z2 (Nat.not_lt_zero _))
  have e1 := gn_inj g.1 hf (by omega) (y4.trans z3.symm)
  have e2 := gn_inj g.1 hf (by omega) (z4.trans y3.symm)
  have e3 : (k2 + 2) % (rs f).length = (k2 + 0) % (rs f).length := by
    rw [show k2 + 2 = k2 + 1 + 1 by omega, Nat.add_mod, e1, ← Nat.add_mod, e2]
    rfl
  have := mod_small (by omega) (by omega) e3
  omega
/-- two faces joined: what it is then -/
theorem join_data (g : Gd rs ow th ps fe fl pe pl) {f f2 s t : Nat} (hf : f < 160) (hf2 : f2 < 160) (hne : f ≠ f2) (hx : 3 ≤ (rs f).length) (hz : 3 ≤ (rs f2).length) (e1 : gn (rs f) (s + (rs f).length - 1) = gn (rs f2) t) (e2 : gn (rs f2) (t + (rs f2).length - 1) = gn (rs f) s)
    (hd : ∀ i, i < (rs f2).length → gn (rs f2) i = gn (rs f2) t ∨ gn (rs f2) i = gn (rs f) s ∨ gn (rs f2) i ∉ rs f) :
    Gd (upr (upr rs f2 []) f (jnL (rs f) (rs f2) s t)) (rshT f (rs f) (jnL (rs f) (rs f2) s t) (relT f2 (rs f2) ow (rs f2).length)) th ps fe (fl - 1) pe pl ∧ 0 < fl ∧
    ∀ u v, Hv (upr (upr rs f2 []) f (jnL (rs f) (rs f2) s t)) u v ↔ Hv rs u v ∧ ¬ (u = gn (rs f2) t ∧ v = gn (rs f) s) ∧ ¬ (u = gn (rs f) s ∧ v = gn (rs f2) t) := by
  have w := g.1
  have hz0 : rs f2 ≠ [] := fun y => by rw [y] at hz; exact absurd hz (by decide)
  obtain ⟨g1, hfl⟩ := g.drop hf2 hz0
  have r1 : upr rs f2 [] f = rs f := by unfold upr; rw [if_neg hne]
  have hx0 : upr rs f2 [] f ≠ [] := fun y => by rw [r1] at y; rw [y] at hx; exact absurd hx (by decide)
  have hl := jnL_len (xs := rs f) (zs := rs f2) (s := s) (t := t)
  have hv := fun u v => jn_hv (s := s) (t := t) hx hz e1 e2 u v
  have ox : ∀ i, hvk (rs f) (rs f).length (gn (rs f) (s + i)) (gn (rs f) (s + i + 1)) := fun i => hv_any (by omega) (s + i)
  have oz : ∀ i, hvk (rs f2) (rs f2).length (gn (rs f2) (t + i)) (gn (rs f2) (t + i + 1)) := fun i => hv_any (by omega) (t + i)
  have H1 : ∀ u v, Hv (upr rs f2 []) u v ↔ Hv rs u v ∧ ¬ hvk (rs f2) (rs f2).length u v := fun u v => by
    rw [Hv_up hf2, Hv_oth w hf2]
    exact ⟨fun y => y.elim (fun ⟨i, hi, _⟩ => absurd hi (Nat.not_lt_zero _)) id, Or.inr⟩
  have key : Gd (upr (upr rs f2 []) f (jnL (rs f) (rs f2) s t)) (rshT f (upr rs f2 [] f) (jnL (rs f) (rs f2) s t) (relT f2 (rs f2) ow (rs f2).length)) th ps fe (fl - 1) pe pl := by
    refine g1.re hf hx0 (by omega) (fun i j hi hj e => ?_) (fun u v y => ?_) (fun p hp => ?_)
    · rw [hl] at hi hj
      rw [jnL_at hi, jnL_at hj] at e
      unfold jnF at e
      -- a point of the second stretch is not in the first ring
      have far : ∀ i, (rs f).length ≤ i → i < (rs f).length + ((rs f2).length - 2) → gn (rs f2) (t + 1 + (i - (rs f).length)) ∉ rs f := fun i h1 h2 => by
        have q := hd ((t + 1 + (i - (rs f).length)) % (rs f2).length) (Nat.mod_lt _ (by omega))
        rw [gn_mod] at q
        rcases q with q | q | q
        · have := gn_off w hf2 (s := t) (i := 1 + (i - (rs f).length)) (j := 0) (by omega) (by omega) (by rw [← Nat.add_assoc]; exact q)
          omega
        · have := gn_off w hf2 (s := t) (i := 1 + (i - (rs f).length)) (j := (rs f2).length - 1) (by omega) (by omega) (by rw [← Nat.add_assoc, show t + ((rs f2).length - 1) = t + (rs f2).length - 1 by omega, e2]; exact q)
          omega
        · exact q
      by_cases a : i < (rs f).length
      · rw [if_pos a] at e
        by_cases b : j < (rs f).length
        · rw [if_pos b] at e
          exact gn_off w hf a b e
        · rw [if_neg b] at e
          exact absurd (e ▸ gn_mem (by omega)) (far j (by omega) hj)
      · rw [if_neg a] at e
        by_cases b : j < (rs f).length
        · rw [if_pos b] at e
          exact absurd (e ▸ gn_mem (by omega)) (far i (by omega) hi)
        · rw [if_neg b] at e
          have := gn_off w hf2 (s := t + 1) (by omega) (by omega) e
          omega
    · rw [wf_zero g1.1, H1]
      rcases (hv u v).mp y with ⟨i, hi, a1, a2⟩ | ⟨i, hi, a1, a2⟩
      · refine Or.inr ((g1.1.1 u v f).mpr ⟨hf, ?_⟩)
        rw [r1, ← a1, ← a2]
        exact ox i
      · refine Or.inl (fun z => z.2 ?_)
        rw [← a1, ← a2]
        exact oz i
    · unfold jnL at hp
      rcases List.mem_append.mp hp with q | q
      · exact g.2.2.2.2.2.2.1 f p (stN_mem (by omega) q)
      · exact g.2.2.2.2.2.2.1 f2 p (stN_mem (by omega) q)
  rw [r1] at key
  refine ⟨key, hfl, fun u v => ?_⟩
  rw [Hv_up hf, Hv_oth g1.1 hf, hv, H1, r1]
  have fx := hv_from (xs := rs f) (by omega) s u v
  have fz := hv_from (xs := rs f2) (by omega) t u v
  have lx : gn (rs f) (s + ((rs f).length - 1) + 1) = gn (rs f) s := by rw [show s + ((rs f).length - 1) + 1 = s + (rs f).length by omega, gn_add]
  have lz : gn (rs f2) (t + ((rs f2).length - 1) + 1) = gn (rs f2) t := by rw [show t + ((rs f2).length - 1) + 1 = t + (rs f2).length by omega, gn_add]
  have e1' : gn (rs f) (s + ((rs f).length - 1)) = gn (rs f2) t := by rw [show s + ((rs f).length - 1) = s + (rs f).length - 1 by omega]; exact e1
  have e2' : gn (rs f2) (t + ((rs f2).length - 1)) = gn (rs f) s := by rw [show t + ((rs f2).length - 1) = t + (rs f2).length - 1 by omega]; exact e2
  have dx : gn (rs f2) t ≠ gn (rs f) s := fun z => by
    have := gn_off w hf (s := s) (i := (rs f).length - 1) (j := 0) (by omega) (by omega) (by rw [e1', z]; rfl)
    omega
  have oab : hvk (rs f) (rs f).length (gn (rs f2) t) (gn (rs f) s) := by
    have := ox ((rs f).length - 1)
    rw [e1', lx] at this
    exact this
  have oba : hvk (rs f2) (rs f2).length (gn (rs f) s) (gn (rs f2) t) := by
    have := oz ((rs f2).length - 1)
    rw [e2', lz] at this
    exact this
  have uniq : ∀ x y k, k < 160 → ∀ k2, k2 < 160 → hvk (rs k) (rs k).length x y → hvk (rs k2) (rs k2).length x y → k = k2 := fun x y k hk k2 hk2 p1 p2 => by
    have q1 := (w.1 x y k).mpr ⟨hk, p1⟩
    have q2 := (w.1 x y k2).mpr ⟨hk2, p2⟩
    omega
  constructor
  · intro z
    rcases z with (⟨i, hi, a1, a2⟩ | ⟨i, hi, a1, a2⟩) | ⟨⟨z1, z2⟩, z3⟩
    · have ho : hvk (rs f) (rs f).length u v := by rw [← a1, ← a2]; exact ox i
      refine ⟨⟨f, hf, ho⟩, fun ⟨b1, b2⟩ => ?_, fun ⟨b1, b2⟩ => ?_⟩
      · have := gn_off w hf (s := s) (i := i) (j := (rs f).length - 1) (by omega) (by omega) (by rw [a1, e1']; exact b1)
        omega
      · rw [b1, b2] at ho
        exact hne (uniq _ _ f hf f2 hf2 ho oba)
    · have ho : hvk (rs f2) (rs f2).length u v := by rw [← a1, ← a2]; exact oz i
      refine ⟨⟨f2, hf2, ho⟩, fun ⟨b1, b2⟩ => ?_, fun ⟨b1, b2⟩ => ?_⟩
      · rw [b1, b2] at ho
        exact hne (uniq _ _ f hf f2 hf2 oab ho)
      · have := gn_off w hf2 (s := t) (i := i) (j := (rs f2).length - 1) (by omega) (by omega) (by rw [a1, e2']; exact b1)
        omega
    · refine ⟨z1, fun ⟨b1, b2⟩ => z3 ?_, fun ⟨b1, b2⟩ => z2 ?_⟩
      · rw [b1, b2]; exact oab
      · rw [b1, b2]; exact oba
  · intro ⟨z1, z2, z3⟩
    by_cases p1 : hvk (rs f) (rs f).length u v
    · obtain ⟨i, hi, a1, a2⟩ := fx.mp p1
      refine Or.inl (Or.inl ⟨i, ?_, a1, a2⟩)
      refine Classical.byContradiction (fun y => z2 ?_)
      have : i = (rs f).length - 1 := by omega
      subst this
      exact ⟨by rw [← a1, e1'], by rw [← a2, lx]⟩
    · by_cases p2 : hvk (rs f2) (rs f2).length u v
      · obtain ⟨i, hi, a1, a2⟩ := fz.mp p2
        refine Or.inl (Or.inr ⟨i, ?_, a1, a2⟩)
        refine Classical.byContradiction (fun y => z3 ?_)
        have : i = (rs f2).length - 1 := by omega
        subst this
        exact ⟨by rw [← a1, e2'], by rw [← a2, lz]⟩
      · exact Or.inr ⟨⟨z1, p2⟩, p1⟩
end
