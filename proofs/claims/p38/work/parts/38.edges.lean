section
variable {A : Nat → Nat} {M M' : Mm} {B : Nat} {rs : Nat → List Nat} {ow : Nat → Nat → Nat} {th : Nat → Bool} {ps : Nat → Nat → Int32} {fe fl pe pl : Nat}
theorem sumN_tail {g : Nat → Nat} {m : Nat} (h : ∀ k, m ≤ k → g k = 0) : ∀ d, sumN g (m + d) = sumN g m := by
  intro d
  induction d with
  | zero => rfl
  | succ d ih =>
    show sumN g (m + d) + g (m + d) = sumN g m
    rw [ih, h _ (Nat.le_add_right _ _)]
    rfl
theorem lenF_all (he : ∀ f, fe ≤ f → rs f = []) (hf : fe ≤ 160) : lenF rs fe = lenF rs 160 := by
  have := sumN_tail (g := fun f => (rs f).length) (m := fe) (fun k hk => by
    show (rs k).length = 0
    rw [he k hk]
    rfl) (160 - fe)
  rw [show fe + (160 - fe) = 160 by omega] at this
  exact this.symm
theorem lenF_up {f : Nat} (hf : f < 160) {ys : List Nat} : lenF (upr rs f ys) 160 + (rs f).length = lenF rs 160 + ys.length := by
  have key : ∀ n, f < n → lenF (upr rs f ys) n + (rs f).length = lenF rs n + ys.length := by
    intro n
    induction n with
    | zero => intro z; exact absurd z (Nat.not_lt_zero _)
    | succ n ih =>
      intro z
      show lenF (upr rs f ys) n + (upr rs f ys n).length + _ = lenF rs n + (rs n).length + _
      by_cases e : f = n
      · subst e
        have h1 : lenF (upr rs f ys) f = lenF rs f := sumN_same (fun k hk => by
          show (upr rs f ys k).length = (rs k).length
          unfold upr
          rw [if_neg (show ¬ k = f by omega)])
        have h2 : upr rs f ys f = ys := by unfold upr; rw [if_pos rfl]
        rw [h1, h2]
        omega
      · have h2 : upr rs f ys n = rs n := by unfold upr; rw [if_neg (fun z => e z.symm)]
        have := ih (by omega)
        rw [h2]
        omega
  exact key 160 hf
theorem Gd.ok (g : Gd rs ow th ps fe fl pe pl) (h : FT A M rs ow) : Ok rs ow := ⟨g.1, h.2.2.2.2, fun f hf => h.len hf⟩
theorem Gd.edges (g : Gd rs ow th ps fe fl pe pl) (h : SD A M B rs ow th ps fe fl pe pl) : 2 * eC rs ow fe = lenF rs 160 + cntP (fun a b => opn ow a b) := by
  have := edges2 (g.ok h.1) g.noloop h.2.1.2.2.1 (fun f hf _ => g.2.2.1 f hf)
  rw [lenF_all g.2.2.1 h.2.1.2.2.1] at this
  exact this
theorem Hv_up {f : Nat} (hf : f < 160) {ys : List Nat} (a b : Nat) : Hv (upr rs f ys) a b ↔ hvk ys ys.length a b ∨ ∃ g, g < 160 ∧ g ≠ f ∧ hvk (rs g) (rs g).length a b := by
  constructor
  · intro ⟨g, hg, hv⟩
    unfold upr at hv
    by_cases e : g = f
    · rw [if_pos e] at hv
      exact Or.inl hv
    · rw [if_neg e] at hv
      exact Or.inr ⟨g, hg, e, hv⟩
  · intro z
    rcases z with hv | ⟨g, hg, e, hv⟩
    · exact ⟨f, hf, by unfold upr; rw [if_pos rfl]; exact hv⟩
    · exact ⟨g, hg, by unfold upr; rw [if_neg e]; exact hv⟩
/-- the halves of the other rings are those that f has not -/
theorem Hv_oth (w : Wf rs ow) {f : Nat} (hf : f < 160) (a b : Nat) : (∃ g, g < 160 ∧ g ≠ f ∧ hvk (rs g) (rs g).length a b) ↔ Hv rs a b ∧ ¬ hvk (rs f) (rs f).length a b := by
  constructor
  · intro ⟨g, hg, e, hv⟩
    refine ⟨⟨g, hg, hv⟩, fun z => ?_⟩
    have h1 := (w.1 a b g).mpr ⟨hg, hv⟩
    have h2 := (w.1 a b f).mpr ⟨hf, z⟩
    omega
  · intro ⟨⟨g, hg, hv⟩, n⟩
    exact ⟨g, hg, fun z => n (z ▸ hv), hv⟩
theorem gn_eq' {xs : List Nat} {i x : Nat} (h : i < xs.length) (e : xs[i]? = some x) : gn xs i = x := by
  unfold gn
  rw [Nat.mod_eq_of_lt h, e]
  rfl
/-- a stretch of a ring -/
def stN (xs : List Nat) (s c : Nat) : List Nat := (List.range c).map (fun k => gn xs (s + k))
theorem stN_len (xs : List Nat) (s c : Nat) : (stN xs s c).length = c := by
  unfold stN
  rw [List.length_map, List.length_range]
theorem stN_at {xs : List Nat} {s c k : Nat} (h : k < c) : gn (stN xs s c) k = gn xs (s + k) := by
  unfold gn
  rw [stN_len, Nat.mod_eq_of_lt h]
  unfold stN
  rw [List.getElem?_map, List.getElem?_range h]
  rfl
theorem stN_map {xs : List Nat} (h : 0 < xs.length) (s c : Nat) : (stN xs s c).map nI = strt (xs.map nI) s c := by
  refine List.ext_getElem? (fun k => ?_)
  by_cases hk : k < c
  · rw [strt_get hk, gt_map h]
    unfold stN
    rw [List.map_map, List.getElem?_map, List.getElem?_range hk]
    rfl
  · rw [List.getElem?_eq_none (by rw [List.length_map, stN_len]; omega), List.getElem?_eq_none (by rw [strt_len]; omega)]
/-- the halves of a stretch that is closed into a ring -/
theorem stN_hv {xs : List Nat} {s c : Nat} (hc : 0 < c) (a b : Nat) : hvk (stN xs s (c + 1)) (c + 1) a b ↔ (∃ i, i < c ∧ gn xs (s + i) = a ∧ gn xs (s + i + 1) = b) ∨ (gn xs (s + c) = a ∧ gn xs s = b) := by
  have hl := stN_len xs s (c + 1)
  have last : gn (stN xs s (c + 1)) (c + 1) = gn xs s := by
    have := gn_add (stN xs s (c + 1)) 0
    rw [hl, Nat.zero_add] at this
    rw [this, stN_at (by omega)]
    rfl
  constructor
  · intro ⟨i, hi, e1, e2⟩
    rw [stN_at hi] at e1
    by_cases e : i < c
    · rw [stN_at (by omega)] at e2
      exact Or.inl ⟨i, e, e1, e2⟩
    · have : i = c := by omega
      subst this
      rw [last] at e2
      exact Or.inr ⟨e1, e2⟩
  · intro z
    rcases z with ⟨i, hi, e1, e2⟩ | ⟨e1, e2⟩
    · exact ⟨i, by omega, by rw [stN_at (by omega)]; exact e1, by rw [stN_at (by omega)]; exact e2⟩
    · exact ⟨c, by omega, by rw [stN_at (by omega)]; exact e1, by rw [last]; exact e2⟩
end
section
variable {A : Nat → Nat} {M M' : Mm} {B : Nat} {rs rs2 : Nat → List Nat} {ow ow2 : Nat → Nat → Nat} {th th2 : Nat → Bool} {ps ps2 : Nat → Nat → Int32} {fe fl pe pl fe2 fl2 pe2 pl2 : Nat}
theorem opn_hv (w : Wf rs ow) (a b : Nat) : opn ow a b ↔ ¬ Hv rs a b ∧ Hv rs b a := by
  have h1 := wf_zero w a b
  have h2 := wf_zero w b a
  constructor
  · intro ⟨e1, e2⟩
    exact ⟨h1.mp e1, Classical.byContradiction (fun z => e2 (h2.mpr z))⟩
  · intro ⟨e1, e2⟩
    exact ⟨h1.mpr e1, fun z => (h2.mp z) e2⟩
theorem cnt_same {P P2 : Nat → Nat → Prop} [∀ a b, Decidable (P a b)] [∀ a b, Decidable (P2 a b)] (h : ∀ a b, P a b ↔ P2 a b) : cntP P = cntP P2 :=
  Nat.le_antisymm (cntP_mono (fun a b _ _ z => (h a b).mp z)) (cntP_mono (fun a b _ _ z => (h a b).mpr z))
theorem opn_same (w : Wf rs ow) (w2 : Wf rs2 ow2) (S : Nat → Nat → Prop) (hS : ∀ u v, S u v → S v u) (h1 : ∀ u v, ¬ S u v → (Hv rs2 u v ↔ Hv rs u v)) (h2 : ∀ u v, S u v → (Hv rs u v ↔ Hv rs v u) ∧ (Hv rs2 u v ↔ Hv rs2 v u)) : cntP (fun a b => opn ow2 a b) = cntP (fun a b => opn ow a b) := by
  refine cnt_same (fun a b => ?_)
  rw [opn_hv w2, opn_hv w]
  by_cases s : S a b
  · have q := h2 a b s
    constructor
    · intro ⟨e1, e2⟩
      exact absurd (q.2.mpr e2) e1
    · intro ⟨e1, e2⟩
      exact absurd (q.1.mpr e2) e1
  · rw [h1 a b s, h1 b a (fun z => s (hS _ _ z))]
theorem edges_up (g : Gd rs ow th ps fe fl pe pl) (h : SD A M B rs ow th ps fe fl pe pl) (g2 : Gd rs2 ow2 th2 ps2 fe2 fl2 pe2 pl2) (h2 : SD A M' B rs2 ow2 th2 ps2 fe2 fl2 pe2 pl2) {k k2 : Nat} (e : lenF rs2 160 + cntP (fun a b => opn ow2 a b) + 2 * k = lenF rs 160 + cntP (fun a b => opn ow a b) + 2 * k2) : eC rs2 ow2 fe2 + k = eC rs ow fe + k2 := by
  have e1 := g.edges h
  have e2 := g2.edges h2
  omega
theorem gn_inj (w : Wf rs ow) {f p q : Nat} (hf : f < 160) (hn : 0 < (rs f).length) (e : gn (rs f) p = gn (rs f) q) : p % (rs f).length = q % (rs f).length :=
  w.2 f _ _ hf (Nat.mod_lt _ hn) (Nat.mod_lt _ hn) (by rw [gn_mod, gn_mod]; exact e)
theorem mod_small {n a b : Nat} (ha : a < n) (hb : b < n) {s : Nat} (h : (s + a) % n = (s + b) % n) : a = b := by
  have hs : s % n < n := Nat.mod_lt _ (by omega)
  have e : ∀ c, c < n → (s + c) % n = if s % n + c < n then s % n + c else s % n + c - n := by
    intro c hc
    rw [← Nat.mod_add_mod]
    split
    · rename_i z
      exact Nat.mod_eq_of_lt z
    · rw [Nat.mod_eq_sub_mod (by omega)]
      exact Nat.mod_eq_of_lt (by omega)
  rw [e a ha, e b hb] at h
  split at h <;> split at h <;> omega
theorem gn_off (w : Wf rs ow) {f s i j : Nat} (hf : f < 160) (hi : i < (rs f).length) (hj : j < (rs f).length) (e : gn (rs f) (s + i) = gn (rs f) (s + j)) : i = j := mod_small hi hj (gn_inj w hf (by omega) e)
theorem stN_dist (w : Wf rs ow) {f s c : Nat} (hf : f < 160) (hc : c ≤ (rs f).length) : ∀ i j, i < (stN (rs f) s c).length → j < (stN (rs f) s c).length → gn (stN (rs f) s c) i = gn (stN (rs f) s c) j → i = j := by
  intro i j hi hj e
  rw [stN_len] at hi hj
  rw [stN_at hi, stN_at hj] at e
  exact gn_off w hf (by omega) (by omega) e
theorem stN_mem {xs : List Nat} {s c p : Nat} (hn : 0 < xs.length) (h : p ∈ stN xs s c) : p ∈ xs := by
  unfold stN at h
  obtain ⟨k, -, e⟩ := List.mem_map.mp h
  exact e ▸ gn_mem hn
end
