/-- who owns a half has it -/
def Snd (rs : Nat → List Nat) (ow : Nat → Nat → Nat) : Prop := ∀ a b f, ow a b = f + 1 → f < 160 ∧ hvk (rs f) (rs f).length a b
section
variable {rs Rf : Nat → List Nat} {ow : Nat → Nat → Nat} {D : Nat → Prop}
theorem Wf.snd (w : Wf rs ow) : Snd rs ow := fun a b f h => (w.1 a b f).mp h
theorem rsh_at (h : Snd rs ow) {f : Nat} {ys : List Nat} (a b : Nat) : (hvk ys ys.length a b → rshT f (rs f) ys ow a b = f + 1) ∧ (¬ hvk ys ys.length a b → ow a b = f + 1 → rshT f (rs f) ys ow a b = 0) ∧ (¬ hvk ys ys.length a b → ow a b ≠ f + 1 → rshT f (rs f) ys ow a b = ow a b) := by
  unfold rshT
  have c := clT_at f ys (relT f (rs f) ow (rs f).length) ys.length a b
  have r := relT_at f (rs f) ow (rs f).length a b
  refine ⟨c.1, fun n e => ?_, fun n e => ?_⟩
  · rw [c.2 n]
    exact r.1 ⟨(h a b f e).2, e⟩
  · rw [c.2 n]
    exact r.2 (fun z => e z.2)
theorem snd_rsh (h : Snd rs ow) {f : Nat} (hf : f < 160) {ys : List Nat} : Snd (upr rs f ys) (rshT f (rs f) ys ow) := by
  intro a b g e
  obtain ⟨r1, r2, r3⟩ := rsh_at h (f := f) (ys := ys) a b
  by_cases n : hvk ys ys.length a b
  · have : g = f := by have := r1 n; omega
    subst this
    refine ⟨hf, ?_⟩
    unfold upr
    rw [if_pos rfl]
    exact n
  · by_cases m : ow a b = f + 1
    · rw [r2 n m] at e
      exact absurd e (by omega)
    · rw [r3 n m] at e
      obtain ⟨h1, h2⟩ := h a b g e
      have hne : g ≠ f := fun z => m (by rw [← z]; exact e)
      refine ⟨h1, ?_⟩
      unfold upr
      rw [if_neg hne]
      exact h2
/-- no half in two of the rings -/
def Dj (Rf : Nat → List Nat) : Prop := ∀ g g2 a b, g < 160 → g2 < 160 → hvk (Rf g) (Rf g).length a b → hvk (Rf g2) (Rf g2).length a b → g = g2
/-- rings under way to Rf: those of D are there already; a half is its ring's own, or one of D took it -/
def Bt (rs : Nat → List Nat) (ow : Nat → Nat → Nat) (D : Nat → Prop) (Rf : Nat → List Nat) : Prop :=
  Snd rs ow ∧ (∀ g, g < 160 → D g → rs g = Rf g) ∧ ∀ g a b, g < 160 → hvk (rs g) (rs g).length a b → ow a b = g + 1 ∨ (¬ D g ∧ ∃ g2, g2 < 160 ∧ D g2 ∧ hvk (Rf g2) (Rf g2).length a b)
theorem Bt.start (w : Wf rs ow) : Bt rs ow (fun _ => False) Rf := ⟨w.snd, fun _ _ z => z.elim, fun g a b hg h => Or.inl ((w.1 a b g).mpr ⟨hg, h⟩)⟩
theorem Bt.step (h : Bt rs ow D Rf) (dj : Dj Rf) {f : Nat} (hf : f < 160) {ys : List Nat} (e : ys = Rf f) : Bt (upr rs f ys) (rshT f (rs f) ys ow) (fun g => D g ∨ g = f) Rf := by
  subst e
  obtain ⟨h1, h2, h3⟩ := h
  refine ⟨snd_rsh h1 hf, fun g hg hd => ?_, fun g a b hg hv => ?_⟩
  · unfold upr
    by_cases e : g = f
    · rw [if_pos e, e]
    · rw [if_neg e]
      exact h2 g hg (hd.elim id (fun z => absurd z e))
  · obtain ⟨r1, r2, r3⟩ := rsh_at h1 (f := f) (ys := Rf f) a b
    unfold upr at hv
    by_cases e : g = f
    · rw [if_pos e] at hv
      exact Or.inl (by rw [r1 hv, e])
    · rw [if_neg e] at hv
      by_cases n : hvk (Rf f) (Rf f).length a b
      · refine Or.inr ⟨fun hd => ?_, f, hf, Or.inr rfl, n⟩
        rcases hd with hd | hd
        · rw [h2 g hg hd] at hv
          exact e (dj g f a b hg hf hv n)
        · exact e hd
      · rcases h3 g a b hg hv with q | ⟨q1, g2, q2, q3, q4⟩
        · exact Or.inl (by rw [r3 n (by omega)]; exact q)
        · exact Or.inr ⟨fun hd => hd.elim q1 e, g2, q2, Or.inl q3, q4⟩
theorem Bt.mono {D2 : Nat → Prop} (h : Bt rs ow D Rf) (e : ∀ g, g < 160 → (D g ↔ D2 g)) : Bt rs ow D2 Rf := by
  refine ⟨h.1, fun g hg hd => h.2.1 g hg ((e g hg).mpr hd), fun g a b hg hv => ?_⟩
  rcases h.2.2 g a b hg hv with q | ⟨q1, g2, q2, q3, q4⟩
  · exact Or.inl q
  · exact Or.inr ⟨fun z => q1 ((e g hg).mpr z), g2, q2, (e g2 q2).mp q3, q4⟩
/-- all there: the owners are right -/
theorem Bt.fin (h : Bt rs ow D Rf) (dj : Dj Rf) (hr : ∀ g, g < 160 → ¬ D g → rs g = Rf g) (hd : ∀ f i j, f < 160 → i < (Rf f).length → j < (Rf f).length → gn (Rf f) i = gn (Rf f) j → i = j) : Wf rs ow := by
  obtain ⟨h1, h2, h3⟩ := h
  have all : ∀ g, g < 160 → rs g = Rf g := fun g hg => by
    by_cases e : D g
    · exact h2 g hg e
    · exact hr g hg e
  refine ⟨fun a b f => ⟨fun e => h1 a b f e, fun ⟨hf, hv⟩ => ?_⟩, fun f i j hf hi hj e => ?_⟩
  · rcases h3 f a b hf hv with q | ⟨q1, g2, q2, q3, q4⟩
    · exact q
    · rw [all f hf] at hv
      have := dj f g2 a b hf q2 hv q4
      subst this
      exact absurd q3 q1
  · rw [all f hf] at hi hj e
    exact hd f i j hf hi hj e
/-- one ring newly made or changed: its halves are nobody else's -/
theorem wf_one (w : Wf rs ow) {f : Nat} (hf : f < 160) {ys : List Nat} (hn : ∀ i j, i < ys.length → j < ys.length → gn ys i = gn ys j → i = j) (hv : ∀ a b, hvk ys ys.length a b → ow a b = 0 ∨ ow a b = f + 1) : Wf (upr rs f ys) (rshT f (rs f) ys ow) := by
  have dj : Dj (upr rs f ys) := by
    intro g g2 a b hg hg2 h1 h2
    unfold upr at h1 h2
    by_cases e : g = f
    · by_cases e2 : g2 = f
      · rw [e, e2]
      · rw [if_pos e] at h1
        rw [if_neg e2] at h2
        have q := (w.1 a b g2).mpr ⟨hg2, h2⟩
        rcases hv a b h1 with z | z <;> omega
    · rw [if_neg e] at h1
      have q := (w.1 a b g).mpr ⟨hg, h1⟩
      by_cases e2 : g2 = f
      · rw [if_pos e2] at h2
        rcases hv a b h2 with z | z <;> omega
      · rw [if_neg e2] at h2
        have q2 := (w.1 a b g2).mpr ⟨hg2, h2⟩
        omega
  refine ((Bt.start (Rf := upr rs f ys) w).step dj hf (by unfold upr; rw [if_pos rfl])).fin dj (fun g hg hd => rfl) (fun g i j hg hi hj e => ?_)
  unfold upr at hi hj e
  by_cases eg : g = f
  · rw [if_pos eg] at hi hj e
    exact hn i j hi hj e
  · rw [if_neg eg] at hi hj e
    exact w.2 g i j hg hi hj e
theorem wf_drop (w : Wf rs ow) {f : Nat} (hf : f < 160) : Wf (upr rs f []) (relT f (rs f) ow (rs f).length) :=
  wf_one w hf (ys := []) (fun i j hi => absurd hi (Nat.not_lt_zero _)) (fun a b ⟨i, hi, _⟩ => absurd hi (Nat.not_lt_zero _))
end
