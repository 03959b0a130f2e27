section
variable {rs : Nat → List Nat} {ow : Nat → Nat → Nat}
def Ok (rs : Nat → List Nat) (ow : Nat → Nat → Nat) : Prop := Wf rs ow ∧ (∀ f p, f < 160 → p ∈ rs f → p < 100) ∧ ∀ f, f < 160 → (rs f).length ≤ 12
theorem ok_nx (o : Ok rs ow) : NX rs ow := wf_NX o.1 o.2.1
theorem ok_step (o : Ok rs ow) {h g : Nat × Nat} (h1 : hO ow h) (h2 : hO ow g) (e : (h.2, nx rs ow h.1 h.2) = (g.2, nx rs ow g.1 g.2)) : h = g := by
  have e1 : h.2 = g.2 := congrArg Prod.fst e
  have e2 : nx rs ow h.1 h.2 = nx rs ow g.1 g.2 := congrArg Prod.snd e
  have h2' := h2.2.2
  rw [← e1] at e2 h2'
  have := wf_nxinj o.1 o.2.1 h1.1 h2.1 h1.2.1 h1.2.2 h2' e2
  exact Prod.ext this e1
/-- an open half's number: the face and the place of its other way round -/
def cod (rs : Nat → List Nat) (ow : Nat → Nat → Nat) (h : Nat × Nat) : Nat := (ow h.2 h.1 - 1) * 12 + pl (rs (ow h.2 h.1 - 1)) h.2
theorem ok_cod (o : Ok rs ow) {h : Nat × Nat} (h1 : hO ow h) : ∃ f i, f < 160 ∧ i < 12 ∧ cod rs ow h = f * 12 + i ∧ h = (gn (rs f) (i + 1), gn (rs f) i) := by
  have hne := h1.2.2.2
  have e : ow h.2 h.1 = (ow h.2 h.1 - 1) + 1 := by omega
  obtain ⟨hf, i, hi, e1, e2⟩ := (o.1.1 _ _ _).mp e
  have hp := o.1.place hf hi
  rw [e1] at hp
  refine ⟨ow h.2 h.1 - 1, i, hf, ?_, ?_, ?_⟩
  · have := o.2.2 _ hf; omega
  · unfold cod; rw [hp]
  · exact Prod.ext e2.symm e1.symm
theorem ok_cod_inj (o : Ok rs ow) {h g : Nat × Nat} (h1 : hO ow h) (h2 : hO ow g) (e : cod rs ow h = cod rs ow g) : h = g := by
  obtain ⟨f, i, hf, hi, e1, e2⟩ := ok_cod o h1
  obtain ⟨f2, i2, hf2, hi2, e3, e4⟩ := ok_cod o h2
  have : f = f2 ∧ i = i2 := by omega
  rw [e2, e4, this.1, this.2]
/-- marks that one can go back from -/
def BK (rs : Nat → List Nat) (ow : Nat → Nat → Nat) (now : Nat) (g : Nat → Nat → Nat) : Prop := ∀ h, hO ow h → g h.2 (nx rs ow h.1 h.2) = now → g h.1 h.2 = now
theorem ok_walk (o : Ok rs ow) {now u v : Nat} {g : Nat → Nat → Nat} (ho : hO ow (u, v)) (hb : BK rs ow now g) (hg : g u v ≠ now) : cy rs ow u v (mh rs ow now 1920 u v g).1 = (u, v) ∧ BK rs ow now (mh rs ow now 1920 u v g).2 ∧ 3 ≤ (mh rs ow now 1920 u v g).1 := by
  obtain ⟨a1, a2, a3, a4⟩ := mh_at (rs := rs) (ow := ow) now 1920 u v g
  have hle := mh_le rs ow now 1920 u v g
  have hO' := cy_o (ok_nx o) ho
  generalize hr : mh rs ow now 1920 u v g = r at *
  have hpos : 0 < r.1 := by
    rw [← hr]
    unfold mh
    rw [if_neg hg]
    exact Nat.succ_pos _
  have hend : r.2 (cy rs ow u v r.1).1 (cy rs ow u v r.1).2 = now := by
    by_cases e : r.1 < 1920
    · exact a4 e
    · have e : r.1 = 1920 := by omega
      rw [e] at a1 a3 ⊢
      by_cases hall : ∀ i, i < 1920 → cy rs ow u v i ≠ cy rs ow u v 1920
      · refine (pig 1920 (fun k => cod rs ow (cy rs ow u v k)) (fun i j hij hj => ?_) (fun i hi => ?_)).elim
        · intro z
          have z2 := ok_cod_inj o (hO' i) (hO' j) z
          by_cases q : j = 1920
          · rw [q] at z2; exact hall i (by omega) z2
          · exact a3 i j hij (by omega) z2
        · obtain ⟨f, i2, hf, hi2, e1, _⟩ := ok_cod o (hO' i)
          show cod rs ow (cy rs ow u v i) < 1920
          omega
      · have : ∃ i, i < 1920 ∧ cy rs ow u v i = cy rs ow u v 1920 := by
          apply Classical.byContradiction
          intro q
          exact hall (fun i hi z => q ⟨i, hi, z⟩)
        obtain ⟨i, hi, z⟩ := this
        exact (a1 _ _).mpr (Or.inr ⟨i, hi, z⟩)
  obtain ⟨m, hm⟩ : ∃ m, r.1 = m + 1 := ⟨r.1 - 1, by omega⟩
  have hclose : cy rs ow u v r.1 = (u, v) := by
    rcases (a1 _ _).mp hend with h | ⟨j, hj, ej⟩
    · rw [hm] at h
      exact absurd (hb _ (hO' m) h) (a2 m (by omega))
    · have ej : cy rs ow u v j = cy rs ow u v r.1 := ej
      cases j with
      | zero => exact ej.symm
      | succ j =>
        rw [hm] at ej
        have := ok_step o (hO' j) (hO' m) ej
        exact absurd this (a3 j m (by omega) (by omega))
  refine ⟨hclose, fun h hh hn => ?_, ?_⟩
  · rcases (a1 _ _).mp hn with q | ⟨j, hj, ej⟩
    · exact (a1 _ _).mpr (Or.inl (hb h hh q))
    · cases j with
      | zero =>
        have e2 : cy rs ow u v (m + 1) = (h.2, nx rs ow h.1 h.2) := by rw [← hm, hclose]; exact ej
        have := ok_step o (hO' m) hh e2
        exact (a1 _ _).mpr (Or.inr ⟨m, by omega, this⟩)
      | succ j =>
        have := ok_step o (hO' j) hh ej
        exact (a1 _ _).mpr (Or.inr ⟨j, by omega, this⟩)
  · have n1 : r.1 ≠ 1 := by
      intro e
      rw [e] at hclose
      have e1 : v = u := congrArg Prod.fst hclose
      have h1 := ho.2.2.1
      have h2 := ho.2.2.2
      have h1 : ow u v = 0 := h1
      have h2 : ow v u ≠ 0 := h2
      rw [e1] at h1 h2
      exact h2 h1
    have n2 : r.1 ≠ 2 := by
      intro e
      rw [e] at hclose
      have e1 : nx rs ow u v = u := congrArg Prod.fst hclose
      have h1 := (hO' 1).2.2.1
      have h1 : ow v (nx rs ow u v) = 0 := h1
      have h2 : ow v u ≠ 0 := ho.2.2.2
      rw [e1] at h1
      exact h2 h1
    omega
/-- what holds of holes counted and of marks -/
def HI (rs : Nat → List Nat) (ow : Nat → Nat → Nat) (now : Nat) (s : Nat × (Nat → Nat → Nat)) : Prop :=
  BK rs ow now s.2 ∧ (∀ a b, a < 100 → b < 100 → s.2 a b = now → opn ow a b) ∧ 3 * s.1 ≤ cntP (fun a b => s.2 a b = now) ∧ (∀ a b, a < 100 → b < 100 → s.2 a b = now → 0 < s.1)
theorem ok_hi (o : Ok rs ow) {now f i : Nat} {s : Nat × (Nat → Nat → Nat)} (hf : f < 160) (h : HI rs ow now (hIn rs ow now f i s)) (hi : i < (rs f).length) : HI rs ow now (hIn rs ow now f (i + 1) s) ∧ (∀ a b, (hIn rs ow now f i s).2 a b = now → (hIn rs ow now f (i + 1) s).2 a b = now) ∧ (opn ow (gn (rs f) (i + 1)) (gn (rs f) i) → (hIn rs ow now f (i + 1) s).2 (gn (rs f) (i + 1)) (gn (rs f) i) = now) := by
  rw [show hIn rs ow now f (i + 1) s = ((hIn rs ow now f i s).1 + (if (mhO rs ow now (gn (rs f) (i + 1)) (gn (rs f) i) (hIn rs ow now f i s).2).1 = 0 then 0 else 1), (mhO rs ow now (gn (rs f) (i + 1)) (gn (rs f) i) (hIn rs ow now f i s).2).2) from rfl]
  generalize hIn rs ow now f i s = t at h ⊢
  have hu := o.2.1 f _ hf (gn_mem (xs := rs f) (p := i + 1) (by omega))
  have hv := o.2.1 f _ hf (gn_mem (xs := rs f) (p := i) (by omega))
  generalize gn (rs f) (i + 1) = u at hu ⊢
  generalize gn (rs f) i = v at hv ⊢
  obtain ⟨h1, h2, h3, h4⟩ := h
  unfold mhO
  by_cases e : opn ow u v
  · rw [if_pos e]
    have ho : hO ow (u, v) := ⟨hu, hv, e⟩
    obtain ⟨a1, a2, a3, a4⟩ := mh_at (rs := rs) (ow := ow) now 1920 u v t.2
    have hc := mh_cnt (ok_nx o) now 1920 u v t.2 ho
    by_cases q : t.2 u v = now
    · have e0 : mh rs ow now 1920 u v t.2 = (0, t.2) := by unfold mh; rw [if_pos q]
      rw [e0]
      exact ⟨⟨h1, h2, h3, h4⟩, fun a b z => z, fun _ => q⟩
    · obtain ⟨w1, w2, w3⟩ := ok_walk o ho h1 q
      refine ⟨⟨w2, fun a b ha hb z => ?_, ?_, fun a b ha hb z => ?_⟩, fun a b z => (a1 a b).mpr (Or.inl z), fun _ => (a1 u v).mpr (Or.inr ⟨0, by omega, rfl⟩)⟩
      · rcases (a1 a b).mp z with z | ⟨j, hj, ej⟩
        · exact h2 a b ha hb z
        · have := (cy_o (ok_nx o) ho j).2.2
          rw [ej] at this
          exact this
      · show 3 * (t.1 + _) ≤ cntP (fun a b => (mh rs ow now 1920 u v t.2).2 a b = now)
        rw [hc, if_neg (by omega)]
        omega
      · show 0 < t.1 + _
        rw [if_neg (by omega)]
        omega
  · rw [if_neg e]
    exact ⟨⟨h1, h2, h3, h4⟩, fun a b z => z, fun z => absurd z e⟩
theorem ok_hiF (o : Ok rs ow) {now f : Nat} {s : Nat × (Nat → Nat → Nat)} (hf : f < 160) (h : HI rs ow now s) : ∀ i, i ≤ (rs f).length → HI rs ow now (hIn rs ow now f i s) ∧ (∀ a b, s.2 a b = now → (hIn rs ow now f i s).2 a b = now) ∧ ∀ j, j < i → opn ow (gn (rs f) (j + 1)) (gn (rs f) j) → (hIn rs ow now f i s).2 (gn (rs f) (j + 1)) (gn (rs f) j) = now := by
  intro i
  induction i with
  | zero => intro _; exact ⟨h, fun _ _ z => z, fun j hj => absurd hj (Nat.not_lt_zero _)⟩
  | succ i ih =>
    intro hi
    obtain ⟨h1, h2, h3⟩ := ih (by omega)
    obtain ⟨g1, g2, g3⟩ := ok_hi o hf h1 (by omega)
    refine ⟨g1, fun a b z => g2 a b (h2 a b z), fun j hj ho => ?_⟩
    by_cases e : j = i
    · subst e; exact g3 ho
    · exact g2 _ _ (h3 j (by omega) ho)
theorem ok_hiA (o : Ok rs ow) {now : Nat} {s : Nat × (Nat → Nat → Nat)} (h : HI rs ow now s) : ∀ fe, fe ≤ 160 → HI rs ow now (hAll rs ow now fe s) ∧ (∀ a b, s.2 a b = now → (hAll rs ow now fe s).2 a b = now) ∧ ∀ f j, f < fe → j < (rs f).length → opn ow (gn (rs f) (j + 1)) (gn (rs f) j) → (hAll rs ow now fe s).2 (gn (rs f) (j + 1)) (gn (rs f) j) = now := by
  intro fe
  induction fe with
  | zero => intro _; exact ⟨h, fun _ _ z => z, fun f j hf => absurd hf (Nat.not_lt_zero _)⟩
  | succ f ih =>
    intro hf
    obtain ⟨h1, h2, h3⟩ := ih (by omega)
    obtain ⟨g1, g2, g3⟩ := ok_hiF o (f := f) (by omega) h1 _ (Nat.le_refl _)
    refine ⟨g1, fun a b z => g2 a b (h2 a b z), fun f2 j hf2 hj ho => ?_⟩
    by_cases e : f2 = f
    · subst e; exact g3 j hj ho
    · exact g2 _ _ (h3 f2 j (by omega) hj ho)
theorem HI.start {now : Nat} (h : now ≠ 0) : HI rs ow now (0, fun _ _ => 0) := ⟨fun _ _ z => absurd z.symm h, fun _ _ _ _ z => absurd z.symm h, Nat.zero_le _, fun _ _ _ _ z => absurd z.symm h⟩
/-- three open halves a hole, at the least; no hole just if there is no open half -/
theorem ok_holes (o : Ok rs ow) {fe : Nat} (hf : fe ≤ 160) (he : ∀ f, fe ≤ f → f < 160 → rs f = []) : 3 * hC rs ow fe ≤ cntP (fun a b => opn ow a b) ∧ (hC rs ow fe = 0 ↔ cntP (fun a b => opn ow a b) = 0) := by
  obtain ⟨⟨h1, h2, h3, h4⟩, _, h5⟩ := ok_hiA o (HI.start (rs := rs) (ow := ow) (now := 1) (by decide)) fe hf
  have hle : 3 * hC rs ow fe ≤ cntP (fun a b => opn ow a b) := Nat.le_trans h3 (cntP_mono (fun a b ha hb z => h2 a b ha hb z))
  refine ⟨hle, fun e => ?_, fun e => by omega⟩
  have key : ∀ (g : Nat → Nat) n, (∀ k, k < n → g k = 0) → sumN g n = 0 := by
    intro g n
    induction n with
    | zero => intro _; rfl
    | succ n ih =>
      intro h
      show sumN g n + g n = 0
      rw [ih (fun k hk => h k (by omega)), h n (by omega)]
  refine key _ _ (fun a ha => key _ _ (fun b hb => ?_))
  rw [if_neg]
  intro ho
  have hne := ho.2
  have e2 : ow b a = (ow b a - 1) + 1 := by omega
  obtain ⟨hf2, i, hi, e3, e4⟩ := (o.1.1 _ _ _).mp e2
  have hlt : ow b a - 1 < fe := by
    apply Classical.byContradiction
    intro q
    have := he _ (by omega) hf2
    rw [this] at hi
    exact absurd hi (Nat.not_lt_zero _)
  have := h5 _ i hlt hi (by rw [e3, e4]; exact ho)
  rw [e3, e4] at this
  have := h4 a b ha hb this
  unfold hC at e
  omega
/-- a hole has three halves at the least -/
theorem ok_hole (o : Ok rs ow) {u v : Nat} (hu : u < 100) (hv : v < 100) : (opn ow u v → 3 ≤ hL rs ow u v) ∧ (¬ opn ow u v → hL rs ow u v = 0) := by
  unfold hL mhO
  refine ⟨fun e => ?_, fun e => ?_⟩
  · rw [if_pos e]
    exact (ok_walk o ⟨hu, hv, e⟩ (HI.start (rs := rs) (ow := ow) (now := 1) (by decide)).1 (show (0 : Nat) ≠ 1 by decide)).2.2
  · rw [if_neg e]
end
