section
variable {rs : Nat → List Nat} {ow : Nat → Nat → Nat}
theorem hIn_no {n1 f : Nat} {s : Nat × (Nat → Nat → Nat)} : ∀ i, (∀ j, j < i → ¬ opn ow (gn (rs f) (j + 1)) (gn (rs f) j)) → hIn rs ow n1 f i s = s := by
  intro i
  induction i with
  | zero => intro _; rfl
  | succ i ih =>
    intro h
    have h2 := ih (fun j hj => h j (by omega))
    unfold hIn
    have e : ∀ g, mhO rs ow n1 (gn (rs f) (i + 1)) (gn (rs f) i) g = (0, g) := by
      intro g
      unfold mhO
      rw [if_neg (h i (by omega))]
    rw [e, h2]
    rfl
theorem ok_own (o : Ok rs ow) {f i : Nat} (hf : f < 160) (hi : i < (rs f).length) : ow (gn (rs f) i) (gn (rs f) (i + 1)) = f + 1 := (o.1.1 _ _ _).mpr ⟨hf, i, hi, rfl, rfl⟩
theorem fill_all (o : Ok rs ow) {u v F L now : Nat} {rs2 : Nat → List Nat} {ow2 : Nat → Nat → Nat} (hF : F < 160) (hh : hO ow (u, v)) (hL : 0 < L) (hc : cy rs ow u v L = (u, v)) (fl : Filled rs ow u v F rs2 ow2) (hnow : now ≠ 0) : ∀ f, f ≤ F → Rs rs ow u v now (hAll rs ow now f (0, fun _ _ => 0)) (hAll rs2 ow2 now f (0, fun _ _ => 0)) := by
  intro f
  induction f with
  | zero =>
    intro _
    exact ⟨fun a b _ _ => ⟨fun z => absurd z.symm hnow, fun z => absurd z.1.symm hnow⟩, fun z => absurd z.symm hnow, fun _ => rfl⟩
  | succ f ih =>
    intro hf
    have r := ih (by omega)
    have hi := (ok_hiA o (HI.start (rs := rs) (ow := ow) hnow) f (by omega)).1
    unfold hAll
    rw [fl.2.2 f (by omega)]
    generalize hAll rs ow now f (0, fun _ _ => 0) = s at r hi ⊢
    generalize hAll rs2 ow2 now f (0, fun _ _ => 0) = t at r ⊢
    have inner : ∀ i, i ≤ (rs f).length → Rs rs ow u v now (hIn rs ow now f i s) (hIn rs2 ow2 now f i t) := by
      intro i
      induction i with
      | zero => intro _; exact r
      | succ i ih2 =>
        intro hi2
        have r2 := ih2 (by omega)
        have h3 := (ok_hiF o (f := f) (by omega) hi i (by omega)).1
        have e : hIn rs2 ow2 now f (i + 1) t = ((hIn rs2 ow2 now f i t).1 + (if (mhO rs2 ow2 now (gn (rs f) (i + 1)) (gn (rs f) i) (hIn rs2 ow2 now f i t).2).1 = 0 then 0 else 1), (mhO rs2 ow2 now (gn (rs f) (i + 1)) (gn (rs f) i) (hIn rs2 ow2 now f i t).2).2) := by
          have e0 : hIn rs2 ow2 now f (i + 1) t = ((hIn rs2 ow2 now f i t).1 + (if (mhO rs2 ow2 now (gn (rs2 f) (i + 1)) (gn (rs2 f) i) (hIn rs2 ow2 now f i t).2).1 = 0 then 0 else 1), (mhO rs2 ow2 now (gn (rs2 f) (i + 1)) (gn (rs2 f) i) (hIn rs2 ow2 now f i t).2).2) := rfl
          rw [e0, fl.2.2 f (by omega)]
        rw [e]
        have e1 : hIn rs ow now f (i + 1) s = ((hIn rs ow now f i s).1 + (if (mhO rs ow now (gn (rs f) (i + 1)) (gn (rs f) i) (hIn rs ow now f i s).2).1 = 0 then 0 else 1), (mhO rs ow now (gn (rs f) (i + 1)) (gn (rs f) i) (hIn rs ow now f i s).2).2) := rfl
        rw [e1]
        exact fill_step o hh hL hc fl (o.2.1 f _ (by omega) (gn_mem (by omega))) (o.2.1 f _ (by omega) (gn_mem (by omega))) (by rw [ok_own o (by omega) (by omega)]; omega) h3.1 r2
    exact inner _ (Nat.le_refl _)
/-- filling takes one hole away -/
theorem fill_holes (o : Ok rs ow) {u v F : Nat} {rs2 : Nat → List Nat} {ow2 : Nat → Nat → Nat} (hF : F < 160) (he : ∀ f, F ≤ f → f < 160 → rs f = []) (hh : hO ow (u, v)) (fl : Filled rs ow u v F rs2 ow2) (hy : ∀ i, i < (rs2 F).length → inO rs ow u v (gn (rs2 F) i, gn (rs2 F) (i + 1))) : hC rs ow F = hC rs2 ow2 (F + 1) + 1 := by
  obtain ⟨w1, w2, w3⟩ := ok_walk o hh (HI.start (rs := rs) (ow := ow) (now := 1) (by decide)).1 (show (0 : Nat) ≠ 1 by decide)
  have r := fill_all o hF hh (show 0 < (mh rs ow 1 1920 u v (0, fun _ _ => 0).2).1 by omega) w1 fl (now := 1) (by decide) F (Nat.le_refl _)
  have h3 := (ok_hiA o (HI.start (rs := rs) (ow := ow) (now := 1) (by decide)) F (by omega)).2.2
  have hne : ow v u ≠ 0 := hh.2.2.2
  have e2 : ow v u = (ow v u - 1) + 1 := by omega
  obtain ⟨hf2, i, hi, e3, e4⟩ := (o.1.1 _ _ _).mp e2
  have hlt : ow v u - 1 < F := by
    apply Classical.byContradiction
    intro q
    have := he _ (by omega) hf2
    rw [this] at hi
    exact absurd hi (Nat.not_lt_zero _)
  have hm := h3 _ i hlt hi (by rw [e3, e4]; exact hh.2.2)
  rw [e3, e4] at hm
  have e5 := r.2.1 hm
  have e6 : hC rs2 ow2 (F + 1) = (hAll rs2 ow2 1 F (0, fun _ _ => 0)).1 := by
    show (hIn rs2 ow2 1 F (rs2 F).length (hAll rs2 ow2 1 F (0, fun _ _ => 0))).1 = _
    rw [hIn_no]
    intro j hj z
    obtain ⟨k, ek⟩ := hy j hj
    have h1 := cy_o (ok_nx o) hh k
    rw [ek] at h1
    have z1 : ow2 (gn (rs2 F) (j + 1)) (gn (rs2 F) j) = 0 := z.1
    have z2 : ow (gn (rs2 F) (j + 1)) (gn (rs2 F) j) ≠ 0 := h1.2.2.2
    have hno : ¬ inO rs ow u v (gn (rs2 F) (j + 1), gn (rs2 F) j) := by
      rintro ⟨m, em⟩
      have h4 := (cy_o (ok_nx o) hh m).2.2.1
      rw [em] at h4
      exact z2 h4
    rw [(fl.1 _ _).2 hno] at z1
    exact z2 z1
  rw [e6]
  exact e5
/-- holes with a face let go are those with the face gone -/
theorem drop_holes {rs2 : Nat → List Nat} (n : NX rs ow) (hp : ∀ f p, f < 160 → p ∈ rs f → p < 100) {fe : Nat} (hf : fe ≤ 160) (hx : ∀ u v, u < 100 → v < 100 → opn ow u v → nx rs ow u v = nx rs2 ow u v) (he : ∀ f, f < fe → rs2 f = rs f ∨ (rs2 f = [] ∧ ∀ i, i < (rs f).length → ow (gn (rs f) i) (gn (rs f) (i + 1)) = 0)) : hC rs ow fe = hC rs2 ow fe :=
  (hAll_same n hx hp rfl (fun _ _ _ _ => Iff.rfl) fe hf he).1
end
