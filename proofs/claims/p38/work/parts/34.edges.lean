section
theorem sum_swap (g : Nat → Nat → Nat) (n : Nat) : ∀ m, sumN (fun a => sumN (fun b => g a b) n) m = sumN (fun b => sumN (fun a => g a b) m) n := by
  intro m
  induction m with
  | zero => exact (sumN_0 (fun _ _ => rfl)).symm
  | succ m ih =>
    show sumN (fun a => sumN (fun b => g a b) n) m + sumN (fun b => g m b) n = _
    rw [ih, ← sumN_add]
    rfl
theorem sumP_swap {P : Nat → Nat → Prop} [∀ a b, Decidable (P a b)] (φ : Nat → Nat → Nat) : sumP P φ = sumP (fun a b => P b a) (fun a b => φ b a) := sum_swap (fun a b => if P a b then φ a b else 0) 100 100
theorem sumP_add {P : Nat → Nat → Prop} [∀ a b, Decidable (P a b)] (φ ψ : Nat → Nat → Nat) : sumP P (fun a b => φ a b + ψ a b) = sumP P φ + sumP P ψ := by
  unfold sumP
  rw [← sumN_add]
  refine sumN_same (fun a ha => ?_)
  rw [← sumN_add]
  refine sumN_same (fun b hb => ?_)
  by_cases e : P a b
  · rw [if_pos e, if_pos e, if_pos e]
  · rw [if_neg e, if_neg e, if_neg e]
variable {rs : Nat → List Nat} {ow : Nat → Nat → Nat}
/-- the edges, counted as pairs in order -/
def eP (ow : Nat → Nat → Nat) : Nat := sumP (fun a b => a < b ∧ (ow a b ≠ 0 ∨ ow b a ≠ 0)) (fun _ _ => 1)
theorem eC_eP (o : Ok rs ow) (hnl : ∀ a, ow a a = 0) {fe : Nat} (hf : fe ≤ 160) (he : ∀ f, fe ≤ f → f < 160 → rs f = []) : eC rs ow fe = eP ow := by
  have h1 : eC rs ow fe = sumP (fun a b => ow a b ≠ 0) (told ow) := sum_all o (told ow) hf he
  have h2 : sumP (fun a b => ow a b ≠ 0) (told ow) = sumP (fun a b => (a < b ∧ ow a b ≠ 0) ∨ (b < a ∧ ow a b ≠ 0 ∧ ow b a = 0)) (fun _ _ => 1) := by
    refine sumN_same (fun a ha => sumN_same (fun b hb => ?_))
    unfold told
    by_cases e : ow a b ≠ 0
    · rw [if_pos e]
      have : a ≠ b := fun q => e (by rw [q]; exact hnl b)
      by_cases g : a < b ∨ ow b a = 0
      · rw [if_pos g, if_pos (by omega)]
      · rw [if_neg g, if_neg (by omega)]
    · rw [if_neg e, if_neg (by omega)]
  have h3 : eP ow = sumP (fun a b => (a < b ∧ ow a b ≠ 0) ∨ (a < b ∧ ow a b = 0 ∧ ow b a ≠ 0)) (fun _ _ => 1) := sumP_same (fun a b _ _ => by omega) (fun _ _ _ _ _ => rfl)
  have h5 : sumP (fun a b => b < a ∧ ow a b ≠ 0 ∧ ow b a = 0) (fun _ _ => 1) = sumP (fun a b => a < b ∧ ow a b = 0 ∧ ow b a ≠ 0) (fun _ _ => 1) :=
    (sumP_swap (P := fun a b => b < a ∧ ow a b ≠ 0 ∧ ow b a = 0) (fun _ _ => 1)).trans (sumP_same (P := fun a b => a < b ∧ ow b a ≠ 0 ∧ ow a b = 0) (fun a b _ _ => by omega) (fun _ _ _ _ _ => rfl))
  rw [h1, h2, h3, sumP_or (fun a b z1 z2 => by omega), sumP_or (fun a b z1 z2 => by omega), h5]
theorem lenF_P (o : Ok rs ow) {fe : Nat} (hf : fe ≤ 160) (he : ∀ f, fe ≤ f → f < 160 → rs f = []) : lenF rs fe = sumP (fun a b => ow a b ≠ 0) (fun _ _ => 1) := by
  rw [← sum_all o (fun _ _ => 1) hf he]
  refine sumN_same (fun f _ => ?_)
  have : ∀ n, sumN (fun _ => 1) n = n := by
    intro n
    induction n with
    | zero => rfl
    | succ n ih => show sumN (fun _ => 1) n + 1 = n + 1; rw [ih]
  exact (this _).symm
/-- an edge has two halves, in faces or open -/
theorem edges2 (o : Ok rs ow) (hnl : ∀ a, ow a a = 0) {fe : Nat} (hf : fe ≤ 160) (he : ∀ f, fe ≤ f → f < 160 → rs f = []) : 2 * eC rs ow fe = lenF rs fe + cntP (fun a b => opn ow a b) := by
  rw [eC_eP o hnl hf he, lenF_P o hf he]
  have h1 : eP ow = sumP (fun a b => b < a ∧ (ow a b ≠ 0 ∨ ow b a ≠ 0)) (fun _ _ => 1) := by
    unfold eP
    rw [sumP_swap]
    exact sumP_same (fun a b _ _ => by omega) (fun _ _ _ _ _ => rfl)
  have h2 : eP ow + eP ow = sumP (fun a b => (a < b ∧ (ow a b ≠ 0 ∨ ow b a ≠ 0)) ∨ (b < a ∧ (ow a b ≠ 0 ∨ ow b a ≠ 0))) (fun _ _ => 1) := by
    rw [sumP_or (fun a b z1 z2 => by omega), ← h1]
    rfl
  have h3 : sumP (fun a b => ow a b ≠ 0) (fun _ _ => 1) + cntP (fun a b => opn ow a b) = sumP (fun a b => ow a b ≠ 0 ∨ opn ow a b) (fun _ _ => 1) := by
    rw [sumP_or (fun a b z1 z2 => z1 z2.1)]
    rfl
  rw [h3, Nat.two_mul, h2]
  refine sumP_same (fun a b _ _ => ?_) (fun _ _ _ _ _ => rfl)
  by_cases e : a = b
  · subst e
    have := hnl a
    constructor
    · intro z; omega
    · rintro (z | z)
      · exact absurd this z
      · exact absurd this z.2
  · constructor
    · intro z
      by_cases g : ow a b = 0
      · exact Or.inr ⟨g, by omega⟩
      · exact Or.inl g
    · rintro (z | z)
      · omega
      · have := z.2; omega
end
