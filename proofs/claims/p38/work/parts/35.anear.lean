/-- a coordinate within reach -/
def nr (x : Int32) : Prop := ¬ x < -500 ∧ ¬ 500 < x
theorem lgl {x : Int64} {y : Int64} : (lg_cmp x y < 0 ↔ x.toInt < y.toInt) ∧ (0 < lg_cmp x y ↔ y.toInt < x.toInt) := by
  unfold lg_cmp
  by_cases h1 : x > y
  · have e : y.toInt < x.toInt := Int64.lt_iff_toInt_lt.mp h1
    rw [if_pos h1]
    exact ⟨⟨fun z => absurd z (by decide), fun z => absurd z (by omega)⟩, ⟨fun _ => e, fun _ => by decide⟩⟩
  · have e : ¬ y.toInt < x.toInt := fun z => h1 (Int64.lt_iff_toInt_lt.mpr z)
    rw [if_neg h1]
    by_cases h2 : x = y
    · rw [if_pos h2]
      subst h2
      exact ⟨⟨fun z => absurd z (by decide), fun z => absurd z (by omega)⟩, ⟨fun z => absurd z (by decide), fun z => absurd z (by omega)⟩⟩
    · rw [if_neg h2]
      have e2 : x.toInt ≠ y.toInt := fun z => h2 (Int64.toInt_inj.mp z)
      exact ⟨⟨fun _ => by omega, fun _ => by decide⟩, ⟨fun z => absurd z (by decide), fun z => absurd z (by omega)⟩⟩
theorem t_reach {M : Mm} {x : Int32} {Q : Int32 → Prop} (q1 : nr x → Q 1) (q0 : ¬ nr x → Q 0) : T_X8_isInReach M x.toInt64 Q := by
  unfold T_X8_isInReach
  have ex : x.toInt64.toInt = x.toInt := Int32.toInt_toInt64 x
  have a1 : (-500 : Int64).toInt = -500 := by decide
  have a2 : (500 : Int64).toInt = 500 := by decide
  have b1 : (-500 : Int32).toInt = -500 := by decide
  have b2 : (500 : Int32).toInt = 500 := by decide
  have c1 : lg_cmp x.toInt64 (-500) < 0 ↔ x < -500 := by rw [lgl.1, ex, a1, Int32.lt_iff_toInt_lt, b1]
  have c2 : 0 < lg_cmp x.toInt64 500 ↔ 500 < x := by rw [lgl.2, ex, a2, Int32.lt_iff_toInt_lt, b2]
  rw [c1, c2]
  exact ⟨fun z => q0 (fun n => n.1 z), fun z => ⟨fun w => q0 (fun n => n.2 w), fun w => q1 ⟨z, w⟩⟩⟩
section
variable {A : Nat → Nat} {M : Mm} {Cc Zz : Nat}
theorem na0 {Q : Mm → Prop} {X : String → Mm → Prop} (hc : 1 ≤ Cc) (hz : 6 ≤ Zz) (hx : X "java/lang/IllegalArgumentException" M) : T_X8_needArgument Cc Zz M 0 Q X := by
  unfold T_X8_needArgument
  exact ⟨fun z => absurd rfl z, fun _ => ⟨by omega, by omega, hx⟩⟩
theorem na1 {Q : Mm → Prop} {X : String → Mm → Prop} (q : Q M) : T_X8_needArgument Cc Zz M 1 Q X := by
  unfold T_X8_needArgument
  exact ⟨fun _ => ⟨by omega, by omega, q⟩, fun z => absurd z (by decide)⟩
theorem ns1 {Q : Mm → Prop} {X : String → Mm → Prop} (q : Q M) : T_X8_needState Cc Zz M 1 Q X := by
  unfold T_X8_needState
  exact ⟨fun _ => ⟨by omega, by omega, q⟩, fun z => absurd z (by decide)⟩
theorem n_needPlace {x y z : Int32} {Q : Mm → Prop} {X : String → Mm → Prop} (hc : 1 ≤ Cc) (hz : 6 ≤ Zz) (q1 : nr x ∧ nr y ∧ nr z → Q M) (q0 : ¬ (nr x ∧ nr y ∧ nr z) → X "java/lang/IllegalArgumentException" M) : T_X8_needPlace Cc Zz M x y z Q X := by
  unfold T_X8_needPlace
  intro K hK
  have k0 : ¬ (nr x ∧ nr y ∧ nr z) → K M 0 0 := fun n => hK _ _ _ ⟨1, 6, ⟨by omega, by omega⟩, na0 (by omega) (by omega) (q0 n)⟩
  refine ⟨⟨by omega, by omega⟩, t_reach (fun a => ⟨fun z => absurd z (by decide), fun _ => ⟨⟨by omega, by omega⟩, t_reach (fun b => ⟨fun z => absurd z (by decide), fun _ => ⟨⟨by omega, by omega⟩, t_reach (fun c => ⟨fun z => absurd z (by decide), fun _ => ⟨1, 6, ⟨by omega, by omega⟩, na1 ⟨by omega, by omega, q1 ⟨a, b, c⟩⟩⟩⟩) (fun c => ⟨fun _ => k0 (fun n => c n.2.2), fun z => absurd rfl z⟩)⟩⟩) (fun b => ⟨fun _ => k0 (fun n => b n.2.1), fun z => absurd rfl z⟩)⟩⟩) (fun a => ⟨fun _ => k0 (fun n => a n.1), fun z => absurd rfl z⟩)⟩
theorem t_forget (hS : Sh A M) {Q : Mm → Prop} (q : ∀ M', Ch (In A (fun l => l = 15)) M M' → Q M') : T_X7_forgetFaces M (A 14) Q := by
  unfold T_X7_forgetFaces
  intro K hK
  have e160 : (160 : Int32) = nI 160 := rfl
  have key : ∀ d k M', d + k = 160 → Ch (In A (fun l => l = 15)) M M' → K (A 14) (nI k) M' := by
    intro d
    induction d with
    | zero =>
      intro k M' hd c
      have : k = 160 := by omega
      subst this
      exact hK _ _ _ ⟨fun _ => q M' c, fun z => absurd (by rw [e160]; exact nI_le (Nat.le_refl _) (by omega)) z⟩
    | succ d ih =>
      intro k M' hd c
      have s' := hS.go c
      refine hK _ _ _ ⟨fun z => absurd z (by rw [e160]; exact nI_ge (by omega) (by omega)), fun _ => ⟨s'.k 14, A 15, s'.r 14 2 15, 160, s'.k 15, vp_in_nI (by omega) (by omega), ?_⟩⟩
      rw [nI_1]
      exact ih (k + 1) _ (by omega) (c.t (Ch.one (by omega)))
  have := key 160 0 M rfl Ch.rf
  rw [nI_0] at this
  exact this
end
