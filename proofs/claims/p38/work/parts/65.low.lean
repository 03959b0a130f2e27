section
theorem and_nn (x : Int32) : ¬ (x &&& 2147483647) < 0 := by
  intro z
  rw [Int32.lt_iff_toInt_lt, show (0 : Int32).toInt = 0 by decide] at z
  have e : (x &&& 2147483647).toInt = (x.toBitVec &&& (2147483647 : Int32).toBitVec).toInt := rfl
  rw [e] at z
  have m : (x.toBitVec &&& (2147483647 : Int32).toBitVec).msb = decide ((x.toBitVec &&& (2147483647 : Int32).toBitVec).toInt < 0) := BitVec.msb_eq_toInt
  rw [decide_eq_true z, BitVec.msb_and, show (2147483647 : Int32).toBitVec.msb = false by decide, Bool.and_false] at m
  cases m
theorem l_below {M : Mm} {x : Int32} {n : Nat} {Q : Int32 → Prop} (h0 : 0 < n) (hn : n < 2 ^ 31) (q : ∀ j, j < n → Q (nI j)) : T_L_below M x (nI n) Q := by
  unfold T_L_below
  obtain ⟨j, hj, e⟩ := nI_of (and_nn x)
  refine ⟨nI_ne0 h0 hn, ?_⟩
  rw [e, pk_rem hj h0 hn]
  exact q _ (Nat.mod_lt _ h0)
theorem nI_dec {n : Nat} (h : 0 < n) : nI n - 1 = nI (n - 1) := by
  have := nI_pred (n - 1)
  rwa [show n - 1 + 1 = n by omega] at this
variable {A : Nat → Nat} {M M' : Mm} {B : Nat} {rs rs2 : Nat → List Nat} {ow ow2 : Nat → Nat → Nat} {th : Nat → Bool} {ps : Nat → Nat → Int32} {fe fl pe pl : Nat} {Cc Zz : Nat}
theorem a_at0 {i1 : Int32} {Q : Int32 → Mm → Prop} {X : String → Mm → Prop} (h : SD A M B rs ow th ps fe fl pe pl) (hc : 2 ≤ Cc) (hz : 12 ≤ Zz) (hX : (∀ p, p < 100 → i1 = nI p → th p = false) → X xIO M) (q : ∀ p, p < 100 → i1 = nI p → th p = true → Q (ps 0 p) M) : T_X8_at Cc Zz M (A 0) i1 0 Q X := by
  have := a_at (ax := 0) (Q := Q) (X := X) h (by omega) hc hz hX q
  rw [nI_0] at this
  exact this
theorem a_at2 {i1 : Int32} {Q : Int32 → Mm → Prop} {X : String → Mm → Prop} (h : SD A M B rs ow th ps fe fl pe pl) (hc : 2 ≤ Cc) (hz : 12 ≤ Zz) (hX : (∀ p, p < 100 → i1 = nI p → th p = false) → X xIO M) (q : ∀ p, p < 100 → i1 = nI p → th p = true → Q (ps 2 p) M) : T_X8_at Cc Zz M (A 0) i1 2 Q X := a_at (ax := 2) (Q := Q) (X := X) h (by omega) hc hz hX q
theorem hC_lt (h : SD A M B rs ow th ps fe fl pe pl) : hC rs ow fe < 2 ^ 31 := by
  have hfe := h.2.1.2.2.1
  have := hAll_le (ow := ow) h.1 hfe 1 (0, fun _ _ => 0)
  unfold hC
  have h2 : (hAll rs ow 1 fe (0, fun _ _ => 0)).1 ≤ 0 + fe * 12 := this
  omega
theorem eC_lt (h : SD A M B rs ow th ps fe fl pe pl) : eC rs ow fe ≤ 1920 := by
  have hfe := h.2.1.2.2.1
  have := eC_le (ow := ow) h.1 hfe
  omega
/-- how many points a face has, 0 without it -/
theorem l_size {f : Nat} {Q : Int32 → Mm → Prop} {X : String → Mm → Prop} (h : SD A M B rs ow th ps fe fl pe pl) (hf : f < 160) (hc : 1 ≤ Cc) (hz : 6 ≤ Zz) (q : Q (nI (rs f).length) M) : T_L_sizeOf Cc Zz M (A 0) (nI f) Q X := by
  unfold T_L_sizeOf
  refine ⟨1, 6, ⟨by omega, by omega⟩, h.sh.k 0, a_size h (by omega) (by omega) (fun n => ⟨rfl, by omega, by omega, ?_⟩) (fun f2 hf2 e2 ne => ⟨by omega, by omega, ?_⟩)⟩
  · rw [n f hf rfl, show nI ([] : List Nat).length = 0 from nI_0] at q
    exact q
  · have : f = f2 := (nI_eq (by omega) (by omega)).mp e2
    subst this
    exact q
end
section
theorem hIn_any (rs : Nat → List Nat) (ow : Nat → Nat → Nat) (now f : Nat) (s : Nat × (Nat → Nat → Nat)) : ∀ i, (hIn rs ow now f i s).1 ≤ s.1 + i := hIn_le rs ow now f s
theorem hC_any {rs : Nat → List Nat} {ow : Nat → Nat → Nat} (hl : ∀ f, f < 160 → (rs f).length ≤ 12) {fe : Nat} (hf : fe ≤ 160) : hC rs ow fe ≤ fe * 12 := by
  have key : ∀ n, n ≤ 160 → (hAll rs ow 1 n (0, fun _ _ => 0)).1 ≤ n * 12 := by
    intro n
    induction n with
    | zero => intro _; exact Nat.zero_le _
    | succ n ih =>
      intro hn
      show (hIn rs ow 1 n (rs n).length (hAll rs ow 1 n (0, fun _ _ => 0))).1 ≤ (n + 1) * 12
      have h1 := hIn_le rs ow 1 n (hAll rs ow 1 n (0, fun _ _ => 0)) (rs n).length
      have h2 := ih (by omega)
      have h3 := hl n (by omega)
      omega
  exact key fe hf
end
