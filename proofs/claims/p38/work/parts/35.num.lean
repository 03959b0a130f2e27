section
theorem k32_add {x y : Int32} (h1 : -2147483648 ≤ x.toInt + y.toInt) (h2 : x.toInt + y.toInt < 2147483648) : (x + y).toInt = x.toInt + y.toInt := by
  rw [Int32.toInt_add, Int.bmod_def]
  omega
theorem k32_sub {x y : Int32} (h1 : -2147483648 ≤ x.toInt - y.toInt) (h2 : x.toInt - y.toInt < 2147483648) : (x - y).toInt = x.toInt - y.toInt := by
  rw [Int32.toInt_sub, Int.bmod_def]
  omega
theorem tdiv_in {s n c : Int} (hn : 0 < n) (h1 : -(c * n) ≤ s) (h2 : s ≤ c * n) : -c ≤ s.tdiv n ∧ s.tdiv n ≤ c := by
  have key : ∀ t : Int, 0 ≤ t → t ≤ c * n → 0 ≤ t.tdiv n ∧ t.tdiv n ≤ c := by
    intro t ht hc
    rw [Int.tdiv_eq_ediv_of_nonneg ht]
    exact ⟨Int.ediv_nonneg ht (by omega), Int.ediv_le_of_le_mul hn hc⟩
  by_cases z : 0 ≤ s
  · have := key s z h2
    omega
  · have h3 := key (-s) (by omega) (by omega)
    rw [Int.neg_tdiv] at h3
    omega
theorem nr_iff (x : Int32) : nr x ↔ -500 ≤ x.toInt ∧ x.toInt ≤ 500 := by
  unfold nr
  rw [Int32.lt_iff_toInt_lt, Int32.lt_iff_toInt_lt, show (-500 : Int32).toInt = -500 by decide, show (500 : Int32).toInt = 500 by decide]
  omega
theorem half_at {x : Int32} : (x / 2).toInt = x.toInt.tdiv 2 := by
  rw [Int32.toInt_div_of_ne_right x 2 (by decide), show (2 : Int32).toInt = 2 by decide]
theorem nr_mid {x y : Int32} (hx : nr x) (hy : nr y) : nr ((x + y) / 2) := by
  rw [nr_iff] at *
  rw [half_at, k32_add (by omega) (by omega)]
  exact tdiv_in (by decide) (by omega) (by omega)
theorem mid_ge {x y : Int32} (hx : nr x) (hy : nr y) : (if y < x then y else x) ≤ (x + y) / 2 := by
  rw [nr_iff] at *
  rw [Int32.le_iff_toInt_le, half_at, k32_add (by omega) (by omega)]
  have e : (if y < x then y else x).toInt ≤ x.toInt ∧ (if y < x then y else x).toInt ≤ y.toInt := by
    split
    · rename_i z
      rw [Int32.lt_iff_toInt_lt] at z
      omega
    · rename_i z
      rw [Int32.lt_iff_toInt_lt] at z
      omega
  by_cases z : 0 ≤ x.toInt + y.toInt
  · rw [Int.tdiv_eq_ediv_of_nonneg z]
    omega
  · have h3 : (x.toInt + y.toInt).tdiv 2 = -((-(x.toInt + y.toInt)) / 2) := by
      rw [← Int.tdiv_eq_ediv_of_nonneg (by omega), Int.neg_tdiv, Int.neg_neg]
    rw [h3]
    omega
end
