section
theorem fl_num {a : UInt64} (h : FP.Core.val64 a ≠ .nan) : vf_n64 a := by
  unfold vf_n64
  rw [UInt64.le_iff_toNat_le, UInt64.toNat_and, show (0x7fffffffffffffff : UInt64).toNat = 2 ^ 63 - 1 from rfl, Nat.and_two_pow_sub_one_eq_mod, show (0x7ff0000000000000 : UInt64).toNat = 9218868437227405312 from rfl]
  have hd : FP.Core.decode FP.Core.b64 a.toNat ≠ .nan := h
  unfold FP.Core.decode FP.Core.fieldE FP.Core.fieldT at hd
  rw [show FP.Core.b64.exps = 2048 by decide, show FP.Core.b64.tails = 4503599627370496 by decide] at hd
  have hm := Nat.mod_lt a.toNat (show 0 < 2 ^ 63 by decide)
  by_cases e : a.toNat / 4503599627370496 % 2048 = 2048 - 1
  · rw [if_pos e] at hd
    by_cases t : a.toNat % 4503599627370496 = 0
    · omega
    · rw [if_neg t] at hd
      exact absurd rfl hd
  · omega
theorem fl_pos (f : FP.Core.Fmt) (x y : Nat) (e : Int) : (∃ c q, FP.Core.roundRatio f false x y e = .fin false c q) ∨ FP.Core.roundRatio f false x y e = .inf false := by
  unfold FP.Core.roundRatio
  split
  · exact Or.inl ⟨_, _, rfl⟩
  · unfold FP.Core.roundAt FP.Core.settle FP.Core.bound
    split
    · split
      · exact Or.inl ⟨_, _, rfl⟩
      · exact Or.inr rfl
    · split
      · exact Or.inl ⟨_, _, rfl⟩
      · exact Or.inr rfl
theorem cmp_nn {a b : Int} (h : b ≤ a) : ¬ compare a b = .lt := by
  intro z
  have z2 : compareOfLessAndEq a b = .lt := z
  unfold compareOfLessAndEq at z2
  rw [if_neg (by omega)] at z2
  split at z2
  · cases z2
  · cases z2
/-- not below zero, and a number -/
def dNN (d : FP.Core.Datum) : Prop := d = .inf false ∨ (∃ c q, d = .fin false c q) ∨ ∃ s q, d = .fin s 0 q
theorem dNN_num {d : FP.Core.Datum} (h : dNN d) : d ≠ .nan := by
  rcases h with e | ⟨c, q, e⟩ | ⟨s, q, e⟩ <;> rw [e] <;> exact FP.Core.Datum.noConfusion
theorem dNN_ord {d : FP.Core.Datum} (h : dNN d) (r : Int) : ∃ o, FP.Core.order d (.fin false 0 r) = some o ∧ o ≠ .lt := by
  rcases h with e | ⟨c, q, e⟩ | ⟨s, q, e⟩
  · rw [e]
    exact ⟨_, rfl, cmp_nn (by decide)⟩
  · rw [e]
    refine ⟨_, rfl, cmp_nn ?_⟩
    show ((FP.Core.inUnits 0 r (min q r) : Nat) : Int) ≤ ((FP.Core.inUnits c q (min q r) : Nat) : Int)
    unfold FP.Core.inUnits
    rw [Nat.zero_mul]
    omega
  · rw [e]
    refine ⟨_, rfl, cmp_nn ?_⟩
    show FP.Core.signed false (FP.Core.inUnits 0 r (min q r)) ≤ FP.Core.signed s (FP.Core.inUnits 0 q (min q r))
    unfold FP.Core.inUnits
    rw [Nat.zero_mul, Nat.zero_mul, FP.Core.signed_zero, FP.Core.signed_zero]
    exact Int.le_refl _
theorem fl_div {s : Int64} {n : Int32} (h0 : 0 ≤ s.toInt) (h1 : s.toInt ≤ 6000000000) (hn : 0 < n.toInt) : dNN (FP.Core.val64 (FP.ddiv (FP.l2d s) (FP.i2d n))) := by
  show dNN (FP.Core.val64 (FP.Core.ddiv (FP.Core.l2d s) (FP.Core.i2d n)))
  rw [FP.Core.val64_ddiv]
  have a1 : FP.Core.Whole s.toInt (FP.Core.val64 (FP.Core.l2d s)) := FP.Core.l2d_int (show s.toInt.natAbs ≤ 2 ^ 53 by omega)
  have a2 : FP.Core.Whole n.toInt (FP.Core.val64 (FP.Core.i2d n)) := FP.Core.i2d_int n
  revert a1 a2
  generalize FP.Core.val64 (FP.Core.l2d s) = x
  generalize FP.Core.val64 (FP.Core.i2d n) = y
  intro a1 a2
  match x, y, a1, a2 with
  | .fin s1 c q, .fin s2 d r, a1, a2 =>
    have d0 : ¬ d = 0 := fun z => by
      have := (FP.Core.whole_zero a2).mp z
      omega
    have e2 := FP.Core.whole_sign a2 (by omega)
    rw [decide_eq_false (by omega)] at e2
    subst e2
    show dNN (if d = 0 then (if c = 0 then .nan else .inf (s1 != false)) else FP.Core.roundRatio FP.Core.b64 (s1 != false) c d (q - r))
    rw [if_neg d0]
    by_cases c0 : c = 0
    · subst c0
      unfold FP.Core.roundRatio
      rw [if_pos rfl]
      exact Or.inr (Or.inr ⟨_, _, rfl⟩)
    · have e1 := FP.Core.whole_sign a1 (fun z => c0 ((FP.Core.whole_zero a1).mpr z))
      rw [decide_eq_false (by omega)] at e1
      subst e1
      rcases fl_pos FP.Core.b64 c d (q - r) with ⟨c2, q2, e⟩ | e
      · exact Or.inr (Or.inl ⟨c2, q2, e⟩)
      · exact Or.inl e
theorem cmp_ge {v : UInt64} (h : dNN (FP.Core.val64 v)) : ¬ Op.cmpValue (FP.dcmp v FP.dconst0) .l < 0 := by
  have e : FP.dcmp v FP.dconst0 = FP.Core.order (FP.Core.val64 v) (FP.Core.val64 FP.Core.dconst0) := rfl
  rw [e, FP.Core.val64_dconst0]
  obtain ⟨o, e2, e3⟩ := dNN_ord h FP.Core.b64.qmin
  rw [e2]
  cases o with
  | lt => exact absurd rfl e3
  | eq => decide
  | gt => decide
theorem k32_sq {x : Int32} (h1 : -1000 ≤ x.toInt) (h2 : x.toInt ≤ 1000) : 0 ≤ (x * x).toInt ∧ (x * x).toInt ≤ 1000000 := by
  have e : x.toInt * x.toInt = ((x.toInt.natAbs * x.toInt.natAbs : Nat) : Int) := Int.natAbs_mul_self.symm
  have hn : x.toInt.natAbs ≤ 1000 := by omega
  have hm := Nat.mul_le_mul hn hn
  rw [Int32.toInt_mul, e, Int.bmod_def]
  revert hm
  generalize x.toInt.natAbs * x.toInt.natAbs = k
  intro hm
  omega
theorem k64_add {x y : Int64} (h1 : -9000000000000000000 ≤ x.toInt + y.toInt) (h2 : x.toInt + y.toInt < 9000000000000000000) : (x + y).toInt = x.toInt + y.toInt := by
  rw [Int64.toInt_add, Int.bmod_def]
  omega
variable {A : Nat → Nat} {M M' : Mm} {B : Nat} {rs rs2 : Nat → List Nat} {ow ow2 : Nat → Nat → Nat} {th : Nat → Bool} {ps : Nat → Nat → Int32} {fe fl pe pl : Nat} {Cc Zz : Nat}
theorem t_sq {a b : Nat} {Q : Int32 → Prop} (h : SD A M B rs ow th ps fe fl pe pl) (g : Gd rs ow th ps fe fl pe pl) (ta : th a = true) (tb : th b = true) (q : ∀ v : Int32, 0 ≤ v.toInt → v.toInt ≤ 3000000 → Q v) : T_X3_squaredLength M (A 1) (nI a) (nI b) Q := by
  unfold T_X3_squaredLength
  intro K hK
  have ha := g.lt h ta
  have hb := g.lt h tb
  have key : ∀ (d k : Nat) (s : Int32), k + d = 3 → 0 ≤ s.toInt → s.toInt ≤ 1000000 * (k : Int) → K (A 1) (nI a) (nI b) s (nI k) := by
    intro d
    induction d with
    | zero =>
      intro k s hk s1 s2
      have : k = 3 := by omega
      subst this
      exact hK _ _ _ _ _ ⟨fun _ => q s s1 (by omega), fun z => absurd (by decide) z⟩
    | succ d ih =>
      intro k s hk s1 s2
      have hk3 : k < 3 := by omega
      have na := (nr_iff _).mp (g.2.2.2.2.2.2.2 k a hk3 ta)
      have nb := (nr_iff _).mp (g.2.2.2.2.2.2.2 k b hk3 tb)
      refine hK _ _ _ _ _ ⟨fun z => absurd z (show ¬ nI 3 ≤ nI k from nI_ge (by omega) (by omega)), fun _ => ⟨h.sh.k 1, t_pget h.2.2.1 hb hk3 ⟨h.sh.k 1, t_pget h.2.2.1 ha hk3 ?_⟩⟩⟩
      rw [nI_1]
      have e1 := k32_sub (x := ps k b) (y := ps k a) (by omega) (by omega)
      have e2 := k32_sq (x := ps k b - ps k a) (by omega) (by omega)
      have e3 := k32_add (x := s) (y := (ps k b - ps k a) * (ps k b - ps k a)) (by omega) (by omega)
      exact ih (k + 1) _ (by omega) (by rw [e3]; omega) (by rw [e3]; omega)
  have := key 3 0 0 (by omega) (by decide) (by decide)
  rw [nI_0] at this
  exact this
theorem t_sumSq {Q : Int64 → Prop} (h : SD A M B rs ow th ps fe fl pe pl) (g : Gd rs ow th ps fe fl pe pl) (q : ∀ s : Int64, 0 ≤ s.toInt → s.toInt ≤ 6000000000 → Q s) : T_X8_sumOfSquares M (A 0) Q := by
  unfold T_X8_sumOfSquares
  intro K4 K28 h4 h28
  have hfe := h.2.1.2.2.1
  have key : ∀ (d f : Nat) (s : Int64), f + d = fe → 0 ≤ s.toInt → s.toInt ≤ 36000000 * (f : Int) → K4 (A 0) s (nI f) := by
    intro d
    induction d with
    | zero =>
      intro f s hd s1 s2
      have : f = fe := by omega
      subst this
      exact h4 _ _ _ ⟨h.sh.k 0, A 7, h.sh.r 0 1 7, h.sh.k 7, t_fever h ⟨fun _ => q s s1 (by omega), fun z => absurd (nI_le (Nat.le_refl _) (by omega)) z⟩⟩
    | succ d ih =>
      intro f s hd s1 s2
      have hf : f < 160 := by omega
      have hl := h.1.len hf
      have hr := h.1.2.1 f hf
      have inner : ∀ (d2 i : Nat) (s : Int64), i + d2 = (rs f).length → 0 ≤ s.toInt → s.toInt ≤ 36000000 * (f : Int) + 3000000 * (i : Int) → K28 (A 0) s (nI f) (A (64 + 2 * f)) (nI i) := by
        intro d2
        induction d2 with
        | zero =>
          intro i s hi s1 s2
          have : i = (rs f).length := by omega
          subst this
          refine h28 _ _ _ _ _ ⟨hr.1, t_length hr ?_⟩
          rw [List.length_map, nI_1]
          exact ⟨fun _ => ih (f + 1) s (by omega) s1 (by omega), fun z => absurd (nI_le (Nat.le_refl _) (by omega)) z⟩
        | succ d2 ih2 =>
          intro i s hi s1 s2
          have hb := h.1.bd hf (k := i) (by omega)
          have hp := g.2.2.2.2.2.2.1 f _ (gn_mem (xs := rs f) (p := i) (by omega))
          have hq := g.2.2.2.2.2.2.1 f _ (gn_mem (xs := rs f) (p := i + 1) (by omega))
          refine h28 _ _ _ _ _ ⟨hr.1, t_length hr ?_⟩
          rw [List.length_map]
          refine ⟨fun z => absurd z (nI_ge (by omega) (by omega)), fun _ => ⟨h.sh.k 0, A 7, h.sh.r 0 1 7, hr.1, t_gt hr (by omega) ⟨hr.1, ?_⟩⟩⟩
          rw [nI_1]
          refine t_gt hr (by omega) ?_
          rw [gt_map (by omega), gt_map (by omega)]
          refine ⟨h.sh.k 7, t_isToldBy h.1 hb.1 hb.2 (fun _ => ⟨fun z => absurd z (by decide), fun _ => ⟨h.sh.k 0, A 1, h.sh.r 0 0 1, hr.1, t_gt hr (by omega) ⟨hr.1, t_gt hr (by omega) ?_⟩⟩⟩) (fun _ _ => ⟨fun _ => ih2 (i + 1) s (by omega) s1 (by omega), fun z => absurd rfl z⟩)⟩
          rw [gt_map (by omega), gt_map (by omega)]
          refine ⟨h.sh.k 1, t_sq h g hp hq (fun v v1 v2 => ?_)⟩
          have e := Int32.toInt_toInt64 v
          have e3 := k64_add (x := s) (y := v.toInt64) (by omega) (by omega)
          exact ih2 (i + 1) _ (by omega) (by rw [e3]; omega) (by rw [e3]; omega)
      refine h4 _ _ _ ⟨h.sh.k 0, A 7, h.sh.r 0 1 7, h.sh.k 7, t_fever h ⟨fun z => absurd z (nI_ge (by omega) (by omega)), fun _ => ⟨h.sh.k 0, A 7, h.sh.r 0 1 7, h.sh.k 7, t_ring h.1 hf ?_⟩⟩⟩
      have := inner (rs f).length 0 s (by omega) s1 (by omega)
      rw [nI_0] at this
      exact this
  have := key fe 0 0 (by omega) (by decide) (by decide)
  rw [nI_0] at this
  exact this
theorem a_mean {Q : UInt64 → Prop} (h : SD A M B rs ow th ps fe fl pe pl) (g : Gd rs ow th ps fe fl pe pl) (q : ∀ v, ¬ Op.cmpValue (FP.dcmp v FP.dconst0) .l < 0 → Q v) : T_X8_meanEdge M (A 0) Q := by
  unfold T_X8_meanEdge
  have hle := eC_le (ow := ow) h.1 h.2.1.2.2.1
  have hfe := h.2.1.2.2.1
  have hlt : eC rs ow fe < 2 ^ 31 := by omega
  refine ⟨h.sh.k 0, A 7, h.sh.r 0 1 7, h.sh.k 7, t_edgeCount h.1 h.2.1 ⟨fun z => ⟨h.sh.k 0, t_sumSq h g (fun s s1 s2 => ?_)⟩, fun _ => q _ ?_⟩⟩
  · have n0 : 0 < eC rs ow fe := Nat.pos_of_ne_zero (fun y => z (by rw [y]; exact nI_0))
    have nn := fl_div (s := s) (n := nI (eC rs ow fe)) s1 s2 (by rw [nI_toInt hlt]; omega)
    exact ⟨fl_num (dNN_num nn), q _ (cmp_ge nn)⟩
  · exact cmp_ge (Or.inr (Or.inl ⟨_, _, FP.Core.val64_dconst0⟩))
end
