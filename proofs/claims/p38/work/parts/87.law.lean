/-- nothing made yet -/
def M00 : Mm := (fun _ => (255, 0), fun _ _ => 0, fun _ _ => none, fun _ _ => 0)
theorem frs00 {q : Nat} : frs M00 q := fun _ _ => rfl
theorem nr_9 : ∀ k : Fin 9, (¬ 20 * (nI k.val - nI k.val / 3 * 3) < -500 ∧ ¬ 500 < 20 * (nI k.val - nI k.val / 3 * 3)) ∧ (¬ 20 * (nI k.val / 3) < -500 ∧ ¬ 500 < 20 * (nI k.val / 3)) ∧ ¬ nI k.val < -500 ∧ ¬ 500 < nI k.val := by decide +kernel
theorem lg_self (x : Int64) : lg_cmp x x = 0 := by
  unfold lg_cmp
  rw [if_neg (fun z : x > x => by have := Int64.lt_iff_toInt_lt.mp z; omega), if_pos rfl]
theorem wf_none : Wf (fun _ => []) (fun _ _ => 0) := ⟨fun a b f => ⟨fun z => (by cases z), fun ⟨_, i, hi, _⟩ => absurd hi (Nat.not_lt_zero _)⟩, fun f i j _ hi => absurd hi (Nat.not_lt_zero _)⟩
theorem gd_none : Gd (fun _ => []) (fun _ _ => 0) (fun _ => false) (fun _ _ => 0) 0 0 0 0 :=
  ⟨wf_none, fun _ => Or.inl rfl, fun _ _ => rfl, (sumN_0 (fun _ _ => if_pos rfl)).symm, (sumN_0 (fun _ _ => if_neg (fun z : false = true => by cases z))).symm, fun _ _ => rfl, fun f p hp => (by cases hp), fun ax p _ hp => (by cases hp)⟩
set_option maxRecDepth 100000 in
set_option maxHeartbeats 4000000 in
theorem law_run {L : Nat} {xs : Nat → Int32} : T_L_law 600104 7301314 L xs M00 := by
  unfold T_L_law
  intro K10 K53 h10 h53
  refine ⟨by omega, by omega, fun q1 h1 => ⟨400, 40000, ⟨by omega, by omega⟩, mk_mesh h1 (by omega) (by omega) (fun bs rs0 M3 L' hlen hb0 hcs hrl => ?_)⟩⟩
  obtain ⟨A, hA0, hF, -⟩ := fresh_of hlen hcs hrl
  have hA : q1 = A 0 := by
    rw [hb0] at hA0
    exact Option.some.inj hA0
  subst hA
  have s0 : SD A M3 0 (fun _ => []) (fun _ _ => 0) (fun _ => false) (fun _ _ => 0) 0 0 0 0 := ⟨hF.1, hF.2.1, hF.2.2.1, hF.2.2.2.1, ⟨0, _, hF.2.2.2.2.1, Nat.le_refl _⟩, fun i hi => by
    rcases hi with rfl | rfl | rfl | rfl
    · exact ⟨_, hF.2.2.2.2.2.1⟩
    · exact ⟨_, hF.2.2.2.2.2.2.1⟩
    · exact ⟨_, hF.2.2.2.2.2.2.2.1⟩
    · exact ⟨_, hF.2.2.2.2.2.2.2.2⟩⟩
  -- the forty steps
  have k53 : ∀ d t M2 B rs ow th ps fe fl pe pl cc zz, t + d = 40 → SD A M2 B rs ow th ps fe fl pe pl → Gd rs ow th ps fe fl pe pl → B ≤ 4 * t + 60000 * (t / 13) → cc ≤ 1000 + 60 * t + 110000 * (t / 13) → zz ≤ 41000 + 400 * t + 700000 * (t / 13) → K53 (A 0) (nI t) M2 cc zz := by
    intro d
    induction d with
    | zero =>
      intro t M2 B rs ow th ps fe fl pe pl cc zz ht s2 g2 hB hcc hzz
      have : t = 40 := by omega
      subst this
      exact h53 _ _ _ _ _ ⟨fun _ => ⟨by omega, by omega⟩, fun z => absurd (by decide) z⟩
    | succ d ih =>
      intro t M2 B rs ow th ps fe fl pe pl cc zz ht s2 g2 hB hcc hzz
      have e28 : nI t - nI t / 28 * 28 = nI (t % 28) := pk_rem (d := 28) (by omega) (by omega) (by omega)
      have e13 : nI t - nI t / 13 * 13 = nI (t % 13) := pk_rem (d := 13) (by omega) (by omega) (by omega)
      refine h53 _ _ _ _ _ ⟨fun z => absurd z (show ¬ nI 40 ≤ nI t from nI_ge (by omega) (by omega)), fun _ => ?_⟩
      rw [e28, e13]
      refine ⟨by rw [Int32.add_comm, nI_1]; exact nI_pos (by omega), 60, 400, ⟨by omega, by omega⟩, l_act s2 g2 (by omega) (by omega) (by omega) (fun M3 rs3 ow3 th3 ps3 fe3 fl3 pe3 pl3 s3 g3 => ⟨fun _ => ⟨fun z => ?_, fun z => ?_⟩, fun z => absurd z (by decide)⟩)⟩
      · have z2 : t % 13 = 12 := (nI_eq (b := 12) (by omega) (by omega)).mp z
        refine ⟨⟨by omega, by omega⟩, s3.sh.k 0, a_digest s3 g3 (by omega) (fun M4 s4 => ?_)⟩
        refine ⟨82000, 500000, ⟨by omega, by omega⟩, l_rings s4 g3 (by omega) (by omega) (by omega) (fun M5 s5 => ⟨fun z => absurd z (by decide), fun _ => ⟨nI_pos (by omega), ?_⟩⟩)⟩
        refine ⟨20000, 120000, ⟨by omega, by omega⟩, l_mayr s5 g3 (by omega) (by omega) (by omega) (fun M6 s6 => ⟨fun z => absurd z (by decide), fun _ => ?_⟩)⟩
        refine ⟨⟨by omega, by omega⟩, s6.sh.k 0, a_digest s6 g3 (by omega) (fun M7 s7 => ⟨fun _ => ?_, fun z => absurd (lg_self _) z⟩)⟩
        rw [nI_1]
        exact ih (t + 1) M7 _ _ _ _ _ _ _ _ _ _ _ (by omega) s7 g3 (by omega) (by omega) (by omega)
      · have z2 : ¬ t % 13 = 12 := fun y => z (by rw [y]; rfl)
        rw [nI_1]
        exact ih (t + 1) M3 _ _ _ _ _ _ _ _ _ _ _ (by omega) s3 g3 (by omega) (by omega) (by omega)
  -- the nine points
  have k10 : ∀ d k M2 th ps cc zz, k + d = 9 → SD A M2 0 (fun _ => []) (fun _ _ => 0) th ps 0 0 k k → Gd (fun _ => []) (fun _ _ => 0) th ps 0 0 k k → cc ≤ 401 + 2 * k → zz ≤ 40008 + 12 * k → K10 (A 0) (nI k) M2 cc zz := by
    intro d
    induction d with
    | zero =>
      intro k M2 th ps cc zz hk s2 g2 hcc hzz
      have : k = 9 := by omega
      subst this
      have k0 := k53 40 0 M2 0 _ _ _ _ _ _ _ _ cc zz (by omega) s2 g2 (by omega) (by omega) (by omega)
      rw [show nI 0 = 0 from nI_0] at k0
      exact h10 _ _ _ _ _ ⟨fun _ => k0, fun z => absurd (by decide) z⟩
    | succ d ih =>
      intro k M2 th ps cc zz hk s2 g2 hcc hzz
      have n9 := nr_9 ⟨k, by omega⟩
      refine h10 _ _ _ _ _ ⟨fun z => absurd z (show ¬ nI 9 ≤ nI k from nI_ge (by omega) (by omega)), fun _ => ⟨by decide, ⟨by omega, by omega⟩, l_below (n := 9) (by omega) (by omega) (fun j hj => ?_)⟩⟩
      refine ⟨2, 12, ⟨by omega, by omega⟩, s2.sh.k 0, o_point s2 g2 (by omega) (by omega) (fun E M4 _ _ n => n ⟨n9.1, n9.2.1, (nr_9 ⟨j, hj⟩).2.2, by omega⟩) (fun M4 _ s4 g4 => ?_)⟩
      rw [nI_1]
      exact ih (k + 1) M4 _ _ _ _ (by omega) s4 g4 (by omega) (by omega)
  have k0 := k10 9 0 M3 _ _ (0 + 1 + 400) (0 + 8 + 40000) (by omega) s0 gd_none (by omega) (by omega)
  rw [show nI 0 = 0 from nI_0] at k0
  exact k0
