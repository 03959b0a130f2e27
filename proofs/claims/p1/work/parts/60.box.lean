section
variable {M M' : Mm} {m P T G O np nf : Nat}
set_option maxRecDepth 100000 in
set_option maxHeartbeats 4000000 in
theorem r_box (h : RF M m P T G O 0 0) {o Cc Zz : Nat} (hc : 40 ≤ Cc) (hz : 200 ≤ Zz) {x y z w : Int32} {Q : Int32 → Mm → Prop} (q1 : ¬ bxok x y z w → ∀ M', Ok9 m o 1 M M' → Q 0 M') (q0 : bxok x y z w → ∀ M', Ok9 m o 0 M M' → Q 0 M') : T_X9_box Cc Zz M m x y z w Q := by
  have h1 : RF (wI M m 0 0) m P T G O 0 0 := h.thr (by decide) (by decide)
  have h2 : RF (wI (wI M m 0 0) m 0 1) m P T G O 0 0 := h1.thr (by decide) (by decide)
  unfold T_X9_box
  intro K68 K99 K114 K145 K161 K175 h68 h99 h114 h145 h161 h175
  have bad : ¬ bxok x y z w → K68 m (wI M m 0 0) 0 0 := fun n => h68 _ _ _ _ (And.intro ⟨by omega, by omega⟩ (And.intro h1.1 (And.intro h1.1 ⟨by omega, by omega, q1 n _ ⟨h2.1, thr0, Kp.i.tr Kp.i⟩⟩)))
  have e8 : (8 : Int32) = nI 8 := rfl
  have faces : ∀ M' cc zz, bxok x y z w → RF M' m P T G O 8 0 → iM M' m 0 = 0 → Kp o M M' → cc + 6 ≤ Cc → zz + 24 ≤ Zz → K114 m x y z w (nI 0) (nI 8) M' cc zz := by
    intro M0 cc zz hok g0 e0 p0 hc hz
    refine h114 _ _ _ _ _ _ _ _ _ _ ⟨fun _ => ⟨by omega, by omega, fun q0a hq0 => ?_⟩, fun n => absurd (by rw [e8]; exact nI_le (Nat.le_refl _) (by omega)) n⟩
    obtain ⟨s0, k0, i0, t0, u0⟩ := face4 (v0 := nI 0) (v1 := (nI 0 + 3)) (v2 := (nI 0 + 2)) (v3 := (nI 0 + 1)) g0 hq0 ⟨0, by omega, rfl⟩ ⟨3, by omega, by decide⟩ ⟨2, by omega, by decide⟩ ⟨1, by omega, by decide⟩
    have kn0 : kM (wN M0 q0a 100 4) q0a = (100, 4) := by rw [kM_wN, if_pos rfl]
    refine ⟨4, kn0, v_in nI_0.symm (by omega) (by omega), 4, kn0, v_in (k := 1) rfl (by omega) (by omega), 4, kn0, v_in (k := 2) rfl (by omega) (by omega), 4, kn0, v_in (k := 3) rfl (by omega) (by omega), ⟨by omega, by omega⟩, s0.1, t9_newFace s0 (by omega) k0 i0 (fun M1 g1 e1 p1 => ?_)⟩
    have e1 : iM M1 m 0 = 0 := e1.trans (t0.trans e0)
    have p1 : Kp o M M1 := (p0.tr (u0 o)).tr (p1 o)
    refine ⟨by omega, by omega, fun q1a hq1 => ?_⟩
    obtain ⟨s1, k1, i1, t1, u1⟩ := face4 (v0 := (nI 0 + 4)) (v1 := (nI 0 + 5)) (v2 := (nI 0 + 6)) (v3 := (nI 0 + 7)) g1 hq1 ⟨4, by omega, by decide⟩ ⟨5, by omega, by decide⟩ ⟨6, by omega, by decide⟩ ⟨7, by omega, by decide⟩
    have kn1 : kM (wN M1 q1a 100 4) q1a = (100, 4) := by rw [kM_wN, if_pos rfl]
    refine ⟨4, kn1, v_in nI_0.symm (by omega) (by omega), 4, kn1, v_in (k := 1) rfl (by omega) (by omega), 4, kn1, v_in (k := 2) rfl (by omega) (by omega), 4, kn1, v_in (k := 3) rfl (by omega) (by omega), ⟨by omega, by omega⟩, s1.1, t9_newFace s1 (by omega) k1 i1 (fun M2 g2 e2 p2 => ?_)⟩
    have e2 : iM M2 m 0 = 0 := e2.trans (t1.trans e1)
    have p2 : Kp o M M2 := (p1.tr (u1 o)).tr (p2 o)
    refine ⟨by omega, by omega, fun q2a hq2 => ?_⟩
    obtain ⟨s2, k2, i2, t2, u2⟩ := face4 (v0 := nI 0) (v1 := (nI 0 + 1)) (v2 := (nI 0 + 5)) (v3 := (nI 0 + 4)) g2 hq2 ⟨0, by omega, rfl⟩ ⟨1, by omega, by decide⟩ ⟨5, by omega, by decide⟩ ⟨4, by omega, by decide⟩
    have kn2 : kM (wN M2 q2a 100 4) q2a = (100, 4) := by rw [kM_wN, if_pos rfl]
    refine ⟨4, kn2, v_in nI_0.symm (by omega) (by omega), 4, kn2, v_in (k := 1) rfl (by omega) (by omega), 4, kn2, v_in (k := 2) rfl (by omega) (by omega), 4, kn2, v_in (k := 3) rfl (by omega) (by omega), ⟨by omega, by omega⟩, s2.1, t9_newFace s2 (by omega) k2 i2 (fun M3 g3 e3 p3 => ?_)⟩
    have e3 : iM M3 m 0 = 0 := e3.trans (t2.trans e2)
    have p3 : Kp o M M3 := (p2.tr (u2 o)).tr (p3 o)
    refine ⟨by omega, by omega, fun q3a hq3 => ?_⟩
    obtain ⟨s3, k3, i3, t3, u3⟩ := face4 (v0 := (nI 0 + 1)) (v1 := (nI 0 + 2)) (v2 := (nI 0 + 6)) (v3 := (nI 0 + 5)) g3 hq3 ⟨1, by omega, by decide⟩ ⟨2, by omega, by decide⟩ ⟨6, by omega, by decide⟩ ⟨5, by omega, by decide⟩
    have kn3 : kM (wN M3 q3a 100 4) q3a = (100, 4) := by rw [kM_wN, if_pos rfl]
    refine ⟨4, kn3, v_in nI_0.symm (by omega) (by omega), 4, kn3, v_in (k := 1) rfl (by omega) (by omega), 4, kn3, v_in (k := 2) rfl (by omega) (by omega), 4, kn3, v_in (k := 3) rfl (by omega) (by omega), ⟨by omega, by omega⟩, s3.1, t9_newFace s3 (by omega) k3 i3 (fun M4 g4 e4 p4 => ?_)⟩
    have e4 : iM M4 m 0 = 0 := e4.trans (t3.trans e3)
    have p4 : Kp o M M4 := (p3.tr (u3 o)).tr (p4 o)
    refine ⟨by omega, by omega, fun q4a hq4 => ?_⟩
    obtain ⟨s4, k4, i4, t4, u4⟩ := face4 (v0 := (nI 0 + 2)) (v1 := (nI 0 + 3)) (v2 := (nI 0 + 7)) (v3 := (nI 0 + 6)) g4 hq4 ⟨2, by omega, by decide⟩ ⟨3, by omega, by decide⟩ ⟨7, by omega, by decide⟩ ⟨6, by omega, by decide⟩
    have kn4 : kM (wN M4 q4a 100 4) q4a = (100, 4) := by rw [kM_wN, if_pos rfl]
    refine ⟨4, kn4, v_in nI_0.symm (by omega) (by omega), 4, kn4, v_in (k := 1) rfl (by omega) (by omega), 4, kn4, v_in (k := 2) rfl (by omega) (by omega), 4, kn4, v_in (k := 3) rfl (by omega) (by omega), ⟨by omega, by omega⟩, s4.1, t9_newFace s4 (by omega) k4 i4 (fun M5 g5 e5 p5 => ?_)⟩
    have e5 : iM M5 m 0 = 0 := e5.trans (t4.trans e4)
    have p5 : Kp o M M5 := (p4.tr (u4 o)).tr (p5 o)
    refine ⟨by omega, by omega, fun q5a hq5 => ?_⟩
    obtain ⟨s5, k5, i5, t5, u5⟩ := face4 (v0 := (nI 0 + 3)) (v1 := nI 0) (v2 := (nI 0 + 4)) (v3 := (nI 0 + 7)) g5 hq5 ⟨3, by omega, by decide⟩ ⟨0, by omega, rfl⟩ ⟨4, by omega, by decide⟩ ⟨7, by omega, by decide⟩
    have kn5 : kM (wN M5 q5a 100 4) q5a = (100, 4) := by rw [kM_wN, if_pos rfl]
    refine ⟨4, kn5, v_in nI_0.symm (by omega) (by omega), 4, kn5, v_in (k := 1) rfl (by omega) (by omega), 4, kn5, v_in (k := 2) rfl (by omega) (by omega), 4, kn5, v_in (k := 3) rfl (by omega) (by omega), ⟨by omega, by omega⟩, s5.1, t9_newFace s5 (by omega) k5 i5 (fun M6 g6 e6 p6 => ?_)⟩
    have e6 : iM M6 m 0 = 0 := e6.trans (t5.trans e5)
    have p6 : Kp o M M6 := (p5.tr (u5 o)).tr (p6 o)
    refine ⟨⟨by omega, by omega⟩, g6.1, t9_table g6 (fun M7 g7 => ⟨by omega, by omega, ?_⟩)⟩
    rw [nI_0]
    exact q0 hok M7 ⟨g7.1.1, g7.2.2.1.trans e6, p6.tr g7.2.2.2.kp⟩
  have points : bxok x y z w → ∀ d k M', d + k = 8 → RF M' m P T G O k 0 → iM M' m 0 = 0 → Kp o M M' → K114 m x y z w (nI 0) (nI k) M' (0 + k) (0 + 3 * k) := by
    intro hok d
    induction d with
    | zero =>
      intro k M' hd g e p
      have : k = 8 := by omega
      subst this
      exact faces M' _ _ hok g e p (by omega) (by omega)
    | succ d ih =>
      intro k M' hd g e p
      have k175 : ∀ a b c d', K175 m x y z w (nI 0) (nI k) m a b c d' M' (0 + k) (0 + 3 * k) := fun a b c d' => h175 _ _ _ _ _ _ _ _ _ _ _ _ _ _ _ ⟨1, 3, ⟨by omega, by omega⟩, g.1, t9_newPoint g (by omega) (by omega) (by omega) (fun M2 g2 e2 p2 => by
        have := ih (k + 1) M2 (by omega) g2 (e2.trans e) (p.tr (p2 o))
        rw [nI_1]
        exact this)⟩
      have k161 : ∀ a b c, K161 m x y z w (nI 0) (nI k) m a b c M' (0 + k) (0 + 3 * k) := fun a b c => h161 _ _ _ _ _ _ _ _ _ _ _ _ _ _ ⟨fun _ => k175 _ _ _ _, fun _ => k175 _ _ _ _⟩
      have k145 : ∀ a b, K145 m x y z w (nI 0) (nI k) m a b M' (0 + k) (0 + 3 * k) := fun a b => h145 _ _ _ _ _ _ _ _ _ _ _ _ _ ⟨fun _ => k161 _ _ _, fun _ => k161 _ _ _⟩
      exact h114 _ _ _ _ _ _ _ _ _ _ ⟨fun n => absurd n (by rw [e8]; exact nI_ge (by omega) (by omega)), fun _ => ⟨fun _ => k145 _ _, fun _ => ⟨fun _ => k145 _ _, fun _ => k145 _ _⟩⟩⟩
  have is1 : ∀ {a lo hi : Int32} {Q : Int32 → Prop}, ((¬ a < lo ∧ ¬ hi < a) → Q 1) → (¬ (¬ a < lo ∧ ¬ hi < a) → Q 0) → T_X9_is (wI M m 0 0) a lo hi Q := fun q1 q0 => ⟨fun n => q0 (fun b => b.1 n), fun n => ⟨fun n2 => q0 (fun b => b.2 n2), fun n2 => q1 ⟨n, n2⟩⟩⟩
  have st : bxok x y z w → K114 m x y z w (iM (wI M m 0 0) m 3) 0 (wI M m 0 0) 0 0 := fun hok => by
    have := points hok 8 0 _ rfl h1 thr0 Kp.i
    rw [nI_0] at this
    rw [h1.p0]
    exact this
  have a1 : ∀ {P : Prop}, ((1 : Int32) = 0 → P) := fun n => absurd n (by decide)
  have a0 : ∀ {P : Prop}, (¬ (0 : Int32) = 0 → P) := fun n => absurd rfl n
  refine ⟨h.1, ⟨by omega, by omega⟩, is1 (fun b1 => ⟨a1, fun _ => ⟨⟨by omega, by omega⟩, t9_near (fun b2 => ⟨a1, fun _ => ⟨⟨by omega, by omega⟩, t9_near (fun b3 => ⟨a1, fun _ => ⟨⟨by omega, by omega⟩, t9_near (fun b4 => ⟨a1, fun _ => ⟨⟨by omega, by omega⟩, t9_near (fun b5 => ⟨a1, fun _ => ⟨⟨by omega, by omega⟩, t9_near (fun b6 => ⟨a1, fun _ => ⟨⟨by omega, by omega⟩, t9_near (fun b7 => ⟨fun _ => ⟨h1.1, ?_, fun _ => ⟨h1.1, fun _ => ⟨h1.1, st ⟨b1, ⟨b2, b3, b4⟩, b5, b6, b7⟩⟩, ?_⟩⟩, a1⟩) (fun n => ⟨a0, fun _ => bad (fun b => n b.2.2.2.2)⟩)⟩⟩) (fun n => ⟨fun _ => bad (fun b => n b.2.2.2.1), a0⟩)⟩⟩) (fun n => ⟨fun _ => bad (fun b => n b.2.2.1), a0⟩)⟩⟩) (fun n => ⟨fun _ => bad (fun b => n b.2.1.2.2), a0⟩)⟩⟩) (fun n => ⟨fun _ => bad (fun b => n b.2.1.2.1), a0⟩)⟩⟩) (fun n => ⟨fun _ => bad (fun b => n b.2.1.1), a0⟩)⟩⟩) (fun n => ⟨fun _ => bad (fun b => n b.1), a0⟩)⟩
  · rw [h1.p0]
    exact fun n => absurd n (by decide)
  · rw [h1.f0]
    exact fun n => absurd (by decide) n
/-- a grid of n rows at q -/
def GD (M : Mm) (q : Nat) (kr : Nat × Nat) : Prop := kM M q = (121, 100) ∧ ∀ j, j < 100 → rM M q j = some (q + 1 + j) ∧ kM M (q + 1 + j) = kr
theorem GD.ex {q : Nat} {kr : Nat × Nat} (h : GD M q kr) (hk : kr.1 ≠ 255) (e : Ex m M M') (hm : m < q) : GD M' q kr := by
  have e0 := e q (by rw [h.1]; decide)
  exact ⟨e0.1.trans h.1, fun j hj => ⟨((e0.2 (by omega)).2.1 j).trans (h.2 j hj).1, (e _ (by rw [(h.2 j hj).2]; exact hk)).1.trans (h.2 j hj).2⟩⟩
theorem gd_G {q k : Nat} : GD (wG M q 121 100 100 k) q (100, k) := ⟨by rw [kM_wG, if_pos rfl], fun j hj => ⟨by rw [rM_wG, if_pos rfl, if_pos hj], by rw [kM_wG, if_neg (by omega), if_pos (by omega)]⟩⟩
/-- the model in the making -/
def Sg (Mb : Mm) (m : Nat) (M : Mm) : Prop := kM M m = (9, 13) ∧ (∀ j, j ≠ 7 → iM M m j = 0) ∧ Ex m Mb M
theorem Sg.st {Mb : Mm} {j q : Nat} {M1 : Mm} (h : Sg Mb m M) (e : Ex m M M1) (hm : ∀ k, iM M1 m k = iM M m k) (hr : ∀ k, rM M1 m k = rM M m k) : Sg Mb m (wR M1 m j (some q)) ∧ Ex m M (wR M1 m j (some q)) ∧ rM (wR M1 m j (some q)) m j = some q ∧ ∀ k, k ≠ j → rM (wR M1 m j (some q)) m k = rM M m k :=
  ⟨⟨(e m (by rw [h.1]; decide)).1.trans h.1, fun k hk => (hm k).trans (h.2.1 k hk), (h.2.2.tr e).tr ex_R⟩, e.tr ex_R, by rw [rM_wR, if_pos ⟨rfl, rfl⟩], fun k hk => by rw [rM_wR, if_neg (fun z => hk z.2)]; exact hr k⟩
theorem Sg.NR {Mb : Mm} {j q kd n : Nat} (h : Sg Mb m M) (hq : frs M q) : Sg Mb m (wR (wN M q kd n) m j (some q)) ∧ Ex m M (wR (wN M q kd n) m j (some q)) ∧ rM (wR (wN M q kd n) m j (some q)) m j = some q ∧ (∀ k, k ≠ j → rM (wR (wN M q kd n) m j (some q)) m k = rM M m k) ∧ m < q ∧ kM (wR (wN M q kd n) m j (some q)) q = (kd, n) ∧ kM (wN M q kd n) m = (9, 13) := by
  have hm : m < q := frs_ne hq (by rw [h.1]; decide)
  obtain ⟨a, b, c, d⟩ := h.st (j := j) (q := q) (ex_N (a := m) (kd := kd) (n := n) hq) (fun k => by rw [iM_wN, if_neg (by omega)]) (fun k => by rw [rM_wN, if_neg (by omega)])
  exact ⟨a, b, c, d, hm, by rw [kM_wR, kM_wN, if_pos rfl], by rw [kM_wN, if_neg (by omega)]; exact h.1⟩
theorem Sg.GR {Mb : Mm} {j q n : Nat} (h : Sg Mb m M) (hq : frs M q) : Sg Mb m (wR (wG M q 121 100 100 n) m j (some q)) ∧ Ex m M (wR (wG M q 121 100 100 n) m j (some q)) ∧ rM (wR (wG M q 121 100 100 n) m j (some q)) m j = some q ∧ (∀ k, k ≠ j → rM (wR (wG M q 121 100 100 n) m j (some q)) m k = rM M m k) ∧ m < q ∧ GD (wR (wG M q 121 100 100 n) m j (some q)) q (100, n) ∧ kM (wG M q 121 100 100 n) m = (9, 13) := by
  have hm : m < q := frs_ne hq (by rw [h.1]; decide)
  obtain ⟨a, b, c, d⟩ := h.st (j := j) (q := q) (ex_G (a := m) (kd := 121) (kr := 100) (n := 100) (k := n) hq) (fun k => by rw [iM_wG, if_neg (by omega)]) (fun k => by rw [rM_wG, if_neg (by omega), if_neg (by omega)])
  exact ⟨a, b, c, d, hm, gd_G.ex (show (100 : Nat) ≠ 255 by decide) (ex_R (a := m)) hm, by rw [kM_wG, if_neg (by omega), if_neg (by omega)]; exact h.1⟩
theorem kx {q : Nat} {k : Nat × Nat} (h : kM M q = k) (hk : k.1 ≠ 255) (e : Ex m M M') : kM M' q = k := (e q (by rw [h]; exact hk)).1.trans h
set_option maxRecDepth 100000 in
set_option maxHeartbeats 4000000 in
theorem mk_ref {Cc Zz : Nat} {Q : Mm → Prop} (hq : frs M m) (hc : 300 ≤ Cc) (hz : 20000 ≤ Zz) (kq : ∀ M' P T G O, RF M' m P T G O 0 0 → (∀ b, (kM M b).1 ≠ 255 → kM M' b = kM M b ∧ (∀ j, iM M' b j = iM M b j) ∧ ∀ j, rM M' b j = rM M b j) → Q M') : T_X9_init Cc Zz (wN M m 9 13) m Q := by
  unfold T_X9_init
  have s0 : Sg (wN M m 9 13) m (wN M m 9 13) := ⟨by rw [kM_wN, if_pos rfl], fun j _ => by rw [iM_wN, if_pos rfl], Ex.rf⟩
  generalize hB : wN M m 9 13 = Mb at s0 ⊢
  refine ⟨by omega, by omega, fun q1 h1 => ?_⟩
  obtain ⟨s1, e1, r1, o1, l1, d1, c1⟩ := s0.GR (j := 1) (n := 3) h1
  refine ⟨c1, by omega, by omega, fun q2 h2 => ?_⟩
  generalize wR (wG Mb q1 121 100 100 3) m 1 (some q1) = M1 at *
  obtain ⟨s2, e2, r2, o2, l2, k2, c2⟩ := s1.NR (j := 2) (kd := 101) (n := 100) h2
  refine ⟨c2, by omega, by omega, fun q3 h3 => ?_⟩
  generalize wR (wN M1 q2 101 100) m 2 (some q2) = M2 at *
  obtain ⟨s3, e3, r3, o3, l3, k3, c3⟩ := s2.NR (j := 4) (kd := 121) (n := 160) h3
  refine ⟨c3, by omega, by omega, fun q4 h4 => ?_⟩
  generalize wR (wN M2 q3 121 160) m 4 (some q3) = M3 at *
  obtain ⟨s4, e4, r4, o4, l4, d4, c4⟩ := s3.GR (j := 6) (n := 100) h4
  refine ⟨c4, s4.1, Or.inr rfl, by omega, by omega, fun q5 h5 => ?_⟩
  generalize wR (wG M3 q4 121 100 100 100) m 6 (some q4) = M4 at *
  have s5 : Sg Mb m (wI M4 m 7 1) := ⟨s4.1, fun j hj => by rw [iM_wI, if_neg (fun z => hj z.2)]; exact s4.2.1 j hj, s4.2.2.tr ex_I⟩
  have e5 : Ex m M4 (wI M4 m 7 1) := ex_I
  have i5 : iM (wI M4 m 7 1) m 7 = 1 := by rw [iM_wI, if_pos ⟨rfl, rfl⟩]
  have o5 : ∀ k, rM (wI M4 m 7 1) m k = rM M4 m k := fun _ => rfl
  generalize wI M4 m 7 1 = M5 at *
  obtain ⟨s6, e6, r6, o6, l6, k6, c6⟩ := s5.NR (j := 8) (kd := 121) (n := 160) h5
  refine ⟨c6, by omega, by omega, fun q6 h6 => ?_⟩
  generalize wR (wN M5 q5 121 160) m 8 (some q5) = M6 at *
  obtain ⟨s7, e7, r7, o7, l7, k7, c7⟩ := s6.NR (j := 9) (kd := 101) (n := 100) h6
  refine ⟨c7, ⟨by omega, by omega⟩, s7.1, ?_⟩
  generalize wR (wN M6 q6 101 100) m 9 (some q6) = M7 at *
  have x67 := e6.tr e7
  have x57 := e5.tr x67
  have x47 := e4.tr x57
  have x37 := e3.tr x47
  have x27 := e2.tr x37
  have D1 := d1.ex (by decide) x27 l1
  have D4 := d4.ex (by decide) x57 l4
  have rf : RF M7 m q1 q2 q3 q4 0 0 := ⟨s7.1, by rw [s7.2.1 3 (by decide)]; rfl, by rw [s7.2.1 5 (by decide)]; rfl, by rw [o7 1 (by decide), o6 1 (by decide), o5, o4 1 (by decide), o3 1 (by decide), o2 1 (by decide)]; exact r1, by rw [o7 2 (by decide), o6 2 (by decide), o5, o4 2 (by decide), o3 2 (by decide)]; exact r2, by rw [o7 4 (by decide), o6 4 (by decide), o5, o4 4 (by decide)]; exact r3, by rw [o7 6 (by decide), o6 6 (by decide), o5]; exact r4, D1.1, kx k2 (by decide) x37, kx k3 (by decide) x47, D4.1, D1.2, D4.2, ⟨by omega, by omega⟩, fun f hf => absurd hf (by omega)⟩
  refine t9_table rf (fun M8 h8 => ⟨by omega, by omega, kq M8 q1 q2 q3 q4 h8.1 (fun b hb => ?_)⟩)
  subst hB
  have hbm : b < m := frs_ne hq hb
  obtain ⟨y1, y2⟩ := (Ex.nw (a := m) hq s7.2.2) b hb
  obtain ⟨y3, y4, y5⟩ := y2 (by omega)
  obtain ⟨z1, z2, z3, z4⟩ := h8.2.2.2
  exact ⟨(z1 b).trans y1, fun j => (z4 b (by omega) (fun i hi => by omega) j).trans (y3 j), fun j => (z2 b j).trans (y4 j)⟩
end
