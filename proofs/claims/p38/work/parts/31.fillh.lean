section
variable {rs : Nat → List Nat} {ow : Nat → Nat → Nat}
theorem cy_add (u v : Nat) (m : Nat) : ∀ k, cy rs ow (cy rs ow u v m).1 (cy rs ow u v m).2 k = cy rs ow u v (m + k) := by
  intro k
  induction k with
  | zero => rfl
  | succ k ih =>
    show ((cy rs ow (cy rs ow u v m).1 (cy rs ow u v m).2 k).2, nx rs ow (cy rs ow (cy rs ow u v m).1 (cy rs ow u v m).2 k).1 (cy rs ow (cy rs ow u v m).1 (cy rs ow u v m).2 k).2) = _
    rw [ih]
    rfl
theorem cy_per {u v L : Nat} (h : cy rs ow u v L = (u, v)) : ∀ m, cy rs ow u v (m * L) = (u, v) := by
  intro m
  induction m with
  | zero => rw [Nat.zero_mul]; rfl
  | succ m ih =>
    rw [Nat.succ_mul, ← cy_add, ih]
    exact h
/-- in the row of (u, v) -/
def inO (rs : Nat → List Nat) (ow : Nat → Nat → Nat) (u v : Nat) (h : Nat × Nat) : Prop := ∃ j, cy rs ow u v j = h
theorem ok_back (o : Ok rs ow) {u v L : Nat} (hh : hO ow (u, v)) (hL : 0 < L) (hc : cy rs ow u v L = (u, v)) {h : Nat × Nat} (h1 : hO ow h) (e : inO rs ow u v (h.2, nx rs ow h.1 h.2)) : inO rs ow u v h := by
  obtain ⟨j, ej⟩ := e
  have hO' := cy_o (ok_nx o) hh
  cases j with
  | zero =>
    obtain ⟨m, rfl⟩ : ∃ m, L = m + 1 := ⟨L - 1, by omega⟩
    have e2 : cy rs ow u v (m + 1) = (h.2, nx rs ow h.1 h.2) := by rw [hc]; exact ej
    exact ⟨m, ok_step o (hO' m) h1 e2⟩
  | succ j => exact ⟨j, ok_step o (hO' j) h1 ej⟩
/-- marks that one can go back from have a whole row or nothing of it -/
theorem bk_all (o : Ok rs ow) {now u v L : Nat} {g : Nat → Nat → Nat} (hb : BK rs ow now g) (hh : hO ow (u, v)) (hL : 0 < L) (hc : cy rs ow u v L = (u, v)) (j : Nat) : g (cy rs ow u v j).1 (cy rs ow u v j).2 = now ↔ g u v = now := by
  have hO' := cy_o (ok_nx o) hh
  have down : ∀ d j, g (cy rs ow u v (j + d)).1 (cy rs ow u v (j + d)).2 = now → g (cy rs ow u v j).1 (cy rs ow u v j).2 = now := by
    intro d
    induction d with
    | zero => intro j h; exact h
    | succ d ih => intro j h; exact ih j (hb _ (hO' (j + d)) h)
  constructor
  · intro h
    have := down j 0 (by rw [Nat.zero_add]; exact h)
    exact this
  · intro h
    have e := cy_per hc j
    have : j * L = j + (j * L - j) := by have := Nat.le_mul_of_pos_right j hL; omega
    refine down (j * L - j) j ?_
    rw [← this, e]
    exact h
/-- the mesh with the row of (u, v) filled by F -/
def Filled (rs : Nat → List Nat) (ow : Nat → Nat → Nat) (u v F : Nat) (rs2 : Nat → List Nat) (ow2 : Nat → Nat → Nat) : Prop :=
  (∀ a b, (inO rs ow u v (a, b) → ow2 a b = F + 1) ∧ (¬ inO rs ow u v (a, b) → ow2 a b = ow a b)) ∧ rs F = [] ∧ ∀ f, f ≠ F → rs2 f = rs f
theorem fill_nx (o : Ok rs ow) {u v F L : Nat} {rs2 : Nat → List Nat} {ow2 : Nat → Nat → Nat} (hh : hO ow (u, v)) (hL : 0 < L) (hc : cy rs ow u v L = (u, v)) (fl : Filled rs ow u v F rs2 ow2) {h : Nat × Nat} (h1 : hO ow h) (hn : ¬ inO rs ow u v h) : nx rs2 ow2 h.1 h.2 = nx rs ow h.1 h.2 := by
  have hO' := cy_o (ok_nx o) hh
  obtain ⟨n1, n2, n3⟩ := ok_nx o h.1 h.2 h1.1 h1.2.1 h1.2.2
  have hn2 : ¬ inO rs ow u v (h.2, nx rs ow h.1 h.2) := fun z => hn (ok_back o hh hL hc h1 z)
  have key : ∀ n c d, nO rs ow h.2 n c = some d → ow2 h.2 d = 0 → nO rs2 ow2 h.2 n c = some d := by
    intro n
    induction n with
    | zero => intro c d z _; cases z
    | succ n ih =>
      intro c d z h0
      have z : (if ow h.2 c = 0 then some c else nO rs ow h.2 n (bef rs (ow h.2 c - 1) h.2)) = some d := z
      show (if ow2 h.2 c = 0 then some c else nO rs2 ow2 h.2 n (bef rs2 (ow2 h.2 c - 1) h.2)) = some d
      by_cases e : ow h.2 c = 0
      · rw [if_pos e] at z
        have z2 := Option.some.inj z
        rw [z2, if_pos h0]
      · rw [if_neg e] at z
        have hno : ¬ inO rs ow u v (h.2, c) := by
          rintro ⟨j, ej⟩
          have := (hO' j).2.2.1
          rw [ej] at this
          exact e this
        rw [(fl.1 h.2 c).2 hno, if_neg e]
        have hm := (o.1.mem e).2.1
        have hF : ow h.2 c - 1 ≠ F := by
          intro q
          rw [q, fl.2.1] at hm
          exact absurd hm List.not_mem_nil
        have eb : bef rs2 (ow h.2 c - 1) h.2 = bef rs (ow h.2 c - 1) h.2 := by
          unfold bef
          rw [fl.2.2 _ hF]
        rw [eb]
        exact ih _ _ z h0
  have := key 100 h.1 _ n1 (by rw [(fl.1 _ _).2 hn2]; exact n3.1)
  show (nO rs2 ow2 h.2 100 h.1).getD 0 = _
  rw [this]
  rfl
/-- marks of the mesh and of the filled one -/
def Rm (rs : Nat → List Nat) (ow : Nat → Nat → Nat) (u v now : Nat) (g g2 : Nat → Nat → Nat) : Prop := ∀ a b, a < 100 → b < 100 → (g2 a b = now ↔ g a b = now ∧ ¬ inO rs ow u v (a, b))
theorem fill_mh (o : Ok rs ow) {u v F L now : Nat} {rs2 : Nat → List Nat} {ow2 : Nat → Nat → Nat} (hh : hO ow (u, v)) (hL : 0 < L) (hc : cy rs ow u v L = (u, v)) (fl : Filled rs ow u v F rs2 ow2) : ∀ k x y (g g2 : Nat → Nat → Nat), hO ow (x, y) → ¬ inO rs ow u v (x, y) → Rm rs ow u v now g g2 → (mh rs ow now k x y g).1 = (mh rs2 ow2 now k x y g2).1 ∧ Rm rs ow u v now (mh rs ow now k x y g).2 (mh rs2 ow2 now k x y g2).2 ∧ ((mh rs ow now k x y g).2 u v = now ↔ g u v = now) := by
  intro k
  induction k with
  | zero => intro x y g g2 _ _ r; exact ⟨rfl, r, Iff.rfl⟩
  | succ k ih =>
    intro x y g g2 h1 hn r
    have hr := r x y h1.1 h1.2.1
    unfold mh
    by_cases e : g x y = now
    · rw [if_pos e, if_pos (hr.mpr ⟨e, hn⟩)]
      exact ⟨rfl, r, Iff.rfl⟩
    · rw [if_neg e, if_neg (fun q => e (hr.mp q).1)]
      have en : nx rs2 ow2 x y = nx rs ow x y := fill_nx o hh hL hc fl h1 hn
      rw [en]
      have h2 : hO ow (y, nx rs ow x y) := cy_o (ok_nx o) h1 1
      have hn2 : ¬ inO rs ow u v (y, nx rs ow x y) := fun z => hn (ok_back o hh hL hc h1 z)
      have r2 : Rm rs ow u v now (upO g x y now) (upO g2 x y now) := by
        intro a b ha hb
        unfold upO
        by_cases q : a = x ∧ b = y
        · rw [if_pos q, if_pos q, q.1, q.2]
          exact ⟨fun _ => ⟨rfl, hn⟩, fun _ => rfl⟩
        · rw [if_neg q, if_neg q]; exact r a b ha hb
      obtain ⟨i1, i2, i3⟩ := ih y (nx rs ow x y) _ _ h2 hn2 r2
      refine ⟨congrArg (· + 1) i1, i2, i3.trans ?_⟩
      unfold upO
      rw [if_neg (fun q => hn ⟨0, by rw [← q.1, ← q.2]; rfl⟩)]
/-- holes counted in the mesh and in the filled one -/
def Rs (rs : Nat → List Nat) (ow : Nat → Nat → Nat) (u v now : Nat) (s t : Nat × (Nat → Nat → Nat)) : Prop := Rm rs ow u v now s.2 t.2 ∧ ((s.2 u v = now → s.1 = t.1 + 1) ∧ (s.2 u v ≠ now → s.1 = t.1))
theorem fill_step (o : Ok rs ow) {u v F L now x y : Nat} {rs2 : Nat → List Nat} {ow2 : Nat → Nat → Nat} {s t : Nat × (Nat → Nat → Nat)} (hh : hO ow (u, v)) (hL : 0 < L) (hc : cy rs ow u v L = (u, v)) (fl : Filled rs ow u v F rs2 ow2) (hx : x < 100) (hy : y < 100) (ho : ow y x ≠ 0) (hb : BK rs ow now s.2) (r : Rs rs ow u v now s t) : Rs rs ow u v now (s.1 + (if (mhO rs ow now x y s.2).1 = 0 then 0 else 1), (mhO rs ow now x y s.2).2) (t.1 + (if (mhO rs2 ow2 now x y t.2).1 = 0 then 0 else 1), (mhO rs2 ow2 now x y t.2).2) := by
  unfold mhO
  have hyx : ow2 y x ≠ 0 := by
    by_cases q : inO rs ow u v (y, x)
    · rw [(fl.1 y x).1 q]; omega
    · rw [(fl.1 y x).2 q]; exact ho
  by_cases q : inO rs ow u v (x, y)
  · have e2 : ¬ opn ow2 x y := fun z => by have := (fl.1 x y).1 q; have z1 : ow2 x y = 0 := z.1; omega
    rw [if_neg e2]
    obtain ⟨j, ej⟩ := q
    have h1 := cy_o (ok_nx o) hh j
    rw [ej] at h1
    rw [if_pos h1.2.2]
    have hall := bk_all o hb hh hL hc j
    rw [ej] at hall
    by_cases e : s.2 x y = now
    · have e0 : mh rs ow now 1920 x y s.2 = (0, s.2) := by unfold mh; rw [if_pos e]
      rw [e0]
      exact r
    · obtain ⟨w1, w2, w3⟩ := ok_walk o h1 hb e
      obtain ⟨a1, a2, a3, a4⟩ := mh_at (rs := rs) (ow := ow) now 1920 x y s.2
      have huv : (mh rs ow now 1920 x y s.2).2 u v = now := by
        have := (bk_all o w2 hh hL hc j).mp (by rw [ej]; exact (a1 x y).mpr (Or.inr ⟨0, by omega, rfl⟩))
        exact this
      refine ⟨fun a b ha hb' => ?_, fun _ => ?_, fun z => absurd huv z⟩
      · show t.2 a b = now ↔ (mh rs ow now 1920 x y s.2).2 a b = now ∧ _
        rw [r.1 a b ha hb', a1]
        constructor
        · exact fun z => ⟨Or.inl z.1, z.2⟩
        · rintro ⟨z | ⟨i, hi, ei⟩, zn⟩
          · exact ⟨z, zn⟩
          · refine absurd ⟨j + i, ?_⟩ zn
            rw [← cy_add, ej]
            exact ei
      · have := r.2.2 (fun z => e (hall.mpr z))
        show s.1 + (if _ = 0 then 0 else 1) = t.1 + 0 + 1
        rw [if_neg (by omega)]
        omega
  · by_cases e : opn ow x y
    · have e2 : opn ow2 x y := ⟨by rw [(fl.1 x y).2 q]; exact e.1, hyx⟩
      rw [if_pos e, if_pos e2]
      obtain ⟨i1, i2, i3⟩ := fill_mh o hh hL hc fl 1920 x y s.2 t.2 ⟨hx, hy, e⟩ q r.1 (now := now)
      refine ⟨i2, fun z => ?_, fun z => ?_⟩
      · have := r.2.1 (i3.mp z)
        show s.1 + (if (mh rs ow now 1920 x y s.2).1 = 0 then 0 else 1) = t.1 + (if (mh rs2 ow2 now 1920 x y t.2).1 = 0 then 0 else 1) + 1
        rw [i1]
        omega
      · have := r.2.2 (fun y => z (i3.mpr y))
        show s.1 + (if (mh rs ow now 1920 x y s.2).1 = 0 then 0 else 1) = t.1 + (if (mh rs2 ow2 now 1920 x y t.2).1 = 0 then 0 else 1)
        rw [i1]
        omega
    · have e2 : ¬ opn ow2 x y := by
        intro z
        have z1 : ow2 x y = 0 := z.1
        rw [(fl.1 x y).2 q] at z1
        exact e ⟨z1, ho⟩
      rw [if_neg e, if_neg e2]
      exact r
end
