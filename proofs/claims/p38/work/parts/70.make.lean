/-- what stood in M stands in M' as it was, but for the references of a -/
def Ex (a : Nat) (M M' : Mm) : Prop := ∀ b, (kM M b).1 ≠ 255 → kM M' b = kM M b ∧ (b ≠ a → (∀ j, iM M' b j = iM M b j) ∧ (∀ j, rM M' b j = rM M b j) ∧ ∀ j, lM M' b j = lM M b j)
theorem Ex.rf {a : Nat} {M : Mm} : Ex a M M := fun b _ => ⟨rfl, fun _ => ⟨fun _ => rfl, fun _ => rfl, fun _ => rfl⟩⟩
theorem Ex.tr {a : Nat} {M M1 M2 : Mm} (h : Ex a M M1) (h2 : Ex a M1 M2) : Ex a M M2 := fun b hb => by
  obtain ⟨k1, o1⟩ := h b hb
  obtain ⟨k2, o2⟩ := h2 b (by rw [k1]; exact hb)
  exact ⟨k2.trans k1, fun e => ⟨fun j => ((o2 e).1 j).trans ((o1 e).1 j), fun j => ((o2 e).2.1 j).trans ((o1 e).2.1 j), fun j => ((o2 e).2.2 j).trans ((o1 e).2.2 j)⟩⟩
theorem frs_ne {M : Mm} {q b : Nat} (h : frs M q) (hb : (kM M b).1 ≠ 255) : b < q := by
  by_cases e : q ≤ b
  · exact absurd (h b e) hb
  · omega
theorem ex_N {a q kd n : Nat} {M : Mm} (h : frs M q) : Ex a M (wN M q kd n) := fun b hb => by
  have e : b ≠ q := Nat.ne_of_lt (frs_ne h hb)
  exact ⟨by rw [kM_wN, if_neg e], fun _ => ⟨fun j => by rw [iM_wN, if_neg e], fun j => by rw [rM_wN, if_neg e], fun j => by rw [lM_wN, if_neg e]⟩⟩
theorem ex_G {a q kd kr n k : Nat} {M : Mm} (h : frs M q) : Ex a M (wG M q kd kr n k) := fun b hb => by
  have e : b < q := frs_ne h hb
  exact ⟨by rw [kM_wG, if_neg (by omega), if_neg (by omega)], fun _ => ⟨fun j => by rw [iM_wG, if_neg (by omega)], fun j => by rw [rM_wG, if_neg (by omega), if_neg (by omega)], fun j => by rw [lM_wG, if_neg (by omega)]⟩⟩
theorem ex_R {a k : Nat} {v : Option Nat} {M : Mm} : Ex a M (wR M a k v) := fun b _ => ⟨rfl, fun e => ⟨fun _ => rfl, fun j => by rw [rM_wR, if_neg (fun z => e z.1)], fun _ => rfl⟩⟩
theorem ex_I {a k : Nat} {v : Int32} {M : Mm} : Ex a M (wI M a k v) := fun b _ => ⟨rfl, fun e => ⟨fun j => by rw [iM_wI, if_neg (fun z => e z.1)], fun _ => rfl, fun _ => rfl⟩⟩
theorem Ex.nw {a q kd n : Nat} {M M' : Mm} (h : frs M q) (e : Ex q (wN M q kd n) M') : Ex a M M' := fun b hb => by
  have hne : b ≠ q := Nat.ne_of_lt (frs_ne h hb)
  have hk : kM (wN M q kd n) b = kM M b := by rw [kM_wN, if_neg hne]
  obtain ⟨k1, o1⟩ := e b (by rw [hk]; exact hb)
  obtain ⟨o2, o3, o4⟩ := o1 hne
  exact ⟨k1.trans hk, fun _ => ⟨fun j => (o2 j).trans (by rw [iM_wN, if_neg hne]), fun j => (o3 j).trans (by rw [rM_wN, if_neg hne]), fun j => (o4 j).trans (by rw [lM_wN, if_neg hne])⟩⟩
theorem kdL_ne {i : Nat} {k : Nat × Nat} (h : kdL[i]? = some k) : k.1 ≠ 255 := by
  have : ∀ k ∈ kdL, k.1 ≠ 255 := by decide
  exact this _ (List.mem_of_getElem? h)
/-- the mesh's things in the making: those of kdL in their order, the rings of faces apart; all ints 0; L: the references that are set -/
def CS (bs rs : List Nat) (n : Nat) (M : Mm) (L : List (Nat × Nat × Nat)) : Prop :=
  (∀ (i b : Nat), bs[i]? = some b → kdL[i]? = some (kM M b) ∧ ∀ j, iM M b j = 0) ∧
  (∀ (i b : Nat), rs[i]? = some b → kM M b = (if i % 2 = 0 then (5, 2) else (100, 12)) ∧ ∀ j, iM M b j = 0) ∧
  (bs.Nodup ∧ rs.Nodup ∧ ∀ a ∈ bs, ∀ b ∈ rs, a ≠ b) ∧
  (∀ r ∈ L, ∃ b c : Nat, bs[r.1]? = some b ∧ bs[r.2.2]? = some c ∧ rM M b r.2.1 = some c) ∧
  rs.length = 2 * n ∧
  ∀ f, f < n → ∃ q o w : Nat, bs[8]? = some q ∧ rs[2 * f]? = some o ∧ rs[2 * f + 1]? = some w ∧ rM M q f = some o ∧ rM M o 0 = some w
section
variable {bs rs : List Nat} {n : Nat} {M M' : Mm} {L : List (Nat × Nat × Nat)}
theorem CS.old (h : CS bs rs n M L) {b : Nat} (hb : b ∈ bs ∨ b ∈ rs) : (kM M b).1 ≠ 255 := by
  rcases hb with hb | hb
  · obtain ⟨i, hi⟩ := List.getElem?_of_mem hb
    exact kdL_ne (h.1 i b hi).1
  · obtain ⟨i, hi⟩ := List.getElem?_of_mem hb
    rw [(h.2.1 i b hi).1]
    split <;> decide
theorem CS.k (h : CS bs rs n M L) (i : Nat) {b : Nat} {k : Nat × Nat} (hb : bs[i]? = some b) (hk : kdL[i]? = some k) : kM M b = k := by
  have := (h.1 i b hb).1
  rw [hk] at this
  exact (Option.some.inj this).symm
theorem CS.r (h : CS bs rs n M L) (r : Nat × Nat × Nat) (hr : r ∈ L) {b c : Nat} (hb : bs[r.1]? = some b) (hc : bs[r.2.2]? = some c) : rM M b r.2.1 = some c := by
  obtain ⟨b', c', h1, h2, h3⟩ := h.2.2.2.1 r hr
  rw [hb] at h1
  rw [hc] at h2
  cases h1
  cases h2
  exact h3
theorem CS.go (h : CS bs rs n M L) (e : ∀ b, b ∈ bs ∨ b ∈ rs → kM M' b = kM M b ∧ (∀ j, iM M' b j = iM M b j) ∧ ∀ j, rM M' b j = rM M b j) : CS bs rs n M' L := by
  obtain ⟨h1, h2, h3, h4, h5, h6⟩ := h
  refine ⟨fun i b hb => ?_, fun i b hb => ?_, h3, fun r hr => ?_, h5, fun f hf => ?_⟩
  · obtain ⟨e1, e2, e3⟩ := e b (Or.inl (List.mem_of_getElem? hb))
    exact ⟨by rw [e1]; exact (h1 i b hb).1, fun j => (e2 j).trans ((h1 i b hb).2 j)⟩
  · obtain ⟨e1, e2, e3⟩ := e b (Or.inr (List.mem_of_getElem? hb))
    exact ⟨by rw [e1]; exact (h2 i b hb).1, fun j => (e2 j).trans ((h2 i b hb).2 j)⟩
  · obtain ⟨b, c, g1, g2, g3⟩ := h4 r hr
    exact ⟨b, c, g1, g2, by rw [(e b (Or.inl (List.mem_of_getElem? g1))).2.2]; exact g3⟩
  · obtain ⟨q, o, w, g1, g2, g3, g4, g5⟩ := h6 f hf
    exact ⟨q, o, w, g1, g2, g3, by rw [(e q (Or.inl (List.mem_of_getElem? g1))).2.2]; exact g4, by rw [(e o (Or.inr (List.mem_of_getElem? g2))).2.2]; exact g5⟩
theorem CS.ex (h : CS bs rs n M L) {a : Nat} (e : Ex a M M') (ha : a ∉ bs ∧ a ∉ rs) : CS bs rs n M' L := h.go (fun b hb => by
  obtain ⟨k1, o1⟩ := e b (h.old hb)
  have hne : b ≠ a := fun z => by subst z; rcases hb with q | q; exact ha.1 q; exact ha.2 q
  exact ⟨k1, (o1 hne).1, (o1 hne).2.1⟩)
theorem CS.nin (h : CS bs rs n M L) {q : Nat} (hq : (kM M q).1 = 255) : q ∉ bs ∧ q ∉ rs := ⟨fun z => h.old (Or.inl z) hq, fun z => h.old (Or.inr z) hq⟩
theorem app_at {xs : List Nat} {q i b : Nat} (h : (xs ++ [q])[i]? = some b) : xs[i]? = some b ∨ (i = xs.length ∧ b = q) := by
  by_cases hi : i < xs.length
  · rw [List.getElem?_append_left hi] at h
    exact Or.inl h
  · rw [List.getElem?_append_right (by omega)] at h
    have hl : i - xs.length < 1 := (List.getElem?_eq_some_iff.mp h).1
    have e : i = xs.length := by omega
    subst e
    rw [Nat.sub_self] at h
    exact Or.inr ⟨rfl, (Option.some.inj h).symm⟩
theorem app_old {xs ys : List Nat} {i b : Nat} (h : xs[i]? = some b) : (xs ++ ys)[i]? = some b := by
  rw [List.getElem?_append_left (List.getElem?_eq_some_iff.mp h).1]
  exact h
theorem nd_app {xs : List Nat} {q : Nat} (h : xs.Nodup) (hq : q ∉ xs) : (xs ++ [q]).Nodup := List.nodup_append.mpr ⟨h, by simp, fun a ha b hb => by
  have : b = q := by simpa using hb
  subst this
  exact fun z => hq (z ▸ ha)⟩
theorem CS.add (h : CS bs rs n M L) {q : Nat} (hq : q ∉ bs ∧ q ∉ rs) (hk : kdL[bs.length]? = some (kM M q)) (hi : ∀ j, iM M q j = 0) : CS (bs ++ [q]) rs n M L := by
  obtain ⟨h1, h2, h3, h4, h5, h6⟩ := h
  refine ⟨fun i b hb => ?_, h2, ⟨nd_app h3.1 hq.1, h3.2.1, fun a ha b hb => ?_⟩, fun r hr => ?_, h5, fun f hf => ?_⟩
  · rcases app_at hb with g | ⟨g1, g2⟩
    · exact h1 i b g
    · subst g1; subst g2
      exact ⟨hk, hi⟩
  · rcases List.mem_append.mp ha with g | g
    · exact h3.2.2 a g b hb
    · have : a = q := by simpa using g
      subst this
      exact fun z => hq.2 (z ▸ hb)
  · obtain ⟨b, c, g1, g2, g3⟩ := h4 r hr
    exact ⟨b, c, app_old g1, app_old g2, g3⟩
  · obtain ⟨q, o, w, g1, g2, g3, g4, g5⟩ := h6 f hf
    exact ⟨q, o, w, app_old g1, g2, g3, g4, g5⟩
theorem CS.new (h : CS bs rs n M L) {q kd len : Nat} (hq : frs M q) (hk : kdL[bs.length]? = some (kd, len)) : CS (bs ++ [q]) rs n (wN M q kd len) L :=
  (h.ex (ex_N (a := q) hq) (h.nin (hq q (Nat.le_refl _)))).add (h.nin (hq q (Nat.le_refl _))) (by rw [kM_wN, if_pos rfl]; exact hk) (fun j => by rw [iM_wN, if_pos rfl])
theorem CS.refOf (h : CS bs rs n M L) {i j t b c : Nat} (hb : bs[i]? = some b) (hc : bs[t]? = some c) (hr : rM M b j = some c) : CS bs rs n M ((i, j, t) :: L) :=
  ⟨h.1, h.2.1, h.2.2.1, fun r hr' => by
    rcases List.mem_cons.mp hr' with e | e
    · subst e; exact ⟨b, c, hb, hc, hr⟩
    · exact h.2.2.2.1 r e, h.2.2.2.2⟩
theorem CS.ref (h : CS bs rs n M L) {i j t b c : Nat} (hb : bs[i]? = some b) (hc : bs[t]? = some c) (hi : i ≠ 8) (hL : ∀ r ∈ L, r.1 = i → r.2.1 ≠ j) : CS bs rs n (wR M b j (some c)) ((i, j, t) :: L) := by
  obtain ⟨h1, h2, h3, h4, h5, h6⟩ := h
  have hil : i < bs.length := (List.getElem?_eq_some_iff.mp hb).1
  refine CS.refOf (M := wR M b j (some c)) ⟨h1, h2, h3, fun r hr => ?_, h5, fun f hf => ?_⟩ hb hc (by rw [rM_wR, if_pos ⟨rfl, rfl⟩])
  · obtain ⟨b', c', g1, g2, g3⟩ := h4 r hr
    refine ⟨b', c', g1, g2, ?_⟩
    rw [rM_wR, if_neg (fun z => ?_)]
    · exact g3
    · have e : i = r.1 := (List.getElem?_inj hil h3.1).mp (by rw [hb, g1, z.1])
      exact hL r hr e.symm z.2
  · obtain ⟨q, o, w, g1, g2, g3, g4, g5⟩ := h6 f hf
    refine ⟨q, o, w, g1, g2, g3, ?_, ?_⟩
    · rw [rM_wR, if_neg (fun z => ?_)]
      · exact g4
      · exact hi ((List.getElem?_inj hil h3.1).mp (by rw [hb, g1, z.1]))
    · rw [rM_wR, if_neg (fun z => ?_)]
      · exact g5
      · exact h3.2.2 b (List.mem_of_getElem? hb) o (List.mem_of_getElem? g2) z.1.symm
theorem CS.grid (h : CS bs rs n M L) {q : Nat} (hq : frs M q) (hk : kdL[bs.length]? = some (121, 3)) (hk1 : kdL[bs.length + 1]? = some (100, 100)) (hk2 : kdL[bs.length + 2]? = some (100, 100)) (hk3 : kdL[bs.length + 3]? = some (100, 100)) :
    CS ((((bs ++ [q]) ++ [q + 1]) ++ [q + 2]) ++ [q + 3]) rs n (wG M q 121 100 3 100) ((bs.length, 2, bs.length + 3) :: (bs.length, 1, bs.length + 2) :: (bs.length, 0, bs.length + 1) :: L) := by
  have n0 := h.nin (hq q (Nat.le_refl _))
  have n1 := h.nin (hq (q + 1) (by omega))
  have n2 := h.nin (hq (q + 2) (by omega))
  have n3 := h.nin (hq (q + 3) (by omega))
  have c0 : CS bs rs n (wG M q 121 100 3 100) L := h.ex (ex_G (a := q) hq) n0
  have c1 := c0.add (q := q) n0 (by rw [kM_wG, if_pos rfl]; exact hk) (fun j => by rw [iM_wG, if_pos (by omega)])
  have c2 := c1.add (q := q + 1) ⟨fun z => by
      rcases List.mem_append.mp z with y | y
      · exact n1.1 y
      · have := List.mem_singleton.mp y; omega, n1.2⟩ (by rw [kM_wG, if_neg (by omega), if_pos (by omega), List.length_append]; exact hk1) (fun j => by rw [iM_wG, if_pos (by omega)])
  have c3 := c2.add (q := q + 2) ⟨fun z => by
      rcases List.mem_append.mp z with y | y
      · rcases List.mem_append.mp y with y | y
        · exact n2.1 y
        · have := List.mem_singleton.mp y; omega
      · have := List.mem_singleton.mp y; omega, n2.2⟩ (by rw [kM_wG, if_neg (by omega), if_pos (by omega), List.length_append, List.length_append]; exact hk2) (fun j => by rw [iM_wG, if_pos (by omega)])
  have c4 := c3.add (q := q + 3) ⟨fun z => by
      rcases List.mem_append.mp z with y | y
      · rcases List.mem_append.mp y with y | y
        · rcases List.mem_append.mp y with y | y
          · exact n3.1 y
          · have := List.mem_singleton.mp y; omega
        · have := List.mem_singleton.mp y; omega
      · have := List.mem_singleton.mp y; omega, n3.2⟩ (by rw [kM_wG, if_neg (by omega), if_pos (by omega), List.length_append, List.length_append, List.length_append]; exact hk3) (fun j => by rw [iM_wG, if_pos (by omega)])
  have b0 : ((((bs ++ [q]) ++ [q + 1]) ++ [q + 2]) ++ [q + 3])[bs.length]? = some q := by simp
  have b1 : ((((bs ++ [q]) ++ [q + 1]) ++ [q + 2]) ++ [q + 3])[bs.length + 1]? = some (q + 1) := by simp [List.append_assoc]
  have b2 : ((((bs ++ [q]) ++ [q + 1]) ++ [q + 2]) ++ [q + 3])[bs.length + 2]? = some (q + 2) := by simp [List.append_assoc]
  have b3 : ((((bs ++ [q]) ++ [q + 1]) ++ [q + 2]) ++ [q + 3])[bs.length + 3]? = some (q + 3) := by simp [List.append_assoc]
  refine ((c4.refOf b0 b1 ?_).refOf b0 b2 ?_).refOf b0 b3 ?_
  · rw [rM_wG, if_pos rfl, if_pos (by omega)]
  · rw [rM_wG, if_pos rfl, if_pos (by omega)]
  · rw [rM_wG, if_pos rfl, if_pos (by omega)]
theorem CS.ring (h : CS bs rs n M L) {q8 o w : Nat} (h8 : bs[8]? = some q8) (hL : ∀ r ∈ L, r.1 ≠ 8) (ho : frs M o) (hw : frs (wN M o 5 2) w) : CS bs (rs ++ [o, w]) (n + 1) (wR (wR (wN (wN M o 5 2) w 100 12) o 0 (some w)) q8 n (some o)) L := by
  have no := h.nin (ho o (Nat.le_refl _))
  have how : o < w := frs_ne hw (by rw [kM_wN, if_pos rfl]; decide)
  have nw := h.nin (ho w (by omega))
  have e1 : Ex o M (wR (wN (wN M o 5 2) w 100 12) o 0 (some w)) := ((ex_N ho).tr (ex_N hw)).tr ex_R
  obtain ⟨h1, h2, h3, h4, h5, h6⟩ := h.ex e1 no
  have m8 := List.mem_of_getElem? h8
  have hl : bs.length > 8 := (List.getElem?_eq_some_iff.mp h8).1
  have l0 : (rs ++ [o, w])[2 * n]? = some o := by rw [← h5]; simp
  have l1 : (rs ++ [o, w])[2 * n + 1]? = some w := by rw [← h5]; simp
  have ke : ∀ x, kM (wR (wR (wN (wN M o 5 2) w 100 12) o 0 (some w)) q8 n (some o)) x = kM (wR (wN (wN M o 5 2) w 100 12) o 0 (some w)) x := fun _ => rfl
  have ie : ∀ x j, iM (wR (wR (wN (wN M o 5 2) w 100 12) o 0 (some w)) q8 n (some o)) x j = iM (wR (wN (wN M o 5 2) w 100 12) o 0 (some w)) x j := fun _ _ => rfl
  refine ⟨fun i b hb => ?_, fun i b hb => ?_, ⟨h3.1, ?_, fun a ha b hb => ?_⟩, fun r hr => ?_, by simp [h5]; omega, fun f hf => ?_⟩
  · rw [ke]
    exact ⟨(h1 i b hb).1, fun j => by rw [ie]; exact (h1 i b hb).2 j⟩
  · by_cases hi : i < rs.length
    · rw [List.getElem?_append_left hi] at hb
      rw [ke]
      exact ⟨(h2 i b hb).1, fun j => by rw [ie]; exact (h2 i b hb).2 j⟩
    · rw [List.getElem?_append_right (by omega)] at hb
      have hl : i - rs.length < 2 := (List.getElem?_eq_some_iff.mp hb).1
      rcases (show i - rs.length = 0 ∨ i - rs.length = 1 by omega) with z | z
      · rw [z] at hb
        have e : o = b := Option.some.inj hb
        subst e
        rw [ke, if_pos (by omega)]
        refine ⟨by rw [kM_wR, kM_wN, if_neg (by omega), kM_wN, if_pos rfl], fun j => ?_⟩
        rw [ie, iM_wR, iM_wN, if_neg (by omega), iM_wN, if_pos rfl]
      · rw [z] at hb
        have e : w = b := Option.some.inj hb
        subst e
        rw [ke, if_neg (by omega)]
        refine ⟨by rw [kM_wR, kM_wN, if_pos rfl], fun j => ?_⟩
        rw [ie, iM_wR, iM_wN, if_pos rfl]
  · refine List.nodup_append.mpr ⟨h3.2.1, ?_, fun a ha b hb => ?_⟩
    · simp; omega
    · simp only [List.mem_cons, List.not_mem_nil, or_false] at hb
      rcases hb with rfl | rfl
      · exact fun z => no.2 (z ▸ ha)
      · exact fun z => nw.2 (z ▸ ha)
  · rcases List.mem_append.mp hb with g | g
    · exact h3.2.2 a ha b g
    · simp only [List.mem_cons, List.not_mem_nil, or_false] at g
      rcases g with rfl | rfl
      · exact fun z => no.1 (z ▸ ha)
      · exact fun z => nw.1 (z ▸ ha)
  · obtain ⟨b, c, g1, g2, g3⟩ := h4 r hr
    refine ⟨b, c, g1, g2, ?_⟩
    rw [rM_wR, if_neg (fun z => ?_)]
    · exact g3
    · exact hL r hr ((List.getElem?_inj (by have := (List.getElem?_eq_some_iff.mp g1).1; exact this) h3.1).mp (by rw [g1, h8, z.1]))
  · by_cases e : f = n
    · subst e
      refine ⟨q8, o, w, h8, l0, l1, by rw [rM_wR, if_pos ⟨rfl, rfl⟩], ?_⟩
      rw [rM_wR, if_neg (fun z : o = q8 ∧ 0 = _ => no.1 (z.1 ▸ m8)), rM_wR, if_pos ⟨rfl, rfl⟩]
    · obtain ⟨q, o2, w2, g1, g2, g3, g4, g5⟩ := h6 f (by omega)
      have g2' : o2 ∈ rs := List.mem_of_getElem? g2
      refine ⟨q, o2, w2, g1, app_old g2, app_old g3, ?_, ?_⟩
      · rw [rM_wR, if_neg (fun z => e z.2)]; exact g4
      · rw [rM_wR, if_neg (fun z => h3.2.2 q8 m8 o2 g2' z.1.symm)]; exact g5
end
theorem mk_rings {K : Nat → Int32 → Mm → Nat → Nat → Prop} {Cc Zz : Nat} {Q : Mm → Prop} {a0 q8 : Nat} {bs : List Nat} {L : List (Nat × Nat × Nat)} (hK : ∀ (a0 : Nat) (i1 : Int32) (M : Mm) (cc zz : Nat), S_X1_init_36 K Cc Zz Q M a0 i1 cc zz → K a0 i1 M cc zz)
    (h7 : bs[7]? = some a0) (h8 : bs[8]? = some q8) (hL : (7, 0, 8) ∈ L ∧ ∀ r ∈ L, r.1 ≠ 8) {c z : Nat} (hc : c + 320 ≤ Cc) (hz : z + 2240 ≤ Zz) (kq : ∀ rs M, CS bs rs 160 M L → Q M) :
    ∀ d n rs M, d + n = 160 → CS bs rs n M L → K a0 (nI n) M (c + 2 * n) (z + 14 * n) := by
  intro d
  have e160 : (160 : Int32) = nI 160 := rfl
  induction d with
  | zero =>
    intro n rs M hd h
    have : n = 160 := by omega
    subst this
    refine hK _ _ _ _ _ ⟨fun _ => ⟨by omega, by omega, kq rs M h⟩, fun q => absurd (by rw [e160]; exact nI_le (Nat.le_refl _) (by omega)) q⟩
  | succ d ih =>
    intro n rs M hd h
    refine hK _ _ _ _ _ ⟨fun q => absurd q (by rw [e160]; exact nI_ge (by omega) (by omega)), fun _ => ?_⟩
    refine ⟨h.k 7 h7 rfl, q8, h.r (7, 0, 8) hL.1 h7 h8, by omega, by omega, fun o ho => ⟨1, 12, ⟨by omega, by omega⟩, ?_⟩⟩
    unfold T_X5_init
    refine ⟨by omega, by omega, fun w hw => ?_⟩
    have how : o < w := frs_ne hw (by rw [kM_wN, if_pos rfl]; decide)
    have no := h.nin (ho o (Nat.le_refl _))
    have ko : kM (wN (wN M o 5 2) w 100 12) o = (5, 2) := by rw [kM_wN, if_neg (by omega), kM_wN, if_pos rfl]
    have hx : CS bs rs n (wR (wN (wN M o 5 2) w 100 12) o 0 (some w)) L := h.ex (((ex_N (a := o) ho).tr (ex_N hw)).tr ex_R) no
    refine ⟨ko, by omega, by omega, 160, hx.k 8 h8 rfl, vp_in_nI (by omega) (by omega), ko, ?_⟩
    rw [nI_clamp (by omega), nI_1]
    have := ih (n + 1) _ _ (by omega) (h.ring h8 hL.2 ho hw)
    rw [show c + 2 * (n + 1) = c + 2 * n + 1 + 1 by omega, show z + 14 * (n + 1) = z + 14 * n + 2 + 12 by omega] at this
    exact this
