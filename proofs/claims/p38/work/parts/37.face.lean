section
abbrev xIO : String := "java/lang/IndexOutOfBoundsException"
abbrev xIA : String := "java/lang/IllegalArgumentException"
abbrev xIS : String := "java/lang/IllegalStateException"
abbrev xE (E : String) : Prop := E = xIO ∨ E = xIA ∨ E = xIS
section
variable {A : Nat → Nat} {M M' : Mm} {B : Nat} {rs : Nat → List Nat} {ow : Nat → Nat → Nat} {th : Nat → Bool} {ps : Nat → Nat → Int32} {fe fl pe pl : Nat} {Cc Zz : Nat}
theorem n_arg {r : Int32} {Q : Mm → Prop} {X : String → Mm → Prop} (hc : 1 ≤ Cc) (hz : 6 ≤ Zz) (q : ¬ r = 0 → Q M) (hx : r = 0 → X xIA M) : T_X8_needArgument Cc Zz M r Q X := by
  unfold T_X8_needArgument
  exact ⟨fun z => ⟨by omega, by omega, q z⟩, fun z => ⟨by omega, by omega, hx z⟩⟩
theorem n_stt {r : Int32} {Q : Mm → Prop} {X : String → Mm → Prop} (hc : 1 ≤ Cc) (hz : 6 ≤ Zz) (q : ¬ r = 0 → Q M) (hx : r = 0 → X xIS M) : T_X8_needState Cc Zz M r Q X := by
  unfold T_X8_needState
  exact ⟨fun z => ⟨by omega, by omega, q z⟩, fun z => ⟨by omega, by omega, hx z⟩⟩
theorem n_pt {x : Int32} {Q : Mm → Prop} {X : String → Mm → Prop} (h : SD A M B rs ow th ps fe fl pe pl) (hc : 1 ≤ Cc) (hz : 6 ≤ Zz) (q : ∀ p, p < 100 → x = nI p → th p = true → Q M) (hX : (∀ p, p < 100 → x = nI p → th p = false) → X xIO M) : T_X8_needPoint Cc Zz M (A 0) x Q X := by
  unfold T_X8_needPoint
  exact ⟨h.sh.k 0, A 1, h.sh.r 0 0 1, ⟨by omega, by omega⟩, h.sh.k 1, t_phas h.2.2.1 (fun p hp e ht => ⟨fun _ => ⟨by omega, by omega, q p hp e ht⟩, fun z => absurd z (by decide)⟩) (fun n => ⟨fun z => absurd rfl z, fun _ => ⟨by omega, by omega, hX n⟩⟩)⟩
/-- both are points that are there -/
def two (th : Nat → Bool) (x y : Int32) : Prop := ∃ a b, a < 100 ∧ b < 100 ∧ x = nI a ∧ y = nI b ∧ th a = true ∧ th b = true
theorem n_pts {x y : Int32} {Q : Mm → Prop} {X : String → Mm → Prop} (h : SD A M B rs ow th ps fe fl pe pl) (hc : 2 ≤ Cc) (hz : 12 ≤ Zz) (q : ∀ a b, a < 100 → b < 100 → x = nI a → y = nI b → th a = true → th b = true → Q M) (hX : ¬ two th x y → X xIO M) : T_X8_needPoints Cc Zz M (A 0) x y Q X := by
  unfold T_X8_needPoints
  refine ⟨1, 6, ⟨by omega, by omega⟩, h.sh.k 0, n_pt h (by omega) (by omega) (fun p hp ep tp => ⟨1, 6, ⟨by omega, by omega⟩, h.sh.k 0, n_pt h (by omega) (by omega) (fun r hr er tr => ⟨by omega, by omega, q p r hp hr ep er tp tr⟩) (fun n => hX ?_)⟩) (fun n => hX ?_)⟩
  · intro ⟨a, b, _, hb, _, eb, _, tb⟩
    rw [n b hb eb] at tb
    cases tb
  · intro ⟨a, b, ha, _, ea, _, ta, _⟩
    rw [n a ha ea] at ta
    cases ta
theorem n_fc {x : Int32} {Q : Mm → Prop} {X : String → Mm → Prop} (h : SD A M B rs ow th ps fe fl pe pl) (hc : 1 ≤ Cc) (hz : 6 ≤ Zz) (q : ∀ f, f < 160 → x = nI f → rs f ≠ [] → Q M) (hX : (∀ f, f < 160 → x = nI f → rs f = []) → X xIO M) : T_X8_needFace Cc Zz M (A 0) x Q X := by
  unfold T_X8_needFace
  exact ⟨h.sh.k 0, A 7, h.sh.r 0 1 7, ⟨by omega, by omega⟩, h.sh.k 7, t_has h.1 (fun f hf e ht => ⟨fun _ => ⟨by omega, by omega, q f hf e ht⟩, fun z => absurd z (by decide)⟩) (fun n => ⟨fun z => absurd rfl z, fun _ => ⟨by omega, by omega, hX n⟩⟩)⟩
theorem t_fleft {Q : Int32 → Prop} (h : SD A M B rs ow th ps fe fl pe pl) (q : Q (nI fl)) : T_X1_left M (A 7) Q := by
  unfold T_X1_left
  rw [h.2.1.2.1]
  exact ⟨h.sh.k 7, q⟩
theorem t_fever {Q : Int32 → Prop} (h : SD A M B rs ow th ps fe fl pe pl) (q : Q (nI fe)) : T_X1_ever M (A 7) Q := by
  unfold T_X1_ever
  rw [h.2.1.1]
  exact ⟨h.sh.k 7, q⟩
theorem t_pleft {Q : Int32 → Prop} (h : SD A M B rs ow th ps fe fl pe pl) (q : Q (nI pl)) : T_X3_left M (A 1) Q := by
  unfold T_X3_left
  rw [h.2.2.2.1.2.1]
  exact ⟨h.sh.k 1, q⟩
theorem t_pever {Q : Int32 → Prop} (h : SD A M B rs ow th ps fe fl pe pl) (q : Q (nI pe)) : T_X3_ever M (A 1) Q := by
  unfold T_X3_ever
  rw [h.2.2.2.1.1]
  exact ⟨h.sh.k 1, q⟩
theorem t_room {k : Nat} {Q : Int32 → Prop} (h : SD A M B rs ow th ps fe fl pe pl) (hk : k < 2 ^ 30) (q1 : fe + k ≤ 160 → Q 1) (q0 : 160 < fe + k → Q 0) : T_X1_hasRoom M (A 7) (nI k) Q := by
  unfold T_X1_hasRoom
  have hb := h.2.1.2.2.1
  have e : (160 : Int32) = nI 160 := rfl
  rw [h.2.1.1, e, pk_sub hb]
  refine ⟨h.sh.k 7, fun z => q0 ?_, fun z => q1 ?_⟩
  · have := (nI_ltI (by omega) (by omega)).mp z
    omega
  · have : ¬ 160 - fe < k := fun w => z (nI_lt w (by omega))
    omega
theorem dist_gn {ys : List Nat} (h : Dist (ys.map nI)) : ∀ i j, i < ys.length → j < ys.length → gn ys i = gn ys j → i = j := by
  have key : ∀ i j, i < j → j < ys.length → gn ys i ≠ gn ys j := by
    intro i j hij hj e
    refine h i j hij (by rw [List.length_map]; exact hj) ?_
    rw [List.getElem?_map, List.getElem?_map, gn_lt (by omega), gn_lt hj, e]
  intro i j hi hj e
  rcases Nat.lt_trichotomy i j with z | z | z
  · exact absurd e (key i j z hj)
  · exact z
  · exact absurd e.symm (key j i z hi)
theorem free_hv {ys : List Nat} (h : ∀ i, i < ys.length → ow (gn ys i) (gn ys (i + 1)) = 0) : ∀ a b, hvk ys ys.length a b → ow a b = 0 := by
  intro a b ⟨i, hi, e1, e2⟩
  rw [← e1, ← e2]
  exact h i hi
/-- the first ring holds a new face's points: the rest of face(..), of fill(..) -/
theorem o_addF {ys : List Nat} {Q : Int32 → Mm → Prop} (h : SD A M B rs ow th ps fe fl pe pl) (g : Gd rs ow th ps fe fl pe pl) {j : Nat} (hj : j = 31 ∨ j = 33 ∨ j = 24) (hr : RG M (A j) (A (j + 1)) (ys.map nI)) (hf : fe < 160) (h3 : 3 ≤ ys.length) (hd : ∀ i j, i < ys.length → j < ys.length → gn ys i = gn ys j → i = j) (hfree : ∀ a b, hvk ys ys.length a b → ow a b = 0) (ht : ∀ p, p ∈ ys → th p = true) (q : ∀ M', Ch (In A (fun l => l = 11 ∨ l = 64 + 2 * fe ∨ l = 65 + 2 * fe ∨ l = 7)) M M' → SD A M' B (upr rs fe ys) (rshT fe (rs fe) ys ow) th ps (fe + 1) (fl + 1) pe pl → Gd (upr rs fe ys) (rshT fe (rs fe) ys ow) th ps (fe + 1) (fl + 1) pe pl → Q (nI fe) M') : T_X1_add M (A 7) (A j) Q := by
  have hl := g.fl_le
  exact t_addF h.1 h.2.1 hf (by omega) (by omega) (by omega) hr (fun p hp => th_lt g.2.2.2.2.2.1 h.2.2.2.1.2.2.1 (ht p hp)) (fun M2 c2 h2 n2 => q M2 c2 (h.face c2 (fun i z => by omega) h2 n2) (g.add hf h3 hd hfree ht))
theorem o_face {i1 i2 i3 i4 : Int32} {Q : Int32 → Mm → Prop} {X : String → Mm → Prop} (h : SD A M B rs ow th ps fe fl pe pl) (g : Gd rs ow th ps fe fl pe pl) (hc : 5 ≤ Cc) (hz : 30 ≤ Zz) (hX : ∀ E M', xE E → SD A M' B rs ow th ps fe fl pe pl → X E M') (q : ∀ M' rs' ow' a b, SD A M' B rs' ow' th ps (fe + 1) (fl + 1) pe pl → Gd rs' ow' th ps (fe + 1) (fl + 1) pe pl → a < 100 → b < 100 → i1 = nI a → i2 = nI b → ow' a b = fe + 1 → Q (nI fe) M') : T_X8_face Cc Zz M (A 0) i1 i2 i3 i4 Q X := by
  unfold T_X8_face
  intro K23 K75 h23 h75
  have e75 : ∀ M2 cc zz, SD A M2 B rs ow th ps fe fl pe pl → cc + 1 ≤ Cc → zz + 6 ≤ Zz → K75 (A 0) 0 M2 cc zz := fun M2 cc zz s1 c1 c2 => h75 _ _ _ _ _ ⟨1, 6, ⟨by omega, by omega⟩, n_stt (by omega) (by omega) (fun z => absurd rfl z) (fun _ => hX _ _ (Or.inr (Or.inr rfl)) s1)⟩
  have k23 : ∀ a b c (ys : List Nat) cc zz, cc + 1 ≤ Cc → zz + 6 ≤ Zz → i1 = nI a → i2 = nI b → i3 = nI c → a < 100 → b < 100 → (if i4 = -1 then [i1, i2, i3] else [i1, i2, i3, i4]) = ys.map nI → 3 ≤ ys.length → gn ys 0 = a → gn ys 1 = b → (∀ p, p ∈ ys → th p = true) → K23 (A 0) i1 i2 i3 i4 M cc zz := by
    intro a b c ys cc zz hcc hzz ea eb ec ha hb hy h3 y0 y1 ht
    refine h23 _ _ _ _ _ _ _ _ ?_
    unfold S_X8_face_23
    obtain ⟨xs, hx⟩ := h.2.2.2.2.2 31 (Or.inl rfl)
    refine ⟨h.sh.k 0, A 31, h.sh.r 0 6 31, ⟨by omega, by omega⟩, h.sh.k 31, t_set4 hx (fun M2 c2 hr2 => ?_)⟩
    rw [hy] at hr2
    have c3 := c2.two (A := A) (by omega) (by omega)
    have s2 : SD A M2 B rs ow th ps fe fl pe pl := h.go c3 (fun i z => by omega) (h.2.2.2.2.rg h.sh c3 (Or.inl rfl) (fun i z => z) hr2)
    refine ⟨s2.sh.k 0, A 7, s2.sh.r 0 1 7, ⟨by omega, by omega⟩, s2.sh.k 7, t_room (k := 1) s2 (by omega) (fun hroom => ⟨fun z => absurd z (by decide), fun _ => ?_⟩) (fun _ => ⟨fun _ => e75 _ _ _ s2 hcc hzz, fun z => absurd rfl z⟩)⟩
    refine ⟨s2.sh.k 0, A 31, s2.sh.r 0 6 31, ⟨by omega, by omega⟩, s2.sh.k 31, t_hasTwice hr2 (fun _ => ⟨fun _ => e75 _ _ _ s2 hcc hzz, fun z => absurd z (by decide)⟩) (fun hd => ⟨fun z => absurd rfl z, fun _ => ?_⟩)⟩
    refine ⟨s2.sh.k 0, A 7, s2.sh.r 0 1 7, s2.sh.k 0, A 31, s2.sh.r 0 6 31, ⟨by omega, by omega⟩, s2.sh.k 7, t_isFree s2.1 hr2 (fun p hp => th_lt g.2.2.2.2.2.1 h.2.2.2.1.2.2.1 (ht p hp)) (fun hf => ⟨fun z => absurd z (by decide), fun _ => ?_⟩) (fun _ => ⟨fun _ => e75 _ _ _ s2 hcc hzz, fun z => absurd rfl z⟩)⟩
    refine h75 _ _ _ _ _ ⟨1, 6, ⟨by omega, by omega⟩, n_stt (by omega) (by omega) (fun _ => ?_) (fun z => absurd z (by decide))⟩
    refine ⟨s2.sh.k 0, A 7, s2.sh.r 0 1 7, s2.sh.k 0, A 31, s2.sh.r 0 6 31, ⟨by omega, by omega⟩, s2.sh.k 7, ?_⟩
    refine o_addF s2 g (Or.inl rfl) hr2 (by omega) h3 (dist_gn hd) (free_hv hf) ht (fun M3 _ s3 g3 => ⟨by omega, by omega, q M3 _ _ a b s3 g3 ha hb ea eb ?_⟩)
    refine (g3.1.1 a b fe).mpr ⟨by omega, ?_⟩
    have : upr rs fe ys fe = ys := by unfold upr; rw [if_pos rfl]
    rw [this]
    exact ⟨0, by omega, y0, y1⟩
  have hIO := hX xIO M (Or.inl rfl) h
  refine ⟨2, 12, ⟨by omega, by omega⟩, h.sh.k 0, n_pts h (by omega) (by omega) (fun a b ha hb ea eb ta tb => ?_) (fun _ => hIO)⟩
  refine ⟨1, 6, ⟨by omega, by omega⟩, h.sh.k 0, n_pt h (by omega) (by omega) (fun c hcc ec tc => ⟨fun e4 => ?_, fun e4 => ?_⟩) (fun _ => hIO)⟩
  · refine k23 a b c [a, b, c] _ _ (by omega) (by omega) ea eb ec ha hb (by rw [if_pos e4, ea, eb, ec]; rfl) (Nat.le_refl 3) rfl rfl (fun p hp => ?_)
    simp only [List.mem_cons, List.not_mem_nil, or_false] at hp
    rcases hp with rfl | rfl | rfl <;> assumption
  · refine ⟨1, 6, ⟨by omega, by omega⟩, h.sh.k 0, n_pt h (by omega) (by omega) (fun d hdd ed td => ?_) (fun _ => hIO)⟩
    refine k23 a b c [a, b, c, d] _ _ (by omega) (by omega) ea eb ec ha hb (by rw [if_neg e4, ea, eb, ec, ed]; rfl) (show 3 ≤ 4 from Nat.le_succ 3) rfl rfl (fun p hp => ?_)
    simp only [List.mem_cons, List.not_mem_nil, or_false] at hp
    rcases hp with rfl | rfl | rfl | rfl <;> assumption
end
end
