/-- the marks on halves -/
def MT (A : Nat → Nat) (M : Mm) (now : Nat) (mk : Nat → Nat → Nat) : Prop :=
  Sh A M ∧ iM M (A 12) 1 = nI now ∧ now < 2 ^ 30 ∧ ∀ a b, a < 100 → b < 100 → iM M (A 13) (a * 100 + b) = nI (mk a b) ∧ mk a b ≤ now
theorem MT.go {A : Nat → Nat} {I : Nat → Prop} {M M' : Mm} {now : Nat} {mk : Nat → Nat → Nat} (h : MT A M now mk) (c : Ch (In A I) M M') (h1 : ¬ I 12) (h2 : ¬ I 13) : MT A M' now mk := by
  obtain ⟨hS, hn, hl, hm⟩ := h
  refine ⟨hS.go c, by rw [c.at hS (by omega) h1]; exact hn, hl, fun a b ha hb => ?_⟩
  rw [c.at hS (by omega) h2]
  exact hm a b ha hb
abbrev opn (ow : Nat → Nat → Nat) (a b : Nat) : Prop := ow a b = 0 ∧ ow b a ≠ 0
/-- the next open half behind (u, v) goes on to this -/
def nx (rs : Nat → List Nat) (ow : Nat → Nat → Nat) (u v : Nat) : Nat := (nO rs ow v 100 u).getD 0
/-- every open half has a next one -/
def NX (rs : Nat → List Nat) (ow : Nat → Nat → Nat) : Prop := ∀ u v, u < 100 → v < 100 → opn ow u v → nO rs ow v 100 u = some (nx rs ow u v) ∧ nx rs ow u v < 100 ∧ opn ow v (nx rs ow u v)
/-- marks a hole from (u, v) on: how many halves, and the marks -/
def mh (rs : Nat → List Nat) (ow : Nat → Nat → Nat) (now : Nat) : Nat → Nat → Nat → (Nat → Nat → Nat) → Nat × (Nat → Nat → Nat)
  | 0, _, _, g => (0, g)
  | k + 1, u, v, g => if g u v = now then (0, g) else ((mh rs ow now k v (nx rs ow u v) (upO g u v now)).1 + 1, (mh rs ow now k v (nx rs ow u v) (upO g u v now)).2)
def mhO (rs : Nat → List Nat) (ow : Nat → Nat → Nat) (now u v : Nat) (mk : Nat → Nat → Nat) : Nat × (Nat → Nat → Nat) := if opn ow u v then mh rs ow now 1920 u v mk else (0, mk)
theorem mh_le (rs : Nat → List Nat) (ow : Nat → Nat → Nat) (now : Nat) : ∀ k u v mk, (mh rs ow now k u v mk).1 ≤ k := by
  intro k
  induction k with
  | zero => intro u v mk; exact Nat.le_refl _
  | succ k ih =>
    intro u v mk
    unfold mh
    split
    · exact Nat.zero_le _
    · exact Nat.succ_le_succ (ih _ _ _)
theorem mhO_le (rs : Nat → List Nat) (ow : Nat → Nat → Nat) (now u v : Nat) (mk : Nat → Nat → Nat) : (mhO rs ow now u v mk).1 ≤ 1920 := by
  unfold mhO
  split
  · exact mh_le _ _ _ _ _ _ _
  · exact Nat.zero_le _
/-- over the first i halves of a face: holes, and the marks -/
def hIn (rs : Nat → List Nat) (ow : Nat → Nat → Nat) (now f : Nat) : Nat → Nat × (Nat → Nat → Nat) → Nat × (Nat → Nat → Nat)
  | 0, s => s
  | i + 1, s => ((hIn rs ow now f i s).1 + (if (mhO rs ow now (gn (rs f) (i + 1)) (gn (rs f) i) (hIn rs ow now f i s).2).1 = 0 then 0 else 1), (mhO rs ow now (gn (rs f) (i + 1)) (gn (rs f) i) (hIn rs ow now f i s).2).2)
def hAll (rs : Nat → List Nat) (ow : Nat → Nat → Nat) (now : Nat) : Nat → Nat × (Nat → Nat → Nat) → Nat × (Nat → Nat → Nat)
  | 0, s => s
  | f + 1, s => hIn rs ow now f (rs f).length (hAll rs ow now f s)
section
variable {A : Nat → Nat} {M : Mm} {rs : Nat → List Nat} {ow : Nat → Nat → Nat}
theorem t_takeOff {now : Nat} {mk : Nat → Nat → Nat} {Q : Mm → Prop} (h : MT A M now mk) (hn : now + 1 < 2 ^ 30) (q : ∀ M', Ch (In A (fun l => l = 12)) M M' → MT A M' (now + 1) mk → (∀ a b, a < 100 → b < 100 → mk a b ≤ now) → Q M') : T_X2_takeOff M (A 12) Q := by
  unfold T_X2_takeOff
  rw [h.2.1, nI_1]
  refine ⟨h.1.k 12, h.1.k 12, q _ (Ch.one (by omega)) ⟨h.1.go (Ch.one (i := 12) (by omega)), by rw [iM_wI, if_pos ⟨rfl, rfl⟩], hn, fun a b ha hb => ?_⟩ (fun a b ha hb => (h.2.2.2 a b ha hb).2)⟩
  rw [iM_wI, if_neg (fun z => h.1.ne (i := 13) (j := 12) (by omega) (by omega) (by omega) z.1)]
  exact ⟨(h.2.2.2 a b ha hb).1, Nat.le_succ_of_le (h.2.2.2 a b ha hb).2⟩
theorem t_mark {now u v : Nat} {mk : Nat → Nat → Nat} {Q : Int32 → Mm → Prop} (h : MT A M now mk) (hu : u < 100) (hv : v < 100) (q0 : mk u v = now → Q 0 M) (q1 : ∀ M', mk u v ≠ now → Ch (In A (fun l => l = 13)) M M' → MT A M' now (upO mk u v now) → Q 1 M') : T_X2_mark M (A 12) (nI u) (nI v) Q := by
  unfold T_X2_mark
  have e2 : nI u * 100 + nI v = nI (u * 100 + v) := by rw [show (100 : Int32) = nI 100 from rfl, nI_mulx, nI_add]
  have hm := h.2.2.2 u v hu hv
  have hnow := h.2.2.1
  refine t_isPN (fun _ _ _ => ⟨fun z => absurd z (by decide), fun _ => t_isPN (fun _ _ _ => ⟨fun z => absurd z (by decide), fun _ => ⟨h.1.k 12, A 13, h.1.r 12 0 13, 10000, h.1.k 13, ?_⟩⟩) (fun hno => absurd rfl (hno v hv))⟩) (fun hno => absurd rfl (hno u hu))
  rw [e2, nI_clamp (by omega), hm.1, h.2.1]
  refine ⟨vp_in_nI (by omega) (by omega), h.1.k 12, fun z => ⟨h.1.k 12, A 13, h.1.r 12 0 13, h.1.k 12, 10000, h.1.k 13, vp_in_nI (by omega) (by omega), q1 _ (fun e => z (by rw [e])) (Ch.one (by omega)) ⟨h.1.go (Ch.one (i := 13) (by omega)), ?_, hnow, fun a b ha hb => ?_⟩⟩, fun z => q0 ((nI_eq (by omega) (by omega)).mp z)⟩
  · rw [iM_wI, if_neg (fun z => h.1.ne (i := 12) (j := 13) (by omega) (by omega) (by omega) z.1)]; exact h.2.1
  · rw [iM_wI]
    unfold upO
    by_cases e : a = u ∧ b = v
    · rw [if_pos e, e.1, e.2, if_pos ⟨rfl, rfl⟩]; exact ⟨rfl, Nat.le_refl _⟩
    · rw [if_neg e, if_neg (fun q => e (by omega))]; exact h.2.2.2 a b ha hb
theorem t_markHole {now u v : Nat} {mk : Nat → Nat → Nat} {Q : Int32 → Mm → Prop} (h : FT A M rs ow) (w : Wk rs ow) (n : NX rs ow) (hm : MT A M now mk) (hu : u < 100) (hv : v < 100) (q : ∀ M', Ch (In A (fun l => l = 13)) M M' → MT A M' now (mhO rs ow now u v mk).2 → Q (nI (mhO rs ow now u v mk).1) M') : T_X7_markHole M (A 14) (nI u) (nI v) Q := by
  intro K hK
  unfold mhO at q
  refine ⟨h.1.k 14, A 7, h.1.r 14 0 7, h.1.k 7, t_isOpen h hu hv (fun o1 o2 => ⟨fun _ => ?_, fun z => absurd z (by decide)⟩) (fun no => ⟨fun z => absurd rfl z, fun _ => ?_⟩)⟩
  · rw [if_pos ⟨o1, o2⟩] at q
    have key : ∀ d k u v mk M', k + d = 1920 → u < 100 → v < 100 → opn ow u v → Ch (In A (fun l => l = 13)) M M' → MT A M' now mk → (∀ M'', Ch (In A (fun l => l = 13)) M M'' → MT A M'' now (mh rs ow now d u v mk).2 → Q (nI (k + (mh rs ow now d u v mk).1)) M'') → K (A 14) (nI u) (nI v) (nI k) M' := by
      intro d
      induction d with
      | zero =>
        intro k u v mk M' hk hu hv ho c hm q
        refine hK _ _ _ _ _ ?_
        unfold S_X7_markHole_22
        have := q M' c hm
        rw [show k = 1920 by omega] at this ⊢
        exact ⟨fun _ => this, fun z => absurd (by decide) z⟩
      | succ d ih =>
        intro k u v mk M' hk hu hv ho c hm q
        refine hK _ _ _ _ _ ?_
        unfold S_X7_markHole_22
        have hS := hm.1
        refine ⟨fun z => absurd z (by rw [show (1920 : Int32) = nI 1920 from rfl]; exact nI_ge (by omega) (by omega)), fun _ => ⟨hS.k 14, A 12, hS.r 14 1 12, hS.k 12, t_mark hm hu hv (fun e => ⟨fun _ => ?_, fun z => absurd rfl z⟩) (fun M2 e c2 hm2 => ⟨fun z => absurd z (by decide), fun _ => ⟨hm2.1.k 14, A 7, hm2.1.r 14 0 7, hm2.1.k 7, ?_⟩⟩)⟩⟩
        · have := q M' c (by unfold mh; rw [if_pos e]; exact hm)
          unfold mh at this
          rw [if_pos e] at this
          exact this
        · have h2 : FT A M2 rs ow := h.go (c.t c2) (by omega)
          obtain ⟨n1, n2, n3⟩ := n u v hu hv ho
          refine t_nextOpen h2 w hu hv (fun c' hc' e' => ?_) (fun e' => absurd e' (by rw [n1]; exact fun z => by cases z))
          rw [n1] at e'
          have e3 := Option.some.inj e'
          rw [← e3, nI_1]
          refine ih (k + 1) v _ _ M2 (by omega) hv n2 n3 (c.t c2) hm2 (fun M'' c'' hm'' => ?_)
          have := q M'' c'' (by unfold mh; rw [if_neg e]; exact hm'')
          unfold mh at this
          rw [if_neg e] at this
          rw [Nat.add_right_comm]
          exact this
    have := key 1920 0 u v mk M (by omega) hu hv ⟨o1, o2⟩ Ch.rf hm (fun M'' c hm2 => by rw [Nat.zero_add]; exact q M'' c hm2)
    rwa [nI_0] at this
  · rw [if_neg no] at q
    exact q M Ch.rf hm
theorem t_holeLength {now u v : Nat} {mk : Nat → Nat → Nat} {Q : Int32 → Mm → Prop} (h : FT A M rs ow) (w : Wk rs ow) (n : NX rs ow) (hm : MT A M now mk) (hn : now + 1 < 2 ^ 30) (hu : u < 100) (hv : v < 100) (q : ∀ M', Ch (In A (fun l => l = 12 ∨ l = 13)) M M' → MT A M' (now + 1) (mhO rs ow (now + 1) u v mk).2 → (∀ a b, a < 100 → b < 100 → mk a b ≤ now) → Q (nI (mhO rs ow (now + 1) u v mk).1) M') : T_X7_holeLength M (A 14) (nI u) (nI v) Q := by
  unfold T_X7_holeLength
  refine ⟨h.1.k 14, A 12, h.1.r 14 1 12, h.1.k 12, t_takeOff hm hn (fun M1 c1 hm1 hle => ⟨hm1.1.k 14, t_markHole (h.go c1 (by omega)) w n hm1 hu hv (fun M2 c2 hm2 => q M2 ?_ hm2 hle)⟩)⟩
  exact (c1.wide (fun i e => Or.inl e)).t (c2.wide (fun i e => Or.inr e))
theorem hIn_le (rs : Nat → List Nat) (ow : Nat → Nat → Nat) (now f : Nat) (s : Nat × (Nat → Nat → Nat)) : ∀ i, (hIn rs ow now f i s).1 ≤ s.1 + i := by
  intro i
  induction i with
  | zero => exact Nat.le_refl _
  | succ i ih =>
    show (hIn rs ow now f i s).1 + _ ≤ s.1 + (i + 1)
    split <;> omega
theorem hAll_le {fe : Nat} (h : FT A M rs ow) (hf : fe ≤ 160) (now : Nat) (s : Nat × (Nat → Nat → Nat)) : (hAll rs ow now fe s).1 ≤ s.1 + fe * 12 := by
  induction fe with
  | zero => exact Nat.le_refl _
  | succ f ih =>
    have h1 := ih (by omega)
    have h2 := hIn_le rs ow now f (hAll rs ow now f s) (rs f).length
    have h3 := h.len (f := f) (by omega)
    show (hIn rs ow now f (rs f).length (hAll rs ow now f s)).1 ≤ _
    omega
theorem t_holeCount {now fe fl : Nat} {mk : Nat → Nat → Nat} {Q : Int32 → Mm → Prop} (h : FT A M rs ow) (hN : FN A M fe fl) (w : Wk rs ow) (n : NX rs ow) (hm : MT A M now mk) (hn : now + 1 < 2 ^ 30) (q : ∀ M', Ch (In A (fun l => l = 12 ∨ l = 13)) M M' → MT A M' (now + 1) (hAll rs ow (now + 1) fe (0, mk)).2 → (∀ a b, a < 100 → b < 100 → mk a b ≤ now) → Q (nI (hAll rs ow (now + 1) fe (0, mk)).1) M') : T_X7_holeCount M (A 14) Q := by
  intro K11 K34 h11 h34
  have hfe := hN.2.2.1
  refine ⟨h.1.k 14, A 12, h.1.r 14 1 12, h.1.k 12, t_takeOff hm hn (fun M1 c1 hm1 hle => ?_)⟩
  have key : ∀ M', Ch (In A (fun l => l = 12 ∨ l = 13)) M M' → MT A M' (now + 1) (hAll rs ow (now + 1) 0 (0, mk)).2 → K11 (A 14) (nI (hAll rs ow (now + 1) 0 (0, mk)).1) (nI 0) M' := by
    refine upto2 (P := fun f M' => Ch (In A (fun l => l = 12 ∨ l = 13)) M M' → MT A M' (now + 1) (hAll rs ow (now + 1) f (0, mk)).2 → K11 (A 14) (nI (hAll rs ow (now + 1) f (0, mk)).1) (nI f) M') (n := fe) ?_ ?_
    · intro M' c hm'
      refine h11 _ _ _ _ ?_
      unfold S_X7_holeCount_11
      have hN' := hN.go h.1 c (by omega)
      have hS := hm'.1
      refine ⟨hS.k 14, A 7, hS.r 14 0 7, hS.k 7, ?_⟩
      unfold T_X1_ever
      rw [hN'.1]
      exact ⟨hS.k 7, fun _ => q M' c hm' hle, fun z => absurd (nI_le (by omega) (by omega)) z⟩
    · intro f hf ih M' c hm'
      have hf1 : f < 160 := by omega
      have hl := h.len hf1
      refine h11 _ _ _ _ ?_
      unfold S_X7_holeCount_11
      have hN' := hN.go h.1 c (by omega)
      have h' := h.go c (by omega)
      have hS := hm'.1
      refine ⟨hS.k 14, A 7, hS.r 14 0 7, hS.k 7, ?_⟩
      unfold T_X1_ever
      rw [hN'.1]
      refine ⟨hS.k 7, fun z => absurd z (nI_ge hf (by omega)), fun _ => ⟨hS.k 14, A 7, hS.r 14 0 7, hS.k 7, t_ring h' hf1 ?_⟩⟩
      have inner : ∀ M'', Ch (In A (fun l => l = 12 ∨ l = 13)) M M'' → MT A M'' (now + 1) (hIn rs ow (now + 1) f 0 (hAll rs ow (now + 1) f (0, mk))).2 → K34 (A 14) (nI (hIn rs ow (now + 1) f 0 (hAll rs ow (now + 1) f (0, mk))).1) (nI f) (A (64 + 2 * f)) (nI 0) M'' := by
        refine upto2 (P := fun i M'' => Ch (In A (fun l => l = 12 ∨ l = 13)) M M'' → MT A M'' (now + 1) (hIn rs ow (now + 1) f i (hAll rs ow (now + 1) f (0, mk))).2 → K34 (A 14) (nI (hIn rs ow (now + 1) f i (hAll rs ow (now + 1) f (0, mk))).1) (nI f) (A (64 + 2 * f)) (nI i) M'') (n := (rs f).length) ?_ ?_
        · intro M'' c' hm''
          refine h34 _ _ _ _ _ _ ?_
          unfold S_X7_holeCount_34
          have hr := (h.go c' (by omega)).2.1 f hf1
          refine ⟨hr.1, t_length hr ?_⟩
          rw [List.length_map, nI_1]
          exact ⟨fun _ => ih M'' c' hm'', fun z => absurd (nI_le (by omega) (by omega)) z⟩
        · intro i hi ih2 M'' c' hm''
          refine h34 _ _ _ _ _ _ ?_
          unfold S_X7_holeCount_34
          have h'' := h.go c' (by omega)
          have hr := h''.2.1 f hf1
          have hb := h.bd hf1 hi
          refine ⟨hr.1, t_length hr ?_⟩
          rw [List.length_map]
          refine ⟨fun z => absurd z (nI_ge (by omega) (by omega)), fun _ => ⟨hr.1, ?_⟩⟩
          rw [nI_1]
          refine t_gt hr (by omega) ⟨hr.1, t_gt hr (by omega) ⟨hm''.1.k 14, ?_⟩⟩
          rw [gt_map (by omega), gt_map (by omega)]
          have hle2 := mhO_le rs ow (now + 1) (gn (rs f) (i + 1)) (gn (rs f) i) (hIn rs ow (now + 1) f i (hAll rs ow (now + 1) f (0, mk))).2
          have step : ∀ v, (if (mhO rs ow (now + 1) (gn (rs f) (i + 1)) (gn (rs f) i) (hIn rs ow (now + 1) f i (hAll rs ow (now + 1) f (0, mk))).2).1 = 0 then 0 else 1) = v → (hIn rs ow (now + 1) f (i + 1) (hAll rs ow (now + 1) f (0, mk))).1 = (hIn rs ow (now + 1) f i (hAll rs ow (now + 1) f (0, mk))).1 + v := by
            intro v hv; rw [← hv]; rfl
          refine t_markHole h'' w n hm'' hb.2 hb.1 (fun M3 c3 hm3 => ⟨fun z => ?_, fun z => ?_⟩)
          · have e0 : (mhO rs ow (now + 1) (gn (rs f) (i + 1)) (gn (rs f) i) (hIn rs ow (now + 1) f i (hAll rs ow (now + 1) f (0, mk))).2).1 = 0 := by
              have := (nI_leI (b := 0) (by omega) (by omega)).mp z
              omega
            have := ih2 M3 (c'.t (c3.wide (fun i e => Or.inr e))) hm3
            rw [step 0 (if_pos e0), Nat.add_zero] at this
            rw [Int32.add_zero]
            exact this
          · have e0 : ¬ (mhO rs ow (now + 1) (gn (rs f) (i + 1)) (gn (rs f) i) (hIn rs ow (now + 1) f i (hAll rs ow (now + 1) f (0, mk))).2).1 = 0 := by
              intro e
              rw [e] at z
              exact z (by decide)
            have := ih2 M3 (c'.t (c3.wide (fun i e => Or.inr e))) hm3
            rw [step 1 (if_neg e0)] at this
            rw [nI_1]
            exact this
      have := inner M' c hm'
      rw [nI_0] at this
      exact this
  have := key M1 (c1.wide (fun i e => Or.inl e)) hm1
  rw [nI_0] at this
  exact this
end
