section
def enqL (qu : List Nat) (x : Nat) : List Nat := if qu.length < 160 then qu ++ [x] else qu
/-- along a ring: the faces beside it that aren't seen yet go into the row -/
def shK (ow : Nat → Nat → Nat) (xs : List Nat) : Nat → (Nat → Bool) × List Nat → (Nat → Bool) × List Nat
  | 0, s => s
  | k + 1, s => if ow (gn xs (k + 1)) (gn xs k) = 0 ∨ (shK ow xs k s).1 (ow (gn xs (k + 1)) (gn xs k) - 1) = true then shK ow xs k s else (upB (shK ow xs k s).1 (ow (gn xs (k + 1)) (gn xs k) - 1) true, enqL (shK ow xs k s).2 (ow (gn xs (k + 1)) (gn xs k) - 1))
def shW (rs : Nat → List Nat) (ow : Nat → Nat → Nat) : Nat → Nat → (Nat → Bool) × List Nat → (Nat → Bool)
  | 0, _, s => s.1
  | n + 1, i, s => if s.2.length ≤ i then s.1 else shW rs ow n (i + 1) (shK ow (rs (gn s.2 i)) (rs (gn s.2 i)).length s)
def shC (rs : Nat → List Nat) (ow : Nat → Nat → Nat) : Nat → Nat × (Nat → Bool)
  | 0 => (0, fun _ => false)
  | f + 1 => if rs f = [] ∨ (shC rs ow f).2 f = true then shC rs ow f else ((shC rs ow f).1 + 1, shW rs ow 160 0 (upB (shC rs ow f).2 f true, [f]))
theorem shC_le (rs : Nat → List Nat) (ow : Nat → Nat → Nat) : ∀ k, (shC rs ow k).1 ≤ sumN (fun f => if rs f = [] then 0 else 1) k := by
  intro k
  induction k with
  | zero => exact Nat.le_refl _
  | succ k ih =>
    show (if rs k = [] ∨ (shC rs ow k).2 k = true then shC rs ow k else ((shC rs ow k).1 + 1, shW rs ow 160 0 (upB (shC rs ow k).2 k true, [k]))).1 ≤ sumN (fun f => if rs f = [] then 0 else 1) k + (if rs k = [] then 0 else 1)
    by_cases z : rs k = [] ∨ (shC rs ow k).2 k = true
    · rw [if_pos z]
      omega
    · rw [if_neg z, if_neg (fun y => z (Or.inl y))]
      show (shC rs ow k).1 + 1 ≤ _
      omega
def QN (A : Nat → Nat) (M : Mm) (qu : List Nat) : Prop := iM M (A 14) 5 = nI qu.length ∧ qu.length ≤ 160 ∧ ∀ k, k < qu.length → iM M (A 16) k = nI (gn qu k) ∧ gn qu k < 160
variable {A : Nat → Nat} {M M' : Mm} {B : Nat} {rs rs2 : Nat → List Nat} {ow ow2 : Nat → Nat → Nat} {th : Nat → Bool} {ps : Nat → Nat → Int32} {fe fl pe pl : Nat} {Cc Zz : Nat}
abbrev ShI (l : Nat) : Prop := l = 14 ∨ l = 15 ∨ l = 16
theorem SN.go {I : Nat → Prop} {sn : Nat → Bool} (hS : Sh A M) (h : SN A M sn) (c : Ch (In A I) M M') (hI : ¬ I 15) : SN A M' sn := fun f hf => by rw [c.at hS (by omega) hI]; exact h f hf
theorem QN.go {I : Nat → Prop} {qu : List Nat} (hS : Sh A M) (h : QN A M qu) (c : Ch (In A I) M M') (h1 : ¬ I 14) (h2 : ¬ I 16) : QN A M' qu := ⟨by rw [c.at hS (by omega) h1]; exact h.1, h.2.1, fun k hk => by rw [c.at hS (by omega) h2]; exact h.2.2 k hk⟩
theorem app_gn {qu : List Nat} {x k : Nat} (hk : k < qu.length) : gn (qu ++ [x]) k = gn qu k := by
  refine gn_eq ?_
  rw [List.getElem?_append_left hk]
  exact gn_lt hk
theorem app_last (qu : List Nat) (x : Nat) : gn (qu ++ [x]) qu.length = x := by
  refine gn_eq ?_
  rw [List.getElem?_append_right (Nat.le_refl _), Nat.sub_self]
  rfl
theorem t_enqF {x : Nat} {qu : List Nat} {Q : Mm → Prop} (hS : Sh A M) (hx : x < 160) (hq : QN A M qu) (q : ∀ M', Ch (In A (fun l => l = 14 ∨ l = 16)) M M' → QN A M' (enqL qu x) → Q M') : T_X7_enqueue M (A 14) (nI x) Q := by
  unfold T_X7_enqueue
  have n3 := hS.ne (i := 14) (j := 16) (by omega) (by omega) (by omega)
  obtain ⟨l1, l2, l3⟩ := hq
  rw [l1]
  refine ⟨hS.k 14, fun z => absurd z (nI_pos (by omega)), fun _ => ⟨hS.k 14, fun z => ?_, fun z => ?_⟩⟩
  · have := (nI_leI (a := 160) (by omega) (by omega)).mp z
    refine q M Ch.rf ?_
    unfold enqL
    rw [if_neg (by omega)]
    exact ⟨l1, l2, l3⟩
  · have hl : qu.length < 160 := Classical.byContradiction (fun w => z (show nI 160 ≤ _ from nI_le (by omega) (by omega)))
    have c1 : Ch (In A (fun l => l = 14 ∨ l = 16)) M (wI M (A 16) qu.length (nI x)) := (Ch.one (i := 16) (by omega)).wide (fun i e => Or.inr e)
    have hS1 := hS.go c1
    rw [nI_clamp (by omega)]
    refine ⟨hS.k 14, A 16, hS.r 14 3 16, hS.k 14, 160, hS.k 16, vp_in_nI hl (by omega), hS1.k 14, hS1.k 14, ?_⟩
    have l5 : iM (wI M (A 16) qu.length (nI x)) (A 14) 5 = nI qu.length := by rw [iM_wI, if_neg (fun z => n3 z.1)]; exact l1
    rw [l5, nI_1]
    refine q _ (c1.t ((Ch.one (i := 14) (by omega)).wide (fun i e => Or.inl e))) ?_
    unfold enqL
    rw [if_pos hl]
    refine ⟨by rw [iM_wI, if_pos ⟨rfl, rfl⟩, List.length_append]; rfl, by rw [List.length_append]; exact hl, fun k hk => ?_⟩
    rw [List.length_append] at hk
    have hk : k < qu.length + 1 := hk
    rw [iM_wI, if_neg (fun z => n3 z.1.symm), iM_wI]
    by_cases y : k < qu.length
    · rw [if_neg (fun w => by omega), app_gn y]
      exact l3 k y
    · have : k = qu.length := by omega
      subst this
      rw [if_pos ⟨rfl, rfl⟩, app_last]
      exact ⟨rfl, hx⟩
theorem t_shell {f : Nat} {sn : Nat → Bool} {Q : Mm → Prop} (h : SD A M B rs ow th ps fe fl pe pl) (hf : f < 160) (hs : SN A M sn) (q : ∀ M', Ch (In A ShI) M M' → SN A M' (shW rs ow 160 0 (sn, [f])) → Q M') : T_X7_seeShell M (A 14) (nI f) Q := by
  unfold T_X7_seeShell
  intro K12 K44 h12 h44
  have e160 : (160 : Int32) = nI 160 := rfl
  have n5 := h.sh.ne (i := 14) (j := 15) (by omega) (by omega) (by omega)
  have key : ∀ d i M2 s, i + d = 160 → Ch (In A ShI) M M2 → SN A M2 s.1 → QN A M2 s.2 → (∀ M', Ch (In A ShI) M M' → SN A M' (shW rs ow d i s) → Q M') → K12 (A 14) (nI i) M2 := by
    intro d
    induction d with
    | zero =>
      intro i M2 s hi c2 s2 q2 fin
      have : i = 160 := by omega
      subst this
      have hS := h.sh.go c2
      exact h12 _ _ _ ⟨hS.k 14, fun _ => fin M2 c2 s2, fun _ => ⟨fun _ => fin M2 c2 s2, fun z => absurd (by decide) z⟩⟩
    | succ d ih =>
      intro i M2 s hi c2 s2 q2 fin
      have hS := h.sh.go c2
      refine h12 _ _ _ ⟨hS.k 14, fun z => ?_, fun z => ⟨fun y => absurd y (by rw [e160]; exact nI_ge (by omega) (by omega)), fun _ => ?_⟩⟩
      · rw [q2.1] at z
        have := (nI_leI (by have := q2.2.1; omega) (by omega)).mp z
        refine fin M2 c2 ?_
        show SN A M2 (if s.2.length ≤ i then s.1 else shW rs ow d (i + 1) (shK ow (rs (gn s.2 i)) (rs (gn s.2 i)).length s))
        rw [if_pos this]
        exact s2
      · rw [q2.1] at z
        have hil : i < s.2.length := Classical.byContradiction (fun w => z (nI_le (by omega) (by omega)))
        obtain ⟨eq, hq⟩ := q2.2.2 i hil
        have f2 := h.1.go c2 (fun j z => by omega)
        refine ⟨hS.k 14, A 7, hS.r 14 0 7, hS.k 14, A 16, hS.r 14 3 16, 160, hS.k 16, vp_in_nI (by omega) (by omega), hS.k 7, ?_⟩
        rw [nI_clamp (by omega), eq]
        refine t_ring f2 hq ?_
        have hl := h.1.len hq
        have inner : ∀ d2 k M3, k + d2 = (rs (gn s.2 i)).length → Ch (In A ShI) M M3 → SN A M3 (shK ow (rs (gn s.2 i)) k s).1 → QN A M3 (shK ow (rs (gn s.2 i)) k s).2 → K44 (A 14) (nI i) (A (64 + 2 * gn s.2 i)) (nI k) M3 := by
          intro d2
          induction d2 with
          | zero =>
            intro k M3 hk c3 s3 q3
            have : k = (rs (gn s.2 i)).length := by omega
            subst this
            have f3 := h.1.go c3 (fun j z => by omega)
            refine h44 _ _ _ _ _ ⟨(f3.2.1 _ hq).1, t_length (f3.2.1 _ hq) ?_⟩
            rw [List.length_map]
            refine ⟨fun _ => ?_, fun z => absurd (nI_le (Nat.le_refl _) (by omega)) z⟩
            rw [nI_1]
            refine ih (i + 1) M3 _ (by omega) c3 s3 q3 (fun M4 c4 s4 => fin M4 c4 ?_)
            show SN A M4 (if s.2.length ≤ i then s.1 else shW rs ow d (i + 1) (shK ow (rs (gn s.2 i)) (rs (gn s.2 i)).length s))
            rw [if_neg (by omega)]
            exact s4
          | succ d2 ih2 =>
            intro k M3 hk c3 s3 q3
            have hS3 := h.sh.go c3
            have f3 := h.1.go c3 (fun j z => by omega)
            have hu := h.1.2.2.2.2 _ _ hq (gn_mem (xs := rs (gn s.2 i)) (p := k) (by omega))
            have hv := h.1.2.2.2.2 _ _ hq (gn_mem (xs := rs (gn s.2 i)) (p := k + 1) (by omega))
            have hO := (h.1.2.2.2.1 _ _ hv hu).2
            have st : shK ow (rs (gn s.2 i)) (k + 1) s = if ow (gn (rs (gn s.2 i)) (k + 1)) (gn (rs (gn s.2 i)) k) = 0 ∨ (shK ow (rs (gn s.2 i)) k s).1 (ow (gn (rs (gn s.2 i)) (k + 1)) (gn (rs (gn s.2 i)) k) - 1) = true then shK ow (rs (gn s.2 i)) k s else (upB (shK ow (rs (gn s.2 i)) k s).1 (ow (gn (rs (gn s.2 i)) (k + 1)) (gn (rs (gn s.2 i)) k) - 1) true, enqL (shK ow (rs (gn s.2 i)) k s).2 (ow (gn (rs (gn s.2 i)) (k + 1)) (gn (rs (gn s.2 i)) k) - 1)) := rfl
            refine h44 _ _ _ _ _ ⟨(f3.2.1 _ hq).1, t_length (f3.2.1 _ hq) ?_⟩
            rw [List.length_map]
            refine ⟨fun z => absurd z (nI_ge (by omega) (by omega)), fun _ => ⟨hS3.k 14, A 7, hS3.r 14 0 7, (f3.2.1 _ hq).1, ?_⟩⟩
            rw [nI_1]
            refine t_gt (f3.2.1 _ hq) (by omega) ⟨(f3.2.1 _ hq).1, t_gt (f3.2.1 _ hq) (by omega) ?_⟩
            rw [gt_map (by omega), gt_map (by omega)]
            refine ⟨hS3.k 7, t_owner f3 hv hu ⟨hS3.k 14, t_seeF hS3 hO s3 (fun no => ⟨fun _ => ?_, fun z => absurd rfl z⟩) (fun M4 nz ns c4 s4 => ⟨fun z => absurd z (by decide), fun _ => ?_⟩)⟩⟩
            · refine ih2 (k + 1) M3 (by omega) c3 ?_ ?_
              · rw [st, if_pos no]; exact s3
              · rw [st, if_pos no]; exact q3
            · have no : ¬ (ow (gn (rs (gn s.2 i)) (k + 1)) (gn (rs (gn s.2 i)) k) = 0 ∨ (shK ow (rs (gn s.2 i)) k s).1 (ow (gn (rs (gn s.2 i)) (k + 1)) (gn (rs (gn s.2 i)) k) - 1) = true) := fun y => y.elim nz (fun y => by rw [ns] at y; cases y)
              have hS4 := hS3.go c4
              have q4 := q3.go hS3 c4 (by omega) (by omega)
              have eF : oi (ow (gn (rs (gn s.2 i)) (k + 1)) (gn (rs (gn s.2 i)) k)) = nI (ow (gn (rs (gn s.2 i)) (k + 1)) (gn (rs (gn s.2 i)) k) - 1) := by
                rw [← oi_s (ow (gn (rs (gn s.2 i)) (k + 1)) (gn (rs (gn s.2 i)) k) - 1), Nat.sub_add_cancel (Nat.pos_of_ne_zero nz)]
              rw [eF]
              refine ⟨hS4.k 14, t_enqF hS4 (by omega) q4 (fun M5 c5 q5 => ?_)⟩
              have s5 := s4.go hS4 c5 (by omega)
              refine ih2 (k + 1) M5 (by omega) ((c3.t (c4.wide (fun j e => Or.inr (Or.inl e)))).t (c5.wide (fun j e => e.elim Or.inl (fun e => Or.inr (Or.inr e))))) ?_ ?_
              · rw [st, if_neg no]; exact s5
              · rw [st, if_neg no]; exact q5
        have := inner (rs (gn s.2 i)).length 0 M2 (by omega) c2 s2 q2
        rw [nI_0] at this
        exact this
  have c1 : Ch (In A (fun l => l = 14)) M (wI M (A 14) 5 0) := Ch.one (by omega)
  have hS1 := h.sh.go c1
  have q1 : QN A (wI M (A 14) 5 0) [] := ⟨by rw [iM_wI, if_pos ⟨rfl, rfl⟩]; exact nI_0.symm, Nat.zero_le _, fun k hk => absurd hk (Nat.not_lt_zero _)⟩
  refine ⟨h.sh.k 14, hS1.k 14, t_enqF hS1 hf q1 (fun M2 c2 q2 => ?_)⟩
  have s2 := (hs.go h.sh c1 (by omega)).go hS1 c2 (by omega)
  have := key 160 0 M2 (sn, [f]) (by omega) ((c1.wide (fun j e => Or.inl e)).t (c2.wide (fun j e => e.elim Or.inl (fun e => Or.inr (Or.inr e))))) s2 q2 q
  rw [nI_0] at this
  exact this
theorem t_shells {Q : Int32 → Mm → Prop} (h : SD A M B rs ow th ps fe fl pe pl) (q : ∀ M', Ch (In A ShI) M M' → Q (nI (shC rs ow fe).1) M') : T_X7_shellCount M (A 14) Q := by
  unfold T_X7_shellCount
  intro K hK
  have hfe := h.2.1.2.2.1
  refine ⟨h.sh.k 14, t_forget2 h.sh (fun M1 c1 s1 => ?_)⟩
  have key : ∀ d k M2, k + d = fe → Ch (In A ShI) M M2 → SN A M2 (shC rs ow k).2 → K (A 14) (nI (shC rs ow k).1) (nI k) M2 := by
    intro d
    induction d with
    | zero =>
      intro k M2 hk c2 s2
      have : k = fe := by omega
      subst this
      have s2d : SD A M2 B rs ow th ps k fl pe pl := h.go c2 (fun i z => by omega) (h.2.2.2.2.go h.sh c2 (fun i z => by omega))
      exact hK _ _ _ _ ⟨s2d.sh.k 14, A 7, s2d.sh.r 14 0 7, s2d.sh.k 7, t_fever s2d ⟨fun _ => q M2 c2, fun z => absurd (nI_le (Nat.le_refl _) (by omega)) z⟩⟩
    | succ d ih =>
      intro k M2 hk c2 s2
      have s2d : SD A M2 B rs ow th ps fe fl pe pl := h.go c2 (fun i z => by omega) (h.2.2.2.2.go h.sh c2 (fun i z => by omega))
      have st : shC rs ow (k + 1) = if rs k = [] ∨ (shC rs ow k).2 k = true then shC rs ow k else ((shC rs ow k).1 + 1, shW rs ow 160 0 (upB (shC rs ow k).2 k true, [k])) := rfl
      have skip : (rs k = [] ∨ (shC rs ow k).2 k = true) → K (A 14) (nI (shC rs ow k).1) (nI k + 1) M2 := fun no => by
        have := ih (k + 1) M2 (by omega) c2 (by rw [st, if_pos no]; exact s2)
        rw [st, if_pos no] at this
        rw [nI_1]
        exact this
      refine hK _ _ _ _ ⟨s2d.sh.k 14, A 7, s2d.sh.r 14 0 7, s2d.sh.k 7, t_fever s2d ⟨fun z => absurd z (nI_ge (by omega) (by omega)), fun _ => ⟨s2d.sh.k 14, A 7, s2d.sh.r 14 0 7, s2d.sh.k 7, t_has s2d.1 (fun f2 hf2 e2 ne => ⟨fun z => absurd z (by decide), fun _ => ⟨s2d.sh.k 14, ?_⟩⟩) (fun n => ⟨fun _ => skip (Or.inl (n k (by omega) rfl)), fun z => absurd rfl z⟩)⟩⟩⟩
      have : k = f2 := (nI_eq (by omega) (by omega)).mp e2
      subst this
      have see := t_seeF (F := k + 1) (sn := (shC rs ow k).2) (Q := fun r_7 M_8 => (r_7 = 0 → K (A 14) (nI (shC rs ow k).1) (nI k + 1) M_8) ∧ (¬ r_7 = 0 → kM M_8 (A 14) = (7, 6) ∧ T_X7_seeShell M_8 (A 14) (nI k) (fun M_10 => K (A 14) (nI (shC rs ow k).1 + 1) (nI k + 1) M_10))) s2d.sh (by omega) s2 (fun no => ⟨fun _ => skip (Or.inr (no.resolve_left (by omega))), fun z => absurd rfl z⟩) (fun M3 _ ns c3 s3 => ⟨fun z => absurd z (by decide), fun _ => ?_⟩)
      · rw [oi_s] at see
        exact see
      · have c23 : Ch (In A ShI) M M3 := c2.t (c3.wide (fun j e => Or.inr (Or.inl e)))
        have s3d : SD A M3 B rs ow th ps fe fl pe pl := h.go c23 (fun i z => by omega) (h.2.2.2.2.go h.sh c23 (fun i z => by omega))
        have no : ¬ (rs k = [] ∨ (shC rs ow k).2 k = true) := fun y => y.elim ne (fun y => by
          have ns : (shC rs ow k).2 k = false := ns
          rw [ns] at y
          cases y)
        refine ⟨s3d.sh.k 14, t_shell s3d (by omega) s3 (fun M4 c4 s4 => ?_)⟩
        have := ih (k + 1) M4 (by omega) (c23.t c4) (by rw [st, if_neg no]; exact s4)
        rw [st, if_neg no] at this
        rw [nI_1, nI_1]
        exact this
  have := key fe 0 M1 (by omega) (c1.wide (fun j e => Or.inr (Or.inl e))) s1
  rw [nI_0] at this
  exact this
end
