section
/-- round p, one way and the other, over the faces not seen yet; F: a face's number and one, 0 for none -/
def fanUp (rs : Nat → List Nat) (ow : Nat → Nat → Nat) (p : Nat) : Nat → Nat → (Nat → Bool) → (Nat → Bool)
  | 0, _, sn => sn
  | n + 1, F, sn => if F = 0 ∨ sn (F - 1) = true then sn else fanUp rs ow p n (ow (aft rs (F - 1) p) p) (upB sn (F - 1) true)
def fanDn (rs : Nat → List Nat) (ow : Nat → Nat → Nat) (p : Nat) : Nat → Nat → (Nat → Bool) → (Nat → Bool)
  | 0, _, sn => sn
  | n + 1, F, sn => if F = 0 ∨ sn (F - 1) = true then sn else fanDn rs ow p n (ow p (bef rs (F - 1) p)) (upB sn (F - 1) true)
def fanS (rs : Nat → List Nat) (ow : Nat → Nat → Nat) (p f : Nat) (sn : Nat → Bool) : Nat → Bool := fanDn rs ow p 160 (ow p (bef rs f p)) (fanUp rs ow p 160 (ow (aft rs f p) p) sn)
def fanC (rs : Nat → List Nat) (ow : Nat → Nat → Nat) (p : Nat) : Nat → Nat × (Nat → Bool)
  | 0 => (0, fun _ => false)
  | q + 1 => if ow p q = 0 ∨ (fanC rs ow p q).2 (ow p q - 1) = true then fanC rs ow p q else ((fanC rs ow p q).1 + 1, fanS rs ow p (ow p q - 1) (upB (fanC rs ow p q).2 (ow p q - 1) true))
/-- the seen faces as the memory has them -/
def SN (A : Nat → Nat) (M : Mm) (sn : Nat → Bool) : Prop := ∀ f, f < 160 → iM M (A 15) f = if sn f = true then 1 else 0
variable {A : Nat → Nat} {M M' : Mm} {B : Nat} {rs rs2 : Nat → List Nat} {ow ow2 : Nat → Nat → Nat} {th : Nat → Bool} {ps : Nat → Nat → Int32} {fe fl pe pl : Nat} {Cc Zz : Nat}
theorem t_seeF {F : Nat} {sn : Nat → Bool} {Q : Int32 → Mm → Prop} (hS : Sh A M) (hF : F ≤ 160) (hs : SN A M sn) (q0 : F = 0 ∨ sn (F - 1) = true → Q 0 M) (q1 : ∀ M', F ≠ 0 → sn (F - 1) = false → Ch (In A (fun l => l = 15)) M M' → SN A M' (upB sn (F - 1) true) → Q 1 M') : T_X7_see M (A 14) (oi F) Q := by
  unfold T_X7_see
  cases F with
  | zero =>
    rw [oi_0]
    unfold T_X8_isFaceNumber
    exact ⟨fun _ => ⟨fun _ => q0 (Or.inl rfl), fun z => absurd rfl z⟩, fun z => absurd (by decide) z⟩
  | succ f =>
    rw [oi_s]
    have hf : f < 160 := by omega
    rw [Nat.add_sub_cancel] at q0 q1
    refine t_isFN (by omega) (fun _ => ⟨fun z => absurd z (by decide), fun _ => ⟨hS.k 14, A 15, hS.r 14 2 15, 160, hS.k 15, vp_in_nI hf (by omega), ?_⟩⟩) (fun z => by omega)
    rw [nI_clamp (by omega), hs f hf]
    cases e : sn f with
    | true =>
      rw [if_pos rfl]
      exact ⟨fun z => absurd z (by decide), fun _ => q0 (Or.inr e)⟩
    | false =>
      rw [if_neg (by decide)]
      refine ⟨fun _ => ⟨hS.k 14, A 15, hS.r 14 2 15, 160, hS.k 15, vp_in_nI hf (by omega), q1 _ (by omega) e (Ch.one (by omega)) (fun k hk => ?_)⟩, fun z => absurd rfl z⟩
      rw [iM_wI]
      unfold upB
      by_cases z : k = f
      · rw [if_pos ⟨rfl, z⟩, if_pos z, if_pos rfl]
        decide
      · rw [if_neg (fun w => z w.2), if_neg z]
        exact hs k hk
theorem t_fan {p f : Nat} {sn : Nat → Bool} {Q : Mm → Prop} (h : SD A M B rs ow th ps fe fl pe pl) (w : Wf rs ow) (hp : p < 100) (hf : f < 160) (hm : p ∈ rs f) (hs : SN A M sn) (q : ∀ M', Ch (In A (fun l => l = 15)) M M' → SN A M' (fanS rs ow p f sn) → Q M') : T_X7_seeFan M (A 14) (nI p) (nI f) Q := by
  unfold T_X7_seeFan
  intro K21 K61 K82 h21 h61 h82
  have e160 : (160 : Int32) = nI 160 := rfl
  have ownF : ∀ x y, x < 100 → y < 100 → ow x y ≤ 160 := fun x y hx hy => (h.1.2.2.2.1 x y hx hy).2
  have bA : ∀ k, k < 160 → p ∈ rs k → aft rs k p < 100 := fun k hk hpk => by unfold aft; exact h.1.2.2.2.2 k _ hk (gn_mem (List.length_pos_of_mem hpk))
  have bB : ∀ k, k < 160 → p ∈ rs k → bef rs k p < 100 := fun k hk hpk => by unfold bef; exact h.1.2.2.2.2 k _ hk (gn_mem (List.length_pos_of_mem hpk))
  have inF : ∀ x, ow x p ≠ 0 → p ∈ rs (ow x p - 1) := fun x z => (w.mem z).2.2
  have inG : ∀ x, ow p x ≠ 0 → p ∈ rs (ow p x - 1) := fun x z => (w.mem z).2.1
  -- the other way
  have dn : ∀ d i F M2 sn2, i + d = 160 → F ≤ 160 → (F ≠ 0 → p ∈ rs (F - 1)) → Ch (In A (fun l => l = 15)) M M2 → SN A M2 sn2 → (∀ M', Ch (In A (fun l => l = 15)) M M' → SN A M' (fanDn rs ow p d F sn2) → Q M') → K82 (A 14) (nI p) (oi F) (nI i) M2 := by
    intro d
    induction d with
    | zero =>
      intro i F M2 sn2 hi hF hpF c2 s2 fin
      have : i = 160 := by omega
      subst this
      exact h82 _ _ _ _ _ ⟨fun _ => fin M2 c2 s2, fun z => absurd (by decide) z⟩
    | succ d ih =>
      intro i F M2 sn2 hi hF hpF c2 s2 fin
      have hS2 := h.sh.go c2
      refine h82 _ _ _ _ _ ⟨fun z => absurd z (by rw [e160]; exact nI_ge (by omega) (by omega)), fun _ => ⟨hS2.k 14, t_seeF hS2 hF s2 (fun no => ⟨fun _ => fin M2 c2 (by unfold fanDn; rw [if_pos no]; exact s2), fun z => absurd rfl z⟩) (fun M3 nz ns c3 s3 => ⟨fun z => absurd z (by decide), fun _ => ?_⟩)⟩⟩
      have hS3 := hS2.go c3
      have f3 := (h.1.go c2 (by omega)).go c3 (by omega)
      have hk : F - 1 < 160 := by omega
      have bd := bB (F - 1) hk (hpF nz)
      have eF : oi F = nI (F - 1) := by
        rw [← oi_s (F - 1), show F - 1 + 1 = F by omega]
      rw [eF]
      refine ⟨hS3.k 14, A 7, hS3.r 14 0 7, hS3.k 14, A 7, hS3.r 14 0 7, hS3.k 7, t_before f3 hk hp (hpF nz) ⟨hS3.k 7, t_owner f3 hp bd ?_⟩⟩
      rw [nI_1]
      refine ih (i + 1) _ M3 _ (by omega) (ownF _ _ hp bd) (inG _) (c2.t c3) s3 (fun M4 c4 s4 => fin M4 c4 ?_)
      have no : ¬ (F = 0 ∨ sn2 (F - 1) = true) := fun y => y.elim nz (fun y => by rw [ns] at y; cases y)
      show SN A M4 (if F = 0 ∨ sn2 (F - 1) = true then sn2 else fanDn rs ow p d (ow p (bef rs (F - 1) p)) (upB sn2 (F - 1) true))
      rw [if_neg no]
      exact s4
  have back : ∀ M2 sn2, Ch (In A (fun l => l = 15)) M M2 → SN A M2 sn2 → (∀ M', Ch (In A (fun l => l = 15)) M M' → SN A M' (fanDn rs ow p 160 (ow p (bef rs f p)) sn2) → Q M') → K61 (A 14) (nI p) (nI f) M2 := by
    intro M2 sn2 c2 s2 fin
    have hS2 := h.sh.go c2
    have f2 := h.1.go c2 (by omega)
    have bd := bB f hf hm
    refine h61 _ _ _ _ ⟨hS2.k 14, A 7, hS2.r 14 0 7, hS2.k 14, A 7, hS2.r 14 0 7, hS2.k 7, t_before f2 hf hp hm ⟨hS2.k 7, t_owner f2 hp bd ?_⟩⟩
    have := dn 160 0 (ow p (bef rs f p)) M2 sn2 (by omega) (ownF _ _ hp bd) (inG _) c2 s2 fin
    rw [nI_0] at this
    exact this
  have up : ∀ d i F M2 sn2, i + d = 160 → F ≤ 160 → (F ≠ 0 → p ∈ rs (F - 1)) → Ch (In A (fun l => l = 15)) M M2 → SN A M2 sn2 → (∀ M', Ch (In A (fun l => l = 15)) M M' → SN A M' (fanDn rs ow p 160 (ow p (bef rs f p)) (fanUp rs ow p d F sn2)) → Q M') → K21 (A 14) (nI p) (nI f) (oi F) (nI i) M2 := by
    intro d
    induction d with
    | zero =>
      intro i F M2 sn2 hi hF hpF c2 s2 fin
      have : i = 160 := by omega
      subst this
      exact h21 _ _ _ _ _ _ ⟨fun _ => back M2 sn2 c2 s2 fin, fun z => absurd (by decide) z⟩
    | succ d ih =>
      intro i F M2 sn2 hi hF hpF c2 s2 fin
      have hS2 := h.sh.go c2
      refine h21 _ _ _ _ _ _ ⟨fun z => absurd z (by rw [e160]; exact nI_ge (by omega) (by omega)), fun _ => ⟨hS2.k 14, t_seeF hS2 hF s2 (fun no => ⟨fun _ => back M2 sn2 c2 s2 (by unfold fanUp at fin; rw [if_pos no] at fin; exact fin), fun z => absurd rfl z⟩) (fun M3 nz ns c3 s3 => ⟨fun z => absurd z (by decide), fun _ => ?_⟩)⟩⟩
      have hS3 := hS2.go c3
      have f3 := (h.1.go c2 (by omega)).go c3 (by omega)
      have hk : F - 1 < 160 := by omega
      have bd := bA (F - 1) hk (hpF nz)
      have eF : oi F = nI (F - 1) := by
        rw [← oi_s (F - 1), show F - 1 + 1 = F by omega]
      rw [eF]
      refine ⟨hS3.k 14, A 7, hS3.r 14 0 7, hS3.k 14, A 7, hS3.r 14 0 7, hS3.k 7, t_after f3 hk hp (hpF nz) ⟨hS3.k 7, t_owner f3 bd hp ?_⟩⟩
      rw [nI_1]
      have no : ¬ (F = 0 ∨ sn2 (F - 1) = true) := fun y => y.elim nz (fun y => by rw [ns] at y; cases y)
      unfold fanUp at fin
      rw [if_neg no] at fin
      exact ih (i + 1) _ M3 _ (by omega) (ownF _ _ bd hp) (inF _) (c2.t c3) s3 fin
  have bd := bA f hf hm
  refine ⟨h.sh.k 14, A 7, h.sh.r 14 0 7, h.sh.k 14, A 7, h.sh.r 14 0 7, h.sh.k 7, t_after h.1 hf hp hm ⟨h.sh.k 7, t_owner h.1 bd hp ?_⟩⟩
  have := up 160 0 (ow (aft rs f p) p) M sn (by omega) (ownF _ _ bd hp) (inF _) Ch.rf hs q
  rw [nI_0] at this
  exact this
end
section
variable {A : Nat → Nat} {M M' : Mm} {B : Nat} {rs rs2 : Nat → List Nat} {ow ow2 : Nat → Nat → Nat} {th : Nat → Bool} {ps : Nat → Nat → Int32} {fe fl pe pl : Nat} {Cc Zz : Nat}
theorem t_forget2 (hS : Sh A M) {Q : Mm → Prop} (q : ∀ M', Ch (In A (fun l => l = 15)) M M' → SN A M' (fun _ => false) → Q M') : T_X7_forgetFaces M (A 14) Q := by
  unfold T_X7_forgetFaces
  intro K hK
  have e160 : (160 : Int32) = nI 160 := rfl
  have key : ∀ d k M', d + k = 160 → Ch (In A (fun l => l = 15)) M M' → (∀ f, f < k → iM M' (A 15) f = 0) → K (A 14) (nI k) M' := by
    intro d
    induction d with
    | zero =>
      intro k M' hd c z
      have : k = 160 := by omega
      subst this
      exact hK _ _ _ ⟨fun _ => q M' c (fun f hf => by rw [z f hf]; rfl), fun z => absurd (by rw [e160]; exact nI_le (Nat.le_refl _) (by omega)) z⟩
    | succ d ih =>
      intro k M' hd c z
      have s' := hS.go c
      refine hK _ _ _ ⟨fun z => absurd z (by rw [e160]; exact nI_ge (by omega) (by omega)), fun _ => ⟨s'.k 14, A 15, s'.r 14 2 15, 160, s'.k 15, vp_in_nI (by omega) (by omega), ?_⟩⟩
      rw [nI_1, nI_clamp (by omega)]
      refine ih (k + 1) _ (by omega) (c.t (Ch.one (by omega))) (fun f hf => ?_)
      rw [iM_wI]
      by_cases y : f = k
      · rw [if_pos ⟨rfl, y⟩]
        decide
      · rw [if_neg (fun w => y w.2)]
        exact z f (by omega)
  have := key 160 0 M rfl Ch.rf (fun f hf => absurd hf (Nat.not_lt_zero _))
  rw [nI_0] at this
  exact this
theorem fanC_le (rs : Nat → List Nat) (ow : Nat → Nat → Nat) (p : Nat) : ∀ q, (fanC rs ow p q).1 ≤ q := by
  intro q
  induction q with
  | zero => exact Nat.le_refl _
  | succ q ih =>
    show (if ow p q = 0 ∨ (fanC rs ow p q).2 (ow p q - 1) = true then fanC rs ow p q else ((fanC rs ow p q).1 + 1, fanS rs ow p (ow p q - 1) (upB (fanC rs ow p q).2 (ow p q - 1) true))).1 ≤ q + 1
    split
    · omega
    · show (fanC rs ow p q).1 + 1 ≤ q + 1
      omega
theorem t_fans {p : Nat} {Q : Int32 → Mm → Prop} (h : SD A M B rs ow th ps fe fl pe pl) (w : Wf rs ow) (hp : p < 100) (q : ∀ M', Ch (In A (fun l => l = 15)) M M' → Q (nI (fanC rs ow p 100).1) M') : T_X7_fanCount M (A 14) (nI p) Q := by
  unfold T_X7_fanCount
  intro K hK
  have e100 : (100 : Int32) = nI 100 := rfl
  refine ⟨h.sh.k 14, t_forget2 h.sh (fun M1 c1 s1 => ?_)⟩
  have key : ∀ d k M2, k + d = 100 → Ch (In A (fun l => l = 15)) M M2 → SN A M2 (fanC rs ow p k).2 → K (A 14) (nI p) (nI (fanC rs ow p k).1) (nI k) M2 := by
    intro d
    induction d with
    | zero =>
      intro k M2 hk c2 s2
      have : k = 100 := by omega
      subst this
      exact hK _ _ _ _ _ ⟨fun _ => q M2 c2, fun z => absurd (by decide) z⟩
    | succ d ih =>
      intro k M2 hk c2 s2
      have hS2 := h.sh.go c2
      have f2 := h.1.go c2 (by omega)
      have hO := (h.1.2.2.2.1 p k hp (by omega)).2
      have st : fanC rs ow p (k + 1) = if ow p k = 0 ∨ (fanC rs ow p k).2 (ow p k - 1) = true then fanC rs ow p k else ((fanC rs ow p k).1 + 1, fanS rs ow p (ow p k - 1) (upB (fanC rs ow p k).2 (ow p k - 1) true)) := rfl
      refine hK _ _ _ _ _ ⟨fun z => absurd z (by rw [e100]; exact nI_ge (by omega) (by omega)), fun _ => ⟨hS2.k 14, A 7, hS2.r 14 0 7, hS2.k 7, t_owner f2 hp (by omega) ⟨hS2.k 14, t_seeF hS2 hO s2 (fun no => ⟨fun _ => ?_, fun z => absurd rfl z⟩) (fun M3 nz ns c3 s3 => ⟨fun z => absurd z (by decide), fun _ => ?_⟩)⟩⟩⟩
      · have := ih (k + 1) M2 (by omega) c2 (by rw [st, if_pos no]; exact s2)
        rw [st, if_pos no] at this
        rw [nI_1]
        exact this
      · have hS3 := hS2.go c3
        have c23 := c2.t c3
        have s3d : SD A M3 B rs ow th ps fe fl pe pl := h.go c23 (fun i z => by omega) (h.2.2.2.2.go h.sh c23 (fun i z => by omega))
        have no : ¬ (ow p k = 0 ∨ (fanC rs ow p k).2 (ow p k - 1) = true) := fun y => y.elim nz (fun y => by rw [ns] at y; cases y)
        have eF : oi (ow p k) = nI (ow p k - 1) := by
          rw [← oi_s (ow p k - 1), show ow p k - 1 + 1 = ow p k by omega]
        rw [eF]
        refine ⟨hS3.k 14, t_fan s3d w hp (by omega) (w.mem nz).2.1 s3 (fun M4 c4 s4 => ?_)⟩
        have := ih (k + 1) M4 (by omega) (c23.t c4) (by rw [st, if_neg no]; exact s4)
        rw [st, if_neg no] at this
        rw [nI_1, nI_1]
        exact this
  have := key 100 0 M1 (by omega) c1 s1
  rw [nI_0] at this
  exact this
end
