/-- the points: there or not, their places -/
def PT (A : Nat → Nat) (M : Mm) (th : Nat → Bool) (ps : Nat → Nat → Int32) : Prop :=
  Sh A M ∧ (∀ p, p < 100 → iM M (A 6) p = if th p then 1 else 0) ∧ ∀ ax p, ax < 3 → p < 100 → iM M (A (3 + ax)) p = ps ax p
def PN (A : Nat → Nat) (M : Mm) (pe pl : Nat) : Prop := iM M (A 1) 2 = nI pe ∧ iM M (A 1) 3 = nI pl ∧ pe ≤ 100 ∧ pl ≤ 100
def upB (th : Nat → Bool) (p : Nat) (v : Bool) : Nat → Bool := fun q => if q = p then v else th q
def upP (ps : Nat → Nat → Int32) (p : Nat) (x y z : Int32) : Nat → Nat → Int32 := fun ax q => if q = p then (if ax = 0 then x else if ax = 1 then y else z) else ps ax q
theorem PT.go {A : Nat → Nat} {I : Nat → Prop} {M M' : Mm} {th : Nat → Bool} {ps : Nat → Nat → Int32} (h : PT A M th ps) (c : Ch (In A I) M M') (hI : ∀ i, I i → i ≠ 3 ∧ i ≠ 4 ∧ i ≠ 5 ∧ i ≠ 6) : PT A M' th ps := by
  obtain ⟨h1, h2, h3⟩ := h
  refine ⟨h1.go c, fun p hp => ?_, fun ax p hax hp => ?_⟩
  · rw [c.at h1 (by omega) (fun z => (hI _ z).2.2.2 rfl)]; exact h2 p hp
  · rw [c.at h1 (by omega) (fun z => by have := hI _ z; omega)]; exact h3 ax p hax hp
theorem PN.go {A : Nat → Nat} {I : Nat → Prop} {M M' : Mm} {pe pl : Nat} (h : PN A M pe pl) (hS : Sh A M) (c : Ch (In A I) M M') (hI : ¬ I 1) : PN A M' pe pl := by
  unfold PN
  rw [c.at hS (by omega) hI, c.at hS (by omega) hI]
  exact h
theorem t_isPN {M : Mm} {x : Int32} {Q : Int32 → Prop} (q1 : ∀ p, p < 100 → x = nI p → Q 1) (q0 : (∀ p, p < 100 → x ≠ nI p) → Q 0) : T_X8_isPointNumber M x Q := by
  unfold T_X8_isPointNumber
  have e : (100 : Int32) = nI 100 := rfl
  rw [e]
  rcases i_case x 100 (by omega) with ⟨p, hp, hx⟩ | hx
  · subst hx
    exact ⟨fun z => absurd z (nI_pos (by omega)), fun _ => ⟨fun z => absurd z (nI_ge hp (by omega)), fun _ => q1 p hp rfl⟩⟩
  · have hno : ∀ p, p < 100 → x ≠ nI p := by
      intro p hp e2
      subst e2
      rcases hx with w | w
      · exact absurd w (nI_pos (by omega))
      · exact absurd w.2 (nI_ge hp (by omega))
    exact ⟨fun _ => q0 hno, fun n => ⟨fun _ => q0 hno, fun z => absurd (hx.elim (fun w => absurd w n) (fun w => w.2)) z⟩⟩
section
variable {A : Nat → Nat} {M : Mm} {th : Nat → Bool} {ps : Nat → Nat → Int32}
theorem Sh.grid (h : Sh A M) {ax : Nat} (hax : ax < 3) : rM M (A 2) ax = some (A (3 + ax)) ∧ kM M (A (3 + ax)) = (100, 100) := by
  have : ax = 0 ∨ ax = 1 ∨ ax = 2 := by omega
  rcases this with e | e | e <;> subst e
  · exact ⟨h.r 2 0 3, h.k 3⟩
  · exact ⟨h.r 2 1 4, h.k 4⟩
  · exact ⟨h.r 2 2 5, h.k 5⟩
theorem t_phas {x : Int32} {Q : Int32 → Prop} (h : PT A M th ps) (q1 : ∀ p, p < 100 → x = nI p → th p = true → Q 1) (q0 : (∀ p, p < 100 → x = nI p → th p = false) → Q 0) : T_X3_has M (A 1) x Q := by
  unfold T_X3_has
  refine t_isPN (fun p hp e => ⟨fun z => absurd z (by decide), fun _ => ⟨h.1.k 1, A 6, h.1.r 1 1 6, 100, h.1.k 6, ?_, ?_⟩⟩) (fun hno => ⟨fun _ => q0 (fun p hp e => absurd e (hno p hp)), fun z => absurd rfl z⟩)
  · rw [e]; exact vp_in_nI hp (by omega)
  · subst e
    rw [nI_clamp (by omega), h.2.1 p hp]
    by_cases g : th p = true
    · rw [if_pos g]
      exact ⟨fun z => absurd z (by decide), fun _ => q1 p hp rfl g⟩
    · rw [if_neg g]
      exact ⟨fun _ => q0 (fun q hq e => by rw [← (nI_eq (by omega) (by omega)).mp e]; exact Bool.eq_false_iff.mpr g), fun z => absurd rfl z⟩
theorem t_pget {p ax : Nat} {Q : Int32 → Prop} (h : PT A M th ps) (hp : p < 100) (hax : ax < 3) (q : Q (ps ax p)) : T_X3_get M (A 1) (nI p) (nI ax) Q := by
  unfold T_X3_get
  have e : (3 : Int32) = nI 3 := rfl
  refine t_isPN (fun p' hp' e' => ⟨fun z => absurd z (by decide), fun _ => ⟨fun z => absurd z (nI_pos (by omega)), fun _ => ⟨fun _ => ⟨h.1.k 1, A 2, h.1.r 1 0 2, 3, h.1.k 2, vp_in_nI hax (by omega), A (3 + ax), ?_, 100, (h.1.grid hax).2, vp_in_nI hp (by omega), ?_⟩, fun z => absurd (by rw [e]; exact nI_lt hax (by omega)) z⟩⟩⟩) (fun hno => absurd rfl (hno p hp))
  · rw [nI_clamp (by omega)]; exact (h.1.grid hax).1
  · rw [nI_clamp (by omega), h.2.2 ax p hax hp]; exact q
theorem t_put {p : Nat} {x y z : Int32} {Q : Mm → Prop} (h : PT A M th ps) (hp : p < 100) (q : ∀ M', Ch (In A (fun l => l = 3 ∨ l = 4 ∨ l = 5)) M M' → PT A M' th (upP ps p x y z) → Q M') : T_X3_put M (A 1) (nI p) x y z Q := by
  unfold T_X3_put
  refine t_isPN (fun p' hp' e' => ⟨fun z => absurd z (by decide), fun _ => ⟨h.1.k 1, A 2, h.1.r 1 0 2, 3, h.1.k 2, vp_in_nI (show 0 < 3 by omega) (by omega), A 3, h.1.r 2 0 3, 100, h.1.k 3, vp_in_nI hp (by omega), h.1.k 1, A 2, h.1.r 1 0 2, 3, h.1.k 2, vp_in_nI (show 1 < 3 by omega) (by omega), A 4, h.1.r 2 1 4, 100, h.1.k 4, vp_in_nI hp (by omega), h.1.k 1, A 2, h.1.r 1 0 2, 3, h.1.k 2, vp_in_nI (show 2 < 3 by omega) (by omega), A 5, h.1.r 2 2 5, 100, h.1.k 5, vp_in_nI hp (by omega), ?_⟩⟩) (fun hno => absurd rfl (hno p hp))
  rw [nI_clamp (by omega)]
  have c : Ch (In A (fun l => l = 3 ∨ l = 4 ∨ l = 5)) M (wI (wI (wI M (A 3) p x) (A 4) p y) (A 5) p z) :=
    ((Ch.one (i := 3) (by omega)).wide (fun i e => Or.inl e)).t (((Ch.one (i := 4) (by omega)).wide (fun i e => Or.inr (Or.inl e))).t ((Ch.one (i := 5) (by omega)).wide (fun i e => Or.inr (Or.inr e))))
  refine q _ c ⟨h.1.go c, fun r hr => ?_, fun ax r hax hr => ?_⟩
  · rw [c.at h.1 (by omega) (by omega)]; exact h.2.1 r hr
  · have n34 : A 3 ≠ A 4 := h.1.ne (by omega) (by omega) (by omega)
    have n35 : A 3 ≠ A 5 := h.1.ne (by omega) (by omega) (by omega)
    have n45 : A 4 ≠ A 5 := h.1.ne (by omega) (by omega) (by omega)
    have := h.2.2 ax r hax hr
    unfold upP
    rw [iM_wI, iM_wI, iM_wI]
    have hc : ax = 0 ∨ ax = 1 ∨ ax = 2 := by omega
    rcases hc with e | e | e <;> subst e
    · rw [if_neg (fun w => n35 w.1), if_neg (fun w => n34 w.1)]
      by_cases g : r = p
      · subst g; rw [if_pos ⟨rfl, rfl⟩, if_pos rfl, if_pos rfl]
      · rw [if_neg (fun w => g w.2), if_neg g]; exact this
    · rw [if_neg (fun w => n45 w.1)]
      by_cases g : r = p
      · subst g; rw [if_pos ⟨rfl, rfl⟩, if_pos rfl, if_neg (by decide), if_pos rfl]
      · rw [if_neg (fun w => g w.2), if_neg (fun w => g w.2), if_neg g]; exact this
    · by_cases g : r = p
      · subst g; rw [if_pos ⟨rfl, rfl⟩, if_pos rfl, if_neg (by decide), if_neg (by decide)]
      · rw [if_neg (fun w => g w.2), if_neg (fun w => g w.2), if_neg (fun w => g w.2), if_neg g]; exact this
theorem t_padd {pe pl : Nat} {x y z : Int32} {Q : Int32 → Mm → Prop} (h : PT A M th ps) (hn : PN A M pe pl) (hp : pe < 100) (hl : pl < 100) (q : ∀ M', Ch (In A (fun l => l = 1 ∨ l = 3 ∨ l = 4 ∨ l = 5 ∨ l = 6)) M M' → PT A M' (upB th pe true) (upP ps pe x y z) → PN A M' (pe + 1) (pl + 1) → Q (nI pe) M') : T_X3_add M (A 1) x y z Q := by
  unfold T_X3_add
  rw [hn.1]
  refine ⟨h.1.k 1, t_isPN (fun _ _ _ => ⟨fun _ => ⟨h.1.k 1, t_put h hp (fun M1 c1 h1 => ?_)⟩, fun z => absurd z (by decide)⟩) (fun hno => absurd rfl (hno pe hp))⟩
  have hn1 := hn.go h.1 c1 (by omega)
  have e1 : vp_nar .boolean 1 = 1 := by decide
  have n61 : A 1 ≠ A 6 := h.1.ne (by omega) (by omega) (by omega)
  refine ⟨h1.1.k 1, A 6, h1.1.r 1 1 6, 100, h1.1.k 6, vp_in_nI hp (by omega), h1.1.k 1, h1.1.k 1, h1.1.k 1, h1.1.k 1, ?_⟩
  rw [nI_clamp (by omega), e1]
  have v1 : iM (wI M1 (A 6) pe 1) (A 1) 2 = nI pe := by rw [iM_wI, if_neg (fun w => n61 w.1)]; exact hn1.1
  rw [v1, nI_1]
  have v2 : iM (wI (wI M1 (A 6) pe 1) (A 1) 2 (nI (pe + 1))) (A 1) 3 = nI pl := by rw [iM_wI, if_neg (by omega), iM_wI, if_neg (fun w => n61 w.1)]; exact hn1.2.1
  rw [v2, nI_1]
  have c2 : Ch (In A (fun l => l = 1 ∨ l = 6)) M1 (wI (wI (wI M1 (A 6) pe 1) (A 1) 2 (nI (pe + 1))) (A 1) 3 (nI (pl + 1))) :=
    ((Ch.one (i := 6) (by omega)).wide (fun i e => Or.inr e)).t (((Ch.one (i := 1) (by omega)).wide (fun i e => Or.inl e)).t ((Ch.one (i := 1) (by omega)).wide (fun i e => Or.inl e)))
  refine q _ ((c1.wide (fun i e => by omega)).t (c2.wide (fun i e => by omega))) ⟨h1.1.go c2, fun r hr => ?_, fun ax r hax hr => ?_⟩ ?_
  · rw [iM_wI, if_neg (fun w => n61 w.1.symm), iM_wI, if_neg (fun w => n61 w.1.symm), iM_wI]
    unfold upB
    by_cases g : r = pe
    · subst g; rw [if_pos ⟨rfl, rfl⟩, if_pos rfl]; rfl
    · rw [if_neg (fun w => g w.2), if_neg g]; exact h1.2.1 r hr
  · rw [c2.at h1.1 (by omega) (by omega)]; exact h1.2.2 ax r hax hr
  · unfold PN
    exact ⟨by rw [iM_wI, if_neg (by omega), iM_wI, if_pos ⟨rfl, rfl⟩], by rw [iM_wI, if_pos ⟨rfl, rfl⟩], by omega, by omega⟩
theorem t_pdrop {p pe pl : Nat} {Q : Mm → Prop} (h : PT A M th ps) (hn : PN A M pe pl) (hp : p < 100) (ht : th p = true) (hl : 0 < pl) (q : ∀ M', Ch (In A (fun l => l = 1 ∨ l = 6)) M M' → PT A M' (upB th p false) ps → PN A M' pe (pl - 1) → Q M') : T_X3_drop M (A 1) (nI p) Q := by
  unfold T_X3_drop
  have n61 : A 1 ≠ A 6 := h.1.ne (by omega) (by omega) (by omega)
  have e1 : vp_nar .boolean 0 = 0 := by decide
  refine ⟨h.1.k 1, t_phas h (fun _ _ _ _ => ⟨fun z => absurd z (by decide), fun _ => ⟨h.1.k 1, A 6, h.1.r 1 1 6, 100, h.1.k 6, vp_in_nI hp (by omega), h.1.k 1, h.1.k 1, ?_⟩⟩) (fun hno => absurd (hno p hp rfl) (by rw [ht]; decide))⟩
  rw [nI_clamp (by omega), e1]
  have v2 : iM (wI M (A 6) p 0) (A 1) 3 = nI pl := by rw [iM_wI, if_neg (fun w => n61 w.1)]; exact hn.2.1
  obtain ⟨m, rfl⟩ : ∃ m, pl = m + 1 := ⟨pl - 1, by omega⟩
  rw [v2, nI_pred]
  have c2 : Ch (In A (fun l => l = 1 ∨ l = 6)) M (wI (wI M (A 6) p 0) (A 1) 3 (nI m)) :=
    ((Ch.one (i := 6) (by omega)).wide (fun i e => Or.inr e)).t ((Ch.one (i := 1) (by omega)).wide (fun i e => Or.inl e))
  refine q _ c2 ⟨h.1.go c2, fun r hr => ?_, fun ax r hax hr => ?_⟩ ?_
  · rw [iM_wI, if_neg (fun w => n61 w.1.symm), iM_wI]
    unfold upB
    by_cases g : r = p
    · subst g; rw [if_pos ⟨rfl, rfl⟩, if_pos rfl]; rfl
    · rw [if_neg (fun w => g w.2), if_neg g]; exact h.2.1 r hr
  · rw [c2.at h.1 (by omega) (by omega)]; exact h.2.2 ax r hax hr
  · unfold PN
    exact ⟨by rw [iM_wI, if_neg (by omega), iM_wI, if_neg (fun w => n61 w.1)]; exact hn.1, by rw [iM_wI, if_pos ⟨rfl, rfl⟩]; rfl, hn.2.2.1, by have := hn.2.2.2; omega⟩
theorem t_phasRoom {pe pl k : Nat} {Q : Int32 → Prop} (h : PT A M th ps) (hn : PN A M pe pl) (hk : k < 2 ^ 30) (q1 : pe + k ≤ 100 → Q 1) (q0 : 100 < pe + k → Q 0) : T_X3_hasRoom M (A 1) (nI k) Q := by
  unfold T_X3_hasRoom
  have e : (100 : Int32) = nI 100 := rfl
  have := hn.2.2.1
  rw [hn.1, e, pk_sub (by omega)]
  refine ⟨h.1.k 1, fun z => q0 ?_, fun z => q1 ?_⟩
  · have := (nI_ltI (by omega) (by omega)).mp z; omega
  · have : ¬ 100 - pe < k := fun w => z (nI_lt w (by omega)); omega
theorem t_addMiddle {a b pe pl : Nat} {Q : Int32 → Mm → Prop} (h : PT A M th ps) (hn : PN A M pe pl) (hp : pe < 100) (hl : pl < 100) (ha : a < 100) (hb : b < 100) (q : ∀ M', Ch (In A (fun l => l = 1 ∨ l = 3 ∨ l = 4 ∨ l = 5 ∨ l = 6)) M M' → PT A M' (upB th pe true) (upP ps pe ((ps 0 a + ps 0 b) / 2) ((ps 1 a + ps 1 b) / 2) ((ps 2 a + ps 2 b) / 2)) → PN A M' (pe + 1) (pl + 1) → Q (nI pe) M') : T_X3_addMiddle M (A 1) (nI a) (nI b) Q := by
  unfold T_X3_addMiddle
  exact ⟨h.1.k 1, t_pget h ha (ax := 0) (by omega) ⟨h.1.k 1, t_pget h hb (ax := 0) (by omega) ⟨h.1.k 1, t_pget h ha (ax := 1) (by omega) ⟨h.1.k 1, t_pget h hb (ax := 1) (by omega) ⟨h.1.k 1, t_pget h ha (ax := 2) (by omega) ⟨h.1.k 1, t_pget h hb (ax := 2) (by omega) ⟨h.1.k 1, t_padd h hn hp hl q⟩⟩⟩⟩⟩⟩⟩
theorem t_addShifted {a pe pl : Nat} {x y z : Int32} {Q : Int32 → Mm → Prop} (h : PT A M th ps) (hn : PN A M pe pl) (hp : pe < 100) (hl : pl < 100) (ha : a < 100) (q : ∀ M', Ch (In A (fun l => l = 1 ∨ l = 3 ∨ l = 4 ∨ l = 5 ∨ l = 6)) M M' → PT A M' (upB th pe true) (upP ps pe (ps 0 a + x) (ps 1 a + y) (ps 2 a + z)) → PN A M' (pe + 1) (pl + 1) → Q (nI pe) M') : T_X3_addShifted M (A 1) (nI a) x y z Q := by
  unfold T_X3_addShifted
  exact ⟨h.1.k 1, t_pget h ha (ax := 0) (by omega) ⟨h.1.k 1, t_pget h ha (ax := 1) (by omega) ⟨h.1.k 1, t_pget h ha (ax := 2) (by omega) ⟨h.1.k 1, t_padd h hn hp hl q⟩⟩⟩⟩
end
