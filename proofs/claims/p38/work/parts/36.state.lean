section
/-- what is used in between: the marks and four rings -/
def SC (A : Nat → Nat) (M : Mm) (B : Nat) : Prop :=
  (∃ now mk, MT A M now mk ∧ now ≤ B) ∧ ∀ i, (i = 31 ∨ i = 33 ∨ i = 19 ∨ i = 24) → ∃ xs, RG M (A i) (A (i + 1)) xs
/-- how many rings, how many points -/
def NE (rs : Nat → List Nat) : Nat := sumN (fun f => if rs f = [] then 0 else 1) 160
def NP (th : Nat → Bool) : Nat := sumN (fun p => if th p = true then 1 else 0) 100
def SD (A : Nat → Nat) (M : Mm) (B : Nat) (rs : Nat → List Nat) (ow : Nat → Nat → Nat) (th : Nat → Bool) (ps : Nat → Nat → Int32) (fe fl pe pl : Nat) : Prop :=
  FT A M rs ow ∧ FN A M fe fl ∧ PT A M th ps ∧ PN A M pe pl ∧ SC A M B
def Gd (rs : Nat → List Nat) (ow : Nat → Nat → Nat) (th : Nat → Bool) (ps : Nat → Nat → Int32) (fe fl pe pl : Nat) : Prop :=
  Wf rs ow ∧ (∀ f, rs f = [] ∨ 3 ≤ (rs f).length) ∧ (∀ f, fe ≤ f → rs f = []) ∧ fl = NE rs ∧ pl = NP th ∧ (∀ p, pe ≤ p → th p = false) ∧ (∀ f p, p ∈ rs f → th p = true) ∧ ∀ ax p, ax < 3 → th p = true → nr (ps ax p)
/-- some face has the half -/
def Hv (rs : Nat → List Nat) (a b : Nat) : Prop := ∃ g, g < 160 ∧ hvk (rs g) (rs g).length a b
section
variable {A : Nat → Nat} {M M' : Mm} {B : Nat} {rs : Nat → List Nat} {ow : Nat → Nat → Nat} {th : Nat → Bool} {ps : Nat → Nat → Int32} {fe fl pe pl : Nat}
theorem SC.any {I : Nat → Prop} {B2 : Nat} (h : SC A M B) (hS : Sh A M) (c : Ch (In A I) M M') (hm : ∃ now mk, MT A M' now mk ∧ now ≤ B2) (hr : ∀ i, (i = 31 ∨ i = 33 ∨ i = 19 ∨ i = 24) → (∃ xs, RG M' (A i) (A (i + 1)) xs) ∨ (¬ I i ∧ ¬ I (i + 1))) : SC A M' B2 := by
  refine ⟨hm, fun i hi => ?_⟩
  rcases hr i hi with q | ⟨q1, q2⟩
  · exact q
  · obtain ⟨xs, hx⟩ := h.2 i hi
    exact ⟨xs, hx.kept c (In.not hS (by omega) q1) (In.not hS (by omega) q2)⟩
theorem SC.go {I : Nat → Prop} (h : SC A M B) (hS : Sh A M) (c : Ch (In A I) M M') (hI : ∀ i, I i → i ≠ 12 ∧ i ≠ 13 ∧ i ≠ 31 ∧ i ≠ 32 ∧ i ≠ 33 ∧ i ≠ 34 ∧ i ≠ 19 ∧ i ≠ 20 ∧ i ≠ 24 ∧ i ≠ 25) : SC A M' B := by
  obtain ⟨now, mk, m, e⟩ := h.1
  exact h.any hS c ⟨now, mk, m.go c (fun z => (hI _ z).1 rfl) (fun z => (hI _ z).2.1 rfl), e⟩ (fun i hi => Or.inr ⟨fun z => by have := hI _ z; omega, fun z => by have := hI _ z; omega⟩)
theorem SC.up {B2 : Nat} (h : SC A M B) (e : B ≤ B2) : SC A M B2 := ⟨⟨h.1.choose, h.1.choose_spec.choose, h.1.choose_spec.choose_spec.1, Nat.le_trans h.1.choose_spec.choose_spec.2 e⟩, h.2⟩
/-- one of the rings of use has been changed -/
theorem SC.rg {I : Nat → Prop} {j : Nat} {xs : List Int32} (h : SC A M B) (hS : Sh A M) (c : Ch (In A I) M M') (hj : j = 31 ∨ j = 33 ∨ j = 19 ∨ j = 24) (hI : ∀ i, I i → i = j ∨ i = j + 1) (hr : RG M' (A j) (A (j + 1)) xs) : SC A M' B := by
  obtain ⟨now, mk, m, e⟩ := h.1
  refine h.any hS c ⟨now, mk, m.go c (fun z => by have := hI _ z; omega) (fun z => by have := hI _ z; omega), e⟩ (fun i hi => ?_)
  by_cases z : i = j
  · subst z
    exact Or.inl ⟨xs, hr⟩
  · exact Or.inr ⟨fun w => by have := hI _ w; omega, fun w => by have := hI _ w; omega⟩
/-- the marks have been changed -/
theorem SC.mt {I : Nat → Prop} {B2 now : Nat} {mk : Nat → Nat → Nat} (h : SC A M B) (hS : Sh A M) (c : Ch (In A I) M M') (hI : ∀ i, I i → i = 12 ∨ i = 13 ∨ i = 15 ∨ i = 16 ∨ i = 17 ∨ i = 14) (m : MT A M' now mk) (e : now ≤ B2) : SC A M' B2 :=
  h.any hS c ⟨now, mk, m, e⟩ (fun i hi => Or.inr ⟨fun w => by have := hI _ w; omega, fun w => by have := hI _ w; omega⟩)
theorem SD.sh (h : SD A M B rs ow th ps fe fl pe pl) : Sh A M := h.1.1
theorem SD.up {B2 : Nat} (h : SD A M B rs ow th ps fe fl pe pl) (e : B ≤ B2) : SD A M B2 rs ow th ps fe fl pe pl := ⟨h.1, h.2.1, h.2.2.1, h.2.2.2.1, h.2.2.2.2.up e⟩
/-- a change of what is used in between alone -/
theorem SD.go {I : Nat → Prop} {B2 : Nat} (h : SD A M B rs ow th ps fe fl pe pl) (c : Ch (In A I) M M') (hI : ∀ i, I i → 12 ≤ i ∧ i < 64) (s : SC A M' B2) : SD A M' B2 rs ow th ps fe fl pe pl :=
  ⟨h.1.go c (fun i z => by have := hI i z; omega), h.2.1.go h.sh c (fun z => by have := hI _ z; omega), h.2.2.1.go c (fun i z => by have := hI i z; omega), h.2.2.2.1.go h.sh c (fun z => by have := hI _ z; omega), s⟩
/-- rings, owners and the faces' numbers changed, no more -/
theorem SD.face {I : Nat → Prop} {rs2 : Nat → List Nat} {ow2 : Nat → Nat → Nat} {fe2 fl2 : Nat} (h : SD A M B rs ow th ps fe fl pe pl) (c : Ch (In A I) M M') (hI : ∀ i, I i → i = 7 ∨ i = 11 ∨ 64 ≤ i) (f : FT A M' rs2 ow2) (n : FN A M' fe2 fl2) : SD A M' B rs2 ow2 th ps fe2 fl2 pe pl :=
  ⟨f, n, h.2.2.1.go c (fun i z => by have := hI i z; omega), h.2.2.2.1.go h.sh c (fun z => by have := hI _ z; omega), h.2.2.2.2.go h.sh c (fun i z => by have := hI i z; omega)⟩
/-- points changed, no more -/
theorem SD.point {I : Nat → Prop} {th2 : Nat → Bool} {ps2 : Nat → Nat → Int32} {pe2 pl2 : Nat} (h : SD A M B rs ow th ps fe fl pe pl) (c : Ch (In A I) M M') (hI : ∀ i, I i → i = 1 ∨ i = 3 ∨ i = 4 ∨ i = 5 ∨ i = 6) (f : PT A M' th2 ps2) (n : PN A M' pe2 pl2) : SD A M' B rs ow th2 ps2 fe fl pe2 pl2 :=
  ⟨h.1.go c (fun i z => by have := hI i z; omega), h.2.1.go h.sh c (fun z => by have := hI _ z; omega), f, n, h.2.2.2.2.go h.sh c (fun i z => by have := hI i z; omega)⟩
theorem NE_up {f : Nat} (hf : f < 160) {ys : List Nat} : NE (upr rs f ys) + (if rs f = [] then 0 else 1) = NE rs + (if ys = [] then 0 else 1) := by
  have key : ∀ n, f < n → sumN (fun g => if upr rs f ys g = [] then 0 else 1) n + (if rs f = [] then 0 else 1) = sumN (fun g => if rs g = [] then 0 else 1) n + (if ys = [] then 0 else 1) := by
    intro n
    induction n with
    | zero => intro z; exact absurd z (Nat.not_lt_zero _)
    | succ n ih =>
      intro z
      show sumN (fun g => if upr rs f ys g = [] then 0 else 1) n + (if upr rs f ys n = [] then 0 else 1) + _ = sumN (fun g => if rs g = [] then 0 else 1) n + (if rs n = [] then 0 else 1) + _
      by_cases e : f = n
      · subst e
        have h1 : sumN (fun g => if upr rs f ys g = [] then 0 else 1) f = sumN (fun g => if rs g = [] then 0 else 1) f := sumN_same (fun k hk => by
          show (if upr rs f ys k = [] then 0 else 1) = _
          unfold upr
          rw [if_neg (show ¬ k = f by omega)])
        have h2 : upr rs f ys f = ys := by unfold upr; rw [if_pos rfl]
        rw [h1, h2]
        omega
      · have h2 : upr rs f ys n = rs n := by unfold upr; rw [if_neg (fun z => e z.symm)]
        have := ih (by omega)
        rw [h2]
        omega
  exact key 160 hf
theorem NP_up {p : Nat} (hp : p < 100) {v : Bool} : NP (upB th p v) + (if th p = true then 1 else 0) = NP th + (if v = true then 1 else 0) := by
  have key : ∀ n, p < n → sumN (fun g => if upB th p v g = true then 1 else 0) n + (if th p = true then 1 else 0) = sumN (fun g => if th g = true then 1 else 0) n + (if v = true then 1 else 0) := by
    intro n
    induction n with
    | zero => intro z; exact absurd z (Nat.not_lt_zero _)
    | succ n ih =>
      intro z
      show sumN (fun g => if upB th p v g = true then 1 else 0) n + (if upB th p v n = true then 1 else 0) + _ = sumN (fun g => if th g = true then 1 else 0) n + (if th n = true then 1 else 0) + _
      by_cases e : p = n
      · subst e
        have h1 : sumN (fun g => if upB th p v g = true then 1 else 0) p = sumN (fun g => if th g = true then 1 else 0) p := sumN_same (fun k hk => by
          show (if upB th p v k = true then 1 else 0) = _
          unfold upB
          rw [if_neg (show ¬ k = p by omega)])
        have h2 : upB th p v p = v := by unfold upB; rw [if_pos rfl]
        rw [h1, h2]
        omega
      · have h2 : upB th p v n = th n := by unfold upB; rw [if_neg (fun z => e z.symm)]
        have := ih (by omega)
        rw [h2]
        omega
  exact key 100 hp
theorem cnt_le {P : Nat → Prop} [∀ k, Decidable (P k)] {m : Nat} (h : ∀ k, m ≤ k → P k) : ∀ n, sumN (fun k => if P k then 0 else 1) n ≤ m := by
  have h2 : ∀ n, sumN (fun k => if P k then 0 else 1) n ≤ n := by
    intro n
    induction n with
    | zero => exact Nat.le_refl _
    | succ n ih =>
      show sumN (fun k => if P k then 0 else 1) n + (if P n then 0 else 1) ≤ n + 1
      split <;> omega
  intro n
  induction n with
  | zero => exact Nat.zero_le _
  | succ n ih =>
    show sumN (fun k => if P k then 0 else 1) n + (if P n then 0 else 1) ≤ m
    by_cases e : m ≤ n
    · rw [if_pos (h n e)]
      exact ih
    · have := h2 n
      split <;> omega
theorem Gd.fl_le (g : Gd rs ow th ps fe fl pe pl) : fl ≤ fe := by
  rw [g.2.2.2.1]
  exact cnt_le (P := fun f => rs f = []) g.2.2.1 160
theorem Gd.pl_le (g : Gd rs ow th ps fe fl pe pl) : pl ≤ pe := by
  rw [g.2.2.2.2.1]
  have := cnt_le (P := fun p => th p = false) g.2.2.2.2.2.1 100
  refine Nat.le_trans (Nat.le_of_eq (sumN_same (fun k _ => ?_))) this
  cases th k <;> rfl
theorem Gd.zero (g : Gd rs ow th ps fe fl pe pl) (a b : Nat) : ow a b = 0 ↔ ¬ Hv rs a b := by
  constructor
  · intro e ⟨f, hf, hv⟩
    have := (g.1.1 a b f).mpr ⟨hf, hv⟩
    omega
  · intro n
    cases e : ow a b with
    | zero => rfl
    | succ f => exact absurd ⟨f, ((g.1.1 a b f).mp e)⟩ n
theorem wf_zero (w : Wf rs ow) (a b : Nat) : ow a b = 0 ↔ ¬ Hv rs a b := by
  constructor
  · intro e ⟨f, hf, hv⟩
    have := (w.1 a b f).mpr ⟨hf, hv⟩
    omega
  · intro n
    cases e : ow a b with
    | zero => rfl
    | succ f => exact absurd ⟨f, ((w.1 a b f).mp e)⟩ n
theorem hvk_in {xs : List Nat} {a b : Nat} (h : hvk xs xs.length a b) : a ∈ xs ∧ b ∈ xs := by
  obtain ⟨i, hi, e1, e2⟩ := h
  exact ⟨e1 ▸ gn_mem (by omega), e2 ▸ gn_mem (by omega)⟩
theorem Gd.half (g : Gd rs ow th ps fe fl pe pl) {a b : Nat} (h : ow a b ≠ 0) : th a = true ∧ th b = true ∧ a ≠ b := by
  have hm := g.1.mem h
  refine ⟨g.2.2.2.2.2.2.1 _ _ hm.2.1, g.2.2.2.2.2.2.1 _ _ hm.2.2, fun e => ?_⟩
  subst e
  obtain ⟨f, hf⟩ := Nat.exists_eq_succ_of_ne_zero h
  obtain ⟨hf2, i, hi, e1, e2⟩ := (g.1.1 a a f).mp hf
  have h3 : 3 ≤ (rs f).length := by
    rcases g.2.1 f with z | z
    · rw [z] at hi
      exact absurd hi (Nat.not_lt_zero _)
    · exact z
  by_cases e : i + 1 < (rs f).length
  · have := g.1.2 f i (i + 1) hf2 hi e (e1.trans e2.symm)
    omega
  · have e3 : i + 1 = 0 + (rs f).length := by omega
    rw [e3, gn_add] at e2
    have := g.1.2 f i 0 hf2 hi (by omega) (e1.trans e2.symm)
    omega
theorem Gd.noloop (g : Gd rs ow th ps fe fl pe pl) (a : Nat) : ow a a = 0 := by
  refine Classical.byContradiction (fun z => ?_)
  exact (g.half z).2.2 rfl
theorem th_lt (h : ∀ p, pe ≤ p → th p = false) (hp : pe ≤ 100) {p : Nat} (e : th p = true) : p < 100 := by
  refine Classical.byContradiction (fun z => ?_)
  rw [h p (by omega)] at e
  cases e
/-- a new face of free halves -/
theorem Gd.add (g : Gd rs ow th ps fe fl pe pl) (hf : fe < 160) {ys : List Nat} (h3 : 3 ≤ ys.length) (hd : ∀ i j, i < ys.length → j < ys.length → gn ys i = gn ys j → i = j) (hfree : ∀ a b, hvk ys ys.length a b → ow a b = 0) (ht : ∀ p, p ∈ ys → th p = true) : Gd (upr rs fe ys) (rshT fe (rs fe) ys ow) th ps (fe + 1) (fl + 1) pe pl := by
  obtain ⟨g1, g2, g3, g4, g5, g6, g7, g8⟩ := g
  have hne : ys ≠ [] := fun z => by rw [z] at h3; exact absurd h3 (by decide)
  refine ⟨wf_one g1 hf hd (fun a b v => Or.inl (hfree a b v)), fun f => ?_, fun f hk => ?_, ?_, g5, g6, fun f p hp => ?_, g8⟩
  · unfold upr
    split
    · exact Or.inr h3
    · exact g2 f
  · unfold upr
    rw [if_neg (by omega)]
    exact g3 f (by omega)
  · have := NE_up (rs := rs) hf (ys := ys)
    rw [if_pos (g3 fe (Nat.le_refl _)), if_neg hne] at this
    omega
  · unfold upr at hp
    split at hp
    · exact ht p hp
    · exact g7 f p hp
/-- another ring for a face, of halves that are free or its own -/
theorem Gd.re (g : Gd rs ow th ps fe fl pe pl) {f : Nat} (hf : f < 160) (hr : rs f ≠ []) {ys : List Nat} (h3 : 3 ≤ ys.length) (hd : ∀ i j, i < ys.length → j < ys.length → gn ys i = gn ys j → i = j) (hfree : ∀ a b, hvk ys ys.length a b → ow a b = 0 ∨ ow a b = f + 1) (ht : ∀ p, p ∈ ys → th p = true) : Gd (upr rs f ys) (rshT f (rs f) ys ow) th ps fe fl pe pl := by
  obtain ⟨g1, g2, g3, g4, g5, g6, g7, g8⟩ := g
  have hne : ys ≠ [] := fun z => by rw [z] at h3; exact absurd h3 (by decide)
  refine ⟨wf_one g1 hf hd hfree, fun k => ?_, fun k hk => ?_, ?_, g5, g6, fun k p hp => ?_, g8⟩
  · unfold upr
    split
    · exact Or.inr h3
    · exact g2 k
  · have hlt : f < fe := Classical.byContradiction (fun z => hr (g3 f (by omega)))
    unfold upr
    rw [if_neg (by omega)]
    exact g3 k hk
  · have := NE_up (rs := rs) hf (ys := ys)
    rw [if_neg hr, if_neg hne] at this
    omega
  · unfold upr at hp
    split at hp
    · exact ht p hp
    · exact g7 k p hp
theorem Gd.drop (g : Gd rs ow th ps fe fl pe pl) {f : Nat} (hf : f < 160) (hr : rs f ≠ []) : Gd (upr rs f []) (relT f (rs f) ow (rs f).length) th ps fe (fl - 1) pe pl ∧ 0 < fl := by
  obtain ⟨g1, g2, g3, g4, g5, g6, g7, g8⟩ := g
  have hn := NE_up (rs := rs) hf (ys := [])
  rw [if_neg hr, if_pos rfl] at hn
  refine ⟨⟨wf_drop g1 hf, fun k => ?_, fun k hk => ?_, by omega, g5, g6, fun k p hp => ?_, g8⟩, by omega⟩
  · unfold upr
    split
    · exact Or.inl rfl
    · exact g2 k
  · unfold upr
    split
    · rfl
    · exact g3 k hk
  · unfold upr at hp
    split at hp
    · cases hp
    · exact g7 k p hp
theorem Gd.pt (g : Gd rs ow th ps fe fl pe pl) (hp : pe < 100) {x y z : Int32} (hx : nr x ∧ nr y ∧ nr z) : Gd rs ow (upB th pe true) (upP ps pe x y z) fe fl (pe + 1) (pl + 1) := by
  obtain ⟨g1, g2, g3, g4, g5, g6, g7, g8⟩ := g
  have hn := NP_up (th := th) hp (v := true)
  rw [if_neg (by rw [g6 pe (Nat.le_refl _)]; decide), if_pos rfl] at hn
  refine ⟨g1, g2, g3, g4, by omega, fun p hk => ?_, fun f p hk => ?_, fun ax p ha ht => ?_⟩
  · unfold upB
    rw [if_neg (by omega)]
    exact g6 p (by omega)
  · unfold upB
    split
    · rfl
    · exact g7 f p hk
  · unfold upP
    split
    · split
      · exact hx.1
      · split
        · exact hx.2.1
        · exact hx.2.2
    · rename_i hne
      unfold upB at ht
      rw [if_neg hne] at ht
      exact g8 ax p ha ht
theorem Gd.dropP (g : Gd rs ow th ps fe fl pe pl) {p : Nat} (hp : p < 100) (ht : th p = true) (hno : ∀ f, p ∉ rs f) : Gd rs ow (upB th p false) ps fe fl pe (pl - 1) ∧ 0 < pl := by
  obtain ⟨g1, g2, g3, g4, g5, g6, g7, g8⟩ := g
  have hn := NP_up (th := th) hp (v := false)
  rw [if_pos ht, if_neg (by decide)] at hn
  refine ⟨⟨g1, g2, g3, g4, by omega, fun q hk => ?_, fun f q hk => ?_, fun ax q ha h => ?_⟩, by omega⟩
  · unfold upB
    split
    · rfl
    · exact g6 q hk
  · unfold upB
    rw [if_neg (fun z : q = p => hno f (z ▸ hk))]
    exact g7 f q hk
  · unfold upB at h
    split at h
    · cases h
    · exact g8 ax q ha h
end
end
