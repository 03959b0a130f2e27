section
/-- the points along a hole -/
def hoL (rs : Nat → List Nat) (ow : Nat → Nat → Nat) (u v c : Nat) : List Nat := (List.range c).map (fun k => (cy rs ow u v k).1)
variable {A : Nat → Nat} {M M' : Mm} {B : Nat} {rs rs2 : Nat → List Nat} {ow ow2 : Nat → Nat → Nat} {th : Nat → Bool} {ps : Nat → Nat → Int32} {fe fl pe pl : Nat} {Cc Zz : Nat}
theorem hoL_len (u v c : Nat) : (hoL rs ow u v c).length = c := by unfold hoL; rw [List.length_map, List.length_range]
theorem hoL_suc (u v c : Nat) : hoL rs ow u v (c + 1) = hoL rs ow u v c ++ [(cy rs ow u v c).1] := by unfold hoL; rw [List.range_succ, List.map_append]; rfl
theorem hoL_at {u v c k : Nat} (h : k < c) : gn (hoL rs ow u v c) k = (cy rs ow u v k).1 := by
  refine gn_eq ?_
  unfold hoL
  rw [List.getElem?_map, List.getElem?_range h]
  rfl
theorem cy_next (u v k : Nat) : cy rs ow u v (k + 1) = ((cy rs ow u v k).2, nx rs ow (cy rs ow u v k).1 (cy rs ow u v k).2) := by
  rw [← cy_add u v k 1]
  rfl
theorem hoL_hv {u v n : Nat} (hn : 0 < n) (hc : cy rs ow u v n = (u, v)) (x y : Nat) : hvk (hoL rs ow u v n) (hoL rs ow u v n).length x y ↔ ∃ k, k < n ∧ cy rs ow u v k = (x, y) := by
  have hl := hoL_len (rs := rs) (ow := ow) u v n
  have e2 : ∀ k, k < n → gn (hoL rs ow u v n) (k + 1) = (cy rs ow u v k).2 := fun k hk => by
    have c1 : (cy rs ow u v (k + 1)).1 = (cy rs ow u v k).2 := by rw [cy_next]
    by_cases z : k + 1 < n
    · rw [hoL_at z, c1]
    · have e := gn_add (hoL rs ow u v n) 0
      rw [hl, Nat.zero_add] at e
      rw [show k + 1 = n by omega] at c1 ⊢
      rw [e, hoL_at hn, ← c1, hc]
      rfl
  rw [hl]
  constructor
  · intro ⟨k, hk, a1, a2⟩
    rw [hoL_at hk] at a1
    rw [e2 k hk] at a2
    exact ⟨k, hk, Prod.ext a1 a2⟩
  · intro ⟨k, hk, e⟩
    exact ⟨k, hk, by rw [hoL_at hk, e], by rw [e2 k hk, e]⟩
theorem t_readHole {u v n : Nat} {Q : Mm → Prop} (h : SD A M B rs ow th ps fe fl pe pl) (g : Gd rs ow th ps fe fl pe pl) (ho : hO ow (u, v)) (hn : n ≤ 12) (q : ∀ M', SD A M' B rs ow th ps fe fl pe pl → RG M' (A 31) (A 32) ((hoL rs ow u v n).map nI) → Q M') : T_X8_readHole M (A 0) (nI u) (nI v) (nI n) Q := by
  unfold T_X8_readHole
  intro K hK
  have N := wf_NX g.1 h.1.2.2.2.2
  have key : ∀ d k M2, k + d = n → SD A M2 B rs ow th ps fe fl pe pl → RG M2 (A 31) (A 32) ((hoL rs ow u v k).map nI) → K (A 0) (nI n) (nI (cy rs ow u v k).1) (nI (cy rs ow u v k).2) (nI k) M2 := by
    intro d
    induction d with
    | zero =>
      intro k M2 hk s2 r2
      have : k = n := by omega
      subst this
      exact hK _ _ _ _ _ _ ⟨fun _ => q M2 s2 r2, fun z => absurd (nI_le (Nat.le_refl _) (by omega)) z⟩
    | succ d ih =>
      intro k M2 hk s2 r2
      have hk2 := cy_o N ho k
      refine hK _ _ _ _ _ _ ⟨fun z => absurd z (nI_ge (by omega) (by omega)), fun _ => ⟨s2.sh.k 0, A 31, s2.sh.r 0 6 31, s2.sh.k 31, t_add r2 (by rw [List.length_map, hoL_len]; omega) (fun M3 c3 r3 => ?_)⟩⟩
      have c3' := c3.two (A := A) (by omega) (by omega)
      have s3 : SD A M3 B rs ow th ps fe fl pe pl := s2.go c3' (fun i z => by omega) (s2.2.2.2.2.rg s2.sh c3' (Or.inl rfl) (fun i z => z) r3)
      obtain ⟨n1, n2, n3⟩ := N _ _ hk2.1 hk2.2.1 hk2.2.2
      refine ⟨s3.sh.k 0, A 7, s3.sh.r 0 1 7, s3.sh.k 7, t_nextOpen s3.1 g.1.wk hk2.1 hk2.2.1 (fun c hc e => ?_) (fun e => by rw [n1] at e; cases e)⟩
      have ec : c = nx rs ow (cy rs ow u v k).1 (cy rs ow u v k).2 := by
        rw [n1] at e
        exact (Option.some.inj e).symm
      have := ih (k + 1) M3 (by omega) s3 (by rw [hoL_suc, List.map_append]; exact r3)
      rw [cy_next] at this
      rw [ec, nI_1]
      exact this
  obtain ⟨xs, hx⟩ := h.2.2.2.2.2 31 (Or.inl rfl)
  refine ⟨h.sh.k 0, A 31, h.sh.r 0 6 31, h.sh.k 31, t_clear hx (fun M2 c2 r2 => ?_)⟩
  have c2' := c2.two (A := A) (by omega) (by omega)
  have s2 : SD A M2 B rs ow th ps fe fl pe pl := h.go c2' (fun i z => by omega) (h.2.2.2.2.rg h.sh c2' (Or.inl rfl) (fun i z => z) r2)
  have := key n 0 M2 (by omega) s2 r2
  rw [nI_0] at this
  exact this
theorem o_fill {i1 i2 : Int32} {Q : Int32 → Mm → Prop} {X : String → Mm → Prop} (h : SD A M B rs ow th ps fe fl pe pl) (g : Gd rs ow th ps fe fl pe pl) (hB : B + 1 < 2 ^ 30) (hc : 5 ≤ Cc) (hz : 30 ≤ Zz) (hX : ∀ E M', xE E → SD A M' (B + 1) rs ow th ps fe fl pe pl → X E M')
    (q : ∀ M' rs' ow' a b, a < 100 → b < 100 → i1 = nI a → i2 = nI b → SD A M' (B + 1) rs' ow' th ps (fe + 1) (fl + 1) pe pl → Gd rs' ow' th ps (fe + 1) (fl + 1) pe pl → 3 ≤ (rs' fe).length → (rs' fe).length = hL rs ow a b → hC rs ow fe = hC rs' ow' (fe + 1) + 1 → Q (nI fe) M') : T_X8_fill Cc Zz M (A 0) i1 i2 Q X := by
  unfold T_X8_fill
  intro K55 K80 h55 h80
  have up := h.up (B2 := B + 1) (by omega)
  refine ⟨2, 12, ⟨by omega, by omega⟩, h.sh.k 0, n_pts h (by omega) (by omega) (fun a b ha hb ea eb ta tb => ?_) (fun _ => hX _ _ (Or.inl rfl) up)⟩
  subst ea
  subst eb
  refine ⟨h.sh.k 0, A 7, h.sh.r 0 1 7, ⟨by omega, by omega⟩, h.sh.k 7, t_isOpen h.1 ha hb (fun o1 o2 => ⟨1, 6, ⟨by omega, by omega⟩, n_arg (by omega) (by omega) (fun _ => ?_) (fun z => absurd z (by decide))⟩) (fun _ => ⟨1, 6, ⟨by omega, by omega⟩, n_arg (by omega) (by omega) (fun z => absurd rfl z) (fun _ => hX _ _ (Or.inr (Or.inl rfl)) up)⟩)⟩
  have ho : hO ow (a, b) := ⟨ha, hb, o1, o2⟩
  have ok := g.ok h.1
  obtain ⟨now, mk, m, e⟩ := h.2.2.2.2.1
  refine ⟨h.sh.k 0, A 14, h.sh.r 0 2 14, ⟨by omega, by omega⟩, h.sh.k 14, t_holeLen h.1 g.1.wk (wf_NX g.1 h.1.2.2.2.2) m (by omega) ha hb (fun M2 mk2 c2 m2 => ?_)⟩
  have s2 : SD A M2 (B + 1) rs ow th ps fe fl pe pl := h.go c2 (fun i z => by omega) (h.2.2.2.2.mt h.sh c2 (fun i z => by omega) m2 (by omega))
  have bad : ∀ i3 cc zz, cc + 1 ≤ Cc → zz + 6 ≤ Zz → K55 (A 0) (nI a) (nI b) i3 0 M2 cc zz := fun i3 cc zz c1 c3 => h55 _ _ _ _ _ _ _ _ ⟨1, 6, ⟨by omega, by omega⟩, n_stt (by omega) (by omega) (fun z => absurd rfl z) (fun _ => hX _ _ (Or.inr (Or.inr rfl)) s2)⟩
  -- the hole's length, and that it comes round
  have hw := ok_walk ok ho (now := 1) (g := fun _ _ => 0) (fun _ _ z => absurd z (show ¬ 0 = 1 by decide)) (by decide)
  have eL : hL rs ow a b = (mh rs ow 1 1920 a b (fun _ _ => 0)).1 := by
    unfold hL mhO
    rw [if_pos ⟨o1, o2⟩]
  rw [← eL] at hw
  obtain ⟨hcy, _, hL3⟩ := hw
  have hLle : hL rs ow a b ≤ 1920 := by rw [eL]; exact mh_le _ _ _ _ _ _ _
  refine ⟨s2.sh.k 0, A 7, s2.sh.r 0 1 7, ⟨by omega, by omega⟩, s2.sh.k 7, t_room (k := 1) s2 (by omega) (fun hr => ⟨fun z => absurd z (by decide), fun _ => ?_⟩) (fun _ => ⟨fun _ => bad _ _ _ (by omega) (by omega), fun z => absurd rfl z⟩)⟩
  refine ⟨fun _ => bad _ _ _ (by omega) (by omega), fun _ => ⟨fun _ => bad _ _ _ (by omega) (by omega), fun z12 => ?_⟩⟩
  have h12 : hL rs ow a b ≤ 12 := Classical.byContradiction (fun y => z12 (nI_lt (a := 12) (by omega) (by omega)))
  refine h55 _ _ _ _ _ _ _ _ ⟨1, 6, ⟨by omega, by omega⟩, n_stt (by omega) (by omega) (fun _ => ?_) (fun z => absurd z (by decide))⟩
  refine ⟨⟨by omega, by omega⟩, s2.sh.k 0, t_readHole s2 g ho h12 (fun M3 s3 r3 => ?_)⟩
  have bad2 : ∀ cc zz, cc + 1 ≤ Cc → zz + 6 ≤ Zz → K80 (A 0) 0 M3 cc zz := fun cc zz c1 c3 => h80 _ _ _ _ _ ⟨1, 6, ⟨by omega, by omega⟩, n_stt (by omega) (by omega) (fun z => absurd rfl z) (fun _ => hX _ _ (Or.inr (Or.inr rfl)) s3)⟩
  refine ⟨s3.sh.k 0, A 31, s3.sh.r 0 6 31, ⟨by omega, by omega⟩, s3.sh.k 31, t_hasTwice r3 (fun _ => ⟨fun _ => bad2 _ _ (by omega) (by omega), fun z => absurd z (by decide)⟩) (fun hd => ⟨fun z => absurd rfl z, fun _ => ?_⟩)⟩
  refine h80 _ _ _ _ _ ⟨1, 6, ⟨by omega, by omega⟩, n_stt (by omega) (by omega) (fun _ => ?_) (fun z => absurd z (by decide))⟩
  have hv := fun x y => hoL_hv (rs := rs) (ow := ow) (by omega : 0 < hL rs ow a b) hcy x y
  have hl := hoL_len (rs := rs) (ow := ow) a b (hL rs ow a b)
  have N := wf_NX g.1 h.1.2.2.2.2
  have opnk : ∀ k, opn ow (cy rs ow a b k).1 (cy rs ow a b k).2 := fun k => (cy_o N ho k).2.2
  have thk : ∀ k, th (cy rs ow a b k).1 = true := fun k => (g.half (opnk k).2).2.1
  refine ⟨s3.sh.k 0, A 7, s3.sh.r 0 1 7, s3.sh.k 0, A 31, s3.sh.r 0 6 31, ⟨by omega, by omega⟩, s3.sh.k 7, o_addF s3 g (Or.inl rfl) r3 (by omega) (by omega) (dist_gn hd) (fun x y z => ?_) (fun p hp => ?_) (fun M4 _ s4 g4 => ⟨by omega, by omega, q M4 _ _ a b ha hb rfl rfl s4 g4 ?_ ?_ ?_⟩)⟩
  · obtain ⟨k, _, e2⟩ := (hv x y).mp z
    have := (opnk k).1
    rw [e2] at this
    exact this
  · unfold hoL at hp
    obtain ⟨k, _, e2⟩ := List.mem_map.mp hp
    exact e2 ▸ thk k
  · have : upr rs fe (hoL rs ow a b (hL rs ow a b)) fe = hoL rs ow a b (hL rs ow a b) := by unfold upr; rw [if_pos rfl]
    rw [this, hl]
    exact hL3
  · have : upr rs fe (hoL rs ow a b (hL rs ow a b)) fe = hoL rs ow a b (hL rs ow a b) := by unfold upr; rw [if_pos rfl]
    rw [this, hl]
  · have rfe := g.2.2.1 fe (Nat.le_refl _)
    have rF : upr rs fe (hoL rs ow a b (hL rs ow a b)) fe = hoL rs ow a b (hL rs ow a b) := by unfold upr; rw [if_pos rfl]
    -- a place in the row, whatever its number
    have low : ∀ x y, inO rs ow a b (x, y) ↔ ∃ k, k < hL rs ow a b ∧ cy rs ow a b k = (x, y) := fun x y => by
      constructor
      · intro ⟨j, e2⟩
        refine ⟨j % hL rs ow a b, Nat.mod_lt _ (by omega), ?_⟩
        have p1 := cy_per hcy (j / hL rs ow a b)
        have p2 := cy_add (rs := rs) (ow := ow) a b (j / hL rs ow a b * hL rs ow a b) (j % hL rs ow a b)
        rw [p1, show j / hL rs ow a b * hL rs ow a b + j % hL rs ow a b = j from Nat.div_add_mod' j _] at p2
        rw [p2]
        exact e2
      · intro ⟨k, _, e2⟩
        exact ⟨k, e2⟩
    refine fill_holes ok (by omega) (fun f hf _ => g.2.2.1 f hf) ho ⟨fun x y => ⟨fun z => ?_, fun z => ?_⟩, rfe, fun f hf => ?_⟩ (fun i hi => ?_)
    · refine (g4.1.1 x y fe).mpr ⟨by omega, ?_⟩
      rw [rF]
      exact (hv x y).mpr ((low x y).mp z)
    · have z2 : ¬ hvk (hoL rs ow a b (hL rs ow a b)) (hoL rs ow a b (hL rs ow a b)).length x y := fun w => z ((low x y).mpr ((hv x y).mp w))
      unfold rshT
      have c1 := (clT_at fe (hoL rs ow a b (hL rs ow a b)) (relT fe (rs fe) ow (rs fe).length) (hoL rs ow a b (hL rs ow a b)).length x y).2 z2
      rw [c1, rfe]
      rfl
    · unfold upr
      rw [if_neg hf]
    · rw [rF] at hi ⊢
      exact (low _ _).mpr ((hv _ _).mp ⟨i, hi, rfl, rfl⟩)
end
