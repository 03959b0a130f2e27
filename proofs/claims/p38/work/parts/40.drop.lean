section
variable {A : Nat → Nat} {M M' : Mm} {B : Nat} {rs rs2 : Nat → List Nat} {ow ow2 : Nat → Nat → Nat} {th : Nat → Bool} {ps : Nat → Nat → Int32} {fe fl pe pl : Nat} {Cc Zz : Nat}
theorem a_points {Q : Int32 → Prop} (h : SD A M B rs ow th ps fe fl pe pl) (q : Q (nI pl)) : T_X8_points M (A 0) Q := by
  unfold T_X8_points
  exact ⟨h.sh.k 0, A 1, h.sh.r 0 0 1, h.sh.k 1, t_pleft h q⟩
theorem a_edges {Q : Int32 → Prop} (h : SD A M B rs ow th ps fe fl pe pl) (q : Q (nI (eC rs ow fe))) : T_X8_edges M (A 0) Q := by
  unfold T_X8_edges
  exact ⟨h.sh.k 0, A 7, h.sh.r 0 1 7, h.sh.k 7, t_edgeCount h.1 h.2.1 q⟩
theorem a_faces {Q : Int32 → Prop} (h : SD A M B rs ow th ps fe fl pe pl) (q : Q (nI fl)) : T_X8_faces M (A 0) Q := by
  unfold T_X8_faces
  exact ⟨h.sh.k 0, A 7, h.sh.r 0 1 7, h.sh.k 7, t_fleft h q⟩
theorem Gd.lt (g : Gd rs ow th ps fe fl pe pl) (h : SD A M B rs ow th ps fe fl pe pl) {p : Nat} (e : th p = true) : p < 100 := th_lt g.2.2.2.2.2.1 h.2.2.2.1.2.2.1 e
theorem a_holes {Q : Int32 → Mm → Prop} (h : SD A M B rs ow th ps fe fl pe pl) (g : Gd rs ow th ps fe fl pe pl) (hB : B + 1 < 2 ^ 30) (q : ∀ M', SD A M' (B + 1) rs ow th ps fe fl pe pl → Q (nI (hC rs ow fe)) M') : T_X8_holes M (A 0) Q := by
  unfold T_X8_holes
  obtain ⟨now, mk, m, e⟩ := h.2.2.2.2.1
  exact ⟨h.sh.k 0, A 14, h.sh.r 0 2 14, h.sh.k 14, t_holes h.1 h.2.1 g.1.wk (wf_NX g.1 h.1.2.2.2.2) m (by omega) (fun M2 mk2 c2 m2 => q M2 (h.go c2 (fun i z => by omega) (h.2.2.2.2.mt h.sh c2 (fun i z => by omega) m2 (by omega))))⟩
theorem a_hole {i1 i2 : Int32} {Q : Int32 → Mm → Prop} {X : String → Mm → Prop} (h : SD A M B rs ow th ps fe fl pe pl) (g : Gd rs ow th ps fe fl pe pl) (hB : B + 1 < 2 ^ 30) (hc : 2 ≤ Cc) (hz : 12 ≤ Zz) (hX : ¬ two th i1 i2 → X xIO M) (q : ∀ M' a b, a < 100 → b < 100 → i1 = nI a → i2 = nI b → th a = true → th b = true → SD A M' (B + 1) rs ow th ps fe fl pe pl → Q (nI (hL rs ow a b)) M') : T_X8_hole Cc Zz M (A 0) i1 i2 Q X := by
  unfold T_X8_hole
  obtain ⟨now, mk, m, e⟩ := h.2.2.2.2.1
  refine ⟨2, 12, ⟨by omega, by omega⟩, h.sh.k 0, n_pts h (by omega) (by omega) (fun a b ha hb ea eb ta tb => ?_) hX⟩
  subst ea
  subst eb
  exact ⟨h.sh.k 0, A 14, h.sh.r 0 2 14, ⟨by omega, by omega⟩, h.sh.k 14, t_holeLen h.1 g.1.wk (wf_NX g.1 h.1.2.2.2.2) m (by omega) ha hb (fun M2 mk2 c2 m2 => ⟨by omega, by omega, q M2 a b ha hb rfl rfl ta tb (h.go c2 (fun i z => by omega) (h.2.2.2.2.mt h.sh c2 (fun i z => by omega) m2 (by omega)))⟩)⟩
theorem a_size {i1 : Int32} {Q : Int32 → Mm → Prop} {X : String → Mm → Prop} (h : SD A M B rs ow th ps fe fl pe pl) (hc : 1 ≤ Cc) (hz : 6 ≤ Zz) (hX : (∀ f, f < 160 → i1 = nI f → rs f = []) → X xIO M) (q : ∀ f, f < 160 → i1 = nI f → rs f ≠ [] → Q (nI (rs f).length) M) : T_X8_size Cc Zz M (A 0) i1 Q X := by
  unfold T_X8_size
  refine ⟨1, 6, ⟨by omega, by omega⟩, h.sh.k 0, n_fc h (by omega) (by omega) (fun f hf ef hne => ?_) hX⟩
  subst ef
  refine ⟨h.sh.k 0, A 7, h.sh.r 0 1 7, ⟨by omega, by omega⟩, h.sh.k 7, t_ring h.1 hf ⟨⟨by omega, by omega⟩, (h.1.2.1 f hf).1, t_length (h.1.2.1 f hf) ⟨by omega, by omega, ?_⟩⟩⟩
  rw [List.length_map]
  exact q f hf rfl hne
theorem a_corner {i1 i2 : Int32} {Q : Int32 → Mm → Prop} {X : String → Mm → Prop} (h : SD A M B rs ow th ps fe fl pe pl) (hc : 2 ≤ Cc) (hz : 12 ≤ Zz) (hX : (∀ f k, f < 160 → i1 = nI f → k < (rs f).length → i2 ≠ nI k) → X xIO M) (q : ∀ f k, f < 160 → i1 = nI f → k < (rs f).length → i2 = nI k → Q (nI (gn (rs f) k)) M) : T_X8_corner Cc Zz M (A 0) i1 i2 Q X := by
  unfold T_X8_corner
  intro K26 h26
  have bad : ∀ cc zz, cc + 1 ≤ Cc → zz + 6 ≤ Zz → (∀ f k, f < 160 → i1 = nI f → k < (rs f).length → i2 ≠ nI k) → K26 M cc zz := fun cc zz c1 c2 n => h26 _ _ _ (by
    unfold S_X8_corner_26
    exact ⟨by omega, by omega, hX n⟩)
  refine ⟨1, 6, ⟨by omega, by omega⟩, h.sh.k 0, n_fc h (by omega) (by omega) (fun f hf ef hne => ?_) (fun n => hX (fun f k hf ef hk => ?_))⟩
  · subst ef
    have hr := h.1.2.1 f hf
    have hn12 := h.1.len hf
    have out : (∀ k, k < (rs f).length → i2 ≠ nI k) → ∀ f2 k, f2 < 160 → nI f = nI f2 → k < (rs f2).length → i2 ≠ nI k := fun n f2 k h2 e hk => by
      have : f = f2 := (nI_eq (by omega) (by omega)).mp e
      subst this
      exact n k hk
    refine ⟨h.sh.k 0, A 7, h.sh.r 0 1 7, ⟨by omega, by omega⟩, h.sh.k 7, t_ring h.1 hf ?_⟩
    rcases i_case i2 (rs f).length (by omega) with ⟨k, hk, e⟩ | w
    · subst e
      refine ⟨fun z => absurd z (nI_pos (by omega)), fun _ => ⟨⟨by omega, by omega⟩, hr.1, t_length hr ?_⟩⟩
      rw [List.length_map]
      refine ⟨fun _ => ⟨⟨by omega, by omega⟩, hr.1, t_gt hr (by omega) ?_⟩, fun z => absurd (nI_lt hk (by omega)) z⟩
      rw [gt_map (by omega)]
      exact ⟨by omega, by omega, q f k hf rfl hk rfl⟩
    · have no : ∀ k, k < (rs f).length → i2 ≠ nI k := fun k hk e => by
        subst e
        rcases w with w | w
        · exact absurd w (nI_pos (by omega))
        · exact absurd w.2 (nI_ge hk (by omega))
      refine ⟨fun _ => bad _ _ (by omega) (by omega) (out no), fun z => ⟨⟨by omega, by omega⟩, hr.1, t_length hr ?_⟩⟩
      rw [List.length_map]
      refine ⟨fun y => ?_, fun _ => bad _ _ (by omega) (by omega) (out no)⟩
      rcases w with w | w
      · exact absurd w z
      · exact absurd y (Int32.not_lt.mpr w.2)
  · have := n f hf ef
    rw [this] at hk
    exact absurd hk (Nat.not_lt_zero _)
theorem a_faceOf {i1 i2 : Int32} {Q : Int32 → Mm → Prop} {X : String → Mm → Prop} (h : SD A M B rs ow th ps fe fl pe pl) (hc : 2 ≤ Cc) (hz : 12 ≤ Zz) (hX : ¬ two th i1 i2 → X xIO M) (q : ∀ a b, a < 100 → b < 100 → i1 = nI a → i2 = nI b → th a = true → th b = true → Q (oi (ow a b)) M) : T_X8_faceOf Cc Zz M (A 0) i1 i2 Q X := by
  unfold T_X8_faceOf
  refine ⟨2, 12, ⟨by omega, by omega⟩, h.sh.k 0, n_pts h (by omega) (by omega) (fun a b ha hb ea eb ta tb => ?_) hX⟩
  subst ea
  subst eb
  exact ⟨h.sh.k 0, A 7, h.sh.r 0 1 7, ⟨by omega, by omega⟩, h.sh.k 7, t_owner h.1 ha hb ⟨by omega, by omega, q a b ha hb rfl rfl ta tb⟩⟩
/-- a point's coordinate, asked for with an axis that is one -/
theorem a_at {i1 : Int32} {ax : Nat} {Q : Int32 → Mm → Prop} {X : String → Mm → Prop} (h : SD A M B rs ow th ps fe fl pe pl) (hax : ax < 3) (hc : 2 ≤ Cc) (hz : 12 ≤ Zz) (hX : (∀ p, p < 100 → i1 = nI p → th p = false) → X xIO M) (q : ∀ p, p < 100 → i1 = nI p → th p = true → Q (ps ax p) M) : T_X8_at Cc Zz M (A 0) i1 (nI ax) Q X := by
  unfold T_X8_at
  refine ⟨1, 6, ⟨by omega, by omega⟩, h.sh.k 0, n_pt h (by omega) (by omega) (fun p hp ep tp => ?_) hX⟩
  subst ep
  refine ⟨1, 6, ⟨by omega, by omega⟩, ?_⟩
  unfold T_X8_needAxis
  intro K13 h13
  refine ⟨fun z => absurd z (nI_pos (by omega)), fun _ => ⟨fun z => absurd z (show ¬ nI 3 ≤ nI ax from nI_ge hax (by omega)), fun _ => ⟨1, 6, ⟨by omega, by omega⟩, n_arg (by omega) (by omega) (fun _ => ⟨by omega, by omega, ?_⟩) (fun z => absurd z (by decide))⟩⟩⟩
  exact ⟨h.sh.k 0, A 1, h.sh.r 0 0 1, ⟨by omega, by omega⟩, h.sh.k 1, t_pget h.2.2.1 hp hax ⟨by omega, by omega, q p hp rfl tp⟩⟩
theorem o_point {x y z : Int32} {Q : Int32 → Mm → Prop} {X : String → Mm → Prop} (h : SD A M B rs ow th ps fe fl pe pl) (g : Gd rs ow th ps fe fl pe pl) (hc : 2 ≤ Cc) (hz : 12 ≤ Zz) (hX : ∀ E M', xE E → SD A M' B rs ow th ps fe fl pe pl → ¬ (nr x ∧ nr y ∧ nr z ∧ pe < 100) → X E M') (q : ∀ M', pe < 100 → SD A M' B rs ow (upB th pe true) (upP ps pe x y z) fe fl (pe + 1) (pl + 1) → Gd rs ow (upB th pe true) (upP ps pe x y z) fe fl (pe + 1) (pl + 1) → Q (nI pe) M') : T_X8_point Cc Zz M (A 0) x y z Q X := by
  unfold T_X8_point
  have hpl := g.pl_le
  refine ⟨1, 6, ⟨by omega, by omega⟩, n_needPlace (by omega) (by omega) (fun hn => ?_) (fun n => hX _ _ (Or.inr (Or.inl rfl)) h (fun w => n ⟨w.1, w.2.1, w.2.2.1⟩))⟩
  refine ⟨h.sh.k 0, A 1, h.sh.r 0 0 1, ⟨by omega, by omega⟩, h.sh.k 1, t_phasRoom (k := 1) h.2.2.1 h.2.2.2.1 (by omega) (fun hr => ?_) (fun hr => ?_)⟩
  · refine ⟨1, 6, ⟨by omega, by omega⟩, n_stt (by omega) (by omega) (fun _ => ?_) (fun z => absurd z (by decide))⟩
    exact ⟨h.sh.k 0, A 1, h.sh.r 0 0 1, ⟨by omega, by omega⟩, h.sh.k 1, t_padd h.2.2.1 h.2.2.2.1 (by omega) (by omega) (fun M2 c2 p2 n2 => ⟨by omega, by omega, q M2 (by omega) (h.point c2 (fun i z => z) p2 n2) (g.pt (by omega) hn)⟩)⟩
  · exact ⟨1, 6, ⟨by omega, by omega⟩, n_stt (by omega) (by omega) (fun z => absurd rfl z) (fun _ => hX _ _ (Or.inr (Or.inr rfl)) h (fun w => by omega))⟩
theorem o_dropFace {i1 : Int32} {Q : Int32 → Mm → Prop} {X : String → Mm → Prop} (h : SD A M B rs ow th ps fe fl pe pl) (g : Gd rs ow th ps fe fl pe pl) (hc : 1 ≤ Cc) (hz : 6 ≤ Zz) (hX : X xIO M) (q : ∀ M' f, f < 160 → i1 = nI f → rs f ≠ [] → 0 < fl → SD A M' B (upr rs f []) (relT f (rs f) ow (rs f).length) th ps fe (fl - 1) pe pl → Gd (upr rs f []) (relT f (rs f) ow (rs f).length) th ps fe (fl - 1) pe pl → Q (nI (fl - 1)) M') : T_X8_dropFace Cc Zz M (A 0) i1 Q X := by
  unfold T_X8_dropFace
  refine ⟨1, 6, ⟨by omega, by omega⟩, h.sh.k 0, n_fc h (by omega) (by omega) (fun f hf ef hne => ?_) (fun _ => hX)⟩
  subst ef
  obtain ⟨g2, hfl⟩ := g.drop hf hne
  refine ⟨h.sh.k 0, A 7, h.sh.r 0 1 7, ⟨by omega, by omega⟩, h.sh.k 7, t_drop h.1 h.2.1 hf hne hfl (fun M2 c2 f2 n2 => ?_)⟩
  have s2 : SD A M2 B (upr rs f []) (relT f (rs f) ow (rs f).length) th ps fe (fl - 1) pe pl := h.face c2 (fun i z => by omega) f2 n2
  exact ⟨s2.sh.k 0, A 7, s2.sh.r 0 1 7, ⟨by omega, by omega⟩, s2.sh.k 7, t_fleft s2 ⟨by omega, by omega, q M2 f hf rfl hne hfl s2 g2⟩⟩
/-- turning hangs on the rings of those that own halves -/
theorem nO_same (b : Nat) (h : ∀ c, ow b c ≠ 0 → rs (ow b c - 1) = rs2 (ow b c - 1)) : ∀ n c, nO rs ow b n c = nO rs2 ow b n c := by
  intro n
  induction n with
  | zero => intro c; rfl
  | succ n ih =>
    intro c
    show (if ow b c = 0 then some c else nO rs ow b n (bef rs (ow b c - 1) b)) = if ow b c = 0 then some c else nO rs2 ow b n (bef rs2 (ow b c - 1) b)
    by_cases z : ow b c = 0
    · rw [if_pos z, if_pos z]
    · rw [if_neg z, if_neg z]
      unfold bef
      rw [h c z]
      exact ih _
/-- with the owners of a face taken back, its ring may stand there or not -/
theorem rel_same (g : Gd rs ow th ps fe fl pe pl) {f : Nat} (hf : f < 160) (a b : Nat) (z : relT f (rs f) ow (rs f).length a b ≠ 0) : rs (relT f (rs f) ow (rs f).length a b - 1) = upr rs f [] (relT f (rs f) ow (rs f).length a b - 1) := by
  have r := relT_at f (rs f) ow (rs f).length a b
  have e : relT f (rs f) ow (rs f).length a b ≠ f + 1 := by
    by_cases y : hvk (rs f) (rs f).length a b ∧ ow a b = f + 1
    · rw [r.1 y]; omega
    · rw [r.2 y]
      intro e
      exact y ⟨((g.1.1 a b f).mp e).2, e⟩
  unfold upr
  rw [if_neg (by omega)]
theorem claim_back (g : Gd rs ow th ps fe fl pe pl) {f : Nat} (hf : f < 160) : clT f (rs f) (relT f (rs f) ow (rs f).length) (rs f).length = ow := by
  funext a b
  have c := clT_at f (rs f) (relT f (rs f) ow (rs f).length) (rs f).length a b
  have r := relT_at f (rs f) ow (rs f).length a b
  by_cases v : hvk (rs f) (rs f).length a b
  · rw [c.1 v]
    exact ((g.1.1 a b f).mpr ⟨hf, v⟩).symm
  · rw [c.2 v, r.2 (fun z => v z.1)]
theorem a_holesWithout {i1 : Int32} {Q : Int32 → Mm → Prop} {X : String → Mm → Prop} (h : SD A M B rs ow th ps fe fl pe pl) (g : Gd rs ow th ps fe fl pe pl) (hB : B + 1 < 2 ^ 30) (hc : 1 ≤ Cc) (hz : 6 ≤ Zz) (hX : (∀ f, f < 160 → i1 = nI f → rs f = []) → X xIO M) (q : ∀ M' f, f < 160 → i1 = nI f → rs f ≠ [] → SD A M' (B + 1) rs ow th ps fe fl pe pl → Q (nI (hC (upr rs f []) (relT f (rs f) ow (rs f).length) fe)) M') : T_X8_holesWithout Cc Zz M (A 0) i1 Q X := by
  unfold T_X8_holesWithout
  refine ⟨1, 6, ⟨by omega, by omega⟩, h.sh.k 0, n_fc h (by omega) (by omega) (fun f hf ef hne => ?_) hX⟩
  subst ef
  obtain ⟨g2, hfl⟩ := g.drop hf hne
  refine ⟨h.sh.k 0, A 7, h.sh.r 0 1 7, ⟨by omega, by omega⟩, h.sh.k 7, t_release h.1 hf (fun M2 c2 f2 => ?_)⟩
  have s2 : SD A M2 B rs (relT f (rs f) ow (rs f).length) th ps fe fl pe pl := h.face c2 (fun i z => by omega) f2 (h.2.1.go h.sh c2 (by omega))
  have sm := rel_same g hf
  have w2 : Wk rs (relT f (rs f) ow (rs f).length) := fun a b z => by
    have := g2.1.wk a b z
    rw [sm a b z]
    exact this
  have n2 := wf_NX g2.1 (fun k p hk hp => g.lt h (g2.2.2.2.2.2.2.1 k p hp))
  have no : ∀ b n c, nO rs (relT f (rs f) ow (rs f).length) b n c = nO (upr rs f []) (relT f (rs f) ow (rs f).length) b n c := fun b n c => nO_same b (fun c z => sm b c z) n c
  have hnx : ∀ u v, nx rs (relT f (rs f) ow (rs f).length) u v = nx (upr rs f []) (relT f (rs f) ow (rs f).length) u v := fun u v => by
    unfold nx
    rw [no]
  have n1 : NX rs (relT f (rs f) ow (rs f).length) := fun u v hu hv ho => by
    rw [no, hnx]
    exact n2 u v hu hv ho
  obtain ⟨now, mk, m, e⟩ := s2.2.2.2.2.1
  refine ⟨s2.sh.k 0, A 14, s2.sh.r 0 2 14, ⟨by omega, by omega⟩, s2.sh.k 14, t_holes s2.1 s2.2.1 w2 n1 m (by omega) (fun M3 mk3 c3 m3 => ?_)⟩
  have s3 : SD A M3 (B + 1) rs (relT f (rs f) ow (rs f).length) th ps fe fl pe pl := s2.go c3 (fun i z => by omega) (s2.2.2.2.2.mt s2.sh c3 (fun i z => by omega) m3 (by omega))
  refine ⟨s3.sh.k 0, A 7, s3.sh.r 0 1 7, ⟨by omega, by omega⟩, s3.sh.k 7, t_claim s3.1 hf (fun M4 c4 f4 => ⟨by omega, by omega, ?_⟩)⟩
  rw [claim_back g hf] at f4
  have s4 : SD A M4 (B + 1) rs ow th ps fe fl pe pl := s3.face c4 (fun i z => by omega) f4 (s3.2.1.go s3.sh c4 (by omega))
  rw [drop_holes n1 h.1.2.2.2.2 h.2.1.2.2.1 (fun u v _ _ _ => hnx u v) (fun k hk => ?_)]
  · exact q M4 f hf rfl hne s4
  · unfold upr
    by_cases z : k = f
    · subst z
      rw [if_pos rfl]
      refine Or.inr ⟨rfl, fun i hi => ?_⟩
      have r := relT_at k (rs k) ow (rs k).length (gn (rs k) i) (gn (rs k) (i + 1))
      exact r.1 ⟨⟨i, hi, rfl, rfl⟩, (g.1.1 _ _ _).mpr ⟨hf, i, hi, rfl, rfl⟩⟩
    · rw [if_neg z]
      exact Or.inl rfl
end
