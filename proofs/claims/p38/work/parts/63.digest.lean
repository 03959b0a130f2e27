section
/-- the digest's sums, out of the data -/
def mpA (ps : Nat → Nat → Int32) (p : Nat) (d : Int64) : Nat → Int64
  | 0 => d * 31 + (nI p).toInt64
  | k + 1 => mpA ps p d k * 31 + (ps k p).toInt64
def arV (rs : Nat → List Nat) (ow : Nat → Nat → Nat) (p k : Nat) : Nat := if k = 0 then nbrs ow p else if k = 1 then faN ow p 100 else if k = 2 then opN ow p 100 else (fanC rs ow p 100).1
def mpW (rs : Nat → List Nat) (ow : Nat → Nat → Nat) (ps : Nat → Nat → Int32) (p : Nat) (d : Int64) : Nat → Int64
  | 0 => mpA ps p d 3
  | k + 1 => mpW rs ow ps p d k * 31 + (nI (arV rs ow p k)).toInt64
def mfR (rs : Nat → List Nat) (f : Nat) (d : Int64) : Nat → Int64
  | 0 => (d * 31 + (nI f).toInt64) * 31 + (nI (rs f).length).toInt64
  | k + 1 => mfR rs f d k * 31 + (nI (gn (rs f) k)).toInt64
def mfN (rs : Nat → List Nat) (ps : Nat → Nat → Int32) (f : Nat) (d : Int64) : Nat → Int64
  | 0 => mfR rs f d (rs f).length
  | k + 1 => mfN rs ps f d k * 31 + (nmS ps (rs f) ((k + 1) % 3) ((k + 2) % 3) (rs f).length).toInt64
def dg0 (rs : Nat → List Nat) (ow : Nat → Nat → Nat) (ps : Nat → Nat → Int32) (fe fl pl : Nat) : Int64 := (((((58071 * 31 + (nI pl).toInt64) * 31 + (nI (eC rs ow fe)).toInt64) * 31 + (nI fl).toInt64) * 31 + (nI (hC rs ow fe)).toInt64) * 31 + (nI (shC rs ow fe).1).toInt64) * 31 + wbS ps rs fe
def dgP (rs : Nat → List Nat) (ow : Nat → Nat → Nat) (th : Nat → Bool) (ps : Nat → Nat → Int32) (d : Int64) : Nat → Int64
  | 0 => d
  | p + 1 => if th p = true then mpW rs ow ps p (dgP rs ow th ps d p) 4 else dgP rs ow th ps d p
def dgF (rs : Nat → List Nat) (ps : Nat → Nat → Int32) (d : Int64) : Nat → Int64
  | 0 => d
  | f + 1 => if rs f = [] then dgF rs ps d f else mfN rs ps f (dgF rs ps d f) 3
noncomputable def dgt (rs : Nat → List Nat) (ow : Nat → Nat → Nat) (th : Nat → Bool) (ps : Nat → Nat → Int32) (fe fl pe pl : Nat) : Int64 := (dgF rs ps (dgP rs ow th ps (dg0 rs ow ps fe fl pl) pe) fe * 31 + (nI (prA rs ow (fun a b => ind (flA rs ow a b)) fe)).toInt64) * 31 + (nI (prA rs ow (fun a b => ind (joA rs ow a b)) fe)).toInt64
variable {A : Nat → Nat} {M M' : Mm} {B : Nat} {rs rs2 : Nat → List Nat} {ow ow2 : Nat → Nat → Nat} {th : Nat → Bool} {ps : Nat → Nat → Int32} {fe fl pe pl : Nat} {Cc Zz : Nat}
theorem t_around {p k : Nat} {Q : Int32 → Mm → Prop} (h : SD A M B rs ow th ps fe fl pe pl) (g : Gd rs ow th ps fe fl pe pl) (hp : p < 100) (hk : k < 4) (q : ∀ M', SD A M' B rs ow th ps fe fl pe pl → Q (nI (arV rs ow p k)) M') : T_X8_countAround M (A 0) (nI p) (nI k) Q := by
  unfold T_X8_countAround
  have : k = 0 ∨ k = 1 ∨ k = 2 ∨ k = 3 := by omega
  rcases this with rfl | rfl | rfl | rfl
  · exact ⟨fun _ => ⟨h.sh.k 0, A 7, h.sh.r 0 1 7, h.sh.k 7, t_neighboursOf h.1 hp (q M h)⟩, fun z => absurd z (by decide), fun z => absurd z (by decide), fun z => absurd (show nI 0 = 0 by decide) z.1⟩
  · exact ⟨fun z => absurd z (by decide), fun _ => ⟨h.sh.k 0, A 14, h.sh.r 0 2 14, h.sh.k 14, t_facesAt h hp (q M h)⟩, fun z => absurd z (by decide), fun z => absurd (show nI 1 = 1 by decide) z.2.1⟩
  · exact ⟨fun z => absurd z (by decide), fun z => absurd z (by decide), fun _ => ⟨h.sh.k 0, A 14, h.sh.r 0 2 14, h.sh.k 14, t_openFrom h hp (q M h)⟩, fun z => absurd (show nI 2 = 2 by decide) z.2.2⟩
  · exact ⟨fun z => absurd z (by decide), fun z => absurd z (by decide), fun z => absurd z (by decide), fun _ => ⟨h.sh.k 0, A 14, h.sh.r 0 2 14, h.sh.k 14, t_fans h g.1 hp (fun M2 c2 => q M2 (h.svy c2 (fun i z => by omega)))⟩⟩
theorem t_mixPoint {p : Nat} {d : Int64} {Q : Int64 → Mm → Prop} (h : SD A M B rs ow th ps fe fl pe pl) (g : Gd rs ow th ps fe fl pe pl) (hp : p < 100) (q : ∀ M', SD A M' B rs ow th ps fe fl pe pl → Q (mpW rs ow ps p d 4) M') : T_X8_mixPoint M (A 0) d (nI p) Q := by
  unfold T_X8_mixPoint
  intro K11 K44 h11 h44
  have e3 : (3 : Int32) = nI 3 := rfl
  have far : ∀ d2 k M2, k + d2 = 4 → SD A M2 B rs ow th ps fe fl pe pl → K44 (A 0) (nI p) (mpW rs ow ps p d k) (nI k) M2 := by
    intro d2
    induction d2 with
    | zero =>
      intro k M2 hk s2
      have : k = 4 := by omega
      subst this
      exact h44 _ _ _ _ _ ⟨fun _ => q M2 s2, fun z => absurd (by decide) z⟩
    | succ d2 ih =>
      intro k M2 hk s2
      refine h44 _ _ _ _ _ ⟨fun z => absurd z (by rw [e3]; exact nI_nlt (by omega) (by omega)), fun _ => ⟨s2.sh.k 0, t_around s2 g hp (by omega) (fun M3 s3 => ?_)⟩⟩
      unfold T_X8_mix
      rw [nI_1]
      exact ih (k + 1) M3 (by omega) s3
  have near : ∀ d2 k, k + d2 = 3 → K11 (A 0) (nI p) (mpA ps p d k) (nI k) M := by
    intro d2
    induction d2 with
    | zero =>
      intro k hk
      have : k = 3 := by omega
      subst this
      refine h11 _ _ _ _ _ ⟨fun _ => ?_, fun z => absurd (by decide) z⟩
      have := far 4 0 M (by omega) h
      rw [nI_0] at this
      exact this
    | succ d2 ih =>
      intro k hk
      refine h11 _ _ _ _ _ ⟨fun z => absurd z (by rw [e3]; exact nI_ge (by omega) (by omega)), fun _ => ⟨h.sh.k 0, A 1, h.sh.r 0 0 1, h.sh.k 1, t_pget h.2.2.1 hp (by omega) ?_⟩⟩
      unfold T_X8_mix
      rw [nI_1]
      exact ih (k + 1) (by omega)
  have := near 3 0 (by omega)
  rw [nI_0] at this
  exact this
theorem t_mixFace {f : Nat} {d : Int64} {Q : Int64 → Prop} (h : SD A M B rs ow th ps fe fl pe pl) (hf : f < 160) (q : Q (mfN rs ps f d 3)) : T_X8_mixFace M (A 0) d (nI f) Q := by
  unfold T_X8_mixFace
  intro K30 K64 h30 h64
  have e3 : (3 : Int32) = nI 3 := rfl
  have hr := h.1.2.1 f hf
  have hl := h.1.len hf
  have far : ∀ d2 k, k + d2 = 3 → K64 (A 0) (A (64 + 2 * f)) (mfN rs ps f d k) (nI k) := by
    intro d2
    induction d2 with
    | zero =>
      intro k hk
      have : k = 3 := by omega
      subst this
      exact h64 _ _ _ _ ⟨fun _ => q, fun z => absurd (by decide) z⟩
    | succ d2 ih =>
      intro k hk
      refine h64 _ _ _ _ ⟨fun z => absurd z (by rw [e3]; exact nI_ge (by omega) (by omega)), fun _ => ⟨h.sh.k 0, A 1, h.sh.r 0 0 1, h.sh.k 1, t_normal h hf (by omega) ?_⟩⟩
      unfold T_X8_mix
      rw [nI_1]
      exact ih (k + 1) (by omega)
  have near : ∀ d2 k, k + d2 = (rs f).length → K30 (A 0) (A (64 + 2 * f)) (mfR rs f d k) (nI k) := by
    intro d2
    induction d2 with
    | zero =>
      intro k hk
      have : k = (rs f).length := by omega
      subst this
      refine h30 _ _ _ _ ⟨hr.1, t_length hr ?_⟩
      rw [List.length_map]
      refine ⟨fun _ => ?_, fun z => absurd (nI_le (Nat.le_refl _) (by omega)) z⟩
      have := far 3 0 (by omega)
      rw [nI_0] at this
      exact this
    | succ d2 ih =>
      intro k hk
      refine h30 _ _ _ _ ⟨hr.1, t_length hr ?_⟩
      rw [List.length_map]
      refine ⟨fun z => absurd z (nI_ge (by omega) (by omega)), fun _ => ⟨hr.1, t_gt hr (by omega) ?_⟩⟩
      unfold T_X8_mix
      rw [gt_map (by omega), nI_1]
      exact ih (k + 1) (by omega)
  refine ⟨h.sh.k 0, A 7, h.sh.r 0 1 7, h.sh.k 7, t_ring h.1 hf ?_⟩
  unfold T_X8_mix
  refine ⟨hr.1, t_length hr ?_⟩
  rw [List.length_map]
  have := near (rs f).length 0 (by omega)
  rw [nI_0] at this
  exact this
theorem a_digest {Q : Int64 → Mm → Prop} (h : SD A M B rs ow th ps fe fl pe pl) (g : Gd rs ow th ps fe fl pe pl) (hB : B + 17000 < 2 ^ 30) (q : ∀ M', SD A M' (B + 16001) rs ow th ps fe fl pe pl → Q (dgt rs ow th ps fe fl pe pl) M') : T_X8_digest M (A 0) Q := by
  unfold T_X8_digest
  intro K80 K117 h80 h117
  have hfe := h.2.1.2.2.1
  have hpe := h.2.2.2.1.2.2.1
  have faces : ∀ d f M2, f + d = fe → SD A M2 (B + 1) rs ow th ps fe fl pe pl → K117 (A 0) (dgF rs ps (dgP rs ow th ps (dg0 rs ow ps fe fl pl) pe) f) (nI f) M2 := by
    intro d
    induction d with
    | zero =>
      intro f M2 hf s2
      have : f = fe := by omega
      subst this
      refine h117 _ _ _ _ ⟨s2.sh.k 0, A 7, s2.sh.r 0 1 7, s2.sh.k 7, t_fever s2 ⟨fun _ => ⟨s2.sh.k 0, ?_⟩, fun z => absurd (nI_le (Nat.le_refl _) (by omega)) z⟩⟩
      refine t_pairs (w := 1) (lo := fun a b => ind (flA rs ow a b)) (hi := fun a b => ind (flA rs ow a b)) s2 g (fun _ _ => ind_le _) (fun _ _ => ind_le _) (by omega) (fun j M3 a b R hj s3 ha hb hab _ q3 => al_1 s3 g ha hb q3) (fun M3 c c1 c2 s3 => ?_)
      have ec : c = prA rs ow (fun a b => ind (flA rs ow a b)) f := Nat.le_antisymm c2 c1
      subst ec
      unfold T_X8_mix
      refine ⟨s3.sh.k 0, t_pairs (w := 2) (lo := fun a b => ind (joA rs ow a b)) (hi := fun a b => ind (joA rs ow a b)) s3 g (fun _ _ => ind_le _) (fun _ _ => ind_le _) (by omega) (fun j M4 a b R hj s4 ha hb hab _ q4 => al_2 s4 ha hb q4) (fun M4 c c1 c2 s4 => ?_)⟩
      have ec : c = prA rs ow (fun a b => ind (joA rs ow a b)) f := Nat.le_antisymm c2 c1
      subst ec
      exact q M4 (s4.up (by omega))
    | succ d ih =>
      intro f M2 hf s2
      have st : dgF rs ps (dgP rs ow th ps (dg0 rs ow ps fe fl pl) pe) (f + 1) = if rs f = [] then dgF rs ps (dgP rs ow th ps (dg0 rs ow ps fe fl pl) pe) f else mfN rs ps f (dgF rs ps (dgP rs ow th ps (dg0 rs ow ps fe fl pl) pe) f) 3 := rfl
      have nx := ih (f + 1) M2 (by omega) s2
      rw [st] at nx
      refine h117 _ _ _ _ ⟨s2.sh.k 0, A 7, s2.sh.r 0 1 7, s2.sh.k 7, t_fever s2 ⟨fun z => absurd z (nI_ge (by omega) (by omega)), fun _ => ⟨s2.sh.k 0, A 7, s2.sh.r 0 1 7, s2.sh.k 7, t_has s2.1 (fun f2 hf2 e2 ne => ⟨fun z => absurd z (by decide), fun _ => ⟨s2.sh.k 0, t_mixFace s2 (by omega) ?_⟩⟩) (fun n => ⟨fun _ => ?_, fun z => absurd rfl z⟩)⟩⟩⟩
      · have : f = f2 := (nI_eq (by omega) (by omega)).mp e2
        subst this
        rw [if_neg ne] at nx
        rw [nI_1]
        exact nx
      · rw [if_pos (n f (by omega) rfl)] at nx
        rw [nI_1]
        exact nx
  have points : ∀ d p M2, p + d = pe → SD A M2 (B + 1) rs ow th ps fe fl pe pl → K80 (A 0) (dgP rs ow th ps (dg0 rs ow ps fe fl pl) p) (nI p) M2 := by
    intro d
    induction d with
    | zero =>
      intro p M2 hp s2
      have : p = pe := by omega
      subst this
      refine h80 _ _ _ _ ⟨s2.sh.k 0, A 1, s2.sh.r 0 0 1, s2.sh.k 1, t_pever s2 ⟨fun _ => ?_, fun z => absurd (nI_le (Nat.le_refl _) (by omega)) z⟩⟩
      have := faces fe 0 M2 (by omega) s2
      rw [nI_0] at this
      exact this
    | succ d ih =>
      intro p M2 hp s2
      have st : dgP rs ow th ps (dg0 rs ow ps fe fl pl) (p + 1) = if th p = true then mpW rs ow ps p (dgP rs ow th ps (dg0 rs ow ps fe fl pl) p) 4 else dgP rs ow th ps (dg0 rs ow ps fe fl pl) p := rfl
      refine h80 _ _ _ _ ⟨s2.sh.k 0, A 1, s2.sh.r 0 0 1, s2.sh.k 1, t_pever s2 ⟨fun z => absurd z (nI_ge (by omega) (by omega)), fun _ => ⟨s2.sh.k 0, A 1, s2.sh.r 0 0 1, s2.sh.k 1, t_phas s2.2.2.1 (fun p2 hp2 e2 tp => ⟨fun z => absurd z (by decide), fun _ => ⟨s2.sh.k 0, t_mixPoint s2 g (by omega) (fun M3 s3 => ?_)⟩⟩) (fun n => ⟨fun _ => ?_, fun z => absurd rfl z⟩)⟩⟩⟩
      · have : p = p2 := (nI_eq (by omega) (by omega)).mp e2
        subst this
        have nx := ih (p + 1) M3 (by omega) s3
        rw [st, if_pos tp] at nx
        rw [nI_1]
        exact nx
      · have nx := ih (p + 1) M2 (by omega) s2
        rw [st, if_neg (by rw [n p (by omega) rfl]; decide)] at nx
        rw [nI_1]
        exact nx
  obtain ⟨now, mk, m, e⟩ := h.2.2.2.2.1
  refine ⟨h.sh.k 0, A 1, h.sh.r 0 0 1, h.sh.k 1, t_pleft h ?_⟩
  unfold T_X8_mix
  refine ⟨h.sh.k 0, A 7, h.sh.r 0 1 7, h.sh.k 7, t_edgeCount h.1 h.2.1 ?_⟩
  refine ⟨h.sh.k 0, A 7, h.sh.r 0 1 7, h.sh.k 7, t_fleft h ?_⟩
  refine ⟨h.sh.k 0, A 14, h.sh.r 0 2 14, h.sh.k 14, t_holes h.1 h.2.1 g.1.wk (wf_NX g.1 h.1.2.2.2.2) m (by omega) (fun M2 mk2 c2 m2 => ?_)⟩
  have s2 : SD A M2 (B + 1) rs ow th ps fe fl pe pl := h.go c2 (fun i z => by omega) (h.2.2.2.2.mt h.sh c2 (fun i z => by omega) m2 (by omega))
  refine ⟨s2.sh.k 0, A 14, s2.sh.r 0 2 14, s2.sh.k 14, t_shells s2 (fun M3 c3 => ?_)⟩
  have s3 := s2.svy c3 (fun i z => by omega)
  refine ⟨s3.sh.k 0, t_whole s3 ?_⟩
  have := points pe 0 M3 (by omega) s3
  rw [nI_0] at this
  exact this
end
