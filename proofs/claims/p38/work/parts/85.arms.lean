section
/-- what follows a call that throws -/
def hxP (K834 K867 K900 : Nat → Int32 → Int32 → Int32 → Nat → Mm → Nat → Nat → Prop) (a0 : Nat) (i2 i3 i4 : Int32) (c z : Nat) (E : String) (M' : Mm) : Prop := (E = xIO ∧ ∀ qx : Nat, K834 a0 i2 i3 i4 qx M' c z) ∨ (E = xIA ∧ ∀ qx : Nat, K867 a0 i2 i3 i4 qx M' c z) ∨ (E = xIS ∧ ∀ qx : Nat, K900 a0 i2 i3 i4 qx M' c z)
def HXP (K834 K867 K900 : Nat → Int32 → Int32 → Int32 → Nat → Mm → Nat → Nat → Prop) (A : Nat → Nat) (B : Nat) (rs : Nat → List Nat) (ow : Nat → Nat → Nat) (th : Nat → Bool) (ps : Nat → Nat → Int32) (fe fl pe pl : Nat) : Prop := ∀ E M' c z, xE E → SD A M' (B + 3) rs ow th ps fe fl pe pl → c ≤ 50 → z ≤ 350 → hxP K834 K867 K900 (A 0) (nI pl) (nI (eC rs ow fe)) (nI fl) c z E M'
def DNP (A : Nat → Nat) (B : Nat) (Q : Int32 → Mm → Prop) : Prop := ∀ M' rs' ow' th' ps' fe' fl' pe' pl', SD A M' (B + 4) rs' ow' th' ps' fe' fl' pe' pl' → Gd rs' ow' th' ps' fe' fl' pe' pl' → Q 1 M'
variable {K114 : Nat → Int32 → Int32 → Int32 → Int32 → Int32 → Int32 → Int32 → Mm → Nat → Nat → Prop} {K109 : Nat → Int32 → Int32 → Int32 → Int32 → Int32 → Int32 → Nat → Mm → Nat → Nat → Prop} {K188 : Nat → Int32 → Int32 → Int32 → Int32 → Mm → Nat → Nat → Prop} {K272 : Nat → Int32 → Int32 → Int32 → Int32 → Mm → Nat → Nat → Prop} {K350 : Nat → Int32 → Int32 → Int32 → Int32 → Int32 → Mm → Nat → Nat → Prop} {K409 : Nat → Int32 → Int32 → Int32 → Int32 → Int32 → Int32 → Mm → Nat → Nat → Prop} {K475 : Nat → Int32 → Int32 → Int32 → Int32 → Int32 → Mm → Nat → Nat → Prop} {K518 : Nat → Int32 → Int32 → Int32 → Int32 → Int32 → Mm → Nat → Nat → Prop} {K552 : Nat → Int32 → Int32 → Int32 → Int32 → Int32 → Mm → Nat → Nat → Prop} {K586 : Nat → Int32 → Int32 → Int32 → Int32 → Int32 → Mm → Nat → Nat → Prop} {K660 : Nat → Int32 → Int32 → Int32 → Int32 → Int32 → Mm → Nat → Nat → Prop} {K710 : Nat → Int32 → Int32 → Int32 → Int32 → Mm → Nat → Nat → Prop} {K766 : Nat → Int32 → Int32 → Int32 → Int32 → Mm → Nat → Nat → Prop} {K802 : Nat → Int32 → Int32 → Int32 → Int32 → Mm → Nat → Nat → Prop} {K238 : Nat → Int32 → Int32 → Int32 → Int32 → Nat → Int32 → Int32 → Int32 → Int32 → Mm → Nat → Nat → Prop} {K834 : Nat → Int32 → Int32 → Int32 → Nat → Mm → Nat → Nat → Prop} {K867 : Nat → Int32 → Int32 → Int32 → Nat → Mm → Nat → Nat → Prop} {K900 : Nat → Int32 → Int32 → Int32 → Nat → Mm → Nat → Nat → Prop}
variable {A : Nat → Nat} {M M' : Mm} {B : Nat} {rs rs2 : Nat → List Nat} {ow ow2 : Nat → Nat → Nat} {th : Nat → Bool} {ps : Nat → Nat → Int32} {fe fl pe pl : Nat} {Cc Zz : Nat} {Q : Int32 → Mm → Prop} {X : String → Mm → Prop}
theorem arm_834 (g : Gd rs ow th ps fe fl pe pl) (hCc : 60 ≤ Cc) (hZz : 400 ≤ Zz) (q : DNP A B Q) {s2 : SD A M (B + 3) rs ow th ps fe fl pe pl} {cc zz qx : Nat} (hcc : cc ≤ 50) (hzz : zz ≤ 350) : S_L_act_834 K114 K109 K188 K272 K350 K409 K475 K518 K552 K586 K660 K710 K766 K802 K238 K834 K867 K900 Cc Zz Q X M (A 0) (nI pl) (nI (eC rs ow fe)) (nI fl) qx cc zz :=
  ⟨⟨by omega, by omega⟩, s2.sh.k 0, a_points s2 ⟨fun z => absurd rfl z, fun _ => ⟨⟨by omega, by omega⟩, s2.sh.k 0, a_edges s2 ⟨fun z => absurd rfl z, fun _ => ⟨⟨by omega, by omega⟩, s2.sh.k 0, a_faces s2 ⟨fun z => absurd rfl z, fun _ => ⟨by omega, by omega, q _ _ _ _ _ _ _ _ _ (s2.up (by omega)) g⟩⟩⟩⟩⟩⟩⟩
theorem arm_867 (g : Gd rs ow th ps fe fl pe pl) (hCc : 60 ≤ Cc) (hZz : 400 ≤ Zz) (q : DNP A B Q) {s2 : SD A M (B + 3) rs ow th ps fe fl pe pl} {cc zz qx : Nat} (hcc : cc ≤ 50) (hzz : zz ≤ 350) : S_L_act_867 K114 K109 K188 K272 K350 K409 K475 K518 K552 K586 K660 K710 K766 K802 K238 K834 K867 K900 Cc Zz Q X M (A 0) (nI pl) (nI (eC rs ow fe)) (nI fl) qx cc zz :=
  ⟨⟨by omega, by omega⟩, s2.sh.k 0, a_points s2 ⟨fun z => absurd rfl z, fun _ => ⟨⟨by omega, by omega⟩, s2.sh.k 0, a_edges s2 ⟨fun z => absurd rfl z, fun _ => ⟨⟨by omega, by omega⟩, s2.sh.k 0, a_faces s2 ⟨fun z => absurd rfl z, fun _ => ⟨by omega, by omega, q _ _ _ _ _ _ _ _ _ (s2.up (by omega)) g⟩⟩⟩⟩⟩⟩⟩
theorem arm_900 (g : Gd rs ow th ps fe fl pe pl) (hCc : 60 ≤ Cc) (hZz : 400 ≤ Zz) (q : DNP A B Q) {s2 : SD A M (B + 3) rs ow th ps fe fl pe pl} {cc zz qx : Nat} (hcc : cc ≤ 50) (hzz : zz ≤ 350) : S_L_act_900 K114 K109 K188 K272 K350 K409 K475 K518 K552 K586 K660 K710 K766 K802 K238 K834 K867 K900 Cc Zz Q X M (A 0) (nI pl) (nI (eC rs ow fe)) (nI fl) qx cc zz :=
  ⟨⟨by omega, by omega⟩, s2.sh.k 0, a_points s2 ⟨fun z => absurd rfl z, fun _ => ⟨⟨by omega, by omega⟩, s2.sh.k 0, a_edges s2 ⟨fun z => absurd rfl z, fun _ => ⟨⟨by omega, by omega⟩, s2.sh.k 0, a_faces s2 ⟨fun z => absurd rfl z, fun _ => ⟨by omega, by omega, q _ _ _ _ _ _ _ _ _ (s2.up (by omega)) g⟩⟩⟩⟩⟩⟩⟩
theorem arm_238 (h : SD A M B rs ow th ps fe fl pe pl) (g : Gd rs ow th ps fe fl pe pl) (hB : B + 100 < 2 ^ 30) (hCc : 60 ≤ Cc) (hZz : 400 ≤ Zz) (HX : HXP K834 K867 K900 A B rs ow th ps fe fl pe pl) (q : DNP A B Q) {cc zz : Nat} (hcc : cc ≤ 12) (hzz : zz ≤ 72) {i8 is3 is4 : Int32} : S_L_act_238 K114 K109 K188 K272 K350 K409 K475 K518 K552 K586 K660 K710 K766 K802 K238 K834 K867 K900 Cc Zz Q X M (A 0) (nI pl) (nI (eC rs ow fe)) (nI fl) i8 (A 0) i8 (i8 + 1) is3 is4 cc zz := by
  refine ⟨5, 30, ⟨by omega, by omega⟩, h.sh.k 0, o_face h g (by omega) (by omega) (fun E M2 he s2 => HX E M2 _ _ he (s2.up (by omega)) (by omega) (by omega)) (fun M2 rs2 ow2 a b s2 g2 ha hb ea eb eo => ?_)⟩
  have tt := g2.half (a := a) (b := b) (by omega)
  refine ⟨⟨by omega, by omega⟩, s2.sh.k 0, a_faces s2 ⟨fun z => absurd (nI_1 fl).symm z, fun _ => ⟨2, 12, ⟨by omega, by omega⟩, s2.sh.k 0, a_faceOf s2 (by omega) (by omega) (fun n => absurd ⟨a, b, ha, hb, ea, eb, tt.1, tt.2.1⟩ n) (fun a2 b2 ha2 hb2 ea2 eb2 _ _ => ?_)⟩⟩⟩
  have e1 : a = a2 := (nI_eq (by omega) (by omega)).mp (ea.symm.trans ea2)
  have e2 : b = b2 := (nI_eq (by omega) (by omega)).mp (eb.symm.trans eb2)
  subst e1
  subst e2
  have hfe := s2.2.1.2.2.1
  rw [eo, oi_s]
  exact ⟨fun z => absurd z (nI_pos (by omega)), fun _ => ⟨by omega, by omega, q _ _ _ _ _ _ _ _ _ (s2.up (by omega)) g2⟩⟩
theorem arm_188 (h : SD A M B rs ow th ps fe fl pe pl) (g : Gd rs ow th ps fe fl pe pl) (hB : B + 100 < 2 ^ 30) (hCc : 60 ≤ Cc) (hZz : 400 ≤ Zz) (HX : HXP K834 K867 K900 A B rs ow th ps fe fl pe pl) (q : DNP A B Q) {cc zz : Nat} (hcc : cc ≤ 12) (hzz : zz ≤ 72) {i1 : Int32} (h238 : ∀ (a0 : Nat) (i2 i3 i4 i8 : Int32) (as0 : Nat) (is1 is2 is3 is4 : Int32) (M : Mm) (cc zz : Nat), S_L_act_238 K114 K109 K188 K272 K350 K409 K475 K518 K552 K586 K660 K710 K766 K802 K238 K834 K867 K900 Cc Zz Q X M a0 i2 i3 i4 i8 as0 is1 is2 is3 is4 cc zz → K238 a0 i2 i3 i4 i8 as0 is1 is2 is3 is4 M cc zz) : S_L_act_188 K114 K109 K188 K272 K350 K409 K475 K518 K552 K586 K660 K710 K766 K802 K238 K834 K867 K900 Cc Zz Q X M (A 0) i1 (nI pl) (nI (eC rs ow fe)) (nI fl) cc zz := by
  refine ⟨⟨by omega, by omega⟩, l_below (n := 2) (by omega) (by omega) (fun j2 _ => ⟨⟨by omega, by omega⟩, l_below (n := 2) (by omega) (by omega) (fun j3 _ => ⟨⟨by omega, by omega⟩, l_below (n := 3) (by omega) (by omega) (fun j4 _ => ⟨fun _ => ?_, fun _ => ?_⟩)⟩)⟩)⟩
  · exact h238 _ _ _ _ _ _ _ _ _ _ _ _ _ (arm_238 h g hB hCc hZz HX q hcc hzz)
  · exact h238 _ _ _ _ _ _ _ _ _ _ _ _ _ (arm_238 h g hB hCc hZz HX q hcc hzz)
theorem arm_272 (h : SD A M B rs ow th ps fe fl pe pl) (g : Gd rs ow th ps fe fl pe pl) (hB : B + 100 < 2 ^ 30) (hCc : 60 ≤ Cc) (hZz : 400 ≤ Zz) (HX : HXP K834 K867 K900 A B rs ow th ps fe fl pe pl) (q : DNP A B Q) {cc zz : Nat} (hcc : cc ≤ 12) (hzz : zz ≤ 72) {i1 : Int32} : S_L_act_272 K114 K109 K188 K272 K350 K409 K475 K518 K552 K586 K660 K710 K766 K802 K238 K834 K867 K900 Cc Zz Q X M (A 0) i1 (nI pl) (nI (eC rs ow fe)) (nI fl) cc zz := by
  refine ⟨⟨by omega, by omega⟩, l_below (n := 60) (by omega) (by omega) (fun j2 _ => ⟨⟨by omega, by omega⟩, l_below (n := 50) (by omega) (by omega) (fun j3 _ => ⟨⟨by omega, by omega⟩, l_below (n := 20) (by omega) (by omega) (fun j4 _ => ?_)⟩)⟩)⟩
  refine ⟨4, 24, ⟨by omega, by omega⟩, h.sh.k 0, o_box h g (by omega) (by omega) (fun E M2 he s2 => HX E M2 _ _ he (s2.up (by omega)) (by omega) (by omega)) (fun M2 rs2 ow2 th2 ps2 s2 g2 e2 => ?_)⟩
  exact ⟨⟨by omega, by omega⟩, s2.sh.k 0, a_points s2 ⟨fun z => absurd (nI_add pl 8).symm z, fun _ => ⟨⟨by omega, by omega⟩, s2.sh.k 0, a_faces s2 ⟨fun z => absurd (nI_add fl 6).symm z, fun _ => ⟨⟨by omega, by omega⟩, s2.sh.k 0, a_edges s2 ⟨fun z => absurd (by rw [e2]; exact (nI_add _ 12).symm) z, fun _ => ⟨by omega, by omega, q _ _ _ _ _ _ _ _ _ (s2.up (by omega)) g2⟩⟩⟩⟩⟩⟩⟩
theorem arm_350 (h : SD A M B rs ow th ps fe fl pe pl) (g : Gd rs ow th ps fe fl pe pl) (hB : B + 100 < 2 ^ 30) (hCc : 60 ≤ Cc) (hZz : 400 ≤ Zz) (HX : HXP K834 K867 K900 A B rs ow th ps fe fl pe pl) (q : DNP A B Q) {cc zz : Nat} (hcc : cc ≤ 12) (hzz : zz ≤ 72) {i6 i7 : Int32} : S_L_act_350 K114 K109 K188 K272 K350 K409 K475 K518 K552 K586 K660 K710 K766 K802 K238 K834 K867 K900 Cc Zz Q X M (A 0) (nI pl) (nI (eC rs ow fe)) (nI fl) i6 i7 cc zz := by
  refine ⟨5, 30, ⟨by omega, by omega⟩, h.sh.k 0, o_split h g (by omega) (by omega) (fun E M2 he s2 => HX E M2 _ _ he (s2.up (by omega)) (by omega) (by omega)) (fun M2 rs2 ow2 a b ha hb ea eb ta tb s2 g2 e2 => ?_)⟩
  have hpe := s2.2.2.2.1.2.2.1
  have tp : th pe = false := g.2.2.2.2.2.1 pe (Nat.le_refl _)
  have na : a ≠ pe := fun z => by rw [z, tp] at ta; cases ta
  have nb : b ≠ pe := fun z => by rw [z, tp] at tb; cases tb
  have tm : upB th pe true pe = true := by unfold upB; rw [if_pos rfl]
  have ta2 : upB th pe true a = true := by unfold upB; rw [if_neg na]; exact ta
  have tb2 : upB th pe true b = true := by unfold upB; rw [if_neg nb]; exact tb
  refine ⟨2, 12, ⟨by omega, by omega⟩, s2.sh.k 0, a_at0 s2 (by omega) (by omega) (fun n => absurd tm (by rw [n pe (by omega) rfl]; decide)) (fun p hp ep _ => ?_)⟩
  have e3 : pe = p := (nI_eq (by omega) (by omega)).mp ep
  subst e3
  refine ⟨2, 12, ⟨by omega, by omega⟩, s2.sh.k 0, a_at0 s2 (by omega) (by omega) (fun n => absurd ta2 (by rw [n a ha ea]; decide)) (fun p hp ep _ => ?_)⟩
  have e3 : a = p := (nI_eq (by omega) (by omega)).mp (ea.symm.trans ep)
  subst e3
  refine ⟨2, 12, ⟨by omega, by omega⟩, s2.sh.k 0, a_at0 s2 (by omega) (by omega) (fun n => absurd tb2 (by rw [n b hb eb]; decide)) (fun p hp ep _ => ?_)⟩
  have e3 : b = p := (nI_eq (by omega) (by omega)).mp (eb.symm.trans ep)
  subst e3
  have v1 : upP ps pe ((ps 0 a + ps 0 b) / 2) ((ps 1 a + ps 1 b) / 2) ((ps 2 a + ps 2 b) / 2) 0 pe = (ps 0 a + ps 0 b) / 2 := by unfold upP; rw [if_pos rfl, if_pos rfl]
  have v2 : upP ps pe ((ps 0 a + ps 0 b) / 2) ((ps 1 a + ps 1 b) / 2) ((ps 2 a + ps 2 b) / 2) 0 a = ps 0 a := by unfold upP; rw [if_neg na]
  have v3 : upP ps pe ((ps 0 a + ps 0 b) / 2) ((ps 1 a + ps 1 b) / 2) ((ps 2 a + ps 2 b) / 2) 0 b = ps 0 b := by unfold upP; rw [if_neg nb]
  rw [v1, v2, v3]
  have hge := mid_ge (g.2.2.2.2.2.2.2 0 a (by omega) ta) (g.2.2.2.2.2.2.2 0 b (by omega) tb)
  exact ⟨⟨by omega, by omega⟩, fun z => absurd hge (Int32.not_le.mpr z), fun _ => ⟨⟨by omega, by omega⟩, s2.sh.k 0, a_points s2 ⟨fun z => absurd (nI_1 pl).symm z, fun _ => ⟨⟨by omega, by omega⟩, s2.sh.k 0, a_edges s2 ⟨fun z => absurd (by rw [e2]; exact (nI_1 _).symm) z, fun _ => ⟨by omega, by omega, q _ _ _ _ _ _ _ _ _ (s2.up (by omega)) g2⟩⟩⟩⟩⟩⟩
theorem arm_409 (h : SD A M B rs ow th ps fe fl pe pl) (g : Gd rs ow th ps fe fl pe pl) (hB : B + 100 < 2 ^ 30) (hCc : 60 ≤ Cc) (hZz : 400 ≤ Zz) (HX : HXP K834 K867 K900 A B rs ow th ps fe fl pe pl) (q : DNP A B Q) {cc zz : Nat} (hcc : cc ≤ 12) (hzz : zz ≤ 72) {i1 i5 i6 : Int32} : S_L_act_409 K114 K109 K188 K272 K350 K409 K475 K518 K552 K586 K660 K710 K766 K802 K238 K834 K867 K900 Cc Zz Q X M (A 0) i1 (nI pl) (nI (eC rs ow fe)) (nI fl) i5 i6 cc zz := by
  refine ⟨1, 6, ⟨by omega, by omega⟩, h.sh.k 0, a_size h (by omega) (by omega) (fun _ => (HX xIO _ _ _ (Or.inl rfl) (h.up (by omega)) (by omega) (by omega))) (fun f hf ef ne => ?_)⟩
  have hl := h.1.len hf
  have h3 := (g.2.1 f).resolve_left ne
  refine ⟨⟨by omega, by omega⟩, l_below (by omega) (by omega) (fun j hj => ?_)⟩
  refine ⟨2, 12, ⟨by omega, by omega⟩, h.sh.k 0, a_corner h (by omega) (by omega) (fun _ => (HX xIO _ _ _ (Or.inl rfl) (h.up (by omega)) (by omega) (by omega))) (fun f2 k _ _ _ _ => ?_)⟩
  refine ⟨5, 30, ⟨by omega, by omega⟩, h.sh.k 0, o_cut h g (by omega) (by omega) (fun E M2 he s2 => HX E M2 _ _ he (s2.up (by omega)) (by omega) (by omega)) (fun M2 rs2 ow2 s2 g2 e2 l3 => ?_)⟩
  have hfe := s2.2.1.2.2.1
  have hl2 := s2.1.len (f := fe) (by omega)
  refine ⟨1, 6, ⟨by omega, by omega⟩, s2.sh.k 0, a_size s2 (by omega) (by omega) (fun n => absurd (n fe (by omega) rfl) (fun z => by rw [z] at l3; exact absurd l3 (by decide))) (fun f3 hf3 ef3 _ => ?_)⟩
  have e3 : fe = f3 := (nI_eq (by omega) (by omega)).mp ef3
  subst e3
  exact ⟨fun z => absurd z (nI_ge (a := 2) (by omega) (by omega)), fun _ => ⟨⟨by omega, by omega⟩, s2.sh.k 0, a_faces s2 ⟨fun z => absurd (nI_1 fl).symm z, fun _ => ⟨⟨by omega, by omega⟩, s2.sh.k 0, a_edges s2 ⟨fun z => absurd (by rw [e2]; exact (nI_1 _).symm) z, fun _ => ⟨by omega, by omega, q _ _ _ _ _ _ _ _ _ (s2.up (by omega)) g2⟩⟩⟩⟩⟩⟩
theorem arm_475 (h : SD A M B rs ow th ps fe fl pe pl) (g : Gd rs ow th ps fe fl pe pl) (hB : B + 100 < 2 ^ 30) (hCc : 60 ≤ Cc) (hZz : 400 ≤ Zz) (HX : HXP K834 K867 K900 A B rs ow th ps fe fl pe pl) (q : DNP A B Q) {cc zz : Nat} (hcc : cc ≤ 12) (hzz : zz ≤ 72) {i6 i7 : Int32} : S_L_act_475 K114 K109 K188 K272 K350 K409 K475 K518 K552 K586 K660 K710 K766 K802 K238 K834 K867 K900 Cc Zz Q X M (A 0) (nI pl) (nI (eC rs ow fe)) (nI fl) i6 i7 cc zz := by
  refine ⟨4, 24, ⟨by omega, by omega⟩, h.sh.k 0, o_join h g (by omega) (by omega) (fun E M2 he s2 => HX E M2 _ _ he (s2.up (by omega)) (by omega) (by omega)) (fun M2 rs2 ow2 f hf l4 hfl s2 g2 e2 => ?_)⟩
  have hl2 := s2.1.len hf
  refine ⟨1, 6, ⟨by omega, by omega⟩, s2.sh.k 0, a_size s2 (by omega) (by omega) (fun n => absurd (n f hf rfl) (fun z => by rw [z] at l4; exact absurd l4 (by decide))) (fun f3 hf3 ef3 _ => ?_)⟩
  have e3 : f = f3 := (nI_eq (by omega) (by omega)).mp ef3
  subst e3
  exact ⟨fun z => absurd z (nI_ge (a := 3) (by omega) (by omega)), fun _ => ⟨⟨by omega, by omega⟩, s2.sh.k 0, a_faces s2 ⟨fun z => absurd (nI_dec hfl).symm z, fun _ => ⟨⟨by omega, by omega⟩, s2.sh.k 0, a_edges s2 ⟨fun z => absurd (by rw [← e2]; exact (nI_pred _).symm) z, fun _ => ⟨by omega, by omega, q _ _ _ _ _ _ _ _ _ (s2.up (by omega)) g2⟩⟩⟩⟩⟩⟩
theorem arm_518 (h : SD A M B rs ow th ps fe fl pe pl) (g : Gd rs ow th ps fe fl pe pl) (hB : B + 100 < 2 ^ 30) (hCc : 60 ≤ Cc) (hZz : 400 ≤ Zz) (HX : HXP K834 K867 K900 A B rs ow th ps fe fl pe pl) (q : DNP A B Q) {cc zz : Nat} (hcc : cc ≤ 12) (hzz : zz ≤ 72) {i6 i7 : Int32} : S_L_act_518 K114 K109 K188 K272 K350 K409 K475 K518 K552 K586 K660 K710 K766 K802 K238 K834 K867 K900 Cc Zz Q X M (A 0) (nI pl) (nI (eC rs ow fe)) (nI fl) i6 i7 cc zz := by
  refine ⟨4, 24, ⟨by omega, by omega⟩, h.sh.k 0, o_collapse h g (by omega) (by omega) (by omega) (fun E M2 he s2 => HX E M2 _ _ he (s2.up (by omega)) (by omega) (by omega)) (fun M2 rs2 ow2 th2 gone hg hpl s2 g2 => ?_)⟩
  exact ⟨⟨by omega, by omega⟩, s2.sh.k 0, a_faces s2 ⟨fun z => absurd (by rw [pk_sub (by omega), show fl - (fl - gone) = gone by omega]) z, fun _ => ⟨⟨by omega, by omega⟩, s2.sh.k 0, a_points s2 ⟨fun z => absurd (nI_dec hpl).symm z, fun _ => ⟨by omega, by omega, q _ _ _ _ _ _ _ _ _ (s2.up (by omega)) g2⟩⟩⟩⟩⟩
theorem arm_552 (h : SD A M B rs ow th ps fe fl pe pl) (g : Gd rs ow th ps fe fl pe pl) (hB : B + 100 < 2 ^ 30) (hCc : 60 ≤ Cc) (hZz : 400 ≤ Zz) (HX : HXP K834 K867 K900 A B rs ow th ps fe fl pe pl) (q : DNP A B Q) {cc zz : Nat} (hcc : cc ≤ 12) (hzz : zz ≤ 72) {i6 i7 : Int32} : S_L_act_552 K114 K109 K188 K272 K350 K409 K475 K518 K552 K586 K660 K710 K766 K802 K238 K834 K867 K900 Cc Zz Q X M (A 0) (nI pl) (nI (eC rs ow fe)) (nI fl) i6 i7 cc zz := by
  refine ⟨4, 24, ⟨by omega, by omega⟩, h.sh.k 0, o_flip h g (by omega) (by omega) (fun E M2 he s2 => HX E M2 _ _ he (s2.up (by omega)) (by omega) (by omega)) (fun M2 rs2 ow2 v hv s2 g2 e2 => ?_)⟩
  exact ⟨fun z => absurd z hv, fun _ => ⟨⟨by omega, by omega⟩, s2.sh.k 0, a_faces s2 ⟨fun z => absurd rfl z, fun _ => ⟨⟨by omega, by omega⟩, s2.sh.k 0, a_edges s2 ⟨fun z => absurd (by rw [e2]) z, fun _ => ⟨by omega, by omega, q _ _ _ _ _ _ _ _ _ (s2.up (by omega)) g2⟩⟩⟩⟩⟩⟩
theorem arm_586 (h : SD A M B rs ow th ps fe fl pe pl) (g : Gd rs ow th ps fe fl pe pl) (hB : B + 100 < 2 ^ 30) (hCc : 60 ≤ Cc) (hZz : 400 ≤ Zz) (HX : HXP K834 K867 K900 A B rs ow th ps fe fl pe pl) (q : DNP A B Q) {cc zz : Nat} (hcc : cc ≤ 12) (hzz : zz ≤ 72) {i1 i5 : Int32} : S_L_act_586 K114 K109 K188 K272 K350 K409 K475 K518 K552 K586 K660 K710 K766 K802 K238 K834 K867 K900 Cc Zz Q X M (A 0) i1 (nI pl) (nI (eC rs ow fe)) (nI fl) i5 cc zz := by
  refine ⟨⟨by omega, by omega⟩, l_below (n := 4) (by omega) (by omega) (fun j _ => ⟨fun _ => ?_, fun _ => ?_⟩)⟩
  · have hpl := h.2.2.2.1.2.2.2
    exact ⟨⟨by omega, by omega⟩, h.sh.k 0, o_smooth h g (fun M2 ps2 c hc s2 g2 => ⟨fun z => absurd z (nI_nlt hc (by omega)), fun _ => ⟨⟨by omega, by omega⟩, s2.sh.k 0, a_faces s2 ⟨fun z => absurd rfl z, fun _ => ⟨by omega, by omega, q _ _ _ _ _ _ _ _ _ (s2.up (by omega)) g2⟩⟩⟩⟩)⟩
  · refine ⟨⟨by omega, by omega⟩, l_below (n := 20) (by omega) (by omega) (fun j2 _ => ⟨⟨by omega, by omega⟩, l_below (n := 20) (by omega) (by omega) (fun j3 _ => ?_)⟩)⟩
    refine ⟨3, 18, ⟨by omega, by omega⟩, h.sh.k 0, o_draw h g (by omega) (by omega) (fun E M2 he s2 => HX E M2 _ _ he (s2.up (by omega)) (by omega) (by omega)) (fun M2 rs2 ow2 th2 ps2 fe2 fl2 pe2 pl2 v hv s2 g2 => ?_)⟩
    exact ⟨fun z => absurd z hv, fun _ => ⟨⟨by omega, by omega⟩, s2.sh.k 0, a_holes s2 g2 (by omega) (fun M3 s3 => ⟨fun z => absurd z (nI_pos (hC_lt s3)), fun _ => ⟨by omega, by omega, q _ _ _ _ _ _ _ _ _ (s3.up (by omega)) g2⟩⟩)⟩⟩
theorem arm_660 (h : SD A M B rs ow th ps fe fl pe pl) (g : Gd rs ow th ps fe fl pe pl) (hB : B + 100 < 2 ^ 30) (hCc : 60 ≤ Cc) (hZz : 400 ≤ Zz) (HX : HXP K834 K867 K900 A B rs ow th ps fe fl pe pl) (q : DNP A B Q) {cc zz : Nat} (hcc : cc ≤ 12) (hzz : zz ≤ 72) {i6 i7 : Int32} : S_L_act_660 K114 K109 K188 K272 K350 K409 K475 K518 K552 K586 K660 K710 K766 K802 K238 K834 K867 K900 Cc Zz Q X M (A 0) (nI pl) (nI (eC rs ow fe)) (nI fl) i6 i7 cc zz := by
  refine ⟨⟨by omega, by omega⟩, h.sh.k 0, a_holes h g (by omega) (fun M1 s1 => ?_)⟩
  refine ⟨2, 12, ⟨by omega, by omega⟩, s1.sh.k 0, a_hole s1 g (by omega) (by omega) (by omega) (fun _ => HX xIO _ _ _ (Or.inl rfl) (s1.up (by omega)) (by omega) (by omega)) (fun M2 a b ha hb ea eb _ _ s2 => ?_)⟩
  refine ⟨5, 30, ⟨by omega, by omega⟩, s2.sh.k 0, o_fill s2 g (by omega) (by omega) (by omega) (fun E M3 he s3 => HX E M3 _ _ he (s3.up (by omega)) (by omega) (by omega)) (fun M3 rs3 ow3 a2 b2 ha2 hb2 ea2 eb2 s3 g3 l3 el eh => ?_)⟩
  have e1 : a = a2 := (nI_eq (by omega) (by omega)).mp (ea.symm.trans ea2)
  have e2 : b = b2 := (nI_eq (by omega) (by omega)).mp (eb.symm.trans eb2)
  subst e1
  subst e2
  have hfe := s3.2.1.2.2.1
  refine ⟨1, 6, ⟨by omega, by omega⟩, s3.sh.k 0, a_size s3 (by omega) (by omega) (fun n => absurd (n fe (by omega) rfl) (fun z => by rw [z] at l3; exact absurd l3 (by decide))) (fun f3 hf3 ef3 _ => ?_)⟩
  have e3 : fe = f3 := (nI_eq (by omega) (by omega)).mp ef3
  subst e3
  rw [el, eh]
  exact ⟨fun z => absurd rfl z, fun _ => ⟨⟨by omega, by omega⟩, s3.sh.k 0, a_holes s3 g3 (by omega) (fun M4 s4 => ⟨fun z => absurd (nI_pred _).symm z, fun _ => ⟨by omega, by omega, q _ _ _ _ _ _ _ _ _ (s4.up (by omega)) g3⟩⟩)⟩⟩
theorem arm_710 (h : SD A M B rs ow th ps fe fl pe pl) (g : Gd rs ow th ps fe fl pe pl) (hB : B + 100 < 2 ^ 30) (hCc : 60 ≤ Cc) (hZz : 400 ≤ Zz) (HX : HXP K834 K867 K900 A B rs ow th ps fe fl pe pl) (q : DNP A B Q) {cc zz : Nat} (hcc : cc ≤ 12) (hzz : zz ≤ 72) {i1 : Int32} : S_L_act_710 K114 K109 K188 K272 K350 K409 K475 K518 K552 K586 K660 K710 K766 K802 K238 K834 K867 K900 Cc Zz Q X M (A 0) i1 (nI pl) (nI (eC rs ow fe)) (nI fl) cc zz := by
  refine ⟨⟨by omega, by omega⟩, l_below (n := 5) (by omega) (by omega) (fun j _ => ⟨fun _ => ?_, fun _ => ?_⟩)⟩
  · exact ⟨⟨by omega, by omega⟩, h.sh.k 0, o_turn h g (fun M2 rs2 ow2 s2 g2 => ⟨fun z => absurd rfl z, fun _ => ⟨by omega, by omega, q _ _ _ _ _ _ _ _ _ (s2.up (by omega)) g2⟩⟩)⟩
  · refine ⟨1, 6, ⟨by omega, by omega⟩, h.sh.k 0, o_quarters h g (by omega) (by omega) (fun E M2 he s2 => HX E M2 _ _ he (s2.up (by omega)) (by omega) (by omega)) (fun M2 rs2 ow2 th2 ps2 fe2 fl2 pe2 s2 g2 => ?_)⟩
    exact ⟨⟨by omega, by omega⟩, s2.sh.k 0, a_faces s2 ⟨fun z => absurd rfl z, fun _ => ⟨⟨by omega, by omega⟩, s2.sh.k 0, a_points s2 ⟨fun z => absurd (by rw [nI_add, nI_add]) z, fun _ => ⟨by omega, by omega, q _ _ _ _ _ _ _ _ _ (s2.up (by omega)) g2⟩⟩⟩⟩⟩
theorem arm_766 (h : SD A M B rs ow th ps fe fl pe pl) (g : Gd rs ow th ps fe fl pe pl) (hB : B + 100 < 2 ^ 30) (hCc : 60 ≤ Cc) (hZz : 400 ≤ Zz) (HX : HXP K834 K867 K900 A B rs ow th ps fe fl pe pl) (q : DNP A B Q) {cc zz : Nat} (hcc : cc ≤ 12) (hzz : zz ≤ 72) {i5 : Int32} : S_L_act_766 K114 K109 K188 K272 K350 K409 K475 K518 K552 K586 K660 K710 K766 K802 K238 K834 K867 K900 Cc Zz Q X M (A 0) (nI pl) (nI (eC rs ow fe)) (nI fl) i5 cc zz := by
  refine ⟨1, 6, ⟨by omega, by omega⟩, h.sh.k 0, a_holesWithout h g (by omega) (by omega) (by omega) (fun _ => (HX xIO _ _ _ (Or.inl rfl) (h.up (by omega)) (by omega) (by omega))) (fun M1 f hf ef ne s1 => ?_)⟩
  refine ⟨1, 6, ⟨by omega, by omega⟩, s1.sh.k 0, o_dropFace s1 g (by omega) (by omega) (HX xIO _ _ _ (Or.inl rfl) (s1.up (by omega)) (by omega) (by omega)) (fun M2 f2 hf2 ef2 ne2 hfl s2 g2 => ?_)⟩
  have e1 : f = f2 := (nI_eq (by omega) (by omega)).mp (ef.symm.trans ef2)
  subst e1
  exact ⟨fun z => absurd (nI_dec hfl).symm z, fun _ => ⟨⟨by omega, by omega⟩, s2.sh.k 0, a_holes s2 g2 (by omega) (fun M3 s3 => ⟨fun z => absurd rfl z, fun _ => ⟨by omega, by omega, q _ _ _ _ _ _ _ _ _ (s3.up (by omega)) g2⟩⟩)⟩⟩
theorem arm_802 (h : SD A M B rs ow th ps fe fl pe pl) (g : Gd rs ow th ps fe fl pe pl) (hB : B + 100 < 2 ^ 30) (hCc : 60 ≤ Cc) (hZz : 400 ≤ Zz) (HX : HXP K834 K867 K900 A B rs ow th ps fe fl pe pl) (q : DNP A B Q) {cc zz : Nat} (hcc : cc ≤ 12) (hzz : zz ≤ 72) {i1 : Int32} : S_L_act_802 K114 K109 K188 K272 K350 K409 K475 K518 K552 K586 K660 K710 K766 K802 K238 K834 K867 K900 Cc Zz Q X M (A 0) i1 (nI pl) (nI (eC rs ow fe)) (nI fl) cc zz := by
  refine ⟨⟨by omega, by omega⟩, l_below (n := 90) (by omega) (by omega) (fun j2 _ => ⟨⟨by omega, by omega⟩, l_below (n := 90) (by omega) (by omega) (fun j3 _ => ?_)⟩)⟩
  have hpl := g.pl_le
  refine ⟨2, 12, ⟨by omega, by omega⟩, h.sh.k 0, o_point h g (by omega) (by omega) (fun E M2 he s2 _ => HX E M2 _ _ he (s2.up (by omega)) (by omega) (by omega)) (fun M2 hpe s2 g2 => ?_)⟩
  exact ⟨fun z => absurd z (nI_nlt hpl (by omega)), fun _ => ⟨by omega, by omega, q _ _ _ _ _ _ _ _ _ (s2.up (by omega)) g2⟩⟩
end
