section
variable {A : Nat → Nat} {M M' : Mm} {B : Nat} {rs rs2 : Nat → List Nat} {ow ow2 : Nat → Nat → Nat} {th : Nat → Bool} {ps : Nat → Nat → Int32} {fe fl pe pl : Nat} {Cc Zz : Nat} {Q : Int32 → Mm → Prop} {X : String → Mm → Prop}
set_option maxHeartbeats 4000000 in
theorem l_act {x : Int32} (h : SD A M B rs ow th ps fe fl pe pl) (g : Gd rs ow th ps fe fl pe pl) (hB : B + 100 < 2 ^ 30) (hCc : 60 ≤ Cc) (hZz : 400 ≤ Zz) (q : DNP A B Q) : T_L_act Cc Zz M (A 0) x Q X := by
  unfold T_L_act
  intro K114 K109 K188 K272 K350 K409 K475 K518 K552 K586 K660 K710 K766 K802 K238 K834 K867 K900 h114 h109 h188 h272 h350 h409 h475 h518 h552 h586 h660 h710 h766 h802 h238 h834 h867 h900
  have HX : HXP K834 K867 K900 A B rs ow th ps fe fl pe pl := by
    intro E M2 c z he s2 hc hz
    rcases he with e | e | e
    · exact Or.inl ⟨e, fun qx => h834 _ _ _ _ _ _ _ _ (arm_834 g hCc hZz q (s2 := s2) hc hz)⟩
    · exact Or.inr (Or.inl ⟨e, fun qx => h867 _ _ _ _ _ _ _ _ (arm_867 g hCc hZz q (s2 := s2) hc hz)⟩)
    · exact Or.inr (Or.inr ⟨e, fun qx => h900 _ _ _ _ _ _ _ _ (arm_900 g hCc hZz q (s2 := s2) hc hz)⟩)
  have k114 : ∀ f a b cc zz, cc ≤ 12 → zz ≤ 72 → K114 (A 0) x (nI pl) (nI (eC rs ow fe)) (nI fl) f a b M cc zz := by
    intro f a b cc zz hcc hzz
    refine h114 _ _ _ _ _ _ _ _ _ _ _ ⟨⟨by omega, by omega⟩, l_below (n := 14) (by omega) (by omega) (fun j hj => ?_)⟩
    exact ⟨fun _ => h188 _ _ _ _ _ _ _ _ (arm_188 h g hB hCc hZz HX q hcc hzz h238),
      fun _ => h188 _ _ _ _ _ _ _ _ (arm_188 h g hB hCc hZz HX q hcc hzz h238),
      fun _ => h188 _ _ _ _ _ _ _ _ (arm_188 h g hB hCc hZz HX q hcc hzz h238),
      fun _ => h272 _ _ _ _ _ _ _ _ (arm_272 h g hB hCc hZz HX q hcc hzz),
      fun _ => h350 _ _ _ _ _ _ _ _ _ (arm_350 h g hB hCc hZz HX q hcc hzz),
      fun _ => h409 _ _ _ _ _ _ _ _ _ _ (arm_409 h g hB hCc hZz HX q hcc hzz),
      fun _ => h475 _ _ _ _ _ _ _ _ _ (arm_475 h g hB hCc hZz HX q hcc hzz),
      fun _ => h518 _ _ _ _ _ _ _ _ _ (arm_518 h g hB hCc hZz HX q hcc hzz),
      fun _ => h552 _ _ _ _ _ _ _ _ _ (arm_552 h g hB hCc hZz HX q hcc hzz),
      fun _ => h586 _ _ _ _ _ _ _ _ _ (arm_586 h g hB hCc hZz HX q hcc hzz),
      fun _ => h660 _ _ _ _ _ _ _ _ _ (arm_660 h g hB hCc hZz HX q hcc hzz),
      fun _ => h710 _ _ _ _ _ _ _ _ (arm_710 h g hB hCc hZz HX q hcc hzz),
      fun _ => h766 _ _ _ _ _ _ _ _ (arm_766 h g hB hCc hZz HX q hcc hzz),
      fun _ => h802 _ _ _ _ _ _ _ _ (arm_802 h g hB hCc hZz HX q hcc hzz)⟩
  have k109 : ∀ a b qx cc zz, cc ≤ 12 → zz ≤ 72 → K109 (A 0) x (nI pl) (nI (eC rs ow fe)) (nI fl) a b qx M cc zz := fun a b qx cc zz hcc hzz => h109 _ _ _ _ _ _ _ _ _ _ _ (k114 0 a b cc zz hcc hzz)
  refine ⟨⟨by omega, by omega⟩, h.sh.k 0, a_points h ⟨⟨by omega, by omega⟩, h.sh.k 0, a_edges h ⟨⟨by omega, by omega⟩, h.sh.k 0, a_faces h ⟨⟨by omega, by omega⟩, l_below (n := 30) (by omega) (by omega) (fun j4 _ => ⟨⟨by omega, by omega⟩, l_below (n := 24) (by omega) (by omega) (fun j5 _ => ⟨⟨by omega, by omega⟩, l_below (n := 24) (by omega) (by omega) (fun j6 _ => ⟨⟨by omega, by omega⟩, l_below (n := 5) (by omega) (by omega) (fun j7 _ => ⟨fun _ => k114 _ _ _ _ _ (by omega) (by omega), fun _ => ⟨fun _ => k114 _ _ _ _ _ (by omega) (by omega), fun _ => ?_⟩⟩)⟩)⟩)⟩)⟩⟩⟩⟩
  refine ⟨1, 6, ⟨by omega, by omega⟩, h.sh.k 0, a_size h (by omega) (by omega) (fun _ => ⟨rfl, fun qx => k109 _ _ _ _ _ (by omega) (by omega)⟩) (fun f hf ef ne => ?_)⟩
  have hl := h.1.len hf
  have h3 := (g.2.1 f).resolve_left ne
  refine ⟨⟨by omega, by omega⟩, l_below (by omega) (by omega) (fun j8 _ => ?_)⟩
  refine ⟨2, 12, ⟨by omega, by omega⟩, h.sh.k 0, a_corner h (by omega) (by omega) (fun _ => ⟨rfl, fun qx => k109 _ _ _ _ _ (by omega) (by omega)⟩) (fun f2 k2 _ _ _ _ => ?_)⟩
  refine ⟨1, 6, ⟨by omega, by omega⟩, h.sh.k 0, a_size h (by omega) (by omega) (fun _ => ⟨rfl, fun qx => k109 _ _ _ _ _ (by omega) (by omega)⟩) (fun f4 hf4 ef4 ne4 => ?_)⟩
  have hl4 := h.1.len hf4
  have h34 := (g.2.1 f4).resolve_left ne4
  exact ⟨nI_ne0 (by omega) (by omega), 2, 12, ⟨by omega, by omega⟩, h.sh.k 0, a_corner h (by omega) (by omega) (fun _ => ⟨rfl, fun qx => k109 _ _ _ _ _ (by omega) (by omega)⟩) (fun f5 k5 _ _ _ _ => k114 _ _ _ _ _ (by omega) (by omega))⟩
end
