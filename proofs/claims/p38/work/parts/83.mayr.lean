section
variable {A : Nat → Nat} {M M' : Mm} {B : Nat} {rs rs2 : Nat → List Nat} {ow ow2 : Nat → Nat → Nat} {th : Nat → Bool} {ps : Nat → Nat → Int32} {fe fl pe pl : Nat} {Cc Zz : Nat} {Q : Int32 → Mm → Prop} {X : String → Mm → Prop}
theorem a_may0 (h : SD A M B rs ow th ps fe fl pe pl) (g : Gd rs ow th ps fe fl pe pl) (hB : B + 9000 < 2 ^ 30) (hc : 1 ≤ Cc) (hz : 6 ≤ Zz) (q : ∀ M' c, c ≤ 2 * eC rs ow fe → SD A M' (B + 8000) rs ow th ps fe fl pe pl → Q (nI c) M') : T_X8_may Cc Zz M (A 0) 0 Q X := by
  have := a_may (k := 0) (Q := Q) (X := X) h g (by omega) hB hc hz q
  rw [nI_0] at this
  exact this
theorem l_mayr {x : Int32} (h : SD A M B rs ow th ps fe fl pe pl) (g : Gd rs ow th ps fe fl pe pl) (hB : B + 30000 < 2 ^ 30) (hc : 20000 ≤ Cc) (hz : 120000 ≤ Zz) (q : ∀ M', SD A M' (B + 27000) rs ow th ps fe fl pe pl → Q 1 M') : T_L_isMayRight Cc Zz M (A 0) x Q X := by
  unfold T_L_isMayRight
  intro K43 K75 h43 h75
  have hE := eC_lt h
  have ok := g.ok h.1
  have e160 : (160 : Int32) = nI 160 := rfl
  have key : ∀ d f j M2 cc zz, 160 ≤ f + d → f < 167 → j ≤ 24000 + 13 * f → SD A M2 (B + j) rs ow th ps fe fl pe pl → cc ≤ 6 + 100 * f → zz ≤ 36 + 600 * f → K43 (A 0) (nI f) M2 cc zz := by
    intro d
    induction d with
    | zero =>
      intro f j M2 cc zz hd hf hj s2 hcc hzz
      exact h43 _ _ _ _ _ ⟨fun _ => ⟨⟨by omega, by omega⟩, s2.sh.k 0, a_mean s2 g (fun v hv => ⟨fun z => absurd z hv, fun _ => ⟨by omega, by omega, q M2 (s2.up (by omega))⟩⟩)⟩, fun z => absurd (show nI 160 ≤ nI f from nI_le (by omega) (by omega)) z⟩
    | succ d ih =>
      intro f j M2 cc zz hd hf hj s2 hcc hzz
      by_cases hf1 : f < 160
      · have hl := h.1.len hf1
        have k75 : ∀ d2 k j M3 cc zz, k + d2 = (rs f).length → j ≤ 24001 + 13 * f + k → SD A M3 (B + j) rs ow th ps fe fl pe pl → cc ≤ 8 + 100 * f + 6 * k → zz ≤ 48 + 600 * f + 36 * k → K75 (A 0) (nI f) (nI (rs f).length) (nI k) M3 cc zz := by
          intro d2
          induction d2 with
          | zero =>
            intro k j M3 cc zz hk hj s3 hcc hzz
            have : k = (rs f).length := by omega
            subst this
            refine h75 _ _ _ _ _ _ _ ⟨fun _ => ?_, fun z => absurd (nI_le (Nat.le_refl _) (by omega)) z⟩
            rw [show (7 : Int32) = nI 7 from rfl, nI_add]
            exact ih (f + 7) j M3 cc zz (by omega) (by omega) (by omega) s3 (by omega) (by omega)
          | succ d2 ih2 =>
            intro k j M3 cc zz hk hj s3 hcc hzz
            have hn : 0 < (rs f).length := by omega
            have hu := s3.1.2.2.2.2 f _ hf1 (gn_mem (xs := rs f) (p := k) hn)
            have hv := s3.1.2.2.2.2 f _ hf1 (gn_mem (xs := rs f) (p := k + 1) hn)
            have own : ow (gn (rs f) k) (gn (rs f) (k + 1)) = f + 1 := (g.1.1 _ _ f).mpr ⟨hf1, k, by omega, rfl, rfl⟩
            have tt := g.half (a := gn (rs f) k) (b := gn (rs f) (k + 1)) (by omega)
            have hm := Nat.mod_lt (k + 1) hn
            refine h75 _ _ _ _ _ _ _ ⟨fun z => absurd z (nI_ge (by omega) (by omega)), fun _ => ⟨nI_ne0 hn (by omega), ?_⟩⟩
            rw [gn_round hn (by omega) hl]
            refine ⟨2, 12, ⟨by omega, by omega⟩, s3.sh.k 0, a_corner s3 (by omega) (by omega) (fun n => absurd rfl (n f _ hf1 rfl hm)) (fun f3 k3 hf3 ef3 hk3 ek3 => ?_)⟩
            have e1 : f = f3 := (nI_eq (by omega) (by omega)).mp ef3
            subst e1
            have e2 : (k + 1) % (rs f).length = k3 := (nI_eq (by omega) (by omega)).mp ek3
            subst e2
            rw [gn_mod]
            refine ⟨2, 12, ⟨by omega, by omega⟩, s3.sh.k 0, a_corner s3 (by omega) (by omega) (fun n => absurd rfl (n f k hf1 rfl (by omega))) (fun f2 k2 hf2 ef2 hk2 ek2 => ?_)⟩
            have e1 : f = f2 := (nI_eq (by omega) (by omega)).mp ef2
            subst e1
            have e2 : k = k2 := (nI_eq (by omega) (by omega)).mp ek2
            subst e2
            refine ⟨2, 12, ⟨by omega, by omega⟩, s3.sh.k 0, a_hole s3 g (by omega) (by omega) (by omega) (fun n => absurd ⟨_, _, hv, hu, rfl, rfl, tt.2.1, tt.1⟩ n) (fun M4 a b ha hb ea eb _ _ s4 => ?_)⟩
            have e1 : gn (rs f) (k + 1) = a := (nI_eq (by omega) (by omega)).mp ea
            subst e1
            have e2 : gn (rs f) k = b := (nI_eq (by omega) (by omega)).mp eb
            subst e2
            have hh := ok_hole ok hv hu
            have hle : hL rs ow (gn (rs f) (k + 1)) (gn (rs f) k) ≤ 1920 := mhO_le rs ow 1 _ _ _
            refine ⟨fun _ => ?_, fun z => ?_⟩
            · rw [nI_1]
              exact ih2 (k + 1) (j + 1) M4 _ _ (by omega) (by omega) s4 (by omega) (by omega)
            · have e3 : hL rs ow (gn (rs f) (k + 1)) (gn (rs f) k) = 1 := (nI_eq (b := 1) (by omega) (by omega)).mp z
              by_cases o : opn ow (gn (rs f) (k + 1)) (gn (rs f) k)
              · have := hh.1 o
                omega
              · have := hh.2 o
                omega
        refine h43 _ _ _ _ _ ⟨fun z => absurd z (by rw [e160]; exact nI_ge (by omega) (by omega)), fun _ => ⟨1, 6, ⟨by omega, by omega⟩, l_size s2 hf1 (by omega) (by omega) ⟨fun _ => ?_, fun z => ⟨1, 6, ⟨by omega, by omega⟩, s2.sh.k 0, a_holesWithout s2 g (by omega) (by omega) (by omega) (fun n => absurd (by rw [n f hf1 rfl]; decide) z) (fun M3 f2 hf2 ef2 ne s3 => ?_)⟩⟩⟩⟩
        · have k0 := k75 (rs f).length 0 j M2 (cc + 1) (zz + 6) (by omega) (by omega) s2 (by omega) (by omega)
          rw [show nI 0 = 0 from nI_0] at k0
          exact k0
        · have e1 : f = f2 := (nI_eq (by omega) (by omega)).mp ef2
          subst e1
          have k0 := k75 (rs f).length 0 (j + 1) M3 (cc + 1 + 1) (zz + 6 + 6) (by omega) (by omega) s3 (by omega) (by omega)
          rw [show nI 0 = 0 from nI_0] at k0
          refine ⟨fun _ => k0, fun y => absurd (nI_pos' ?_) y⟩
          obtain ⟨g2, -⟩ := g.drop hf1 ne
          have hfe := h.2.1.2.2.1
          have le2 : ∀ f3, f3 < 160 → (upr rs f [] f3).length ≤ 12 := fun f3 hf3 => by
            unfold upr
            split
            · exact Nat.zero_le _
            · exact h.1.len hf3
          have := hC_any (rs := upr rs f []) (ow := relT f (rs f) ow (rs f).length) le2 hfe
          omega
      · exact h43 _ _ _ _ _ ⟨fun _ => ⟨⟨by omega, by omega⟩, s2.sh.k 0, a_mean s2 g (fun v hv => ⟨fun z => absurd z hv, fun _ => ⟨by omega, by omega, q M2 (s2.up (by omega))⟩⟩)⟩, fun z => absurd (show nI 160 ≤ nI f from nI_le (by omega) (by omega)) z⟩
  refine ⟨⟨by omega, by omega⟩, h.sh.k 0, a_edges h ?_⟩
  rw [show (2 : Int32) * nI (eC rs ow fe) = nI (2 * eC rs ow fe) from nI_mulx 2 _]
  refine ⟨1, 6, ⟨by omega, by omega⟩, h.sh.k 0, a_may0 h g (by omega) (by omega) (by omega) (fun M1 c1 l1 s1 => ?_)⟩
  refine ⟨fun z => absurd z (nI_nlt l1 (by omega)), fun _ => ⟨1, 6, ⟨by omega, by omega⟩, s1.sh.k 0, a_may (k := 1) s1 g (by omega) (by omega) (by omega) (by omega) (fun M2 c2 l2 s2 => ?_)⟩⟩
  refine ⟨fun z => absurd z (nI_nlt l2 (by omega)), fun _ => ⟨1, 6, ⟨by omega, by omega⟩, s2.sh.k 0, a_may (k := 2) s2 g (by omega) (by omega) (by omega) (by omega) (fun M3 c3 l3 s3 => ?_)⟩⟩
  refine ⟨fun _ => ⟨⟨by omega, by omega⟩, l_below (n := 7) (by omega) (by omega) (fun j hj => ?_)⟩, fun z => absurd (nI_le l3 (by omega)) z⟩
  exact key 160 j 24000 M3 _ _ (by omega) (by omega) (by omega) (s3.up (by omega)) (by omega) (by omega)
end
