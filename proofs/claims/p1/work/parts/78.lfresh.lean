/-- nothing made yet -/
def M00 : Mm := (fun _ => (255, 0), fun _ _ => 0, fun _ _ => none, fun _ _ => 0)
theorem frs00 {q : Nat} : frs M00 q := fun _ _ => rfl
set_option maxRecDepth 100000 in
set_option maxHeartbeats 4000000 in
theorem law_fresh {L : Nat} {xs : Nat → Int32} (hL : L ≤ 5) : T_L_law 600002 7302232 L xs M00 := by
  unfold T_L_law
  intro K hK
  refine ⟨by omega, by omega, fun q1 h1 => ⟨400, 40000, ⟨by omega, by omega⟩, mk_mesh h1 (by omega) (by omega) (fun bs rs M3 L' hlen hb0 hcs hrl => ⟨by omega, by omega, fun q5 h5 => ⟨300, 20000, ⟨by omega, by omega⟩, mk_ref h5 (by omega) (by omega) (fun M7 P T G O hR old => ⟨by omega, by omega, fun q9 h9 => ?_⟩)⟩⟩)⟩⟩
  have hR9 : RF (wN M7 q9 110 1) q5 P T G O 0 0 := hR.old (old_N h9)
  have hcs9 : CS bs rs 160 (wN M7 q9 110 1) L' := hcs.go (fun b hb => by
    have h3 := hcs.old hb
    obtain ⟨a1, a2, a3⟩ := old b h3
    obtain ⟨b1, b2, b3⟩ := old_N (kd := 110) (n := 1) h9 b (by rw [a1]; exact h3)
    exact ⟨b1.trans a1, fun j => (b2 j).trans (a2 j), fun j => (b3 j).trans (a3 j)⟩)
  obtain ⟨A, hA0, hF, -⟩ := fresh_of hlen hcs9 hrl
  have hA : q1 = A 0 := by
    rw [hb0] at hA0
    exact Option.some.inj hA0
  have ho : kM (wN M7 q9 110 1) q9 = (110, 1) := by rw [kM_wN, if_pos rfl]
  generalize wN M7 q9 110 1 = M at hR9 hF ho ⊢
  subst hA
  refine hK _ _ _ _ _ _ _ ⟨fun _ => ⟨by omega, by omega⟩, fun n => ?_⟩
  have hL5 : L = 5 := by
    by_cases e : L = 5
    · exact e
    · exact absurd (by
        rcases (show L = 0 ∨ L = 1 ∨ L = 2 ∨ L = 3 ∨ L = 4 by omega) with z | z | z | z | z <;> subst z <;> decide) n
  subst hL5
  have hE : ∀ M' c z, c ≤ 600002 → z ≤ 7302232 → K (A 0) q5 q9 (0 + 5) M' c z := fun M' c z hc hz => hK _ _ _ _ _ _ _ ⟨fun _ => ⟨hc, hz⟩, fun n => absurd (by decide) n⟩
  refine ⟨v_in (k := 0) nI_0.symm (by omega) (by omega), fun _ => v_192 hF hR9 ho hE (by omega) (by omega), fun _ => v_272 hF hR9 ho hE (by omega) (by omega), fun _ => v_364 hF hR9 ho hE (by omega) (by omega), fun _ => v_456 hF hR9 ho hE (by omega) (by omega), fun _ => v_512 hF hR9 ho hE (by omega) (by omega), fun _ => v_568 hF hR9 ho hE (by omega) (by omega), fun _ => v_660 hF hR9 ho hE (by omega) (by omega), fun _ => v_728 hF hR9 ho hE (by omega) (by omega), fun _ => v_808 hF hR9 ho hE (by omega) (by omega), fun _ => v_876 hF hR9 ho hE (by omega) (by omega), fun _ => v_944 hF hR9 ho hE (by omega) (by omega), fun _ => v_1012 hF hR9 ho hE (by omega) (by omega), fun _ => v_1104 hF hR9 ho hE (by omega) (by omega), fun _ => v_1172 hF hR9 ho hE (by omega) (by omega), fun _ => v_1216 hF hR9 ho hE (by omega) (by omega), fun _ => v_1229 hF hR9 ho hE (by omega) (by omega), fun _ => v_1242 hF hR9 ho hE (by omega) (by omega), fun _ => v_1255 hF hR9 ho hE (by omega) (by omega), fun _ => v_1268 hF hR9 ho hE (by omega) (by omega), fun _ => v_1281 hF hR9 ho hE (by omega) (by omega), fun _ => v_1294 hF hR9 ho hE (by omega) (by omega), fun _ => v_1307 hF hR9 ho hE (by omega) (by omega), fun _ => v_1375 hF hR9 ho hE (by omega) (by omega), fun _ => v_1431 hF hR9 ho hE (by omega) (by omega), fun _ => v_1499 hF hR9 ho hE (by omega) (by omega), fun _ => v_1567 hF hR9 ho hE (by omega) (by omega), fun _ => v_1635 hF hR9 ho hE (by omega) (by omega), fun _ => v_1703 hF hR9 ho hE (by omega) (by omega), fun _ => v_1771 hF hR9 ho hE (by omega) (by omega), fun _ => v_1785 hF hR9 ho hE (by omega) (by omega), fun _ => v_1826 hF hR9 ho hE (by omega) (by omega), fun _ => v_1894 hF hR9 ho hE (by omega) (by omega), fun _ => v_1950 hF hR9 ho hE (by omega) (by omega), fun _ => v_2017 hF hR9 ho hE (by omega) (by omega), fun _ => v_2073 hF hR9 ho hE (by omega) (by omega), fun _ => hE _ _ _ (by omega) (by omega)⟩
