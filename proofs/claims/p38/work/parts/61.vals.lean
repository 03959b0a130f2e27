section
theorem ax1 {k : Nat} (hk : k < 3) : nI k + 1 - (nI k + 1) / 3 * 3 = nI ((k + 1) % 3) := by
  rw [nI_1, show (3 : Int32) = nI 3 from rfl]
  exact pk_rem (by omega) (by omega) (by omega)
theorem ax2 {k : Nat} (hk : k < 3) : nI k + 2 - (nI k + 2) / 3 * 3 = nI ((k + 2) % 3) := by
  rw [show (2 : Int32) = nI 2 from rfl, nI_add, show (3 : Int32) = nI 3 from rfl]
  exact pk_rem (by omega) (by omega) (by omega)
theorem t_gt0 {M : Mm} {o w : Nat} {xs : List Int32} {Q : Int32 → Prop} (h : RG M o w xs) (q : Q (gt xs 0)) : T_X5_get M o 0 Q := by
  have := t_gt (p := 0) (Q := Q) h (by omega) q
  rw [nI_0] at this
  exact this
/-- the sums of a ring: normal, bulk -/
def nmS (ps : Nat → Nat → Int32) (xs : List Nat) (o w : Nat) : Nat → Int32
  | 0 => 0
  | k + 1 => nmS ps xs o w k + ((ps o (gn xs k) * ps w (gn xs (k + 1))) - (ps w (gn xs k) * ps o (gn xs (k + 1))))
def spS (ps : Nat → Nat → Int32) (p q r : Nat) : Nat → Int64
  | 0 => 0
  | k + 1 => spS ps p q r k + ((ps k p).toInt64 * (((ps ((k + 1) % 3) q).toInt64 * (ps ((k + 2) % 3) r).toInt64) - ((ps ((k + 2) % 3) q).toInt64 * (ps ((k + 1) % 3) r).toInt64)))
def bkS (ps : Nat → Nat → Int32) (xs : List Nat) : Nat → Int64
  | 0 => 0
  | k + 1 => bkS ps xs k + spS ps (gn xs 0) (gn xs (k + 1)) (gn xs (k + 2)) 3
def wbS (ps : Nat → Nat → Int32) (rs : Nat → List Nat) : Nat → Int64
  | 0 => 0
  | f + 1 => wbS ps rs f + bkS ps (rs f) ((rs f).length - 2)
variable {A : Nat → Nat} {M M' : Mm} {B : Nat} {rs rs2 : Nat → List Nat} {ow ow2 : Nat → Nat → Nat} {th : Nat → Bool} {ps : Nat → Nat → Int32} {fe fl pe pl : Nat} {Cc Zz : Nat}
theorem t_normal {f ax : Nat} {Q : Int32 → Prop} (h : SD A M B rs ow th ps fe fl pe pl) (hf : f < 160) (hax : ax < 3) (q : Q (nmS ps (rs f) ((ax + 1) % 3) ((ax + 2) % 3) (rs f).length)) : T_X3_normalOf M (A 1) (A (64 + 2 * f)) (nI ax) Q := by
  unfold T_X3_normalOf
  intro K hK
  rw [ax1 hax, ax2 hax]
  have o3 : (ax + 1) % 3 < 3 := Nat.mod_lt _ (by decide)
  have w3 : (ax + 2) % 3 < 3 := Nat.mod_lt _ (by decide)
  revert q o3 w3
  generalize (ax + 1) % 3 = o
  generalize (ax + 2) % 3 = w
  intro q o3 w3
  have hr := h.1.2.1 f hf
  have hl := h.1.len hf
  have key : ∀ d i, i + d = (rs f).length → K (A 1) (A (64 + 2 * f)) (nI o) (nI w) (nmS ps (rs f) o w i) (nI i) := by
    intro d
    induction d with
    | zero =>
      intro i hi
      have : i = (rs f).length := by omega
      subst this
      refine hK _ _ _ _ _ _ ⟨hr.1, t_length hr ?_⟩
      rw [List.length_map]
      exact ⟨fun _ => q, fun z => absurd (nI_le (Nat.le_refl _) (by omega)) z⟩
    | succ d ih =>
      intro i hi
      have hb := h.1.bd hf (k := i) (by omega)
      refine hK _ _ _ _ _ _ ⟨hr.1, t_length hr ?_⟩
      rw [List.length_map]
      refine ⟨fun z => absurd z (nI_ge (by omega) (by omega)), fun _ => ⟨hr.1, t_gt hr (by omega) ⟨hr.1, ?_⟩⟩⟩
      rw [nI_1]
      refine t_gt hr (by omega) ?_
      rw [gt_map (by omega), gt_map (by omega)]
      exact ⟨h.sh.k 1, t_pget h.2.2.1 hb.1 o3 ⟨h.sh.k 1, t_pget h.2.2.1 hb.2 w3 ⟨h.sh.k 1, t_pget h.2.2.1 hb.1 w3 ⟨h.sh.k 1, t_pget h.2.2.1 hb.2 o3 (ih (i + 1) (by omega))⟩⟩⟩⟩
  have := key (rs f).length 0 (by omega)
  rw [nI_0] at this
  exact this
theorem t_spat {p q r : Nat} {Q : Int64 → Prop} (h : SD A M B rs ow th ps fe fl pe pl) (hp : p < 100) (hq : q < 100) (hr : r < 100) (fin : Q (spS ps p q r 3)) : T_X3_spat M (A 1) (nI p) (nI q) (nI r) Q := by
  unfold T_X3_spat
  intro K hK
  have key : ∀ d k, k + d = 3 → K (A 1) (nI p) (nI q) (nI r) (spS ps p q r k) (nI k) := by
    intro d
    induction d with
    | zero =>
      intro k hk
      have : k = 3 := by omega
      subst this
      exact hK _ _ _ _ _ _ ⟨fun _ => fin, fun z => absurd (by decide) z⟩
    | succ d ih =>
      intro k hk
      have hk3 : k < 3 := by omega
      have a1 : (k + 1) % 3 < 3 := Nat.mod_lt _ (by decide)
      have a2 : (k + 2) % 3 < 3 := Nat.mod_lt _ (by decide)
      refine hK _ _ _ _ _ _ ⟨fun z => absurd z (show ¬ nI 3 ≤ nI k from nI_ge (by omega) (by omega)), fun _ => ?_⟩
      rw [ax1 hk3, ax2 hk3, nI_1]
      exact ⟨h.sh.k 1, t_pget h.2.2.1 hq a1 ⟨h.sh.k 1, t_pget h.2.2.1 hr a2 ⟨h.sh.k 1, t_pget h.2.2.1 hq a2 ⟨h.sh.k 1, t_pget h.2.2.1 hr a1 ⟨h.sh.k 1, t_pget h.2.2.1 hp hk3 (ih (k + 1) (by omega))⟩⟩⟩⟩⟩
  have := key 3 0 (by omega)
  rw [nI_0] at this
  exact this
theorem t_bulk {f : Nat} {Q : Int64 → Prop} (h : SD A M B rs ow th ps fe fl pe pl) (hf : f < 160) (q : Q (bkS ps (rs f) ((rs f).length - 2))) : T_X3_bulkOf M (A 1) (A (64 + 2 * f)) Q := by
  unfold T_X3_bulkOf
  intro K hK
  have hr := h.1.2.1 f hf
  have hl := h.1.len hf
  have key : ∀ d k, k + d = (rs f).length - 2 → K (A 1) (A (64 + 2 * f)) (bkS ps (rs f) k) (nI (k + 1)) := by
    intro d
    induction d with
    | zero =>
      intro k hk
      refine hK _ _ _ _ ⟨hr.1, t_length hr ?_⟩
      rw [List.length_map, nI_1]
      rw [show (rs f).length - 2 = k by omega] at q
      exact ⟨fun _ => q, fun z => absurd (nI_le (by omega) (by omega)) z⟩
    | succ d ih =>
      intro k hk
      have b0 := h.1.bd hf (k := 0) (by omega)
      have b1 := h.1.bd hf (k := k + 1) (by omega)
      refine hK _ _ _ _ ⟨hr.1, t_length hr ?_⟩
      rw [List.length_map, nI_1]
      refine ⟨fun z => absurd z (nI_ge (by omega) (by omega)), fun _ => ⟨hr.1, t_gt0 hr ⟨hr.1, t_gt hr (by omega) ⟨hr.1, t_gt hr (by omega) ?_⟩⟩⟩⟩
      rw [gt_map (by omega), gt_map (by omega), gt_map (by omega)]
      exact ⟨h.sh.k 1, t_spat h b0.1 b1.1 b1.2 (ih (k + 1) (by omega))⟩
  have := key ((rs f).length - 2) 0 (by omega)
  exact this
theorem t_whole {Q : Int64 → Prop} (h : SD A M B rs ow th ps fe fl pe pl) (q : Q (wbS ps rs fe)) : T_X8_wholeBulk M (A 0) Q := by
  unfold T_X8_wholeBulk
  intro K hK
  have hfe := h.2.1.2.2.1
  have key : ∀ d f, f + d = fe → K (A 0) (wbS ps rs f) (nI f) := by
    intro d
    induction d with
    | zero =>
      intro f hf
      have : f = fe := by omega
      subst this
      exact hK _ _ _ ⟨h.sh.k 0, A 7, h.sh.r 0 1 7, h.sh.k 7, t_fever h ⟨fun _ => q, fun z => absurd (nI_le (Nat.le_refl _) (by omega)) z⟩⟩
    | succ d ih =>
      intro f hf
      refine hK _ _ _ ⟨h.sh.k 0, A 7, h.sh.r 0 1 7, h.sh.k 7, t_fever h ⟨fun z => absurd z (nI_ge (by omega) (by omega)), fun _ => ⟨h.sh.k 0, A 1, h.sh.r 0 0 1, h.sh.k 0, A 7, h.sh.r 0 1 7, h.sh.k 7, t_ring h.1 (by omega) ⟨h.sh.k 1, t_bulk h (by omega) ?_⟩⟩⟩⟩
      rw [nI_1]
      exact ih (f + 1) (by omega)
  have := key fe 0 (by omega)
  rw [nI_0] at this
  exact this
end
