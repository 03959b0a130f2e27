section QD2
variable {p : Program} {l : Launch} {e : Env} {R : Room} {s : State} {m : MethodId} {args : Array Value} {below : List Frame} {meth : Method} {c : Code} {Q : State → Prop} {nL : Nat} {D : va_G} {cA : Nat → ClassId} {lo : Nat} {cells slots : Nat} {M : Mm} {pc : Nat} {lv lv' : List (Nat × Value)} {st : List Value} {cc : ByteArray} {own : String} {Ts : List Cond}
theorem q_putZ (C : Cx p s m args c cc nL own Ts D cA lo) {ref Cn : String} {T : u_T} {N ci index a k0 n : Nat} {v : Int32} (hin : ∀ w ∈ u_ws Cn T N, w ∈ Ts) (ty0 : Nat → FieldType) (hty : ∀ k, k < N → parseFieldDescriptor (T k).2.2.1 = some (ty0 k)) (hnm : ∀ a, a < N → ∀ b, b < N → a ≠ b → (T a).2.1 ≠ (T b).2.1) (hc : vwCl[ci]? = some (Cn, T, N)) (hci : ci < 100) (ha : kM M a = (ci, n)) (hk : k0 < N) (hsame : (T k0).1 = ref) (hlink : Cond.fieldLink own index ref (T k0).2.1 (T k0).2.2.1 ∈ Ts) (hfin : (T k0).2.2.2 = false) (hd : parseFieldDescriptor (T k0).2.2.1 = some .boolean) (hv : v = 0 ∨ v = 1) (hft : (ftX ci)[k0]? = some 0) (d : decode cc pc = .ok (.putfield index, 3)) (k : QW p l e R s m args below meth c Q nL D cA lo (cells) (slots) (wI M a k0 v) (pc + 3) lv (st)) : QW p l e R s m args below meth c Q nL D cA lo (cells) (slots) (M) (pc) lv (.int v :: .ref a :: st) :=
  q_putI C hin ty0 hty hnm hc hci ha hk hsame hlink hfin hd (by rcases hv with rfl | rfl <;> rfl) (by rcases hv with rfl | rfl <;> rfl) hft d k
theorem q_newG (C : Cx p s m args c cc nL own Ts D cA lo) {n : Int32} {N index : Nat} (hcl : Cond.classLink own index (FieldType.array .int).toString ∈ Ts) (hn : ¬ n < 0) (hN : n.toNatClampNeg = N) (hb : N * 4 ≤ 536870912) (hf : cells + 1 ≤ R.cells ∧ slots + N ≤ R.slots) (d : decode cc pc = .ok (.anewarray index, 3)) (k : ∀ q : Nat, frs M q → lo ≤ q → QW p l e R s m args below meth c Q nL D cA lo (cells + 1) (slots + N) (wN M q 121 N) (pc + 3) lv (.ref q :: st)) : QW p l e R s m args below meth c Q nL D cA lo (cells) (slots) (M) (pc) lv (.int n :: st) := fun H locs ls w h g => by
  subst hN
  have hlo : lo ≤ H.size := Nat.le_trans C.2.2.2.2.2.2.1 h.1
  refine W.anewA (t := .int) C.1 C.2.1 C.2.2.2.1 (C.2.2.2.2.1 _ hcl) (C.2.2.2.2.2.2.2.2.2.2.2.2.2.2.2.2.1.use) rfl d rfl hn hb hf.1 hf.2 fun cN kA comp h1 h2 h3 h4 => ?_
  have h5 := (C.2.2.2.2.2.1.2 4 _ rfl).2
  have hcA : cN = cA 121 := Option.some.inj (h1.symm.trans h5)
  subst hcA
  have o1 : ∀ q : Nat, q < H.size → (H.push { cls := cA 121, slots := Array.replicate n.toNatClampNeg .null, vm := .none })[q]? = H[q]? := fun q hq => by rw [Array.getElem?_push, if_neg (Nat.ne_of_lt hq)]
  refine k H.size (w.frs (Nat.le_refl _)) hlo _ locs ls (w.new rfl hlo o1 ?_) ⟨Nat.le_trans h.1 (by simp), fun x h1 h2 => (o1 x (Nat.lt_of_lt_of_le h1 h.1)).trans (h.2.1 x h1 h2), h.2.2⟩ g
  rw [cE_r (k := 121) (n := n.toNatClampNeg) (by rw [kM_wN, if_pos rfl]) (by omega)]
  show (H.push _)[H.size]? = some (vp_cell _ _)
  rw [vp_cell_q, arrV_new]
  simp only [rM_wN, if_true]
  simp [va_rf]
theorem assignable_selfX (vm : Vm) (c : ClassId) : vm.assignable c c = true := by
  show vm.assignableAux (255 + 1) c c = true
  rw [Vm.assignableAux]
  simp only [beq_self_eq_true, Bool.true_or]
theorem q_rastG (C : Cx p s m args c cc nL own Ts D cA lo) {a v n n2 : Nat} {i : Int32} (ha : kM M a = (121, n)) (hin : vp_in i n) (hv : kM M v = (100, n2)) (d : decode cc pc = .ok (.aastore, 1)) (k : QW p l e R s m args below meth c Q nL D cA lo (cells) (slots) (wR M a i.toNatClampNeg (some v)) (pc + 1) lv (st)) : QW p l e R s m args below meth c Q nL D cA lo (cells) (slots) (M) (pc) lv (.ref v :: .int i :: .ref a :: st) := fun H locs ls w h g => by
  have hne : (kM M a).1 ≠ 255 := by rw [ha]; show ¬ 121 = 255; omega
  have hb := (w a hne).2
  rw [cE_r ha (by omega)] at hb
  have hbv := (w v (by rw [hv]; show ¬ 100 = 255; omega)).2
  rw [cE_i hv (by omega) (by omega)] at hbv
  have hlt : i.toNatClampNeg < n := Nat.not_le.mp fun q => hin (Or.inr q)
  have h0 : ¬ i < 0 := fun q => hin (Or.inl q)
  obtain ⟨comp, c1, kA, f1, -, f3, f4, f5⟩ := arrayOverA_spec (show (Cond.arrayOver (.array .int)).before args s = true from C.2.2.2.2.2.2.2.2.2.2.2.2.2.2.2.2.1.use)
  have ec : c1 = cA 121 := Option.some.inj (f5.symm.trans (C.2.2.2.2.2.1.2 4 _ rfl).2)
  have ek : comp = cA 100 := Option.some.inj (f1.symm.trans (C.2.2.2.2.2.1.2 0 _ rfl).2)
  subst ec
  subst ek
  obtain ⟨-, k0, hk0, cm0, hkk0⟩ := (C.2.2.2.2.2.1.2 0 _ rfl).1 n2 (fun j => .int (iM M v j))
  refine W.aast (t := .array .int) C.1 C.2.1 hb (fun q h => by cases h) (fun h => by cases h) f3 f4 rfl hk0 ⟨h0, by show _ < (arrV _ _ _).slots.size; rw [arrV_size]; exact hlt⟩ hbv (fun q h => by cases h) hk0 (assignable_selfX _ _) rfl rfl d fun H1 e z oq => ?_
  refine k H1 _ ls (w.up (fun _ => rfl) q_othR oq (fun _ => ?_)) (h.put z oq (w a hne).1) g
  rw [cE_r (M := wR M a i.toNatClampNeg (some v)) ha (by omega)]
  show H1[a]? = some (vp_cell _ _)
  rw [e, vp_cell_q, vp_cell_q, arrV_store]
  congr 2
  funext q
  by_cases hq : q = i.toNatClampNeg
  · subst hq
    simp [updV, rM_wR, va_rf]
  · simp [updV, rM_wR, hq]
/-- ints copied from one row into another -/
def wC (M : Mm) (a b i j n : Nat) : Mm := (M.1, fun x => if x = b then va_cpy (M.2.1 a) (M.2.1 b) i j n else M.2.1 x, M.2.2.1, M.2.2.2)
theorem kM_wC (M : Mm) (a b i j n x : Nat) : kM (wC M a b i j n) x = kM M x := rfl
theorem rM_wC (M : Mm) (a b i j n x k : Nat) : rM (wC M a b i j n) x k = rM M x k := rfl
theorem lM_wC (M : Mm) (a b i j n x k : Nat) : lM (wC M a b i j n) x k = lM M x k := rfl
theorem iM_wC (M : Mm) (a b i j n x : Nat) : iM (wC M a b i j n) x = if x = b then va_cpy (iM M a) (iM M b) i j n else iM M x := by
  unfold iM wC
  by_cases e : x = b
  · subst e; simp
  · simp [e]
theorem q_acopy (C : Cx p s m args c cc nL own Ts D cA lo) {index sa da n0 n1 : Nat} {sp dp n : Int32} (hlink : Cond.methodLink own index arraycopyName ∈ Ts) (hnat : Cond.native arraycopyName ∈ Ts) (hstat : Cond.static arraycopyName ∈ Ts) (hini : Cond.initialized "java/lang/System" ∈ Ts) (h0 : kM M sa = (100, n0)) (h1 : kM M da = (100, n1)) (s1 : ¬ sp < 0) (s2 : ¬ dp < 0) (s3 : ¬ n < 0) (l1 : sp.toNatClampNeg + n.toNatClampNeg ≤ n0) (l2 : dp.toNatClampNeg + n.toNatClampNeg ≤ n1)
    (hR : 1 ≤ R.frames ∧ (st.map fun v => v.category).sum + (nativeFrameWords "java/lang/System" "arraycopy" 5 + 11) ≤ R.locals) (d : decode cc pc = .ok (.invokestatic index, 3)) (k : QW p l e R s m args below meth c Q nL D cA lo (cells) (slots) (wC M sa da sp.toNatClampNeg dp.toNatClampNeg n.toNatClampNeg) (pc + 3) lv st) : QW p l e R s m args below meth c Q nL D cA lo (cells) (slots) (M) (pc) lv (.int n :: .int dp :: .ref da :: .int sp :: .ref sa :: st) := fun H locs ls w h g => by
  have nn : ∀ z : Int32, ¬ z < 0 → z.toInt = (z.toNatClampNeg : Int) := by
    intro z hz
    have hz0 : (0 : Int) ≤ z.toInt := by
      have := Int32.not_lt.mp hz
      simpa using Int32.le_iff_toInt_le.mp this
    show z.toInt = ((z.toInt.toNat : Nat) : Int)
    omega
  have hc0 := (w sa (by rw [h0]; show ¬ 100 = 255; omega)).2
  rw [cE_i h0 (by omega) (by omega)] at hc0
  have hda := w da (by rw [h1]; show ¬ 100 = 255; omega)
  have hc1 := hda.2
  rw [cE_i h1 (by omega) (by omega)] at hc1
  have hc0 : H[sa]? = some (vp_cell (cA 100) (n0, .inl (iM M sa))) := hc0
  have hc1 : H[da]? = some (vp_cell (cA 100) (n1, .inl (iM M da))) := hc1
  obtain ⟨-, k0, hk0, cm0, hkk0⟩ := (C.2.2.2.2.2.1.2 0 _ rfl).1 n0 (fun j => .int (iM M sa j))
  obtain ⟨-, k1, hk1, cm1, hkk1⟩ := (C.2.2.2.2.2.1.2 0 _ rfl).1 n1 (fun j => .int (iM M da j))
  intro T hT X
  obtain ⟨vm', X', step⟩ := X.arraycopy C.1 C.2.2.2.1 (C.2.2.2.2.1 _ hlink) (C.2.2.2.2.1 _ hnat) (C.2.2.2.2.1 _ hstat) (C.2.2.2.2.1 _ hini) (src := sa) (dst := da) (cs := vp_cell (cA 100) (n0, .inl (iM M sa))) (cd := vp_cell (cA 100) (n1, .inl (iM M da))) (srcPos := sp) (destPos := dp) (n := n) (by rw [hT]; exact hc0) (by rw [hT]; exact hc1)
    (fun _ h => by cases h) (fun _ h => by cases h) (fun h => by cases h) (fun h => by cases h) hk0 hk1 hkk0 hkk1 (by rfl) s1 s2 s3
    (by rw [nn sp s1, nn n s3]; show ¬ _ > ((arrV (cA 100) n0 (fun j => .int (iM M sa j))).slots.size : Int); rw [arrV_size]; omega)
    (by rw [nn dp s2, nn n s3]; show ¬ _ > ((arrV (cA 100) n1 (fun j => .int (iM M da j))).slots.size : Int); rw [arrV_size]; omega)
    (fun vm₁ _ i hi => by
      have e : (vp_cell (cA 100) (n0, .inl (iM M sa))).slots.getD (sp.toNatClampNeg + i) .null = .int (iM M sa (sp.toNatClampNeg + i)) := by
        show (arrV (cA 100) n0 (fun j => .int (iM M sa j))).slots.getD _ _ = _
        rw [Array.getD_eq_getD_getElem?, arrV_read _ _ (by omega)]
        rfl
      refine ⟨?_, ?_⟩
      · rw [e]
        rfl
      · rw [e]
        exact trivial)
    (g := F0 m pc ls (.int n :: .int dp :: .ref da :: .int sp :: .ref sa :: st)) rfl (by show ls.size = c.maxLocals; rw [C.2.2.1]; exact g.1) (rest := st) rfl (by rw [C.2.1]; exact d) hR.1 (by show 2 * 0 + _ + _ ≤ _; have := hR.2; omega)
  have e1 : copied (vp_cell (cA 100) (n0, .inl (iM M sa))) (vp_cell (cA 100) (n1, .inl (iM M da))) sp dp n = vp_cell (cA 100) (n1, .inl (va_cpy (iM M sa) (iM M da) sp.toNatClampNeg dp.toNatClampNeg n.toNatClampNeg)) := va_copied (fun z => .int z) (cA 100) (cA 100) (iM M sa) (iM M da) l1
  rw [e1] at X' step
  have hl : da < H.size := (Array.getElem?_eq_some_iff.mp hc1).1
  have hheap : ((T.setVm vm').setCell da (vp_cell (cA 100) (n1, .inl (va_cpy (iM M sa) (iM M da) sp.toNatClampNeg dp.toNatClampNeg n.toNatClampNeg)))).heap = H.setIfInBounds da (vp_cell (cA 100) (n1, .inl (va_cpy (iM M sa) (iM M da) sp.toNatClampNeg dp.toNatClampNeg n.toNatClampNeg))) := by rw [← hT]; rfl
  have oq : ∀ q : Nat, q ≠ da → (H.setIfInBounds da (vp_cell (cA 100) (n1, .inl (va_cpy (iM M sa) (iM M da) sp.toNatClampNeg dp.toNatClampNeg n.toNatClampNeg))))[q]? = H[q]? := fun q hq => by simp [Array.getElem?_setIfInBounds, Ne.symm hq]
  have hw : Wd D cA lo (wC M sa da sp.toNatClampNeg dp.toNatClampNeg n.toNatClampNeg) (H.setIfInBounds da (vp_cell (cA 100) (n1, .inl (va_cpy (iM M sa) (iM M da) sp.toNatClampNeg dp.toNatClampNeg n.toNatClampNeg)))) := by
    refine w.up (a := da) (fun _ => rfl) (fun b hb => ⟨fun j => by rw [iM_wC, if_neg hb], fun _ => rfl, fun _ => rfl⟩) oq (fun _ => ?_)
    rw [cE_i (M := wC M sa da sp.toNatClampNeg dp.toNatClampNeg n.toNatClampNeg) h1 (by omega) (by omega), iM_wC, if_pos rfl]
    show (H.setIfInBounds da _)[da]? = some _
    simp [Array.getElem?_setIfInBounds, hl]
  obtain ⟨t, a1, b1⟩ := k _ _ ls hw ⟨by simp; exact h.1, fun q g1 g2 => by
      rw [oq q (fun e => g2 (by rw [e]; exact hda.1))]
      exact h.2.1 q g1 g2, fun q hq => by
      rcases List.mem_append.mp hq with h' | h'
      · exact h.2.2 q h'
      · obtain ⟨z, -, hz⟩ := List.mem_map.mp h'
        rw [← hz]
        exact hda.1⟩ g _ hheap X'
  exact ⟨t, step t a1, b1⟩
theorem q_dcmp (C : Cx p s m args c cc nL own Ts D cA lo) {x y : UInt64} {op : CmpOp} (d : decode cc pc = .ok (.dcmp op, 1)) (k : QW p l e R s m args below meth c Q nL D cA lo (cells) (slots) (M) (pc + 1) lv (.int (Op.cmpValue (FP.dcmp x y) op) :: st)) : QW p l e R s m args below meth c Q nL D cA lo (cells) (slots) (M) (pc) lv (.double y :: .double x :: st) := fun H locs ls w h g => lv_dcmp C.1 C.2.1 d (k H locs ls w h g)
theorem q_sld {b L : Nat} {xs : Nat → Int32} (hX : va_X b L xs s s.heap) (hbl : b < s.heap.size ∧ lo = s.heap.size) (C : Cx p s m args c cc nL own Ts D cA lo) {i : Int32} (hin : vp_in i L) (d : decode cc pc = .ok (.iaload, 1)) (k : QW p l e R s m args below meth c Q nL D cA lo (cells) (slots) (M) (pc + 1) lv (.int (xs i.toNatClampNeg) :: st)) : QW p l e R s m args below meth c Q nL D cA lo (cells) (slots) (M) (pc) lv (.int i :: .ref b :: st) := fun H locs ls w h g => va_sld C.1 C.2.1 hX hbl.1 (by show ¬ lo ≤ b; omega) h hin d (k H locs ls w h g)
theorem q_slen {b L : Nat} {xs : Nat → Int32} (hX : va_X b L xs s s.heap) (hbl : b < s.heap.size ∧ lo = s.heap.size) (C : Cx p s m args c cc nL own Ts D cA lo) (d : decode cc pc = .ok (.arraylength, 1)) (k : QW p l e R s m args below meth c Q nL D cA lo (cells) (slots) (M) (pc + 1) lv (.int (nI L) :: st)) : QW p l e R s m args below meth c Q nL D cA lo (cells) (slots) (M) (pc) lv (.ref b :: st) := fun H locs ls w h g => va_slen C.1 C.2.1 hX hbl.1 (by show ¬ lo ≤ b; omega) h d (k H locs ls w h g)
end QD2
