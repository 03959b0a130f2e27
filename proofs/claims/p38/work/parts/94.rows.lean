section
variable {p : Program} {l : Launch} {e : Env} {R : Room} {s : State} {m : MethodId} {args : Array Value} {below : List Frame} {meth : Method} {c : Code} {Q : State → Prop} {nL : Nat} {D : va_G} {cA : Nat → ClassId} {lo : Nat} {cells slots : Nat} {M : Mm} {pc : Nat} {lv lv' : List (Nat × Value)} {st : List Value} {cc : ByteArray} {own : String} {Ts : List Cond}
theorem q_ldc (C : Cx p s m args c cc nL own Ts D cA lo) {index : Nat} {v : Int32} (hm : Cond.constant own index v ∈ Ts) (d : decode cc pc = .ok (.ldc index, 2)) (k : QW p l e R s m args below meth c Q nL D cA lo (cells) (slots) (M) (pc + 2) lv (.int v :: st)) : QW p l e R s m args below meth c Q nL D cA lo (cells) (slots) (M) (pc) lv (st) := fun H locs ls w h g => lv_ldc C.1 C.2.1 C.2.2.2.1 (C.2.2.2.2.1 _ hm) d (k H locs ls w h g)
theorem q_mmin (C : Cx p s m args c cc nL own Ts D cA lo) {index : Nat} {x y : Int32} (h1 : Cond.methodLink own index Lib.Math.min.name ∈ Ts) (h2 : Cond.static Lib.Math.min.name ∈ Ts) (h3 : Cond.initialized "java/lang/Math" ∈ Ts) (h4 : Cond.code Lib.Math.min.name Lib.Math.min.code 2 (some .int) ∈ Ts) (hR : 1 ≤ R.frames ∧ (st.map fun v => v.category).sum + 13 ≤ R.locals) (hcz : cells ≤ R.cells ∧ slots ≤ R.slots) (d : decode cc pc = .ok (.invokestatic index, 3)) (k : QW p l e R s m args below meth c Q nL D cA lo (cells) (slots) (M) (pc + 3) lv (.int (if y < x then y else x) :: st)) : QW p l e R s m args below meth c Q nL D cA lo (cells) (slots) (M) (pc) lv (.int y :: .int x :: st) := fun H locs ls w h g => va_mmin C.1 C.2.1 (C.2.2.1.trans g.1.symm) C.2.2.2.1 (C.2.2.2.2.1 _ h1) (C.2.2.2.2.1 _ h2) (C.2.2.2.2.1 _ h3) (C.2.2.2.2.1 _ h4) hR.1 hR.2 hcz.1 hcz.2 d (k H locs ls w h g)
theorem q_dcmp (C : Cx p s m args c cc nL own Ts D cA lo) {x y : UInt64} {op : CmpOp} (d : decode cc pc = .ok (.dcmp op, 1)) (k : QW p l e R s m args below meth c Q nL D cA lo (cells) (slots) (M) (pc + 1) lv (.int (Op.cmpValue (FP.dcmp x y) op) :: st)) : QW p l e R s m args below meth c Q nL D cA lo (cells) (slots) (M) (pc) lv (.double y :: .double x :: st) := fun H locs ls w h g => lv_dcmp C.1 C.2.1 d (k H locs ls w h g)
theorem q_sld3 {b L : Nat} {xs : Nat → Int32} (hX : va_X b L xs s s.heap) (hbl : b < lo) (C : Cx p s m args c cc nL own Ts D cA lo) {i : Int32} (hin : vp_in i L) (d : decode cc pc = .ok (.iaload, 1)) (k : QW p l e R s m args below meth c Q nL D cA lo (cells) (slots) (M) (pc + 1) lv (.int (xs i.toNatClampNeg) :: st)) : QW p l e R s m args below meth c Q nL D cA lo (cells) (slots) (M) (pc) lv (.int i :: .ref b :: st) := fun H locs ls w h g => va_sld C.1 C.2.1 hX (Nat.lt_of_lt_of_le hbl C.2.2.2.2.2.2.1) (by show ¬ lo ≤ b; omega) h hin d (k H locs ls w h g)
theorem q_slen3 {b L : Nat} {xs : Nat → Int32} (hX : va_X b L xs s s.heap) (hbl : b < lo) (C : Cx p s m args c cc nL own Ts D cA lo) (d : decode cc pc = .ok (.arraylength, 1)) (k : QW p l e R s m args below meth c Q nL D cA lo (cells) (slots) (M) (pc + 1) lv (.int (nI L) :: st)) : QW p l e R s m args below meth c Q nL D cA lo (cells) (slots) (M) (pc) lv (.ref b :: st) := fun H locs ls w h g => va_slen C.1 C.2.1 hX (Nat.lt_of_lt_of_le hbl C.2.2.2.2.2.2.1) (by show ¬ lo ≤ b; omega) h d (k H locs ls w h g)
theorem q_metX {l : Launch} {y : MethodName} {ws : List Cond} {rm : Room} {Pc : Array Value → State → Prop} {Qc : Array Value → State → Outcome → State → Prop} {D : va_G} {cA : Nat → ClassId} {lo mc ms : Nat} {free : Addr → Prop} (h : vx_Met l y ws rm Pc Qc (XcM D cA lo (fun _ _ => False)) mc ms free) : Met l y ws rm Pc Qc mc ms free := by
  intro p e ha hc hk s m args below hf happ hP hK
  obtain ⟨n, o, h1, h2, h3, h4⟩ := h p e ha hc hk s m args below hf happ hP hK
  rcases h4 with h4 | ⟨q, -, E, ce, L, hx, -⟩
  · exact ⟨n, o, h1, h2, h3, h4⟩
  · obtain ⟨u, -, hB, -⟩ := hx
    exact hB.1.elim
/-- a static call of a method with an exception table that lets nothing out -/
theorem q_runSW (C : Cx p s m args c cc nL own Ts D cA lo) {y : MethodName} {bytes : ByteArray} {maxL mc ms n index : Nat} {ret : Option FieldType} {hh : List (Nat × Nat × Nat × Nat)} {ws : List Cond} {rm : Room} {Qc : Array Value → State → Outcome → State → Prop} {As st0 : List Value} (hM : vx_Met l y ws rm (PcM D cA lo As M) Qc (XcM D cA lo (fun _ _ => False)) mc ms (fun q => lo ≤ q)) (cw : vx_CSW R s args own index y bytes maxL ret hh ws rm mc ms n) (hn : As.length = n) (hs : st0 = As.reverse ++ st) (hr : (st.map fun v => v.category).sum ≤ 8) (d : decode cc pc = .ok (.invokestatic index, 3)) (hf : cells + mc ≤ R.cells ∧ slots + ms ≤ R.slots) : QRun p l e R s m args below meth c nL D cA lo cells slots M pc lv st0 st mc ms Qc := ⟨_, fun H locs ls w h g => vx_runSW ⟨C.1, C.2.1, C.2.2.1, C.2.2.2.1, C.2.2.2.2.1⟩ (q_metX hM) cw ⟨PcM_blind, PcM_at C w h _⟩ rfl hn g.1 hs (lv_room hr) d hf⟩
theorem q_xw {st0 : List Value} {mc ms : Nat} {PQ : Int32 → Mm → Prop} (hr : QRun p l e R s m args below meth c nL D cA lo cells slots M pc lv st0 st mc ms (QiM D cA lo PQ)) (_ : ∀ (_ : String) (_ : Mm), False → True) (k : ∀ (r : Int32) (M1 : Mm), PQ r M1 → QW p l e R s m args below meth c Q nL D cA lo (cells + mc) (slots + ms) (M1) (pc + 3) lv (.int r :: st)) : QW p l e R s m args below meth c Q nL D cA lo (cells) (slots) (M) (pc) lv (st0) := q_ci hr k
end
/-- the law's reading of the script, as a contract: the script lies below all that is walked -/
theorem c_L_cell (l : Launch) (D : va_G) (cA : Nat → ClassId) (lo : Nat) {M : Mm} {b L : Nat} {xs : Nat → Int32} {k : Int32} (hk : ¬ k < 0) (hL : L < 2 ^ 31) : Met l yL_cell wsL_cell ({ frames := 0, cells := 0, slots := 0, locals := 0 } : Room) (fun a U => PcM D cA lo [.ref b, .int k] M a U ∧ va_X b L xs U U.heap ∧ b < lo) (QiM D cA lo (fun r M1 => M1 = M ∧ r = celV xs L k)) 0 0 (fun q => lo ≤ q) := by
  refine Met.ofW (cc := cL_cell) (maxL := 2) (ret := some .int) (by decide) rfl ?_
  intro p e s m args below meth c s₁ B hml hv
  obtain ⟨⟨rfl, hK, hlo, hN, hLo, hW⟩, hX, hb⟩ := hv
  have hl := lv_entry [.ref b, .int k] (n := 2) (Nat.le_of_ble_eq_true rfl)
  rw [lg_entry_eq]
  have C : Cx p s m [Value.ref b, .int k].toArray c cL_cell 2 RL wsL_cell D cA lo := ⟨B.exec, B.bytes, hml, findClass_of_methodNamed B.named, atoms_spec (ws := wsL_cell) B.pre, hK, hlo, hN, hLo⟩
  obtain ⟨j, hj, ek⟩ := nI_of hk
  have hr := B.returns
  have hlk := B.notSynchronized
  have body : QW p l e ({ frames := 0, cells := 0, slots := 0, locals := 0 } : Room) s m [Value.ref b, .int k].toArray below meth c (MQ below (QiM D cA lo (fun r M1 => M1 = M ∧ r = celV xs L k)) [Value.ref b, .int k].toArray s 0 0 (fun q => lo ≤ q)) 2 D cA lo 0 0 M 0 [(0, .ref b), (1, .int k)] [] := by
    refine q_iload_n C dL_cell_0 rfl (j := 1) rfl ?_
    refine q_aload_n C dL_cell_1 rfl (j := 0) rfl ?_
    refine q_slen3 hX hb C dL_cell_2 ?_
    refine q_icmp_ge (tgt := 12) C dL_cell_3 (by decide) (fun z => ?_) (fun z => ?_)
    · refine q_ldc (v := 790386105) C (by decide +kernel) dL_cell_12 ?_
      refine q_iload_n C dL_cell_14 rfl (j := 1) rfl ?_
      refine q_iconst (v := 3) C dL_cell_15 (by decide) ?_
      refine q_iadd C dL_cell_16 ?_
      refine q_imul C dL_cell_17 ?_
      refine q_iret C hr hlk dL_cell_18 (Nat.le_refl _) (Nat.le_refl _) ⟨rfl, ?_⟩
      unfold celV
      rw [if_neg (Int32.not_lt.mpr z)]
    · refine q_aload_n C dL_cell_6 rfl (j := 0) rfl ?_
      refine q_iload_n C dL_cell_7 rfl (j := 1) rfl ?_
      have hlt : k < nI L := Int32.not_le.mp z
      have hjL : j < L := (nI_ltI hj hL).mp (by rw [← ek]; exact hlt)
      refine q_sld3 hX hb C (by rw [ek]; exact vp_in_nI hjL hL) dL_cell_8 ?_
      refine q_goto (tgt := 18) C dL_cell_9 (by decide) ?_
      refine q_iret C hr hlk dL_cell_18 (Nat.le_refl _) (Nat.le_refl _) ⟨rfl, ?_⟩
      unfold celV
      rw [if_pos hlt]
  exact body s.heap [] _ hW va_S.rf hl
section
variable {p : Program} {l : Launch} {e : Env} {s : State} {m : MethodId} {args : Array Value} {below : List Frame} {meth : Method} {c : Code} {Q : State → Prop} {nL : Nat} {D : va_G} {cA : Nat → ClassId} {lo : Nat} {cells slots : Nat} {M : Mm} {pc : Nat} {lv : List (Nat × Value)} {st : List Value}
theorem q_cell {scr L : Nat} {xs : Nat → Int32} {k : Int32} (hX : va_X scr L xs s s.heap ∧ L < 2 ^ 31) (hbl : scr < s.heap.size ∧ lo = s.heap.size) (C : Cx p s m args c cL_law nL RL wsL_law D cA lo) (hk : ¬ k < 0) (d : decode cL_law pc = .ok (.invokestatic 12, 3)) (kk : QW p l e room_1 s m args below meth c Q nL D cA lo cells slots M (pc + 3) lv (.int (celV xs L k) :: st)) (hr : (st.map fun v => v.category).sum ≤ 8 := by exact Nat.le_of_ble_eq_true rfl) (hf : cells ≤ room_1.cells ∧ slots ≤ room_1.slots := by assumption) : QW p l e room_1 s m args below meth c Q nL D cA lo cells slots M pc lv (.int k :: .ref scr :: st) := by
  have hM := c_L_cell l D cA lo (M := M) (b := scr) (L := L) (xs := xs) hk hX.2
  have run : QRun p l e room_1 s m args below meth c nL D cA lo cells slots M pc lv (.int k :: .ref scr :: st) st 0 0 (QiM D cA lo (fun r M1 => M1 = M ∧ r = celV xs L k)) := by
    refine ⟨_, fun H locs ls w h g => va_runS ⟨C.1, C.2.1, C.2.2.1, C.2.2.2.1, C.2.2.2.2.1⟩ hM (va_cwS 2 C.2.2.2.2.1 gL_law_L_cell rfl rfl rfl (by decide +kernel) ⟨Nat.le_of_ble_eq_true rfl, Nat.le_of_ble_eq_true rfl⟩) ⟨fun a U f mk z => ⟨PcM_blind a U f mk z.1, va_X.moved (u := U) (U := U.calling f mk a) (Vm.Alike.refl U.vm) z.2.1, z.2.2⟩, fun U hU hW => ⟨PcM_at C w h _ U hU hW, ?_, by omega⟩⟩ rfl rfl g.1 rfl (lv_room hr) d hf⟩
    rw [hU]
    exact va_X.moved hW.alike (hX.1.kept (h.2.1 scr hbl.1 (by show ¬ lo ≤ scr; omega)))
  refine q_ci run (fun r M1 z => ?_)
  obtain ⟨rfl, rfl⟩ := z
  exact kk
end
