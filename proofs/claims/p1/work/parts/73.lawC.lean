section
theorem q_metX {l : Launch} {y : MethodName} {ws : List Cond} {rm : Room} {Pc : Array Value → State → Prop} {Qc : Array Value → State → Outcome → State → Prop} {D : va_G} {cA : Nat → ClassId} {lo mc ms : Nat} {free : Addr → Prop} (h : vx_Met l y ws rm Pc Qc (XcM D cA lo (fun _ _ => False)) mc ms free) : Met l y ws rm Pc Qc mc ms free := by
  intro p e ha hc hk s m args below hf happ hP hK
  obtain ⟨n, o, h1, h2, h3, h4⟩ := h p e ha hc hk s m args below hf happ hP hK
  rcases h4 with h4 | ⟨q, -, E, ce, L, hx, -⟩
  · exact ⟨n, o, h1, h2, h3, h4⟩
  · obtain ⟨u, -, hB, -⟩ := hx
    exact hB.1.elim
section
variable {p : Program} {l : Launch} {e : Env} {R : Room} {s : State} {m : MethodId} {args : Array Value} {below : List Frame} {meth : Method} {c : Code} {Q : State → Prop} {nL : Nat} {D : va_G} {cA : Nat → ClassId} {lo : Nat} {cells slots : Nat} {M : Mm} {pc : Nat} {lv lv' : List (Nat × Value)} {st : List Value} {cc : ByteArray} {own : String} {Ts : List Cond}
/-- a static call of a method with an exception table that lets nothing out -/
theorem q_runSW (C : Cx p s m args c cc nL own Ts D cA lo) {y : MethodName} {bytes : ByteArray} {maxL mc ms n index : Nat} {ret : Option FieldType} {hh : List (Nat × Nat × Nat × Nat)} {ws : List Cond} {rm : Room} {Qc : Array Value → State → Outcome → State → Prop} {As st0 : List Value} (hM : vx_Met l y ws rm (PcM D cA lo As M) Qc (XcM D cA lo (fun _ _ => False)) mc ms (fun q => lo ≤ q)) (cw : vx_CSW R s args own index y bytes maxL ret hh ws rm mc ms n) (hn : As.length = n) (hs : st0 = As.reverse ++ st) (hr : (st.map fun v => v.category).sum ≤ 8) (d : decode cc pc = .ok (.invokestatic index, 3)) (hf : cells + mc ≤ R.cells ∧ slots + ms ≤ R.slots) : QRun p l e R s m args below meth c nL D cA lo cells slots M pc lv st0 st mc ms Qc := ⟨_, fun H locs ls w h g => vx_runSW ⟨C.1, C.2.1, C.2.2.1, C.2.2.2.1, C.2.2.2.2.1⟩ (q_metX hM) cw ⟨PcM_blind, PcM_at C w h _⟩ rfl hn g.1 hs (lv_room hr) d hf⟩
theorem q_xw {st0 : List Value} {mc ms : Nat} {PQ : Int32 → Mm → Prop} (hr : QRun p l e R s m args below meth c nL D cA lo cells slots M pc lv st0 st mc ms (QiM D cA lo PQ)) (_ : ∀ (_ : String) (_ : Mm), False → True) (k : ∀ (r : Int32) (M1 : Mm), PQ r M1 → QW p l e R s m args below meth c Q nL D cA lo (cells + mc) (slots + ms) (M1) (pc + 3) lv (.int r :: st)) : QW p l e R s m args below meth c Q nL D cA lo (cells) (slots) (M) (pc) lv (st0) := q_ci hr k
theorem q_dload (C : Cx p s m args c cc nL own Ts D cA lo) {i j : Nat} {x : UInt64} (d : decode cc pc = .ok (.dload i, 2)) (hl : lv[j]? = some (i, .double x)) (k : QW p l e R s m args below meth c Q nL D cA lo (cells) (slots) (M) (pc + 2) lv (.double x :: st)) : QW p l e R s m args below meth c Q nL D cA lo (cells) (slots) (M) (pc) lv (st) := fun H locs ls w h g => lv_dload C.1 C.2.1 d (lv_at g j hl) (k H locs ls w h g)
end
end
