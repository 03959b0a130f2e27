section QF
variable {p : Program} {l : Launch} {e : Env} {R : Room} {s : State} {m : MethodId} {args : Array Value} {below : List Frame} {meth : Method} {c : Code} {Q : State → Prop} {nL : Nat} {D : va_G} {cA : Nat → ClassId} {lo : Nat} {cells slots : Nat} {M : Mm} {pc : Nat} {lv lv' : List (Nat × Value)} {st : List Value} {cc : ByteArray} {own : String} {Ts : List Cond}
/-- no thing of the memory stands at q or above -/
def frs (M : Mm) (q : Nat) : Prop := ∀ a : Nat, q ≤ a → (kM M a).1 = 255
theorem Wd.frs {H : Heap} (w : Wd D cA lo M H) {q : Nat} (hq : H.size ≤ q) : frs M q := fun a ha => by
  by_cases h : (kM M a).1 = 255
  · exact h
  · exact absurd (w.lt h) (by omega)
/-- the machine over the frame at pc, an exception of class E thrown there -/
def QX (p : Program) (l : Launch) (e : Env) (R : Room) (s : State) (m : MethodId) (args : Array Value) (below : List Frame) (meth : Method) (c : Code) (Q : State → Prop) (nL : Nat) (D : va_G) (cA : Nat → ClassId) (lo : Nat) (cells slots : Nat) (M : Mm) (pc : Nat) (lv : List (Nat × Value)) (st : List Value) (E : String) : Prop :=
  ∀ (H : Heap) (locs : List Loc) (ls : Array Slot) (q : Nat) (ce : Cell), Wd D cA lo M H → va_S (fun q => lo ≤ q) s.heap H locs → lv_has ls nL lv → H[q]? = some ce → ce.vm = .none → s.vm.findClass E = some ce.cls → vx_W p l e R s m args below meth c H locs cells slots Q (F0 m pc ls st) q
def XcM (D : va_G) (cA : Nat → ClassId) (lo : Nat) (X : String → Mm → Prop) : String → State → State → Prop := vx_X (S := Mm) (fun _ => True) (fun E M1 t => X E M1 ∧ Wd D cA lo M1 t.heap) (fun q => lo ≤ q)
def QXRun (p : Program) (l : Launch) (e : Env) (R : Room) (s : State) (m : MethodId) (args : Array Value) (below : List Frame) (meth : Method) (c : Code) (nL : Nat) (D : va_G) (cA : Nat → ClassId) (lo cells slots : Nat) (M : Mm) (pc : Nat) (lv : List (Nat × Value)) (st0 st : List Value) (mc ms : Nat) (Qc : Array Value → State → Outcome → State → Prop) (X : String → Mm → Prop) : Prop :=
  ∃ a : Array Value, ∀ (H : Heap) (locs : List Loc) (ls : Array Slot), Wd D cA lo M H → va_S (fun q => lo ≤ q) s.heap H locs → lv_has ls nL lv → vx_Run p l e R s m args below meth c H locs cells slots mc ms (F0 m pc ls st0) st (Qc a) (XcM D cA lo X) (fun q => lo ≤ q)
/-- a contract of a method that may throw, out of its walk -/
theorem q_startX {y : MethodName} {ws ws' : List Cond} {rm : Room} {ret : Option FieldType} {avs : List Value} {Qc : Array Value → State → Outcome → State → Prop} {X : String → Mm → Prop} {mc ms : Nat} (hy : plainName y.cls = true) (hw : ws = Cond.code y cc nL ret :: ws') (ho : y.cls = own) (hav : (lg_sl avs).length ≤ nL)
    (body : ∀ (p : Program) (e : Env) (s : State) (m : MethodId) (args : Array Value) (below : List Frame) (meth : Method) (c : Code), Cx p s m args c cc nL own ws D cA lo → meth.sig.returnType = ret → meth.locks = false → meth.name = y.name → (∀ x ∈ c.exceptionTable.toList, ∀ pc, covers x pc = false) →
      QW p l e rm s m args below meth c (vx_MQ below Qc (XcM D cA lo X) args s mc ms (fun q => lo ≤ q)) nL D cA lo 0 0 M 0 (lv_args 0 avs) []) : vx_Met l y ws rm (PcM D cA lo avs M) Qc (XcM D cA lo X) mc ms (fun q => lo ≤ q) := by
  refine vx_ofW (cc := cc) (maxL := nL) (ret := ret) hy hw ?_
  intro p e s m args below meth c s₁ B hml hex hv
  obtain ⟨rfl, hK, hlo, hN, hL, hW⟩ := hv
  have hl := lv_entry avs (n := nL) hav
  rw [lg_entry_eq]
  exact body p e s m _ below meth c ⟨B.exec, B.bytes, hml, by rw [← ho]; exact findClass_of_methodNamed B.named, atoms_spec (ws := ws) B.pre, hK, hlo, hN, hL⟩ B.returns B.notSynchronized (name_of_methodNamed B.named B.method).1 (fun x hx => (hex x hx).elim) s.heap [] _ hW va_S.rf hl
/-- .. with a table of handlers -/
theorem q_startH {y : MethodName} {ws ws' : List Cond} {rm : Room} {ret : Option FieldType} {hh : List (Nat × Nat × Nat × Nat)} {avs : List Value} {Qc : Array Value → State → Outcome → State → Prop} {X : String → Mm → Prop} {mc ms : Nat} (hy : plainName y.cls = true) (hw : ws = Cond.codeWith y cc nL ret hh :: ws') (ho : y.cls = own) (hav : (lg_sl avs).length ≤ nL)
    (body : ∀ (p : Program) (e : Env) (s : State) (m : MethodId) (args : Array Value) (below : List Frame) (meth : Method) (c : Code), Cx p s m args c cc nL own ws D cA lo → meth.sig.returnType = ret → meth.locks = false → c.exceptionTable.toList = tableOf hh →
      QW p l e rm s m args below meth c (vx_MQ below Qc (XcM D cA lo X) args s mc ms (fun q => lo ≤ q)) nL D cA lo 0 0 M 0 (lv_args 0 avs) []) : vx_Met l y ws rm (PcM D cA lo avs M) Qc (XcM D cA lo X) mc ms (fun q => lo ≤ q) := by
  refine vx_ofWH (cc := cc) (maxL := nL) (ret := ret) (hh := hh) hy hw ?_
  intro p e s m args below meth c s₁ B hml hv
  obtain ⟨rfl, hK, hlo, hN, hL, hW⟩ := hv
  have hl := lv_entry avs (n := nL) hav
  rw [lg_entry_eq]
  have hts := atoms_spec (ws := ws) B.pre
  exact body p e s m _ below meth c ⟨B.exec, B.bytes, hml, by rw [← ho]; exact findClass_of_methodNamed B.named, hts, hK, hlo, hN, hL⟩ B.returns B.notSynchronized (vx_table (x := y) B (hts _ (by rw [hw]; exact List.mem_cons_self))) s.heap [] _ hW va_S.rf hl
theorem qx_runV (C : Cx p s m args c cc nL own Ts D cA lo) {y : MethodName} {bytes : ByteArray} {maxL mc ms n index : Nat} {ret : Option FieldType} {ws : List Cond} {rm : Room} {Qc : Array Value → State → Outcome → State → Prop} {X : String → Mm → Prop} {As st0 : List Value} {b ci nb N : Nat} {cls : String} {T : u_T} (hM : vx_Met l y ws rm (PcM D cA lo (.ref b :: As) M) Qc (XcM D cA lo X) mc ms (fun q => lo ≤ q)) (cw : CallW R s args own cls index y bytes maxL ret ws rm mc ms n) (hb : kM M b = (ci, nb)) (hci : ci < 100) (hc : vwCl[ci]? = some (cls, T, N)) (hn : As.length = n) (hs : st0 = As.reverse ++ .ref b :: st) (hr : (st.map fun v => v.category).sum ≤ 8) (d : decode cc pc = .ok (.invokevirtual index, 3)) (hf : cells + mc ≤ R.cells ∧ slots + ms ≤ R.slots) : QXRun p l e R s m args below meth c nL D cA lo cells slots M pc lv st0 st mc ms Qc X := ⟨_, fun H locs ls w h g => vx_runV ⟨C.1, C.2.1, C.2.2.1, C.2.2.2.1, C.2.2.2.2.1⟩ hM cw ⟨PcM_blind, q_recv C w hb hci hc, PcM_at C w h _⟩ rfl hn g.1 hs (lv_room hr) d hf⟩
theorem qx_runS (C : Cx p s m args c cc nL own Ts D cA lo) {y : MethodName} {bytes : ByteArray} {maxL mc ms n index : Nat} {ret : Option FieldType} {ws : List Cond} {rm : Room} {Qc : Array Value → State → Outcome → State → Prop} {X : String → Mm → Prop} {As st0 : List Value} (hM : vx_Met l y ws rm (PcM D cA lo As M) Qc (XcM D cA lo X) mc ms (fun q => lo ≤ q)) (cw : CallB R s args own index y bytes maxL ret ws rm mc ms n ∧ (Cond.static y).before args s = true) (hn : As.length = n) (hs : st0 = As.reverse ++ st) (hr : (st.map fun v => v.category).sum ≤ 8) (d : decode cc pc = .ok (.invokestatic index, 3)) (hf : cells + mc ≤ R.cells ∧ slots + ms ≤ R.slots) : QXRun p l e R s m args below meth c nL D cA lo cells slots M pc lv st0 st mc ms Qc X := ⟨_, fun H locs ls w h g => vx_runS ⟨C.1, C.2.1, C.2.2.1, C.2.2.2.1, C.2.2.2.2.1⟩ hM cw ⟨PcM_blind, PcM_at C w h _⟩ rfl hn g.1 hs (lv_room hr) d hf⟩
theorem q_xi {st0 : List Value} {mc ms : Nat} {PQ : Int32 → Mm → Prop} {X : String → Mm → Prop} (hr : QXRun p l e R s m args below meth c nL D cA lo cells slots M pc lv st0 st mc ms (QiM D cA lo PQ) X) (kx : ∀ (E : String) (M1 : Mm), X E M1 → QX p l e R s m args below meth c Q nL D cA lo (cells + mc) (slots + ms) (M1) (pc) lv (st) E) (k : ∀ (r : Int32) (M1 : Mm), PQ r M1 → QW p l e R s m args below meth c Q nL D cA lo (cells + mc) (slots + ms) (M1) (pc + 3) lv (.int r :: st)) : QW p l e R s m args below meth c Q nL D cA lo (cells) (slots) (M) (pc) lv (st0) := fun H locs ls w h g => by
  obtain ⟨a, hr⟩ := hr
  exact vx_calli (hr H locs ls w h g) h (fun q _ z => z) (fun q z => z) (fun q _ z => z) (fun E ce q9 M1 t H1 locs1 ht _ _ hw _ _ hS h7 h8 h9 => kx E M1 hw.1 H1 locs1 ls q9 ce (by rw [← ht]; exact hw.2) hS g h7 h8 h9) (fun r M1 t H1 locs1 ht _ hp hw _ _ hS => k r M1 hp H1 locs1 ls (by rw [← ht]; exact hw) hS g)
theorem q_xl {st0 : List Value} {mc ms : Nat} {PQ : Int64 → Mm → Prop} {X : String → Mm → Prop} (hr : QXRun p l e R s m args below meth c nL D cA lo cells slots M pc lv st0 st mc ms (QlM D cA lo PQ) X) (kx : ∀ (E : String) (M1 : Mm), X E M1 → QX p l e R s m args below meth c Q nL D cA lo (cells + mc) (slots + ms) (M1) (pc) lv (st) E) (k : ∀ (r : Int64) (M1 : Mm), PQ r M1 → QW p l e R s m args below meth c Q nL D cA lo (cells + mc) (slots + ms) (M1) (pc + 3) lv (.long r :: st)) : QW p l e R s m args below meth c Q nL D cA lo (cells) (slots) (M) (pc) lv (st0) := fun H locs ls w h g => by
  obtain ⟨a, hr⟩ := hr
  exact vx_calll (hr H locs ls w h g) h (fun q _ z => z) (fun q z => z) (fun q _ z => z) (fun E ce q9 M1 t H1 locs1 ht _ _ hw _ _ hS h7 h8 h9 => kx E M1 hw.1 H1 locs1 ls q9 ce (by rw [← ht]; exact hw.2) hS g h7 h8 h9) (fun r M1 t H1 locs1 ht _ hp hw _ _ hS => k r M1 hp H1 locs1 ls (by rw [← ht]; exact hw) hS g)
theorem q_xd {st0 : List Value} {mc ms : Nat} {PQ : UInt64 → Mm → Prop} {X : String → Mm → Prop} (hr : QXRun p l e R s m args below meth c nL D cA lo cells slots M pc lv st0 st mc ms (QdM D cA lo PQ) X) (kx : ∀ (E : String) (M1 : Mm), X E M1 → QX p l e R s m args below meth c Q nL D cA lo (cells + mc) (slots + ms) (M1) (pc) lv (st) E) (k : ∀ (r : UInt64) (M1 : Mm), PQ r M1 → QW p l e R s m args below meth c Q nL D cA lo (cells + mc) (slots + ms) (M1) (pc + 3) lv (.double r :: st)) : QW p l e R s m args below meth c Q nL D cA lo (cells) (slots) (M) (pc) lv (st0) := fun H locs ls w h g => by
  obtain ⟨a, hr⟩ := hr
  exact vx_calld (hr H locs ls w h g) h (fun q _ z => z) (fun q z => z) (fun q _ z => z) (fun E ce q9 M1 t H1 locs1 ht _ _ hw _ _ hS h7 h8 h9 => kx E M1 hw.1 H1 locs1 ls q9 ce (by rw [← ht]; exact hw.2) hS g h7 h8 h9) (fun r M1 t H1 locs1 ht _ hp hw _ _ hS => k r M1 hp H1 locs1 ls (by rw [← ht]; exact hw) hS g)
theorem q_xv {st0 : List Value} {mc ms : Nat} {PQ : Mm → Prop} {X : String → Mm → Prop} (hr : QXRun p l e R s m args below meth c nL D cA lo cells slots M pc lv st0 st mc ms (QvM D cA lo PQ) X) (kx : ∀ (E : String) (M1 : Mm), X E M1 → QX p l e R s m args below meth c Q nL D cA lo (cells + mc) (slots + ms) (M1) (pc) lv (st) E) (k : ∀ (M1 : Mm), PQ M1 → QW p l e R s m args below meth c Q nL D cA lo (cells + mc) (slots + ms) (M1) (pc + 3) lv (st)) : QW p l e R s m args below meth c Q nL D cA lo (cells) (slots) (M) (pc) lv (st0) := fun H locs ls w h g => by
  obtain ⟨a, hr⟩ := hr
  exact vx_callv (hr H locs ls w h g) h (fun q _ z => z) (fun q z => z) (fun q _ z => z) (fun E ce q9 M1 t H1 locs1 ht _ _ hw _ _ hS h7 h8 h9 => kx E M1 hw.1 H1 locs1 ls q9 ce (by rw [← ht]; exact hw.2) hS g h7 h8 h9) (fun M1 t H1 locs1 ht _ hp hw _ _ hS => k M1 hp H1 locs1 ls (by rw [← ht]; exact hw) hS g)
theorem q_xret {Qc : Array Value → State → Outcome → State → Prop} {X : String → Mm → Prop} {mc ms : Nat} (k : QW p l e R s m args below meth c (MQ below Qc args s mc ms (fun q => lo ≤ q)) nL D cA lo (cells) (slots) (M) (pc) lv (st)) : QW p l e R s m args below meth c (vx_MQ below Qc (XcM D cA lo X) args s mc ms (fun q => lo ≤ q)) nL D cA lo (cells) (slots) (M) (pc) lv (st) := fun H locs ls w h g => vx_ret (k H locs ls w h g)
theorem q_xout {Qc : Array Value → State → Outcome → State → Prop} {X : String → Mm → Prop} {mc ms : Nat} {E : String} (hex : ∀ x ∈ c.exceptionTable.toList, covers x pc = false) (hlk : meth.locks = false) (hc : cells ≤ mc) (hs : slots ≤ ms) (hx : X E M) : QX p l e R s m args below meth c (vx_MQ below Qc (XcM D cA lo X) args s mc ms (fun q => lo ≤ q)) nL D cA lo (cells) (slots) (M) (pc) lv (st) E := fun H locs ls q ce w h g h7 h8 h9 => vx_out hex hlk h7 h8 h9 (fun t ht _ => ⟨M, trivial, ⟨hx, by rw [ht]; exact w⟩, h.F ht⟩) h.2.2 hc hs
theorem q_throw (C : Cx p s m args c cc nL own Ts D cA lo) {Qc : Array Value → State → Outcome → State → Prop} {X : String → Mm → Prop} {mc ms : Nat} {E text : String} {ik is ic : Nat} (hl : l.stackTraces = false) (hlk : meth.locks = false) (hex : ∀ x ∈ c.exceptionTable.toList, covers x (pc + 10) = false) (htx : (own, is, text) ∈ txts) (hE : E ∈ thE) (hfit : Bundle.fit E = true)
    (hk : Cond.classLink own ik E ∈ Ts) (hini : Cond.initialized E ∈ Ts) (hat1 : ∀ w ∈ (vx_atS own ic E thN).filter goodWord, w ∈ Ts) (hat2 : ∀ w ∈ (vx_atS own ic E thN).filter (fun w => !goodWord w), w ∈ thB E) (hgood : ∀ w ∈ Cond.classLink own ik E :: Cond.initialized E :: vx_atS own ic E thN, vx_ot w = true)
    (d0 : decode cc pc = .ok (.new ik, 3)) (d3 : decode cc (pc + 3) = .ok (.dup, 1)) (d4 : decode cc (pc + 4) = .ok (.ldc_w is, 3)) (d7 : decode cc (pc + 7) = .ok (.invokespecial ic, 3)) (d10 : decode cc (pc + 10) = .ok (.athrow, 1))
    (hR : 5 < R.frames ∧ (st.map fun v => v.category).sum + 82 ≤ R.locals ∧ cells + 1 ≤ R.cells ∧ slots + 6 ≤ R.slots) (hc : cells + 1 ≤ mc) (hs : slots + 6 ≤ ms) (hx : X E M) : QW p l e R s m args below meth c (vx_MQ below Qc (XcM D cA lo X) args s mc ms (fun q => lo ≤ q)) nL D cA lo (cells) (slots) (M) (pc) lv (st) := fun H locs ls w h g => by
  obtain ⟨-, hU, hN, -, hT, hD, hCa, -⟩ := C.2.2.2.2.2.2.2.2
  obtain ⟨sa, hsa⟩ := hT _ htx
  have hB : ∀ w ∈ thB E, w.before args s = true := by
    intro w hw
    simp only [thB, List.mem_cons, List.not_mem_nil, or_false] at hw
    rcases hw with rfl | rfl | rfl | rfl
    · exact va_Nw.use rfl (hD _ (by simp [thD]))
    · exact va_Nw.use rfl (hD _ (by simp [thD]))
    · exact va_Nw.use rfl (hD _ (by simp [thD]))
    · exact va_Nw.use rfl (hCa _ hE)
  exact vx_throwSW (names := thN) C.1 C.2.1 hl C.2.2.2.1 hfit (by decide +kernel) (C.2.2.2.2.1 _ hk) (C.2.2.2.2.1 _ hini) hsa (vx_hat (fun w hw => C.2.2.2.2.1 _ (hat1 w hw)) hat2 hB) hgood hU hN h (by rw [g.1, C.2.2.1]) d0 d3 d4 d7 d10 hex hR.1 hR.2.1 hR.2.2.1 hR.2.2.2 hlk
    (fun t _ hz hk => ⟨M, trivial, ⟨hx, w.kept hk⟩, Nat.le_trans h.1 hz, fun q h1 h2 => (hk q (Nat.lt_of_lt_of_le h1 h.1)).trans (h.2.1 q h1 h2)⟩) h.2.2 hc hs
theorem q_catch (C : Cx p s m args c cc nL own Ts D cA lo) {E name : String} {hh : List (Nat × Nat × Nat × Nat)} (htab : c.exceptionTable.toList = tableOf hh) (pre : List (Nat × Nat × Nat × Nat)) (x : Nat × Nat × Nat × Nat) (suf : List (Nat × Nat × Nat × Nat)) (hsplit : hh = pre ++ x :: suf) (hE : E ∈ thE)
    (hpass : ∀ z ∈ pre, (¬ (z.1 ≤ pc ∧ pc < z.2.1)) ∨ (z.2.2.2 ≠ 0 ∧ ∃ nm ∈ thE, nm ≠ E ∧ Cond.classLink own z.2.2.2 nm ∈ Ts)) (hx : x.1 ≤ pc ∧ pc < x.2.1) (h0 : x.2.2.2 ≠ 0) (hlink : Cond.classLink own x.2.2.2 E ∈ Ts) (k : ∀ q : Nat, QW p l e R s m args below meth c Q nL D cA lo (cells) (slots) (M) (x.2.2.1) lv (.ref q :: [])) : QX p l e R s m args below meth c Q nL D cA lo (cells) (slots) (M) (pc) lv (st) E := fun H locs ls q ce w h g h7 h8 h9 => by
  obtain ⟨-, -, -, -, -, -, hCa, hNc, -⟩ := C.2.2.2.2.2.2.2.2
  refine vx_catch (E := E) (name := E) C.2.2.2.1 (tableOf pre) ⟨x.1, x.2.1, x.2.2.1, x.2.2.2⟩ (tableOf suf) (by rw [htab, hsplit]; simp [tableOf]) (fun z hz => ?_) (by simp [covers]; exact hx) h0 (C.2.2.2.2.1 _ hlink) (va_Nw.use rfl (hCa _ hE)) h7 h8 h9 (k q H locs ls w h g)
  obtain ⟨z0, hz0, rfl⟩ := List.mem_map.mp hz
  rcases hpass z0 hz0 with h1 | ⟨h1, nm, h2, h3, h4⟩
  · exact Or.inl (by simp [covers]; omega)
  · exact Or.inr ⟨h1, nm, C.2.2.2.2.1 _ h4, hNc E hE nm h2 (fun e => h3 e.symm)⟩
theorem q_objInit (C : Cx p s m args c cc nL own Ts D cA lo) {idx a : Nat} (hlink : Cond.methodLink own idx Lib.objectInit ∈ Ts) (hinst : Cond.instanceMethod Lib.objectInit ∈ Ts) (hcode : Cond.code Lib.objectInit ⟨#[0xb1]⟩ 1 none ∈ Ts) (d : decode cc pc = .ok (.invokespecial idx, 3)) (hR : 1 ≤ R.frames ∧ (st.map fun v => v.category).sum + 12 ≤ R.locals) (k : QW p l e R s m args below meth c Q nL D cA lo (cells) (slots) (M) (pc + 3) lv (st)) : QW p l e R s m args below meth c Q nL D cA lo (cells) (slots) (M) (pc) lv (.ref a :: st) := fun H locs ls w h g =>
  W.objInit C.1 C.2.1 C.2.2.2.1 (C.2.2.2.2.1 _ hlink) (C.2.2.2.2.1 _ hinst) (C.2.2.2.2.1 _ hcode) rfl (by rw [C.2.2.1]; exact g.1) rfl d hR.1 (by show 2 * 0 + _ + 12 ≤ _; omega) (k H locs ls w h g)
def qdf (t : Nat) : Value := match t with
  | 0 => .int 0
  | 1 => .null
  | _ => .long 0
theorem qvs_new {kd n q : Nat} : ∀ (ts : List Nat) (j : Nat), qvs (wN M q kd n) q j ts = ts.map qdf := by
  intro ts
  induction ts with
  | nil => intro j; rfl
  | cons t ts ih =>
    intro j
    simp only [qvs, ih, List.map_cons]
    congr 1
    unfold qv qdf
    match t with
    | 0 => simp [iM_wN]
    | 1 => simp [rM_wN, va_rf]
    | _ + 2 => simp [lM_wN]
theorem q_new (C : Cx p s m args c cc nL own Ts D cA lo) {Cn : String} {T : u_T} {N ci index : Nat} (hin : ∀ w ∈ u_ws Cn T N, w ∈ Ts) (ty : Nat → FieldType) (hty : ∀ k, k < N → parseFieldDescriptor (T k).2.2.1 = some (ty k)) (hcl : Cond.classLink own index Cn ∈ Ts) (hinst : Cond.instantiable Cn N ∈ Ts) (hini : Cond.initialized Cn ∈ Ts) (hc : vwCl[ci]? = some (Cn, T, N)) (hci : ci < 100) (hfs : ∀ j, j < N → defaultValue (ty j) = vp_V ((ftX ci).map qdf) j) (hf : cells + 1 ≤ R.cells ∧ slots + N ≤ R.slots) (d : decode cc pc = .ok (.new index, 3)) (k : ∀ q : Nat, frs M q → lo ≤ q → QW p l e R s m args below meth c Q nL D cA lo (cells + 1) (slots + N) (wN M q ci N) (pc + 3) lv (.ref q :: st)) : QW p l e R s m args below meth c Q nL D cA lo (cells) (slots) (M) (pc) lv (st) := fun H locs ls w h g => by
  have hKn := C.2.2.2.2.2.1.1 ci _ hc
  have hlo : lo ≤ H.size := Nat.le_trans C.2.2.2.2.2.2.1 h.1
  refine W.newcK C.1 C.2.1 C.2.2.2.1 (C.2.2.2.2.1 _ hcl) (C.2.2.2.2.1 _ hinst) (C.2.2.2.2.1 _ hini) rfl d hf.1 hf.2 hKn.2.1 rfl fun H1 kC hkC e1 z1 o1 => ?_
  refine k H.size (w.frs (Nat.le_refl _)) hlo H1 locs ls (w.new rfl hlo o1 ?_) ⟨Nat.le_trans h.1 (by omega), fun x h1 h2 => (o1 x (Nat.lt_of_lt_of_le h1 h.1)).trans (h.2.1 x h1 h2), h.2.2⟩ g
  rw [cE_o (k := ci) (n := N) (by rw [kM_wN, if_pos rfl]) hci, qvs_new]
  exact ⟨_, hc, (u_born ty C.2.2.2.2.1 hin hKn hkC e1 hty).to hfs⟩
theorem q_newI (C : Cx p s m args c cc nL own Ts D cA lo) {n : Int32} {N : Nat} (harr : Cond.arrayClass .int ∈ Ts) (hn : ¬ n < 0) (hN : n.toNatClampNeg = N) (hb : N * componentBytes .int ≤ 536870912) (hf : cells + 1 ≤ R.cells ∧ slots + N ≤ R.slots) (d : decode cc pc = .ok (.newarray .int, 2)) (k : ∀ q : Nat, frs M q → lo ≤ q → QW p l e R s m args below meth c Q nL D cA lo (cells + 1) (slots + N) (wN M q 100 N) (pc + 2) lv (.ref q :: st)) : QW p l e R s m args below meth c Q nL D cA lo (cells) (slots) (M) (pc) lv (.int n :: st) := fun H locs ls w h g => by
  have hlo : lo ≤ H.size := Nat.le_trans C.2.2.2.2.2.2.1 h.1
  refine va_newaK C.1 C.2.1 (atype := .int) (C.2.2.2.2.1 _ harr) rfl d rfl hn hN hb hf.1 hf.2 rfl fun H1 cN e1 z1 o1 _ hNm => ?_
  have hcA : cN = cA 100 := Option.some.inj (hNm.symm.trans (C.2.2.2.2.2.1.2 0 _ rfl).2)
  subst hcA
  refine k H.size (w.frs (Nat.le_refl _)) hlo H1 locs ls (w.new rfl hlo o1 ?_) ⟨Nat.le_trans h.1 (by omega), fun x h1 h2 => (o1 x (Nat.lt_of_lt_of_le h1 h.1)).trans (h.2.1 x h1 h2), h.2.2⟩ g
  rw [cE_i (k := 100) (n := N) (by rw [kM_wN, if_pos rfl]) (by omega) (by omega)]
  show H1[H.size]? = some (vp_cell _ _)
  rw [e1, vp_cell_i]
  simp only [iM_wN, if_true]
  rfl
theorem q_newZ (C : Cx p s m args c cc nL own Ts D cA lo) {n : Int32} {N : Nat} (harr : Cond.arrayClass .boolean ∈ Ts) (hn : ¬ n < 0) (hN : n.toNatClampNeg = N) (hb : N * componentBytes .boolean ≤ 536870912) (hf : cells + 1 ≤ R.cells ∧ slots + N ≤ R.slots) (d : decode cc pc = .ok (.newarray .boolean, 2)) (k : ∀ q : Nat, frs M q → lo ≤ q → QW p l e R s m args below meth c Q nL D cA lo (cells + 1) (slots + N) (wN M q 101 N) (pc + 2) lv (.ref q :: st)) : QW p l e R s m args below meth c Q nL D cA lo (cells) (slots) (M) (pc) lv (.int n :: st) := fun H locs ls w h g => by
  have hlo : lo ≤ H.size := Nat.le_trans C.2.2.2.2.2.2.1 h.1
  refine va_newaK C.1 C.2.1 (atype := .boolean) (C.2.2.2.2.1 _ harr) rfl d rfl hn hN hb hf.1 hf.2 rfl fun H1 cN e1 z1 o1 _ hNm => ?_
  have hcA : cN = cA 101 := Option.some.inj (hNm.symm.trans (C.2.2.2.2.2.1.2 1 _ rfl).2)
  subst hcA
  refine k H.size (w.frs (Nat.le_refl _)) hlo H1 locs ls (w.new rfl hlo o1 ?_) ⟨Nat.le_trans h.1 (by omega), fun x h1 h2 => (o1 x (Nat.lt_of_lt_of_le h1 h.1)).trans (h.2.1 x h1 h2), h.2.2⟩ g
  rw [cE_i (k := 101) (n := N) (by rw [kM_wN, if_pos rfl]) (by omega) (by omega)]
  show H1[H.size]? = some (vp_cell _ _)
  rw [e1, vp_cell_i]
  simp only [iM_wN, if_true]
  rfl
theorem q_newR (C : Cx p s m args c cc nL own Ts D cA lo) {n : Int32} {N index : Nat} (hcl : Cond.classLink own index "QuarryMesh$Ring" ∈ Ts) (hn : ¬ n < 0) (hN : n.toNatClampNeg = N) (hb : N * 4 ≤ 536870912) (hf : cells + 1 ≤ R.cells ∧ slots + N ≤ R.slots) (d : decode cc pc = .ok (.anewarray index, 3)) (k : ∀ q : Nat, frs M q → lo ≤ q → QW p l e R s m args below meth c Q nL D cA lo (cells + 1) (slots + N) (wN M q 120 N) (pc + 3) lv (.ref q :: st)) : QW p l e R s m args below meth c Q nL D cA lo (cells) (slots) (M) (pc) lv (.int n :: st) := fun H locs ls w h g => by
  subst hN
  have hlo : lo ≤ H.size := Nat.le_trans C.2.2.2.2.2.2.1 h.1
  refine W.anew C.1 C.2.1 C.2.2.2.1 (C.2.2.2.2.1 _ hcl) (va_AO.use C.2.2.2.2.2.2.2.2.1) rfl d rfl hn hb hf.1 hf.2 fun cN kA comp h1 h2 h3 h4 => ?_
  obtain ⟨kA2, comp2, -, -, -, h5⟩ := (C.2.2.2.2.2.1.2 3 _ rfl).2
  have hcA : cN = cA 120 := Option.some.inj (h1.symm.trans h5)
  subst hcA
  have o1 : ∀ q : Nat, q < H.size → (H.push { cls := cA 120, slots := Array.replicate n.toNatClampNeg .null, vm := .none })[q]? = H[q]? := fun q hq => by rw [Array.getElem?_push, if_neg (Nat.ne_of_lt hq)]
  refine k H.size (w.frs (Nat.le_refl _)) hlo _ locs ls (w.new rfl hlo o1 ?_) ⟨Nat.le_trans h.1 (by simp), fun x h1 h2 => (o1 x (Nat.lt_of_lt_of_le h1 h.1)).trans (h.2.1 x h1 h2), h.2.2⟩ g
  rw [cE_r (k := 120) (n := n.toNatClampNeg) (by rw [kM_wN, if_pos rfl]) (by omega)]
  show (H.push _)[H.size]? = some (vp_cell _ _)
  rw [vp_cell_q, arrV_new]
  simp only [rM_wN, if_true]
  simp [va_rf]
/-- new T[n][k]: the outer array at q, its rows behind it -/
def wG (M : Mm) (q kd kr n k : Nat) : Mm := (fun b => if b = q then (kd, n) else if q < b ∧ b ≤ q + n then (kr, k) else M.1 b, fun b j => if q ≤ b ∧ b ≤ q + n then 0 else M.2.1 b j, fun b j => if b = q then (if j < n then some (q + 1 + j) else none) else if q < b ∧ b ≤ q + n then none else M.2.2.1 b j, fun b j => if q ≤ b ∧ b ≤ q + n then 0 else M.2.2.2 b j)
theorem kM_wG (M : Mm) (q kd kr n k b : Nat) : kM (wG M q kd kr n k) b = if b = q then (kd, n) else if q < b ∧ b ≤ q + n then (kr, k) else kM M b := rfl
theorem iM_wG (M : Mm) (q kd kr n k b j : Nat) : iM (wG M q kd kr n k) b j = if q ≤ b ∧ b ≤ q + n then 0 else iM M b j := rfl
theorem rM_wG (M : Mm) (q kd kr n k b j : Nat) : rM (wG M q kd kr n k) b j = if b = q then (if j < n then some (q + 1 + j) else none) else if q < b ∧ b ≤ q + n then none else rM M b j := rfl
theorem lM_wG (M : Mm) (q kd kr n k b j : Nat) : lM (wG M q kd kr n k) b j = if q ≤ b ∧ b ≤ q + n then 0 else lM M b j := rfl
theorem q_mnaI (C : Cx p s m args c cc nL own Ts D cA lo) {n k : Int32} {N K index : Nat} (hcl : Cond.classLink own index ("[" ++ (FieldType.array .int).toString) ∈ Ts) (hover : (Cond.arrayOver (.array .int)).before args s = true) (harr : Cond.arrayClass .int ∈ Ts) (hn : ¬ n < 0) (hk : ¬ k < 0) (hN : n.toNatClampNeg = N) (hK : k.toNatClampNeg = K) (hb1 : N * 4 ≤ 536870912) (hb2 : K * componentBytes .int ≤ 536870912) (hb3 : K ≤ 536870912) (hf : cells + (1 + N) ≤ R.cells ∧ slots + (N + N * K) ≤ R.slots) (d : decode cc pc = .ok (.multianewarray index 2, 4)) (kk : ∀ q : Nat, frs M q → lo ≤ q → QW p l e R s m args below meth c Q nL D cA lo (cells + 1 + N) (slots + N + N * K) (wG M q 121 100 N K) (pc + 4) lv (.ref q :: st)) : QW p l e R s m args below meth c Q nL D cA lo (cells) (slots) (M) (pc) lv (.int k :: .int n :: st) := fun H locs ls w h g => by
  subst hN
  subst hK
  have hlo : lo ≤ H.size := Nat.le_trans C.2.2.2.2.2.2.1 h.1
  intro T hT Xs
  obtain ⟨vm₁, cN, comp, -, fA, fC, hO, -, X', step⟩ := Xs.multianewarray2F C.1 C.2.2.2.1 (C.2.2.2.2.1 _ hcl) hover (C.2.2.2.2.1 _ harr) (g := F0 m pc ls (.int k :: .int n :: st)) rfl (by rw [C.2.1]; exact d) rfl hn hk hb1 hb2 hb3 rfl rfl hf.1 hf.2
  have ec : comp = cA 100 := Option.some.inj (fC.symm.trans (C.2.2.2.2.2.1.2 0 _ rfl).2)
  have ea : cN = cA 121 := Option.some.inj (fA.symm.trans (C.2.2.2.2.2.1.2 4 _ rfl).2)
  subst ec
  subst ea
  generalize hF : Jvm.Free.Multi.fill (T.setVm vm₁) (cA 121) (cA 100) n.toNatClampNeg k.toNatClampNeg (defaultValue .int) n.toNatClampNeg = F at X' step
  have hTh : (T.setVm vm₁).heap = H := hT
  obtain ⟨f1, f2, -, -⟩ := Jvm.Free.Multi.fill_facts (T.setVm vm₁) (cA 121) (cA 100) n.toNatClampNeg k.toNatClampNeg (defaultValue .int) n.toNatClampNeg
  rw [hF, hTh] at f1 f2
  have hold : ∀ x : Nat, x < H.size → F.heap[x]? = H[x]? := fun x hx => by
    have := Jvm.Free.Multi.fill_old (T.setVm vm₁) (cA 121) (cA 100) n.toNatClampNeg k.toNatClampNeg (defaultValue .int) (a := x) (by rw [hTh]; exact hx) n.toNatClampNeg
    rw [hF, hTh] at this
    exact this
  have hrow : ∀ j : Nat, j < n.toNatClampNeg → F.heap[H.size + 1 + j]? = some (Jvm.Free.Multi.innerC (cA 100) k.toNatClampNeg (defaultValue .int)) := fun j hj => by
    have := Jvm.Free.Multi.fill_inner (T.setVm vm₁) (cA 121) (cA 100) n.toNatClampNeg k.toNatClampNeg (defaultValue .int) n.toNatClampNeg j hj
    rw [hF, hTh] at this
    exact this
  rw [vr_outer] at f2
  have hw : Wd D cA lo (wG M H.size 121 100 n.toNatClampNeg k.toNatClampNeg) F.heap := by
    intro b hb
    by_cases e1 : b = H.size
    · subst e1
      refine ⟨hlo, ?_⟩
      rw [cE_r (k := 121) (n := n.toNatClampNeg) (by rw [kM_wG, if_pos rfl]) (by omega)]
      show F.heap[H.size]? = some (vp_cell _ _)
      rw [f2, vp_cell_q]
      simp only [rM_wG, if_true]
    · by_cases e2 : H.size < b ∧ b ≤ H.size + n.toNatClampNeg
      · refine ⟨by omega, ?_⟩
        rw [cE_i (k := 100) (n := k.toNatClampNeg) (by rw [kM_wG, if_neg e1, if_pos e2]) (by omega) (by omega)]
        show F.heap[b]? = some (vp_cell _ _)
        have e3 := hrow (b - H.size - 1) (by omega)
        rw [show H.size + 1 + (b - H.size - 1) = b by omega] at e3
        rw [e3, vp_cell_i]
        have e4 : iM (wG M H.size 121 100 n.toNatClampNeg k.toNatClampNeg) b = fun _ => 0 := by
          funext j
          rw [iM_wG, if_pos (by omega)]
        rw [e4]
        exact congrArg some (arrV_new (cA 100) k.toNatClampNeg (.int 0))
      · have e3 : kM (wG M H.size 121 100 n.toNatClampNeg k.toNatClampNeg) b = kM M b := by rw [kM_wG, if_neg e1, if_neg e2]
        rw [e3] at hb
        have hl := w.lt hb
        refine ⟨(w b hb).1, ?_⟩
        rw [cE_same e3 (fun j => by rw [iM_wG, if_neg (by omega)]) (fun j => by rw [rM_wG, if_neg e1, if_neg e2]) (fun j => by rw [lM_wG, if_neg (by omega)])]
        exact (w b hb).2.kept (hold b hl)
  obtain ⟨t, a1, b1⟩ := kk H.size (w.frs (Nat.le_refl _)) hlo F.heap locs ls hw ⟨by rw [f1]; have := h.1; omega, fun x h1 h2 => (hold x (Nat.lt_of_lt_of_le h1 h.1)).trans (h.2.1 x h1 h2), h.2.2⟩ g F rfl X'
  refine ⟨t, step t ?_, b1⟩
  have e : T.heap.size = H.size := by rw [hT]
  rw [e]
  exact a1
theorem q_mnaZ (C : Cx p s m args c cc nL own Ts D cA lo) {n k : Int32} {N K index : Nat} (hcl : Cond.classLink own index ("[" ++ (FieldType.array .boolean).toString) ∈ Ts) (hover : (Cond.arrayOver (.array .boolean)).before args s = true) (harr : Cond.arrayClass .boolean ∈ Ts) (hn : ¬ n < 0) (hk : ¬ k < 0) (hN : n.toNatClampNeg = N) (hK : k.toNatClampNeg = K) (hb1 : N * 4 ≤ 536870912) (hb2 : K * componentBytes .boolean ≤ 536870912) (hb3 : K ≤ 536870912) (hf : cells + (1 + N) ≤ R.cells ∧ slots + (N + N * K) ≤ R.slots) (d : decode cc pc = .ok (.multianewarray index 2, 4)) (kk : ∀ q : Nat, frs M q → lo ≤ q → QW p l e R s m args below meth c Q nL D cA lo (cells + 1 + N) (slots + N + N * K) (wG M q 122 101 N K) (pc + 4) lv (.ref q :: st)) : QW p l e R s m args below meth c Q nL D cA lo (cells) (slots) (M) (pc) lv (.int k :: .int n :: st) := fun H locs ls w h g => by
  subst hN
  subst hK
  have hlo : lo ≤ H.size := Nat.le_trans C.2.2.2.2.2.2.1 h.1
  intro T hT Xs
  obtain ⟨vm₁, cN, comp, -, fA, fC, hO, -, X', step⟩ := Xs.multianewarray2F C.1 C.2.2.2.1 (C.2.2.2.2.1 _ hcl) hover (C.2.2.2.2.1 _ harr) (g := F0 m pc ls (.int k :: .int n :: st)) rfl (by rw [C.2.1]; exact d) rfl hn hk hb1 hb2 hb3 rfl rfl hf.1 hf.2
  have ec : comp = cA 101 := Option.some.inj (fC.symm.trans (C.2.2.2.2.2.1.2 1 _ rfl).2)
  have ea : cN = cA 122 := Option.some.inj (fA.symm.trans (C.2.2.2.2.2.1.2 5 _ rfl).2)
  subst ec
  subst ea
  generalize hF : Jvm.Free.Multi.fill (T.setVm vm₁) (cA 122) (cA 101) n.toNatClampNeg k.toNatClampNeg (defaultValue .boolean) n.toNatClampNeg = F at X' step
  have hTh : (T.setVm vm₁).heap = H := hT
  obtain ⟨f1, f2, -, -⟩ := Jvm.Free.Multi.fill_facts (T.setVm vm₁) (cA 122) (cA 101) n.toNatClampNeg k.toNatClampNeg (defaultValue .boolean) n.toNatClampNeg
  rw [hF, hTh] at f1 f2
  have hold : ∀ x : Nat, x < H.size → F.heap[x]? = H[x]? := fun x hx => by
    have := Jvm.Free.Multi.fill_old (T.setVm vm₁) (cA 122) (cA 101) n.toNatClampNeg k.toNatClampNeg (defaultValue .boolean) (a := x) (by rw [hTh]; exact hx) n.toNatClampNeg
    rw [hF, hTh] at this
    exact this
  have hrow : ∀ j : Nat, j < n.toNatClampNeg → F.heap[H.size + 1 + j]? = some (Jvm.Free.Multi.innerC (cA 101) k.toNatClampNeg (defaultValue .boolean)) := fun j hj => by
    have := Jvm.Free.Multi.fill_inner (T.setVm vm₁) (cA 122) (cA 101) n.toNatClampNeg k.toNatClampNeg (defaultValue .boolean) n.toNatClampNeg j hj
    rw [hF, hTh] at this
    exact this
  rw [vr_outer] at f2
  have hw : Wd D cA lo (wG M H.size 122 101 n.toNatClampNeg k.toNatClampNeg) F.heap := by
    intro b hb
    by_cases e1 : b = H.size
    · subst e1
      refine ⟨hlo, ?_⟩
      rw [cE_r (k := 122) (n := n.toNatClampNeg) (by rw [kM_wG, if_pos rfl]) (by omega)]
      show F.heap[H.size]? = some (vp_cell _ _)
      rw [f2, vp_cell_q]
      simp only [rM_wG, if_true]
    · by_cases e2 : H.size < b ∧ b ≤ H.size + n.toNatClampNeg
      · refine ⟨by omega, ?_⟩
        rw [cE_i (k := 101) (n := k.toNatClampNeg) (by rw [kM_wG, if_neg e1, if_pos e2]) (by omega) (by omega)]
        show F.heap[b]? = some (vp_cell _ _)
        have e3 := hrow (b - H.size - 1) (by omega)
        rw [show H.size + 1 + (b - H.size - 1) = b by omega] at e3
        rw [e3, vp_cell_i]
        have e4 : iM (wG M H.size 122 101 n.toNatClampNeg k.toNatClampNeg) b = fun _ => 0 := by
          funext j
          rw [iM_wG, if_pos (by omega)]
        rw [e4]
        exact congrArg some (arrV_new (cA 101) k.toNatClampNeg (.int 0))
      · have e3 : kM (wG M H.size 122 101 n.toNatClampNeg k.toNatClampNeg) b = kM M b := by rw [kM_wG, if_neg e1, if_neg e2]
        rw [e3] at hb
        have hl := w.lt hb
        refine ⟨(w b hb).1, ?_⟩
        rw [cE_same e3 (fun j => by rw [iM_wG, if_neg (by omega)]) (fun j => by rw [rM_wG, if_neg e1, if_neg e2]) (fun j => by rw [lM_wG, if_neg (by omega)])]
        exact (w b hb).2.kept (hold b hl)
  obtain ⟨t, a1, b1⟩ := kk H.size (w.frs (Nat.le_refl _)) hlo F.heap locs ls hw ⟨by rw [f1]; have := h.1; omega, fun x h1 h2 => (hold x (Nat.lt_of_lt_of_le h1 h.1)).trans (h.2.1 x h1 h2), h.2.2⟩ g F rfl X'
  refine ⟨t, step t ?_, b1⟩
  have e : T.heap.size = H.size := by rw [hT]
  rw [e]
  exact a1
theorem q_rast (C : Cx p s m args c cc nL own Ts D cA lo) {a v n : Nat} {i : Int32} (ha : kM M a = (120, n)) (hin : vp_in i n) (hv : kM M v = (5, 2)) (d : decode cc pc = .ok (.aastore, 1)) (k : QW p l e R s m args below meth c Q nL D cA lo (cells) (slots) (wR M a i.toNatClampNeg (some v)) (pc + 1) lv (st)) : QW p l e R s m args below meth c Q nL D cA lo (cells) (slots) (M) (pc) lv (.ref v :: .int i :: .ref a :: st) := fun H locs ls w h g => by
  have hne : (kM M a).1 ≠ 255 := by rw [ha]; show ¬ 120 = 255; omega
  have hb := (w a hne).2
  rw [cE_r ha (by omega)] at hb
  have hbv := (w v (by rw [hv]; show ¬ 5 = 255; omega)).2
  rw [cE_o hv (by omega)] at hbv
  have hlt : i.toNatClampNeg < n := Nat.not_le.mp fun q => hin (Or.inr q)
  have h0 : ¬ i < 0 := fun q => hin (Or.inl q)
  obtain ⟨r', hr', cellV, g1, g2, g3, -⟩ := hbv
  have hcls := (C.2.2.2.2.2.1.1 5 _ rfl).2
  obtain ⟨kA, comp, k1, k2, k3, -⟩ := (C.2.2.2.2.2.1.2 3 _ rfl).2
  have hcomp : comp = D.1 5 := Option.some.inj (k3.symm.trans hcls.1)
  subst hcomp
  obtain ⟨kC, hkC, -⟩ := hcls.2
  refine W.aast C.1 C.2.1 hb (fun q h => by cases h) (fun h => by cases h) k1 k2 rfl hkC ⟨h0, by show _ < (arrV _ _ _).slots.size; rw [arrV_size]; exact hlt⟩ g1 (fun q h => by rw [g3] at h; cases h) (by rw [g2]; exact hkC) (by rw [g2]; exact va_assign hcls) rfl rfl d fun H1 e z oq => ?_
  refine k H1 _ ls (w.up (fun _ => rfl) q_othR oq (fun _ => ?_)) (h.put z oq (w a hne).1) g
  rw [cE_r (M := wR M a i.toNatClampNeg (some v)) ha (by omega)]
  show H1[a]? = some (vp_cell _ _)
  rw [e, vp_cell_q, vp_cell_q, arrV_store]
  congr 2
  funext q
  by_cases hq : q = i.toNatClampNeg
  · subst hq
    simp [updV, rM_wR, va_rf]
  · simp [updV, rM_wR, hq]
end QF
