section QR
variable {p : Program} {l : Launch} {e : Env} {R : Room} {s : State} {m : MethodId} {args : Array Value} {below : List Frame} {meth : Method} {c : Code} {Q : State → Prop} {nL : Nat} {D : va_G} {cA : Nat → ClassId} {lo : Nat} {cells slots : Nat} {M : Mm} {pc : Nat} {lv lv' : List (Nat × Value)} {st : List Value} {cc : ByteArray} {own : String} {Ts : List Cond}
theorem q_iadd (C : Cx p s m args c cc nL own Ts D cA lo) {x y : Int32} (d : decode cc pc = .ok (.iadd, 1))  (k : QW p l e R s m args below meth c Q nL D cA lo (cells) (slots) (M) (pc + 1) lv (.int (x + y) :: st)) : QW p l e R s m args below meth c Q nL D cA lo (cells) (slots) (M) (pc) lv (.int y :: .int x :: st) := fun H locs ls w h g => lv_iadd C.1 C.2.1 d  (k H locs ls w h g)
theorem q_isub (C : Cx p s m args c cc nL own Ts D cA lo) {x y : Int32} (d : decode cc pc = .ok (.isub, 1))  (k : QW p l e R s m args below meth c Q nL D cA lo (cells) (slots) (M) (pc + 1) lv (.int (x - y) :: st)) : QW p l e R s m args below meth c Q nL D cA lo (cells) (slots) (M) (pc) lv (.int y :: .int x :: st) := fun H locs ls w h g => lv_isub C.1 C.2.1 d  (k H locs ls w h g)
theorem q_imul (C : Cx p s m args c cc nL own Ts D cA lo) {x y : Int32} (d : decode cc pc = .ok (.imul, 1))  (k : QW p l e R s m args below meth c Q nL D cA lo (cells) (slots) (M) (pc + 1) lv (.int (x * y) :: st)) : QW p l e R s m args below meth c Q nL D cA lo (cells) (slots) (M) (pc) lv (.int y :: .int x :: st) := fun H locs ls w h g => lv_imul C.1 C.2.1 d  (k H locs ls w h g)
theorem q_iand (C : Cx p s m args c cc nL own Ts D cA lo) {x y : Int32} (d : decode cc pc = .ok (.iand, 1))  (k : QW p l e R s m args below meth c Q nL D cA lo (cells) (slots) (M) (pc + 1) lv (.int (x &&& y) :: st)) : QW p l e R s m args below meth c Q nL D cA lo (cells) (slots) (M) (pc) lv (.int y :: .int x :: st) := fun H locs ls w h g => lv_iand C.1 C.2.1 d  (k H locs ls w h g)
theorem q_ior (C : Cx p s m args c cc nL own Ts D cA lo) {x y : Int32} (d : decode cc pc = .ok (.ior, 1))  (k : QW p l e R s m args below meth c Q nL D cA lo (cells) (slots) (M) (pc + 1) lv (.int (x ||| y) :: st)) : QW p l e R s m args below meth c Q nL D cA lo (cells) (slots) (M) (pc) lv (.int y :: .int x :: st) := fun H locs ls w h g => lv_ior C.1 C.2.1 d  (k H locs ls w h g)
theorem q_ixor (C : Cx p s m args c cc nL own Ts D cA lo) {x y : Int32} (d : decode cc pc = .ok (.ixor, 1))  (k : QW p l e R s m args below meth c Q nL D cA lo (cells) (slots) (M) (pc + 1) lv (.int (x ^^^ y) :: st)) : QW p l e R s m args below meth c Q nL D cA lo (cells) (slots) (M) (pc) lv (.int y :: .int x :: st) := fun H locs ls w h g => lv_ixor C.1 C.2.1 d  (k H locs ls w h g)
theorem q_idiv (C : Cx p s m args c cc nL own Ts D cA lo) {x y : Int32} (d : decode cc pc = .ok (.idiv, 1)) (hne : ¬ y = 0) (k : QW p l e R s m args below meth c Q nL D cA lo (cells) (slots) (M) (pc + 1) lv (.int (x / y) :: st)) : QW p l e R s m args below meth c Q nL D cA lo (cells) (slots) (M) (pc) lv (.int y :: .int x :: st) := fun H locs ls w h g => lv_idiv C.1 C.2.1 d hne (k H locs ls w h g)
theorem q_irem (C : Cx p s m args c cc nL own Ts D cA lo) {x y : Int32} (d : decode cc pc = .ok (.irem, 1)) (hne : ¬ y = 0) (k : QW p l e R s m args below meth c Q nL D cA lo (cells) (slots) (M) (pc + 1) lv (.int (x - x / y * y) :: st)) : QW p l e R s m args below meth c Q nL D cA lo (cells) (slots) (M) (pc) lv (.int y :: .int x :: st) := fun H locs ls w h g => lv_irem C.1 C.2.1 d hne (k H locs ls w h g)
theorem q_ineg (C : Cx p s m args c cc nL own Ts D cA lo) {x : Int32} (d : decode cc pc = .ok (.ineg, 1))  (k : QW p l e R s m args below meth c Q nL D cA lo (cells) (slots) (M) (pc + 1) lv (.int (-x) :: st)) : QW p l e R s m args below meth c Q nL D cA lo (cells) (slots) (M) (pc) lv (.int x :: st) := fun H locs ls w h g => lv_ineg C.1 C.2.1 d  (k H locs ls w h g)
theorem q_ishr (C : Cx p s m args c cc nL own Ts D cA lo) {x y : Int32} (d : decode cc pc = .ok (.ishr, 1))  (k : QW p l e R s m args below meth c Q nL D cA lo (cells) (slots) (M) (pc + 1) lv (.int (x >>> (y &&& 31)) :: st)) : QW p l e R s m args below meth c Q nL D cA lo (cells) (slots) (M) (pc) lv (.int y :: .int x :: st) := fun H locs ls w h g => lv_ishr C.1 C.2.1 d  (k H locs ls w h g)
theorem q_ladd (C : Cx p s m args c cc nL own Ts D cA lo) {x y : Int64} (d : decode cc pc = .ok (.ladd, 1))  (k : QW p l e R s m args below meth c Q nL D cA lo (cells) (slots) (M) (pc + 1) lv (.long (x + y) :: st)) : QW p l e R s m args below meth c Q nL D cA lo (cells) (slots) (M) (pc) lv (.long y :: .long x :: st) := fun H locs ls w h g => lv_ladd C.1 C.2.1 d  (k H locs ls w h g)
theorem q_lsub (C : Cx p s m args c cc nL own Ts D cA lo) {x y : Int64} (d : decode cc pc = .ok (.lsub, 1))  (k : QW p l e R s m args below meth c Q nL D cA lo (cells) (slots) (M) (pc + 1) lv (.long (x - y) :: st)) : QW p l e R s m args below meth c Q nL D cA lo (cells) (slots) (M) (pc) lv (.long y :: .long x :: st) := fun H locs ls w h g => lv_lsub C.1 C.2.1 d  (k H locs ls w h g)
theorem q_lmul (C : Cx p s m args c cc nL own Ts D cA lo) {x y : Int64} (d : decode cc pc = .ok (.lmul, 1))  (k : QW p l e R s m args below meth c Q nL D cA lo (cells) (slots) (M) (pc + 1) lv (.long (x * y) :: st)) : QW p l e R s m args below meth c Q nL D cA lo (cells) (slots) (M) (pc) lv (.long y :: .long x :: st) := fun H locs ls w h g => lv_lmul C.1 C.2.1 d  (k H locs ls w h g)
theorem q_lcmp (C : Cx p s m args c cc nL own Ts D cA lo) {x y : Int64} (d : decode cc pc = .ok (.lcmp, 1))  (k : QW p l e R s m args below meth c Q nL D cA lo (cells) (slots) (M) (pc + 1) lv (.int (lg_cmp x y) :: st)) : QW p l e R s m args below meth c Q nL D cA lo (cells) (slots) (M) (pc) lv (.long y :: .long x :: st) := fun H locs ls w h g => W.lcmp C.1 C.2.1 d  (k H locs ls w h g)
theorem q_i2l (C : Cx p s m args c cc nL own Ts D cA lo) {x : Int32} (d : decode cc pc = .ok (.i2l, 1))  (k : QW p l e R s m args below meth c Q nL D cA lo (cells) (slots) (M) (pc + 1) lv (.long x.toInt64 :: st)) : QW p l e R s m args below meth c Q nL D cA lo (cells) (slots) (M) (pc) lv (.int x :: st) := fun H locs ls w h g => lv_i2l C.1 C.2.1 d rfl (k H locs ls w h g)
theorem q_i2d (C : Cx p s m args c cc nL own Ts D cA lo) {x : Int32} (d : decode cc pc = .ok (.i2d, 1))  (k : QW p l e R s m args below meth c Q nL D cA lo (cells) (slots) (M) (pc + 1) lv (.double (FP.i2d x) :: st)) : QW p l e R s m args below meth c Q nL D cA lo (cells) (slots) (M) (pc) lv (.int x :: st) := fun H locs ls w h g => lv_i2d C.1 C.2.1 d  (k H locs ls w h g)
theorem q_l2d (C : Cx p s m args c cc nL own Ts D cA lo) {x : Int64} (d : decode cc pc = .ok (.l2d, 1))  (k : QW p l e R s m args below meth c Q nL D cA lo (cells) (slots) (M) (pc + 1) lv (.double (FP.l2d x) :: st)) : QW p l e R s m args below meth c Q nL D cA lo (cells) (slots) (M) (pc) lv (.long x :: st) := fun H locs ls w h g => lv_l2d C.1 C.2.1 d  (k H locs ls w h g)
theorem q_ddiv (C : Cx p s m args c cc nL own Ts D cA lo) {x y : UInt64} (d : decode cc pc = .ok (.ddiv, 1)) (hne : vf_n64 (FP.ddiv x y)) (k : QW p l e R s m args below meth c Q nL D cA lo (cells) (slots) (M) (pc + 1) lv (.double (FP.ddiv x y) :: st)) : QW p l e R s m args below meth c Q nL D cA lo (cells) (slots) (M) (pc) lv (.double y :: .double x :: st) := fun H locs ls w h g => lv_ddiv C.1 C.2.1 d hne (k H locs ls w h g)
theorem q_dup (C : Cx p s m args c cc nL own Ts D cA lo) {v : Value} (d : decode cc pc = .ok (.dup, 1)) (hv : v.category = 1) (k : QW p l e R s m args below meth c Q nL D cA lo (cells) (slots) (M) (pc + 1) lv (v :: v :: st)) : QW p l e R s m args below meth c Q nL D cA lo (cells) (slots) (M) (pc) lv (v :: st) := fun H locs ls w h g => lv_dup C.1 C.2.1 d hv (k H locs ls w h g)
theorem q_pop (C : Cx p s m args c cc nL own Ts D cA lo) {v : Value} (d : decode cc pc = .ok (.pop, 1)) (hv : v.category = 1) (k : QW p l e R s m args below meth c Q nL D cA lo (cells) (slots) (M) (pc + 1) lv (st)) : QW p l e R s m args below meth c Q nL D cA lo (cells) (slots) (M) (pc) lv (v :: st) := fun H locs ls w h g => lv_pop C.1 C.2.1 d hv (k H locs ls w h g)
theorem q_dup2 (C : Cx p s m args c cc nL own Ts D cA lo) {v u : Value} (d : decode cc pc = .ok (.dup2, 1)) (hv : v.category = 1) (hu : u.category = 1) (k : QW p l e R s m args below meth c Q nL D cA lo (cells) (slots) (M) (pc + 1) lv (v :: u :: v :: u :: st)) : QW p l e R s m args below meth c Q nL D cA lo (cells) (slots) (M) (pc) lv (v :: u :: st) := fun H locs ls w h g => lv_dup2_11 C.1 C.2.1 d hv hu (k H locs ls w h g)
theorem q_iconst (C : Cx p s m args c cc nL own Ts D cA lo) {n : Int} {v : Int32} (d : decode cc pc = .ok (.iconst n, 1)) (hv : Int32.ofInt n = v) (k : QW p l e R s m args below meth c Q nL D cA lo (cells) (slots) (M) (pc + 1) lv (.int v :: st)) : QW p l e R s m args below meth c Q nL D cA lo (cells) (slots) (M) (pc) lv (st) := fun H locs ls w h g => lv_iconst C.1 C.2.1 d hv (k H locs ls w h g)
theorem q_bipush (C : Cx p s m args c cc nL own Ts D cA lo) {n : Int} {v : Int32} (d : decode cc pc = .ok (.bipush n, 2)) (hv : (Int8.ofInt n).toInt32 = v) (k : QW p l e R s m args below meth c Q nL D cA lo (cells) (slots) (M) (pc + 2) lv (.int v :: st)) : QW p l e R s m args below meth c Q nL D cA lo (cells) (slots) (M) (pc) lv (st) := fun H locs ls w h g => lv_bipush C.1 C.2.1 d hv (k H locs ls w h g)
theorem q_sipush (C : Cx p s m args c cc nL own Ts D cA lo) {n : Int} {v : Int32} (d : decode cc pc = .ok (.sipush n, 3)) (hv : (Int16.ofInt n).toInt32 = v) (k : QW p l e R s m args below meth c Q nL D cA lo (cells) (slots) (M) (pc + 3) lv (.int v :: st)) : QW p l e R s m args below meth c Q nL D cA lo (cells) (slots) (M) (pc) lv (st) := fun H locs ls w h g => lv_sipush C.1 C.2.1 d hv (k H locs ls w h g)
theorem q_lconst (C : Cx p s m args c cc nL own Ts D cA lo) {n : Fin 2} {v : Int64} (d : decode cc pc = .ok (.lconst n, 1)) (hv : Int64.ofNat (n : Nat) = v) (k : QW p l e R s m args below meth c Q nL D cA lo (cells) (slots) (M) (pc + 1) lv (.long v :: st)) : QW p l e R s m args below meth c Q nL D cA lo (cells) (slots) (M) (pc) lv (st) := fun H locs ls w h g => lv_lconst C.1 C.2.1 d hv (k H locs ls w h g)
theorem q_null (C : Cx p s m args c cc nL own Ts D cA lo)  (d : decode cc pc = .ok (.aconst_null, 1))  (k : QW p l e R s m args below meth c Q nL D cA lo (cells) (slots) (M) (pc + 1) lv (.null :: st)) : QW p l e R s m args below meth c Q nL D cA lo (cells) (slots) (M) (pc) lv (st) := fun H locs ls w h g => lv_null C.1 C.2.1 d  (k H locs ls w h g)
theorem q_iload_n (C : Cx p s m args c cc nL own Ts D cA lo) {k0 : Fin 4} {i j : Nat} {x : Int32} (d : decode cc pc = .ok (.iload_n k0, 1)) (hi : (k0 : Nat) = i) (hl : lv[j]? = some (i, .int x)) (k : QW p l e R s m args below meth c Q nL D cA lo (cells) (slots) (M) (pc + 1) lv (.int x :: st)) : QW p l e R s m args below meth c Q nL D cA lo (cells) (slots) (M) (pc) lv (st) := fun H locs ls w h g => lv_iload_n C.1 C.2.1 d hi (lv_at g j hl) (k H locs ls w h g)
theorem q_iload (C : Cx p s m args c cc nL own Ts D cA lo) {i j : Nat} {x : Int32} (d : decode cc pc = .ok (.iload i, 2)) (hl : lv[j]? = some (i, .int x)) (k : QW p l e R s m args below meth c Q nL D cA lo (cells) (slots) (M) (pc + 2) lv (.int x :: st)) : QW p l e R s m args below meth c Q nL D cA lo (cells) (slots) (M) (pc) lv (st) := fun H locs ls w h g => lv_iload C.1 C.2.1 d (lv_at g j hl) (k H locs ls w h g)
theorem q_lload_n (C : Cx p s m args c cc nL own Ts D cA lo) {k0 : Fin 4} {i j : Nat} {x : Int64} (d : decode cc pc = .ok (.lload_n k0, 1)) (hi : (k0 : Nat) = i) (hl : lv[j]? = some (i, .long x)) (k : QW p l e R s m args below meth c Q nL D cA lo (cells) (slots) (M) (pc + 1) lv (.long x :: st)) : QW p l e R s m args below meth c Q nL D cA lo (cells) (slots) (M) (pc) lv (st) := fun H locs ls w h g => lv_lload_n C.1 C.2.1 d hi (lv_at g j hl) (k H locs ls w h g)
theorem q_lload (C : Cx p s m args c cc nL own Ts D cA lo) {i j : Nat} {x : Int64} (d : decode cc pc = .ok (.lload i, 2)) (hl : lv[j]? = some (i, .long x)) (k : QW p l e R s m args below meth c Q nL D cA lo (cells) (slots) (M) (pc + 2) lv (.long x :: st)) : QW p l e R s m args below meth c Q nL D cA lo (cells) (slots) (M) (pc) lv (st) := fun H locs ls w h g => lv_lload C.1 C.2.1 d (lv_at g j hl) (k H locs ls w h g)
theorem q_aload_n (C : Cx p s m args c cc nL own Ts D cA lo) {k0 : Fin 4} {i j : Nat} {x : Nat} (d : decode cc pc = .ok (.aload_n k0, 1)) (hi : (k0 : Nat) = i) (hl : lv[j]? = some (i, .ref x)) (k : QW p l e R s m args below meth c Q nL D cA lo (cells) (slots) (M) (pc + 1) lv (.ref x :: st)) : QW p l e R s m args below meth c Q nL D cA lo (cells) (slots) (M) (pc) lv (st) := fun H locs ls w h g => lv_aload_n C.1 C.2.1 d hi (lv_at g j hl) (k H locs ls w h g)
theorem q_aload (C : Cx p s m args c cc nL own Ts D cA lo) {i j : Nat} {x : Nat} (d : decode cc pc = .ok (.aload i, 2)) (hl : lv[j]? = some (i, .ref x)) (k : QW p l e R s m args below meth c Q nL D cA lo (cells) (slots) (M) (pc + 2) lv (.ref x :: st)) : QW p l e R s m args below meth c Q nL D cA lo (cells) (slots) (M) (pc) lv (st) := fun H locs ls w h g => lv_aload C.1 C.2.1 d (lv_at g j hl) (k H locs ls w h g)
theorem q_oload_n (C : Cx p s m args c cc nL own Ts D cA lo) {k0 : Fin 4} {i j : Nat} {o : Option Nat} (d : decode cc pc = .ok (.aload_n k0, 1)) (hi : (k0 : Nat) = i) (hl : lv[j]? = some (i, va_rf o)) (k : QW p l e R s m args below meth c Q nL D cA lo (cells) (slots) (M) (pc + 1) lv (va_rf o :: st)) : QW p l e R s m args below meth c Q nL D cA lo (cells) (slots) (M) (pc) lv (st) := fun H locs ls w h g => by
  cases o with
  | none => exact lv_aload_nN C.1 C.2.1 d hi (lv_at g j hl) (k H locs ls w h g)
  | some x => exact lv_aload_n C.1 C.2.1 d hi (lv_at g j hl) (k H locs ls w h g)
theorem q_oload (C : Cx p s m args c cc nL own Ts D cA lo) {i j : Nat} {o : Option Nat} (d : decode cc pc = .ok (.aload i, 2)) (hl : lv[j]? = some (i, va_rf o)) (k : QW p l e R s m args below meth c Q nL D cA lo (cells) (slots) (M) (pc + 2) lv (va_rf o :: st)) : QW p l e R s m args below meth c Q nL D cA lo (cells) (slots) (M) (pc) lv (st) := fun H locs ls w h g => by
  cases o with
  | none => exact lv_aloadN C.1 C.2.1 d (lv_at g j hl) (k H locs ls w h g)
  | some x => exact lv_aload C.1 C.2.1 d (lv_at g j hl) (k H locs ls w h g)
theorem q_istore_n (C : Cx p s m args c cc nL own Ts D cA lo) {k0 : Fin 4} {i : Nat} {x : Int32} (d : decode cc pc = .ok (.istore_n k0, 1)) (hi : (k0 : Nat) = i) (hn : i < nL) (hl : (i, Value.int x) :: lv.filter (fun q => !(q.1 == i) && !(q.1 + 1 == i && q.2.category == 2)) = lv') (k : QW p l e R s m args below meth c Q nL D cA lo (cells) (slots) (M) (pc + 1) lv' (st)) : QW p l e R s m args below meth c Q nL D cA lo (cells) (slots) (M) (pc) lv (.int x :: st) := fun H locs ls w h g => lv_istore_n C.1 C.2.1 d hi g hn hl (fun ls g => k H locs ls w h g)
theorem q_istore (C : Cx p s m args c cc nL own Ts D cA lo) {i : Nat} {x : Int32} (d : decode cc pc = .ok (.istore i, 2)) (hn : i < nL) (hl : (i, Value.int x) :: lv.filter (fun q => !(q.1 == i) && !(q.1 + 1 == i && q.2.category == 2)) = lv') (k : QW p l e R s m args below meth c Q nL D cA lo (cells) (slots) (M) (pc + 2) lv' (st)) : QW p l e R s m args below meth c Q nL D cA lo (cells) (slots) (M) (pc) lv (.int x :: st) := fun H locs ls w h g => lv_istore C.1 C.2.1 d g hn hl (fun ls g => k H locs ls w h g)
theorem q_lstore_n (C : Cx p s m args c cc nL own Ts D cA lo) {k0 : Fin 4} {i : Nat} {x : Int64} (d : decode cc pc = .ok (.lstore_n k0, 1)) (hi : (k0 : Nat) = i) (hn : i + 1 < nL) (hl : (i, Value.long x) :: lv.filter (fun q => !(q.1 == i) && (!(q.1 == i + 1) && !(q.1 + 1 == i && q.2.category == 2))) = lv') (k : QW p l e R s m args below meth c Q nL D cA lo (cells) (slots) (M) (pc + 1) lv' (st)) : QW p l e R s m args below meth c Q nL D cA lo (cells) (slots) (M) (pc) lv (.long x :: st) := fun H locs ls w h g => lv_lstore_n C.1 C.2.1 d hi g hn hl (fun ls g => k H locs ls w h g)
theorem q_lstore (C : Cx p s m args c cc nL own Ts D cA lo) {i : Nat} {x : Int64} (d : decode cc pc = .ok (.lstore i, 2)) (hn : i + 1 < nL) (hl : (i, Value.long x) :: lv.filter (fun q => !(q.1 == i) && (!(q.1 == i + 1) && !(q.1 + 1 == i && q.2.category == 2))) = lv') (k : QW p l e R s m args below meth c Q nL D cA lo (cells) (slots) (M) (pc + 2) lv' (st)) : QW p l e R s m args below meth c Q nL D cA lo (cells) (slots) (M) (pc) lv (.long x :: st) := fun H locs ls w h g => lv_lstore C.1 C.2.1 d g hn hl (fun ls g => k H locs ls w h g)
theorem q_astore_n (C : Cx p s m args c cc nL own Ts D cA lo) {k0 : Fin 4} {i : Nat} {x : Nat} (d : decode cc pc = .ok (.astore_n k0, 1)) (hi : (k0 : Nat) = i) (hn : i < nL) (hl : (i, Value.ref x) :: lv.filter (fun q => !(q.1 == i) && !(q.1 + 1 == i && q.2.category == 2)) = lv') (k : QW p l e R s m args below meth c Q nL D cA lo (cells) (slots) (M) (pc + 1) lv' (st)) : QW p l e R s m args below meth c Q nL D cA lo (cells) (slots) (M) (pc) lv (.ref x :: st) := fun H locs ls w h g => lv_astore_n C.1 C.2.1 d hi g hn hl (fun ls g => k H locs ls w h g)
theorem q_astore (C : Cx p s m args c cc nL own Ts D cA lo) {i : Nat} {x : Nat} (d : decode cc pc = .ok (.astore i, 2)) (hn : i < nL) (hl : (i, Value.ref x) :: lv.filter (fun q => !(q.1 == i) && !(q.1 + 1 == i && q.2.category == 2)) = lv') (k : QW p l e R s m args below meth c Q nL D cA lo (cells) (slots) (M) (pc + 2) lv' (st)) : QW p l e R s m args below meth c Q nL D cA lo (cells) (slots) (M) (pc) lv (.ref x :: st) := fun H locs ls w h g => lv_astore C.1 C.2.1 d g hn hl (fun ls g => k H locs ls w h g)
theorem q_dstore_n (C : Cx p s m args c cc nL own Ts D cA lo) {k0 : Fin 4} {i : Nat} {x : UInt64} (d : decode cc pc = .ok (.dstore_n k0, 1)) (hi : (k0 : Nat) = i) (hn : i + 1 < nL) (hl : (i, Value.double x) :: lv.filter (fun q => !(q.1 == i) && (!(q.1 == i + 1) && !(q.1 + 1 == i && q.2.category == 2))) = lv') (k : QW p l e R s m args below meth c Q nL D cA lo (cells) (slots) (M) (pc + 1) lv' (st)) : QW p l e R s m args below meth c Q nL D cA lo (cells) (slots) (M) (pc) lv (.double x :: st) := fun H locs ls w h g => lv_dstore_n C.1 C.2.1 d hi g hn hl (fun ls g => k H locs ls w h g)
theorem q_dstore (C : Cx p s m args c cc nL own Ts D cA lo) {i : Nat} {x : UInt64} (d : decode cc pc = .ok (.dstore i, 2)) (hn : i + 1 < nL) (hl : (i, Value.double x) :: lv.filter (fun q => !(q.1 == i) && (!(q.1 == i + 1) && !(q.1 + 1 == i && q.2.category == 2))) = lv') (k : QW p l e R s m args below meth c Q nL D cA lo (cells) (slots) (M) (pc + 2) lv' (st)) : QW p l e R s m args below meth c Q nL D cA lo (cells) (slots) (M) (pc) lv (.double x :: st) := fun H locs ls w h g => lv_dstore C.1 C.2.1 d g hn hl (fun ls g => k H locs ls w h g)
theorem q_ostore_n (C : Cx p s m args c cc nL own Ts D cA lo) {k0 : Fin 4} {i : Nat} {o : Option Nat} (d : decode cc pc = .ok (.astore_n k0, 1)) (hi : (k0 : Nat) = i) (hn : i < nL) (hl : (i, va_rf o) :: lv.filter (fun q => !(q.1 == i) && !(q.1 + 1 == i && q.2.category == 2)) = lv') (k : QW p l e R s m args below meth c Q nL D cA lo (cells) (slots) (M) (pc + 1) lv' (st)) : QW p l e R s m args below meth c Q nL D cA lo (cells) (slots) (M) (pc) lv (va_rf o :: st) := fun H locs ls w h g => by
  cases o with
  | none => exact lv_astore_nN C.1 C.2.1 d hi g hn hl (fun ls g => k H locs ls w h g)
  | some x => exact lv_astore_n C.1 C.2.1 d hi g hn hl (fun ls g => k H locs ls w h g)
theorem q_ostore (C : Cx p s m args c cc nL own Ts D cA lo) {i : Nat} {o : Option Nat} (d : decode cc pc = .ok (.astore i, 2)) (hn : i < nL) (hl : (i, va_rf o) :: lv.filter (fun q => !(q.1 == i) && !(q.1 + 1 == i && q.2.category == 2)) = lv') (k : QW p l e R s m args below meth c Q nL D cA lo (cells) (slots) (M) (pc + 2) lv' (st)) : QW p l e R s m args below meth c Q nL D cA lo (cells) (slots) (M) (pc) lv (va_rf o :: st) := fun H locs ls w h g => by
  cases o with
  | none => exact lv_astoreN C.1 C.2.1 d g hn hl (fun ls g => k H locs ls w h g)
  | some x => exact lv_astore C.1 C.2.1 d g hn hl (fun ls g => k H locs ls w h g)
theorem q_iinc (C : Cx p s m args c cc nL own Ts D cA lo) {i j : Nat} {n : Int} {x v : Int32} (d : decode cc pc = .ok (.iinc i n, 3)) (hk : lv[j]? = some (i, .int x)) (hv : x + Int32.ofInt n = v) (hn : i < nL) (hl : (i, Value.int v) :: lv.filter (fun q => !(q.1 == i) && !(q.1 + 1 == i && q.2.category == 2)) = lv') (k : QW p l e R s m args below meth c Q nL D cA lo (cells) (slots) (M) (pc + 3) lv' (st)) : QW p l e R s m args below meth c Q nL D cA lo (cells) (slots) (M) (pc) lv (st) := fun H locs ls w h g => lv_iinc C.1 C.2.1 d g hk hv hn hl (fun ls g => k H locs ls w h g)
-- BRANCHES
theorem q_if_eq (C : Cx p s m args c cc nL own Ts D cA lo) {x : Int32} {off : Int} {tgt : Nat} (d : decode cc pc = .ok (.ifCond .eq off, 3)) (ht : (pc : Int) + off = (tgt : Int)) (kt : x = 0 → QW p l e R s m args below meth c Q nL D cA lo (cells) (slots) (M) (tgt) lv (st)) (kf : ¬ x = 0 → QW p l e R s m args below meth c Q nL D cA lo (cells) (slots) (M) (pc + 3) lv (st)) : QW p l e R s m args below meth c Q nL D cA lo (cells) (slots) (M) (pc) lv (.int x :: st) := fun H locs ls w h g => lv_if_eq C.1 C.2.1 d ht (fun z => kt z H locs ls w h g) (fun z => kf z H locs ls w h g)
theorem q_icmp_eq (C : Cx p s m args c cc nL own Ts D cA lo) {x y : Int32} {off : Int} {tgt : Nat} (d : decode cc pc = .ok (.if_icmp .eq off, 3)) (ht : (pc : Int) + off = (tgt : Int)) (kt : x = y → QW p l e R s m args below meth c Q nL D cA lo (cells) (slots) (M) (tgt) lv (st)) (kf : ¬ x = y → QW p l e R s m args below meth c Q nL D cA lo (cells) (slots) (M) (pc + 3) lv (st)) : QW p l e R s m args below meth c Q nL D cA lo (cells) (slots) (M) (pc) lv (.int y :: .int x :: st) := fun H locs ls w h g => lv_icmp_eq C.1 C.2.1 d ht (fun z => kt z H locs ls w h g) (fun z => kf z H locs ls w h g)
theorem q_if_ne (C : Cx p s m args c cc nL own Ts D cA lo) {x : Int32} {off : Int} {tgt : Nat} (d : decode cc pc = .ok (.ifCond .ne off, 3)) (ht : (pc : Int) + off = (tgt : Int)) (kt : ¬ x = 0 → QW p l e R s m args below meth c Q nL D cA lo (cells) (slots) (M) (tgt) lv (st)) (kf : x = 0 → QW p l e R s m args below meth c Q nL D cA lo (cells) (slots) (M) (pc + 3) lv (st)) : QW p l e R s m args below meth c Q nL D cA lo (cells) (slots) (M) (pc) lv (.int x :: st) := fun H locs ls w h g => lv_if_ne C.1 C.2.1 d ht (fun z => kt z H locs ls w h g) (fun z => kf z H locs ls w h g)
theorem q_icmp_ne (C : Cx p s m args c cc nL own Ts D cA lo) {x y : Int32} {off : Int} {tgt : Nat} (d : decode cc pc = .ok (.if_icmp .ne off, 3)) (ht : (pc : Int) + off = (tgt : Int)) (kt : ¬ x = y → QW p l e R s m args below meth c Q nL D cA lo (cells) (slots) (M) (tgt) lv (st)) (kf : x = y → QW p l e R s m args below meth c Q nL D cA lo (cells) (slots) (M) (pc + 3) lv (st)) : QW p l e R s m args below meth c Q nL D cA lo (cells) (slots) (M) (pc) lv (.int y :: .int x :: st) := fun H locs ls w h g => lv_icmp_ne C.1 C.2.1 d ht (fun z => kt z H locs ls w h g) (fun z => kf z H locs ls w h g)
theorem q_if_lt (C : Cx p s m args c cc nL own Ts D cA lo) {x : Int32} {off : Int} {tgt : Nat} (d : decode cc pc = .ok (.ifCond .lt off, 3)) (ht : (pc : Int) + off = (tgt : Int)) (kt : x < 0 → QW p l e R s m args below meth c Q nL D cA lo (cells) (slots) (M) (tgt) lv (st)) (kf : ¬ x < 0 → QW p l e R s m args below meth c Q nL D cA lo (cells) (slots) (M) (pc + 3) lv (st)) : QW p l e R s m args below meth c Q nL D cA lo (cells) (slots) (M) (pc) lv (.int x :: st) := fun H locs ls w h g => lv_if_lt C.1 C.2.1 d ht (fun z => kt z H locs ls w h g) (fun z => kf z H locs ls w h g)
theorem q_icmp_lt (C : Cx p s m args c cc nL own Ts D cA lo) {x y : Int32} {off : Int} {tgt : Nat} (d : decode cc pc = .ok (.if_icmp .lt off, 3)) (ht : (pc : Int) + off = (tgt : Int)) (kt : x < y → QW p l e R s m args below meth c Q nL D cA lo (cells) (slots) (M) (tgt) lv (st)) (kf : ¬ x < y → QW p l e R s m args below meth c Q nL D cA lo (cells) (slots) (M) (pc + 3) lv (st)) : QW p l e R s m args below meth c Q nL D cA lo (cells) (slots) (M) (pc) lv (.int y :: .int x :: st) := fun H locs ls w h g => lv_icmp_lt C.1 C.2.1 d ht (fun z => kt z H locs ls w h g) (fun z => kf z H locs ls w h g)
theorem q_if_ge (C : Cx p s m args c cc nL own Ts D cA lo) {x : Int32} {off : Int} {tgt : Nat} (d : decode cc pc = .ok (.ifCond .ge off, 3)) (ht : (pc : Int) + off = (tgt : Int)) (kt : 0 ≤ x → QW p l e R s m args below meth c Q nL D cA lo (cells) (slots) (M) (tgt) lv (st)) (kf : ¬ 0 ≤ x → QW p l e R s m args below meth c Q nL D cA lo (cells) (slots) (M) (pc + 3) lv (st)) : QW p l e R s m args below meth c Q nL D cA lo (cells) (slots) (M) (pc) lv (.int x :: st) := fun H locs ls w h g => lv_if_ge C.1 C.2.1 d ht (fun z => kt z H locs ls w h g) (fun z => kf z H locs ls w h g)
theorem q_icmp_ge (C : Cx p s m args c cc nL own Ts D cA lo) {x y : Int32} {off : Int} {tgt : Nat} (d : decode cc pc = .ok (.if_icmp .ge off, 3)) (ht : (pc : Int) + off = (tgt : Int)) (kt : y ≤ x → QW p l e R s m args below meth c Q nL D cA lo (cells) (slots) (M) (tgt) lv (st)) (kf : ¬ y ≤ x → QW p l e R s m args below meth c Q nL D cA lo (cells) (slots) (M) (pc + 3) lv (st)) : QW p l e R s m args below meth c Q nL D cA lo (cells) (slots) (M) (pc) lv (.int y :: .int x :: st) := fun H locs ls w h g => lv_icmp_ge C.1 C.2.1 d ht (fun z => kt z H locs ls w h g) (fun z => kf z H locs ls w h g)
theorem q_if_gt (C : Cx p s m args c cc nL own Ts D cA lo) {x : Int32} {off : Int} {tgt : Nat} (d : decode cc pc = .ok (.ifCond .gt off, 3)) (ht : (pc : Int) + off = (tgt : Int)) (kt : 0 < x → QW p l e R s m args below meth c Q nL D cA lo (cells) (slots) (M) (tgt) lv (st)) (kf : ¬ 0 < x → QW p l e R s m args below meth c Q nL D cA lo (cells) (slots) (M) (pc + 3) lv (st)) : QW p l e R s m args below meth c Q nL D cA lo (cells) (slots) (M) (pc) lv (.int x :: st) := fun H locs ls w h g => lv_if_gt C.1 C.2.1 d ht (fun z => kt z H locs ls w h g) (fun z => kf z H locs ls w h g)
theorem q_icmp_gt (C : Cx p s m args c cc nL own Ts D cA lo) {x y : Int32} {off : Int} {tgt : Nat} (d : decode cc pc = .ok (.if_icmp .gt off, 3)) (ht : (pc : Int) + off = (tgt : Int)) (kt : y < x → QW p l e R s m args below meth c Q nL D cA lo (cells) (slots) (M) (tgt) lv (st)) (kf : ¬ y < x → QW p l e R s m args below meth c Q nL D cA lo (cells) (slots) (M) (pc + 3) lv (st)) : QW p l e R s m args below meth c Q nL D cA lo (cells) (slots) (M) (pc) lv (.int y :: .int x :: st) := fun H locs ls w h g => lv_icmp_gt C.1 C.2.1 d ht (fun z => kt z H locs ls w h g) (fun z => kf z H locs ls w h g)
theorem q_if_le (C : Cx p s m args c cc nL own Ts D cA lo) {x : Int32} {off : Int} {tgt : Nat} (d : decode cc pc = .ok (.ifCond .le off, 3)) (ht : (pc : Int) + off = (tgt : Int)) (kt : x ≤ 0 → QW p l e R s m args below meth c Q nL D cA lo (cells) (slots) (M) (tgt) lv (st)) (kf : ¬ x ≤ 0 → QW p l e R s m args below meth c Q nL D cA lo (cells) (slots) (M) (pc + 3) lv (st)) : QW p l e R s m args below meth c Q nL D cA lo (cells) (slots) (M) (pc) lv (.int x :: st) := fun H locs ls w h g => lv_if_le C.1 C.2.1 d ht (fun z => kt z H locs ls w h g) (fun z => kf z H locs ls w h g)
theorem q_icmp_le (C : Cx p s m args c cc nL own Ts D cA lo) {x y : Int32} {off : Int} {tgt : Nat} (d : decode cc pc = .ok (.if_icmp .le off, 3)) (ht : (pc : Int) + off = (tgt : Int)) (kt : x ≤ y → QW p l e R s m args below meth c Q nL D cA lo (cells) (slots) (M) (tgt) lv (st)) (kf : ¬ x ≤ y → QW p l e R s m args below meth c Q nL D cA lo (cells) (slots) (M) (pc + 3) lv (st)) : QW p l e R s m args below meth c Q nL D cA lo (cells) (slots) (M) (pc) lv (.int y :: .int x :: st) := fun H locs ls w h g => lv_icmp_le C.1 C.2.1 d ht (fun z => kt z H locs ls w h g) (fun z => kf z H locs ls w h g)
theorem q_goto (C : Cx p s m args c cc nL own Ts D cA lo) {off : Int} {tgt : Nat} (d : decode cc pc = .ok (.goto off, 3)) (ht : (pc : Int) + off = (tgt : Int)) (k : QW p l e R s m args below meth c Q nL D cA lo (cells) (slots) (M) (tgt) lv (st)) : QW p l e R s m args below meth c Q nL D cA lo (cells) (slots) (M) (pc) lv (st) := fun H locs ls w h g => lv_goto C.1 C.2.1 d ht (k H locs ls w h g)
theorem q_ifnull (C : Cx p s m args c cc nL own Ts D cA lo) {off : Int} {tgt : Nat} {o : Option Nat} (d : decode cc pc = .ok (.ifnull off, 3)) (ht : (pc : Int) + off = (tgt : Int)) (kt : o = none → QW p l e R s m args below meth c Q nL D cA lo (cells) (slots) (M) (tgt) lv (st)) (kf : ∀ x, o = some x → QW p l e R s m args below meth c Q nL D cA lo (cells) (slots) (M) (pc + 3) lv (st)) : QW p l e R s m args below meth c Q nL D cA lo (cells) (slots) (M) (pc) lv (va_rf o :: st) := fun H locs ls w h g => by
  cases o with
  | none => exact lv_ifnullN C.1 C.2.1 d ht (kt rfl H locs ls w h g)
  | some x => exact lv_ifnull C.1 C.2.1 d (kf x rfl H locs ls w h g)
theorem q_ifnonnull (C : Cx p s m args c cc nL own Ts D cA lo) {off : Int} {tgt : Nat} {o : Option Nat} (d : decode cc pc = .ok (.ifnonnull off, 3)) (ht : (pc : Int) + off = (tgt : Int)) (kt : ∀ x, o = some x → QW p l e R s m args below meth c Q nL D cA lo (cells) (slots) (M) (tgt) lv (st)) (kf : o = none → QW p l e R s m args below meth c Q nL D cA lo (cells) (slots) (M) (pc + 3) lv (st)) : QW p l e R s m args below meth c Q nL D cA lo (cells) (slots) (M) (pc) lv (va_rf o :: st) := fun H locs ls w h g => by
  cases o with
  | none => exact lv_ifnonnullN C.1 C.2.1 d (kf rfl H locs ls w h g)
  | some x => exact lv_ifnonnull C.1 C.2.1 d ht (kt x rfl H locs ls w h g)
theorem q_sub (ks : List Nat) (hp : lv_pick lv ks = lv') (k : QW p l e R s m args below meth c Q nL D cA lo (cells) (slots) (M) (pc) lv' (st)) : QW p l e R s m args below meth c Q nL D cA lo (cells) (slots) (M) (pc) lv (st) := fun H locs ls w h g => k H locs ls w h (lv_sub g ks hp)
theorem q_ref {o : Option Nat} {a : Nat} (ho : o = some a) (k : QW p l e R s m args below meth c Q nL D cA lo (cells) (slots) (M) (pc) lv (.ref a :: st)) : QW p l e R s m args below meth c Q nL D cA lo (cells) (slots) (M) (pc) lv (va_rf o :: st) := by subst ho; exact k
theorem q_mem {M1 : Mm} (hm : M = M1) (k : QW p l e R s m args below meth c Q nL D cA lo (cells) (slots) (M1) (pc) lv (st)) : QW p l e R s m args below meth c Q nL D cA lo (cells) (slots) (M) (pc) lv (st) := by subst hm; exact k
theorem q_pc {pc1 : Nat} (hp : pc = pc1) (k : QW p l e R s m args below meth c Q nL D cA lo (cells) (slots) (M) (pc1) lv (st)) : QW p l e R s m args below meth c Q nL D cA lo (cells) (slots) (M) (pc) lv (st) := by subst hp; exact k
theorem va_one {D : va_G} {cl : List vw_C} {q : Nat × va_E} {H : Heap} (h : va_at D cl q H) : va_P D cl [q] H := fun k x hx => by
  have hz : k < 1 := (List.getElem?_eq_some_iff.mp hx).1
  rw [show k = 0 by omega] at hx
  cases hx
  exact h
theorem q_getI (C : Cx p s m args c cc nL own Ts D cA lo) {ref Cn : String} {T : u_T} {N ci index a k0 n : Nat} (hin : ∀ w ∈ u_ws Cn T N, w ∈ Ts) (hc : vwCl[ci]? = some (Cn, T, N)) (hci : ci < 100) (ha : kM M a = (ci, n)) (hk : k0 < N) (hft : (ftX ci)[k0]? = some 0) (hlink : Cond.fieldLink own index ref (T k0).2.1 (T k0).2.2.1 ∈ Ts) (hsame : (T k0).1 = ref) (d : decode cc pc = .ok (.getfield index, 3)) (k : QW p l e R s m args below meth c Q nL D cA lo (cells) (slots) (M) (pc + 3) lv (.int (iM M a k0) :: st)) : QW p l e R s m args below meth c Q nL D cA lo (cells) (slots) (M) (pc) lv (.ref a :: st) := fun H locs ls w h g => by
  have hb := (w a (by rw [ha]; show ¬ ci = 255; omega)).2
  rw [cE_o ha hci] at hb
  exact va_get (ws := [(a, .inr (ci, qvs M a 0 (ftX ci)))]) C.1 C.2.1 C.2.2.2.2.1 hin C.2.2.2.1 C.2.2.2.2.2.1 (va_one hb) 0 rfl hc k0 hk (C.2.2.2.2.1 _ hlink) (fun x h9 => by rw [← hsame]; exact h9) (by have h8 := qvs_get M a (ftX ci) 0 k0 _ hft; rw [Nat.zero_add] at h8; exact h8) d (k H locs ls w h g)
theorem q_getR (C : Cx p s m args c cc nL own Ts D cA lo) {ref Cn : String} {T : u_T} {N ci index a k0 n : Nat} (hin : ∀ w ∈ u_ws Cn T N, w ∈ Ts) (hc : vwCl[ci]? = some (Cn, T, N)) (hci : ci < 100) (ha : kM M a = (ci, n)) (hk : k0 < N) (hft : (ftX ci)[k0]? = some 1) (hlink : Cond.fieldLink own index ref (T k0).2.1 (T k0).2.2.1 ∈ Ts) (hsame : (T k0).1 = ref) (d : decode cc pc = .ok (.getfield index, 3)) (k : QW p l e R s m args below meth c Q nL D cA lo (cells) (slots) (M) (pc + 3) lv (va_rf (rM M a k0) :: st)) : QW p l e R s m args below meth c Q nL D cA lo (cells) (slots) (M) (pc) lv (.ref a :: st) := fun H locs ls w h g => by
  have hb := (w a (by rw [ha]; show ¬ ci = 255; omega)).2
  rw [cE_o ha hci] at hb
  exact va_get (ws := [(a, .inr (ci, qvs M a 0 (ftX ci)))]) C.1 C.2.1 C.2.2.2.2.1 hin C.2.2.2.1 C.2.2.2.2.2.1 (va_one hb) 0 rfl hc k0 hk (C.2.2.2.2.1 _ hlink) (fun x h9 => by rw [← hsame]; exact h9) (by have h8 := qvs_get M a (ftX ci) 0 k0 _ hft; rw [Nat.zero_add] at h8; exact h8) d (k H locs ls w h g)
theorem q_getL (C : Cx p s m args c cc nL own Ts D cA lo) {ref Cn : String} {T : u_T} {N ci index a k0 n : Nat} (hin : ∀ w ∈ u_ws Cn T N, w ∈ Ts) (hc : vwCl[ci]? = some (Cn, T, N)) (hci : ci < 100) (ha : kM M a = (ci, n)) (hk : k0 < N) (hft : (ftX ci)[k0]? = some 2) (hlink : Cond.fieldLink own index ref (T k0).2.1 (T k0).2.2.1 ∈ Ts) (hsame : (T k0).1 = ref) (d : decode cc pc = .ok (.getfield index, 3)) (k : QW p l e R s m args below meth c Q nL D cA lo (cells) (slots) (M) (pc + 3) lv (.long (lM M a k0) :: st)) : QW p l e R s m args below meth c Q nL D cA lo (cells) (slots) (M) (pc) lv (.ref a :: st) := fun H locs ls w h g => by
  have hb := (w a (by rw [ha]; show ¬ ci = 255; omega)).2
  rw [cE_o ha hci] at hb
  exact va_get (ws := [(a, .inr (ci, qvs M a 0 (ftX ci)))]) C.1 C.2.1 C.2.2.2.2.1 hin C.2.2.2.1 C.2.2.2.2.2.1 (va_one hb) 0 rfl hc k0 hk (C.2.2.2.2.1 _ hlink) (fun x h9 => by rw [← hsame]; exact h9) (by have h8 := qvs_get M a (ftX ci) 0 k0 _ hft; rw [Nat.zero_add] at h8; exact h8) d (k H locs ls w h g)
theorem q_put (C : Cx p s m args c cc nL own Ts D cA lo) {ref Cn : String} {T : u_T} {N ci index a k0 n : Nat} {M1 : Mm} {v : Value} (hin : ∀ w ∈ u_ws Cn T N, w ∈ Ts) (ty0 : Nat → FieldType) (hty : ∀ k, k < N → parseFieldDescriptor (T k).2.2.1 = some (ty0 k)) (hnm : ∀ a, a < N → ∀ b, b < N → a ≠ b → (T a).2.1 ≠ (T b).2.1) (hc : vwCl[ci]? = some (Cn, T, N)) (hci : ci < 100) (ha : kM M a = (ci, n)) (hk : k0 < N) (hsame : (T k0).1 = ref) (hlink : Cond.fieldLink own index ref (T k0).2.1 (T k0).2.2.1 ∈ Ts) (hfin : (T k0).2.2.2 = false) {ty : FieldType} (hd : parseFieldDescriptor (T k0).2.2.1 = some ty) (hn : narrow ty v = v) (hfit : fits ty v = true) (hk1 : ∀ b, kM M1 b = kM M b) (ho : ∀ b, b ≠ a → (∀ j, iM M1 b j = iM M b j) ∧ (∀ j, rM M1 b j = rM M b j) ∧ ∀ j, lM M1 b j = lM M b j) (hset : (qvs M a 0 (ftX ci)).set k0 v = qvs M1 a 0 (ftX ci)) (hl : k0 < (ftX ci).length) (d : decode cc pc = .ok (.putfield index, 3)) (k : QW p l e R s m args below meth c Q nL D cA lo (cells) (slots) (M1) (pc + 3) lv (st)) : QW p l e R s m args below meth c Q nL D cA lo (cells) (slots) (M) (pc) lv (v :: .ref a :: st) := fun H locs ls w h g => by
  have hK := C.2.2.2.2.2.1
  have hap := va_apart (own := own) C.2.2.2.2.1 hin ty0 hty hnm hK hc
  have hne : (kM M a).1 ≠ 255 := by rw [ha]; show ¬ ci = 255; omega
  have hb := (w a hne).2
  rw [cE_o ha hci] at hb
  obtain ⟨r, h1, cell, q1, q2, q3, q4⟩ := hb
  have hr : r = (Cn, T, N) := Option.some.inj (h1.symm.trans hc)
  subst hr
  obtain ⟨hSl, hfc, kC, hkC, hkind⟩ := hK.1 ci _ hc
  obtain ⟨cf, kf, fi, f, hi, hsl⟩ := hSl k0 hk
  have hlay := C.2.2.2.2.1 _ (hin _ (u_in_lay hk))
  have hst := (u_facts hfc hkC (u_lays C.2.2.2.2.1 hin hk) hi).1
  unfold u_lay at hlay
  rw [if_neg (by rw [hfin]; decide)] at hlay
  have h6 := u_store hfc hkC hkind hlay hi hd hn hfit
  have hi2 : s.fieldFound? ref (T k0).2.1 (T k0).2.2.1 = some (cf, kf, fi, f) := by rw [← hsame]; exact hi
  refine W.putK C.1 C.2.1 (f := f) ⟨C.2.2.2.1, C.2.2.2.2.1 _ hlink, ⟨_, _, _, hi2⟩, hst⟩ (by rw [q2]; exact h6) q1 q3 (by rw [hsl]; exact k2_hasslot (q4 k0 hk)) rfl rfl d fun H1 e1 e2 e3 => ?_
  rw [hsl] at e1 ⊢
  refine k H1 _ ls (w.up hk1 ho e3 (fun _ => ?_)) (h.put e2 e3 ((w a hne).1)) g
  rw [cE_o ((hk1 a).trans ha) hci]
  exact ⟨_, hc, t_OB.to (V := updV (vp_V (qvs M a 0 (ftX ci))) k0 v) ⟨_, e1, q2, q3, t_set q4 hap hk v⟩ (fun j _ => by rw [vp_updV_set (by rw [qvs_len]; exact hl), hset])⟩
theorem q_putF (C : Cx p s m args c cc nL own Ts D cA lo) {ref Cn : String} {T : u_T} {N ci index a k0 n : Nat} {M1 : Mm} {v : Value} (hin : ∀ w ∈ u_ws Cn T N, w ∈ Ts) (ty0 : Nat → FieldType) (hty : ∀ k, k < N → parseFieldDescriptor (T k).2.2.1 = some (ty0 k)) (hnm : ∀ a, a < N → ∀ b, b < N → a ≠ b → (T a).2.1 ≠ (T b).2.1) (hc : vwCl[ci]? = some (Cn, T, N)) (hci : ci < 100) (ha : kM M a = (ci, n)) (hk : k0 < N) (hsame : (T k0).1 = ref) (hlink : Cond.fieldLink own index ref (T k0).2.1 (T k0).2.2.1 ∈ Ts) (hfin : (T k0).2.2.2 = true) (hin2 : meth.name = "<init>") (hdecl : (T k0).1 = own) {ty : FieldType} (hd : parseFieldDescriptor (T k0).2.2.1 = some ty) (hn : narrow ty v = v) (hfit : fits ty v = true) (hk1 : ∀ b, kM M1 b = kM M b) (ho : ∀ b, b ≠ a → (∀ j, iM M1 b j = iM M b j) ∧ (∀ j, rM M1 b j = rM M b j) ∧ ∀ j, lM M1 b j = lM M b j) (hset : (qvs M a 0 (ftX ci)).set k0 v = qvs M1 a 0 (ftX ci)) (hl : k0 < (ftX ci).length) (d : decode cc pc = .ok (.putfield index, 3)) (k : QW p l e R s m args below meth c Q nL D cA lo (cells) (slots) (M1) (pc + 3) lv (st)) : QW p l e R s m args below meth c Q nL D cA lo (cells) (slots) (M) (pc) lv (v :: .ref a :: st) := fun H locs ls w h g => by
  have hK := C.2.2.2.2.2.1
  have hap := va_apart (own := own) C.2.2.2.2.1 hin ty0 hty hnm hK hc
  have hne : (kM M a).1 ≠ 255 := by rw [ha]; show ¬ ci = 255; omega
  have hb := (w a hne).2
  rw [cE_o ha hci] at hb
  obtain ⟨r, h1, cell, q1, q2, q3, q4⟩ := hb
  have hr : r = (Cn, T, N) := Option.some.inj (h1.symm.trans hc)
  subst hr
  obtain ⟨hSl, hfc, kC, hkC, hkind⟩ := hK.1 ci _ hc
  obtain ⟨cf, kf, fi, f, hi, hsl⟩ := hSl k0 hk
  have hlay := C.2.2.2.2.1 _ (hin _ (u_in_lay hk))
  have hst := (u_facts hfc hkC (u_lays C.2.2.2.2.1 hin hk) hi).1
  unfold u_lay at hlay
  rw [if_pos hfin] at hlay
  have hcf : m.cls = cf := by
    obtain ⟨_, _, c', _, _, _, -, -, hf', -, -, -, hown2, -⟩ := Cond.laysFinal_spec hlay
    have e1 : c' = cf := by have := hi.symm.trans hf'; simp at this; exact this.1.symm
    rw [hdecl] at hown2
    rw [← e1]; exact Option.some.inj (C.2.2.2.1.symm.trans hown2)
  have h6 := u_fits hfc hkC hkind (Or.inr hlay) hi hd hn hfit
  have hi2 : s.fieldFound? ref (T k0).2.1 (T k0).2.2.1 = some (cf, kf, fi, f) := by rw [← hsame]; exact hi
  refine W.putFinK C.1 C.2.1 C.2.2.2.1 (C.2.2.2.2.1 _ hlink) hi2 hst hcf hin2 (by rw [q2]; exact h6) q1 q3 (by rw [hsl]; exact k2_hasslot (q4 k0 hk)) rfl rfl d fun H1 e1 e2 e3 => ?_
  rw [hsl] at e1 ⊢
  refine k H1 _ ls (w.up hk1 ho e3 (fun _ => ?_)) (h.put e2 e3 ((w a hne).1)) g
  rw [cE_o ((hk1 a).trans ha) hci]
  exact ⟨_, hc, t_OB.to (V := updV (vp_V (qvs M a 0 (ftX ci))) k0 v) ⟨_, e1, q2, q3, t_set q4 hap hk v⟩ (fun j _ => by rw [vp_updV_set (by rw [qvs_len]; exact hl), hset])⟩
theorem q_othI {M : Mm} {a k : Nat} {v : Int32} : ∀ b, b ≠ a → (∀ j, iM (wI M a k v) b j = iM M b j) ∧ (∀ j, rM (wI M a k v) b j = rM M b j) ∧ ∀ j, lM (wI M a k v) b j = lM M b j := fun b hb => ⟨fun j => by rw [iM_wI, if_neg (fun q => hb q.1)], fun _ => rfl, fun _ => rfl⟩
theorem q_setI {M : Mm} {a k : Nat} {v : Int32} {ts : List Nat} (ht : ts[k]? = some 0) : (qvs M a 0 ts).set k (.int v) = qvs (wI M a k v) a 0 ts := by
  refine qvs_set ts 0 (List.getElem?_eq_some_iff.mp ht).1 (fun j t hj hne => ?_) (fun t h2 => ?_)
  · unfold qv
    match t with
    | 0 => simp [iM_wI, iM_wR, iM_wL, hne]
    | 1 => simp [rM_wI, rM_wR, rM_wL, hne]
    | _ + 2 => simp [lM_wI, lM_wR, lM_wL, hne]
  · have e : t = 0 := Option.some.inj (h2.symm.trans ht)
    subst e
    simp [qv, iM_wI]
theorem q_othR {M : Mm} {a k : Nat} {v : (Option Nat)} : ∀ b, b ≠ a → (∀ j, iM (wR M a k v) b j = iM M b j) ∧ (∀ j, rM (wR M a k v) b j = rM M b j) ∧ ∀ j, lM (wR M a k v) b j = lM M b j := fun b hb => ⟨fun _ => rfl, fun j => by rw [rM_wR, if_neg (fun q => hb q.1)], fun _ => rfl⟩
theorem q_setR {M : Mm} {a k : Nat} {v : (Option Nat)} {ts : List Nat} (ht : ts[k]? = some 1) : (qvs M a 0 ts).set k (va_rf v) = qvs (wR M a k v) a 0 ts := by
  refine qvs_set ts 0 (List.getElem?_eq_some_iff.mp ht).1 (fun j t hj hne => ?_) (fun t h2 => ?_)
  · unfold qv
    match t with
    | 0 => simp [iM_wI, iM_wR, iM_wL, hne]
    | 1 => simp [rM_wI, rM_wR, rM_wL, hne]
    | _ + 2 => simp [lM_wI, lM_wR, lM_wL, hne]
  · have e : t = 1 := Option.some.inj (h2.symm.trans ht)
    subst e
    simp [qv, rM_wR]
theorem q_othL {M : Mm} {a k : Nat} {v : Int64} : ∀ b, b ≠ a → (∀ j, iM (wL M a k v) b j = iM M b j) ∧ (∀ j, rM (wL M a k v) b j = rM M b j) ∧ ∀ j, lM (wL M a k v) b j = lM M b j := fun b hb => ⟨fun _ => rfl, fun _ => rfl, fun j => by rw [lM_wL, if_neg (fun q => hb q.1)]⟩
theorem q_setL {M : Mm} {a k : Nat} {v : Int64} {ts : List Nat} (ht : ts[k]? = some 2) : (qvs M a 0 ts).set k (.long v) = qvs (wL M a k v) a 0 ts := by
  refine qvs_set ts 0 (List.getElem?_eq_some_iff.mp ht).1 (fun j t hj hne => ?_) (fun t h2 => ?_)
  · unfold qv
    match t with
    | 0 => simp [iM_wI, iM_wR, iM_wL, hne]
    | 1 => simp [rM_wI, rM_wR, rM_wL, hne]
    | _ + 2 => simp [lM_wI, lM_wR, lM_wL, hne]
  · have e : t = 2 := Option.some.inj (h2.symm.trans ht)
    subst e
    simp [qv, lM_wL]
theorem q_putI (C : Cx p s m args c cc nL own Ts D cA lo) {ref Cn : String} {T : u_T} {N ci index a k0 n : Nat} {v : Int32} (hin : ∀ w ∈ u_ws Cn T N, w ∈ Ts) (ty0 : Nat → FieldType) (hty : ∀ k, k < N → parseFieldDescriptor (T k).2.2.1 = some (ty0 k)) (hnm : ∀ a, a < N → ∀ b, b < N → a ≠ b → (T a).2.1 ≠ (T b).2.1) (hc : vwCl[ci]? = some (Cn, T, N)) (hci : ci < 100) (ha : kM M a = (ci, n)) (hk : k0 < N) (hsame : (T k0).1 = ref) (hlink : Cond.fieldLink own index ref (T k0).2.1 (T k0).2.2.1 ∈ Ts) (hfin : (T k0).2.2.2 = false) {ty : FieldType} (hd : parseFieldDescriptor (T k0).2.2.1 = some ty) (hn : narrow ty (.int v) = .int v) (hfit : fits ty (.int v) = true) (hft : (ftX ci)[k0]? = some 0) (d : decode cc pc = .ok (.putfield index, 3)) (k : QW p l e R s m args below meth c Q nL D cA lo (cells) (slots) (wI M a k0 v) (pc + 3) lv (st)) : QW p l e R s m args below meth c Q nL D cA lo (cells) (slots) (M) (pc) lv (.int v :: .ref a :: st) := q_put (M1 := wI M a k0 v) C hin ty0 hty hnm hc hci ha hk hsame hlink hfin hd hn hfit (fun _ => rfl) q_othI (q_setI hft) (List.getElem?_eq_some_iff.mp hft).1 d k
theorem q_putFI (C : Cx p s m args c cc nL own Ts D cA lo) {ref Cn : String} {T : u_T} {N ci index a k0 n : Nat} {v : Int32} (hin : ∀ w ∈ u_ws Cn T N, w ∈ Ts) (ty0 : Nat → FieldType) (hty : ∀ k, k < N → parseFieldDescriptor (T k).2.2.1 = some (ty0 k)) (hnm : ∀ a, a < N → ∀ b, b < N → a ≠ b → (T a).2.1 ≠ (T b).2.1) (hc : vwCl[ci]? = some (Cn, T, N)) (hci : ci < 100) (ha : kM M a = (ci, n)) (hk : k0 < N) (hsame : (T k0).1 = ref) (hlink : Cond.fieldLink own index ref (T k0).2.1 (T k0).2.2.1 ∈ Ts) (hfin : (T k0).2.2.2 = true) (hin2 : meth.name = "<init>") (hdecl : (T k0).1 = own) {ty : FieldType} (hd : parseFieldDescriptor (T k0).2.2.1 = some ty) (hn : narrow ty (.int v) = .int v) (hfit : fits ty (.int v) = true) (hft : (ftX ci)[k0]? = some 0) (d : decode cc pc = .ok (.putfield index, 3)) (k : QW p l e R s m args below meth c Q nL D cA lo (cells) (slots) (wI M a k0 v) (pc + 3) lv (st)) : QW p l e R s m args below meth c Q nL D cA lo (cells) (slots) (M) (pc) lv (.int v :: .ref a :: st) := q_putF (M1 := wI M a k0 v) C hin ty0 hty hnm hc hci ha hk hsame hlink hfin hin2 hdecl hd hn hfit (fun _ => rfl) q_othI (q_setI hft) (List.getElem?_eq_some_iff.mp hft).1 d k
theorem q_putR (C : Cx p s m args c cc nL own Ts D cA lo) {ref Cn : String} {T : u_T} {N ci index a k0 n : Nat} {v : (Option Nat)} (hin : ∀ w ∈ u_ws Cn T N, w ∈ Ts) (ty0 : Nat → FieldType) (hty : ∀ k, k < N → parseFieldDescriptor (T k).2.2.1 = some (ty0 k)) (hnm : ∀ a, a < N → ∀ b, b < N → a ≠ b → (T a).2.1 ≠ (T b).2.1) (hc : vwCl[ci]? = some (Cn, T, N)) (hci : ci < 100) (ha : kM M a = (ci, n)) (hk : k0 < N) (hsame : (T k0).1 = ref) (hlink : Cond.fieldLink own index ref (T k0).2.1 (T k0).2.2.1 ∈ Ts) (hfin : (T k0).2.2.2 = false) {ty : FieldType} (hd : parseFieldDescriptor (T k0).2.2.1 = some ty) (hn : narrow ty (va_rf v) = va_rf v) (hfit : fits ty (va_rf v) = true) (hft : (ftX ci)[k0]? = some 1) (d : decode cc pc = .ok (.putfield index, 3)) (k : QW p l e R s m args below meth c Q nL D cA lo (cells) (slots) (wR M a k0 v) (pc + 3) lv (st)) : QW p l e R s m args below meth c Q nL D cA lo (cells) (slots) (M) (pc) lv (va_rf v :: .ref a :: st) := q_put (M1 := wR M a k0 v) C hin ty0 hty hnm hc hci ha hk hsame hlink hfin hd hn hfit (fun _ => rfl) q_othR (q_setR hft) (List.getElem?_eq_some_iff.mp hft).1 d k
theorem q_putFR (C : Cx p s m args c cc nL own Ts D cA lo) {ref Cn : String} {T : u_T} {N ci index a k0 n : Nat} {v : (Option Nat)} (hin : ∀ w ∈ u_ws Cn T N, w ∈ Ts) (ty0 : Nat → FieldType) (hty : ∀ k, k < N → parseFieldDescriptor (T k).2.2.1 = some (ty0 k)) (hnm : ∀ a, a < N → ∀ b, b < N → a ≠ b → (T a).2.1 ≠ (T b).2.1) (hc : vwCl[ci]? = some (Cn, T, N)) (hci : ci < 100) (ha : kM M a = (ci, n)) (hk : k0 < N) (hsame : (T k0).1 = ref) (hlink : Cond.fieldLink own index ref (T k0).2.1 (T k0).2.2.1 ∈ Ts) (hfin : (T k0).2.2.2 = true) (hin2 : meth.name = "<init>") (hdecl : (T k0).1 = own) {ty : FieldType} (hd : parseFieldDescriptor (T k0).2.2.1 = some ty) (hn : narrow ty (va_rf v) = va_rf v) (hfit : fits ty (va_rf v) = true) (hft : (ftX ci)[k0]? = some 1) (d : decode cc pc = .ok (.putfield index, 3)) (k : QW p l e R s m args below meth c Q nL D cA lo (cells) (slots) (wR M a k0 v) (pc + 3) lv (st)) : QW p l e R s m args below meth c Q nL D cA lo (cells) (slots) (M) (pc) lv (va_rf v :: .ref a :: st) := q_putF (M1 := wR M a k0 v) C hin ty0 hty hnm hc hci ha hk hsame hlink hfin hin2 hdecl hd hn hfit (fun _ => rfl) q_othR (q_setR hft) (List.getElem?_eq_some_iff.mp hft).1 d k
theorem q_putL (C : Cx p s m args c cc nL own Ts D cA lo) {ref Cn : String} {T : u_T} {N ci index a k0 n : Nat} {v : Int64} (hin : ∀ w ∈ u_ws Cn T N, w ∈ Ts) (ty0 : Nat → FieldType) (hty : ∀ k, k < N → parseFieldDescriptor (T k).2.2.1 = some (ty0 k)) (hnm : ∀ a, a < N → ∀ b, b < N → a ≠ b → (T a).2.1 ≠ (T b).2.1) (hc : vwCl[ci]? = some (Cn, T, N)) (hci : ci < 100) (ha : kM M a = (ci, n)) (hk : k0 < N) (hsame : (T k0).1 = ref) (hlink : Cond.fieldLink own index ref (T k0).2.1 (T k0).2.2.1 ∈ Ts) (hfin : (T k0).2.2.2 = false) {ty : FieldType} (hd : parseFieldDescriptor (T k0).2.2.1 = some ty) (hn : narrow ty (.long v) = .long v) (hfit : fits ty (.long v) = true) (hft : (ftX ci)[k0]? = some 2) (d : decode cc pc = .ok (.putfield index, 3)) (k : QW p l e R s m args below meth c Q nL D cA lo (cells) (slots) (wL M a k0 v) (pc + 3) lv (st)) : QW p l e R s m args below meth c Q nL D cA lo (cells) (slots) (M) (pc) lv (.long v :: .ref a :: st) := q_put (M1 := wL M a k0 v) C hin ty0 hty hnm hc hci ha hk hsame hlink hfin hd hn hfit (fun _ => rfl) q_othL (q_setL hft) (List.getElem?_eq_some_iff.mp hft).1 d k
theorem q_putFL (C : Cx p s m args c cc nL own Ts D cA lo) {ref Cn : String} {T : u_T} {N ci index a k0 n : Nat} {v : Int64} (hin : ∀ w ∈ u_ws Cn T N, w ∈ Ts) (ty0 : Nat → FieldType) (hty : ∀ k, k < N → parseFieldDescriptor (T k).2.2.1 = some (ty0 k)) (hnm : ∀ a, a < N → ∀ b, b < N → a ≠ b → (T a).2.1 ≠ (T b).2.1) (hc : vwCl[ci]? = some (Cn, T, N)) (hci : ci < 100) (ha : kM M a = (ci, n)) (hk : k0 < N) (hsame : (T k0).1 = ref) (hlink : Cond.fieldLink own index ref (T k0).2.1 (T k0).2.2.1 ∈ Ts) (hfin : (T k0).2.2.2 = true) (hin2 : meth.name = "<init>") (hdecl : (T k0).1 = own) {ty : FieldType} (hd : parseFieldDescriptor (T k0).2.2.1 = some ty) (hn : narrow ty (.long v) = .long v) (hfit : fits ty (.long v) = true) (hft : (ftX ci)[k0]? = some 2) (d : decode cc pc = .ok (.putfield index, 3)) (k : QW p l e R s m args below meth c Q nL D cA lo (cells) (slots) (wL M a k0 v) (pc + 3) lv (st)) : QW p l e R s m args below meth c Q nL D cA lo (cells) (slots) (M) (pc) lv (.long v :: .ref a :: st) := q_putF (M1 := wL M a k0 v) C hin ty0 hty hnm hc hci ha hk hsame hlink hfin hin2 hdecl hd hn hfit (fun _ => rfl) q_othL (q_setL hft) (List.getElem?_eq_some_iff.mp hft).1 d k
theorem q_iald (C : Cx p s m args c cc nL own Ts D cA lo) {a n : Nat} {i : Int32} (ha : kM M a = (100, n)) (hin : vp_in i n) (d : decode cc pc = .ok (.iaload, 1)) (k : QW p l e R s m args below meth c Q nL D cA lo (cells) (slots) (M) (pc + 1) lv (.int (iM M a i.toNatClampNeg) :: st)) : QW p l e R s m args below meth c Q nL D cA lo (cells) (slots) (M) (pc) lv (.int i :: .ref a :: st) := fun H locs ls w h g => by
  have hb := (w a (by rw [ha]; show ¬ 100 = 255; omega)).2
  rw [cE_i ha (by omega) (by omega)] at hb
  exact va_iald C.1 C.2.1 C.2.2.2.2.2.1 (va_one hb) 0 0 rfl rfl hin d (k H locs ls w h g)
theorem q_zald (C : Cx p s m args c cc nL own Ts D cA lo) {a n : Nat} {i : Int32} (ha : kM M a = (101, n)) (hin : vp_in i n) (d : decode cc pc = .ok (.baload, 1)) (k : QW p l e R s m args below meth c Q nL D cA lo (cells) (slots) (M) (pc + 1) lv (.int (iM M a i.toNatClampNeg) :: st)) : QW p l e R s m args below meth c Q nL D cA lo (cells) (slots) (M) (pc) lv (.int i :: .ref a :: st) := fun H locs ls w h g => by
  have hb := (w a (by rw [ha]; show ¬ 101 = 255; omega)).2
  rw [cE_i ha (by omega) (by omega)] at hb
  exact va_zald C.1 C.2.1 C.2.2.2.2.2.1 (va_one hb) 0 1 rfl rfl hin d (k H locs ls w h g)
theorem q_rald (C : Cx p s m args c cc nL own Ts D cA lo) {a n : Nat} {i : Int32} (ha : kM M a = (120, n)) (hin : vp_in i n) (d : decode cc pc = .ok (.aaload, 1)) (k : QW p l e R s m args below meth c Q nL D cA lo (cells) (slots) (M) (pc + 1) lv (va_rf (rM M a i.toNatClampNeg) :: st)) : QW p l e R s m args below meth c Q nL D cA lo (cells) (slots) (M) (pc) lv (.int i :: .ref a :: st) := fun H locs ls w h g => by
  have hb := (w a (by rw [ha]; show ¬ 120 = 255; omega)).2
  rw [cE_r ha (by omega)] at hb
  exact va_aldq C.1 C.2.1 C.2.2.2.2.2.1 (va_one hb) 0 3 rfl rfl hin d (k H locs ls w h g)
theorem q_gald (C : Cx p s m args c cc nL own Ts D cA lo) {a n : Nat} {i : Int32} (ha : kM M a = (121, n)) (hin : vp_in i n) (d : decode cc pc = .ok (.aaload, 1)) (k : QW p l e R s m args below meth c Q nL D cA lo (cells) (slots) (M) (pc + 1) lv (va_rf (rM M a i.toNatClampNeg) :: st)) : QW p l e R s m args below meth c Q nL D cA lo (cells) (slots) (M) (pc) lv (.int i :: .ref a :: st) := fun H locs ls w h g => by
  have hb := (w a (by rw [ha]; show ¬ 121 = 255; omega)).2
  rw [cE_r ha (by omega)] at hb
  have hlt : i.toNatClampNeg < n := Nat.not_le.mp fun q => hin (Or.inr q)
  exact W.aald (v := va_rf (rM M a i.toNatClampNeg)) C.1 C.2.1 hb ((C.2.2.2.2.2.1.2 4 _ rfl).1 n (fun j => va_rf (rM M a j))) rfl (fun q => by cases q) (by show ¬ (i < 0 ∨ (arrV _ _ _).slots.size ≤ _); rw [arrV_size]; exact hin) (by show (arrV _ _ _).slots[_]? = _; rw [arrV_read _ _ hlt]) rfl rfl d (k H locs ls w h g)
theorem q_bald (C : Cx p s m args c cc nL own Ts D cA lo) {a n : Nat} {i : Int32} (ha : kM M a = (122, n)) (hin : vp_in i n) (d : decode cc pc = .ok (.aaload, 1)) (k : QW p l e R s m args below meth c Q nL D cA lo (cells) (slots) (M) (pc + 1) lv (va_rf (rM M a i.toNatClampNeg) :: st)) : QW p l e R s m args below meth c Q nL D cA lo (cells) (slots) (M) (pc) lv (.int i :: .ref a :: st) := fun H locs ls w h g => by
  have hb := (w a (by rw [ha]; show ¬ 122 = 255; omega)).2
  rw [cE_r ha (by omega)] at hb
  have hlt : i.toNatClampNeg < n := Nat.not_le.mp fun q => hin (Or.inr q)
  exact W.aald (v := va_rf (rM M a i.toNatClampNeg)) C.1 C.2.1 hb ((C.2.2.2.2.2.1.2 5 _ rfl).1 n (fun j => va_rf (rM M a j))) rfl (fun q => by cases q) (by show ¬ (i < 0 ∨ (arrV _ _ _).slots.size ≤ _); rw [arrV_size]; exact hin) (by show (arrV _ _ _).slots[_]? = _; rw [arrV_read _ _ hlt]) rfl rfl d (k H locs ls w h g)
theorem vp_nar_same (x : Int32) : narrow .boolean (.int x) = .int (vp_nar .boolean x) := rfl
theorem q_iast (C : Cx p s m args c cc nL own Ts D cA lo) {a n : Nat} {i : Int32} {x : Int32} (ha : kM M a = (100, n)) (hin : vp_in i n) (d : decode cc pc = .ok (.iastore, 1)) (k : QW p l e R s m args below meth c Q nL D cA lo (cells) (slots) (wI M a i.toNatClampNeg x) (pc + 1) lv (st)) : QW p l e R s m args below meth c Q nL D cA lo (cells) (slots) (M) (pc) lv (.int x :: .int i :: .ref a :: st) := fun H locs ls w h g => by
  have hne : (kM M a).1 ≠ 255 := by rw [ha]; show ¬ 100 = 255; omega
  have hb := (w a hne).2
  rw [cE_i  ha (by omega) (by omega)] at hb
  refine W.iast C.1 C.2.1 hb ((C.2.2.2.2.2.1.2 0 _ rfl).1 n (fun j => .int (iM M a j))) (fun q => by cases q) (by show ¬ (i < 0 ∨ (arrV _ _ _).slots.size ≤ _); rw [arrV_size]; exact hin) rfl rfl d fun H1 e z oq => ?_
  refine k H1 _ ls (w.up (fun _ => rfl) q_othI oq (fun _ => ?_)) (h.put z oq (w a hne).1) g
  rw [cE_i (M := wI M a i.toNatClampNeg x) ha (by omega) (by omega)]
  show H1[a]? = some (vp_cell _ _)
  rw [e, vp_cell_i, vp_cell_i, arrV_store]
  congr 2
  funext q
  by_cases hq : q = i.toNatClampNeg
  · subst hq
    simp [updV, iM_wI, vp_nar_same]
  · simp [updV, iM_wI, hq]
theorem q_zast (C : Cx p s m args c cc nL own Ts D cA lo) {a n : Nat} {i : Int32} {x : Int32} (ha : kM M a = (101, n)) (hin : vp_in i n) (d : decode cc pc = .ok (.bastore, 1)) (k : QW p l e R s m args below meth c Q nL D cA lo (cells) (slots) (wI M a i.toNatClampNeg (vp_nar .boolean x)) (pc + 1) lv (st)) : QW p l e R s m args below meth c Q nL D cA lo (cells) (slots) (M) (pc) lv (.int x :: .int i :: .ref a :: st) := fun H locs ls w h g => by
  have hne : (kM M a).1 ≠ 255 := by rw [ha]; show ¬ 101 = 255; omega
  have hb := (w a hne).2
  rw [cE_i  ha (by omega) (by omega)] at hb
  refine W.zast C.1 C.2.1 hb ((C.2.2.2.2.2.1.2 1 _ rfl).1 n (fun j => .int (iM M a j))) (fun q => by cases q) (by show ¬ (i < 0 ∨ (arrV _ _ _).slots.size ≤ _); rw [arrV_size]; exact hin) rfl rfl d fun H1 e z oq => ?_
  refine k H1 _ ls (w.up (fun _ => rfl) q_othI oq (fun _ => ?_)) (h.put z oq (w a hne).1) g
  rw [cE_i (M := wI M a i.toNatClampNeg (vp_nar .boolean x)) ha (by omega) (by omega)]
  show H1[a]? = some (vp_cell _ _)
  rw [e, vp_cell_i, vp_cell_i, arrV_store]
  congr 2
  funext q
  by_cases hq : q = i.toNatClampNeg
  · subst hq
    simp [updV, iM_wI, vp_nar_same]
  · simp [updV, iM_wI, hq]
/-- the kinds of arrays -/
def ak (kd : Nat) : Prop := kd = 100 ∨ kd = 101 ∨ kd = 110 ∨ kd = 120 ∨ kd = 121 ∨ kd = 122
theorem q_alen (C : Cx p s m args c cc nL own Ts D cA lo) {a kd n : Nat} (ha : kM M a = (kd, n)) (hkd : ak kd) (d : decode cc pc = .ok (.arraylength, 1)) (k : QW p l e R s m args below meth c Q nL D cA lo (cells) (slots) (M) (pc + 1) lv (.int (Int32.ofNat n) :: st)) : QW p l e R s m args below meth c Q nL D cA lo (cells) (slots) (M) (pc) lv (.ref a :: st) := fun H locs ls w h g => by
  have hb := (w a (by rw [ha]; show ¬ kd = 255; unfold ak at hkd; omega)).2
  unfold ak at hkd
  rcases hkd with e | e | e | e | e | e <;> subst e
  · rw [cE_i ha (by omega) (by omega)] at hb
    exact va_alen C.1 C.2.1 C.2.2.2.2.2.1 (va_one hb) 0 0 rfl rfl rfl d (k H locs ls w h g)
  · rw [cE_i ha (by omega) (by omega)] at hb
    exact va_alen C.1 C.2.1 C.2.2.2.2.2.1 (va_one hb) 0 1 rfl rfl rfl d (k H locs ls w h g)
  · rw [cE_l ha (by omega) (by omega)] at hb
    exact va_alen C.1 C.2.1 C.2.2.2.2.2.1 (va_one hb) 0 2 rfl rfl rfl d (k H locs ls w h g)
  · rw [cE_r ha (by omega)] at hb
    exact va_alen C.1 C.2.1 C.2.2.2.2.2.1 (va_one hb) 0 3 rfl rfl rfl d (k H locs ls w h g)
  · rw [cE_r ha (by omega)] at hb
    exact va_alen C.1 C.2.1 C.2.2.2.2.2.1 (va_one hb) 0 4 rfl rfl rfl d (k H locs ls w h g)
  · rw [cE_r ha (by omega)] at hb
    exact va_alen C.1 C.2.1 C.2.2.2.2.2.1 (va_one hb) 0 5 rfl rfl rfl d (k H locs ls w h g)
theorem q_ldc2 (C : Cx p s m args c cc nL own Ts D cA lo) {index : Nat} {v : Int64} (hm : Cond.constantLong own index v ∈ Ts) (d : decode cc pc = .ok (.ldc2_w index, 3)) (k : QW p l e R s m args below meth c Q nL D cA lo (cells) (slots) (M) (pc + 3) lv (.long v :: st)) : QW p l e R s m args below meth c Q nL D cA lo (cells) (slots) (M) (pc) lv (st) := fun H locs ls w h g => lv_ldc2 C.1 C.2.1 C.2.2.2.1 (C.2.2.2.2.1 _ hm) d (k H locs ls w h g)
theorem q_dconst0 (C : Cx p s m args c cc nL own Ts D cA lo)  (d : decode cc pc = .ok (.dconst 0, 1)) (k : QW p l e R s m args below meth c Q nL D cA lo (cells) (slots) (M) (pc + 1) lv (.double FP.dconst0 :: st)) : QW p l e R s m args below meth c Q nL D cA lo (cells) (slots) (M) (pc) lv (st) := fun H locs ls w h g => lv_dconst0 C.1 C.2.1 d (k H locs ls w h g)
theorem q_nullo (C : Cx p s m args c cc nL own Ts D cA lo)  (d : decode cc pc = .ok (.aconst_null, 1)) (k : QW p l e R s m args below meth c Q nL D cA lo (cells) (slots) (M) (pc + 1) lv (va_rf none :: st)) : QW p l e R s m args below meth c Q nL D cA lo (cells) (slots) (M) (pc) lv (st) := fun H locs ls w h g => lv_null C.1 C.2.1 d (k H locs ls w h g)
theorem q_dupo (C : Cx p s m args c cc nL own Ts D cA lo) {o : Option Nat} (d : decode cc pc = .ok (.dup, 1)) (k : QW p l e R s m args below meth c Q nL D cA lo (cells) (slots) (M) (pc + 1) lv (va_rf o :: va_rf o :: st)) : QW p l e R s m args below meth c Q nL D cA lo (cells) (slots) (M) (pc) lv (va_rf o :: st) := fun H locs ls w h g => lv_dup C.1 C.2.1 d (by cases o <;> rfl) (k H locs ls w h g)
theorem q_lookup (C : Cx p s m args c cc nL own Ts D cA lo) {dflt : Int} {ps : Array (Int × Int)} {len : Nat} {x : Int32} {off : Int} {tgt : Nat} (d : decode cc pc = .ok (.lookupswitch dflt ps, len)) (hp : (ps.toList.zip (ps.toList.drop 1)).all (fun (a, next) => a.1 < next.1) = true) (ho : Op.lookupswitch.offset ps.toList dflt x.toInt = off) (ht : (pc : Int) + off = (tgt : Int)) (k : QW p l e R s m args below meth c Q nL D cA lo (cells) (slots) (M) (tgt) lv (st)) : QW p l e R s m args below meth c Q nL D cA lo (cells) (slots) (M) (pc) lv (.int x :: st) := fun H locs ls w h g => lv_lookup C.1 C.2.1 d hp ho ht (k H locs ls w h g)
theorem q_tableOut (C : Cx p s m args c cc nL own Ts D cA lo) {dflt lo0 hi0 : Int} {offs : Array Int} {len : Nat} {x : Int32} {tgt : Nat} (d : decode cc pc = .ok (.tableswitch dflt lo0 hi0 offs, len)) (hx : x.toInt < lo0 ∨ hi0 < x.toInt) (ht : (pc : Int) + dflt = (tgt : Int)) (k : QW p l e R s m args below meth c Q nL D cA lo (cells) (slots) (M) (tgt) lv (st)) : QW p l e R s m args below meth c Q nL D cA lo (cells) (slots) (M) (pc) lv (.int x :: st) := fun H locs ls w h g => lv_tableOut C.1 C.2.1 d hx ht (k H locs ls w h g)
theorem q_tableIn (C : Cx p s m args c cc nL own Ts D cA lo) {dflt lo0 hi0 : Int} {offs : Array Int} {len : Nat} {x : Int32} {off : Int} {tgt : Nat} (d : decode cc pc = .ok (.tableswitch dflt lo0 hi0 offs, len)) (h1 : ¬ x.toInt < lo0) (h2 : ¬ hi0 < x.toInt) (ho : offs[(x.toInt - lo0).toNat]? = some off) (ht : (pc : Int) + off = (tgt : Int)) (k : QW p l e R s m args below meth c Q nL D cA lo (cells) (slots) (M) (tgt) lv (st)) : QW p l e R s m args below meth c Q nL D cA lo (cells) (slots) (M) (pc) lv (.int x :: st) := fun H locs ls w h g => lv_tableIn C.1 C.2.1 d h1 h2 ho ht (k H locs ls w h g)
def BoxAt (lo : Nat) (s : State) (t : Nat) : Prop := va_T .int t 24 (fun j => .int (boxL.getD j 0)) (fun q => lo ≤ q) s s.heap
theorem q_getbox (C : Cx p s m args c cc nL own Ts D cA lo) {index : Nat} (hlink : Cond.fieldLink own index "QuarryMesh" "BOX_RINGS" "[I" ∈ Ts) (d : decode cc pc = .ok (.getstatic index, 3)) (k : ∀ t : Nat, BoxAt lo s t → QW p l e R s m args below meth c Q nL D cA lo (cells) (slots) (M) (pc + 3) lv (.ref t :: st)) : QW p l e R s m args below meth c Q nL D cA lo (cells) (slots) (M) (pc) lv (st) := fun H locs ls w h g => by
  obtain ⟨t, h4, h5⟩ := C.2.2.2.2.2.2.2.2.2.2.2.1
  exact va_gets C.1 C.2.1 h4 h C.2.2.2.1 (C.2.2.2.2.1 _ hlink) (fun _ h9 => h9) d (k t h5 H locs ls w h g)
theorem q_boxld {t : Nat} {i : Int32} (hB : BoxAt lo s t) (C : Cx p s m args c cc nL own Ts D cA lo) (d : decode cc pc = .ok (.iaload, 1)) (hin : vp_in i 24) (k : QW p l e R s m args below meth c Q nL D cA lo (cells) (slots) (M) (pc + 1) lv (.int (boxL.getD i.toNatClampNeg 0) :: st)) : QW p l e R s m args below meth c Q nL D cA lo (cells) (slots) (M) (pc) lv (.int i :: .ref t :: st) := fun H locs ls w h g => va_ti C.1 C.2.1 hB h hin rfl d (k H locs ls w h g)
theorem q_boxlen {t : Nat} (hB : BoxAt lo s t) (C : Cx p s m args c cc nL own Ts D cA lo) (d : decode cc pc = .ok (.arraylength, 1)) (k : QW p l e R s m args below meth c Q nL D cA lo (cells) (slots) (M) (pc + 1) lv (.int 24 :: st)) : QW p l e R s m args below meth c Q nL D cA lo (cells) (slots) (M) (pc) lv (.ref t :: st) := fun H locs ls w h g => va_tlen C.1 C.2.1 hB h rfl d (k H locs ls w h g)
theorem sw_out_4 {x : Int32} (h0 : ¬ x = 0) (h1 : ¬ x = 1) (h2 : ¬ x = 2) (h3 : ¬ x = 3) : x.toInt < 0 ∨ 3 < x.toInt := by
  have e0 := lv_neT h0 (k := 0) (a := 0) rfl
  have e1 := lv_neT h1 (k := 1) (a := 1) rfl
  have e2 := lv_neT h2 (k := 2) (a := 2) rfl
  have e3 := lv_neT h3 (k := 3) (a := 3) rfl
  omega
theorem sw_out_3 {x : Int32} (h0 : ¬ x = 0) (h1 : ¬ x = 1) (h2 : ¬ x = 2) : x.toInt < 0 ∨ 2 < x.toInt := by
  have e0 := lv_neT h0 (k := 0) (a := 0) rfl
  have e1 := lv_neT h1 (k := 1) (a := 1) rfl
  have e2 := lv_neT h2 (k := 2) (a := 2) rfl
  omega
theorem sw_out_35 {x : Int32} (h0 : ¬ x = 0) (h1 : ¬ x = 1) (h2 : ¬ x = 2) (h3 : ¬ x = 3) (h4 : ¬ x = 4) (h5 : ¬ x = 5) (h6 : ¬ x = 6) (h7 : ¬ x = 7) (h8 : ¬ x = 8) (h9 : ¬ x = 9) (h10 : ¬ x = 10) (h11 : ¬ x = 11) (h12 : ¬ x = 12) (h13 : ¬ x = 13) (h14 : ¬ x = 14) (h15 : ¬ x = 15) (h16 : ¬ x = 16) (h17 : ¬ x = 17) (h18 : ¬ x = 18) (h19 : ¬ x = 19) (h20 : ¬ x = 20) (h21 : ¬ x = 21) (h22 : ¬ x = 22) (h23 : ¬ x = 23) (h24 : ¬ x = 24) (h25 : ¬ x = 25) (h26 : ¬ x = 26) (h27 : ¬ x = 27) (h28 : ¬ x = 28) (h29 : ¬ x = 29) (h30 : ¬ x = 30) (h31 : ¬ x = 31) (h32 : ¬ x = 32) (h33 : ¬ x = 33) (h34 : ¬ x = 34) : x.toInt < 0 ∨ 34 < x.toInt := by
  have e0 := lv_neT h0 (k := 0) (a := 0) rfl
  have e1 := lv_neT h1 (k := 1) (a := 1) rfl
  have e2 := lv_neT h2 (k := 2) (a := 2) rfl
  have e3 := lv_neT h3 (k := 3) (a := 3) rfl
  have e4 := lv_neT h4 (k := 4) (a := 4) rfl
  have e5 := lv_neT h5 (k := 5) (a := 5) rfl
  have e6 := lv_neT h6 (k := 6) (a := 6) rfl
  have e7 := lv_neT h7 (k := 7) (a := 7) rfl
  have e8 := lv_neT h8 (k := 8) (a := 8) rfl
  have e9 := lv_neT h9 (k := 9) (a := 9) rfl
  have e10 := lv_neT h10 (k := 10) (a := 10) rfl
  have e11 := lv_neT h11 (k := 11) (a := 11) rfl
  have e12 := lv_neT h12 (k := 12) (a := 12) rfl
  have e13 := lv_neT h13 (k := 13) (a := 13) rfl
  have e14 := lv_neT h14 (k := 14) (a := 14) rfl
  have e15 := lv_neT h15 (k := 15) (a := 15) rfl
  have e16 := lv_neT h16 (k := 16) (a := 16) rfl
  have e17 := lv_neT h17 (k := 17) (a := 17) rfl
  have e18 := lv_neT h18 (k := 18) (a := 18) rfl
  have e19 := lv_neT h19 (k := 19) (a := 19) rfl
  have e20 := lv_neT h20 (k := 20) (a := 20) rfl
  have e21 := lv_neT h21 (k := 21) (a := 21) rfl
  have e22 := lv_neT h22 (k := 22) (a := 22) rfl
  have e23 := lv_neT h23 (k := 23) (a := 23) rfl
  have e24 := lv_neT h24 (k := 24) (a := 24) rfl
  have e25 := lv_neT h25 (k := 25) (a := 25) rfl
  have e26 := lv_neT h26 (k := 26) (a := 26) rfl
  have e27 := lv_neT h27 (k := 27) (a := 27) rfl
  have e28 := lv_neT h28 (k := 28) (a := 28) rfl
  have e29 := lv_neT h29 (k := 29) (a := 29) rfl
  have e30 := lv_neT h30 (k := 30) (a := 30) rfl
  have e31 := lv_neT h31 (k := 31) (a := 31) rfl
  have e32 := lv_neT h32 (k := 32) (a := 32) rfl
  have e33 := lv_neT h33 (k := 33) (a := 33) rfl
  have e34 := lv_neT h34 (k := 34) (a := 34) rfl
  omega
theorem sw_out_13 {x : Int32} (h0 : ¬ x = 0) (h1 : ¬ x = 1) (h2 : ¬ x = 2) (h3 : ¬ x = 3) (h4 : ¬ x = 4) (h5 : ¬ x = 5) (h6 : ¬ x = 6) (h7 : ¬ x = 7) (h8 : ¬ x = 8) (h9 : ¬ x = 9) (h10 : ¬ x = 10) (h11 : ¬ x = 11) (h12 : ¬ x = 12) : x.toInt < 0 ∨ 12 < x.toInt := by
  have e0 := lv_neT h0 (k := 0) (a := 0) rfl
  have e1 := lv_neT h1 (k := 1) (a := 1) rfl
  have e2 := lv_neT h2 (k := 2) (a := 2) rfl
  have e3 := lv_neT h3 (k := 3) (a := 3) rfl
  have e4 := lv_neT h4 (k := 4) (a := 4) rfl
  have e5 := lv_neT h5 (k := 5) (a := 5) rfl
  have e6 := lv_neT h6 (k := 6) (a := 6) rfl
  have e7 := lv_neT h7 (k := 7) (a := 7) rfl
  have e8 := lv_neT h8 (k := 8) (a := 8) rfl
  have e9 := lv_neT h9 (k := 9) (a := 9) rfl
  have e10 := lv_neT h10 (k := 10) (a := 10) rfl
  have e11 := lv_neT h11 (k := 11) (a := 11) rfl
  have e12 := lv_neT h12 (k := 12) (a := 12) rfl
  omega
theorem sw_out_12 {x : Int32} (h0 : ¬ x = 0) (h1 : ¬ x = 1) (h2 : ¬ x = 2) (h3 : ¬ x = 3) (h4 : ¬ x = 4) (h5 : ¬ x = 5) (h6 : ¬ x = 6) (h7 : ¬ x = 7) (h8 : ¬ x = 8) (h9 : ¬ x = 9) (h10 : ¬ x = 10) (h11 : ¬ x = 11) : x.toInt < 0 ∨ 11 < x.toInt := by
  have e0 := lv_neT h0 (k := 0) (a := 0) rfl
  have e1 := lv_neT h1 (k := 1) (a := 1) rfl
  have e2 := lv_neT h2 (k := 2) (a := 2) rfl
  have e3 := lv_neT h3 (k := 3) (a := 3) rfl
  have e4 := lv_neT h4 (k := 4) (a := 4) rfl
  have e5 := lv_neT h5 (k := 5) (a := 5) rfl
  have e6 := lv_neT h6 (k := 6) (a := 6) rfl
  have e7 := lv_neT h7 (k := 7) (a := 7) rfl
  have e8 := lv_neT h8 (k := 8) (a := 8) rfl
  have e9 := lv_neT h9 (k := 9) (a := 9) rfl
  have e10 := lv_neT h10 (k := 10) (a := 10) rfl
  have e11 := lv_neT h11 (k := 11) (a := 11) rfl
  omega
end QR
