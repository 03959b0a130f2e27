/-! Memory as four functions of address and place: kind and length; ints; references; longs. -/
abbrev Mm : Type := (Nat → Nat × Nat) × (Nat → Nat → Int32) × (Nat → Nat → Option Nat) × (Nat → Nat → Int64)
def kM (M : Mm) (a : Nat) : Nat × Nat := M.1 a
def iM (M : Mm) (a k : Nat) : Int32 := M.2.1 a k
def rM (M : Mm) (a k : Nat) : Option Nat := M.2.2.1 a k
def lM (M : Mm) (a k : Nat) : Int64 := M.2.2.2 a k
def u2 {α : Type} (f : Nat → Nat → α) (a k : Nat) (v : α) : Nat → Nat → α := fun b j => if b = a ∧ j = k then v else f b j
def wI (M : Mm) (a k : Nat) (v : Int32) : Mm := (M.1, u2 M.2.1 a k v, M.2.2.1, M.2.2.2)
def wR (M : Mm) (a k : Nat) (v : Option Nat) : Mm := (M.1, M.2.1, u2 M.2.2.1 a k v, M.2.2.2)
def wL (M : Mm) (a k : Nat) (v : Int64) : Mm := (M.1, M.2.1, M.2.2.1, u2 M.2.2.2 a k v)
/-- a new thing: its kind and length, its places 0 and null -/
def wN (M : Mm) (a kd n : Nat) : Mm := (fun b => if b = a then (kd, n) else M.1 b, fun b j => if b = a then 0 else M.2.1 b j, fun b j => if b = a then none else M.2.2.1 b j, fun b j => if b = a then 0 else M.2.2.2 b j)
theorem kM_wI (M : Mm) (a k b : Nat) (v : Int32) : kM (wI M a k v) b = kM M b := rfl
theorem kM_wR (M : Mm) (a k b : Nat) (v : Option Nat) : kM (wR M a k v) b = kM M b := rfl
theorem kM_wL (M : Mm) (a k b : Nat) (v : Int64) : kM (wL M a k v) b = kM M b := rfl
theorem kM_wN (M : Mm) (a kd n b : Nat) : kM (wN M a kd n) b = if b = a then (kd, n) else kM M b := rfl
theorem iM_wI (M : Mm) (a k b j : Nat) (v : Int32) : iM (wI M a k v) b j = if b = a ∧ j = k then v else iM M b j := rfl
theorem iM_wR (M : Mm) (a k b j : Nat) (v : Option Nat) : iM (wR M a k v) b j = iM M b j := rfl
theorem iM_wL (M : Mm) (a k b j : Nat) (v : Int64) : iM (wL M a k v) b j = iM M b j := rfl
theorem iM_wN (M : Mm) (a kd n b j : Nat) : iM (wN M a kd n) b j = if b = a then 0 else iM M b j := rfl
theorem rM_wI (M : Mm) (a k b j : Nat) (v : Int32) : rM (wI M a k v) b j = rM M b j := rfl
theorem rM_wR (M : Mm) (a k b j : Nat) (v : Option Nat) : rM (wR M a k v) b j = if b = a ∧ j = k then v else rM M b j := rfl
theorem rM_wL (M : Mm) (a k b j : Nat) (v : Int64) : rM (wL M a k v) b j = rM M b j := rfl
theorem rM_wN (M : Mm) (a kd n b j : Nat) : rM (wN M a kd n) b j = if b = a then none else rM M b j := rfl
theorem lM_wI (M : Mm) (a k b j : Nat) (v : Int32) : lM (wI M a k v) b j = lM M b j := rfl
theorem lM_wR (M : Mm) (a k b j : Nat) (v : Option Nat) : lM (wR M a k v) b j = lM M b j := rfl
theorem lM_wL (M : Mm) (a k b j : Nat) (v : Int64) : lM (wL M a k v) b j = if b = a ∧ j = k then v else lM M b j := rfl
theorem lM_wN (M : Mm) (a kd n b j : Nat) : lM (wN M a kd n) b j = if b = a then 0 else lM M b j := rfl
/-! How a thing of the memory lies in the heap. -/
def qv (t : Nat) (M : Mm) (a k : Nat) : Value := match t with
  | 0 => .int (iM M a k)
  | 1 => va_rf (rM M a k)
  | _ => .long (lM M a k)
def qvs (M : Mm) (a : Nat) : Nat → List Nat → List Value
  | _, [] => []
  | k, t :: ts => qv t M a k :: qvs M a (k + 1) ts
theorem qvs_get (M : Mm) (a : Nat) : ∀ (ts : List Nat) (j k t : Nat), ts[k]? = some t → (qvs M a j ts)[k]? = some (qv t M a (j + k)) := by
  intro ts
  induction ts with
  | nil => intro j k t h; simp at h
  | cons t0 ts ih =>
    intro j k t h
    cases k with
    | zero =>
      have : t0 = t := by simpa using h
      subst this
      rfl
    | succ k =>
      have h2 : ts[k]? = some t := by simpa using h
      have := ih (j + 1) k t h2
      rw [show j + 1 + k = j + (k + 1) by omega] at this
      simpa [qvs] using this
theorem qvs_len (M : Mm) (a : Nat) : ∀ (ts : List Nat) (j : Nat), (qvs M a j ts).length = ts.length := by
  intro ts
  induction ts with
  | nil => intro j; rfl
  | cons t0 ts ih => intro j; simp [qvs, ih]
theorem qvs_same {M M' : Mm} {a : Nat} : ∀ (ts : List Nat) (j : Nat), (∀ k t, ts[k]? = some t → qv t M' a (j + k) = qv t M a (j + k)) → qvs M' a j ts = qvs M a j ts := by
  intro ts
  induction ts with
  | nil => intro j _; rfl
  | cons t0 ts ih =>
    intro j h
    have h0 := h 0 t0 rfl
    have h1 := ih (j + 1) (fun k t hk => by
      have := h (k + 1) t (by simpa using hk)
      rw [show j + (k + 1) = j + 1 + k by omega] at this
      exact this)
    rw [Nat.add_zero] at h0
    simp only [qvs, h0, h1]
theorem qvs_set {M M' : Mm} {a i : Nat} {v : Value} : ∀ (ts : List Nat) (j : Nat), i < ts.length → (∀ k t, ts[k]? = some t → k ≠ i → qv t M' a (j + k) = qv t M a (j + k)) → (∀ t, ts[i]? = some t → qv t M' a (j + i) = v) → (qvs M a j ts).set i v = qvs M' a j ts := by
  induction i with
  | zero =>
    intro ts j hi h1 h2
    cases ts with
    | nil => simp at hi
    | cons t0 ts =>
      have e0 := h2 t0 rfl
      rw [Nat.add_zero] at e0
      simp only [qvs, List.set_cons_zero, e0]
      congr 1
      exact (qvs_same ts (j + 1) (fun k t hk => by
        have := h1 (k + 1) t (by simpa using hk) (by omega)
        rw [show j + (k + 1) = j + 1 + k by omega] at this
        exact this)).symm
  | succ i ih =>
    intro ts j hi h1 h2
    cases ts with
    | nil => simp at hi
    | cons t0 ts =>
      have e0 := h1 0 t0 rfl (by omega)
      rw [Nat.add_zero] at e0
      simp only [qvs, List.set_cons_succ, e0]
      congr 1
      refine ih ts (j + 1) (by simpa using hi) (fun k t hk hne => ?_) (fun t ht => ?_)
      · have := h1 (k + 1) t (by simpa using hk) (by omega)
        rw [show j + (k + 1) = j + 1 + k by omega] at this
        exact this
      · have := h2 t (by simpa using ht)
        rw [show j + (i + 1) = j + 1 + i by omega] at this
        exact this
def cE (cA : Nat → ClassId) (M : Mm) (a : Nat) : va_E :=
  if (kM M a).1 < 100 then .inr ((kM M a).1, qvs M a 0 (ftX (kM M a).1))
  else if (kM M a).1 < 110 then .inl (cA (kM M a).1, (kM M a).2, .inl (iM M a))
  else if (kM M a).1 < 120 then .inl (cA (kM M a).1, (kM M a).2, .inr (.inl (lM M a)))
  else .inl (cA (kM M a).1, (kM M a).2, .inr (.inr (.inr (.inr (rM M a)))))
theorem cE_o {cA : Nat → ClassId} {M : Mm} {a k n : Nat} (h : kM M a = (k, n)) (hk : k < 100) : cE cA M a = .inr (k, qvs M a 0 (ftX k)) := by simp [cE, h, hk]
theorem cE_i {cA : Nat → ClassId} {M : Mm} {a k n : Nat} (h : kM M a = (k, n)) (h1 : 100 ≤ k) (h2 : k < 110) : cE cA M a = .inl (cA k, n, .inl (iM M a)) := by simp [cE, h, show ¬ k < 100 by omega, h2]
theorem cE_l {cA : Nat → ClassId} {M : Mm} {a k n : Nat} (h : kM M a = (k, n)) (h1 : 110 ≤ k) (h2 : k < 120) : cE cA M a = .inl (cA k, n, .inr (.inl (lM M a))) := by simp [cE, h, show ¬ k < 100 by omega, show ¬ k < 110 by omega, h2]
theorem cE_r {cA : Nat → ClassId} {M : Mm} {a k n : Nat} (h : kM M a = (k, n)) (h1 : 120 ≤ k) : cE cA M a = .inl (cA k, n, .inr (.inr (.inr (.inr (rM M a))))) := by simp [cE, h, show ¬ k < 100 by omega, show ¬ k < 110 by omega, show ¬ k < 120 by omega]
/-- same kinds, and the same places of one thing: the same cell -/
theorem cE_same {cA : Nat → ClassId} {M M' : Mm} {a : Nat} (hk : kM M' a = kM M a) (hi : ∀ j, iM M' a j = iM M a j) (hr : ∀ j, rM M' a j = rM M a j) (hl : ∀ j, lM M' a j = lM M a j) : cE cA M' a = cE cA M a := by
  have e1 : iM M' a = iM M a := funext hi
  have e2 : rM M' a = rM M a := funext hr
  have e3 : lM M' a = lM M a := funext hl
  have e4 : ∀ ts j, qvs M' a j ts = qvs M a j ts := fun ts j => qvs_same ts j (fun k t _ => by
    unfold qv
    match t with
    | 0 => simp [e1]
    | 1 => simp [e2]
    | _ + 2 => simp [e3])
  unfold cE
  rw [hk, e1, e2, e3, e4]
def Wd (D : va_G) (cA : Nat → ClassId) (lo : Nat) (M : Mm) (H : Heap) : Prop := ∀ a : Nat, (kM M a).1 ≠ 255 → lo ≤ a ∧ va_at D vwCl (a, cE cA M a) H
theorem Wd.lt {D : va_G} {cA : Nat → ClassId} {lo : Nat} {M : Mm} {H : Heap} (h : Wd D cA lo M H) {a : Nat} (ha : (kM M a).1 ≠ 255) : a < H.size := (h a ha).2.lt
theorem Wd.up {D : va_G} {cA : Nat → ClassId} {lo : Nat} {M M' : Mm} {H H1 : Heap} (h : Wd D cA lo M H) {a : Nat} (hk : ∀ b, kM M' b = kM M b)
    (ho : ∀ b, b ≠ a → (∀ j, iM M' b j = iM M b j) ∧ (∀ j, rM M' b j = rM M b j) ∧ ∀ j, lM M' b j = lM M b j) (hq : ∀ q, q ≠ a → H1[q]? = H[q]?) (ha : lo ≤ a → va_at D vwCl (a, cE cA M' a) H1) : Wd D cA lo M' H1 := by
  intro b hb
  rw [hk] at hb
  by_cases e : b = a
  · subst e
    exact ⟨(h b hb).1, ha (h b hb).1⟩
  · obtain ⟨o1, o2, o3⟩ := ho b e
    refine ⟨(h b hb).1, ?_⟩
    rw [cE_same (hk b) o1 o2 o3]
    exact (h b hb).2.kept (hq b e)
theorem Wd.new {D : va_G} {cA : Nat → ClassId} {lo : Nat} {M : Mm} {H H1 : Heap} (h : Wd D cA lo M H) {a kd n : Nat} (ha : H.size = a) (hlo : lo ≤ a) (hq : ∀ q, q < a → H1[q]? = H[q]?) (hn : va_at D vwCl (a, cE cA (wN M a kd n) a) H1) : Wd D cA lo (wN M a kd n) H1 := by
  intro b hb
  by_cases e : b = a
  · subst e
    exact ⟨hlo, hn⟩
  · have e1 : kM (wN M a kd n) b = kM M b := by rw [kM_wN, if_neg e]
    rw [e1] at hb
    have hl := h.lt hb
    refine ⟨(h b hb).1, ?_⟩
    rw [cE_same e1 (fun j => by rw [iM_wN, if_neg e]) (fun j => by rw [rM_wN, if_neg e]) (fun j => by rw [lM_wN, if_neg e])]
    exact (h b hb).2.kept (hq b (by omega))
theorem Wd.kept {D : va_G} {cA : Nat → ClassId} {lo : Nat} {M : Mm} {H H1 : Heap} (h : Wd D cA lo M H) (hq : ∀ q, q < H.size → H1[q]? = H[q]?) : Wd D cA lo M H1 := fun b hb => ⟨(h b hb).1, (h b hb).2.kept (hq b (h.lt hb))⟩
/-- what stands fixed in a method's walk -/
def Cx (p : Program) (s : State) (m : MethodId) (args : Array Value) (c : Code) (cc : ByteArray) (nL : Nat) (own : String) (Ts : List Cond) (D : va_G) (cA : Nat → ClassId) (lo : Nat) : Prop :=
  p.tables.exec = Jvm.exec ∧ c.code = cc ∧ c.maxLocals = nL ∧ s.vm.findClass own = some m.cls ∧ (∀ w ∈ Ts, w.before args s = true) ∧ va_K D vwCl (tysC cA) s ∧ lo ≤ s.heap.size ∧ NW s ∧ Lo lo s s.heap
/-- the machine at pc, with locals lv and stack st, and the memory M -/
def QW (p : Program) (l : Launch) (e : Env) (R : Room) (s : State) (m : MethodId) (args : Array Value) (below : List Frame) (meth : Method) (c : Code) (Q : State → Prop) (nL : Nat) (D : va_G) (cA : Nat → ClassId) (lo : Nat) (cells slots : Nat) (M : Mm) (pc : Nat) (lv : List (Nat × Value)) (st : List Value) : Prop :=
  ∀ (H : Heap) (locs : List Loc) (ls : Array Slot), Wd D cA lo M H → va_S (fun q => lo ≤ q) s.heap H locs → lv_has ls nL lv → W p l e R s m args below meth c H locs cells slots Q (F0 m pc ls st)
