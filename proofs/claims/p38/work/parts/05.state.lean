/-! the classes' fields by type (0 whole number, 1 reference, 2 long), the array classes, the words that are not among a method's, what lies below the walk's own cells -/
def ftX : Nat → List Nat
  | 0 => [1, 1, 1]
  | 1 => [1, 1, 1, 0, 0]
  | 2 => [1, 0]
  | 3 => [1, 1, 0, 0]
  | 4 => [1, 1, 1, 1, 1]
  | 5 => [1, 0]
  | 6 => [1, 1, 1]
  | 7 => [1, 1, 1, 1, 1, 0]
  | 8 => [1, 1, 1, 1, 1, 1, 1, 1]
  | _ => []
def tysC (cA : Nat → ClassId) : List (ClassId × FieldType) := [(cA 100, .int), (cA 101, .boolean), (cA 110, .byte), (cA 120, .object "QuarryMesh$Ring"), (cA 121, .array .int), (cA 122, .array .boolean)]
def nwM : List (String × Nat × MethodName × String) := [(RX8, 11, yX3_init, "QuarryMesh"), (RX1, 17, yX5_init, "QuarryMesh"), (RX8, 25, yX2_init, "QuarryMesh"), (RX0, 11, yX5_init, "QuarryMesh"), (RX4, 20, yX5_init, "QuarryMesh"), (RX8, 60, yX5_init, "QuarryMesh"), (RX3, 27, yX8_isPointNumber, "QuarryMesh"), (RX2, 19, yX8_isPointNumber, "QuarryMesh"), (RX7, 114, yX8_isFaceNumber, "QuarryMesh"), (RX1, 62, yX8_isFaceNumber, "QuarryMesh"), (RX6, 51, yX8_isPointNumber, "QuarryMesh"), (RX4, 105, yX8_isPointNumber, "QuarryMesh"), (RX7, 111, yX8_isPointNumber, "QuarryMesh")]
def NW (U : State) : Prop := ∀ q ∈ nwM, va_Nw (.methodLinkNest q.1 q.2.1 q.2.2.1 q.2.2.2) U
theorem NW.go {s U : State} (hW : s.WarmedH U.vm) (h : NW s) : NW U := fun q hq => va_Nw.warmM hW (h q hq)
def boxL : List Int32 := [0, 3, 2, 1, 4, 5, 6, 7, 0, 1, 5, 4, 1, 2, 6, 5, 2, 3, 7, 6, 3, 0, 4, 7]
def txts : List (String × Nat × String) := [(RX8, 316, "not a fitting argument"), (RX8, 321, "refused"), (RX8, 330, "no such FACE"), (RX8, 257, "no such place"), (RX8, 328, "no such POINT")]
def thE : List String := ["java/lang/IndexOutOfBoundsException", "java/lang/IllegalArgumentException", "java/lang/IllegalStateException"]
def thN : List String := ["java/lang/RuntimeException", "java/lang/Exception"]
def thD : List MethodName := [Bundle.initS "java/lang/RuntimeException", Bundle.initS "java/lang/Exception", Bundle.initS Bundle.tN]
def thB (E : String) : List Cond := [.declares (Bundle.initS "java/lang/RuntimeException"), .declares (Bundle.initS "java/lang/Exception"), .declares (Bundle.initS Bundle.tN), .castable E E]
def Lo (lo : Nat) (U : State) (H : Heap) : Prop :=
  va_AO "QuarryMesh$Ring" U ∧ vx_Zq Bundle.tN "UNASSIGNED_STACK" Bundle.steD (fun q => lo ≤ q) U H ∧ vx_Zq Bundle.tN "SUPPRESSED_SENTINEL" Bundle.listD (fun q => lo ≤ q) U H ∧
  (∃ t, va_Z "QuarryMesh" "BOX_RINGS" "[I" (.ref t) (fun q => lo ≤ q) U H ∧ va_T .int t 24 (fun j => .int (boxL.getD j 0)) (fun q => lo ≤ q) U H) ∧ (∀ q ∈ txts, ∃ sa, vk_R q.1 q.2.1 q.2.2 sa U) ∧
  (∀ y ∈ thD, va_Nw (.declares y) U) ∧ (∀ E ∈ thE, va_Nw (.castable E E) U) ∧ (∀ E ∈ thE, ∀ F ∈ thE, E ≠ F → va_Nc E F U) ∧ va_AOA .int U ∧ va_AOA .boolean U
theorem va_AOA.go {ty : FieldType} {s U : State} (hW : s.WarmedH U.vm) (h : va_AOA ty s) : va_AOA ty U := by
  have h2 : (Cond.arrayOver (.array ty)).before #[] (s.setVm U.vm) = true := (Cond.arrayOver_setVmC hW.alike (.array ty)).trans h
  unfold va_AOA va_Nw Cond.before Cond.holds
  unfold Cond.before Cond.holds at h2
  exact h2
theorem Lo.go {lo : Nat} {s U : State} {H H1 : Heap} (hW : s.WarmedH U.vm) (hk : ∀ q : Nat, q < H.size → ¬ lo ≤ q → H1[q]? = H[q]?) (h : Lo lo s H) : Lo lo U H1 := by
  obtain ⟨h1, h2, h3, ⟨t, h4, h5⟩, h6, h7, h8, h9, h10, h11⟩ := h
  exact ⟨va_AO.moved hW.alike h1, vx_Zq.moved hW.alike (h2.kept hk), vx_Zq.moved hW.alike (h3.kept hk), ⟨t, va_Z.moved hW.alike (h4.kept hk), va_T.moved hW.alike (h5.kept hk)⟩, fun q hq => by
    obtain ⟨sa, hs⟩ := h6 q hq
    exact ⟨sa, vk_R.warm hW hs⟩, fun y hy => va_Nw.warmD hW (h7 y hy), fun E hE => va_Nw.warmC hW (h8 E hE), fun E hE F hF hne => va_Nc.moved hW.alike (h9 E hE F hF hne), h10.go hW, h11.go hW⟩
