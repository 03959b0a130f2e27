section
variable {A : Nat → Nat} {M : Mm}
theorem n_needPoint (h : FRSH A M) {Cc Zz : Nat} {x : Int32} {Q : Mm → Prop} {X : String → Mm → Prop} (hc : 1 ≤ Cc) (hz : 6 ≤ Zz) (hx : X "java/lang/IndexOutOfBoundsException" M) : T_X8_needPoint Cc Zz M (A 0) x Q X := by
  unfold T_X8_needPoint
  exact ⟨h.1.1.k 0, A 1, h.1.1.r 0 0 1, ⟨by omega, by omega⟩, h.1.1.k 1, t_phas h.2.2.1 (fun p hp e ht => by simp at ht) (fun _ => ⟨fun z => absurd rfl z, fun _ => ⟨by omega, by omega, hx⟩⟩)⟩
theorem n_needPoints (h : FRSH A M) {Cc Zz : Nat} {x y : Int32} {Q : Mm → Prop} {X : String → Mm → Prop} (hc : 1 ≤ Cc) (hz : 6 ≤ Zz) (hx : X "java/lang/IndexOutOfBoundsException" M) : T_X8_needPoints Cc Zz M (A 0) x y Q X := by
  unfold T_X8_needPoints
  exact ⟨1, 6, ⟨by omega, by omega⟩, h.1.1.k 0, n_needPoint h (by omega) (by omega) hx⟩
theorem n_needFace (h : FRSH A M) {Cc Zz : Nat} {x : Int32} {Q : Mm → Prop} {X : String → Mm → Prop} (hc : 1 ≤ Cc) (hz : 6 ≤ Zz) (hx : X "java/lang/IndexOutOfBoundsException" M) : T_X8_needFace Cc Zz M (A 0) x Q X := by
  unfold T_X8_needFace
  exact ⟨h.1.1.k 0, A 7, h.1.1.r 0 1 7, ⟨by omega, by omega⟩, h.1.1.k 7, t_has h.1 (fun f hf e ht => absurd rfl ht) (fun _ => ⟨fun z => absurd rfl z, fun _ => ⟨by omega, by omega, hx⟩⟩)⟩
theorem w_move (h : FRSH A M) {Cc Zz o : Nat} {x0 x1 x2 x3 : Int32} {Q : Int32 → Mm → Prop} {X : String → Mm → Prop} (hc : 10 ≤ Cc) (hz : 60 ≤ Zz) (hq : Q 1 M) : T_L_move Cc Zz M (A 0) x0 x1 x2 x3 o Q X := by
  unfold T_L_move
  refine ⟨1, 6, ⟨by omega, by omega⟩, h.1.1.k 0, ?_⟩
  unfold T_X8_move
  intros
  refine ⟨1, 6, ⟨by omega, by omega⟩, h.1.1.k 0, n_needPoint h (by omega) (by omega) ?_⟩
  first | exact Or.inl ⟨rfl, by omega, by omega, hq⟩ | exact ⟨rfl, by omega, by omega, hq⟩
theorem w_dropPoint (h : FRSH A M) {Cc Zz o : Nat} {x0 : Int32} {Q : Int32 → Mm → Prop} {X : String → Mm → Prop} (hc : 10 ≤ Cc) (hz : 60 ≤ Zz) (hq : Q 1 M) : T_L_dropPoint Cc Zz M (A 0) x0 o Q X := by
  unfold T_L_dropPoint
  refine ⟨1, 6, ⟨by omega, by omega⟩, h.1.1.k 0, ?_⟩
  unfold T_X8_dropPoint
  intros
  refine ⟨1, 6, ⟨by omega, by omega⟩, h.1.1.k 0, n_needPoint h (by omega) (by omega) ?_⟩
  first | exact Or.inl ⟨rfl, by omega, by omega, hq⟩ | exact ⟨rfl, by omega, by omega, hq⟩
theorem w_at (h : FRSH A M) {Cc Zz o : Nat} {x0 x1 : Int32} {Q : Int32 → Mm → Prop} {X : String → Mm → Prop} (hc : 10 ≤ Cc) (hz : 60 ≤ Zz) (hq : Q 1 M) : T_L_at Cc Zz M (A 0) x0 x1 o Q X := by
  unfold T_L_at
  refine ⟨1, 6, ⟨by omega, by omega⟩, h.1.1.k 0, ?_⟩
  unfold T_X8_at
  intros
  refine ⟨1, 6, ⟨by omega, by omega⟩, h.1.1.k 0, n_needPoint h (by omega) (by omega) ?_⟩
  first | exact Or.inl ⟨rfl, by omega, by omega, hq⟩ | exact ⟨rfl, by omega, by omega, hq⟩
theorem w_around (h : FRSH A M) {Cc Zz o : Nat} {x0 x1 : Int32} {Q : Int32 → Mm → Prop} {X : String → Mm → Prop} (hc : 10 ≤ Cc) (hz : 60 ≤ Zz) (hq : Q 1 M) : T_L_around Cc Zz M (A 0) x0 x1 o Q X := by
  unfold T_L_around
  refine ⟨1, 6, ⟨by omega, by omega⟩, h.1.1.k 0, ?_⟩
  unfold T_X8_around
  intros
  refine ⟨1, 6, ⟨by omega, by omega⟩, h.1.1.k 0, n_needPoint h (by omega) (by omega) ?_⟩
  first | exact Or.inl ⟨rfl, by omega, by omega, hq⟩ | exact ⟨rfl, by omega, by omega, hq⟩
theorem w_face (h : FRSH A M) {Cc Zz o : Nat} {x0 x1 x2 x3 : Int32} {Q : Int32 → Mm → Prop} {X : String → Mm → Prop} (hc : 10 ≤ Cc) (hz : 60 ≤ Zz) (hq : Q 1 M) : T_L_face Cc Zz M (A 0) x0 x1 x2 x3 o Q X := by
  unfold T_L_face
  refine ⟨1, 6, ⟨by omega, by omega⟩, h.1.1.k 0, ?_⟩
  unfold T_X8_face
  intros
  refine ⟨1, 6, ⟨by omega, by omega⟩, h.1.1.k 0, n_needPoints h (by omega) (by omega) ?_⟩
  first | exact Or.inl ⟨rfl, by omega, by omega, hq⟩ | exact ⟨rfl, by omega, by omega, hq⟩
theorem w_split (h : FRSH A M) {Cc Zz o : Nat} {x0 x1 : Int32} {Q : Int32 → Mm → Prop} {X : String → Mm → Prop} (hc : 10 ≤ Cc) (hz : 60 ≤ Zz) (hq : Q 1 M) : T_L_split Cc Zz M (A 0) x0 x1 o Q X := by
  unfold T_L_split
  refine ⟨1, 6, ⟨by omega, by omega⟩, h.1.1.k 0, ?_⟩
  unfold T_X8_split
  intros
  refine ⟨1, 6, ⟨by omega, by omega⟩, h.1.1.k 0, n_needPoints h (by omega) (by omega) ?_⟩
  first | exact Or.inl ⟨rfl, by omega, by omega, hq⟩ | exact ⟨rfl, by omega, by omega, hq⟩
theorem w_join (h : FRSH A M) {Cc Zz o : Nat} {x0 x1 : Int32} {Q : Int32 → Mm → Prop} {X : String → Mm → Prop} (hc : 10 ≤ Cc) (hz : 60 ≤ Zz) (hq : Q 1 M) : T_L_join Cc Zz M (A 0) x0 x1 o Q X := by
  unfold T_L_join
  refine ⟨1, 6, ⟨by omega, by omega⟩, h.1.1.k 0, ?_⟩
  unfold T_X8_join
  intros
  refine ⟨1, 6, ⟨by omega, by omega⟩, h.1.1.k 0, n_needPoints h (by omega) (by omega) ?_⟩
  first | exact Or.inl ⟨rfl, by omega, by omega, hq⟩ | exact ⟨rfl, by omega, by omega, hq⟩
theorem w_collapse (h : FRSH A M) {Cc Zz o : Nat} {x0 x1 : Int32} {Q : Int32 → Mm → Prop} {X : String → Mm → Prop} (hc : 10 ≤ Cc) (hz : 60 ≤ Zz) (hq : Q 1 M) : T_L_collapse Cc Zz M (A 0) x0 x1 o Q X := by
  unfold T_L_collapse
  refine ⟨1, 6, ⟨by omega, by omega⟩, h.1.1.k 0, ?_⟩
  unfold T_X8_collapse
  intros
  refine ⟨1, 6, ⟨by omega, by omega⟩, h.1.1.k 0, n_needPoints h (by omega) (by omega) ?_⟩
  first | exact Or.inl ⟨rfl, by omega, by omega, hq⟩ | exact ⟨rfl, by omega, by omega, hq⟩
theorem w_flip (h : FRSH A M) {Cc Zz o : Nat} {x0 x1 : Int32} {Q : Int32 → Mm → Prop} {X : String → Mm → Prop} (hc : 10 ≤ Cc) (hz : 60 ≤ Zz) (hq : Q 1 M) : T_L_flip Cc Zz M (A 0) x0 x1 o Q X := by
  unfold T_L_flip
  refine ⟨1, 6, ⟨by omega, by omega⟩, h.1.1.k 0, ?_⟩
  unfold T_X8_flip
  intros
  refine ⟨1, 6, ⟨by omega, by omega⟩, h.1.1.k 0, n_needPoints h (by omega) (by omega) ?_⟩
  first | exact Or.inl ⟨rfl, by omega, by omega, hq⟩ | exact ⟨rfl, by omega, by omega, hq⟩
theorem w_fill (h : FRSH A M) {Cc Zz o : Nat} {x0 x1 : Int32} {Q : Int32 → Mm → Prop} {X : String → Mm → Prop} (hc : 10 ≤ Cc) (hz : 60 ≤ Zz) (hq : Q 1 M) : T_L_fill Cc Zz M (A 0) x0 x1 o Q X := by
  unfold T_L_fill
  refine ⟨1, 6, ⟨by omega, by omega⟩, h.1.1.k 0, ?_⟩
  unfold T_X8_fill
  intros
  refine ⟨1, 6, ⟨by omega, by omega⟩, h.1.1.k 0, n_needPoints h (by omega) (by omega) ?_⟩
  first | exact Or.inl ⟨rfl, by omega, by omega, hq⟩ | exact ⟨rfl, by omega, by omega, hq⟩
theorem w_faceOf (h : FRSH A M) {Cc Zz o : Nat} {x0 x1 : Int32} {Q : Int32 → Mm → Prop} {X : String → Mm → Prop} (hc : 10 ≤ Cc) (hz : 60 ≤ Zz) (hq : Q 1 M) : T_L_faceOf Cc Zz M (A 0) x0 x1 o Q X := by
  unfold T_L_faceOf
  refine ⟨1, 6, ⟨by omega, by omega⟩, h.1.1.k 0, ?_⟩
  unfold T_X8_faceOf
  intros
  refine ⟨1, 6, ⟨by omega, by omega⟩, h.1.1.k 0, n_needPoints h (by omega) (by omega) ?_⟩
  first | exact Or.inl ⟨rfl, by omega, by omega, hq⟩ | exact ⟨rfl, by omega, by omega, hq⟩
theorem w_hole (h : FRSH A M) {Cc Zz o : Nat} {x0 x1 : Int32} {Q : Int32 → Mm → Prop} {X : String → Mm → Prop} (hc : 10 ≤ Cc) (hz : 60 ≤ Zz) (hq : Q 1 M) : T_L_hole Cc Zz M (A 0) x0 x1 o Q X := by
  unfold T_L_hole
  refine ⟨1, 6, ⟨by omega, by omega⟩, h.1.1.k 0, ?_⟩
  unfold T_X8_hole
  intros
  refine ⟨1, 6, ⟨by omega, by omega⟩, h.1.1.k 0, n_needPoints h (by omega) (by omega) ?_⟩
  first | exact Or.inl ⟨rfl, by omega, by omega, hq⟩ | exact ⟨rfl, by omega, by omega, hq⟩
theorem w_steps (h : FRSH A M) {Cc Zz o : Nat} {x0 x1 : Int32} {Q : Int32 → Mm → Prop} {X : String → Mm → Prop} (hc : 10 ≤ Cc) (hz : 60 ≤ Zz) (hq : Q 1 M) : T_L_steps Cc Zz M (A 0) x0 x1 o Q X := by
  unfold T_L_steps
  refine ⟨1, 6, ⟨by omega, by omega⟩, h.1.1.k 0, ?_⟩
  unfold T_X8_steps
  intros
  refine ⟨1, 6, ⟨by omega, by omega⟩, h.1.1.k 0, n_needPoints h (by omega) (by omega) ?_⟩
  first | exact Or.inl ⟨rfl, by omega, by omega, hq⟩ | exact ⟨rfl, by omega, by omega, hq⟩
theorem w_volumeWith (h : FRSH A M) {Cc Zz o : Nat} {x0 x1 : Int32} {Q : Int32 → Mm → Prop} {X : String → Mm → Prop} (hc : 10 ≤ Cc) (hz : 60 ≤ Zz) (hq : Q 1 M) : T_L_volumeWith Cc Zz M (A 0) x0 x1 o Q X := by
  unfold T_L_volumeWith
  refine ⟨1, 6, ⟨by omega, by omega⟩, h.1.1.k 0, ?_⟩
  unfold T_X8_volumeWith
  intros
  refine ⟨1, 6, ⟨by omega, by omega⟩, h.1.1.k 0, n_needPoints h (by omega) (by omega) ?_⟩
  first | exact Or.inl ⟨rfl, by omega, by omega, hq⟩ | exact ⟨rfl, by omega, by omega, hq⟩
theorem w_dropFace (h : FRSH A M) {Cc Zz o : Nat} {x0 : Int32} {Q : Int32 → Mm → Prop} {X : String → Mm → Prop} (hc : 10 ≤ Cc) (hz : 60 ≤ Zz) (hq : Q 1 M) : T_L_dropFace Cc Zz M (A 0) x0 o Q X := by
  unfold T_L_dropFace
  refine ⟨1, 6, ⟨by omega, by omega⟩, h.1.1.k 0, ?_⟩
  unfold T_X8_dropFace
  intros
  refine ⟨1, 6, ⟨by omega, by omega⟩, h.1.1.k 0, n_needFace h (by omega) (by omega) ?_⟩
  first | exact Or.inl ⟨rfl, by omega, by omega, hq⟩ | exact ⟨rfl, by omega, by omega, hq⟩
theorem w_cut (h : FRSH A M) {Cc Zz o : Nat} {x0 x1 x2 : Int32} {Q : Int32 → Mm → Prop} {X : String → Mm → Prop} (hc : 10 ≤ Cc) (hz : 60 ≤ Zz) (hq : Q 1 M) : T_L_cut Cc Zz M (A 0) x0 x1 x2 o Q X := by
  unfold T_L_cut
  refine ⟨1, 6, ⟨by omega, by omega⟩, h.1.1.k 0, ?_⟩
  unfold T_X8_cut
  intros
  refine ⟨1, 6, ⟨by omega, by omega⟩, h.1.1.k 0, n_needFace h (by omega) (by omega) ?_⟩
  first | exact Or.inl ⟨rfl, by omega, by omega, hq⟩ | exact ⟨rfl, by omega, by omega, hq⟩
theorem w_draw (h : FRSH A M) {Cc Zz o : Nat} {x0 x1 x2 x3 : Int32} {Q : Int32 → Mm → Prop} {X : String → Mm → Prop} (hc : 10 ≤ Cc) (hz : 60 ≤ Zz) (hq : Q 1 M) : T_L_draw Cc Zz M (A 0) x0 x1 x2 x3 o Q X := by
  unfold T_L_draw
  refine ⟨1, 6, ⟨by omega, by omega⟩, h.1.1.k 0, ?_⟩
  unfold T_X8_draw
  intros
  refine ⟨1, 6, ⟨by omega, by omega⟩, h.1.1.k 0, n_needFace h (by omega) (by omega) ?_⟩
  first | exact Or.inl ⟨rfl, by omega, by omega, hq⟩ | exact ⟨rfl, by omega, by omega, hq⟩
theorem w_size (h : FRSH A M) {Cc Zz o : Nat} {x0 : Int32} {Q : Int32 → Mm → Prop} {X : String → Mm → Prop} (hc : 10 ≤ Cc) (hz : 60 ≤ Zz) (hq : Q 1 M) : T_L_size Cc Zz M (A 0) x0 o Q X := by
  unfold T_L_size
  refine ⟨1, 6, ⟨by omega, by omega⟩, h.1.1.k 0, ?_⟩
  unfold T_X8_size
  intros
  refine ⟨1, 6, ⟨by omega, by omega⟩, h.1.1.k 0, n_needFace h (by omega) (by omega) ?_⟩
  first | exact Or.inl ⟨rfl, by omega, by omega, hq⟩ | exact ⟨rfl, by omega, by omega, hq⟩
theorem w_corner (h : FRSH A M) {Cc Zz o : Nat} {x0 x1 : Int32} {Q : Int32 → Mm → Prop} {X : String → Mm → Prop} (hc : 10 ≤ Cc) (hz : 60 ≤ Zz) (hq : Q 1 M) : T_L_corner Cc Zz M (A 0) x0 x1 o Q X := by
  unfold T_L_corner
  refine ⟨1, 6, ⟨by omega, by omega⟩, h.1.1.k 0, ?_⟩
  unfold T_X8_corner
  intros
  refine ⟨1, 6, ⟨by omega, by omega⟩, h.1.1.k 0, n_needFace h (by omega) (by omega) ?_⟩
  first | exact Or.inl ⟨rfl, by omega, by omega, hq⟩ | exact ⟨rfl, by omega, by omega, hq⟩
theorem w_normal (h : FRSH A M) {Cc Zz o : Nat} {x0 x1 : Int32} {Q : Int32 → Mm → Prop} {X : String → Mm → Prop} (hc : 10 ≤ Cc) (hz : 60 ≤ Zz) (hq : Q 1 M) : T_L_normal Cc Zz M (A 0) x0 x1 o Q X := by
  unfold T_L_normal
  refine ⟨1, 6, ⟨by omega, by omega⟩, h.1.1.k 0, ?_⟩
  unfold T_X8_normal
  intros
  refine ⟨1, 6, ⟨by omega, by omega⟩, h.1.1.k 0, n_needFace h (by omega) (by omega) ?_⟩
  first | exact Or.inl ⟨rfl, by omega, by omega, hq⟩ | exact ⟨rfl, by omega, by omega, hq⟩
theorem w_holesWithout (h : FRSH A M) {Cc Zz o : Nat} {x0 : Int32} {Q : Int32 → Mm → Prop} {X : String → Mm → Prop} (hc : 10 ≤ Cc) (hz : 60 ≤ Zz) (hq : Q 1 M) : T_L_holesWithout Cc Zz M (A 0) x0 o Q X := by
  unfold T_L_holesWithout
  refine ⟨1, 6, ⟨by omega, by omega⟩, h.1.1.k 0, ?_⟩
  unfold T_X8_holesWithout
  intros
  refine ⟨1, 6, ⟨by omega, by omega⟩, h.1.1.k 0, n_needFace h (by omega) (by omega) ?_⟩
  first | exact Or.inl ⟨rfl, by omega, by omega, hq⟩ | exact ⟨rfl, by omega, by omega, hq⟩
end
