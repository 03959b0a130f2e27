theorem memIn_r2 {big : List Cond} {bb : List (List Cond)} (hb : ∀ l ∈ bb, ∀ w ∈ l, w ∈ big) (ws : List Cond) (ps : List (Nat × Nat)) (hp : ws = ps.filterMap (fun q => (bb[q.1]?).bind (fun l => l[q.2]?))) : ∀ w ∈ ws, w ∈ big := by
  intro w hw
  rw [hp] at hw
  obtain ⟨q, -, hq⟩ := List.mem_filterMap.mp hw
  cases hl : bb[q.1]? with
  | none => rw [hl] at hq; cases hq
  | some l => rw [hl] at hq; exact hb l (List.mem_of_getElem? hl) w (List.mem_of_getElem? hq)
def tbB : List (List Cond) := [k2_sels lw_privs, tables_1_1, tables_1_2, tables_1_3, tables_1_4, tables_1_5, tables_1_6, tables_1_7]
theorem tbB_in : ∀ l ∈ tbB, ∀ w ∈ l, w ∈ lw_tbl := by
  unfold tbB lw_tbl tables_1
  simp only [List.forall_mem_cons]
  exact ⟨fun _ h => List.mem_append_left _ h, fun _ h => List.mem_append_right _ (List.mem_append_left _ h), fun _ h => List.mem_append_right _ (List.mem_append_right _ (List.mem_append_left _ h)), fun _ h => List.mem_append_right _ (List.mem_append_right _ (List.mem_append_right _ (List.mem_append_left _ h))), fun _ h => List.mem_append_right _ (List.mem_append_right _ (List.mem_append_right _ (List.mem_append_right _ (List.mem_append_left _ h)))), fun _ h => List.mem_append_right _ (List.mem_append_right _ (List.mem_append_right _ (List.mem_append_right _ (List.mem_append_right _ (List.mem_append_left _ h))))), fun _ h => List.mem_append_right _ (List.mem_append_right _ (List.mem_append_right _ (List.mem_append_right _ (List.mem_append_right _ (List.mem_append_right _ (List.mem_append_left _ h)))))), fun _ h => List.mem_append_right _ (List.mem_append_right _ (List.mem_append_right _ (List.mem_append_right _ (List.mem_append_right _ (List.mem_append_right _ (List.mem_append_right _ h)))))), fun _ h => absurd h List.not_mem_nil⟩
