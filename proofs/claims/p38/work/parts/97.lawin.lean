theorem memIn_r2 {big : List Cond} {bb : List (List Cond)} (hb : ∀ l ∈ bb, ∀ w ∈ l, w ∈ big) (ws : List Cond) (ps : List (Nat × Nat)) (hp : ws = ps.filterMap (fun q => (bb[q.1]?).bind (fun l => l[q.2]?))) : ∀ w ∈ ws, w ∈ big := by
  intro w hw
  rw [hp] at hw
  obtain ⟨q, -, hq⟩ := List.mem_filterMap.mp hw
  cases hl : bb[q.1]? with
  | none => rw [hl] at hq; cases hq
  | some l => rw [hl] at hq; exact hb l (List.mem_of_getElem? hl) w (List.mem_of_getElem? hq)
def tbB : List (List Cond) := [k2_sels lw_privs, tables_1_1, tables_1_2, tables_1_3, tables_1_4]
theorem tbB_in : ∀ l ∈ tbB, ∀ w ∈ l, w ∈ lw_tbl := by
  unfold tbB lw_tbl tables_1
  simp only [List.forall_mem_cons]
  exact ⟨fun _ h => List.mem_append_left _ h, fun _ h => List.mem_append_right _ (List.mem_append_left _ h), fun _ h => List.mem_append_right _ (List.mem_append_right _ (List.mem_append_left _ h)), fun _ h => List.mem_append_right _ (List.mem_append_right _ (List.mem_append_right _ (List.mem_append_left _ h))), fun _ h => List.mem_append_right _ (List.mem_append_right _ (List.mem_append_right _ (List.mem_append_right _ h))), fun _ h => absurd h List.not_mem_nil⟩
set_option maxRecDepth 20000 in
theorem lwm_0 : ∀ w ∈ wsL_law0_r1, w ∈ lw_tbl := memIn_r2 tbB_in _ [(1, 17), (1, 18), (1, 1), (1, 19), (1, 20), (1, 21), (1, 22), (1, 23), (1, 24), (1, 25), (1, 26), (1, 2), (1, 183), (1, 48), (1, 49), (1, 3), (1, 184), (1, 84), (1, 85), (1, 5), (1, 97), (1, 98), (1, 6), (1, 185)] (by decide +kernel)
set_option maxRecDepth 20000 in
theorem lwm_1 : ∀ w ∈ wsL_law0_r2, w ∈ lw_tbl := memIn_r2 tbB_in _ [(1, 122), (1, 123), (1, 7), (1, 186), (1, 140), (1, 141), (1, 8), (1, 187), (1, 164), (1, 165), (1, 9), (1, 188), (1, 181), (1, 56), (1, 4), (1, 189), (1, 190), (1, 28), (1, 29), (1, 30), (1, 31), (1, 46), (1, 33), (1, 47)] (by decide +kernel)
set_option maxRecDepth 20000 in
theorem lwm_2 : ∀ w ∈ wsL_law0_r3, w ∈ lw_tbl := memIn_r2 tbB_in _ [(1, 34), (1, 50), (1, 51), (1, 52), (1, 53), (1, 54), (1, 68), (1, 69), (1, 70), (1, 58), (1, 59), (1, 60), (1, 61), (1, 87), (1, 88), (1, 89), (1, 90), (1, 99), (1, 100), (1, 101), (1, 102), (1, 105), (1, 106), (1, 107)] (by decide +kernel)
set_option maxRecDepth 20000 in
theorem lwm_3 : ∀ w ∈ wsL_law0_r4, w ∈ lw_tbl := memIn_r2 tbB_in _ [(1, 103), (1, 104), (1, 124), (1, 125), (1, 126), (1, 127), (1, 128), (1, 132), (1, 130), (1, 131), (1, 142), (1, 143), (1, 144), (1, 145), (1, 150), (1, 151), (1, 146), (1, 152), (1, 148), (1, 149), (1, 166), (1, 167), (1, 168), (1, 169)] (by decide +kernel)
set_option maxRecDepth 20000 in
theorem lwm_4 : ∀ w ∈ wsL_law0_r5, w ∈ lw_tbl := memIn_r2 tbB_in _ [(1, 170), (1, 173), (1, 171), (1, 172), (3, 92), (3, 93), (1, 0), (3, 94), (3, 95), (3, 88), (3, 89), (3, 90), (3, 91), (1, 208), (1, 209), (1, 210), (1, 211), (1, 212), (1, 213), (1, 214), (1, 215), (1, 216), (1, 217), (1, 218)] (by decide +kernel)
set_option maxRecDepth 20000 in
theorem lwm_5 : ∀ w ∈ wsL_law0_r6, w ∈ lw_tbl := memIn_r2 tbB_in _ [(1, 219), (1, 220), (1, 221), (1, 222), (1, 223), (1, 13), (2, 51), (2, 52), (2, 53), (2, 54), (1, 35), (2, 55), (2, 56), (2, 57), (2, 58), (1, 14), (2, 74), (2, 75), (2, 76), (2, 77), (1, 36), (2, 79), (2, 80), (2, 81)] (by decide +kernel)
set_option maxRecDepth 20000 in
theorem lwm_6 : ∀ w ∈ wsL_law0_r7, w ∈ lw_tbl := memIn_r2 tbB_in _ [(2, 82), (2, 83), (2, 84), (3, 96), (3, 97), (3, 98), (3, 99), (3, 100), (3, 101), (4, 5), (4, 6), (1, 16), (4, 7), (3, 102), (3, 103), (3, 104), (3, 105), (2, 90), (2, 91), (2, 92), (2, 93), (3, 106), (3, 107), (3, 108)] rfl
set_option maxRecDepth 20000 in
theorem lwm_7 : ∀ w ∈ wsL_law0_r8, w ∈ lw_tbl := memIn_r2 tbB_in _ [(3, 109), (2, 98), (2, 99), (2, 100), (2, 101), (1, 71), (2, 102), (2, 103), (2, 104), (2, 105), (2, 106), (2, 107), (2, 108), (2, 109), (1, 62), (2, 110), (2, 111), (2, 112), (2, 113), (2, 114), (2, 115), (2, 116), (2, 117), (2, 118)] (by decide +kernel)
set_option maxRecDepth 20000 in
theorem lwm_8 : ∀ w ∈ wsL_law0_r9, w ∈ lw_tbl := memIn_r2 tbB_in _ [(2, 119), (2, 120), (2, 121), (3, 110), (3, 111), (3, 112), (3, 113), (2, 122), (2, 123), (2, 124), (2, 125), (1, 72), (3, 114), (3, 115), (3, 116), (3, 117), (3, 118), (3, 120), (0, 18), (3, 121), (3, 122), (1, 15), (3, 20), (2, 175)] (by decide +kernel)
set_option maxRecDepth 20000 in
theorem lwm_9 : ∀ w ∈ wsL_law0_r10, w ∈ lw_tbl := memIn_r2 tbB_in _ [(2, 176), (2, 177), (2, 199), (3, 25), (3, 138), (3, 139), (3, 140), (3, 141), (3, 26), (3, 143), (3, 144), (3, 145), (3, 146), (3, 147), (3, 149), (0, 19), (3, 150), (3, 151), (3, 153), (0, 20), (3, 154), (2, 218), (2, 219), (2, 220)] (by decide +kernel)
set_option maxRecDepth 20000 in
theorem lwm_10 : ∀ w ∈ wsL_law0_r11, w ∈ lw_tbl := memIn_r2 tbB_in _ [(2, 221), (3, 156), (3, 157), (3, 158), (3, 159), (3, 160), (3, 52), (3, 53), (3, 54), (3, 161), (3, 58), (3, 59), (3, 60), (3, 162), (3, 163), (3, 164), (3, 165), (3, 166), (3, 167), (3, 168), (3, 169), (3, 170), (2, 163), (2, 164)] (by decide +kernel)
set_option maxRecDepth 20000 in
theorem lwm_11 : ∀ w ∈ wsL_law0_r12, w ∈ lw_tbl := memIn_r2 tbB_in _ [(2, 165), (3, 171), (3, 172), (3, 173), (3, 174), (3, 175), (3, 176), (3, 177), (3, 178), (2, 183), (2, 184), (3, 180), (3, 181), (3, 182), (3, 183), (3, 184), (3, 185), (3, 186), (3, 187), (3, 188), (3, 190), (0, 21), (3, 191), (3, 192)] (by decide +kernel)
set_option maxRecDepth 20000 in
theorem lwm_12 : ∀ w ∈ wsL_law0_r13, w ∈ lw_tbl := memIn_r2 tbB_in _ [(3, 193), (3, 194), (3, 195), (3, 196), (3, 197), (3, 198), (3, 199), (3, 200), (3, 201), (3, 202), (3, 203), (3, 71), (3, 204), (3, 205), (3, 206), (3, 207), (3, 208), (3, 210), (0, 22), (3, 211), (3, 212), (3, 214), (0, 23), (3, 215)] (by decide +kernel)
set_option maxRecDepth 20000 in
theorem lwm_13 : ∀ w ∈ wsL_law0_r14, w ∈ lw_tbl := memIn_r2 tbB_in _ [(3, 216), (3, 218), (3, 219), (3, 220), (3, 221), (3, 77), (2, 236), (2, 237), (2, 238), (3, 222), (3, 224), (0, 24), (3, 225), (3, 226), (3, 227), (3, 228), (3, 229), (2, 210), (2, 211), (2, 212), (2, 213), (3, 230), (3, 231), (3, 233)] (by decide +kernel)
set_option maxRecDepth 20000 in
theorem lwm_14 : ∀ w ∈ wsL_law0_r15, w ∈ lw_tbl := memIn_r2 tbB_in _ [(0, 25), (3, 234), (3, 235), (3, 236), (3, 237), (3, 238), (3, 239), (4, 0), (4, 1), (4, 2), (4, 3), (4, 4), (2, 226), (4, 8), (4, 9), (4, 10), (4, 11), (3, 86), (4, 12), (4, 13), (4, 14), (4, 15), (4, 16), (4, 17)] (by decide +kernel)
set_option maxRecDepth 20000 in
theorem lwm_15 : ∀ w ∈ wsL_law0_r16, w ∈ lw_tbl := memIn_r2 tbB_in _ [(4, 18), (4, 19), (4, 20), (3, 78), (3, 79), (3, 80), (3, 81), (3, 82), (3, 84), (0, 17), (3, 85), (4, 21), (4, 22), (4, 23), (4, 24), (4, 25), (4, 26), (4, 27), (4, 28), (4, 29), (4, 30), (3, 39), (3, 40), (3, 41)] (by decide +kernel)
set_option maxRecDepth 20000 in
theorem lwm_16 : ∀ w ∈ wsL_law0_r17, w ∈ lw_tbl := memIn_r2 tbB_in _ [(3, 42), (3, 43), (2, 131), (2, 132), (2, 133), (1, 91), (3, 44), (3, 45), (3, 46), (3, 47), (3, 48), (3, 49), (3, 50), (3, 51), (3, 55), (3, 56), (3, 57), (3, 61), (3, 63), (0, 14), (3, 64), (3, 65), (2, 150), (2, 151)] (by decide +kernel)
set_option maxRecDepth 20000 in
theorem lwm_17 : ∀ w ∈ wsL_law0_r18, w ∈ lw_tbl := memIn_r2 tbB_in _ [(2, 152), (3, 66), (4, 31), (4, 32), (4, 33), (4, 34), (4, 35), (4, 36), (4, 37), (4, 38), (4, 39), (4, 40), (4, 41), (4, 42), (4, 43), (4, 44), (4, 45), (3, 67), (3, 69), (0, 15), (3, 70), (3, 72), (3, 74), (0, 16)] (by decide +kernel)
set_option maxRecDepth 20000 in
theorem lwm_18 : ∀ w ∈ wsL_law0_r19, w ∈ lw_tbl := memIn_r2 tbB_in _ [(3, 75), (3, 76), (3, 16), (3, 17), (3, 18), (2, 162), (4, 46), (4, 47), (4, 48), (4, 49), (4, 50), (4, 52), (0, 26), (4, 53), (2, 214), (2, 215), (2, 216), (2, 217), (4, 54), (4, 55), (4, 56), (4, 57), (4, 58), (4, 59)] (by decide +kernel)
set_option maxRecDepth 20000 in
theorem lwm_19 : ∀ w ∈ wsL_law0_r20, w ∈ lw_tbl := memIn_r2 tbB_in _ [(4, 61), (0, 27), (4, 62), (4, 63), (4, 64), (4, 65), (4, 66), (2, 126), (2, 127), (2, 128), (2, 129), (2, 130), (2, 134), (2, 135), (2, 136), (2, 137), (2, 138), (2, 139), (2, 140), (2, 141), (2, 143), (0, 1), (2, 144), (2, 145)] (by decide +kernel)
set_option maxRecDepth 20000 in
theorem lwm_20 : ∀ w ∈ wsL_law0_r21, w ∈ lw_tbl := memIn_r2 tbB_in _ [(2, 146), (2, 147), (2, 148), (2, 149), (2, 154), (2, 155), (2, 156), (2, 157), (2, 158), (2, 159), (2, 160), (2, 161), (4, 67), (4, 68), (4, 69), (4, 70), (4, 71), (4, 72), (4, 73), (4, 74), (4, 75), (4, 76), (4, 78), (0, 28)] (by decide +kernel)
set_option maxRecDepth 20000 in
theorem lwm_21 : ∀ w ∈ wsL_law0_r22, w ∈ lw_tbl := memIn_r2 tbB_in _ [(4, 79), (4, 80), (4, 81), (4, 83), (0, 29), (4, 84), (4, 85), (2, 232), (2, 233), (2, 234), (2, 235), (4, 87), (4, 88), (4, 90), (0, 30), (4, 91), (4, 92), (4, 93), (4, 94), (4, 95), (4, 96), (4, 97), (4, 98), (4, 99)] (by decide +kernel)
set_option maxRecDepth 20000 in
theorem lwm_22 : ∀ w ∈ wsL_law0_r23, w ∈ lw_tbl := memIn_r2 tbB_in _ [(4, 100), (4, 101), (4, 102), (4, 103), (4, 104), (4, 105), (3, 87), (4, 106), (4, 108), (0, 31), (4, 109), (4, 110), (4, 111), (4, 112), (4, 113), (4, 114), (4, 115), (4, 116), (4, 117), (4, 118), (4, 119), (4, 120), (4, 121), (4, 122)] (by decide +kernel)
set_option maxRecDepth 20000 in
theorem lwm_23 : ∀ w ∈ wsL_law0_r24, w ∈ lw_tbl := memIn_r2 tbB_in _ [(4, 123), (4, 124), (4, 125), (4, 126), (4, 127), (4, 128), (4, 129), (4, 130), (4, 131), (4, 132), (4, 134), (0, 32), (4, 135), (4, 136), (4, 137), (4, 138), (4, 140), (0, 33), (4, 141), (4, 142), (4, 143), (4, 144), (4, 145), (4, 146)] (by decide +kernel)
set_option maxRecDepth 20000 in
theorem lwm_24 : ∀ w ∈ wsL_law0_r25, w ∈ lw_tbl := memIn_r2 tbB_in _ [(4, 147), (4, 148), (4, 150), (0, 34), (4, 151), (2, 204), (2, 205), (4, 152), (4, 154), (0, 35), (4, 155), (4, 156), (4, 157), (4, 158), (4, 160), (0, 36), (4, 161), (4, 163), (4, 164), (4, 165), (4, 166), (4, 167), (4, 168), (4, 169)] (by decide +kernel)
set_option maxRecDepth 20000 in
theorem lwm_25 : ∀ w ∈ wsL_law0_r26, w ∈ lw_tbl := memIn_r2 tbB_in _ [(2, 198), (4, 170), (4, 171), (4, 172), (4, 173), (4, 174), (4, 175), (4, 176), (4, 177), (4, 178), (4, 179), (4, 180), (4, 181), (4, 182), (4, 183), (4, 184), (2, 85), (2, 86), (2, 87), (2, 88), (2, 89), (2, 94), (2, 95), (2, 96)] (by decide +kernel)
set_option maxRecDepth 20000 in
theorem lwm_26 : ∀ w ∈ wsL_law0_r27, w ∈ lw_tbl := memIn_r2 tbB_in _ [(2, 97), (2, 166), (2, 167), (2, 168), (2, 169), (2, 170), (2, 172), (0, 2), (2, 173), (2, 174), (2, 178), (2, 180), (0, 3), (2, 181), (2, 185), (2, 187), (0, 4), (2, 188), (1, 108), (2, 189), (2, 191), (0, 5), (2, 192), (2, 193)] (by decide +kernel)
set_option maxRecDepth 20000 in
theorem lwm_27 : ∀ w ∈ wsL_law0_r28, w ∈ lw_tbl := memIn_r2 tbB_in _ [(2, 194), (2, 196), (0, 6), (2, 197), (2, 200), (2, 201), (2, 202), (2, 203), (2, 206), (2, 208), (0, 7), (2, 209), (2, 222), (2, 224), (0, 8), (2, 225), (2, 227), (2, 229), (0, 9), (2, 230), (2, 231), (2, 239), (3, 0), (3, 1)] (by decide +kernel)
set_option maxRecDepth 20000 in
theorem lwm_28 : ∀ w ∈ wsL_law0_r29, w ∈ lw_tbl := memIn_r2 tbB_in _ [(3, 2), (3, 3), (3, 4), (3, 5), (3, 6), (3, 7), (3, 8), (3, 9), (3, 10), (3, 11), (3, 13), (0, 10), (3, 14), (3, 15), (3, 19), (3, 21), (3, 23), (0, 11), (3, 24), (3, 27), (3, 28), (3, 29), (3, 30), (3, 31)] (by decide +kernel)
set_option maxRecDepth 20000 in
theorem lwm_29 : ∀ w ∈ wsL_law0_r30, w ∈ lw_tbl := memIn_r2 tbB_in _ [(3, 33), (0, 12), (3, 34), (3, 35), (3, 37), (0, 13), (3, 38), (4, 185), (4, 186), (4, 187), (4, 188), (4, 190), (4, 191), (4, 192), (4, 193), (4, 194), (4, 195), (4, 196), (4, 197), (4, 198), (4, 199), (4, 200), (4, 201), (4, 203)] (by decide +kernel)
set_option maxRecDepth 20000 in
theorem lwm_30 : ∀ w ∈ wsL_law0_r31, w ∈ lw_tbl := memIn_r2 tbB_in _ [(0, 37), (4, 204), (4, 206), (4, 208), (0, 38), (4, 209), (4, 210), (4, 211), (4, 212), (4, 213), (4, 214), (4, 215), (4, 216), (4, 217), (4, 218), (4, 219), (4, 220), (4, 221), (4, 222), (4, 223), (4, 224), (4, 225), (4, 226), (4, 228)] (by decide +kernel)
set_option maxRecDepth 20000 in
theorem lwm_31 : ∀ w ∈ wsL_law0_r32, w ∈ lw_tbl := memIn_r2 tbB_in _ [(0, 39), (4, 229), (4, 230), (4, 231), (4, 232), (4, 233), (4, 234)] (by decide +kernel)
theorem lwm_32 : ∀ w ∈ wsX80, w ∈ lw_tbl := by decide +kernel
theorem lwm_33 : ∀ w ∈ wsX30, w ∈ lw_tbl := by decide +kernel
theorem lwm_34 : ∀ w ∈ wsX10, w ∈ lw_tbl := by decide +kernel
theorem lwm_35 : ∀ w ∈ wsX20, w ∈ lw_tbl := by decide +kernel
theorem lwm_36 : ∀ w ∈ wsX70, w ∈ lw_tbl := by decide +kernel
theorem lwm_37 : ∀ w ∈ wsX00, w ∈ lw_tbl := by decide +kernel
theorem lwm_38 : ∀ w ∈ wsX40, w ∈ lw_tbl := by decide +kernel
theorem lwm_39 : ∀ w ∈ wsX60, w ∈ lw_tbl := by decide +kernel
theorem lwm_40 : ∀ w ∈ wsX50, w ∈ lw_tbl := by decide +kernel
theorem lwm_41 : ∀ w ∈ ([] : List Cond), w ∈ lw_tbl := by decide +kernel
theorem wsL_law_in0 : ∀ w ∈ wsL_law0, w ∈ lw_tbl := fun w h => ((List.mem_append.mp h).elim (fun h => ((List.mem_append.mp h).elim (fun h => ((List.mem_append.mp h).elim (fun h => ((List.mem_append.mp h).elim (fun h => ((List.mem_append.mp h).elim (fun h => ((List.mem_append.mp h).elim (fun h => ((List.mem_append.mp h).elim (fun h => ((List.mem_append.mp h).elim (fun h => ((List.mem_append.mp h).elim (fun h => ((List.mem_append.mp h).elim (fun h => ((List.mem_append.mp h).elim (fun h => (lwm_0 w h)) (fun h => ((List.mem_append.mp h).elim (fun h => (lwm_1 w h)) (fun h => ((List.mem_append.mp h).elim (fun h => (lwm_2 w h)) (fun h => ((List.mem_append.mp h).elim (fun h => (lwm_3 w h)) (fun h => ((List.mem_append.mp h).elim (fun h => (lwm_4 w h)) (fun h => ((List.mem_append.mp h).elim (fun h => (lwm_5 w h)) (fun h => ((List.mem_append.mp h).elim (fun h => (lwm_6 w h)) (fun h => ((List.mem_append.mp h).elim (fun h => (lwm_7 w h)) (fun h => ((List.mem_append.mp h).elim (fun h => (lwm_8 w h)) (fun h => ((List.mem_append.mp h).elim (fun h => (lwm_9 w h)) (fun h => ((List.mem_append.mp h).elim (fun h => (lwm_10 w h)) (fun h => ((List.mem_append.mp h).elim (fun h => (lwm_11 w h)) (fun h => ((List.mem_append.mp h).elim (fun h => (lwm_12 w h)) (fun h => ((List.mem_append.mp h).elim (fun h => (lwm_13 w h)) (fun h => ((List.mem_append.mp h).elim (fun h => (lwm_14 w h)) (fun h => ((List.mem_append.mp h).elim (fun h => (lwm_15 w h)) (fun h => ((List.mem_append.mp h).elim (fun h => (lwm_16 w h)) (fun h => ((List.mem_append.mp h).elim (fun h => (lwm_17 w h)) (fun h => ((List.mem_append.mp h).elim (fun h => (lwm_18 w h)) (fun h => ((List.mem_append.mp h).elim (fun h => (lwm_19 w h)) (fun h => ((List.mem_append.mp h).elim (fun h => (lwm_20 w h)) (fun h => ((List.mem_append.mp h).elim (fun h => (lwm_21 w h)) (fun h => ((List.mem_append.mp h).elim (fun h => (lwm_22 w h)) (fun h => ((List.mem_append.mp h).elim (fun h => (lwm_23 w h)) (fun h => ((List.mem_append.mp h).elim (fun h => (lwm_24 w h)) (fun h => ((List.mem_append.mp h).elim (fun h => (lwm_25 w h)) (fun h => ((List.mem_append.mp h).elim (fun h => (lwm_26 w h)) (fun h => ((List.mem_append.mp h).elim (fun h => (lwm_27 w h)) (fun h => ((List.mem_append.mp h).elim (fun h => (lwm_28 w h)) (fun h => ((List.mem_append.mp h).elim (fun h => (lwm_29 w h)) (fun h => ((List.mem_append.mp h).elim (fun h => (lwm_30 w h)) (fun h => (lwm_31 w h)))))))))))))))))))))))))))))))))))))))))))))))))))))))))))))))) (fun h => (lwm_32 w h)))) (fun h => (lwm_33 w h)))) (fun h => (lwm_34 w h)))) (fun h => (lwm_35 w h)))) (fun h => (lwm_36 w h)))) (fun h => (lwm_37 w h)))) (fun h => (lwm_38 w h)))) (fun h => (lwm_39 w h)))) (fun h => (lwm_40 w h)))) (fun h => (lwm_41 w h)))
theorem wsL_law_x0 : ∀ w ∈ (vx_atS RX8 318 "java/lang/IllegalArgumentException" ["java/lang/RuntimeException", "java/lang/Exception"]).filter goodWord, w ∈ lw_tbl := by decide +kernel
theorem wsL_law_x1 : ∀ w ∈ (vx_atS RX8 323 "java/lang/IllegalStateException" ["java/lang/RuntimeException", "java/lang/Exception"]).filter goodWord, w ∈ lw_tbl := by decide +kernel
theorem wsL_law_x2 : ∀ w ∈ (vx_atS RX8 259 "java/lang/IndexOutOfBoundsException" ["java/lang/RuntimeException", "java/lang/Exception"]).filter goodWord, w ∈ lw_tbl := by decide +kernel
theorem wsL_law_in : ∀ w ∈ wsL_law, w ∈ lw_tbl := fun w h => (List.mem_append.mp h).elim (fun h => (List.mem_append.mp h).elim (fun h => (List.mem_append.mp h).elim (fun h => wsL_law_in0 w h) (fun h => wsL_law_x0 w h)) (fun h => wsL_law_x1 w h)) (fun h => wsL_law_x2 w h)
