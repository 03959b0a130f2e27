theorem memIn_r2 {big : List Cond} {bb : List (List Cond)} (hb : ∀ l ∈ bb, ∀ w ∈ l, w ∈ big) (ws : List Cond) (ps : List (Nat × Nat)) (hp : ws = ps.filterMap (fun q => (bb[q.1]?).bind (fun l => l[q.2]?))) : ∀ w ∈ ws, w ∈ big := by
  intro w hw
  rw [hp] at hw
  obtain ⟨q, -, hq⟩ := List.mem_filterMap.mp hw
  cases hl : bb[q.1]? with
  | none => rw [hl] at hq; cases hq
  | some l => rw [hl] at hq; exact hb l (List.mem_of_getElem? hl) w (List.mem_of_getElem? hq)
def tbB : List (List Cond) := [k2_sels lw_privs, tables_1_1, tables_1_2, tables_1_3, tables_1_4, tables_1_5, tables_1_6, tables_1_7]
theorem tbB_in : ∀ l ∈ tbB, ∀ w ∈ l, w ∈ lw_tbl := by
  unfold tbB lw_tbl tables_1
  simp only [List.forall_mem_cons]
  exact ⟨fun _ h => List.mem_append_left _ h, fun _ h => List.mem_append_right _ (List.mem_append_left _ h), fun _ h => List.mem_append_right _ (List.mem_append_right _ (List.mem_append_left _ h)), fun _ h => List.mem_append_right _ (List.mem_append_right _ (List.mem_append_right _ (List.mem_append_left _ h))), fun _ h => List.mem_append_right _ (List.mem_append_right _ (List.mem_append_right _ (List.mem_append_right _ (List.mem_append_left _ h)))), fun _ h => List.mem_append_right _ (List.mem_append_right _ (List.mem_append_right _ (List.mem_append_right _ (List.mem_append_right _ (List.mem_append_left _ h))))), fun _ h => List.mem_append_right _ (List.mem_append_right _ (List.mem_append_right _ (List.mem_append_right _ (List.mem_append_right _ (List.mem_append_right _ (List.mem_append_left _ h)))))), fun _ h => List.mem_append_right _ (List.mem_append_right _ (List.mem_append_right _ (List.mem_append_right _ (List.mem_append_right _ (List.mem_append_right _ (List.mem_append_right _ h)))))), fun _ h => absurd h List.not_mem_nil⟩
set_option maxRecDepth 20000 in
theorem lwm_0 : ∀ w ∈ wsL_law0_r1, w ∈ lw_tbl := memIn_r2 tbB_in _ [(1, 26), (1, 27), (1, 1), (5, 80), (5, 81), (1, 10), (7, 89), (1, 28), (1, 29), (1, 30), (1, 31), (1, 32), (1, 33), (1, 34), (1, 35), (1, 2), (1, 192), (1, 57), (1, 58), (1, 3), (1, 193), (1, 93), (1, 94), (1, 5)] (by decide +kernel)
set_option maxRecDepth 20000 in
theorem lwm_1 : ∀ w ∈ wsL_law0_r2, w ∈ lw_tbl := memIn_r2 tbB_in _ [(1, 106), (1, 107), (1, 6), (1, 194), (1, 131), (1, 132), (1, 7), (1, 195), (1, 149), (1, 150), (1, 8), (1, 196), (1, 173), (1, 174), (1, 9), (1, 197), (1, 190), (1, 65), (1, 4), (1, 198), (1, 199), (1, 37), (1, 38), (1, 39)] (by decide +kernel)
set_option maxRecDepth 20000 in
theorem lwm_2 : ∀ w ∈ wsL_law0_r3, w ∈ lw_tbl := memIn_r2 tbB_in _ [(1, 40), (1, 55), (1, 42), (1, 56), (1, 43), (1, 59), (1, 60), (1, 61), (1, 62), (1, 63), (1, 77), (1, 78), (1, 79), (1, 67), (1, 68), (1, 69), (1, 70), (1, 96), (1, 97), (1, 98), (1, 99), (1, 108), (1, 109), (1, 110)] (by decide +kernel)
set_option maxRecDepth 20000 in
theorem lwm_3 : ∀ w ∈ wsL_law0_r4, w ∈ lw_tbl := memIn_r2 tbB_in _ [(1, 111), (1, 114), (1, 115), (1, 116), (1, 112), (1, 113), (1, 133), (1, 134), (1, 135), (1, 136), (1, 137), (1, 141), (1, 139), (1, 140), (1, 151), (1, 152), (1, 153), (1, 154), (1, 159), (1, 160), (1, 155), (1, 161), (1, 157), (1, 158)] (by decide +kernel)
set_option maxRecDepth 20000 in
theorem lwm_4 : ∀ w ∈ wsL_law0_r5, w ∈ lw_tbl := memIn_r2 tbB_in _ [(1, 175), (1, 176), (1, 177), (1, 178), (1, 179), (1, 182), (1, 180), (1, 181), (5, 82), (5, 83), (5, 84), (5, 85), (5, 86), (5, 103), (5, 104), (5, 87), (5, 106), (5, 108), (5, 109), (5, 110), (5, 111), (5, 88), (5, 90), (0, 40)] (by decide +kernel)
set_option maxRecDepth 20000 in
theorem lwm_5 : ∀ w ∈ wsL_law0_r6, w ∈ lw_tbl := memIn_r2 tbB_in _ [(5, 91), (5, 105), (5, 107), (5, 92), (5, 93), (1, 11), (5, 94), (5, 95), (5, 97), (0, 41), (5, 98), (5, 99), (5, 100), (5, 101), (3, 82), (3, 83), (1, 0), (3, 84), (3, 85), (3, 86), (3, 87), (3, 88), (3, 89), (3, 90)] (by decide +kernel)
set_option maxRecDepth 20000 in
theorem lwm_6 : ∀ w ∈ wsL_law0_r7, w ∈ lw_tbl := memIn_r2 tbB_in _ [(3, 91), (3, 92), (3, 93), (3, 94), (3, 95), (3, 96), (3, 97), (3, 98), (3, 99), (3, 100), (3, 101), (3, 102), (1, 15), (3, 170), (3, 171), (3, 172), (3, 173), (1, 44), (3, 174), (3, 175), (3, 176), (3, 177), (1, 16), (3, 193)] (by decide +kernel)
set_option maxRecDepth 20000 in
theorem lwm_7 : ∀ w ∈ wsL_law0_r8, w ∈ lw_tbl := memIn_r2 tbB_in _ [(3, 194), (3, 195), (3, 196), (1, 45), (1, 230), (1, 231), (3, 197), (2, 27), (2, 28), (2, 29), (5, 146), (5, 147), (5, 148), (5, 149), (5, 102), (5, 150), (5, 151), (5, 152), (5, 153), (5, 155), (0, 42), (5, 156), (5, 157), (5, 159)] (by decide +kernel)
set_option maxRecDepth 20000 in
theorem lwm_8 : ∀ w ∈ wsL_law0_r9, w ∈ lw_tbl := memIn_r2 tbB_in _ [(0, 43), (5, 160), (5, 161), (5, 163), (5, 162), (1, 17), (5, 142), (5, 143), (5, 144), (5, 145), (3, 198), (3, 199), (3, 200), (3, 201), (3, 202), (3, 203), (3, 204), (3, 205), (3, 206), (3, 208), (0, 23), (3, 209), (3, 210), (1, 18)] (by decide +kernel)
set_option maxRecDepth 20000 in
theorem lwm_9 : ∀ w ∈ wsL_law0_r10, w ∈ lw_tbl := memIn_r2 tbB_in _ [(2, 231), (2, 23), (2, 24), (2, 25), (2, 236), (1, 226), (1, 227), (1, 228), (3, 226), (5, 164), (5, 165), (5, 166), (5, 167), (5, 168), (5, 170), (0, 44), (5, 171), (3, 227), (3, 228), (3, 229), (3, 230), (3, 231), (3, 232), (3, 233)] (by decide +kernel)
set_option maxRecDepth 20000 in
theorem lwm_10 : ∀ w ∈ wsL_law0_r11, w ∈ lw_tbl := memIn_r2 tbB_in _ [(3, 234), (3, 236), (0, 24), (3, 237), (3, 238), (3, 239), (4, 0), (4, 1), (2, 55), (2, 56), (2, 57), (2, 58), (1, 71), (2, 64), (2, 65), (2, 66), (2, 67), (4, 2), (4, 3), (4, 4), (4, 5), (1, 80), (4, 6), (4, 7)] (by decide +kernel)
set_option maxRecDepth 20000 in
theorem lwm_11 : ∀ w ∈ wsL_law0_r12, w ∈ lw_tbl := memIn_r2 tbB_in _ [(4, 8), (4, 9), (4, 10), (2, 152), (2, 153), (2, 154), (4, 11), (4, 12), (4, 13), (4, 14), (2, 46), (2, 47), (2, 48), (2, 49), (2, 76), (2, 61), (2, 62), (2, 63), (2, 0), (2, 1), (2, 2), (2, 3), (4, 15), (4, 16)] (by decide +kernel)
set_option maxRecDepth 20000 in
theorem lwm_12 : ∀ w ∈ wsL_law0_r13, w ∈ lw_tbl := memIn_r2 tbB_in _ [(4, 17), (4, 18), (1, 81), (2, 173), (2, 174), (4, 20), (2, 69), (2, 70), (2, 71), (2, 72), (2, 73), (2, 74), (2, 75), (2, 42), (2, 43), (2, 44), (2, 45), (2, 77), (2, 79), (0, 3), (2, 80), (2, 81), (2, 82), (2, 83)] (by decide +kernel)
set_option maxRecDepth 20000 in
theorem lwm_13 : ∀ w ∈ wsL_law0_r14, w ∈ lw_tbl := memIn_r2 tbB_in _ [(2, 84), (2, 85), (2, 86), (2, 87), (2, 88), (5, 172), (5, 173), (5, 174), (5, 175), (5, 176), (5, 178), (0, 45), (5, 179), (5, 112), (5, 113), (5, 180), (5, 182), (0, 46), (5, 183), (5, 184), (5, 186), (0, 47), (5, 187), (5, 188)] (by decide +kernel)
set_option maxRecDepth 20000 in
theorem lwm_14 : ∀ w ∈ wsL_law0_r15, w ∈ lw_tbl := memIn_r2 tbB_in _ [(5, 190), (0, 48), (5, 191), (4, 21), (4, 22), (4, 23), (4, 24), (4, 25), (4, 26), (4, 27), (4, 28), (4, 30), (0, 25), (4, 31), (2, 38), (2, 39), (2, 40), (2, 41), (4, 33), (4, 34), (4, 35), (4, 36), (4, 37), (4, 38)] (by decide +kernel)
set_option maxRecDepth 20000 in
theorem lwm_15 : ∀ w ∈ wsL_law0_r16, w ∈ lw_tbl := memIn_r2 tbB_in _ [(2, 89), (2, 90), (2, 91), (2, 92), (5, 192), (5, 193), (5, 194), (5, 195), (5, 196), (5, 198), (0, 49), (5, 199), (5, 200), (5, 202), (0, 50), (5, 203), (4, 39), (4, 40), (4, 41), (4, 42), (4, 43), (4, 44), (4, 45), (3, 2)] (by decide +kernel)
set_option maxRecDepth 20000 in
theorem lwm_16 : ∀ w ∈ wsL_law0_r17, w ∈ lw_tbl := memIn_r2 tbB_in _ [(3, 3), (3, 4), (3, 5), (2, 183), (4, 46), (4, 47), (4, 48), (4, 49), (4, 50), (2, 97), (2, 98), (2, 99), (2, 100), (5, 204), (5, 205), (5, 206), (5, 207), (5, 208), (5, 210), (0, 51), (5, 211), (5, 212), (5, 214), (0, 52)] (by decide +kernel)
set_option maxRecDepth 20000 in
theorem lwm_17 : ∀ w ∈ wsL_law0_r18, w ∈ lw_tbl := memIn_r2 tbB_in _ [(5, 215), (5, 216), (5, 218), (0, 53), (5, 219), (4, 51), (4, 52), (4, 53), (4, 54), (4, 55), (4, 56), (4, 57), (4, 58), (4, 60), (0, 26), (4, 61), (4, 62), (4, 64), (0, 27), (4, 65), (4, 66), (5, 220), (5, 221), (5, 222)] (by decide +kernel)
set_option maxRecDepth 20000 in
theorem lwm_18 : ∀ w ∈ wsL_law0_r19, w ∈ lw_tbl := memIn_r2 tbB_in _ [(5, 223), (4, 68), (4, 69), (4, 70), (4, 71), (4, 72), (4, 73), (4, 74), (3, 71), (2, 13), (2, 14), (2, 15), (3, 65), (4, 75), (4, 77), (0, 28), (4, 78), (2, 50), (2, 211), (4, 79), (4, 80), (4, 81), (4, 82), (2, 202)] (by decide +kernel)
set_option maxRecDepth 20000 in
theorem lwm_19 : ∀ w ∈ wsL_law0_r20, w ∈ lw_tbl := memIn_r2 tbB_in _ [(4, 83), (4, 84), (4, 86), (0, 29), (4, 87), (4, 88), (2, 212), (4, 89), (2, 68), (5, 224), (5, 225), (5, 226), (5, 227), (5, 228), (5, 230), (0, 54), (5, 231), (5, 232), (5, 234), (0, 55), (5, 235), (5, 236), (5, 237), (5, 238)] (by decide +kernel)
set_option maxRecDepth 20000 in
theorem lwm_20 : ∀ w ∈ wsL_law0_r21, w ∈ lw_tbl := memIn_r2 tbB_in _ [(5, 239), (6, 0), (6, 1), (6, 2), (6, 3), (6, 4), (6, 5), (6, 6), (6, 8), (6, 9), (6, 10), (1, 19), (6, 11), (6, 12), (4, 90), (4, 91), (4, 92), (4, 93), (4, 94), (4, 95), (4, 96), (3, 80), (4, 97), (4, 98)] (by decide +kernel)
set_option maxRecDepth 20000 in
theorem lwm_21 : ∀ w ∈ wsL_law0_r22, w ∈ lw_tbl := memIn_r2 tbB_in _ [(4, 99), (4, 100), (2, 60), (6, 13), (6, 14), (6, 15), (6, 16), (6, 17), (6, 19), (0, 56), (6, 20), (6, 21), (6, 23), (0, 57), (6, 24), (4, 101), (4, 102), (4, 103), (4, 104), (4, 105), (4, 106), (4, 107), (3, 72), (3, 73)] (by decide +kernel)
set_option maxRecDepth 20000 in
theorem lwm_22 : ∀ w ∈ wsL_law0_r23, w ∈ lw_tbl := memIn_r2 tbB_in _ [(3, 74), (3, 75), (3, 76), (3, 78), (0, 21), (3, 79), (6, 25), (6, 26), (6, 27), (6, 28), (6, 29), (6, 31), (0, 58), (6, 32), (6, 33), (6, 35), (0, 59), (6, 36), (6, 37), (6, 38), (6, 39), (6, 40), (6, 41), (6, 42)] (by decide +kernel)
set_option maxRecDepth 20000 in
theorem lwm_23 : ∀ w ∈ wsL_law0_r24, w ∈ lw_tbl := memIn_r2 tbB_in _ [(4, 108), (4, 109), (4, 110), (4, 111), (4, 112), (4, 113), (4, 114), (3, 39), (3, 40), (3, 41), (3, 42), (3, 43), (2, 126), (2, 127), (2, 128), (1, 100), (3, 44), (3, 45), (3, 46), (3, 47), (3, 48), (3, 49), (3, 50), (3, 51)] (by decide +kernel)
set_option maxRecDepth 20000 in
theorem lwm_24 : ∀ w ∈ wsL_law0_r25, w ∈ lw_tbl := memIn_r2 tbB_in _ [(3, 52), (3, 53), (3, 54), (3, 55), (3, 57), (0, 18), (3, 58), (3, 59), (2, 139), (2, 140), (2, 141), (3, 60), (4, 115), (4, 116), (4, 117), (4, 118), (4, 119), (4, 120), (6, 43), (6, 44), (6, 45), (6, 46), (6, 47), (6, 49)] (by decide +kernel)
set_option maxRecDepth 20000 in
theorem lwm_25 : ∀ w ∈ wsL_law0_r26, w ∈ lw_tbl := memIn_r2 tbB_in _ [(0, 60), (6, 50), (6, 51), (4, 121), (4, 122), (4, 123), (4, 124), (4, 125), (4, 126), (4, 127), (3, 61), (3, 63), (0, 19), (3, 64), (3, 66), (3, 68), (0, 20), (3, 69), (3, 70), (3, 19), (3, 20), (3, 21), (2, 151), (6, 52)] (by decide +kernel)
set_option maxRecDepth 20000 in
theorem lwm_26 : ∀ w ∈ wsL_law0_r27, w ∈ lw_tbl := memIn_r2 tbB_in _ [(6, 53), (6, 54), (6, 55), (6, 56), (6, 58), (0, 61), (6, 59), (6, 60), (6, 62), (0, 62), (6, 63), (4, 128), (4, 129), (4, 130), (4, 131), (4, 132), (4, 133), (4, 134), (4, 135), (4, 137), (0, 30), (4, 138), (2, 227), (2, 228)] (by decide +kernel)
set_option maxRecDepth 20000 in
theorem lwm_27 : ∀ w ∈ wsL_law0_r28, w ∈ lw_tbl := memIn_r2 tbB_in _ [(2, 229), (2, 230), (4, 139), (4, 140), (4, 141), (4, 142), (4, 143), (4, 144), (4, 146), (0, 31), (4, 147), (6, 64), (6, 65), (6, 66), (6, 67), (4, 148), (4, 149), (4, 150), (4, 151), (4, 152), (4, 153), (4, 154), (3, 81), (1, 237)] (by decide +kernel)
set_option maxRecDepth 20000 in
theorem lwm_28 : ∀ w ∈ wsL_law0_r29, w ∈ lw_tbl := memIn_r2 tbB_in _ [(1, 238), (1, 239), (4, 155), (4, 156), (4, 157), (4, 158), (2, 125), (2, 133), (2, 135), (0, 4), (2, 136), (2, 137), (2, 138), (2, 143), (2, 144), (2, 145), (2, 146), (2, 147), (2, 148), (2, 149), (2, 150), (4, 159), (4, 161), (0, 32)] (by decide +kernel)
set_option maxRecDepth 20000 in
theorem lwm_29 : ∀ w ∈ wsL_law0_r30, w ∈ lw_tbl := memIn_r2 tbB_in _ [(4, 162), (4, 163), (6, 68), (6, 69), (6, 70), (6, 71), (6, 72), (6, 74), (0, 63), (6, 75), (6, 76), (6, 78), (0, 64), (6, 79), (6, 80), (6, 82), (0, 65), (6, 83), (4, 164), (4, 165), (4, 166), (4, 167), (4, 168), (4, 169)] (by decide +kernel)
set_option maxRecDepth 20000 in
theorem lwm_30 : ∀ w ∈ wsL_law0_r31, w ∈ lw_tbl := memIn_r2 tbB_in _ [(4, 170), (4, 171), (4, 172), (4, 173), (4, 174), (4, 175), (2, 106), (2, 107), (2, 108), (2, 109), (2, 110), (2, 111), (2, 112), (4, 176), (4, 177), (4, 178), (4, 179), (4, 180), (4, 181), (4, 182), (4, 183), (4, 184), (4, 185), (4, 186)] (by decide +kernel)
set_option maxRecDepth 20000 in
theorem lwm_31 : ∀ w ∈ wsL_law0_r32, w ∈ lw_tbl := memIn_r2 tbB_in _ [(4, 187), (2, 35), (2, 36), (2, 37), (4, 188), (4, 190), (0, 33), (4, 191), (4, 192), (4, 193), (4, 194), (4, 196), (0, 34), (4, 197), (4, 198), (4, 199), (4, 200), (4, 201), (4, 202), (4, 203), (4, 204), (4, 206), (0, 35), (4, 207)] (by decide +kernel)
set_option maxRecDepth 20000 in
theorem lwm_32 : ∀ w ∈ wsL_law0_r33, w ∈ lw_tbl := memIn_r2 tbB_in _ [(2, 196), (2, 197), (4, 208), (4, 210), (0, 36), (4, 211), (4, 212), (4, 213), (4, 214), (4, 216), (0, 37), (4, 217), (4, 219), (4, 220), (4, 221), (6, 84), (6, 85), (6, 86), (6, 87), (6, 88), (6, 90), (0, 66), (6, 91), (6, 92)] (by decide +kernel)
set_option maxRecDepth 20000 in
theorem lwm_33 : ∀ w ∈ wsL_law0_r34, w ∈ lw_tbl := memIn_r2 tbB_in _ [(6, 94), (0, 67), (6, 95), (1, 217), (1, 218), (1, 219), (1, 220), (1, 221), (1, 222), (1, 223), (1, 224), (1, 225), (1, 232), (1, 234), (0, 0), (1, 235), (1, 236), (2, 4), (2, 6), (0, 1), (2, 7), (2, 8), (2, 9), (2, 10)] (by decide +kernel)
set_option maxRecDepth 20000 in
theorem lwm_34 : ∀ w ∈ wsL_law0_r35, w ∈ lw_tbl := memIn_r2 tbB_in _ [(2, 11), (2, 12), (2, 17), (2, 18), (2, 20), (0, 2), (2, 21), (2, 22), (2, 26), (6, 96), (6, 97), (6, 98), (6, 99), (6, 100), (6, 101), (6, 102), (6, 103), (6, 104), (1, 20), (6, 105), (6, 106), (6, 108), (2, 30), (2, 31)] (by decide +kernel)
set_option maxRecDepth 20000 in
theorem lwm_35 : ∀ w ∈ wsL_law0_r36, w ∈ lw_tbl := memIn_r2 tbB_in _ [(2, 32), (2, 33), (2, 34), (2, 51), (2, 52), (2, 53), (2, 54), (2, 59), (6, 205), (6, 206), (6, 207), (6, 208), (2, 93), (2, 94), (2, 95), (2, 96), (6, 209), (6, 210), (6, 211), (6, 212), (2, 101), (2, 102), (2, 103), (2, 104)] (by decide +kernel)
set_option maxRecDepth 20000 in
theorem lwm_36 : ∀ w ∈ wsL_law0_r37, w ∈ lw_tbl := memIn_r2 tbB_in _ [(2, 105), (6, 213), (6, 214), (6, 215), (6, 216), (2, 113), (2, 114), (2, 115), (2, 116), (6, 217), (6, 218), (6, 219), (6, 220), (2, 117), (2, 118), (2, 119), (2, 120), (2, 121), (2, 122), (2, 123), (2, 124), (2, 129), (2, 130), (2, 131)] (by decide +kernel)
set_option maxRecDepth 20000 in
theorem lwm_37 : ∀ w ∈ wsL_law0_r38, w ∈ lw_tbl := memIn_r2 tbB_in _ [(2, 132), (6, 221), (6, 222), (6, 223), (6, 224), (6, 225), (6, 227), (0, 68), (6, 228), (6, 229), (2, 155), (2, 156), (2, 157), (2, 158), (2, 159), (2, 160), (2, 161), (2, 162), (2, 163), (2, 165), (0, 5), (2, 166), (2, 167), (2, 168)] (by decide +kernel)
set_option maxRecDepth 20000 in
theorem lwm_38 : ∀ w ∈ wsL_law0_r39, w ∈ lw_tbl := memIn_r2 tbB_in _ [(2, 170), (0, 6), (2, 171), (2, 175), (2, 177), (0, 7), (2, 178), (1, 117), (2, 179), (2, 181), (0, 8), (2, 182), (6, 231), (6, 232), (6, 233), (6, 234), (6, 235), (6, 237), (0, 69), (6, 238), (6, 239), (7, 1), (0, 70), (7, 2)] (by decide +kernel)
set_option maxRecDepth 20000 in
theorem lwm_39 : ∀ w ∈ wsL_law0_r40, w ∈ lw_tbl := memIn_r2 tbB_in _ [(4, 222), (4, 223), (4, 224), (4, 225), (4, 226), (4, 227), (4, 228), (4, 229), (4, 230), (4, 231), (7, 3), (7, 4), (7, 5), (7, 6), (4, 232), (4, 233), (4, 234), (4, 235), (4, 236), (4, 237), (4, 238), (7, 7), (7, 8), (7, 9)] (by decide +kernel)
set_option maxRecDepth 20000 in
theorem lwm_40 : ∀ w ∈ wsL_law0_r41, w ∈ lw_tbl := memIn_r2 tbB_in _ [(7, 10), (7, 11), (7, 13), (0, 71), (7, 14), (4, 239), (5, 0), (5, 1), (5, 2), (5, 3), (5, 4), (5, 5), (7, 15), (7, 16), (7, 17), (7, 18), (5, 7), (5, 8), (5, 9), (5, 10), (5, 11), (5, 12), (5, 13), (7, 19)] (by decide +kernel)
set_option maxRecDepth 20000 in
theorem lwm_41 : ∀ w ∈ wsL_law0_r42, w ∈ lw_tbl := memIn_r2 tbB_in _ [(7, 20), (7, 21), (7, 22), (5, 14), (5, 15), (5, 16), (5, 17), (5, 18), (5, 19), (5, 20), (7, 23), (7, 24), (7, 25), (7, 26), (5, 21), (5, 22), (5, 23), (5, 24), (5, 25), (5, 26), (5, 27), (2, 237), (2, 239), (0, 13)] (by decide +kernel)
set_option maxRecDepth 20000 in
theorem lwm_42 : ∀ w ∈ wsL_law0_r43, w ∈ lw_tbl := memIn_r2 tbB_in _ [(3, 0), (3, 1), (3, 6), (3, 7), (3, 8), (3, 9), (3, 10), (3, 11), (3, 12), (3, 13), (3, 14), (3, 16), (0, 14), (3, 17), (3, 18), (3, 22), (7, 27), (7, 28), (7, 29), (7, 30), (7, 31), (7, 33), (0, 72), (7, 34)] (by decide +kernel)
set_option maxRecDepth 20000 in
theorem lwm_43 : ∀ w ∈ wsL_law0_r44, w ∈ lw_tbl := memIn_r2 tbB_in _ [(5, 28), (5, 29), (5, 30), (5, 31), (5, 32), (5, 33), (5, 34), (3, 27), (3, 28), (3, 29), (3, 30), (7, 35), (7, 36), (7, 37), (7, 38), (7, 39), (7, 41), (0, 73), (7, 42), (2, 184), (2, 185), (2, 186), (2, 187), (2, 188)] (by decide +kernel)
set_option maxRecDepth 20000 in
theorem lwm_44 : ∀ w ∈ wsL_law0_r45, w ∈ lw_tbl := memIn_r2 tbB_in _ [(2, 190), (0, 9), (2, 191), (2, 192), (2, 193), (2, 194), (2, 195), (2, 198), (2, 200), (0, 10), (2, 201), (7, 43), (7, 44), (7, 45), (7, 46), (7, 47), (7, 49), (0, 74), (7, 50), (2, 203), (2, 204), (2, 205), (2, 206), (2, 207)] (by decide +kernel)
set_option maxRecDepth 20000 in
theorem lwm_45 : ∀ w ∈ wsL_law0_r46, w ∈ lw_tbl := memIn_r2 tbB_in _ [(2, 209), (0, 11), (2, 210), (2, 213), (2, 214), (2, 215), (2, 216), (2, 217), (7, 51), (7, 52), (7, 53), (7, 54), (5, 35), (5, 36), (5, 37), (5, 38), (5, 39), (5, 40), (5, 41), (5, 42), (5, 43), (5, 44), (5, 45), (5, 46)] (by decide +kernel)
set_option maxRecDepth 20000 in
theorem lwm_46 : ∀ w ∈ wsL_law0_r47, w ∈ lw_tbl := memIn_r2 tbB_in _ [(5, 48), (0, 38), (5, 49), (5, 51), (5, 53), (0, 39), (5, 54), (5, 55), (7, 55), (7, 56), (7, 57), (7, 58), (5, 56), (5, 57), (5, 58), (5, 59), (5, 60), (5, 61), (5, 62), (3, 31), (3, 33), (0, 16), (3, 34), (3, 35)] (by decide +kernel)
set_option maxRecDepth 20000 in
theorem lwm_47 : ∀ w ∈ wsL_law0_r48, w ∈ lw_tbl := memIn_r2 tbB_in _ [(3, 37), (0, 17), (3, 38), (7, 59), (7, 60), (7, 61), (7, 62), (7, 63), (7, 65), (0, 75), (7, 66), (7, 67), (7, 69), (0, 76), (7, 70), (5, 63), (5, 64), (5, 65), (5, 66), (5, 67), (5, 68), (5, 69), (5, 70), (7, 71)] (by decide +kernel)
set_option maxRecDepth 20000 in
theorem lwm_48 : ∀ w ∈ wsL_law0_r49, w ∈ lw_tbl := memIn_r2 tbB_in _ [(7, 72), (7, 73), (7, 74), (5, 71), (5, 72), (5, 73), (5, 74), (5, 75), (5, 76), (5, 77), (5, 78), (5, 79), (7, 75), (7, 76), (7, 77), (7, 78), (2, 218), (2, 219), (2, 220), (2, 221), (2, 222), (2, 223), (2, 224), (2, 225)] (by decide +kernel)
set_option maxRecDepth 20000 in
theorem lwm_49 : ∀ w ∈ wsL_law0_r50, w ∈ lw_tbl := memIn_r2 tbB_in _ [(2, 226), (2, 232), (2, 234), (0, 12), (2, 235), (3, 23), (3, 25), (0, 15), (3, 26), (7, 79), (7, 80), (7, 81), (7, 82), (7, 83), (5, 114), (7, 84), (7, 86), (0, 77), (7, 87), (7, 88)] (by decide +kernel)
theorem lwm_50 : ∀ w ∈ wsX80, w ∈ lw_tbl := by decide +kernel
theorem lwm_51 : ∀ w ∈ wsX90, w ∈ lw_tbl := by decide +kernel
theorem lwm_52 : ∀ w ∈ wsX30, w ∈ lw_tbl := by decide +kernel
theorem lwm_53 : ∀ w ∈ wsX10, w ∈ lw_tbl := by decide +kernel
theorem lwm_54 : ∀ w ∈ wsX20, w ∈ lw_tbl := by decide +kernel
theorem lwm_55 : ∀ w ∈ wsX70, w ∈ lw_tbl := by decide +kernel
theorem lwm_56 : ∀ w ∈ wsX00, w ∈ lw_tbl := by decide +kernel
theorem lwm_57 : ∀ w ∈ wsX40, w ∈ lw_tbl := by decide +kernel
theorem lwm_58 : ∀ w ∈ wsX60, w ∈ lw_tbl := by decide +kernel
theorem lwm_59 : ∀ w ∈ wsX50, w ∈ lw_tbl := by decide +kernel
theorem lwm_60 : ∀ w ∈ ([] : List Cond), w ∈ lw_tbl := by decide +kernel
theorem wsL_law_in0 : ∀ w ∈ wsL_law0, w ∈ lw_tbl := fun w h => ((List.mem_append.mp h).elim (fun h => ((List.mem_append.mp h).elim (fun h => ((List.mem_append.mp h).elim (fun h => ((List.mem_append.mp h).elim (fun h => ((List.mem_append.mp h).elim (fun h => ((List.mem_append.mp h).elim (fun h => ((List.mem_append.mp h).elim (fun h => ((List.mem_append.mp h).elim (fun h => ((List.mem_append.mp h).elim (fun h => ((List.mem_append.mp h).elim (fun h => ((List.mem_append.mp h).elim (fun h => ((List.mem_append.mp h).elim (fun h => (lwm_0 w h)) (fun h => ((List.mem_append.mp h).elim (fun h => (lwm_1 w h)) (fun h => ((List.mem_append.mp h).elim (fun h => (lwm_2 w h)) (fun h => ((List.mem_append.mp h).elim (fun h => (lwm_3 w h)) (fun h => ((List.mem_append.mp h).elim (fun h => (lwm_4 w h)) (fun h => ((List.mem_append.mp h).elim (fun h => (lwm_5 w h)) (fun h => ((List.mem_append.mp h).elim (fun h => (lwm_6 w h)) (fun h => ((List.mem_append.mp h).elim (fun h => (lwm_7 w h)) (fun h => ((List.mem_append.mp h).elim (fun h => (lwm_8 w h)) (fun h => ((List.mem_append.mp h).elim (fun h => (lwm_9 w h)) (fun h => ((List.mem_append.mp h).elim (fun h => (lwm_10 w h)) (fun h => ((List.mem_append.mp h).elim (fun h => (lwm_11 w h)) (fun h => ((List.mem_append.mp h).elim (fun h => (lwm_12 w h)) (fun h => ((List.mem_append.mp h).elim (fun h => (lwm_13 w h)) (fun h => ((List.mem_append.mp h).elim (fun h => (lwm_14 w h)) (fun h => ((List.mem_append.mp h).elim (fun h => (lwm_15 w h)) (fun h => ((List.mem_append.mp h).elim (fun h => (lwm_16 w h)) (fun h => ((List.mem_append.mp h).elim (fun h => (lwm_17 w h)) (fun h => ((List.mem_append.mp h).elim (fun h => (lwm_18 w h)) (fun h => ((List.mem_append.mp h).elim (fun h => (lwm_19 w h)) (fun h => ((List.mem_append.mp h).elim (fun h => (lwm_20 w h)) (fun h => ((List.mem_append.mp h).elim (fun h => (lwm_21 w h)) (fun h => ((List.mem_append.mp h).elim (fun h => (lwm_22 w h)) (fun h => ((List.mem_append.mp h).elim (fun h => (lwm_23 w h)) (fun h => ((List.mem_append.mp h).elim (fun h => (lwm_24 w h)) (fun h => ((List.mem_append.mp h).elim (fun h => (lwm_25 w h)) (fun h => ((List.mem_append.mp h).elim (fun h => (lwm_26 w h)) (fun h => ((List.mem_append.mp h).elim (fun h => (lwm_27 w h)) (fun h => ((List.mem_append.mp h).elim (fun h => (lwm_28 w h)) (fun h => ((List.mem_append.mp h).elim (fun h => (lwm_29 w h)) (fun h => ((List.mem_append.mp h).elim (fun h => (lwm_30 w h)) (fun h => ((List.mem_append.mp h).elim (fun h => (lwm_31 w h)) (fun h => ((List.mem_append.mp h).elim (fun h => (lwm_32 w h)) (fun h => ((List.mem_append.mp h).elim (fun h => (lwm_33 w h)) (fun h => ((List.mem_append.mp h).elim (fun h => (lwm_34 w h)) (fun h => ((List.mem_append.mp h).elim (fun h => (lwm_35 w h)) (fun h => ((List.mem_append.mp h).elim (fun h => (lwm_36 w h)) (fun h => ((List.mem_append.mp h).elim (fun h => (lwm_37 w h)) (fun h => ((List.mem_append.mp h).elim (fun h => (lwm_38 w h)) (fun h => ((List.mem_append.mp h).elim (fun h => (lwm_39 w h)) (fun h => ((List.mem_append.mp h).elim (fun h => (lwm_40 w h)) (fun h => ((List.mem_append.mp h).elim (fun h => (lwm_41 w h)) (fun h => ((List.mem_append.mp h).elim (fun h => (lwm_42 w h)) (fun h => ((List.mem_append.mp h).elim (fun h => (lwm_43 w h)) (fun h => ((List.mem_append.mp h).elim (fun h => (lwm_44 w h)) (fun h => ((List.mem_append.mp h).elim (fun h => (lwm_45 w h)) (fun h => ((List.mem_append.mp h).elim (fun h => (lwm_46 w h)) (fun h => ((List.mem_append.mp h).elim (fun h => (lwm_47 w h)) (fun h => ((List.mem_append.mp h).elim (fun h => (lwm_48 w h)) (fun h => (lwm_49 w h)))))))))))))))))))))))))))))))))))))))))))))))))))))))))))))))))))))))))))))))))))))))))))))))))))) (fun h => (lwm_50 w h)))) (fun h => (lwm_51 w h)))) (fun h => (lwm_52 w h)))) (fun h => (lwm_53 w h)))) (fun h => (lwm_54 w h)))) (fun h => (lwm_55 w h)))) (fun h => (lwm_56 w h)))) (fun h => (lwm_57 w h)))) (fun h => (lwm_58 w h)))) (fun h => (lwm_59 w h)))) (fun h => (lwm_60 w h)))
theorem wsL_law_x0 : ∀ w ∈ (vx_atS RX8 318 "java/lang/IllegalArgumentException" ["java/lang/RuntimeException", "java/lang/Exception"]).filter goodWord, w ∈ lw_tbl := by decide +kernel
theorem wsL_law_x1 : ∀ w ∈ (vx_atS RX8 323 "java/lang/IllegalStateException" ["java/lang/RuntimeException", "java/lang/Exception"]).filter goodWord, w ∈ lw_tbl := by decide +kernel
theorem wsL_law_x2 : ∀ w ∈ (vx_atS RX8 259 "java/lang/IndexOutOfBoundsException" ["java/lang/RuntimeException", "java/lang/Exception"]).filter goodWord, w ∈ lw_tbl := by decide +kernel
theorem wsL_law_in : ∀ w ∈ wsL_law, w ∈ lw_tbl := fun w h => (List.mem_append.mp h).elim (fun h => (List.mem_append.mp h).elim (fun h => (List.mem_append.mp h).elim (fun h => wsL_law_in0 w h) (fun h => wsL_law_x0 w h)) (fun h => wsL_law_x1 w h)) (fun h => wsL_law_x2 w h)
