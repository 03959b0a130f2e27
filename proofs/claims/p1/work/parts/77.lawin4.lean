set_option maxRecDepth 20000 in
theorem lwm_42 : ∀ w ∈ wsL_law0_r43, w ∈ lw_tbl := memIn_r2 tbB_in _ [(3, 0), (3, 1), (3, 6), (3, 7), (3, 8), (3, 9), (3, 10), (3, 11), (3, 12), (3, 13), (3, 14), (3, 16), (0, 14), (3, 17), (3, 18), (3, 22), (7, 27), (7, 28), (7, 29), (7, 30), (7, 31), (7, 33), (0, 72), (7, 34)] (by decide +kernel)
set_option maxRecDepth 20000 in
theorem lwm_43 : ∀ w ∈ wsL_law0_r44, w ∈ lw_tbl := memIn_r2 tbB_in _ [(5, 28), (5, 29), (5, 30), (5, 31), (5, 32), (5, 33), (5, 34), (3, 27), (3, 28), (3, 29), (3, 30), (7, 35), (7, 36), (7, 37), (7, 38), (7, 39), (7, 41), (0, 73), (7, 42), (2, 184), (2, 185), (2, 186), (2, 187), (2, 188)] (by decide +kernel)
set_option maxRecDepth 20000 in
theorem lwm_44 : ∀ w ∈ wsL_law0_r45, w ∈ lw_tbl := memIn_r2 tbB_in _ [(2, 190), (0, 9), (2, 191), (2, 192), (2, 193), (2, 194), (2, 195), (2, 198), (2, 200), (0, 10), (2, 201), (7, 43), (7, 44), (7, 45), (7, 46), (7, 47), (7, 49), (0, 74), (7, 50), (2, 203), (2, 204), (2, 205), (2, 206), (2, 207)] (by decide +kernel)
set_option maxRecDepth 20000 in
theorem lwm_45 : ∀ w ∈ wsL_law0_r46, w ∈ lw_tbl := memIn_r2 tbB_in _ [(2, 209), (0, 11), (2, 210), (2, 213), (2, 214), (2, 215), (2, 216), (2, 217), (7, 51), (7, 52), (7, 53), (7, 54), (5, 35), (5, 36), (5, 37), (5, 38), (5, 39), (5, 40), (5, 41), (5, 42), (5, 43), (5, 44), (5, 45), (5, 46)] (by decide +kernel)
set_option maxRecDepth 20000 in
theorem lwm_46 : ∀ w ∈ wsL_law0_r47, w ∈ lw_tbl := memIn_r2 tbB_in _ [(5, 48), (0, 38), (5, 49), (5, 51), (5, 53), (0, 39), (5, 54), (5, 55), (7, 55), (7, 56), (7, 57), (7, 58), (5, 56), (5, 57), (5, 58), (5, 59), (5, 60), (5, 61), (5, 62), (3, 31), (3, 33), (0, 16), (3, 34), (3, 35)] (by decide +kernel)
set_option maxRecDepth 20000 in
theorem lwm_47 : ∀ w ∈ wsL_law0_r48, w ∈ lw_tbl := memIn_r2 tbB_in _ [(3, 37), (0, 17), (3, 38), (7, 59), (7, 60), (7, 61), (7, 62), (7, 63), (7, 65), (0, 75), (7, 66), (7, 67), (7, 69), (0, 76), (7, 70), (5, 63), (5, 64), (5, 65), (5, 66), (5, 67), (5, 68), (5, 69), (5, 70), (7, 71)] (by decide +kernel)
set_option maxRecDepth 20000 in
theorem lwm_48 : ∀ w ∈ wsL_law0_r49, w ∈ lw_tbl := memIn_r2 tbB_in _ [(7, 72), (7, 73), (7, 74), (5, 71), (5, 72), (5, 73), (5, 74), (5, 75), (5, 76), (5, 77), (5, 78), (5, 79), (7, 75), (7, 76), (7, 77), (7, 78), (2, 218), (2, 219), (2, 220), (2, 221), (2, 222), (2, 223), (2, 224), (2, 225)] (by decide +kernel)
set_option maxRecDepth 20000 in
theorem lwm_49 : ∀ w ∈ wsL_law0_r50, w ∈ lw_tbl := memIn_r2 tbB_in _ [(2, 226), (2, 232), (2, 234), (0, 12), (2, 235), (3, 23), (3, 25), (0, 15), (3, 26), (7, 79), (7, 80), (7, 81), (7, 82), (7, 83), (5, 114), (7, 84), (7, 86), (0, 77), (7, 87), (7, 88)] (by decide +kernel)
theorem lwm_50 : ∀ w ∈ wsX80, w ∈ lw_tbl := by decide +kernel
theorem lwm_51 : ∀ w ∈ wsX90, w ∈ lw_tbl := by decide +kernel
theorem lwm_52 : ∀ w ∈ wsX30, w ∈ lw_tbl := by decide +kernel
theorem lwm_53 : ∀ w ∈ wsX10, w ∈ lw_tbl := by decide +kernel
theorem lwm_54 : ∀ w ∈ wsX20, w ∈ lw_tbl := by decide +kernel
theorem lwm_55 : ∀ w ∈ wsX70, w ∈ lw_tbl := by decide +kernel
