theorem goodIn_cons {big a : List Cond} {c : Cond} (h1 : GoodIn big [c]) (h2 : GoodIn big a) : GoodIn big (c :: a) := fun w h => (List.mem_cons.mp h).elim (fun e => h1 w (by rw [e]; exact List.mem_cons_self)) (h2 w)
set_option maxRecDepth 20000 in
theorem ggL_law_X8_init : GoodIn wsL_law wsX8_init := goodIn_r2 lB_L_law_in _ [(0, 5), (0, 6), (0, 7), (0, 8), (0, 9), (0, 10), (0, 11), (0, 12), (0, 13), (0, 14), (0, 15), (0, 16), (0, 17), (0, 18), (0, 19), (0, 20), (0, 21), (0, 22), (0, 23), (1, 0), (1, 1), (1, 2), (1, 3), (1, 4), (1, 5), (1, 6), (1, 7), (1, 8), (1, 9), (1, 10), (1, 11), (1, 12), (1, 13), (1, 14), (1, 15), (1, 16), (1, 17), (1, 18), (1, 19), (1, 20), (1, 21), (1, 22), (1, 23), (2, 0), (2, 1), (2, 2), (2, 3), (2, 4), (2, 5), (2, 6), (2, 7), (2, 8), (2, 9), (2, 10), (2, 11), (2, 12), (2, 13), (2, 14), (2, 15), (2, 16), (2, 17), (2, 18), (2, 19), (2, 20), (2, 21), (2, 22), (2, 23), (3, 0), (3, 1), (3, 2), (3, 3), (3, 4), (3, 5), (3, 6), (3, 7), (3, 8), (3, 9), (3, 10), (3, 11), (3, 12), (3, 13), (3, 14), (3, 15), (3, 16), (3, 17), (3, 18), (3, 19), (3, 20), (3, 21), (3, 22), (3, 23), (4, 0), (4, 1), (4, 2), (4, 3), (33, 0), (33, 1), (33, 2), (33, 3), (32, 0), (32, 1), (32, 2), (32, 3), (32, 4), (32, 5), (32, 6), (32, 7), (34, 0), (34, 1), (34, 2), (34, 3), (34, 4), (35, 0), (35, 1), (36, 0), (36, 1), (36, 2), (36, 3), (36, 4), (36, 5), (37, 0), (37, 1), (37, 2), (38, 0), (38, 1), (38, 2), (38, 3), (38, 4), (39, 0), (39, 1), (39, 2), (40, 0), (40, 1)] (by decide +kernel) (by decide +kernel)
set_option maxRecDepth 20000 in
theorem gL_law_X8_init : GoodIn wsL_law (wsX8_init) := ggL_law_X8_init
set_option maxRecDepth 20000 in
theorem ggL_law_L_cell : GoodIn wsL_law wsL_cell := goodIn_r2 lB_L_law_in _ [(4, 7), (4, 8)] (by decide +kernel) (by decide +kernel)
set_option maxRecDepth 20000 in
theorem gL_law_L_cell : GoodIn wsL_law (va_wsS RL 12 yL_cell wsL_cell) := goodIn_app (goodIn_of _ (by decide +kernel)) ggL_law_L_cell
set_option maxRecDepth 20000 in
theorem ggL_law_L_below : GoodIn wsL_law wsL_below := goodIn_r2 lB_L_law_in _ [(4, 11), (4, 12)] (by decide +kernel) (by decide +kernel)
set_option maxRecDepth 20000 in
theorem gL_law_L_below : GoodIn wsL_law (va_wsS RL 18 yL_below wsL_below) := goodIn_app (goodIn_of _ (by decide +kernel)) ggL_law_L_below
set_option maxRecDepth 20000 in
theorem ggL_law_X8_point : GoodIn wsL_law wsX8_point := goodIn_ca (goodIn_ca (goodIn_r2 lB_L_law_in _ [(4, 16), (0, 12), (4, 17), (4, 18), (0, 2), (4, 19), (4, 20), (4, 21), (4, 22), (4, 23), (5, 0), (5, 1), (5, 2), (5, 3), (5, 4), (5, 5), (5, 6), (5, 7), (5, 8), (0, 11), (5, 9), (5, 10), (5, 11), (5, 12), (5, 13), (5, 14), (5, 15), (5, 16), (5, 17), (5, 18), (5, 19), (2, 0), (5, 20), (5, 21), (5, 22), (5, 23), (6, 0), (6, 1), (6, 2), (1, 22), (32, 0), (32, 1), (32, 2), (32, 3), (32, 4), (32, 5), (32, 6), (32, 7), (33, 0), (33, 1), (33, 2), (33, 3)] (by decide +kernel) (by decide +kernel)) (goodIn_sub (fun _ h => List.mem_append_left _ (List.mem_append_left _ (List.mem_append_right _ h))) (by decide +kernel))) (goodIn_sub (fun _ h => List.mem_append_left _ (List.mem_append_right _ h)) (by decide +kernel))
set_option maxRecDepth 20000 in
theorem gL_law_X8_point : GoodIn wsL_law (wsV RL 22 RX8 yX8_point wsX8_point) := goodIn_app (goodIn_of _ (by decide +kernel)) ggL_law_X8_point
set_option maxRecDepth 20000 in
theorem gA_L_act_wsL_act_r1 : GoodIn wsL_law wsL_act_r1 := goodIn_r2 lB_L_law_in _ [(6, 6), (6, 7), (6, 8), (6, 9), (6, 10), (6, 11), (6, 12), (6, 13), (6, 14), (6, 15), (0, 2), (6, 16), (0, 12), (6, 17), (6, 18), (6, 19), (0, 11), (6, 20), (5, 20), (6, 21), (6, 22), (6, 23), (7, 0), (0, 16)] (by decide +kernel) (by decide +kernel)
set_option maxRecDepth 20000 in
theorem gA_L_act_wsL_act_r2 : GoodIn wsL_law wsL_act_r2 := goodIn_r2 lB_L_law_in _ [(7, 1), (7, 2), (7, 3), (0, 15), (7, 4), (7, 5), (7, 6), (7, 7), (7, 8), (7, 9), (2, 6), (2, 7), (7, 10), (7, 11), (7, 12), (1, 14), (7, 13), (7, 14), (7, 15), (7, 16), (7, 17), (7, 18), (2, 12), (7, 19)] (by decide +kernel) (by decide +kernel)
set_option maxRecDepth 20000 in
theorem gA_L_act_wsL_act_r3 : GoodIn wsL_law wsL_act_r3 := goodIn_r2 lB_L_law_in _ [(7, 20), (7, 21), (7, 22), (7, 23), (8, 0), (8, 1), (8, 2), (2, 8), (8, 3), (8, 4), (8, 5), (8, 6), (8, 7), (8, 8), (8, 9), (8, 10), (8, 11), (4, 9), (4, 10), (4, 6), (4, 11), (4, 12), (8, 12), (8, 13)] (by decide +kernel) (by decide +kernel)
set_option maxRecDepth 20000 in
theorem gA_L_act_wsL_act_r4 : GoodIn wsL_law wsL_act_r4 := goodIn_r2 lB_L_law_in _ [(8, 14), (8, 15), (8, 16), (8, 17), (8, 18), (8, 19), (8, 20), (8, 21), (8, 22), (8, 23), (9, 0), (9, 1), (9, 2), (9, 3), (9, 4), (9, 5), (9, 6), (9, 7), (9, 8), (9, 9), (9, 10), (9, 11), (9, 12), (1, 15)] (by decide +kernel) (by decide +kernel)
set_option maxRecDepth 20000 in
theorem gA_L_act_wsL_act_r5 : GoodIn wsL_law wsL_act_r5 := goodIn_r2 lB_L_law_in _ [(9, 13), (9, 14), (9, 15), (9, 16), (9, 17), (9, 18), (9, 19), (9, 20), (9, 21), (9, 22), (9, 23), (10, 0), (2, 0), (5, 21), (5, 22), (10, 1), (10, 2), (10, 3), (10, 4), (10, 5), (10, 6), (10, 7), (10, 8), (10, 9)] (by decide +kernel) (by decide +kernel)
set_option maxRecDepth 20000 in
theorem gA_L_act_wsL_act_r6 : GoodIn wsL_law wsL_act_r6 := goodIn_r2 lB_L_law_in _ [(10, 10), (10, 11), (10, 12), (10, 13), (10, 14), (10, 15), (10, 16), (10, 17), (10, 18), (10, 19), (10, 20), (10, 21), (10, 22), (10, 23), (11, 0), (11, 1), (11, 2), (11, 3), (11, 4), (5, 11), (5, 12), (5, 13), (5, 14), (5, 15)] (by decide +kernel) (by decide +kernel)
set_option maxRecDepth 20000 in
theorem gA_L_act_wsL_act_r7 : GoodIn wsL_law wsL_act_r7 := goodIn_r2 lB_L_law_in _ [(11, 5), (11, 6), (11, 7), (11, 8), (11, 9), (11, 10), (11, 11), (11, 12), (11, 13), (11, 14), (11, 15), (11, 16), (11, 17), (11, 18), (11, 19), (11, 20), (11, 21), (11, 22), (11, 23), (12, 0), (12, 1), (12, 2), (12, 3), (12, 4)] (by decide +kernel) (by decide +kernel)
set_option maxRecDepth 20000 in
theorem gA_L_act_wsL_act_r8 : GoodIn wsL_law wsL_act_r8 := goodIn_r2 lB_L_law_in _ [(12, 5), (12, 6), (12, 7), (12, 8), (12, 9), (12, 10), (12, 11), (12, 12), (12, 13), (12, 14), (12, 15), (5, 1), (5, 2), (5, 3), (5, 4), (5, 5), (4, 17), (4, 18), (4, 19), (4, 20), (4, 21), (4, 22), (4, 23), (5, 0)] (by decide +kernel) (by decide +kernel)
set_option maxRecDepth 20000 in
theorem gA_L_act_wsL_act_r9 : GoodIn wsL_law wsL_act_r9 := goodIn_r2 lB_L_law_in _ [(5, 6), (5, 7), (5, 8), (5, 9), (5, 10), (12, 16), (12, 17), (12, 18), (12, 19), (5, 16), (5, 17), (5, 18), (5, 19), (5, 23), (6, 0), (6, 1), (6, 2), (1, 22), (12, 20), (12, 21), (12, 22), (12, 23), (13, 0), (13, 1)] (by decide +kernel) (by decide +kernel)
set_option maxRecDepth 20000 in
theorem gA_L_act_wsL_act_r10 : GoodIn wsL_law wsL_act_r10 := goodIn_r2 lB_L_law_in _ [(13, 2), (13, 3), (13, 4), (13, 5), (13, 6), (13, 7), (13, 8), (13, 9), (13, 10), (13, 11), (13, 12), (13, 13), (13, 14), (13, 15), (13, 16), (13, 17), (13, 18), (13, 19), (13, 20), (13, 21), (13, 22), (13, 23), (14, 0), (14, 1)] (by decide +kernel) (by decide +kernel)
set_option maxRecDepth 20000 in
theorem gA_L_act_wsL_act_r11 : GoodIn wsL_law wsL_act_r11 := goodIn_r2 lB_L_law_in _ [(14, 2), (14, 3), (14, 4), (14, 5), (14, 6), (14, 7), (14, 8), (14, 9), (14, 10), (14, 11), (14, 12), (14, 13), (14, 14), (14, 15), (14, 16), (1, 16), (14, 17), (14, 18), (14, 19), (14, 20), (14, 21), (14, 22), (14, 23), (15, 0)] (by decide +kernel) (by decide +kernel)
set_option maxRecDepth 20000 in
theorem gA_L_act_wsL_act_r12 : GoodIn wsL_law wsL_act_r12 := goodIn_r2 lB_L_law_in _ [(15, 1), (15, 2), (15, 3), (15, 4), (15, 5), (15, 6), (15, 7), (15, 8), (15, 9), (15, 10), (15, 11), (15, 12), (15, 13), (15, 14), (15, 15), (15, 16), (15, 17), (15, 18), (15, 19), (15, 20), (1, 3), (15, 21), (15, 22), (15, 23)] (by decide +kernel) (by decide +kernel)
set_option maxRecDepth 20000 in
theorem gA_L_act_wsL_act_r13 : GoodIn wsL_law wsL_act_r13 := goodIn_r2 lB_L_law_in _ [(1, 2), (16, 0), (3, 9), (3, 8), (16, 1), (16, 2), (16, 3), (0, 19), (16, 4), (16, 5), (16, 6), (16, 7), (16, 8), (16, 9), (16, 10), (3, 7), (16, 11), (16, 12), (16, 13), (16, 14), (16, 15), (16, 16), (16, 17), (16, 18)] (by decide +kernel) (by decide +kernel)
