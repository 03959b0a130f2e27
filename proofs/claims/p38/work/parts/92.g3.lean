set_option maxRecDepth 20000 in
theorem gA_L_isMayRight_wsL_isMayRight_r5 : GoodIn wsL_law wsL_isMayRight_r5 := goodIn_r2 lB_L_law_in _ [(10, 12), (16, 17), (16, 18), (16, 19), (16, 20), (16, 21), (16, 22), (16, 23), (17, 0), (2, 16), (5, 21), (5, 22), (17, 1), (8, 8), (8, 9), (8, 10), (8, 11), (17, 17), (17, 18), (17, 19), (17, 20), (12, 11), (17, 21), (17, 22)] (by decide +kernel) (by decide +kernel)
set_option maxRecDepth 20000 in
theorem gA_L_isMayRight_wsL_isMayRight_r6 : GoodIn wsL_law wsL_isMayRight_r6 := goodIn_r2 lB_L_law_in _ [(17, 23), (18, 0), (18, 1), (18, 2), (18, 3), (18, 4), (18, 5), (13, 5), (13, 6), (13, 7), (13, 8), (15, 3), (15, 4), (15, 5), (15, 6), (15, 7), (15, 8), (15, 9), (15, 10), (14, 17), (22, 6), (20, 0), (20, 1), (20, 2)] (by decide +kernel) (by decide +kernel)
set_option maxRecDepth 20000 in
theorem gA_L_isMayRight_wsL_isMayRight_r7 : GoodIn wsL_law wsL_isMayRight_r7 := goodIn_r2 lB_L_law_in _ [(4, 9), (4, 10), (4, 6), (4, 11), (4, 12), (29, 11), (29, 12), (29, 13), (6, 6), (8, 12), (8, 13), (8, 14), (8, 15), (8, 16), (8, 17), (8, 18), (8, 19), (8, 20), (8, 21), (8, 22), (8, 23), (9, 0), (9, 1), (25, 6)] (by decide +kernel) (by decide +kernel)
set_option maxRecDepth 20000 in
theorem gA_L_isMayRight_wsL_isMayRight_r8 : GoodIn wsL_law wsL_isMayRight_r8 := goodIn_r2 lB_L_law_in _ [(25, 7), (25, 8), (25, 9), (0, 23), (25, 10), (11, 16), (11, 17), (11, 18), (11, 19), (11, 20), (11, 21), (11, 22), (19, 7), (19, 8), (19, 9), (0, 22), (19, 10), (3, 1), (3, 0), (19, 11), (19, 12), (19, 16), (19, 17), (19, 18)] (by decide +kernel) (by decide +kernel)
set_option maxRecDepth 20000 in
theorem gA_L_isMayRight_wsL_isMayRight_r9 : GoodIn wsL_law wsL_isMayRight_r9 := goodIn_r2 lB_L_law_in _ [(19, 19), (19, 20), (19, 21), (19, 22), (19, 23), (20, 3), (20, 4), (20, 5), (20, 6), (20, 7), (20, 8), (20, 9), (20, 10), (20, 11), (25, 11), (12, 4), (12, 5), (12, 6), (9, 4), (9, 5), (9, 6), (9, 7), (21, 18), (21, 19)] (by decide +kernel) (by decide +kernel)
set_option maxRecDepth 20000 in
theorem gA_L_isMayRight_wsL_isMayRight_r10 : GoodIn wsL_law wsL_isMayRight_r10 := goodIn_r2 lB_L_law_in _ [(21, 20), (21, 21), (9, 13), (9, 14), (9, 15), (9, 16), (9, 17), (9, 18), (9, 19), (9, 20), (0, 12), (9, 21), (9, 22), (9, 23), (0, 11), (10, 0), (2, 0), (21, 22), (21, 23), (22, 0), (22, 1), (30, 18), (30, 19), (30, 20)] (by decide +kernel) (by decide +kernel)
set_option maxRecDepth 20000 in
theorem gA_L_isMayRight_wsL_isMayRight_r11 : GoodIn wsL_law wsL_isMayRight_r11 := goodIn_r2 lB_L_law_in _ [(30, 21), (30, 22), (30, 23), (31, 0), (31, 1), (31, 2), (31, 3), (31, 4), (31, 5), (31, 6), (13, 17), (13, 18), (13, 19), (13, 20), (1, 22)] (by decide +kernel) (by decide +kernel)
set_option maxRecDepth 20000 in
theorem gA_L_isMayRight_wsX80 : GoodIn wsL_law wsX80 := goodIn_r2 lB_L_law_in _ [(32, 0), (32, 1), (32, 2), (32, 3), (32, 4), (32, 5), (32, 6), (32, 7)] (by decide +kernel) (by decide +kernel)
set_option maxRecDepth 20000 in
theorem gA_L_isMayRight_wsX10 : GoodIn wsL_law wsX10 := goodIn_r2 lB_L_law_in _ [(34, 0), (34, 1), (34, 2), (34, 3), (34, 4)] (by decide +kernel) (by decide +kernel)
set_option maxRecDepth 20000 in
theorem gA_L_isMayRight_wsX50 : GoodIn wsL_law wsX50 := goodIn_r2 lB_L_law_in _ [(40, 0), (40, 1)] (by decide +kernel) (by decide +kernel)
set_option maxRecDepth 20000 in
theorem gA_L_isMayRight_wsX00 : GoodIn wsL_law wsX00 := goodIn_r2 lB_L_law_in _ [(37, 0), (37, 1), (37, 2)] (by decide +kernel) (by decide +kernel)
set_option maxRecDepth 20000 in
theorem gA_L_isMayRight_wsX20 : GoodIn wsL_law wsX20 := goodIn_r2 lB_L_law_in _ [(35, 0), (35, 1)] (by decide +kernel) (by decide +kernel)
set_option maxRecDepth 20000 in
theorem gA_L_isMayRight_wsX70 : GoodIn wsL_law wsX70 := goodIn_r2 lB_L_law_in _ [(36, 0), (36, 1), (36, 2), (36, 3), (36, 4), (36, 5)] (by decide +kernel) (by decide +kernel)
set_option maxRecDepth 20000 in
theorem gA_L_isMayRight_wsX30 : GoodIn wsL_law wsX30 := goodIn_r2 lB_L_law_in _ [(33, 0), (33, 1), (33, 2), (33, 3)] (by decide +kernel) (by decide +kernel)
set_option maxRecDepth 20000 in
theorem ggL_law_L_isMayRight : GoodIn wsL_law wsL_isMayRight := goodIn_ca (goodIn_ca (goodIn_cons (goodIn_r2 lB_L_law_in _ [(30, 13)] rfl rfl) (goodIn_app (goodIn_app (goodIn_app (goodIn_app (goodIn_app (goodIn_app (goodIn_app (goodIn_app gA_L_isMayRight_wsL_isMayRight_r1 (goodIn_app gA_L_isMayRight_wsL_isMayRight_r2 (goodIn_app gA_L_isMayRight_wsL_isMayRight_r3 (goodIn_app gA_L_isMayRight_wsL_isMayRight_r4 (goodIn_app gA_L_isMayRight_wsL_isMayRight_r5 (goodIn_app gA_L_isMayRight_wsL_isMayRight_r6 (goodIn_app gA_L_isMayRight_wsL_isMayRight_r7 (goodIn_app gA_L_isMayRight_wsL_isMayRight_r8 (goodIn_app gA_L_isMayRight_wsL_isMayRight_r9 (goodIn_app gA_L_isMayRight_wsL_isMayRight_r10 gA_L_isMayRight_wsL_isMayRight_r11)))))))))) gA_L_isMayRight_wsX80) gA_L_isMayRight_wsX10) gA_L_isMayRight_wsX50) gA_L_isMayRight_wsX00) gA_L_isMayRight_wsX20) gA_L_isMayRight_wsX70) gA_L_isMayRight_wsX30)) (goodIn_sub (fun _ h => List.mem_append_left _ (List.mem_append_left _ (List.mem_append_right _ h))) (by decide +kernel))) (goodIn_sub (fun _ h => List.mem_append_right _ h) (by decide +kernel))
set_option maxRecDepth 20000 in
theorem gL_law_L_isMayRight : GoodIn wsL_law (va_wsS RL 38 yL_isMayRight wsL_isMayRight) := goodIn_app (goodIn_of _ (by decide +kernel)) ggL_law_L_isMayRight
set_option maxRecDepth 20000 in
theorem ggL_act_X8_points : GoodIn wsL_act wsX8_points := goodIn_r2 lB_L_act_in _ [(0, 11), (0, 12), (0, 13), (0, 14), (0, 15), (0, 16), (0, 17), (0, 18), (23, 0), (23, 1), (23, 2), (23, 3), (23, 4), (23, 5), (23, 6), (23, 7), (24, 0), (24, 1), (24, 2), (24, 3)] (by decide +kernel) (by decide +kernel)
set_option maxRecDepth 20000 in
theorem gL_act_X8_points : GoodIn wsL_act (wsV RL 41 RX8 yX8_points wsX8_points) := goodIn_app (goodIn_of _ (by decide +kernel)) ggL_act_X8_points
set_option maxRecDepth 20000 in
theorem ggL_act_X8_edges : GoodIn wsL_act wsX8_edges := goodIn_r2 lB_L_act_in _ [(0, 22), (0, 23), (1, 0), (1, 1), (1, 2), (1, 3), (1, 4), (1, 5), (1, 6), (1, 7), (1, 8), (1, 9), (1, 10), (1, 11), (1, 12), (1, 13), (1, 14), (1, 15), (1, 16), (1, 17), (1, 18), (1, 19), (1, 20), (1, 21), (1, 22), (1, 23), (2, 0), (2, 1), (2, 2), (2, 3), (2, 4), (2, 5), (2, 6), (2, 7), (23, 0), (23, 1), (23, 2), (23, 3), (23, 4), (23, 5), (23, 6), (23, 7), (25, 0), (25, 1), (25, 2), (25, 3), (25, 4), (26, 0), (26, 1)] (by decide +kernel) (by decide +kernel)
set_option maxRecDepth 20000 in
theorem gL_act_X8_edges : GoodIn wsL_act (wsV RL 45 RX8 yX8_edges wsX8_edges) := goodIn_app (goodIn_of _ (by decide +kernel)) ggL_act_X8_edges
set_option maxRecDepth 20000 in
theorem ggL_act_X8_faces : GoodIn wsL_act wsX8_faces := goodIn_r2 lB_L_act_in _ [(2, 11), (0, 23), (2, 12), (2, 13), (2, 14), (1, 3), (2, 15), (2, 16), (23, 0), (23, 1), (23, 2), (23, 3), (23, 4), (23, 5), (23, 6), (23, 7), (25, 0), (25, 1), (25, 2), (25, 3), (25, 4)] (by decide +kernel) (by decide +kernel)
set_option maxRecDepth 20000 in
theorem gL_act_X8_faces : GoodIn wsL_act (wsV RL 48 RX8 yX8_faces wsX8_faces) := goodIn_app (goodIn_of _ (by decide +kernel)) ggL_act_X8_faces
