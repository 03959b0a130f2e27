set_option maxRecDepth 20000 in
theorem gL_law_X8_digest : GoodIn wsL_law (wsV RL 30 RX8 yX8_digest wsX8_digest) := goodIn_app (goodIn_of _ (by decide +kernel)) ggL_law_X8_digest
set_option maxRecDepth 20000 in
theorem gA_L_areRingsRight_wsL_areRingsRight_r1 : GoodIn wsL_law wsL_areRingsRight_r1 := goodIn_r2 lB_L_law_in _ [(29, 10), (1, 23), (29, 11), (29, 12), (4, 6), (29, 13), (6, 6), (8, 12), (8, 13), (8, 14), (0, 2), (8, 15), (0, 16), (8, 16), (8, 17), (8, 18), (8, 19), (8, 20), (8, 21), (8, 22), (8, 23), (9, 0), (0, 15), (9, 1)] (by decide +kernel) (by decide +kernel)
set_option maxRecDepth 20000 in
theorem gA_L_areRingsRight_wsL_areRingsRight_r2 : GoodIn wsL_law wsL_areRingsRight_r2 := goodIn_r2 lB_L_law_in _ [(7, 6), (7, 7), (7, 8), (7, 9), (2, 6), (2, 7), (7, 10), (7, 11), (7, 12), (1, 14), (7, 13), (7, 14), (9, 2), (9, 3), (9, 4), (9, 5), (9, 6), (9, 7), (9, 8), (7, 16), (7, 17), (7, 18), (2, 12), (12, 7)] (by decide +kernel) (by decide +kernel)
set_option maxRecDepth 20000 in
theorem gA_L_areRingsRight_wsL_areRingsRight_r3 : GoodIn wsL_law wsL_areRingsRight_r3 := goodIn_r2 lB_L_law_in _ [(12, 8), (12, 9), (12, 10), (9, 13), (9, 14), (9, 15), (9, 16), (9, 17), (9, 18), (9, 19), (9, 20), (0, 12), (9, 21), (9, 22), (9, 23), (0, 11), (10, 0), (2, 0), (5, 21), (5, 22), (12, 11), (8, 0), (8, 1), (8, 2)] (by decide +kernel) (by decide +kernel)
set_option maxRecDepth 20000 in
theorem gA_L_areRingsRight_wsL_areRingsRight_r4 : GoodIn wsL_law wsL_areRingsRight_r4 := goodIn_r2 lB_L_law_in _ [(2, 8), (14, 5), (14, 6), (14, 7), (14, 8), (14, 9), (14, 10), (14, 11), (5, 1), (5, 2), (5, 3), (5, 4), (5, 5), (14, 12), (13, 18), (13, 19), (13, 20), (1, 22), (29, 14), (29, 15), (29, 16), (29, 17), (0, 23), (29, 18)] (by decide +kernel) (by decide +kernel)
set_option maxRecDepth 20000 in
theorem gA_L_areRingsRight_wsL_areRingsRight_r5 : GoodIn wsL_law wsL_areRingsRight_r5 := goodIn_r2 lB_L_law_in _ [(29, 19), (29, 20), (0, 22), (29, 21), (2, 23), (26, 18), (2, 22), (3, 0), (29, 22), (29, 23), (30, 0), (30, 1), (26, 19), (26, 20), (26, 21), (26, 22), (30, 2), (30, 3), (30, 4), (30, 5), (30, 6), (13, 6), (13, 7), (13, 8)] (by decide +kernel) (by decide +kernel)
set_option maxRecDepth 20000 in
theorem gA_L_areRingsRight_wsL_areRingsRight_r6 : GoodIn wsL_law wsL_areRingsRight_r6 := goodIn_r2 lB_L_law_in _ [(7, 23), (8, 3), (8, 4), (8, 5), (8, 6), (8, 7), (8, 8), (8, 9), (8, 10), (8, 11), (6, 21), (6, 22), (6, 23), (7, 0), (7, 1), (7, 2), (7, 3), (7, 4), (7, 5), (7, 15), (7, 19), (7, 20), (7, 21), (7, 22)] (by decide +kernel) (by decide +kernel)
set_option maxRecDepth 20000 in
theorem gA_L_areRingsRight_wsL_areRingsRight_r7 : GoodIn wsL_law wsL_areRingsRight_r7 := goodIn_r2 lB_L_law_in _ [(30, 7), (30, 8), (30, 9), (30, 10), (26, 1), (26, 2), (26, 3), (26, 4), (26, 5), (26, 6), (26, 7), (26, 8), (2, 21), (19, 12), (19, 13), (19, 14), (19, 15), (26, 9), (26, 10), (26, 11), (26, 12), (26, 13), (11, 9), (11, 10)] (by decide +kernel) (by decide +kernel)
set_option maxRecDepth 20000 in
theorem gA_L_areRingsRight_wsL_areRingsRight_r8 : GoodIn wsL_law wsL_areRingsRight_r8 := goodIn_r2 lB_L_law_in _ [(26, 14), (26, 15), (26, 16), (26, 17), (19, 16), (19, 17), (19, 18), (26, 23), (19, 3), (19, 4), (19, 5), (19, 6), (19, 7), (19, 8), (19, 9), (19, 10), (3, 1), (19, 11), (16, 2), (16, 3), (0, 19), (16, 4), (16, 5), (19, 19)] (by decide +kernel) (by decide +kernel)
set_option maxRecDepth 20000 in
theorem gA_L_areRingsRight_wsL_areRingsRight_r9 : GoodIn wsL_law wsL_areRingsRight_r9 := goodIn_r2 lB_L_law_in _ [(19, 20), (19, 21), (19, 22), (19, 23), (20, 0), (20, 1), (20, 2), (20, 3), (16, 22), (16, 23), (17, 0), (2, 16), (20, 4), (20, 5), (20, 6), (20, 7), (20, 8), (20, 9), (20, 10), (20, 11), (18, 5), (10, 22), (10, 23), (11, 0)] (by decide +kernel) (by decide +kernel)
set_option maxRecDepth 20000 in
theorem gA_L_areRingsRight_wsX80 : GoodIn wsL_law wsX80 := goodIn_r2 lB_L_law_in _ [(32, 0), (32, 1), (32, 2), (32, 3), (32, 4), (32, 5), (32, 6), (32, 7)] (by decide +kernel) (by decide +kernel)
set_option maxRecDepth 20000 in
theorem gA_L_areRingsRight_wsX10 : GoodIn wsL_law wsX10 := goodIn_r2 lB_L_law_in _ [(34, 0), (34, 1), (34, 2), (34, 3), (34, 4)] (by decide +kernel) (by decide +kernel)
set_option maxRecDepth 20000 in
theorem gA_L_areRingsRight_wsX50 : GoodIn wsL_law wsX50 := goodIn_r2 lB_L_law_in _ [(40, 0), (40, 1)] (by decide +kernel) (by decide +kernel)
set_option maxRecDepth 20000 in
theorem gA_L_areRingsRight_wsX30 : GoodIn wsL_law wsX30 := goodIn_r2 lB_L_law_in _ [(33, 0), (33, 1), (33, 2), (33, 3)] (by decide +kernel) (by decide +kernel)
set_option maxRecDepth 20000 in
theorem gA_L_areRingsRight_wsX70 : GoodIn wsL_law wsX70 := goodIn_r2 lB_L_law_in _ [(36, 0), (36, 1), (36, 2), (36, 3), (36, 4), (36, 5)] (by decide +kernel) (by decide +kernel)
set_option maxRecDepth 20000 in
theorem gA_L_areRingsRight_wsX20 : GoodIn wsL_law wsX20 := goodIn_r2 lB_L_law_in _ [(35, 0), (35, 1)] (by decide +kernel) (by decide +kernel)
set_option maxRecDepth 20000 in
theorem ggL_law_L_areRingsRight : GoodIn wsL_law wsL_areRingsRight := goodIn_ca (goodIn_ca (goodIn_cons (goodIn_r2 lB_L_law_in _ [(29, 9)] rfl rfl) (goodIn_app (goodIn_app (goodIn_app (goodIn_app (goodIn_app (goodIn_app (goodIn_app gA_L_areRingsRight_wsL_areRingsRight_r1 (goodIn_app gA_L_areRingsRight_wsL_areRingsRight_r2 (goodIn_app gA_L_areRingsRight_wsL_areRingsRight_r3 (goodIn_app gA_L_areRingsRight_wsL_areRingsRight_r4 (goodIn_app gA_L_areRingsRight_wsL_areRingsRight_r5 (goodIn_app gA_L_areRingsRight_wsL_areRingsRight_r6 (goodIn_app gA_L_areRingsRight_wsL_areRingsRight_r7 (goodIn_app gA_L_areRingsRight_wsL_areRingsRight_r8 gA_L_areRingsRight_wsL_areRingsRight_r9)))))))) gA_L_areRingsRight_wsX80) gA_L_areRingsRight_wsX10) gA_L_areRingsRight_wsX50) gA_L_areRingsRight_wsX30) gA_L_areRingsRight_wsX70) gA_L_areRingsRight_wsX20)) (goodIn_sub (fun _ h => List.mem_append_right _ h) (by decide +kernel))) (goodIn_sub (fun _ h => List.mem_append_left _ (List.mem_append_left _ (List.mem_append_right _ h))) (by decide +kernel))
set_option maxRecDepth 20000 in
theorem gL_law_L_areRingsRight : GoodIn wsL_law (va_wsS RL 34 yL_areRingsRight wsL_areRingsRight) := goodIn_app (goodIn_of _ (by decide +kernel)) ggL_law_L_areRingsRight
set_option maxRecDepth 20000 in
theorem gA_L_isMayRight_wsL_isMayRight_r1 : GoodIn wsL_law wsL_isMayRight_r1 := goodIn_r2 lB_L_law_in _ [(6, 21), (6, 22), (6, 23), (0, 2), (7, 0), (0, 16), (7, 1), (7, 2), (7, 3), (0, 15), (7, 4), (7, 5), (7, 6), (7, 7), (7, 8), (7, 9), (2, 6), (2, 7), (7, 10), (7, 11), (7, 12), (1, 14), (7, 13), (7, 14)] (by decide +kernel) (by decide +kernel)
set_option maxRecDepth 20000 in
theorem gA_L_isMayRight_wsL_isMayRight_r2 : GoodIn wsL_law wsL_isMayRight_r2 := goodIn_r2 lB_L_law_in _ [(7, 15), (7, 16), (7, 17), (7, 18), (2, 12), (7, 19), (7, 20), (7, 21), (7, 22), (7, 23), (8, 0), (8, 1), (8, 2), (2, 8), (30, 14), (30, 15), (30, 16), (30, 17), (5, 1), (5, 2), (5, 3), (5, 4), (5, 5), (28, 23)] (by decide +kernel) (by decide +kernel)
set_option maxRecDepth 20000 in
theorem gA_L_isMayRight_wsL_isMayRight_r3 : GoodIn wsL_law wsL_isMayRight_r3 := goodIn_r2 lB_L_law_in _ [(29, 0), (29, 1), (29, 2), (25, 0), (19, 13), (19, 14), (19, 15), (9, 2), (9, 3), (9, 8), (29, 3), (29, 4), (29, 5), (29, 6), (1, 3), (15, 21), (15, 22), (15, 23), (1, 2), (16, 0), (3, 9), (3, 8), (16, 1), (16, 2)] (by decide +kernel) (by decide +kernel)
set_option maxRecDepth 20000 in
theorem gA_L_isMayRight_wsL_isMayRight_r4 : GoodIn wsL_law wsL_isMayRight_r4 := goodIn_r2 lB_L_law_in _ [(16, 3), (0, 19), (16, 4), (16, 5), (16, 6), (16, 7), (16, 8), (16, 9), (16, 10), (3, 7), (16, 11), (16, 12), (10, 22), (10, 23), (11, 0), (16, 13), (10, 6), (10, 7), (10, 8), (16, 14), (16, 15), (16, 16), (10, 10), (10, 11)] (by decide +kernel) (by decide +kernel)
