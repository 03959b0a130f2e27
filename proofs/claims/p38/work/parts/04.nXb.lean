set_option maxRecDepth 20000 in
theorem ggX8_init_X3_init : GoodIn wsX8_init wsX3_init := goodIn_r _ [37, 38, 2, 3, 39, 40, 41, 42, 43, 95, 96, 97, 98] (by decide +kernel) (by decide +kernel)
set_option maxRecDepth 20000 in
theorem gX8_init_X3_init_n11 : GoodIn wsX8_init (wsX3_init) := ggX8_init_X3_init
set_option maxRecDepth 20000 in
theorem ggX8_init_X1_init : GoodIn wsX8_init wsX1_init := goodIn_r _ [46, 47, 2, 3, 48, 49, 32, 33, 50, 40, 51, 52, 53, 54, 55, 107, 108, 109, 110, 111, 131, 132] (by decide +kernel) (by decide +kernel)
set_option maxRecDepth 20000 in
theorem gX8_init_X1_init : GoodIn wsX8_init (wsX1_init) := ggX8_init_X1_init
set_option maxRecDepth 20000 in
theorem ggX8_init_X2_init : GoodIn wsX8_init wsX2_init := goodIn_r _ [57, 58, 2, 3, 40, 59, 112, 113] (by decide +kernel) (by decide +kernel)
set_option maxRecDepth 20000 in
theorem gX8_init_X2_init_n25 : GoodIn wsX8_init (wsX2_init) := ggX8_init_X2_init
set_option maxRecDepth 20000 in
theorem ggX8_init_X7_init : GoodIn wsX8_init wsX7_init := goodIn_r _ [62, 63, 2, 3, 42, 64, 40, 65, 66, 67, 68, 114, 115, 116, 117, 118, 119] (by decide +kernel) (by decide +kernel)
set_option maxRecDepth 20000 in
theorem gX8_init_X7_init : GoodIn wsX8_init (wsX7_init) := ggX8_init_X7_init
set_option maxRecDepth 20000 in
theorem ggX8_init_X0_init : GoodIn wsX8_init wsX0_init := goodIn_r _ [71, 72, 2, 3, 73, 32, 33, 74, 75, 76, 52, 53, 54, 40, 55, 131, 132, 120, 121, 122] (by decide +kernel) (by decide +kernel)
set_option maxRecDepth 20000 in
theorem gX8_init_X0_init : GoodIn wsX8_init (wsX0_init) := ggX8_init_X0_init
set_option maxRecDepth 20000 in
theorem ggX8_init_X4_init : GoodIn wsX8_init wsX4_init := goodIn_r _ [79, 80, 2, 3, 40, 81, 82, 83, 32, 33, 84, 85, 86, 52, 53, 54, 55, 123, 124, 125, 126, 127, 131, 132] (by decide +kernel) (by decide +kernel)
set_option maxRecDepth 20000 in
theorem gX8_init_X4_init : GoodIn wsX8_init (wsX4_init) := ggX8_init_X4_init
set_option maxRecDepth 20000 in
theorem ggX8_init_X6_init : GoodIn wsX8_init wsX6_init := goodIn_r _ [89, 90, 2, 3, 91, 40, 92, 93, 94, 128, 129, 130] (by decide +kernel) (by decide +kernel)
set_option maxRecDepth 20000 in
theorem gX8_init_X6_init : GoodIn wsX8_init (wsX6_init) := ggX8_init_X6_init
set_option maxRecDepth 20000 in
theorem ggX8_init_X5_init : GoodIn wsX8_init wsX5_init := goodIn_r _ [53, 54, 2, 3, 40, 55, 131, 132] (by decide +kernel) (by decide +kernel)
set_option maxRecDepth 20000 in
theorem gX8_init_X5_init_n60 : GoodIn wsX8_init (wsX5_init) := ggX8_init_X5_init
theorem dX8_init_0 : decode cX8_init 0 = .ok (.aload_n 0, 1) := by decide +kernel
theorem dX8_init_1 : decode cX8_init 1 = .ok (.invokespecial 3, 3) := by decide +kernel
theorem dX8_init_4 : decode cX8_init 4 = .ok (.aload_n 0, 1) := by decide +kernel
theorem dX8_init_5 : decode cX8_init 5 = .ok (.new 9, 3) := by decide +kernel
theorem dX8_init_8 : decode cX8_init 8 = .ok (.dup, 1) := by decide +kernel
theorem dX8_init_9 : decode cX8_init 9 = .ok (.invokespecial 11, 3) := by decide +kernel
theorem dX8_init_12 : decode cX8_init 12 = .ok (.putfield 12, 3) := by decide +kernel
theorem dX8_init_15 : decode cX8_init 15 = .ok (.aload_n 0, 1) := by decide +kernel
theorem dX8_init_16 : decode cX8_init 16 = .ok (.new 16, 3) := by decide +kernel
theorem dX8_init_19 : decode cX8_init 19 = .ok (.dup, 1) := by decide +kernel
theorem dX8_init_20 : decode cX8_init 20 = .ok (.invokespecial 18, 3) := by decide +kernel
theorem dX8_init_23 : decode cX8_init 23 = .ok (.putfield 19, 3) := by decide +kernel
theorem dX8_init_26 : decode cX8_init 26 = .ok (.new 23, 3) := by decide +kernel
theorem dX8_init_29 : decode cX8_init 29 = .ok (.dup, 1) := by decide +kernel
theorem dX8_init_30 : decode cX8_init 30 = .ok (.invokespecial 25, 3) := by decide +kernel
theorem dX8_init_33 : decode cX8_init 33 = .ok (.astore_n 1, 1) := by decide +kernel
theorem dX8_init_34 : decode cX8_init 34 = .ok (.aload_n 0, 1) := by decide +kernel
theorem dX8_init_35 : decode cX8_init 35 = .ok (.new 26, 3) := by decide +kernel
theorem dX8_init_38 : decode cX8_init 38 = .ok (.dup, 1) := by decide +kernel
theorem dX8_init_39 : decode cX8_init 39 = .ok (.aload_n 0, 1) := by decide +kernel
theorem dX8_init_40 : decode cX8_init 40 = .ok (.getfield 19, 3) := by decide +kernel
theorem dX8_init_43 : decode cX8_init 43 = .ok (.aload_n 1, 1) := by decide +kernel
theorem dX8_init_44 : decode cX8_init 44 = .ok (.invokespecial 28, 3) := by decide +kernel
theorem dX8_init_47 : decode cX8_init 47 = .ok (.putfield 31, 3) := by decide +kernel
theorem dX8_init_50 : decode cX8_init 50 = .ok (.aload_n 0, 1) := by decide +kernel
theorem dX8_init_51 : decode cX8_init 51 = .ok (.new 35, 3) := by decide +kernel
theorem dX8_init_54 : decode cX8_init 54 = .ok (.dup, 1) := by decide +kernel
theorem dX8_init_55 : decode cX8_init 55 = .ok (.aload_n 0, 1) := by decide +kernel
theorem dX8_init_56 : decode cX8_init 56 = .ok (.getfield 19, 3) := by decide +kernel
theorem dX8_init_59 : decode cX8_init 59 = .ok (.aload_n 1, 1) := by decide +kernel
theorem dX8_init_60 : decode cX8_init 60 = .ok (.invokespecial 37, 3) := by decide +kernel
theorem dX8_init_63 : decode cX8_init 63 = .ok (.putfield 38, 3) := by decide +kernel
theorem dX8_init_66 : decode cX8_init 66 = .ok (.aload_n 0, 1) := by decide +kernel
theorem dX8_init_67 : decode cX8_init 67 = .ok (.new 42, 3) := by decide +kernel
theorem dX8_init_70 : decode cX8_init 70 = .ok (.dup, 1) := by decide +kernel
theorem dX8_init_71 : decode cX8_init 71 = .ok (.aload_n 0, 1) := by decide +kernel
theorem dX8_init_72 : decode cX8_init 72 = .ok (.getfield 12, 3) := by decide +kernel
theorem dX8_init_75 : decode cX8_init 75 = .ok (.aload_n 0, 1) := by decide +kernel
theorem dX8_init_76 : decode cX8_init 76 = .ok (.getfield 19, 3) := by decide +kernel
theorem dX8_init_79 : decode cX8_init 79 = .ok (.invokespecial 44, 3) := by decide +kernel
theorem dX8_init_82 : decode cX8_init 82 = .ok (.putfield 47, 3) := by decide +kernel
theorem dX8_init_85 : decode cX8_init 85 = .ok (.aload_n 0, 1) := by decide +kernel
theorem dX8_init_86 : decode cX8_init 86 = .ok (.new 51, 3) := by decide +kernel
theorem dX8_init_89 : decode cX8_init 89 = .ok (.dup, 1) := by decide +kernel
theorem dX8_init_90 : decode cX8_init 90 = .ok (.aload_n 0, 1) := by decide +kernel
theorem dX8_init_91 : decode cX8_init 91 = .ok (.getfield 12, 3) := by decide +kernel
theorem dX8_init_94 : decode cX8_init 94 = .ok (.aload_n 0, 1) := by decide +kernel
theorem dX8_init_95 : decode cX8_init 95 = .ok (.getfield 19, 3) := by decide +kernel
theorem dX8_init_98 : decode cX8_init 98 = .ok (.invokespecial 53, 3) := by decide +kernel
theorem dX8_init_101 : decode cX8_init 101 = .ok (.putfield 54, 3) := by decide +kernel
theorem dX8_init_104 : decode cX8_init 104 = .ok (.aload_n 0, 1) := by decide +kernel
theorem dX8_init_105 : decode cX8_init 105 = .ok (.new 58, 3) := by decide +kernel
theorem dX8_init_108 : decode cX8_init 108 = .ok (.dup, 1) := by decide +kernel
theorem dX8_init_109 : decode cX8_init 109 = .ok (.invokespecial 60, 3) := by decide +kernel
theorem dX8_init_112 : decode cX8_init 112 = .ok (.putfield 61, 3) := by decide +kernel
theorem dX8_init_115 : decode cX8_init 115 = .ok (.aload_n 0, 1) := by decide +kernel
theorem dX8_init_116 : decode cX8_init 116 = .ok (.new 58, 3) := by decide +kernel
theorem dX8_init_119 : decode cX8_init 119 = .ok (.dup, 1) := by decide +kernel
theorem dX8_init_120 : decode cX8_init 120 = .ok (.invokespecial 60, 3) := by decide +kernel
theorem dX8_init_123 : decode cX8_init 123 = .ok (.putfield 65, 3) := by decide +kernel
theorem dX8_init_126 : decode cX8_init 126 = .ok (.return_, 1) := by decide +kernel
set_option maxRecDepth 20000 in
theorem ggX8_point_X8_needPlace : GoodIn wsX8_point wsX8_needPlace := goodIn_ca (goodIn_r _ [5, 6, 7, 4, 8, 9, 10, 11, 12, 13, 14, 15] (by decide +kernel) (by decide +kernel)) (goodIn_sub (fun _ h => List.mem_cons_of_mem _ (List.mem_append_left _ (List.mem_append_right _ h))) (by decide +kernel))
set_option maxRecDepth 20000 in
theorem gX8_point_X8_needPlace : GoodIn wsX8_point (va_wsS RX8 68 yX8_needPlace wsX8_needPlace) := goodIn_app (goodIn_of _ (by decide +kernel)) ggX8_point_X8_needPlace
set_option maxRecDepth 20000 in
theorem ggX8_point_X3_hasRoom : GoodIn wsX8_point wsX3_hasRoom := goodIn_r _ [20, 21, 48, 49, 50, 51] (by decide +kernel) (by decide +kernel)
set_option maxRecDepth 20000 in
theorem gX8_point_X3_hasRoom : GoodIn wsX8_point (wsV RX8 72 RX3 yX3_hasRoom wsX3_hasRoom) := goodIn_app (goodIn_of _ (by decide +kernel)) ggX8_point_X3_hasRoom
set_option maxRecDepth 20000 in
theorem ggX8_point_X8_needState : GoodIn wsX8_point wsX8_needState := goodIn_ca (goodIn_r _ [24, 25, 26] (by decide +kernel) (by decide +kernel)) (goodIn_sub (fun _ h => List.mem_cons_of_mem _ (List.mem_append_right _ h)) (by decide +kernel))
set_option maxRecDepth 20000 in
theorem gX8_point_X8_needState : GoodIn wsX8_point (va_wsS RX8 76 yX8_needState wsX8_needState) := goodIn_app (goodIn_of _ (by decide +kernel)) ggX8_point_X8_needState
set_option maxRecDepth 20000 in
theorem ggX8_point_X3_add : GoodIn wsX8_point wsX3_add := goodIn_r _ [30, 21, 31, 32, 33, 4, 34, 35, 36, 37, 19, 38, 39, 48, 49, 50, 51] (by decide +kernel) (by decide +kernel)
set_option maxRecDepth 20000 in
theorem gX8_point_X3_add : GoodIn wsX8_point (wsV RX8 80 RX3 yX3_add wsX3_add) := goodIn_app (goodIn_of _ (by decide +kernel)) ggX8_point_X3_add
theorem dX8_point_0 : decode cX8_point 0 = .ok (.iload_n 1, 1) := by decide +kernel
theorem dX8_point_1 : decode cX8_point 1 = .ok (.iload_n 2, 1) := by decide +kernel
theorem dX8_point_2 : decode cX8_point 2 = .ok (.iload_n 3, 1) := by decide +kernel
theorem dX8_point_3 : decode cX8_point 3 = .ok (.invokestatic 68, 3) := by decide +kernel
theorem dX8_point_6 : decode cX8_point 6 = .ok (.aload_n 0, 1) := by decide +kernel
theorem dX8_point_7 : decode cX8_point 7 = .ok (.getfield 12, 3) := by decide +kernel
theorem dX8_point_10 : decode cX8_point 10 = .ok (.iconst 1, 1) := by decide +kernel
theorem dX8_point_11 : decode cX8_point 11 = .ok (.invokevirtual 72, 3) := by decide +kernel
theorem dX8_point_14 : decode cX8_point 14 = .ok (.invokestatic 76, 3) := by decide +kernel
theorem dX8_point_17 : decode cX8_point 17 = .ok (.aload_n 0, 1) := by decide +kernel
theorem dX8_point_18 : decode cX8_point 18 = .ok (.getfield 12, 3) := by decide +kernel
theorem dX8_point_21 : decode cX8_point 21 = .ok (.iload_n 1, 1) := by decide +kernel
theorem dX8_point_22 : decode cX8_point 22 = .ok (.iload_n 2, 1) := by decide +kernel
theorem dX8_point_23 : decode cX8_point 23 = .ok (.iload_n 3, 1) := by decide +kernel
theorem dX8_point_24 : decode cX8_point 24 = .ok (.invokevirtual 80, 3) := by decide +kernel
theorem dX8_point_27 : decode cX8_point 27 = .ok (.ireturn, 1) := by decide +kernel
set_option maxRecDepth 20000 in
theorem ggX8_face_X8_needPoints : GoodIn wsX8_face wsX8_needPoints := goodIn_ca (goodIn_r _ [7, 8, 9, 10, 6, 11, 12, 13, 14, 15, 16, 17, 18, 19, 20, 21, 22, 107, 108, 109, 110, 111, 112, 113, 114, 115, 116, 117, 118] (by decide +kernel) (by decide +kernel)) (goodIn_sub (fun _ h => List.mem_cons_of_mem _ (List.mem_append_left _ (List.mem_append_right _ h))) (by decide +kernel))
set_option maxRecDepth 20000 in
theorem gX8_face_X8_needPoints : GoodIn wsX8_face (wsV RX8 96 RX8 yX8_needPoints wsX8_needPoints) := goodIn_app (goodIn_of _ (by decide +kernel)) ggX8_face_X8_needPoints
set_option maxRecDepth 20000 in
theorem ggX8_face_X8_needPoint : GoodIn wsX8_face wsX8_needPoint := goodIn_ca (goodIn_r _ [11, 12, 13, 14, 15, 16, 17, 18, 19, 20, 21, 6, 22, 107, 108, 109, 110, 111, 112, 113, 114, 115, 116, 117, 118] (by decide +kernel) (by decide +kernel)) (goodIn_sub (fun _ h => List.mem_cons_of_mem _ (List.mem_append_left _ (List.mem_append_right _ h))) (by decide +kernel))
set_option maxRecDepth 20000 in
theorem gX8_face_X8_needPoint : GoodIn wsX8_face (wsV RX8 84 RX8 yX8_needPoint wsX8_needPoint) := goodIn_app (goodIn_of _ (by decide +kernel)) ggX8_face_X8_needPoint
set_option maxRecDepth 20000 in
theorem ggX8_face_X5_set : GoodIn wsX8_face wsX5_set := goodIn_r _ [27, 28, 29, 30, 26, 31, 32, 33, 34, 35, 36, 37, 119, 120] (by decide +kernel) (by decide +kernel)
set_option maxRecDepth 20000 in
theorem gX8_face_X5_set : GoodIn wsX8_face (wsV RX8 100 RX5 yX5_set wsX5_set) := goodIn_app (goodIn_of _ (by decide +kernel)) ggX8_face_X5_set
set_option maxRecDepth 20000 in
theorem ggX8_face_X1_hasRoom : GoodIn wsX8_face wsX1_hasRoom := goodIn_r _ [42, 43, 121, 122, 123, 124, 125] (by decide +kernel) (by decide +kernel)
set_option maxRecDepth 20000 in
theorem gX8_face_X1_hasRoom : GoodIn wsX8_face (wsV RX8 103 RX1 yX1_hasRoom wsX1_hasRoom) := goodIn_app (goodIn_of _ (by decide +kernel)) ggX8_face_X1_hasRoom
set_option maxRecDepth 20000 in
theorem ggX8_face_X5_hasTwice : GoodIn wsX8_face wsX5_hasTwice := goodIn_r _ [47, 32, 37, 48, 49, 50, 26, 51, 119, 120] (by decide +kernel) (by decide +kernel)
set_option maxRecDepth 20000 in
theorem gX8_face_X5_hasTwice : GoodIn wsX8_face (wsV RX8 104 RX5 yX5_hasTwice wsX5_hasTwice) := goodIn_app (goodIn_of _ (by decide +kernel)) ggX8_face_X5_hasTwice
set_option maxRecDepth 20000 in
theorem ggX8_face_X1_isFree : GoodIn wsX8_face wsX1_isFree := goodIn_r _ [55, 56, 57, 58, 26, 59, 32, 60, 61, 62, 63, 37, 64, 65, 66, 41, 67, 68, 119, 120, 121, 122, 123, 124, 125] (by decide +kernel) (by decide +kernel)
set_option maxRecDepth 20000 in
theorem gX8_face_X1_isFree : GoodIn wsX8_face (wsV RX8 108 RX1 yX1_isFree wsX1_isFree) := goodIn_app (goodIn_of _ (by decide +kernel)) ggX8_face_X1_isFree
set_option maxRecDepth 20000 in
theorem ggX8_face_X8_needState : GoodIn wsX8_face wsX8_needState := goodIn_ca (goodIn_r _ [71, 72, 73] (by decide +kernel) (by decide +kernel)) (goodIn_sub (fun _ h => List.mem_cons_of_mem _ (List.mem_append_right _ h)) (by decide +kernel))
set_option maxRecDepth 20000 in
theorem gX8_face_X8_needState : GoodIn wsX8_face (va_wsS RX8 76 yX8_needState wsX8_needState) := goodIn_app (goodIn_of _ (by decide +kernel)) ggX8_face_X8_needState
set_option maxRecDepth 20000 in
theorem ggX8_face_X1_add : GoodIn wsX8_face wsX1_add := goodIn_r _ [77, 43, 78, 79, 6, 80, 81, 82, 83, 41, 84, 85, 86, 87, 88, 89, 90, 91, 92, 93, 94, 56, 57, 58, 26, 59, 32, 60, 61, 62, 63, 37, 64, 65, 66, 67, 68, 95, 96, 97, 98, 99, 100, 101, 102, 103, 104, 105, 106, 121, 122, 123, 124, 125, 119, 120] (by decide +kernel) (by decide +kernel)
set_option maxRecDepth 20000 in
theorem gX8_face_X1_add : GoodIn wsX8_face (wsV RX8 112 RX1 yX1_add wsX1_add) := goodIn_app (goodIn_of _ (by decide +kernel)) ggX8_face_X1_add
theorem dX8_face_0 : decode cX8_face 0 = .ok (.aload_n 0, 1) := by decide +kernel
theorem dX8_face_1 : decode cX8_face 1 = .ok (.iload_n 1, 1) := by decide +kernel
theorem dX8_face_2 : decode cX8_face 2 = .ok (.iload_n 2, 1) := by decide +kernel
theorem dX8_face_3 : decode cX8_face 3 = .ok (.invokevirtual 96, 3) := by decide +kernel
theorem dX8_face_6 : decode cX8_face 6 = .ok (.aload_n 0, 1) := by decide +kernel
theorem dX8_face_7 : decode cX8_face 7 = .ok (.iload_n 3, 1) := by decide +kernel
theorem dX8_face_8 : decode cX8_face 8 = .ok (.invokevirtual 84, 3) := by decide +kernel
theorem dX8_face_11 : decode cX8_face 11 = .ok (.iload 4, 2) := by decide +kernel
theorem dX8_face_13 : decode cX8_face 13 = .ok (.iconst (-1), 1) := by decide +kernel
theorem dX8_face_14 : decode cX8_face 14 = .ok (.if_icmp .eq 9, 3) := by decide +kernel
theorem dX8_face_17 : decode cX8_face 17 = .ok (.aload_n 0, 1) := by decide +kernel
theorem dX8_face_18 : decode cX8_face 18 = .ok (.iload 4, 2) := by decide +kernel
theorem dX8_face_20 : decode cX8_face 20 = .ok (.invokevirtual 84, 3) := by decide +kernel
theorem dX8_face_23 : decode cX8_face 23 = .ok (.aload_n 0, 1) := by decide +kernel
theorem dX8_face_24 : decode cX8_face 24 = .ok (.getfield 61, 3) := by decide +kernel
theorem dX8_face_27 : decode cX8_face 27 = .ok (.iload_n 1, 1) := by decide +kernel
theorem dX8_face_28 : decode cX8_face 28 = .ok (.iload_n 2, 1) := by decide +kernel
theorem dX8_face_29 : decode cX8_face 29 = .ok (.iload_n 3, 1) := by decide +kernel
theorem dX8_face_30 : decode cX8_face 30 = .ok (.iload 4, 2) := by decide +kernel
theorem dX8_face_32 : decode cX8_face 32 = .ok (.invokevirtual 100, 3) := by decide +kernel
theorem dX8_face_35 : decode cX8_face 35 = .ok (.aload_n 0, 1) := by decide +kernel
theorem dX8_face_36 : decode cX8_face 36 = .ok (.getfield 19, 3) := by decide +kernel
theorem dX8_face_39 : decode cX8_face 39 = .ok (.iconst 1, 1) := by decide +kernel
theorem dX8_face_40 : decode cX8_face 40 = .ok (.invokevirtual 103, 3) := by decide +kernel
theorem dX8_face_43 : decode cX8_face 43 = .ok (.ifCond .eq 31, 3) := by decide +kernel
theorem dX8_face_46 : decode cX8_face 46 = .ok (.aload_n 0, 1) := by decide +kernel
theorem dX8_face_47 : decode cX8_face 47 = .ok (.getfield 61, 3) := by decide +kernel
theorem dX8_face_50 : decode cX8_face 50 = .ok (.invokevirtual 104, 3) := by decide +kernel
theorem dX8_face_53 : decode cX8_face 53 = .ok (.ifCond .ne 21, 3) := by decide +kernel
theorem dX8_face_56 : decode cX8_face 56 = .ok (.aload_n 0, 1) := by decide +kernel
theorem dX8_face_57 : decode cX8_face 57 = .ok (.getfield 19, 3) := by decide +kernel
theorem dX8_face_60 : decode cX8_face 60 = .ok (.aload_n 0, 1) := by decide +kernel
theorem dX8_face_61 : decode cX8_face 61 = .ok (.getfield 61, 3) := by decide +kernel
theorem dX8_face_64 : decode cX8_face 64 = .ok (.invokevirtual 108, 3) := by decide +kernel
theorem dX8_face_67 : decode cX8_face 67 = .ok (.ifCond .eq 7, 3) := by decide +kernel
theorem dX8_face_70 : decode cX8_face 70 = .ok (.iconst 1, 1) := by decide +kernel
theorem dX8_face_71 : decode cX8_face 71 = .ok (.goto 4, 3) := by decide +kernel
theorem dX8_face_74 : decode cX8_face 74 = .ok (.iconst 0, 1) := by decide +kernel
theorem dX8_face_75 : decode cX8_face 75 = .ok (.invokestatic 76, 3) := by decide +kernel
theorem dX8_face_78 : decode cX8_face 78 = .ok (.aload_n 0, 1) := by decide +kernel
theorem dX8_face_79 : decode cX8_face 79 = .ok (.getfield 19, 3) := by decide +kernel
theorem dX8_face_82 : decode cX8_face 82 = .ok (.aload_n 0, 1) := by decide +kernel
theorem dX8_face_83 : decode cX8_face 83 = .ok (.getfield 61, 3) := by decide +kernel
theorem dX8_face_86 : decode cX8_face 86 = .ok (.invokevirtual 112, 3) := by decide +kernel
theorem dX8_face_89 : decode cX8_face 89 = .ok (.ireturn, 1) := by decide +kernel
set_option maxRecDepth 20000 in
theorem ggX8_dropFace_X8_needFace : GoodIn wsX8_dropFace wsX8_needFace := goodIn_ca (goodIn_r _ [6, 7, 8, 1, 9, 10, 11, 12, 13, 14, 15, 16, 17, 18, 19, 20, 21, 22, 23, 24, 25, 58, 59, 60, 61, 62, 63, 64, 65, 66, 67, 68, 69, 70, 71, 72] (by decide +kernel) (by decide +kernel)) (goodIn_sub (fun _ h => List.mem_cons_of_mem _ (List.mem_append_right _ h)) (by decide +kernel))
set_option maxRecDepth 20000 in
theorem gX8_dropFace_X8_needFace : GoodIn wsX8_dropFace (wsV RX8 115 RX8 yX8_needFace wsX8_needFace) := goodIn_app (goodIn_of _ (by decide +kernel)) ggX8_dropFace_X8_needFace
set_option maxRecDepth 20000 in
theorem ggX8_dropFace_X1_drop : GoodIn wsX8_dropFace wsX1_drop := goodIn_r _ [29, 30, 31, 10, 11, 12, 13, 14, 15, 16, 17, 18, 19, 20, 21, 22, 23, 24, 25, 32, 33, 34, 35, 36, 37, 38, 39, 40, 41, 42, 43, 44, 45, 46, 47, 48, 49, 50, 51, 52, 53, 66, 67, 68, 69, 70, 71, 72] (by decide +kernel) (by decide +kernel)
set_option maxRecDepth 20000 in
theorem gX8_dropFace_X1_drop : GoodIn wsX8_dropFace (wsV RX8 118 RX1 yX1_drop wsX1_drop) := goodIn_app (goodIn_of _ (by decide +kernel)) ggX8_dropFace_X1_drop
set_option maxRecDepth 20000 in
theorem ggX8_dropFace_X1_left : GoodIn wsX8_dropFace wsX1_left := goodIn_r _ [57, 30, 66, 67, 68, 69, 70] (by decide +kernel) (by decide +kernel)
set_option maxRecDepth 20000 in
theorem gX8_dropFace_X1_left : GoodIn wsX8_dropFace (wsV RX8 121 RX1 yX1_left wsX1_left) := goodIn_app (goodIn_of _ (by decide +kernel)) ggX8_dropFace_X1_left
theorem dX8_dropFace_0 : decode cX8_dropFace 0 = .ok (.aload_n 0, 1) := by decide +kernel
theorem dX8_dropFace_1 : decode cX8_dropFace 1 = .ok (.iload_n 1, 1) := by decide +kernel
theorem dX8_dropFace_2 : decode cX8_dropFace 2 = .ok (.invokevirtual 115, 3) := by decide +kernel
theorem dX8_dropFace_5 : decode cX8_dropFace 5 = .ok (.aload_n 0, 1) := by decide +kernel
theorem dX8_dropFace_6 : decode cX8_dropFace 6 = .ok (.getfield 19, 3) := by decide +kernel
theorem dX8_dropFace_9 : decode cX8_dropFace 9 = .ok (.iload_n 1, 1) := by decide +kernel
theorem dX8_dropFace_10 : decode cX8_dropFace 10 = .ok (.invokevirtual 118, 3) := by decide +kernel
theorem dX8_dropFace_13 : decode cX8_dropFace 13 = .ok (.aload_n 0, 1) := by decide +kernel
theorem dX8_dropFace_14 : decode cX8_dropFace 14 = .ok (.getfield 19, 3) := by decide +kernel
theorem dX8_dropFace_17 : decode cX8_dropFace 17 = .ok (.invokevirtual 121, 3) := by decide +kernel
theorem dX8_dropFace_20 : decode cX8_dropFace 20 = .ok (.ireturn, 1) := by decide +kernel
set_option maxRecDepth 20000 in
theorem ggX8_box_X8_needArgument : GoodIn wsX8_box wsX8_needArgument := goodIn_ca (goodIn_r _ [6, 7, 8] (by decide +kernel) (by decide +kernel)) (goodIn_sub (fun _ h => List.mem_cons_of_mem _ (List.mem_append_left _ (List.mem_append_right _ h))) (by decide +kernel))
set_option maxRecDepth 20000 in
theorem gX8_box_X8_needArgument : GoodIn wsX8_box (va_wsS RX8 131 yX8_needArgument wsX8_needArgument) := goodIn_app (goodIn_of _ (by decide +kernel)) ggX8_box_X8_needArgument
set_option maxRecDepth 20000 in
theorem ggX8_box_X8_needPlace : GoodIn wsX8_box wsX8_needPlace := goodIn_ca (goodIn_r _ [11, 12, 13, 5, 14, 15, 16, 3, 4, 6, 7, 8] (by decide +kernel) (by decide +kernel)) (goodIn_sub (fun _ h => List.mem_cons_of_mem _ (List.mem_append_left _ (List.mem_append_right _ h))) (by decide +kernel))
set_option maxRecDepth 20000 in
theorem gX8_box_X8_needPlace : GoodIn wsX8_box (va_wsS RX8 68 yX8_needPlace wsX8_needPlace) := goodIn_app (goodIn_of _ (by decide +kernel)) ggX8_box_X8_needPlace
set_option maxRecDepth 20000 in
theorem ggX8_box_X3_hasRoom : GoodIn wsX8_box wsX3_hasRoom := goodIn_r _ [21, 22, 126, 127, 128, 129] (by decide +kernel) (by decide +kernel)
set_option maxRecDepth 20000 in
theorem gX8_box_X3_hasRoom : GoodIn wsX8_box (wsV RX8 72 RX3 yX3_hasRoom wsX3_hasRoom) := goodIn_app (goodIn_of _ (by decide +kernel)) ggX8_box_X3_hasRoom
set_option maxRecDepth 20000 in
theorem ggX8_box_X1_hasRoom : GoodIn wsX8_box wsX1_hasRoom := goodIn_r _ [27, 28, 130, 131, 132, 133, 134] (by decide +kernel) (by decide +kernel)
set_option maxRecDepth 20000 in
theorem gX8_box_X1_hasRoom : GoodIn wsX8_box (wsV RX8 103 RX1 yX1_hasRoom wsX1_hasRoom) := goodIn_app (goodIn_of _ (by decide +kernel)) ggX8_box_X1_hasRoom
set_option maxRecDepth 20000 in
theorem ggX8_box_X8_needState : GoodIn wsX8_box wsX8_needState := goodIn_ca (goodIn_r _ [31, 32, 33] (by decide +kernel) (by decide +kernel)) (goodIn_sub (fun _ h => List.mem_cons_of_mem _ (List.mem_append_right _ h)) (by decide +kernel))
set_option maxRecDepth 20000 in
theorem gX8_box_X8_needState : GoodIn wsX8_box (va_wsS RX8 76 yX8_needState wsX8_needState) := goodIn_app (goodIn_of _ (by decide +kernel)) ggX8_box_X8_needState
set_option maxRecDepth 20000 in
theorem ggX8_box_X8_addSquare : GoodIn wsX8_box wsX8_addSquare := goodIn_r _ [37, 1, 38, 39, 40, 20, 41, 22, 42, 43, 44, 5, 45, 46, 47, 48, 49, 50, 118, 119, 120, 121, 122, 123, 124, 125, 126, 127, 128, 129] (by decide +kernel) (by decide +kernel)
set_option maxRecDepth 20000 in
theorem gX8_box_X8_addSquare : GoodIn wsX8_box (wsV RX8 134 RX8 yX8_addSquare wsX8_addSquare) := goodIn_app (goodIn_of _ (by decide +kernel)) ggX8_box_X8_addSquare
set_option maxRecDepth 20000 in
theorem ggX8_box_X8_addBoxFaces : GoodIn wsX8_box wsX8_addBoxFaces := goodIn_r _ [54, 55, 56, 2, 57, 58, 59, 60, 61, 62, 63, 64, 65, 66, 67, 68, 69, 70, 71, 72, 73, 74, 26, 75, 28, 76, 77, 5, 78, 79, 80, 81, 82, 83, 84, 85, 86, 87, 88, 89, 90, 91, 92, 93, 94, 95, 96, 97, 98, 99, 100, 101, 102, 103, 104, 105, 106, 107, 108, 109, 110, 111, 112, 113, 114, 115, 116, 117, 118, 119, 120, 121, 122, 123, 124, 125, 135, 136, 130, 131, 132, 133, 134] (by decide +kernel) (by decide +kernel)
set_option maxRecDepth 20000 in
theorem gX8_box_X8_addBoxFaces : GoodIn wsX8_box (wsV RX8 138 RX8 yX8_addBoxFaces wsX8_addBoxFaces) := goodIn_app (goodIn_of _ (by decide +kernel)) ggX8_box_X8_addBoxFaces
theorem dX8_box_0 : decode cX8_box 0 = .ok (.iload 4, 2) := by decide +kernel
theorem dX8_box_2 : decode cX8_box 2 = .ok (.iconst 1, 1) := by decide +kernel
theorem dX8_box_3 : decode cX8_box 3 = .ok (.if_icmp .lt 15, 3) := by decide +kernel
theorem dX8_box_6 : decode cX8_box 6 = .ok (.iload 4, 2) := by decide +kernel
theorem dX8_box_8 : decode cX8_box 8 = .ok (.sipush 500, 3) := by decide +kernel
theorem dX8_box_11 : decode cX8_box 11 = .ok (.if_icmp .gt 7, 3) := by decide +kernel
theorem dX8_box_14 : decode cX8_box 14 = .ok (.iconst 1, 1) := by decide +kernel
theorem dX8_box_15 : decode cX8_box 15 = .ok (.goto 4, 3) := by decide +kernel
theorem dX8_box_18 : decode cX8_box 18 = .ok (.iconst 0, 1) := by decide +kernel
theorem dX8_box_19 : decode cX8_box 19 = .ok (.invokestatic 131, 3) := by decide +kernel
theorem dX8_box_22 : decode cX8_box 22 = .ok (.iload_n 1, 1) := by decide +kernel
theorem dX8_box_23 : decode cX8_box 23 = .ok (.iload_n 2, 1) := by decide +kernel
theorem dX8_box_24 : decode cX8_box 24 = .ok (.iload_n 3, 1) := by decide +kernel
theorem dX8_box_25 : decode cX8_box 25 = .ok (.invokestatic 68, 3) := by decide +kernel
theorem dX8_box_28 : decode cX8_box 28 = .ok (.iload_n 1, 1) := by decide +kernel
theorem dX8_box_29 : decode cX8_box 29 = .ok (.iload 4, 2) := by decide +kernel
theorem dX8_box_31 : decode cX8_box 31 = .ok (.iadd, 1) := by decide +kernel
theorem dX8_box_32 : decode cX8_box 32 = .ok (.iload_n 2, 1) := by decide +kernel
theorem dX8_box_33 : decode cX8_box 33 = .ok (.iload 4, 2) := by decide +kernel
theorem dX8_box_35 : decode cX8_box 35 = .ok (.iadd, 1) := by decide +kernel
theorem dX8_box_36 : decode cX8_box 36 = .ok (.iload_n 3, 1) := by decide +kernel
theorem dX8_box_37 : decode cX8_box 37 = .ok (.iload 4, 2) := by decide +kernel
theorem dX8_box_39 : decode cX8_box 39 = .ok (.iadd, 1) := by decide +kernel
theorem dX8_box_40 : decode cX8_box 40 = .ok (.invokestatic 68, 3) := by decide +kernel
theorem dX8_box_43 : decode cX8_box 43 = .ok (.aload_n 0, 1) := by decide +kernel
theorem dX8_box_44 : decode cX8_box 44 = .ok (.getfield 12, 3) := by decide +kernel
theorem dX8_box_47 : decode cX8_box 47 = .ok (.bipush 8, 2) := by decide +kernel
theorem dX8_box_49 : decode cX8_box 49 = .ok (.invokevirtual 72, 3) := by decide +kernel
theorem dX8_box_52 : decode cX8_box 52 = .ok (.ifCond .eq 19, 3) := by decide +kernel
theorem dX8_box_55 : decode cX8_box 55 = .ok (.aload_n 0, 1) := by decide +kernel
theorem dX8_box_56 : decode cX8_box 56 = .ok (.getfield 19, 3) := by decide +kernel
theorem dX8_box_59 : decode cX8_box 59 = .ok (.bipush 6, 2) := by decide +kernel
theorem dX8_box_61 : decode cX8_box 61 = .ok (.invokevirtual 103, 3) := by decide +kernel
theorem dX8_box_64 : decode cX8_box 64 = .ok (.ifCond .eq 7, 3) := by decide +kernel
theorem dX8_box_67 : decode cX8_box 67 = .ok (.iconst 1, 1) := by decide +kernel
theorem dX8_box_68 : decode cX8_box 68 = .ok (.goto 4, 3) := by decide +kernel
theorem dX8_box_71 : decode cX8_box 71 = .ok (.iconst 0, 1) := by decide +kernel
theorem dX8_box_72 : decode cX8_box 72 = .ok (.invokestatic 76, 3) := by decide +kernel
theorem dX8_box_75 : decode cX8_box 75 = .ok (.aload_n 0, 1) := by decide +kernel
theorem dX8_box_76 : decode cX8_box 76 = .ok (.iload_n 1, 1) := by decide +kernel
theorem dX8_box_77 : decode cX8_box 77 = .ok (.iload_n 2, 1) := by decide +kernel
theorem dX8_box_78 : decode cX8_box 78 = .ok (.iload_n 3, 1) := by decide +kernel
theorem dX8_box_79 : decode cX8_box 79 = .ok (.iload 4, 2) := by decide +kernel
theorem dX8_box_81 : decode cX8_box 81 = .ok (.invokevirtual 134, 3) := by decide +kernel
theorem dX8_box_84 : decode cX8_box 84 = .ok (.istore 5, 2) := by decide +kernel
theorem dX8_box_86 : decode cX8_box 86 = .ok (.aload_n 0, 1) := by decide +kernel
theorem dX8_box_87 : decode cX8_box 87 = .ok (.iload_n 1, 1) := by decide +kernel
theorem dX8_box_88 : decode cX8_box 88 = .ok (.iload_n 2, 1) := by decide +kernel
theorem dX8_box_89 : decode cX8_box 89 = .ok (.iload_n 3, 1) := by decide +kernel
theorem dX8_box_90 : decode cX8_box 90 = .ok (.iload 4, 2) := by decide +kernel
theorem dX8_box_92 : decode cX8_box 92 = .ok (.iadd, 1) := by decide +kernel
theorem dX8_box_93 : decode cX8_box 93 = .ok (.iload 4, 2) := by decide +kernel
theorem dX8_box_95 : decode cX8_box 95 = .ok (.invokevirtual 134, 3) := by decide +kernel
theorem dX8_box_98 : decode cX8_box 98 = .ok (.pop, 1) := by decide +kernel
theorem dX8_box_99 : decode cX8_box 99 = .ok (.aload_n 0, 1) := by decide +kernel
theorem dX8_box_100 : decode cX8_box 100 = .ok (.iload 5, 2) := by decide +kernel
theorem dX8_box_102 : decode cX8_box 102 = .ok (.invokevirtual 138, 3) := by decide +kernel
theorem dX8_box_105 : decode cX8_box 105 = .ok (.iload 5, 2) := by decide +kernel
theorem dX8_box_107 : decode cX8_box 107 = .ok (.ireturn, 1) := by decide +kernel
set_option maxRecDepth 20000 in
theorem ggX8_split_X8_needPoints : GoodIn wsX8_split wsX8_needPoints := goodIn_ca (goodIn_r _ [7, 8, 9, 10, 6, 11, 12, 13, 2, 14, 15, 16, 17, 18, 19, 20, 21, 127, 128, 129, 130, 131, 132, 133, 134, 135, 136, 137, 138] (by decide +kernel) (by decide +kernel)) (goodIn_sub (fun _ h => List.mem_cons_of_mem _ (List.mem_append_left _ (List.mem_append_left _ (List.mem_append_right _ h)))) (by decide +kernel))
set_option maxRecDepth 20000 in
theorem gX8_split_X8_needPoints : GoodIn wsX8_split (wsV RX8 96 RX8 yX8_needPoints wsX8_needPoints) := goodIn_app (goodIn_of _ (by decide +kernel)) ggX8_split_X8_needPoints
set_option maxRecDepth 20000 in
theorem ggX8_split_X1_isEdge : GoodIn wsX8_split wsX1_isEdge := goodIn_r _ [26, 27, 28, 29, 25, 30, 31, 139, 140, 141, 142, 143] (by decide +kernel) (by decide +kernel)
set_option maxRecDepth 20000 in
theorem gX8_split_X1_isEdge : GoodIn wsX8_split (wsV RX8 141 RX1 yX1_isEdge wsX1_isEdge) := goodIn_app (goodIn_of _ (by decide +kernel)) ggX8_split_X1_isEdge
set_option maxRecDepth 20000 in
theorem ggX8_split_X8_needArgument : GoodIn wsX8_split wsX8_needArgument := goodIn_ca (goodIn_r _ [34, 35, 36] (by decide +kernel) (by decide +kernel)) (goodIn_sub (fun _ h => List.mem_cons_of_mem _ (List.mem_append_left _ (List.mem_append_right _ h))) (by decide +kernel))
set_option maxRecDepth 20000 in
theorem gX8_split_X8_needArgument : GoodIn wsX8_split (va_wsS RX8 131 yX8_needArgument wsX8_needArgument) := goodIn_app (goodIn_of _ (by decide +kernel)) ggX8_split_X8_needArgument
set_option maxRecDepth 20000 in
theorem ggX8_split_X1_owner : GoodIn wsX8_split wsX1_owner := goodIn_r _ [30, 31, 139, 140, 141, 142, 143] (by decide +kernel) (by decide +kernel)
set_option maxRecDepth 20000 in
theorem gX8_split_X1_owner : GoodIn wsX8_split (wsV RX8 145 RX1 yX1_owner wsX1_owner) := goodIn_app (goodIn_of _ (by decide +kernel)) ggX8_split_X1_owner
set_option maxRecDepth 20000 in
theorem ggX8_split_X3_hasRoom : GoodIn wsX8_split wsX3_hasRoom := goodIn_r _ [41, 42, 135, 136, 137, 138] (by decide +kernel) (by decide +kernel)
set_option maxRecDepth 20000 in
theorem gX8_split_X3_hasRoom : GoodIn wsX8_split (wsV RX8 72 RX3 yX3_hasRoom wsX3_hasRoom) := goodIn_app (goodIn_of _ (by decide +kernel)) ggX8_split_X3_hasRoom
set_option maxRecDepth 20000 in
theorem ggX8_split_X8_hasRoomInRing : GoodIn wsX8_split wsX8_hasRoomInRing := goodIn_r _ [46, 1, 47, 48, 49, 25, 50, 51, 52, 53, 54, 55, 56, 57, 58, 127, 128, 129, 130, 131, 132, 133, 134, 139, 140, 141, 142, 143, 144, 145] (by decide +kernel) (by decide +kernel)
set_option maxRecDepth 20000 in
theorem gX8_split_X8_hasRoomInRing : GoodIn wsX8_split (wsV RX8 148 RX8 yX8_hasRoomInRing wsX8_hasRoomInRing) := goodIn_app (goodIn_of _ (by decide +kernel)) ggX8_split_X8_hasRoomInRing
set_option maxRecDepth 20000 in
theorem ggX8_split_X8_needState : GoodIn wsX8_split wsX8_needState := goodIn_ca (goodIn_r _ [61, 62, 63] (by decide +kernel) (by decide +kernel)) (goodIn_sub (fun _ h => List.mem_cons_of_mem _ (List.mem_append_right _ h)) (by decide +kernel))
set_option maxRecDepth 20000 in
theorem gX8_split_X8_needState : GoodIn wsX8_split (va_wsS RX8 76 yX8_needState wsX8_needState) := goodIn_app (goodIn_of _ (by decide +kernel)) ggX8_split_X8_needState
set_option maxRecDepth 20000 in
theorem ggX8_split_X3_addMiddle : GoodIn wsX8_split wsX3_addMiddle := goodIn_r _ [67, 68, 69, 70, 17, 71, 72, 20, 6, 21, 73, 74, 75, 76, 42, 19, 77, 78, 79, 80, 81, 135, 136, 137, 138] (by decide +kernel) (by decide +kernel)
set_option maxRecDepth 20000 in
theorem gX8_split_X3_addMiddle : GoodIn wsX8_split (wsV RX8 151 RX3 yX3_addMiddle wsX3_addMiddle) := goodIn_app (goodIn_of _ (by decide +kernel)) ggX8_split_X3_addMiddle
set_option maxRecDepth 20000 in
theorem ggX8_split_X8_putAfter : GoodIn wsX8_split wsX8_putAfter := goodIn_r _ [85, 1, 86, 87, 88, 89, 25, 90, 91, 48, 49, 50, 51, 52, 92, 54, 55, 56, 57, 58, 47, 93, 94, 95, 96, 53, 97, 98, 99, 100, 101, 102, 103, 104, 105, 106, 107, 108, 109, 110, 111, 112, 113, 114, 27, 28, 29, 30, 31, 115, 116, 117, 118, 119, 120, 121, 122, 123, 124, 125, 126, 127, 128, 129, 130, 131, 132, 133, 134, 139, 140, 141, 142, 143, 144, 145] (by decide +kernel) (by decide +kernel)
set_option maxRecDepth 20000 in
theorem gX8_split_X8_putAfter : GoodIn wsX8_split (wsV RX8 154 RX8 yX8_putAfter wsX8_putAfter) := goodIn_app (goodIn_of _ (by decide +kernel)) ggX8_split_X8_putAfter
theorem dX8_split_0 : decode cX8_split 0 = .ok (.aload_n 0, 1) := by decide +kernel
theorem dX8_split_1 : decode cX8_split 1 = .ok (.iload_n 1, 1) := by decide +kernel
theorem dX8_split_2 : decode cX8_split 2 = .ok (.iload_n 2, 1) := by decide +kernel
theorem dX8_split_3 : decode cX8_split 3 = .ok (.invokevirtual 96, 3) := by decide +kernel
theorem dX8_split_6 : decode cX8_split 6 = .ok (.aload_n 0, 1) := by decide +kernel
theorem dX8_split_7 : decode cX8_split 7 = .ok (.getfield 19, 3) := by decide +kernel
theorem dX8_split_10 : decode cX8_split 10 = .ok (.iload_n 1, 1) := by decide +kernel
theorem dX8_split_11 : decode cX8_split 11 = .ok (.iload_n 2, 1) := by decide +kernel
theorem dX8_split_12 : decode cX8_split 12 = .ok (.invokevirtual 141, 3) := by decide +kernel
theorem dX8_split_15 : decode cX8_split 15 = .ok (.invokestatic 131, 3) := by decide +kernel
theorem dX8_split_18 : decode cX8_split 18 = .ok (.aload_n 0, 1) := by decide +kernel
theorem dX8_split_19 : decode cX8_split 19 = .ok (.getfield 19, 3) := by decide +kernel
theorem dX8_split_22 : decode cX8_split 22 = .ok (.iload_n 1, 1) := by decide +kernel
theorem dX8_split_23 : decode cX8_split 23 = .ok (.iload_n 2, 1) := by decide +kernel
theorem dX8_split_24 : decode cX8_split 24 = .ok (.invokevirtual 145, 3) := by decide +kernel
theorem dX8_split_27 : decode cX8_split 27 = .ok (.istore_n 3, 1) := by decide +kernel
theorem dX8_split_28 : decode cX8_split 28 = .ok (.aload_n 0, 1) := by decide +kernel
theorem dX8_split_29 : decode cX8_split 29 = .ok (.getfield 19, 3) := by decide +kernel
theorem dX8_split_32 : decode cX8_split 32 = .ok (.iload_n 2, 1) := by decide +kernel
theorem dX8_split_33 : decode cX8_split 33 = .ok (.iload_n 1, 1) := by decide +kernel
theorem dX8_split_34 : decode cX8_split 34 = .ok (.invokevirtual 145, 3) := by decide +kernel
theorem dX8_split_37 : decode cX8_split 37 = .ok (.istore 4, 2) := by decide +kernel
theorem dX8_split_39 : decode cX8_split 39 = .ok (.aload_n 0, 1) := by decide +kernel
theorem dX8_split_40 : decode cX8_split 40 = .ok (.getfield 12, 3) := by decide +kernel
theorem dX8_split_43 : decode cX8_split 43 = .ok (.iconst 1, 1) := by decide +kernel
theorem dX8_split_44 : decode cX8_split 44 = .ok (.invokevirtual 72, 3) := by decide +kernel
theorem dX8_split_47 : decode cX8_split 47 = .ok (.ifCond .eq 24, 3) := by decide +kernel
theorem dX8_split_50 : decode cX8_split 50 = .ok (.aload_n 0, 1) := by decide +kernel
theorem dX8_split_51 : decode cX8_split 51 = .ok (.iload_n 3, 1) := by decide +kernel
theorem dX8_split_52 : decode cX8_split 52 = .ok (.invokevirtual 148, 3) := by decide +kernel
theorem dX8_split_55 : decode cX8_split 55 = .ok (.ifCond .eq 16, 3) := by decide +kernel
theorem dX8_split_58 : decode cX8_split 58 = .ok (.aload_n 0, 1) := by decide +kernel
theorem dX8_split_59 : decode cX8_split 59 = .ok (.iload 4, 2) := by decide +kernel
theorem dX8_split_61 : decode cX8_split 61 = .ok (.invokevirtual 148, 3) := by decide +kernel
theorem dX8_split_64 : decode cX8_split 64 = .ok (.ifCond .eq 7, 3) := by decide +kernel
theorem dX8_split_67 : decode cX8_split 67 = .ok (.iconst 1, 1) := by decide +kernel
theorem dX8_split_68 : decode cX8_split 68 = .ok (.goto 4, 3) := by decide +kernel
theorem dX8_split_71 : decode cX8_split 71 = .ok (.iconst 0, 1) := by decide +kernel
theorem dX8_split_72 : decode cX8_split 72 = .ok (.invokestatic 76, 3) := by decide +kernel
theorem dX8_split_75 : decode cX8_split 75 = .ok (.aload_n 0, 1) := by decide +kernel
theorem dX8_split_76 : decode cX8_split 76 = .ok (.getfield 12, 3) := by decide +kernel
theorem dX8_split_79 : decode cX8_split 79 = .ok (.iload_n 1, 1) := by decide +kernel
theorem dX8_split_80 : decode cX8_split 80 = .ok (.iload_n 2, 1) := by decide +kernel
theorem dX8_split_81 : decode cX8_split 81 = .ok (.invokevirtual 151, 3) := by decide +kernel
theorem dX8_split_84 : decode cX8_split 84 = .ok (.istore 5, 2) := by decide +kernel
theorem dX8_split_86 : decode cX8_split 86 = .ok (.aload_n 0, 1) := by decide +kernel
theorem dX8_split_87 : decode cX8_split 87 = .ok (.iload_n 3, 1) := by decide +kernel
theorem dX8_split_88 : decode cX8_split 88 = .ok (.iload_n 1, 1) := by decide +kernel
theorem dX8_split_89 : decode cX8_split 89 = .ok (.iload 5, 2) := by decide +kernel
theorem dX8_split_91 : decode cX8_split 91 = .ok (.invokevirtual 154, 3) := by decide +kernel
theorem dX8_split_94 : decode cX8_split 94 = .ok (.aload_n 0, 1) := by decide +kernel
theorem dX8_split_95 : decode cX8_split 95 = .ok (.iload 4, 2) := by decide +kernel
theorem dX8_split_97 : decode cX8_split 97 = .ok (.iload_n 2, 1) := by decide +kernel
theorem dX8_split_98 : decode cX8_split 98 = .ok (.iload 5, 2) := by decide +kernel
theorem dX8_split_100 : decode cX8_split 100 = .ok (.invokevirtual 154, 3) := by decide +kernel
theorem dX8_split_103 : decode cX8_split 103 = .ok (.iload 5, 2) := by decide +kernel
theorem dX8_split_105 : decode cX8_split 105 = .ok (.ireturn, 1) := by decide +kernel
set_option maxRecDepth 20000 in
theorem ggX8_cut_X8_needFace : GoodIn wsX8_cut wsX8_needFace := goodIn_ca (goodIn_r _ [8, 9, 10, 1, 11, 12, 13, 14, 15, 16, 17, 18, 19, 20, 21, 22, 23, 24, 25, 26, 27, 104, 105, 106, 107, 108, 109, 110, 111, 112, 113, 114, 115, 116, 117, 118] (by decide +kernel) (by decide +kernel)) (goodIn_sub (fun _ h => List.mem_cons_of_mem _ (List.mem_append_left _ (List.mem_append_left _ (List.mem_append_right _ h)))) (by decide +kernel))
set_option maxRecDepth 20000 in
theorem gX8_cut_X8_needFace : GoodIn wsX8_cut (wsV RX8 115 RX8 yX8_needFace wsX8_needFace) := goodIn_app (goodIn_of _ (by decide +kernel)) ggX8_cut_X8_needFace
set_option maxRecDepth 20000 in
theorem ggX8_cut_X1_ring : GoodIn wsX8_cut wsX1_ring := goodIn_r _ [19, 20, 21, 112, 113, 114, 115, 116] (by decide +kernel) (by decide +kernel)
set_option maxRecDepth 20000 in
theorem gX8_cut_X1_ring : GoodIn wsX8_cut (wsV RX8 157 RX1 yX1_ring wsX1_ring) := goodIn_app (goodIn_of _ (by decide +kernel)) ggX8_cut_X1_ring
set_option maxRecDepth 20000 in
theorem ggX8_cut_X5_placeOf : GoodIn wsX8_cut wsX5_placeOf := goodIn_r _ [32, 27, 33, 117, 118] (by decide +kernel) (by decide +kernel)
set_option maxRecDepth 20000 in
theorem gX8_cut_X5_placeOf : GoodIn wsX8_cut (wsV RX8 161 RX5 yX5_placeOf wsX5_placeOf) := goodIn_app (goodIn_of _ (by decide +kernel)) ggX8_cut_X5_placeOf
set_option maxRecDepth 20000 in
theorem ggX8_cut_X8_needArgument : GoodIn wsX8_cut wsX8_needArgument := goodIn_ca (goodIn_r _ [36, 37, 38] (by decide +kernel) (by decide +kernel)) (goodIn_sub (fun _ h => List.mem_cons_of_mem _ (List.mem_append_left _ (List.mem_append_right _ h))) (by decide +kernel))
set_option maxRecDepth 20000 in
theorem gX8_cut_X8_needArgument : GoodIn wsX8_cut (va_wsS RX8 131 yX8_needArgument wsX8_needArgument) := goodIn_app (goodIn_of _ (by decide +kernel)) ggX8_cut_X8_needArgument
set_option maxRecDepth 20000 in
theorem ggX8_cut_X5_length : GoodIn wsX8_cut wsX5_length := goodIn_r _ [26, 27, 117, 118] (by decide +kernel) (by decide +kernel)
set_option maxRecDepth 20000 in
theorem gX8_cut_X5_length : GoodIn wsX8_cut (wsV RX8 164 RX5 yX5_length wsX5_length) := goodIn_app (goodIn_of _ (by decide +kernel)) ggX8_cut_X5_length
set_option maxRecDepth 20000 in
theorem ggX8_cut_X1_hasRoom : GoodIn wsX8_cut wsX1_hasRoom := goodIn_r _ [43, 44, 112, 113, 114, 115, 116] (by decide +kernel) (by decide +kernel)
set_option maxRecDepth 20000 in
theorem gX8_cut_X1_hasRoom : GoodIn wsX8_cut (wsV RX8 103 RX1 yX1_hasRoom wsX1_hasRoom) := goodIn_app (goodIn_of _ (by decide +kernel)) ggX8_cut_X1_hasRoom
set_option maxRecDepth 20000 in
theorem ggX8_cut_X1_isEdge : GoodIn wsX8_cut wsX1_isEdge := goodIn_r _ [48, 49, 50, 51, 14, 52, 53, 112, 113, 114, 115, 116] (by decide +kernel) (by decide +kernel)
set_option maxRecDepth 20000 in
theorem gX8_cut_X1_isEdge : GoodIn wsX8_cut (wsV RX8 141 RX1 yX1_isEdge wsX1_isEdge) := goodIn_app (goodIn_of _ (by decide +kernel)) ggX8_cut_X1_isEdge
set_option maxRecDepth 20000 in
theorem ggX8_cut_X8_needState : GoodIn wsX8_cut wsX8_needState := goodIn_ca (goodIn_r _ [56, 57, 58] (by decide +kernel) (by decide +kernel)) (goodIn_sub (fun _ h => List.mem_cons_of_mem _ (List.mem_append_right _ h)) (by decide +kernel))
set_option maxRecDepth 20000 in
theorem gX8_cut_X8_needState : GoodIn wsX8_cut (va_wsS RX8 76 yX8_needState wsX8_needState) := goodIn_app (goodIn_of _ (by decide +kernel)) ggX8_cut_X8_needState
set_option maxRecDepth 20000 in
theorem ggX8_cut_X5_clear : GoodIn wsX8_cut wsX5_clear := goodIn_r _ [62, 27, 117, 118] (by decide +kernel) (by decide +kernel)
set_option maxRecDepth 20000 in
theorem gX8_cut_X5_clear : GoodIn wsX8_cut (wsV RX8 167 RX5 yX5_clear wsX5_clear) := goodIn_app (goodIn_of _ (by decide +kernel)) ggX8_cut_X5_clear
set_option maxRecDepth 20000 in
theorem ggX8_cut_X5_addStretch : GoodIn wsX8_cut wsX5_addStretch := goodIn_r _ [66, 67, 68, 69, 25, 70, 27, 33, 71, 72, 73, 74, 117, 118] (by decide +kernel) (by decide +kernel)
set_option maxRecDepth 20000 in
theorem gX8_cut_X5_addStretch : GoodIn wsX8_cut (wsV RX8 170 RX5 yX5_addStretch wsX5_addStretch) := goodIn_app (goodIn_of _ (by decide +kernel)) ggX8_cut_X5_addStretch
set_option maxRecDepth 20000 in
theorem ggX8_cut_X1_reshape : GoodIn wsX8_cut wsX1_reshape := goodIn_r _ [78, 79, 80, 81, 14, 82, 16, 17, 18, 19, 20, 21, 22, 23, 24, 25, 26, 27, 83, 68, 69, 70, 33, 49, 50, 51, 52, 53, 84, 85, 86, 87, 88, 89, 90, 91, 92, 93, 94, 95, 112, 113, 114, 115, 116, 117, 118] (by decide +kernel) (by decide +kernel)
set_option maxRecDepth 20000 in
theorem gX8_cut_X1_reshape : GoodIn wsX8_cut (wsV RX8 174 RX1 yX1_reshape wsX1_reshape) := goodIn_app (goodIn_of _ (by decide +kernel)) ggX8_cut_X1_reshape
set_option maxRecDepth 20000 in
theorem ggX8_cut_X1_add : GoodIn wsX8_cut wsX1_add := goodIn_r _ [99, 44, 100, 101, 7, 102, 103, 76, 77, 14, 78, 79, 80, 81, 82, 16, 17, 18, 19, 20, 21, 22, 23, 24, 25, 26, 27, 83, 68, 69, 70, 33, 49, 50, 51, 52, 53, 84, 85, 86, 87, 88, 89, 90, 91, 92, 93, 94, 95, 112, 113, 114, 115, 116, 117, 118] (by decide +kernel) (by decide +kernel)
set_option maxRecDepth 20000 in
theorem gX8_cut_X1_add : GoodIn wsX8_cut (wsV RX8 112 RX1 yX1_add wsX1_add) := goodIn_app (goodIn_of _ (by decide +kernel)) ggX8_cut_X1_add
theorem dX8_cut_0 : decode cX8_cut 0 = .ok (.aload_n 0, 1) := by decide +kernel
theorem dX8_cut_1 : decode cX8_cut 1 = .ok (.iload_n 1, 1) := by decide +kernel
theorem dX8_cut_2 : decode cX8_cut 2 = .ok (.invokevirtual 115, 3) := by decide +kernel
theorem dX8_cut_5 : decode cX8_cut 5 = .ok (.aload_n 0, 1) := by decide +kernel
theorem dX8_cut_6 : decode cX8_cut 6 = .ok (.getfield 19, 3) := by decide +kernel
theorem dX8_cut_9 : decode cX8_cut 9 = .ok (.iload_n 1, 1) := by decide +kernel
theorem dX8_cut_10 : decode cX8_cut 10 = .ok (.invokevirtual 157, 3) := by decide +kernel
theorem dX8_cut_13 : decode cX8_cut 13 = .ok (.astore 4, 2) := by decide +kernel
theorem dX8_cut_15 : decode cX8_cut 15 = .ok (.aload 4, 2) := by decide +kernel
theorem dX8_cut_17 : decode cX8_cut 17 = .ok (.iload_n 2, 1) := by decide +kernel
theorem dX8_cut_18 : decode cX8_cut 18 = .ok (.invokevirtual 161, 3) := by decide +kernel
theorem dX8_cut_21 : decode cX8_cut 21 = .ok (.istore 5, 2) := by decide +kernel
theorem dX8_cut_23 : decode cX8_cut 23 = .ok (.aload 4, 2) := by decide +kernel
theorem dX8_cut_25 : decode cX8_cut 25 = .ok (.iload_n 3, 1) := by decide +kernel
theorem dX8_cut_26 : decode cX8_cut 26 = .ok (.invokevirtual 161, 3) := by decide +kernel
theorem dX8_cut_29 : decode cX8_cut 29 = .ok (.istore 6, 2) := by decide +kernel
theorem dX8_cut_31 : decode cX8_cut 31 = .ok (.iload 5, 2) := by decide +kernel
theorem dX8_cut_33 : decode cX8_cut 33 = .ok (.iconst (-1), 1) := by decide +kernel
theorem dX8_cut_34 : decode cX8_cut 34 = .ok (.if_icmp .eq 18, 3) := by decide +kernel
theorem dX8_cut_37 : decode cX8_cut 37 = .ok (.iload 6, 2) := by decide +kernel
theorem dX8_cut_39 : decode cX8_cut 39 = .ok (.iconst (-1), 1) := by decide +kernel
theorem dX8_cut_40 : decode cX8_cut 40 = .ok (.if_icmp .eq 12, 3) := by decide +kernel
theorem dX8_cut_43 : decode cX8_cut 43 = .ok (.iload_n 2, 1) := by decide +kernel
theorem dX8_cut_44 : decode cX8_cut 44 = .ok (.iload_n 3, 1) := by decide +kernel
theorem dX8_cut_45 : decode cX8_cut 45 = .ok (.if_icmp .eq 7, 3) := by decide +kernel
theorem dX8_cut_48 : decode cX8_cut 48 = .ok (.iconst 1, 1) := by decide +kernel
theorem dX8_cut_49 : decode cX8_cut 49 = .ok (.goto 4, 3) := by decide +kernel
theorem dX8_cut_52 : decode cX8_cut 52 = .ok (.iconst 0, 1) := by decide +kernel
theorem dX8_cut_53 : decode cX8_cut 53 = .ok (.invokestatic 131, 3) := by decide +kernel
theorem dX8_cut_56 : decode cX8_cut 56 = .ok (.iload 5, 2) := by decide +kernel
theorem dX8_cut_58 : decode cX8_cut 58 = .ok (.iload 6, 2) := by decide +kernel
theorem dX8_cut_60 : decode cX8_cut 60 = .ok (.if_icmp .ge 11, 3) := by decide +kernel
theorem dX8_cut_63 : decode cX8_cut 63 = .ok (.iload 6, 2) := by decide +kernel
theorem dX8_cut_65 : decode cX8_cut 65 = .ok (.iload 5, 2) := by decide +kernel
theorem dX8_cut_67 : decode cX8_cut 67 = .ok (.isub, 1) := by decide +kernel
theorem dX8_cut_68 : decode cX8_cut 68 = .ok (.goto 14, 3) := by decide +kernel
theorem dX8_cut_71 : decode cX8_cut 71 = .ok (.iload 6, 2) := by decide +kernel
theorem dX8_cut_73 : decode cX8_cut 73 = .ok (.iload 5, 2) := by decide +kernel
theorem dX8_cut_75 : decode cX8_cut 75 = .ok (.isub, 1) := by decide +kernel
theorem dX8_cut_76 : decode cX8_cut 76 = .ok (.aload 4, 2) := by decide +kernel
theorem dX8_cut_78 : decode cX8_cut 78 = .ok (.invokevirtual 164, 3) := by decide +kernel
theorem dX8_cut_81 : decode cX8_cut 81 = .ok (.iadd, 1) := by decide +kernel
theorem dX8_cut_82 : decode cX8_cut 82 = .ok (.istore 7, 2) := by decide +kernel
theorem dX8_cut_84 : decode cX8_cut 84 = .ok (.aload 4, 2) := by decide +kernel
theorem dX8_cut_86 : decode cX8_cut 86 = .ok (.invokevirtual 164, 3) := by decide +kernel
theorem dX8_cut_89 : decode cX8_cut 89 = .ok (.iload 7, 2) := by decide +kernel
theorem dX8_cut_91 : decode cX8_cut 91 = .ok (.isub, 1) := by decide +kernel
theorem dX8_cut_92 : decode cX8_cut 92 = .ok (.istore 8, 2) := by decide +kernel
theorem dX8_cut_94 : decode cX8_cut 94 = .ok (.iload 7, 2) := by decide +kernel
theorem dX8_cut_96 : decode cX8_cut 96 = .ok (.iconst 1, 1) := by decide +kernel
theorem dX8_cut_97 : decode cX8_cut 97 = .ok (.if_icmp .le 13, 3) := by decide +kernel
theorem dX8_cut_100 : decode cX8_cut 100 = .ok (.iload 8, 2) := by decide +kernel
theorem dX8_cut_102 : decode cX8_cut 102 = .ok (.iconst 1, 1) := by decide +kernel
theorem dX8_cut_103 : decode cX8_cut 103 = .ok (.if_icmp .le 7, 3) := by decide +kernel
theorem dX8_cut_106 : decode cX8_cut 106 = .ok (.iconst 1, 1) := by decide +kernel
theorem dX8_cut_107 : decode cX8_cut 107 = .ok (.goto 4, 3) := by decide +kernel
theorem dX8_cut_110 : decode cX8_cut 110 = .ok (.iconst 0, 1) := by decide +kernel
theorem dX8_cut_111 : decode cX8_cut 111 = .ok (.invokestatic 131, 3) := by decide +kernel
theorem dX8_cut_114 : decode cX8_cut 114 = .ok (.aload_n 0, 1) := by decide +kernel
theorem dX8_cut_115 : decode cX8_cut 115 = .ok (.getfield 19, 3) := by decide +kernel
theorem dX8_cut_118 : decode cX8_cut 118 = .ok (.iconst 1, 1) := by decide +kernel
theorem dX8_cut_119 : decode cX8_cut 119 = .ok (.invokevirtual 103, 3) := by decide +kernel
theorem dX8_cut_122 : decode cX8_cut 122 = .ok (.ifCond .eq 19, 3) := by decide +kernel
theorem dX8_cut_125 : decode cX8_cut 125 = .ok (.aload_n 0, 1) := by decide +kernel
theorem dX8_cut_126 : decode cX8_cut 126 = .ok (.getfield 19, 3) := by decide +kernel
theorem dX8_cut_129 : decode cX8_cut 129 = .ok (.iload_n 2, 1) := by decide +kernel
theorem dX8_cut_130 : decode cX8_cut 130 = .ok (.iload_n 3, 1) := by decide +kernel
theorem dX8_cut_131 : decode cX8_cut 131 = .ok (.invokevirtual 141, 3) := by decide +kernel
theorem dX8_cut_134 : decode cX8_cut 134 = .ok (.ifCond .ne 7, 3) := by decide +kernel
theorem dX8_cut_137 : decode cX8_cut 137 = .ok (.iconst 1, 1) := by decide +kernel
theorem dX8_cut_138 : decode cX8_cut 138 = .ok (.goto 4, 3) := by decide +kernel
theorem dX8_cut_141 : decode cX8_cut 141 = .ok (.iconst 0, 1) := by decide +kernel
theorem dX8_cut_142 : decode cX8_cut 142 = .ok (.invokestatic 76, 3) := by decide +kernel
theorem dX8_cut_145 : decode cX8_cut 145 = .ok (.aload_n 0, 1) := by decide +kernel
theorem dX8_cut_146 : decode cX8_cut 146 = .ok (.getfield 61, 3) := by decide +kernel
theorem dX8_cut_149 : decode cX8_cut 149 = .ok (.invokevirtual 167, 3) := by decide +kernel
theorem dX8_cut_152 : decode cX8_cut 152 = .ok (.aload_n 0, 1) := by decide +kernel
theorem dX8_cut_153 : decode cX8_cut 153 = .ok (.getfield 61, 3) := by decide +kernel
theorem dX8_cut_156 : decode cX8_cut 156 = .ok (.aload 4, 2) := by decide +kernel
theorem dX8_cut_158 : decode cX8_cut 158 = .ok (.iload 5, 2) := by decide +kernel
theorem dX8_cut_160 : decode cX8_cut 160 = .ok (.iload 7, 2) := by decide +kernel
theorem dX8_cut_162 : decode cX8_cut 162 = .ok (.iconst 1, 1) := by decide +kernel
theorem dX8_cut_163 : decode cX8_cut 163 = .ok (.iadd, 1) := by decide +kernel
theorem dX8_cut_164 : decode cX8_cut 164 = .ok (.invokevirtual 170, 3) := by decide +kernel
theorem dX8_cut_167 : decode cX8_cut 167 = .ok (.aload_n 0, 1) := by decide +kernel
theorem dX8_cut_168 : decode cX8_cut 168 = .ok (.getfield 65, 3) := by decide +kernel
theorem dX8_cut_171 : decode cX8_cut 171 = .ok (.invokevirtual 167, 3) := by decide +kernel
theorem dX8_cut_174 : decode cX8_cut 174 = .ok (.aload_n 0, 1) := by decide +kernel
theorem dX8_cut_175 : decode cX8_cut 175 = .ok (.getfield 65, 3) := by decide +kernel
theorem dX8_cut_178 : decode cX8_cut 178 = .ok (.aload 4, 2) := by decide +kernel
theorem dX8_cut_180 : decode cX8_cut 180 = .ok (.iload 6, 2) := by decide +kernel
theorem dX8_cut_182 : decode cX8_cut 182 = .ok (.iload 8, 2) := by decide +kernel
theorem dX8_cut_184 : decode cX8_cut 184 = .ok (.iconst 1, 1) := by decide +kernel
theorem dX8_cut_185 : decode cX8_cut 185 = .ok (.iadd, 1) := by decide +kernel
theorem dX8_cut_186 : decode cX8_cut 186 = .ok (.invokevirtual 170, 3) := by decide +kernel
theorem dX8_cut_189 : decode cX8_cut 189 = .ok (.aload_n 0, 1) := by decide +kernel
theorem dX8_cut_190 : decode cX8_cut 190 = .ok (.getfield 19, 3) := by decide +kernel
theorem dX8_cut_193 : decode cX8_cut 193 = .ok (.iload_n 1, 1) := by decide +kernel
theorem dX8_cut_194 : decode cX8_cut 194 = .ok (.aload_n 0, 1) := by decide +kernel
theorem dX8_cut_195 : decode cX8_cut 195 = .ok (.getfield 61, 3) := by decide +kernel
theorem dX8_cut_198 : decode cX8_cut 198 = .ok (.invokevirtual 174, 3) := by decide +kernel
theorem dX8_cut_201 : decode cX8_cut 201 = .ok (.aload_n 0, 1) := by decide +kernel
theorem dX8_cut_202 : decode cX8_cut 202 = .ok (.getfield 19, 3) := by decide +kernel
theorem dX8_cut_205 : decode cX8_cut 205 = .ok (.aload_n 0, 1) := by decide +kernel
theorem dX8_cut_206 : decode cX8_cut 206 = .ok (.getfield 65, 3) := by decide +kernel
theorem dX8_cut_209 : decode cX8_cut 209 = .ok (.invokevirtual 112, 3) := by decide +kernel
theorem dX8_cut_212 : decode cX8_cut 212 = .ok (.ireturn, 1) := by decide +kernel
set_option maxRecDepth 20000 in
theorem ggX8_join_X8_needPoints : GoodIn wsX8_join wsX8_needPoints := goodIn_ca (goodIn_r _ [7, 8, 9, 10, 6, 11, 12, 13, 14, 15, 16, 17, 18, 19, 20, 21, 22, 115, 116, 117, 118, 119, 120, 121, 122, 123, 124, 125, 126] (by decide +kernel) (by decide +kernel)) (goodIn_sub (fun _ h => List.mem_cons_of_mem _ (List.mem_append_left _ (List.mem_append_left _ (List.mem_append_right _ h)))) (by decide +kernel))
set_option maxRecDepth 20000 in
theorem gX8_join_X8_needPoints : GoodIn wsX8_join (wsV RX8 96 RX8 yX8_needPoints wsX8_needPoints) := goodIn_app (goodIn_of _ (by decide +kernel)) ggX8_join_X8_needPoints
set_option maxRecDepth 20000 in
theorem ggX8_join_X1_isInner : GoodIn wsX8_join wsX1_isInner := goodIn_r _ [27, 28, 29, 30, 26, 31, 32, 127, 128, 129, 130, 131] (by decide +kernel) (by decide +kernel)
set_option maxRecDepth 20000 in
theorem gX8_join_X1_isInner : GoodIn wsX8_join (wsV RX8 178 RX1 yX1_isInner wsX1_isInner) := goodIn_app (goodIn_of _ (by decide +kernel)) ggX8_join_X1_isInner
set_option maxRecDepth 20000 in
theorem ggX8_join_X8_needArgument : GoodIn wsX8_join wsX8_needArgument := goodIn_ca (goodIn_r _ [35, 36, 37] (by decide +kernel) (by decide +kernel)) (goodIn_sub (fun _ h => List.mem_cons_of_mem _ (List.mem_append_left _ (List.mem_append_right _ h))) (by decide +kernel))
set_option maxRecDepth 20000 in
theorem gX8_join_X8_needArgument : GoodIn wsX8_join (va_wsS RX8 131 yX8_needArgument wsX8_needArgument) := goodIn_app (goodIn_of _ (by decide +kernel)) ggX8_join_X8_needArgument
set_option maxRecDepth 20000 in
theorem ggX8_join_X8_joinFits : GoodIn wsX8_join wsX8_joinFits := goodIn_r _ [41, 1, 42, 29, 30, 26, 31, 32, 43, 44, 45, 46, 47, 48, 49, 50, 51, 52, 53, 54, 55, 56, 57, 58, 59, 60, 61, 62, 63, 115, 116, 117, 118, 119, 120, 121, 122, 127, 128, 129, 130, 131, 132, 133] (by decide +kernel) (by decide +kernel)
set_option maxRecDepth 20000 in
theorem gX8_join_X8_joinFits : GoodIn wsX8_join (wsV RX8 181 RX8 yX8_joinFits wsX8_joinFits) := goodIn_app (goodIn_of _ (by decide +kernel)) ggX8_join_X8_joinFits
set_option maxRecDepth 20000 in
theorem ggX8_join_X8_needState : GoodIn wsX8_join wsX8_needState := goodIn_ca (goodIn_r _ [66, 67, 68] (by decide +kernel) (by decide +kernel)) (goodIn_sub (fun _ h => List.mem_cons_of_mem _ (List.mem_append_right _ h)) (by decide +kernel))
set_option maxRecDepth 20000 in
theorem gX8_join_X8_needState : GoodIn wsX8_join (va_wsS RX8 76 yX8_needState wsX8_needState) := goodIn_app (goodIn_of _ (by decide +kernel)) ggX8_join_X8_needState
set_option maxRecDepth 20000 in
theorem ggX8_join_X1_owner : GoodIn wsX8_join wsX1_owner := goodIn_r _ [31, 32, 127, 128, 129, 130, 131] (by decide +kernel) (by decide +kernel)
set_option maxRecDepth 20000 in
theorem gX8_join_X1_owner : GoodIn wsX8_join (wsV RX8 145 RX1 yX1_owner wsX1_owner) := goodIn_app (goodIn_of _ (by decide +kernel)) ggX8_join_X1_owner
set_option maxRecDepth 20000 in
theorem ggX8_join_X1_ring : GoodIn wsX8_join wsX1_ring := goodIn_r _ [46, 47, 48, 127, 128, 129, 130, 131] (by decide +kernel) (by decide +kernel)
set_option maxRecDepth 20000 in
theorem gX8_join_X1_ring : GoodIn wsX8_join (wsV RX8 157 RX1 yX1_ring wsX1_ring) := goodIn_app (goodIn_of _ (by decide +kernel)) ggX8_join_X1_ring
set_option maxRecDepth 20000 in
theorem ggX8_join_X5_clear : GoodIn wsX8_join wsX5_clear := goodIn_r _ [72, 54, 132, 133] (by decide +kernel) (by decide +kernel)
set_option maxRecDepth 20000 in
theorem gX8_join_X5_clear : GoodIn wsX8_join (wsV RX8 167 RX5 yX5_clear wsX5_clear) := goodIn_app (goodIn_of _ (by decide +kernel)) ggX8_join_X5_clear
set_option maxRecDepth 20000 in
theorem ggX8_join_X5_placeOf : GoodIn wsX8_join wsX5_placeOf := goodIn_r _ [63, 54, 59, 132, 133] (by decide +kernel) (by decide +kernel)
set_option maxRecDepth 20000 in
theorem gX8_join_X5_placeOf : GoodIn wsX8_join (wsV RX8 161 RX5 yX5_placeOf wsX5_placeOf) := goodIn_app (goodIn_of _ (by decide +kernel)) ggX8_join_X5_placeOf
set_option maxRecDepth 20000 in
theorem ggX8_join_X5_length : GoodIn wsX8_join wsX5_length := goodIn_r _ [53, 54, 132, 133] (by decide +kernel) (by decide +kernel)
set_option maxRecDepth 20000 in
theorem gX8_join_X5_length : GoodIn wsX8_join (wsV RX8 164 RX5 yX5_length wsX5_length) := goodIn_app (goodIn_of _ (by decide +kernel)) ggX8_join_X5_length
set_option maxRecDepth 20000 in
theorem ggX8_join_X5_addStretch : GoodIn wsX8_join wsX5_addStretch := goodIn_r _ [76, 77, 56, 57, 52, 58, 54, 59, 78, 79, 80, 81, 132, 133] (by decide +kernel) (by decide +kernel)
set_option maxRecDepth 20000 in
theorem gX8_join_X5_addStretch : GoodIn wsX8_join (wsV RX8 170 RX5 yX5_addStretch wsX5_addStretch) := goodIn_app (goodIn_of _ (by decide +kernel)) ggX8_join_X5_addStretch
set_option maxRecDepth 20000 in
theorem ggX8_join_X1_drop : GoodIn wsX8_join wsX1_drop := goodIn_r _ [85, 86, 87, 88, 89, 26, 90, 91, 44, 45, 46, 47, 48, 92, 50, 51, 52, 53, 54, 93, 94, 95, 96, 97, 56, 57, 58, 59, 28, 29, 30, 31, 32, 98, 99, 100, 101, 102, 70, 71, 72, 127, 128, 129, 130, 131, 132, 133] (by decide +kernel) (by decide +kernel)
set_option maxRecDepth 20000 in
theorem gX8_join_X1_drop : GoodIn wsX8_join (wsV RX8 118 RX1 yX1_drop wsX1_drop) := goodIn_app (goodIn_of _ (by decide +kernel)) ggX8_join_X1_drop
set_option maxRecDepth 20000 in
theorem ggX8_join_X1_reshape : GoodIn wsX8_join wsX1_reshape := goodIn_r _ [106, 93, 94, 95, 26, 96, 91, 44, 45, 46, 47, 48, 92, 50, 51, 52, 53, 54, 97, 56, 57, 58, 59, 28, 29, 30, 31, 32, 98, 99, 100, 101, 107, 108, 109, 110, 111, 112, 113, 114, 127, 128, 129, 130, 131, 132, 133] (by decide +kernel) (by decide +kernel)
set_option maxRecDepth 20000 in
theorem gX8_join_X1_reshape : GoodIn wsX8_join (wsV RX8 174 RX1 yX1_reshape wsX1_reshape) := goodIn_app (goodIn_of _ (by decide +kernel)) ggX8_join_X1_reshape
theorem dX8_join_0 : decode cX8_join 0 = .ok (.aload_n 0, 1) := by decide +kernel
theorem dX8_join_1 : decode cX8_join 1 = .ok (.iload_n 1, 1) := by decide +kernel
theorem dX8_join_2 : decode cX8_join 2 = .ok (.iload_n 2, 1) := by decide +kernel
theorem dX8_join_3 : decode cX8_join 3 = .ok (.invokevirtual 96, 3) := by decide +kernel
theorem dX8_join_6 : decode cX8_join 6 = .ok (.aload_n 0, 1) := by decide +kernel
theorem dX8_join_7 : decode cX8_join 7 = .ok (.getfield 19, 3) := by decide +kernel
theorem dX8_join_10 : decode cX8_join 10 = .ok (.iload_n 1, 1) := by decide +kernel
theorem dX8_join_11 : decode cX8_join 11 = .ok (.iload_n 2, 1) := by decide +kernel
theorem dX8_join_12 : decode cX8_join 12 = .ok (.invokevirtual 178, 3) := by decide +kernel
theorem dX8_join_15 : decode cX8_join 15 = .ok (.invokestatic 131, 3) := by decide +kernel
theorem dX8_join_18 : decode cX8_join 18 = .ok (.aload_n 0, 1) := by decide +kernel
theorem dX8_join_19 : decode cX8_join 19 = .ok (.iload_n 1, 1) := by decide +kernel
theorem dX8_join_20 : decode cX8_join 20 = .ok (.iload_n 2, 1) := by decide +kernel
theorem dX8_join_21 : decode cX8_join 21 = .ok (.invokevirtual 181, 3) := by decide +kernel
theorem dX8_join_24 : decode cX8_join 24 = .ok (.invokestatic 76, 3) := by decide +kernel
theorem dX8_join_27 : decode cX8_join 27 = .ok (.aload_n 0, 1) := by decide +kernel
theorem dX8_join_28 : decode cX8_join 28 = .ok (.getfield 19, 3) := by decide +kernel
theorem dX8_join_31 : decode cX8_join 31 = .ok (.iload_n 1, 1) := by decide +kernel
theorem dX8_join_32 : decode cX8_join 32 = .ok (.iload_n 2, 1) := by decide +kernel
theorem dX8_join_33 : decode cX8_join 33 = .ok (.invokevirtual 145, 3) := by decide +kernel
theorem dX8_join_36 : decode cX8_join 36 = .ok (.istore_n 3, 1) := by decide +kernel
theorem dX8_join_37 : decode cX8_join 37 = .ok (.aload_n 0, 1) := by decide +kernel
theorem dX8_join_38 : decode cX8_join 38 = .ok (.getfield 19, 3) := by decide +kernel
theorem dX8_join_41 : decode cX8_join 41 = .ok (.iload_n 2, 1) := by decide +kernel
theorem dX8_join_42 : decode cX8_join 42 = .ok (.iload_n 1, 1) := by decide +kernel
theorem dX8_join_43 : decode cX8_join 43 = .ok (.invokevirtual 145, 3) := by decide +kernel
theorem dX8_join_46 : decode cX8_join 46 = .ok (.istore 4, 2) := by decide +kernel
theorem dX8_join_48 : decode cX8_join 48 = .ok (.aload_n 0, 1) := by decide +kernel
theorem dX8_join_49 : decode cX8_join 49 = .ok (.getfield 19, 3) := by decide +kernel
theorem dX8_join_52 : decode cX8_join 52 = .ok (.iload_n 3, 1) := by decide +kernel
theorem dX8_join_53 : decode cX8_join 53 = .ok (.invokevirtual 157, 3) := by decide +kernel
theorem dX8_join_56 : decode cX8_join 56 = .ok (.astore 5, 2) := by decide +kernel
theorem dX8_join_58 : decode cX8_join 58 = .ok (.aload_n 0, 1) := by decide +kernel
theorem dX8_join_59 : decode cX8_join 59 = .ok (.getfield 19, 3) := by decide +kernel
theorem dX8_join_62 : decode cX8_join 62 = .ok (.iload 4, 2) := by decide +kernel
theorem dX8_join_64 : decode cX8_join 64 = .ok (.invokevirtual 157, 3) := by decide +kernel
theorem dX8_join_67 : decode cX8_join 67 = .ok (.astore 6, 2) := by decide +kernel
theorem dX8_join_69 : decode cX8_join 69 = .ok (.aload_n 0, 1) := by decide +kernel
theorem dX8_join_70 : decode cX8_join 70 = .ok (.getfield 61, 3) := by decide +kernel
theorem dX8_join_73 : decode cX8_join 73 = .ok (.invokevirtual 167, 3) := by decide +kernel
theorem dX8_join_76 : decode cX8_join 76 = .ok (.aload_n 0, 1) := by decide +kernel
theorem dX8_join_77 : decode cX8_join 77 = .ok (.getfield 61, 3) := by decide +kernel
theorem dX8_join_80 : decode cX8_join 80 = .ok (.aload 5, 2) := by decide +kernel
theorem dX8_join_82 : decode cX8_join 82 = .ok (.aload 5, 2) := by decide +kernel
theorem dX8_join_84 : decode cX8_join 84 = .ok (.iload_n 2, 1) := by decide +kernel
theorem dX8_join_85 : decode cX8_join 85 = .ok (.invokevirtual 161, 3) := by decide +kernel
theorem dX8_join_88 : decode cX8_join 88 = .ok (.aload 5, 2) := by decide +kernel
theorem dX8_join_90 : decode cX8_join 90 = .ok (.invokevirtual 164, 3) := by decide +kernel
theorem dX8_join_93 : decode cX8_join 93 = .ok (.invokevirtual 170, 3) := by decide +kernel
theorem dX8_join_96 : decode cX8_join 96 = .ok (.aload_n 0, 1) := by decide +kernel
theorem dX8_join_97 : decode cX8_join 97 = .ok (.getfield 61, 3) := by decide +kernel
theorem dX8_join_100 : decode cX8_join 100 = .ok (.aload 6, 2) := by decide +kernel
theorem dX8_join_102 : decode cX8_join 102 = .ok (.aload 6, 2) := by decide +kernel
theorem dX8_join_104 : decode cX8_join 104 = .ok (.iload_n 1, 1) := by decide +kernel
theorem dX8_join_105 : decode cX8_join 105 = .ok (.invokevirtual 161, 3) := by decide +kernel
theorem dX8_join_108 : decode cX8_join 108 = .ok (.iconst 1, 1) := by decide +kernel
theorem dX8_join_109 : decode cX8_join 109 = .ok (.iadd, 1) := by decide +kernel
theorem dX8_join_110 : decode cX8_join 110 = .ok (.aload 6, 2) := by decide +kernel
theorem dX8_join_112 : decode cX8_join 112 = .ok (.invokevirtual 164, 3) := by decide +kernel
theorem dX8_join_115 : decode cX8_join 115 = .ok (.iconst 2, 1) := by decide +kernel
theorem dX8_join_116 : decode cX8_join 116 = .ok (.isub, 1) := by decide +kernel
theorem dX8_join_117 : decode cX8_join 117 = .ok (.invokevirtual 170, 3) := by decide +kernel
theorem dX8_join_120 : decode cX8_join 120 = .ok (.aload_n 0, 1) := by decide +kernel
theorem dX8_join_121 : decode cX8_join 121 = .ok (.getfield 19, 3) := by decide +kernel
theorem dX8_join_124 : decode cX8_join 124 = .ok (.iload 4, 2) := by decide +kernel
theorem dX8_join_126 : decode cX8_join 126 = .ok (.invokevirtual 118, 3) := by decide +kernel
theorem dX8_join_129 : decode cX8_join 129 = .ok (.aload_n 0, 1) := by decide +kernel
theorem dX8_join_130 : decode cX8_join 130 = .ok (.getfield 19, 3) := by decide +kernel
theorem dX8_join_133 : decode cX8_join 133 = .ok (.iload_n 3, 1) := by decide +kernel
theorem dX8_join_134 : decode cX8_join 134 = .ok (.aload_n 0, 1) := by decide +kernel
theorem dX8_join_135 : decode cX8_join 135 = .ok (.getfield 61, 3) := by decide +kernel
theorem dX8_join_138 : decode cX8_join 138 = .ok (.invokevirtual 174, 3) := by decide +kernel
theorem dX8_join_141 : decode cX8_join 141 = .ok (.iload_n 3, 1) := by decide +kernel
theorem dX8_join_142 : decode cX8_join 142 = .ok (.ireturn, 1) := by decide +kernel
set_option maxRecDepth 20000 in
theorem ggX8_collapse_X8_needPoints : GoodIn wsX8_collapse wsX8_needPoints := goodIn_ca (goodIn_r _ [8, 9, 10, 11, 7, 12, 13, 14, 3, 15, 16, 17, 18, 19, 20, 21, 22, 147, 148, 149, 150, 151, 152, 153, 154, 155, 156, 157, 158] (by decide +kernel) (by decide +kernel)) (goodIn_sub (fun _ h => List.mem_cons_of_mem _ (List.mem_append_left _ (List.mem_append_left _ (List.mem_append_right _ h)))) (by decide +kernel))
set_option maxRecDepth 20000 in
theorem gX8_collapse_X8_needPoints : GoodIn wsX8_collapse (wsV RX8 96 RX8 yX8_needPoints wsX8_needPoints) := goodIn_app (goodIn_of _ (by decide +kernel)) ggX8_collapse_X8_needPoints
set_option maxRecDepth 20000 in
theorem ggX8_collapse_X1_isEdge : GoodIn wsX8_collapse wsX1_isEdge := goodIn_r _ [27, 28, 29, 30, 26, 31, 32, 159, 160, 161, 162, 163] (by decide +kernel) (by decide +kernel)
set_option maxRecDepth 20000 in
theorem gX8_collapse_X1_isEdge : GoodIn wsX8_collapse (wsV RX8 141 RX1 yX1_isEdge wsX1_isEdge) := goodIn_app (goodIn_of _ (by decide +kernel)) ggX8_collapse_X1_isEdge
set_option maxRecDepth 20000 in
theorem ggX8_collapse_X8_needArgument : GoodIn wsX8_collapse wsX8_needArgument := goodIn_ca (goodIn_r _ [35, 36, 37] (by decide +kernel) (by decide +kernel)) (goodIn_sub (fun _ h => List.mem_cons_of_mem _ (List.mem_append_left _ (List.mem_append_right _ h))) (by decide +kernel))
set_option maxRecDepth 20000 in
theorem gX8_collapse_X8_needArgument : GoodIn wsX8_collapse (va_wsS RX8 131 yX8_needArgument wsX8_needArgument) := goodIn_app (goodIn_of _ (by decide +kernel)) ggX8_collapse_X8_needArgument
set_option maxRecDepth 20000 in
theorem ggX8_collapse_X0_fits : GoodIn wsX8_collapse wsX0_fits := goodIn_r _ [42, 43, 44, 45, 46, 47, 48, 49, 50, 51, 29, 30, 26, 31, 32, 52, 53, 54, 41, 55, 56, 57, 58, 59, 60, 61, 62, 63, 64, 65, 66, 67, 68, 69, 70, 71, 72, 73, 74, 75, 76, 77, 78, 79, 80, 81, 82, 83, 84, 85, 86, 87, 88, 89, 90, 91, 92, 93, 94, 21, 7, 22, 95, 96, 97, 98, 99, 164, 165, 166, 167, 168, 159, 160, 161, 162, 163, 169, 170] (by decide +kernel) (by decide +kernel)
set_option maxRecDepth 20000 in
theorem gX8_collapse_X0_fits : GoodIn wsX8_collapse (wsV RX8 184 RX0 yX0_fits wsX0_fits) := goodIn_app (goodIn_of _ (by decide +kernel)) ggX8_collapse_X0_fits
set_option maxRecDepth 20000 in
theorem ggX8_collapse_X8_needState : GoodIn wsX8_collapse wsX8_needState := goodIn_ca (goodIn_r _ [102, 103, 104] (by decide +kernel) (by decide +kernel)) (goodIn_sub (fun _ h => List.mem_cons_of_mem _ (List.mem_append_right _ h)) (by decide +kernel))
set_option maxRecDepth 20000 in
theorem gX8_collapse_X8_needState : GoodIn wsX8_collapse (va_wsS RX8 76 yX8_needState wsX8_needState) := goodIn_app (goodIn_of _ (by decide +kernel)) ggX8_collapse_X8_needState
set_option maxRecDepth 20000 in
theorem ggX8_collapse_X0_apply : GoodIn wsX8_collapse wsX0_apply := goodIn_r _ [108, 44, 51, 29, 30, 26, 31, 32, 52, 53, 54, 41, 55, 56, 57, 58, 59, 60, 61, 62, 63, 64, 65, 66, 67, 68, 69, 70, 71, 72, 73, 74, 75, 76, 77, 78, 79, 80, 81, 82, 83, 84, 85, 109, 110, 111, 112, 99, 113, 114, 115, 116, 117, 118, 119, 120, 121, 122, 123, 28, 124, 125, 126, 127, 128, 129, 130, 131, 132, 133, 134, 135, 136, 137, 138, 139, 140, 164, 165, 166, 159, 160, 161, 162, 163, 169, 170] (by decide +kernel) (by decide +kernel)
set_option maxRecDepth 20000 in
theorem gX8_collapse_X0_apply : GoodIn wsX8_collapse (wsV RX8 187 RX0 yX0_apply wsX0_apply) := goodIn_app (goodIn_of _ (by decide +kernel)) ggX8_collapse_X0_apply
set_option maxRecDepth 20000 in
theorem ggX8_collapse_X3_drop : GoodIn wsX8_collapse wsX3_drop := goodIn_r _ [144, 20, 145, 146, 16, 17, 18, 19, 21, 7, 22, 155, 156, 157, 158] (by decide +kernel) (by decide +kernel)
set_option maxRecDepth 20000 in
theorem gX8_collapse_X3_drop : GoodIn wsX8_collapse (wsV RX8 129 RX3 yX3_drop wsX3_drop) := goodIn_app (goodIn_of _ (by decide +kernel)) ggX8_collapse_X3_drop
theorem dX8_collapse_0 : decode cX8_collapse 0 = .ok (.aload_n 0, 1) := by decide +kernel
theorem dX8_collapse_1 : decode cX8_collapse 1 = .ok (.iload_n 1, 1) := by decide +kernel
theorem dX8_collapse_2 : decode cX8_collapse 2 = .ok (.iload_n 2, 1) := by decide +kernel
theorem dX8_collapse_3 : decode cX8_collapse 3 = .ok (.invokevirtual 96, 3) := by decide +kernel
theorem dX8_collapse_6 : decode cX8_collapse 6 = .ok (.aload_n 0, 1) := by decide +kernel
theorem dX8_collapse_7 : decode cX8_collapse 7 = .ok (.getfield 19, 3) := by decide +kernel
theorem dX8_collapse_10 : decode cX8_collapse 10 = .ok (.iload_n 1, 1) := by decide +kernel
theorem dX8_collapse_11 : decode cX8_collapse 11 = .ok (.iload_n 2, 1) := by decide +kernel
theorem dX8_collapse_12 : decode cX8_collapse 12 = .ok (.invokevirtual 141, 3) := by decide +kernel
theorem dX8_collapse_15 : decode cX8_collapse 15 = .ok (.invokestatic 131, 3) := by decide +kernel
theorem dX8_collapse_18 : decode cX8_collapse 18 = .ok (.aload_n 0, 1) := by decide +kernel
theorem dX8_collapse_19 : decode cX8_collapse 19 = .ok (.getfield 38, 3) := by decide +kernel
theorem dX8_collapse_22 : decode cX8_collapse 22 = .ok (.iload_n 1, 1) := by decide +kernel
theorem dX8_collapse_23 : decode cX8_collapse 23 = .ok (.iload_n 2, 1) := by decide +kernel
theorem dX8_collapse_24 : decode cX8_collapse 24 = .ok (.invokevirtual 184, 3) := by decide +kernel
theorem dX8_collapse_27 : decode cX8_collapse 27 = .ok (.invokestatic 76, 3) := by decide +kernel
theorem dX8_collapse_30 : decode cX8_collapse 30 = .ok (.aload_n 0, 1) := by decide +kernel
theorem dX8_collapse_31 : decode cX8_collapse 31 = .ok (.getfield 38, 3) := by decide +kernel
theorem dX8_collapse_34 : decode cX8_collapse 34 = .ok (.iload_n 1, 1) := by decide +kernel
theorem dX8_collapse_35 : decode cX8_collapse 35 = .ok (.iload_n 2, 1) := by decide +kernel
theorem dX8_collapse_36 : decode cX8_collapse 36 = .ok (.invokevirtual 187, 3) := by decide +kernel
theorem dX8_collapse_39 : decode cX8_collapse 39 = .ok (.istore_n 3, 1) := by decide +kernel
theorem dX8_collapse_40 : decode cX8_collapse 40 = .ok (.aload_n 0, 1) := by decide +kernel
theorem dX8_collapse_41 : decode cX8_collapse 41 = .ok (.getfield 12, 3) := by decide +kernel
theorem dX8_collapse_44 : decode cX8_collapse 44 = .ok (.iload_n 2, 1) := by decide +kernel
theorem dX8_collapse_45 : decode cX8_collapse 45 = .ok (.invokevirtual 129, 3) := by decide +kernel
theorem dX8_collapse_48 : decode cX8_collapse 48 = .ok (.iload_n 3, 1) := by decide +kernel
theorem dX8_collapse_49 : decode cX8_collapse 49 = .ok (.ireturn, 1) := by decide +kernel
set_option maxRecDepth 20000 in
theorem ggX8_flip_X8_needPoints : GoodIn wsX8_flip wsX8_needPoints := goodIn_ca (goodIn_r _ [8, 9, 10, 11, 7, 12, 13, 14, 15, 16, 17, 18, 19, 20, 21, 22, 23, 112, 113, 114, 115, 116, 117, 118, 119, 120, 121, 122, 123] (by decide +kernel) (by decide +kernel)) (goodIn_sub (fun _ h => List.mem_cons_of_mem _ (List.mem_append_left _ (List.mem_append_left _ (List.mem_append_right _ h)))) (by decide +kernel))
set_option maxRecDepth 20000 in
theorem gX8_flip_X8_needPoints : GoodIn wsX8_flip (wsV RX8 96 RX8 yX8_needPoints wsX8_needPoints) := goodIn_app (goodIn_of _ (by decide +kernel)) ggX8_flip_X8_needPoints
set_option maxRecDepth 20000 in
theorem ggX8_flip_X8_isBetweenTriangles : GoodIn wsX8_flip wsX8_isBetweenTriangles := goodIn_r _ [27, 1, 28, 29, 30, 31, 32, 33, 34, 35, 36, 37, 38, 39, 40, 41, 42, 43, 44, 45, 112, 113, 114, 115, 116, 117, 118, 119, 124, 125, 126, 127, 128, 129, 130] (by decide +kernel) (by decide +kernel)
set_option maxRecDepth 20000 in
theorem gX8_flip_X8_isBetweenTriangles : GoodIn wsX8_flip (wsV RX8 190 RX8 yX8_isBetweenTriangles wsX8_isBetweenTriangles) := goodIn_app (goodIn_of _ (by decide +kernel)) ggX8_flip_X8_isBetweenTriangles
set_option maxRecDepth 20000 in
theorem ggX8_flip_X8_needArgument : GoodIn wsX8_flip wsX8_needArgument := goodIn_ca (goodIn_r _ [48, 49, 50] (by decide +kernel) (by decide +kernel)) (goodIn_sub (fun _ h => List.mem_cons_of_mem _ (List.mem_append_left _ (List.mem_append_right _ h))) (by decide +kernel))
set_option maxRecDepth 20000 in
theorem gX8_flip_X8_needArgument : GoodIn wsX8_flip (va_wsS RX8 131 yX8_needArgument wsX8_needArgument) := goodIn_app (goodIn_of _ (by decide +kernel)) ggX8_flip_X8_needArgument
set_option maxRecDepth 20000 in
theorem ggX8_flip_X8_flipFits : GoodIn wsX8_flip wsX8_flipFits := goodIn_r _ [54, 1, 28, 29, 30, 31, 32, 33, 55, 56, 57, 58, 59, 35, 36, 37, 38, 39, 60, 61, 62, 43, 63, 45, 64, 65, 66, 67, 68, 69, 70, 71, 72, 73, 112, 113, 114, 115, 116, 117, 118, 119, 124, 125, 126, 127, 128, 129, 130] (by decide +kernel) (by decide +kernel)
set_option maxRecDepth 20000 in
theorem gX8_flip_X8_flipFits : GoodIn wsX8_flip (wsV RX8 193 RX8 yX8_flipFits wsX8_flipFits) := goodIn_app (goodIn_of _ (by decide +kernel)) ggX8_flip_X8_flipFits
set_option maxRecDepth 20000 in
theorem ggX8_flip_X8_needState : GoodIn wsX8_flip wsX8_needState := goodIn_ca (goodIn_r _ [76, 77, 78] (by decide +kernel) (by decide +kernel)) (goodIn_sub (fun _ h => List.mem_cons_of_mem _ (List.mem_append_right _ h)) (by decide +kernel))
set_option maxRecDepth 20000 in
theorem gX8_flip_X8_needState : GoodIn wsX8_flip (va_wsS RX8 76 yX8_needState wsX8_needState) := goodIn_app (goodIn_of _ (by decide +kernel)) ggX8_flip_X8_needState
set_option maxRecDepth 20000 in
theorem ggX8_flip_X1_owner : GoodIn wsX8_flip wsX1_owner := goodIn_r _ [32, 33, 124, 125, 126, 127, 128] (by decide +kernel) (by decide +kernel)
set_option maxRecDepth 20000 in
theorem gX8_flip_X1_owner : GoodIn wsX8_flip (wsV RX8 145 RX1 yX1_owner wsX1_owner) := goodIn_app (goodIn_of _ (by decide +kernel)) ggX8_flip_X1_owner
set_option maxRecDepth 20000 in
theorem ggX8_flip_X1_after : GoodIn wsX8_flip wsX1_after := goodIn_r _ [58, 59, 35, 36, 31, 37, 38, 39, 60, 61, 62, 43, 63, 45, 64, 65, 66, 67, 68, 124, 125, 126, 127, 128, 129, 130] (by decide +kernel) (by decide +kernel)
set_option maxRecDepth 20000 in
theorem gX8_flip_X1_after : GoodIn wsX8_flip (wsV RX8 196 RX1 yX1_after wsX1_after) := goodIn_app (goodIn_of _ (by decide +kernel)) ggX8_flip_X1_after
set_option maxRecDepth 20000 in
theorem ggX8_flip_X5_set : GoodIn wsX8_flip wsX5_set := goodIn_r _ [82, 83, 84, 85, 43, 86, 45, 87, 88, 89, 90, 64, 129, 130] (by decide +kernel) (by decide +kernel)
set_option maxRecDepth 20000 in
theorem gX8_flip_X5_set : GoodIn wsX8_flip (wsV RX8 100 RX5 yX5_set wsX5_set) := goodIn_app (goodIn_of _ (by decide +kernel)) ggX8_flip_X5_set
set_option maxRecDepth 20000 in
theorem ggX8_flip_X1_reshape : GoodIn wsX8_flip wsX1_reshape := goodIn_r _ [94, 95, 96, 97, 31, 98, 59, 35, 36, 37, 38, 39, 99, 41, 42, 43, 44, 45, 65, 66, 67, 68, 64, 73, 29, 30, 32, 33, 100, 101, 102, 103, 104, 105, 106, 107, 108, 109, 110, 111, 124, 125, 126, 127, 128, 129, 130] (by decide +kernel) (by decide +kernel)
set_option maxRecDepth 20000 in
theorem gX8_flip_X1_reshape : GoodIn wsX8_flip (wsV RX8 174 RX1 yX1_reshape wsX1_reshape) := goodIn_app (goodIn_of _ (by decide +kernel)) ggX8_flip_X1_reshape
theorem dX8_flip_0 : decode cX8_flip 0 = .ok (.aload_n 0, 1) := by decide +kernel
theorem dX8_flip_1 : decode cX8_flip 1 = .ok (.iload_n 1, 1) := by decide +kernel
theorem dX8_flip_2 : decode cX8_flip 2 = .ok (.iload_n 2, 1) := by decide +kernel
theorem dX8_flip_3 : decode cX8_flip 3 = .ok (.invokevirtual 96, 3) := by decide +kernel
theorem dX8_flip_6 : decode cX8_flip 6 = .ok (.aload_n 0, 1) := by decide +kernel
theorem dX8_flip_7 : decode cX8_flip 7 = .ok (.iload_n 1, 1) := by decide +kernel
theorem dX8_flip_8 : decode cX8_flip 8 = .ok (.iload_n 2, 1) := by decide +kernel
theorem dX8_flip_9 : decode cX8_flip 9 = .ok (.invokevirtual 190, 3) := by decide +kernel
theorem dX8_flip_12 : decode cX8_flip 12 = .ok (.invokestatic 131, 3) := by decide +kernel
theorem dX8_flip_15 : decode cX8_flip 15 = .ok (.aload_n 0, 1) := by decide +kernel
theorem dX8_flip_16 : decode cX8_flip 16 = .ok (.iload_n 1, 1) := by decide +kernel
theorem dX8_flip_17 : decode cX8_flip 17 = .ok (.iload_n 2, 1) := by decide +kernel
theorem dX8_flip_18 : decode cX8_flip 18 = .ok (.invokevirtual 193, 3) := by decide +kernel
theorem dX8_flip_21 : decode cX8_flip 21 = .ok (.invokestatic 76, 3) := by decide +kernel
theorem dX8_flip_24 : decode cX8_flip 24 = .ok (.aload_n 0, 1) := by decide +kernel
theorem dX8_flip_25 : decode cX8_flip 25 = .ok (.getfield 19, 3) := by decide +kernel
theorem dX8_flip_28 : decode cX8_flip 28 = .ok (.iload_n 1, 1) := by decide +kernel
theorem dX8_flip_29 : decode cX8_flip 29 = .ok (.iload_n 2, 1) := by decide +kernel
theorem dX8_flip_30 : decode cX8_flip 30 = .ok (.invokevirtual 145, 3) := by decide +kernel
theorem dX8_flip_33 : decode cX8_flip 33 = .ok (.istore_n 3, 1) := by decide +kernel
theorem dX8_flip_34 : decode cX8_flip 34 = .ok (.aload_n 0, 1) := by decide +kernel
theorem dX8_flip_35 : decode cX8_flip 35 = .ok (.getfield 19, 3) := by decide +kernel
theorem dX8_flip_38 : decode cX8_flip 38 = .ok (.iload_n 2, 1) := by decide +kernel
theorem dX8_flip_39 : decode cX8_flip 39 = .ok (.iload_n 1, 1) := by decide +kernel
theorem dX8_flip_40 : decode cX8_flip 40 = .ok (.invokevirtual 145, 3) := by decide +kernel
theorem dX8_flip_43 : decode cX8_flip 43 = .ok (.istore 4, 2) := by decide +kernel
theorem dX8_flip_45 : decode cX8_flip 45 = .ok (.aload_n 0, 1) := by decide +kernel
theorem dX8_flip_46 : decode cX8_flip 46 = .ok (.getfield 19, 3) := by decide +kernel
theorem dX8_flip_49 : decode cX8_flip 49 = .ok (.iload_n 3, 1) := by decide +kernel
theorem dX8_flip_50 : decode cX8_flip 50 = .ok (.iload_n 2, 1) := by decide +kernel
theorem dX8_flip_51 : decode cX8_flip 51 = .ok (.invokevirtual 196, 3) := by decide +kernel
theorem dX8_flip_54 : decode cX8_flip 54 = .ok (.istore 5, 2) := by decide +kernel
theorem dX8_flip_56 : decode cX8_flip 56 = .ok (.aload_n 0, 1) := by decide +kernel
theorem dX8_flip_57 : decode cX8_flip 57 = .ok (.getfield 19, 3) := by decide +kernel
theorem dX8_flip_60 : decode cX8_flip 60 = .ok (.iload 4, 2) := by decide +kernel
theorem dX8_flip_62 : decode cX8_flip 62 = .ok (.iload_n 1, 1) := by decide +kernel
theorem dX8_flip_63 : decode cX8_flip 63 = .ok (.invokevirtual 196, 3) := by decide +kernel
theorem dX8_flip_66 : decode cX8_flip 66 = .ok (.istore 6, 2) := by decide +kernel
theorem dX8_flip_68 : decode cX8_flip 68 = .ok (.aload_n 0, 1) := by decide +kernel
theorem dX8_flip_69 : decode cX8_flip 69 = .ok (.getfield 61, 3) := by decide +kernel
theorem dX8_flip_72 : decode cX8_flip 72 = .ok (.iload 5, 2) := by decide +kernel
theorem dX8_flip_74 : decode cX8_flip 74 = .ok (.iload 6, 2) := by decide +kernel
theorem dX8_flip_76 : decode cX8_flip 76 = .ok (.iload_n 2, 1) := by decide +kernel
theorem dX8_flip_77 : decode cX8_flip 77 = .ok (.iconst (-1), 1) := by decide +kernel
theorem dX8_flip_78 : decode cX8_flip 78 = .ok (.invokevirtual 100, 3) := by decide +kernel
theorem dX8_flip_81 : decode cX8_flip 81 = .ok (.aload_n 0, 1) := by decide +kernel
theorem dX8_flip_82 : decode cX8_flip 82 = .ok (.getfield 65, 3) := by decide +kernel
theorem dX8_flip_85 : decode cX8_flip 85 = .ok (.iload 6, 2) := by decide +kernel
theorem dX8_flip_87 : decode cX8_flip 87 = .ok (.iload 5, 2) := by decide +kernel
theorem dX8_flip_89 : decode cX8_flip 89 = .ok (.iload_n 1, 1) := by decide +kernel
theorem dX8_flip_90 : decode cX8_flip 90 = .ok (.iconst (-1), 1) := by decide +kernel
theorem dX8_flip_91 : decode cX8_flip 91 = .ok (.invokevirtual 100, 3) := by decide +kernel
theorem dX8_flip_94 : decode cX8_flip 94 = .ok (.aload_n 0, 1) := by decide +kernel
theorem dX8_flip_95 : decode cX8_flip 95 = .ok (.getfield 19, 3) := by decide +kernel
theorem dX8_flip_98 : decode cX8_flip 98 = .ok (.iload_n 3, 1) := by decide +kernel
theorem dX8_flip_99 : decode cX8_flip 99 = .ok (.aload_n 0, 1) := by decide +kernel
theorem dX8_flip_100 : decode cX8_flip 100 = .ok (.getfield 61, 3) := by decide +kernel
theorem dX8_flip_103 : decode cX8_flip 103 = .ok (.invokevirtual 174, 3) := by decide +kernel
theorem dX8_flip_106 : decode cX8_flip 106 = .ok (.aload_n 0, 1) := by decide +kernel
theorem dX8_flip_107 : decode cX8_flip 107 = .ok (.getfield 19, 3) := by decide +kernel
theorem dX8_flip_110 : decode cX8_flip 110 = .ok (.iload 4, 2) := by decide +kernel
theorem dX8_flip_112 : decode cX8_flip 112 = .ok (.aload_n 0, 1) := by decide +kernel
theorem dX8_flip_113 : decode cX8_flip 113 = .ok (.getfield 65, 3) := by decide +kernel
theorem dX8_flip_116 : decode cX8_flip 116 = .ok (.invokevirtual 174, 3) := by decide +kernel
theorem dX8_flip_119 : decode cX8_flip 119 = .ok (.sipush 1000, 3) := by decide +kernel
theorem dX8_flip_122 : decode cX8_flip 122 = .ok (.iload 5, 2) := by decide +kernel
theorem dX8_flip_124 : decode cX8_flip 124 = .ok (.imul, 1) := by decide +kernel
theorem dX8_flip_125 : decode cX8_flip 125 = .ok (.iload 6, 2) := by decide +kernel
theorem dX8_flip_127 : decode cX8_flip 127 = .ok (.iadd, 1) := by decide +kernel
theorem dX8_flip_128 : decode cX8_flip 128 = .ok (.ireturn, 1) := by decide +kernel
set_option maxRecDepth 20000 in
theorem ggX8_draw_X8_needFace : GoodIn wsX8_draw wsX8_needFace := goodIn_ca (goodIn_r _ [9, 10, 11, 1, 12, 13, 14, 15, 16, 17, 18, 19, 20, 21, 22, 23, 24, 25, 26, 27, 28, 145, 146, 147, 148, 149, 150, 151, 152, 153, 154, 155, 156, 157, 158, 159] (by decide +kernel) (by decide +kernel)) (goodIn_sub (fun _ h => List.mem_cons_of_mem _ (List.mem_append_left _ (List.mem_append_left _ (List.mem_append_right _ h)))) (by decide +kernel))
set_option maxRecDepth 20000 in
theorem gX8_draw_X8_needFace : GoodIn wsX8_draw (wsV RX8 115 RX8 yX8_needFace wsX8_needFace) := goodIn_app (goodIn_of _ (by decide +kernel)) ggX8_draw_X8_needFace
set_option maxRecDepth 20000 in
theorem ggX8_draw_X1_ring : GoodIn wsX8_draw wsX1_ring := goodIn_r _ [20, 21, 22, 153, 154, 155, 156, 157] (by decide +kernel) (by decide +kernel)
set_option maxRecDepth 20000 in
theorem gX8_draw_X1_ring : GoodIn wsX8_draw (wsV RX8 157 RX1 yX1_ring wsX1_ring) := goodIn_app (goodIn_of _ (by decide +kernel)) ggX8_draw_X1_ring
set_option maxRecDepth 20000 in
theorem ggX8_draw_X8_canShift : GoodIn wsX8_draw wsX8_canShift := goodIn_r _ [33, 2, 34, 24, 25, 26, 27, 28, 35, 36, 37, 38, 39, 40, 41, 42, 43, 44, 45, 46, 8, 47, 48, 49, 50, 51, 52, 145, 146, 147, 148, 149, 150, 151, 152, 158, 159, 160, 161, 162, 163] (by decide +kernel) (by decide +kernel)
set_option maxRecDepth 20000 in
theorem gX8_draw_X8_canShift : GoodIn wsX8_draw (wsV RX8 199 RX8 yX8_canShift wsX8_canShift) := goodIn_app (goodIn_of _ (by decide +kernel)) ggX8_draw_X8_canShift
set_option maxRecDepth 20000 in
theorem ggX8_draw_X8_needArgument : GoodIn wsX8_draw wsX8_needArgument := goodIn_ca (goodIn_r _ [55, 56, 57] (by decide +kernel) (by decide +kernel)) (goodIn_sub (fun _ h => List.mem_cons_of_mem _ (List.mem_append_left _ (List.mem_append_right _ h))) (by decide +kernel))
set_option maxRecDepth 20000 in
theorem gX8_draw_X8_needArgument : GoodIn wsX8_draw (va_wsS RX8 131 yX8_needArgument wsX8_needArgument) := goodIn_app (goodIn_of _ (by decide +kernel)) ggX8_draw_X8_needArgument
set_option maxRecDepth 20000 in
theorem ggX8_draw_X5_length : GoodIn wsX8_draw wsX5_length := goodIn_r _ [27, 28, 158, 159] (by decide +kernel) (by decide +kernel)
set_option maxRecDepth 20000 in
theorem gX8_draw_X5_length : GoodIn wsX8_draw (wsV RX8 164 RX5 yX5_length wsX5_length) := goodIn_app (goodIn_of _ (by decide +kernel)) ggX8_draw_X5_length
set_option maxRecDepth 20000 in
theorem ggX8_draw_X3_hasRoom : GoodIn wsX8_draw wsX3_hasRoom := goodIn_r _ [61, 62, 160, 161, 162, 163] (by decide +kernel) (by decide +kernel)
set_option maxRecDepth 20000 in
theorem gX8_draw_X3_hasRoom : GoodIn wsX8_draw (wsV RX8 72 RX3 yX3_hasRoom wsX3_hasRoom) := goodIn_app (goodIn_of _ (by decide +kernel)) ggX8_draw_X3_hasRoom
set_option maxRecDepth 20000 in
theorem ggX8_draw_X1_hasRoom : GoodIn wsX8_draw wsX1_hasRoom := goodIn_r _ [66, 67, 153, 154, 155, 156, 157] (by decide +kernel) (by decide +kernel)
set_option maxRecDepth 20000 in
theorem gX8_draw_X1_hasRoom : GoodIn wsX8_draw (wsV RX8 103 RX1 yX1_hasRoom wsX1_hasRoom) := goodIn_app (goodIn_of _ (by decide +kernel)) ggX8_draw_X1_hasRoom
set_option maxRecDepth 20000 in
theorem ggX8_draw_X8_needState : GoodIn wsX8_draw wsX8_needState := goodIn_ca (goodIn_r _ [70, 71, 72] (by decide +kernel) (by decide +kernel)) (goodIn_sub (fun _ h => List.mem_cons_of_mem _ (List.mem_append_right _ h)) (by decide +kernel))
set_option maxRecDepth 20000 in
theorem gX8_draw_X8_needState : GoodIn wsX8_draw (va_wsS RX8 76 yX8_needState wsX8_needState) := goodIn_app (goodIn_of _ (by decide +kernel)) ggX8_draw_X8_needState
set_option maxRecDepth 20000 in
theorem ggX8_draw_X3_ever : GoodIn wsX8_draw wsX3_ever := goodIn_r _ [76, 62, 160, 161, 162, 163] (by decide +kernel) (by decide +kernel)
set_option maxRecDepth 20000 in
theorem gX8_draw_X3_ever : GoodIn wsX8_draw (wsV RX8 203 RX3 yX3_ever wsX3_ever) := goodIn_app (goodIn_of _ (by decide +kernel)) ggX8_draw_X3_ever
set_option maxRecDepth 20000 in
theorem ggX8_draw_X5_copyFrom : GoodIn wsX8_draw wsX5_copyFrom := goodIn_r _ [80, 28, 39, 158, 159] (by decide +kernel) (by decide +kernel)
set_option maxRecDepth 20000 in
theorem gX8_draw_X5_copyFrom : GoodIn wsX8_draw (wsV RX8 206 RX5 yX5_copyFrom wsX5_copyFrom) := goodIn_app (goodIn_of _ (by decide +kernel)) ggX8_draw_X5_copyFrom
set_option maxRecDepth 20000 in
theorem ggX8_draw_X5_clear : GoodIn wsX8_draw wsX5_clear := goodIn_r _ [84, 28, 158, 159] (by decide +kernel) (by decide +kernel)
set_option maxRecDepth 20000 in
theorem gX8_draw_X5_clear : GoodIn wsX8_draw (wsV RX8 167 RX5 yX5_clear wsX5_clear) := goodIn_app (goodIn_of _ (by decide +kernel)) ggX8_draw_X5_clear
set_option maxRecDepth 20000 in
theorem ggX8_draw_X5_get : GoodIn wsX8_draw wsX5_get := goodIn_r _ [38, 28, 39, 158, 159] (by decide +kernel) (by decide +kernel)
set_option maxRecDepth 20000 in
theorem gX8_draw_X5_get : GoodIn wsX8_draw (wsV RX8 210 RX5 yX5_get wsX5_get) := goodIn_app (goodIn_of _ (by decide +kernel)) ggX8_draw_X5_get
set_option maxRecDepth 20000 in
theorem ggX8_draw_X3_addShifted : GoodIn wsX8_draw wsX3_addShifted := goodIn_r _ [88, 89, 41, 42, 43, 44, 45, 46, 8, 47, 90, 91, 92, 93, 62, 94, 95, 96, 97, 98, 99, 160, 161, 162, 163] (by decide +kernel) (by decide +kernel)
set_option maxRecDepth 20000 in
theorem gX8_draw_X3_addShifted : GoodIn wsX8_draw (wsV RX8 212 RX3 yX3_addShifted wsX3_addShifted) := goodIn_app (goodIn_of _ (by decide +kernel)) ggX8_draw_X3_addShifted
set_option maxRecDepth 20000 in
theorem ggX8_draw_X5_add : GoodIn wsX8_draw wsX5_add := goodIn_r _ [103, 28, 39, 158, 159] (by decide +kernel) (by decide +kernel)
set_option maxRecDepth 20000 in
theorem gX8_draw_X5_add : GoodIn wsX8_draw (wsV RX8 215 RX5 yX5_add wsX5_add) := goodIn_app (goodIn_of _ (by decide +kernel)) ggX8_draw_X5_add
set_option maxRecDepth 20000 in
theorem ggX8_draw_X1_reshape : GoodIn wsX8_draw wsX1_reshape := goodIn_r _ [107, 108, 109, 110, 15, 111, 17, 18, 19, 20, 21, 22, 23, 24, 25, 26, 27, 28, 112, 36, 37, 38, 39, 113, 114, 115, 116, 117, 118, 119, 120, 121, 122, 78, 79, 80, 123, 124, 125, 126, 153, 154, 155, 156, 157, 158, 159] (by decide +kernel) (by decide +kernel)
set_option maxRecDepth 20000 in
theorem gX8_draw_X1_reshape : GoodIn wsX8_draw (wsV RX8 174 RX1 yX1_reshape wsX1_reshape) := goodIn_app (goodIn_of _ (by decide +kernel)) ggX8_draw_X1_reshape
set_option maxRecDepth 20000 in
theorem ggX8_draw_X8_addSides : GoodIn wsX8_draw wsX8_addSides := goodIn_r _ [130, 4, 1, 34, 24, 25, 26, 27, 28, 35, 36, 37, 38, 39, 131, 132, 133, 134, 135, 82, 83, 84, 136, 101, 102, 103, 137, 138, 139, 15, 140, 67, 141, 142, 8, 143, 144, 105, 106, 107, 108, 109, 110, 111, 17, 18, 19, 20, 21, 22, 23, 112, 113, 114, 115, 116, 117, 118, 119, 120, 121, 122, 78, 79, 80, 123, 124, 125, 126, 145, 146, 147, 148, 149, 150, 151, 152, 158, 159, 153, 154, 155, 156, 157] (by decide +kernel) (by decide +kernel)
set_option maxRecDepth 20000 in
theorem gX8_draw_X8_addSides : GoodIn wsX8_draw (wsV RX8 217 RX8 yX8_addSides wsX8_addSides) := goodIn_app (goodIn_of _ (by decide +kernel)) ggX8_draw_X8_addSides
theorem dX8_draw_0 : decode cX8_draw 0 = .ok (.aload_n 0, 1) := by decide +kernel
theorem dX8_draw_1 : decode cX8_draw 1 = .ok (.iload_n 1, 1) := by decide +kernel
theorem dX8_draw_2 : decode cX8_draw 2 = .ok (.invokevirtual 115, 3) := by decide +kernel
theorem dX8_draw_5 : decode cX8_draw 5 = .ok (.aload_n 0, 1) := by decide +kernel
theorem dX8_draw_6 : decode cX8_draw 6 = .ok (.getfield 19, 3) := by decide +kernel
theorem dX8_draw_9 : decode cX8_draw 9 = .ok (.iload_n 1, 1) := by decide +kernel
theorem dX8_draw_10 : decode cX8_draw 10 = .ok (.invokevirtual 157, 3) := by decide +kernel
theorem dX8_draw_13 : decode cX8_draw 13 = .ok (.astore 5, 2) := by decide +kernel
theorem dX8_draw_15 : decode cX8_draw 15 = .ok (.aload_n 0, 1) := by decide +kernel
theorem dX8_draw_16 : decode cX8_draw 16 = .ok (.aload 5, 2) := by decide +kernel
theorem dX8_draw_18 : decode cX8_draw 18 = .ok (.iconst 0, 1) := by decide +kernel
theorem dX8_draw_19 : decode cX8_draw 19 = .ok (.iload_n 2, 1) := by decide +kernel
theorem dX8_draw_20 : decode cX8_draw 20 = .ok (.invokevirtual 199, 3) := by decide +kernel
theorem dX8_draw_23 : decode cX8_draw 23 = .ok (.ifCond .eq 30, 3) := by decide +kernel
theorem dX8_draw_26 : decode cX8_draw 26 = .ok (.aload_n 0, 1) := by decide +kernel
theorem dX8_draw_27 : decode cX8_draw 27 = .ok (.aload 5, 2) := by decide +kernel
theorem dX8_draw_29 : decode cX8_draw 29 = .ok (.iconst 1, 1) := by decide +kernel
theorem dX8_draw_30 : decode cX8_draw 30 = .ok (.iload_n 3, 1) := by decide +kernel
theorem dX8_draw_31 : decode cX8_draw 31 = .ok (.invokevirtual 199, 3) := by decide +kernel
theorem dX8_draw_34 : decode cX8_draw 34 = .ok (.ifCond .eq 19, 3) := by decide +kernel
theorem dX8_draw_37 : decode cX8_draw 37 = .ok (.aload_n 0, 1) := by decide +kernel
theorem dX8_draw_38 : decode cX8_draw 38 = .ok (.aload 5, 2) := by decide +kernel
theorem dX8_draw_40 : decode cX8_draw 40 = .ok (.iconst 2, 1) := by decide +kernel
theorem dX8_draw_41 : decode cX8_draw 41 = .ok (.iload 4, 2) := by decide +kernel
theorem dX8_draw_43 : decode cX8_draw 43 = .ok (.invokevirtual 199, 3) := by decide +kernel
theorem dX8_draw_46 : decode cX8_draw 46 = .ok (.ifCond .eq 7, 3) := by decide +kernel
theorem dX8_draw_49 : decode cX8_draw 49 = .ok (.iconst 1, 1) := by decide +kernel
theorem dX8_draw_50 : decode cX8_draw 50 = .ok (.goto 4, 3) := by decide +kernel
theorem dX8_draw_53 : decode cX8_draw 53 = .ok (.iconst 0, 1) := by decide +kernel
theorem dX8_draw_54 : decode cX8_draw 54 = .ok (.invokestatic 131, 3) := by decide +kernel
theorem dX8_draw_57 : decode cX8_draw 57 = .ok (.aload 5, 2) := by decide +kernel
theorem dX8_draw_59 : decode cX8_draw 59 = .ok (.invokevirtual 164, 3) := by decide +kernel
theorem dX8_draw_62 : decode cX8_draw 62 = .ok (.istore 6, 2) := by decide +kernel
theorem dX8_draw_64 : decode cX8_draw 64 = .ok (.aload_n 0, 1) := by decide +kernel
theorem dX8_draw_65 : decode cX8_draw 65 = .ok (.getfield 12, 3) := by decide +kernel
theorem dX8_draw_68 : decode cX8_draw 68 = .ok (.iload 6, 2) := by decide +kernel
theorem dX8_draw_70 : decode cX8_draw 70 = .ok (.invokevirtual 72, 3) := by decide +kernel
theorem dX8_draw_73 : decode cX8_draw 73 = .ok (.ifCond .eq 19, 3) := by decide +kernel
theorem dX8_draw_76 : decode cX8_draw 76 = .ok (.aload_n 0, 1) := by decide +kernel
theorem dX8_draw_77 : decode cX8_draw 77 = .ok (.getfield 19, 3) := by decide +kernel
theorem dX8_draw_80 : decode cX8_draw 80 = .ok (.iload 6, 2) := by decide +kernel
theorem dX8_draw_82 : decode cX8_draw 82 = .ok (.invokevirtual 103, 3) := by decide +kernel
theorem dX8_draw_85 : decode cX8_draw 85 = .ok (.ifCond .eq 7, 3) := by decide +kernel
theorem dX8_draw_88 : decode cX8_draw 88 = .ok (.iconst 1, 1) := by decide +kernel
theorem dX8_draw_89 : decode cX8_draw 89 = .ok (.goto 4, 3) := by decide +kernel
theorem dX8_draw_92 : decode cX8_draw 92 = .ok (.iconst 0, 1) := by decide +kernel
theorem dX8_draw_93 : decode cX8_draw 93 = .ok (.invokestatic 76, 3) := by decide +kernel
theorem dX8_draw_96 : decode cX8_draw 96 = .ok (.aload_n 0, 1) := by decide +kernel
theorem dX8_draw_97 : decode cX8_draw 97 = .ok (.getfield 12, 3) := by decide +kernel
theorem dX8_draw_100 : decode cX8_draw 100 = .ok (.invokevirtual 203, 3) := by decide +kernel
theorem dX8_draw_103 : decode cX8_draw 103 = .ok (.istore 7, 2) := by decide +kernel
theorem dX8_draw_105 : decode cX8_draw 105 = .ok (.aload_n 0, 1) := by decide +kernel
theorem dX8_draw_106 : decode cX8_draw 106 = .ok (.getfield 65, 3) := by decide +kernel
theorem dX8_draw_109 : decode cX8_draw 109 = .ok (.aload 5, 2) := by decide +kernel
theorem dX8_draw_111 : decode cX8_draw 111 = .ok (.invokevirtual 206, 3) := by decide +kernel
theorem dX8_draw_114 : decode cX8_draw 114 = .ok (.aload_n 0, 1) := by decide +kernel
theorem dX8_draw_115 : decode cX8_draw 115 = .ok (.getfield 61, 3) := by decide +kernel
theorem dX8_draw_118 : decode cX8_draw 118 = .ok (.invokevirtual 167, 3) := by decide +kernel
theorem dX8_draw_121 : decode cX8_draw 121 = .ok (.iconst 0, 1) := by decide +kernel
theorem dX8_draw_122 : decode cX8_draw 122 = .ok (.istore 8, 2) := by decide +kernel
theorem dX8_draw_124 : decode cX8_draw 124 = .ok (.iload 8, 2) := by decide +kernel
theorem dX8_draw_126 : decode cX8_draw 126 = .ok (.iload 6, 2) := by decide +kernel
theorem dX8_draw_128 : decode cX8_draw 128 = .ok (.if_icmp .ge 36, 3) := by decide +kernel
theorem dX8_draw_131 : decode cX8_draw 131 = .ok (.aload_n 0, 1) := by decide +kernel
theorem dX8_draw_132 : decode cX8_draw 132 = .ok (.getfield 61, 3) := by decide +kernel
theorem dX8_draw_135 : decode cX8_draw 135 = .ok (.aload_n 0, 1) := by decide +kernel
theorem dX8_draw_136 : decode cX8_draw 136 = .ok (.getfield 12, 3) := by decide +kernel
theorem dX8_draw_139 : decode cX8_draw 139 = .ok (.aload_n 0, 1) := by decide +kernel
theorem dX8_draw_140 : decode cX8_draw 140 = .ok (.getfield 65, 3) := by decide +kernel
theorem dX8_draw_143 : decode cX8_draw 143 = .ok (.iload 8, 2) := by decide +kernel
theorem dX8_draw_145 : decode cX8_draw 145 = .ok (.invokevirtual 210, 3) := by decide +kernel
theorem dX8_draw_148 : decode cX8_draw 148 = .ok (.iload_n 2, 1) := by decide +kernel
theorem dX8_draw_149 : decode cX8_draw 149 = .ok (.iload_n 3, 1) := by decide +kernel
theorem dX8_draw_150 : decode cX8_draw 150 = .ok (.iload 4, 2) := by decide +kernel
theorem dX8_draw_152 : decode cX8_draw 152 = .ok (.invokevirtual 212, 3) := by decide +kernel
theorem dX8_draw_155 : decode cX8_draw 155 = .ok (.invokevirtual 215, 3) := by decide +kernel
theorem dX8_draw_158 : decode cX8_draw 158 = .ok (.iinc 8 1, 3) := by decide +kernel
theorem dX8_draw_161 : decode cX8_draw 161 = .ok (.goto (-37), 3) := by decide +kernel
theorem dX8_draw_164 : decode cX8_draw 164 = .ok (.aload_n 0, 1) := by decide +kernel
theorem dX8_draw_165 : decode cX8_draw 165 = .ok (.getfield 19, 3) := by decide +kernel
theorem dX8_draw_168 : decode cX8_draw 168 = .ok (.iload_n 1, 1) := by decide +kernel
theorem dX8_draw_169 : decode cX8_draw 169 = .ok (.aload_n 0, 1) := by decide +kernel
theorem dX8_draw_170 : decode cX8_draw 170 = .ok (.getfield 61, 3) := by decide +kernel
theorem dX8_draw_173 : decode cX8_draw 173 = .ok (.invokevirtual 174, 3) := by decide +kernel
theorem dX8_draw_176 : decode cX8_draw 176 = .ok (.aload_n 0, 1) := by decide +kernel
theorem dX8_draw_177 : decode cX8_draw 177 = .ok (.aload_n 0, 1) := by decide +kernel
theorem dX8_draw_178 : decode cX8_draw 178 = .ok (.getfield 65, 3) := by decide +kernel
theorem dX8_draw_181 : decode cX8_draw 181 = .ok (.iload 7, 2) := by decide +kernel
theorem dX8_draw_183 : decode cX8_draw 183 = .ok (.invokevirtual 217, 3) := by decide +kernel
theorem dX8_draw_186 : decode cX8_draw 186 = .ok (.iload 7, 2) := by decide +kernel
theorem dX8_draw_188 : decode cX8_draw 188 = .ok (.ireturn, 1) := by decide +kernel
set_option maxRecDepth 20000 in
theorem ggX8_fill_X8_needPoints : GoodIn wsX8_fill wsX8_needPoints := goodIn_ca (goodIn_r _ [8, 9, 10, 11, 7, 12, 13, 14, 15, 16, 17, 18, 19, 20, 21, 22, 23, 146, 147, 148, 149, 150, 151, 152, 153, 154, 155, 156, 157] (by decide +kernel) (by decide +kernel)) (goodIn_sub (fun _ h => List.mem_cons_of_mem _ (List.mem_append_left _ (List.mem_append_left _ (List.mem_append_right _ h)))) (by decide +kernel))
set_option maxRecDepth 20000 in
theorem gX8_fill_X8_needPoints : GoodIn wsX8_fill (wsV RX8 96 RX8 yX8_needPoints wsX8_needPoints) := goodIn_app (goodIn_of _ (by decide +kernel)) ggX8_fill_X8_needPoints
set_option maxRecDepth 20000 in
theorem ggX8_fill_X1_isOpen : GoodIn wsX8_fill wsX1_isOpen := goodIn_r _ [28, 29, 30, 31, 27, 32, 33, 158, 159, 160, 161, 162] (by decide +kernel) (by decide +kernel)
set_option maxRecDepth 20000 in
theorem gX8_fill_X1_isOpen : GoodIn wsX8_fill (wsV RX8 221 RX1 yX1_isOpen wsX1_isOpen) := goodIn_app (goodIn_of _ (by decide +kernel)) ggX8_fill_X1_isOpen
set_option maxRecDepth 20000 in
theorem ggX8_fill_X8_needArgument : GoodIn wsX8_fill wsX8_needArgument := goodIn_ca (goodIn_r _ [36, 37, 38] (by decide +kernel) (by decide +kernel)) (goodIn_sub (fun _ h => List.mem_cons_of_mem _ (List.mem_append_left _ (List.mem_append_right _ h))) (by decide +kernel))
set_option maxRecDepth 20000 in
theorem gX8_fill_X8_needArgument : GoodIn wsX8_fill (va_wsS RX8 131 yX8_needArgument wsX8_needArgument) := goodIn_app (goodIn_of _ (by decide +kernel)) ggX8_fill_X8_needArgument
set_option maxRecDepth 20000 in
theorem ggX8_fill_X7_holeLength : GoodIn wsX8_fill wsX7_holeLength := goodIn_r _ [43, 44, 45, 46, 47, 48, 49, 50, 51, 52, 53, 42, 54, 55, 56, 25, 26, 27, 28, 29, 30, 31, 32, 33, 57, 58, 59, 60, 61, 22, 7, 23, 62, 63, 64, 65, 66, 67, 68, 69, 70, 71, 72, 73, 74, 75, 76, 77, 78, 79, 80, 81, 82, 83, 84, 85, 86, 163, 164, 165, 166, 167, 168, 169, 170, 158, 159, 160, 161, 162, 171, 172] (by decide +kernel) (by decide +kernel)
set_option maxRecDepth 20000 in
theorem gX8_fill_X7_holeLength : GoodIn wsX8_fill (wsV RX8 224 RX7 yX7_holeLength wsX7_holeLength) := goodIn_app (goodIn_of _ (by decide +kernel)) ggX8_fill_X7_holeLength
set_option maxRecDepth 20000 in
theorem ggX8_fill_X1_hasRoom : GoodIn wsX8_fill wsX1_hasRoom := goodIn_r _ [90, 91, 158, 159, 160, 161, 162] (by decide +kernel) (by decide +kernel)
set_option maxRecDepth 20000 in
theorem gX8_fill_X1_hasRoom : GoodIn wsX8_fill (wsV RX8 103 RX1 yX1_hasRoom wsX1_hasRoom) := goodIn_app (goodIn_of _ (by decide +kernel)) ggX8_fill_X1_hasRoom
set_option maxRecDepth 20000 in
theorem ggX8_fill_X8_needState : GoodIn wsX8_fill wsX8_needState := goodIn_ca (goodIn_r _ [94, 95, 96] (by decide +kernel) (by decide +kernel)) (goodIn_sub (fun _ h => List.mem_cons_of_mem _ (List.mem_append_right _ h)) (by decide +kernel))
set_option maxRecDepth 20000 in
theorem gX8_fill_X8_needState : GoodIn wsX8_fill (va_wsS RX8 76 yX8_needState wsX8_needState) := goodIn_app (goodIn_of _ (by decide +kernel)) ggX8_fill_X8_needState
set_option maxRecDepth 20000 in
theorem ggX8_fill_X8_readHole : GoodIn wsX8_fill wsX8_readHole := goodIn_r _ [100, 3, 1, 101, 102, 103, 79, 104, 81, 105, 106, 107, 108, 82, 109, 63, 64, 27, 65, 29, 30, 31, 32, 33, 66, 67, 68, 69, 70, 71, 72, 73, 74, 75, 76, 77, 78, 80, 83, 84, 85, 86, 146, 147, 148, 149, 150, 151, 152, 153, 171, 172, 158, 159, 160, 161, 162] (by decide +kernel) (by decide +kernel)
set_option maxRecDepth 20000 in
theorem gX8_fill_X8_readHole : GoodIn wsX8_fill (wsV RX8 227 RX8 yX8_readHole wsX8_readHole) := goodIn_app (goodIn_of _ (by decide +kernel)) ggX8_fill_X8_readHole
set_option maxRecDepth 20000 in
theorem ggX8_fill_X5_hasTwice : GoodIn wsX8_fill wsX5_hasTwice := goodIn_r _ [113, 81, 82, 114, 77, 78, 79, 80, 171, 172] (by decide +kernel) (by decide +kernel)
set_option maxRecDepth 20000 in
theorem gX8_fill_X5_hasTwice : GoodIn wsX8_fill (wsV RX8 104 RX5 yX5_hasTwice wsX5_hasTwice) := goodIn_app (goodIn_of _ (by decide +kernel)) ggX8_fill_X5_hasTwice
set_option maxRecDepth 20000 in
theorem ggX8_fill_X1_add : GoodIn wsX8_fill wsX1_add := goodIn_r _ [118, 91, 119, 120, 7, 121, 122, 123, 124, 27, 125, 126, 127, 128, 129, 70, 71, 72, 73, 74, 75, 130, 131, 132, 79, 133, 81, 83, 84, 85, 86, 82, 29, 30, 31, 32, 33, 134, 135, 136, 137, 138, 139, 140, 141, 142, 143, 144, 145, 158, 159, 160, 161, 162, 171, 172] (by decide +kernel) (by decide +kernel)
set_option maxRecDepth 20000 in
theorem gX8_fill_X1_add : GoodIn wsX8_fill (wsV RX8 112 RX1 yX1_add wsX1_add) := goodIn_app (goodIn_of _ (by decide +kernel)) ggX8_fill_X1_add
theorem dX8_fill_0 : decode cX8_fill 0 = .ok (.aload_n 0, 1) := by decide +kernel
theorem dX8_fill_1 : decode cX8_fill 1 = .ok (.iload_n 1, 1) := by decide +kernel
theorem dX8_fill_2 : decode cX8_fill 2 = .ok (.iload_n 2, 1) := by decide +kernel
theorem dX8_fill_3 : decode cX8_fill 3 = .ok (.invokevirtual 96, 3) := by decide +kernel
theorem dX8_fill_6 : decode cX8_fill 6 = .ok (.aload_n 0, 1) := by decide +kernel
theorem dX8_fill_7 : decode cX8_fill 7 = .ok (.getfield 19, 3) := by decide +kernel
theorem dX8_fill_10 : decode cX8_fill 10 = .ok (.iload_n 1, 1) := by decide +kernel
theorem dX8_fill_11 : decode cX8_fill 11 = .ok (.iload_n 2, 1) := by decide +kernel
theorem dX8_fill_12 : decode cX8_fill 12 = .ok (.invokevirtual 221, 3) := by decide +kernel
theorem dX8_fill_15 : decode cX8_fill 15 = .ok (.invokestatic 131, 3) := by decide +kernel
theorem dX8_fill_18 : decode cX8_fill 18 = .ok (.aload_n 0, 1) := by decide +kernel
theorem dX8_fill_19 : decode cX8_fill 19 = .ok (.getfield 31, 3) := by decide +kernel
theorem dX8_fill_22 : decode cX8_fill 22 = .ok (.iload_n 1, 1) := by decide +kernel
theorem dX8_fill_23 : decode cX8_fill 23 = .ok (.iload_n 2, 1) := by decide +kernel
theorem dX8_fill_24 : decode cX8_fill 24 = .ok (.invokevirtual 224, 3) := by decide +kernel
theorem dX8_fill_27 : decode cX8_fill 27 = .ok (.istore_n 3, 1) := by decide +kernel
theorem dX8_fill_28 : decode cX8_fill 28 = .ok (.aload_n 0, 1) := by decide +kernel
theorem dX8_fill_29 : decode cX8_fill 29 = .ok (.getfield 19, 3) := by decide +kernel
theorem dX8_fill_32 : decode cX8_fill 32 = .ok (.iconst 1, 1) := by decide +kernel
theorem dX8_fill_33 : decode cX8_fill 33 = .ok (.invokevirtual 103, 3) := by decide +kernel
theorem dX8_fill_36 : decode cX8_fill 36 = .ok (.ifCond .eq 18, 3) := by decide +kernel
theorem dX8_fill_39 : decode cX8_fill 39 = .ok (.iload_n 3, 1) := by decide +kernel
theorem dX8_fill_40 : decode cX8_fill 40 = .ok (.iconst 3, 1) := by decide +kernel
theorem dX8_fill_41 : decode cX8_fill 41 = .ok (.if_icmp .lt 13, 3) := by decide +kernel
theorem dX8_fill_44 : decode cX8_fill 44 = .ok (.iload_n 3, 1) := by decide +kernel
theorem dX8_fill_45 : decode cX8_fill 45 = .ok (.bipush 12, 2) := by decide +kernel
theorem dX8_fill_47 : decode cX8_fill 47 = .ok (.if_icmp .gt 7, 3) := by decide +kernel
theorem dX8_fill_50 : decode cX8_fill 50 = .ok (.iconst 1, 1) := by decide +kernel
theorem dX8_fill_51 : decode cX8_fill 51 = .ok (.goto 4, 3) := by decide +kernel
theorem dX8_fill_54 : decode cX8_fill 54 = .ok (.iconst 0, 1) := by decide +kernel
theorem dX8_fill_55 : decode cX8_fill 55 = .ok (.invokestatic 76, 3) := by decide +kernel
theorem dX8_fill_58 : decode cX8_fill 58 = .ok (.aload_n 0, 1) := by decide +kernel
theorem dX8_fill_59 : decode cX8_fill 59 = .ok (.iload_n 1, 1) := by decide +kernel
theorem dX8_fill_60 : decode cX8_fill 60 = .ok (.iload_n 2, 1) := by decide +kernel
theorem dX8_fill_61 : decode cX8_fill 61 = .ok (.iload_n 3, 1) := by decide +kernel
theorem dX8_fill_62 : decode cX8_fill 62 = .ok (.invokevirtual 227, 3) := by decide +kernel
theorem dX8_fill_65 : decode cX8_fill 65 = .ok (.aload_n 0, 1) := by decide +kernel
theorem dX8_fill_66 : decode cX8_fill 66 = .ok (.getfield 61, 3) := by decide +kernel
theorem dX8_fill_69 : decode cX8_fill 69 = .ok (.invokevirtual 104, 3) := by decide +kernel
theorem dX8_fill_72 : decode cX8_fill 72 = .ok (.ifCond .ne 7, 3) := by decide +kernel
theorem dX8_fill_75 : decode cX8_fill 75 = .ok (.iconst 1, 1) := by decide +kernel
theorem dX8_fill_76 : decode cX8_fill 76 = .ok (.goto 4, 3) := by decide +kernel
theorem dX8_fill_79 : decode cX8_fill 79 = .ok (.iconst 0, 1) := by decide +kernel
theorem dX8_fill_80 : decode cX8_fill 80 = .ok (.invokestatic 76, 3) := by decide +kernel
theorem dX8_fill_83 : decode cX8_fill 83 = .ok (.aload_n 0, 1) := by decide +kernel
theorem dX8_fill_84 : decode cX8_fill 84 = .ok (.getfield 19, 3) := by decide +kernel
theorem dX8_fill_87 : decode cX8_fill 87 = .ok (.aload_n 0, 1) := by decide +kernel
theorem dX8_fill_88 : decode cX8_fill 88 = .ok (.getfield 61, 3) := by decide +kernel
theorem dX8_fill_91 : decode cX8_fill 91 = .ok (.invokevirtual 112, 3) := by decide +kernel
theorem dX8_fill_94 : decode cX8_fill 94 = .ok (.ireturn, 1) := by decide +kernel
set_option maxRecDepth 20000 in
theorem ggX8_quarters_X4_fits : GoodIn wsX8_quarters wsX4_fits := goodIn_r _ [7, 8, 9, 10, 11, 12, 13, 14, 15, 16, 17, 18, 19, 20, 21, 22, 23, 24, 25, 26, 27, 28, 29, 30, 31, 32, 33, 34, 35, 36, 37, 38, 39, 40, 41, 42, 43, 44, 45, 46, 47, 48, 49, 50, 51, 52, 53, 54, 55, 56, 57, 58, 59, 60, 189, 190, 191, 192, 193, 194, 195, 196, 197, 198, 199, 200, 201, 202, 203, 204] (by decide +kernel) (by decide +kernel)
set_option maxRecDepth 20000 in
theorem gX8_quarters_X4_fits : GoodIn wsX8_quarters (wsV RX8 230 RX4 yX4_fits wsX4_fits) := goodIn_app (goodIn_of _ (by decide +kernel)) ggX8_quarters_X4_fits
set_option maxRecDepth 20000 in
theorem ggX8_quarters_X8_needState : GoodIn wsX8_quarters wsX8_needState := goodIn_ca (goodIn_r _ [64, 65, 66] (by decide +kernel) (by decide +kernel)) (goodIn_sub (fun _ h => List.mem_cons_of_mem _ (List.mem_append_right _ h)) (by decide +kernel))
set_option maxRecDepth 20000 in
theorem gX8_quarters_X8_needState : GoodIn wsX8_quarters (va_wsS RX8 76 yX8_needState wsX8_needState) := goodIn_app (goodIn_of _ (by decide +kernel)) ggX8_quarters_X8_needState
set_option maxRecDepth 20000 in
theorem ggX8_quarters_X4_apply : GoodIn wsX8_quarters wsX4_apply := goodIn_r _ [70, 9, 71, 72, 73, 74, 13, 75, 15, 76, 77, 78, 6, 79, 8, 80, 81, 82, 83, 84, 37, 38, 39, 40, 41, 85, 86, 87, 50, 88, 89, 90, 91, 92, 93, 94, 63, 95, 96, 97, 98, 99, 52, 100, 101, 102, 103, 104, 105, 106, 107, 108, 109, 110, 111, 112, 113, 16, 17, 18, 19, 20, 21, 22, 23, 24, 25, 26, 27, 114, 115, 116, 117, 118, 119, 120, 121, 122, 123, 124, 29, 30, 31, 32, 125, 126, 127, 128, 129, 130, 131, 132, 133, 134, 135, 136, 137, 138, 139, 140, 141, 142, 143, 144, 145, 146, 147, 148, 149, 150, 151, 46, 152, 153, 154, 155, 156, 157, 158, 159, 160, 161, 28, 162, 163, 164, 165, 166, 167, 168, 169, 170, 171, 172, 173, 174, 175, 176, 177, 178, 179, 189, 190, 191, 192, 193, 194, 195, 196, 197, 198, 201, 202, 203, 204, 199, 200] (by decide +kernel) (by decide +kernel)
set_option maxRecDepth 20000 in
theorem gX8_quarters_X4_apply : GoodIn wsX8_quarters (wsV RX8 232 RX4 yX4_apply wsX4_apply) := goodIn_app (goodIn_of _ (by decide +kernel)) ggX8_quarters_X4_apply
set_option maxRecDepth 20000 in
theorem ggX8_quarters_X1_left : GoodIn wsX8_quarters wsX1_left := goodIn_r _ [45, 46, 194, 195, 196, 197, 198] (by decide +kernel) (by decide +kernel)
set_option maxRecDepth 20000 in
theorem gX8_quarters_X1_left : GoodIn wsX8_quarters (wsV RX8 121 RX1 yX1_left wsX1_left) := goodIn_app (goodIn_of _ (by decide +kernel)) ggX8_quarters_X1_left
theorem dX8_quarters_0 : decode cX8_quarters 0 = .ok (.aload_n 0, 1) := by decide +kernel
theorem dX8_quarters_1 : decode cX8_quarters 1 = .ok (.getfield 47, 3) := by decide +kernel
theorem dX8_quarters_4 : decode cX8_quarters 4 = .ok (.invokevirtual 230, 3) := by decide +kernel
theorem dX8_quarters_7 : decode cX8_quarters 7 = .ok (.invokestatic 76, 3) := by decide +kernel
theorem dX8_quarters_10 : decode cX8_quarters 10 = .ok (.aload_n 0, 1) := by decide +kernel
theorem dX8_quarters_11 : decode cX8_quarters 11 = .ok (.getfield 47, 3) := by decide +kernel
theorem dX8_quarters_14 : decode cX8_quarters 14 = .ok (.invokevirtual 232, 3) := by decide +kernel
theorem dX8_quarters_17 : decode cX8_quarters 17 = .ok (.aload_n 0, 1) := by decide +kernel
theorem dX8_quarters_18 : decode cX8_quarters 18 = .ok (.getfield 19, 3) := by decide +kernel
theorem dX8_quarters_21 : decode cX8_quarters 21 = .ok (.invokevirtual 121, 3) := by decide +kernel
theorem dX8_quarters_24 : decode cX8_quarters 24 = .ok (.ireturn, 1) := by decide +kernel
set_option maxRecDepth 20000 in
theorem ggX8_smooth_X6_apply : GoodIn wsX8_smooth wsX6_apply := goodIn_r _ [6, 7, 8, 9, 10, 11, 12, 13, 14, 15, 16, 17, 18, 19, 20, 5, 21, 22, 23, 24, 25, 26, 27, 28, 29, 30, 31, 32, 33, 34, 35, 36, 37, 38, 39, 40, 41, 42, 43, 44, 45, 46, 47, 48, 49, 50, 51, 52, 53, 54, 55, 56, 57, 58, 67, 68, 69, 70, 71, 72, 73, 74, 75, 76, 77, 78] (by decide +kernel) (by decide +kernel)
set_option maxRecDepth 20000 in
theorem gX8_smooth_X6_apply : GoodIn wsX8_smooth (wsV RX8 234 RX6 yX6_apply wsX6_apply) := goodIn_app (goodIn_of _ (by decide +kernel)) ggX8_smooth_X6_apply
theorem dX8_smooth_0 : decode cX8_smooth 0 = .ok (.aload_n 0, 1) := by decide +kernel
theorem dX8_smooth_1 : decode cX8_smooth 1 = .ok (.getfield 54, 3) := by decide +kernel
theorem dX8_smooth_4 : decode cX8_smooth 4 = .ok (.invokevirtual 234, 3) := by decide +kernel
theorem dX8_smooth_7 : decode cX8_smooth 7 = .ok (.ireturn, 1) := by decide +kernel
set_option maxRecDepth 20000 in
theorem ggX8_turn_X1_ever : GoodIn wsX8_turn wsX1_ever := goodIn_r _ [7, 8, 83, 84, 85, 86, 87] (by decide +kernel) (by decide +kernel)
set_option maxRecDepth 20000 in
theorem gX8_turn_X1_ever : GoodIn wsX8_turn (wsV RX8 236 RX1 yX1_ever wsX1_ever) := goodIn_app (goodIn_of _ (by decide +kernel)) ggX8_turn_X1_ever
set_option maxRecDepth 20000 in
theorem ggX8_turn_X1_has : GoodIn wsX8_turn wsX1_has := goodIn_r _ [12, 13, 14, 15, 6, 16, 17, 18, 19, 20, 21, 22, 23, 24, 83, 84, 85, 86, 87, 88, 89] (by decide +kernel) (by decide +kernel)
set_option maxRecDepth 20000 in
theorem gX8_turn_X1_has : GoodIn wsX8_turn (wsV RX8 237 RX1 yX1_has wsX1_has) := goodIn_app (goodIn_of _ (by decide +kernel)) ggX8_turn_X1_has
set_option maxRecDepth 20000 in
theorem ggX8_turn_X1_ring : GoodIn wsX8_turn wsX1_ring := goodIn_r _ [16, 17, 18, 83, 84, 85, 86, 87] (by decide +kernel) (by decide +kernel)
set_option maxRecDepth 20000 in
theorem gX8_turn_X1_ring : GoodIn wsX8_turn (wsV RX8 157 RX1 yX1_ring wsX1_ring) := goodIn_app (goodIn_of _ (by decide +kernel)) ggX8_turn_X1_ring
set_option maxRecDepth 20000 in
theorem ggX8_turn_X5_copyBackwards : GoodIn wsX8_turn wsX5_copyBackwards := goodIn_r _ [29, 30, 31, 32, 22, 33, 24, 34, 20, 21, 23, 35, 36, 37, 38, 39, 40, 41, 42, 43, 88, 89] (by decide +kernel) (by decide +kernel)
set_option maxRecDepth 20000 in
theorem gX8_turn_X5_copyBackwards : GoodIn wsX8_turn (wsV RX8 240 RX5 yX5_copyBackwards wsX5_copyBackwards) := goodIn_app (goodIn_of _ (by decide +kernel)) ggX8_turn_X5_copyBackwards
set_option maxRecDepth 20000 in
theorem ggX8_turn_X1_reshape : GoodIn wsX8_turn wsX1_reshape := goodIn_r _ [47, 48, 49, 50, 6, 51, 13, 14, 15, 16, 17, 18, 19, 20, 21, 22, 23, 24, 52, 36, 37, 38, 39, 53, 54, 55, 56, 57, 58, 59, 60, 61, 62, 63, 64, 65, 66, 67, 68, 69, 83, 84, 85, 86, 87, 88, 89] (by decide +kernel) (by decide +kernel)
set_option maxRecDepth 20000 in
theorem gX8_turn_X1_reshape : GoodIn wsX8_turn (wsV RX8 174 RX1 yX1_reshape wsX1_reshape) := goodIn_app (goodIn_of _ (by decide +kernel)) ggX8_turn_X1_reshape
set_option maxRecDepth 20000 in
theorem ggX8_turn_X1_left : GoodIn wsX8_turn wsX1_left := goodIn_r _ [73, 74, 83, 84, 85, 86, 87] (by decide +kernel) (by decide +kernel)
set_option maxRecDepth 20000 in
theorem gX8_turn_X1_left : GoodIn wsX8_turn (wsV RX8 121 RX1 yX1_left wsX1_left) := goodIn_app (goodIn_of _ (by decide +kernel)) ggX8_turn_X1_left
theorem dX8_turn_0 : decode cX8_turn 0 = .ok (.iconst 0, 1) := by decide +kernel
theorem dX8_turn_1 : decode cX8_turn 1 = .ok (.istore_n 1, 1) := by decide +kernel
theorem dX8_turn_2 : decode cX8_turn 2 = .ok (.iload_n 1, 1) := by decide +kernel
theorem dX8_turn_3 : decode cX8_turn 3 = .ok (.aload_n 0, 1) := by decide +kernel
theorem dX8_turn_4 : decode cX8_turn 4 = .ok (.getfield 19, 3) := by decide +kernel
theorem dX8_turn_7 : decode cX8_turn 7 = .ok (.invokevirtual 236, 3) := by decide +kernel
theorem dX8_turn_10 : decode cX8_turn 10 = .ok (.if_icmp .ge 47, 3) := by decide +kernel
theorem dX8_turn_13 : decode cX8_turn 13 = .ok (.aload_n 0, 1) := by decide +kernel
theorem dX8_turn_14 : decode cX8_turn 14 = .ok (.getfield 19, 3) := by decide +kernel
theorem dX8_turn_17 : decode cX8_turn 17 = .ok (.iload_n 1, 1) := by decide +kernel
theorem dX8_turn_18 : decode cX8_turn 18 = .ok (.invokevirtual 237, 3) := by decide +kernel
theorem dX8_turn_21 : decode cX8_turn 21 = .ok (.ifCond .eq 30, 3) := by decide +kernel
theorem dX8_turn_24 : decode cX8_turn 24 = .ok (.aload_n 0, 1) := by decide +kernel
theorem dX8_turn_25 : decode cX8_turn 25 = .ok (.getfield 61, 3) := by decide +kernel
theorem dX8_turn_28 : decode cX8_turn 28 = .ok (.aload_n 0, 1) := by decide +kernel
theorem dX8_turn_29 : decode cX8_turn 29 = .ok (.getfield 19, 3) := by decide +kernel
theorem dX8_turn_32 : decode cX8_turn 32 = .ok (.iload_n 1, 1) := by decide +kernel
theorem dX8_turn_33 : decode cX8_turn 33 = .ok (.invokevirtual 157, 3) := by decide +kernel
theorem dX8_turn_36 : decode cX8_turn 36 = .ok (.invokevirtual 240, 3) := by decide +kernel
theorem dX8_turn_39 : decode cX8_turn 39 = .ok (.aload_n 0, 1) := by decide +kernel
theorem dX8_turn_40 : decode cX8_turn 40 = .ok (.getfield 19, 3) := by decide +kernel
theorem dX8_turn_43 : decode cX8_turn 43 = .ok (.iload_n 1, 1) := by decide +kernel
theorem dX8_turn_44 : decode cX8_turn 44 = .ok (.aload_n 0, 1) := by decide +kernel
theorem dX8_turn_45 : decode cX8_turn 45 = .ok (.getfield 61, 3) := by decide +kernel
theorem dX8_turn_48 : decode cX8_turn 48 = .ok (.invokevirtual 174, 3) := by decide +kernel
theorem dX8_turn_51 : decode cX8_turn 51 = .ok (.iinc 1 1, 3) := by decide +kernel
theorem dX8_turn_54 : decode cX8_turn 54 = .ok (.goto (-52), 3) := by decide +kernel
theorem dX8_turn_57 : decode cX8_turn 57 = .ok (.aload_n 0, 1) := by decide +kernel
theorem dX8_turn_58 : decode cX8_turn 58 = .ok (.getfield 19, 3) := by decide +kernel
theorem dX8_turn_61 : decode cX8_turn 61 = .ok (.invokevirtual 121, 3) := by decide +kernel
theorem dX8_turn_64 : decode cX8_turn 64 = .ok (.ireturn, 1) := by decide +kernel
set_option maxRecDepth 20000 in
theorem ggX8_points_X3_left : GoodIn wsX8_points wsX3_left := goodIn_r _ [6, 7, 16, 17, 18, 19] (by decide +kernel) (by decide +kernel)
set_option maxRecDepth 20000 in
theorem gX8_points_X3_left : GoodIn wsX8_points (wsV RX8 130 RX3 yX3_left wsX3_left) := goodIn_app (goodIn_of _ (by decide +kernel)) ggX8_points_X3_left
theorem dX8_points_0 : decode cX8_points 0 = .ok (.aload_n 0, 1) := by decide +kernel
theorem dX8_points_1 : decode cX8_points 1 = .ok (.getfield 12, 3) := by decide +kernel
theorem dX8_points_4 : decode cX8_points 4 = .ok (.invokevirtual 130, 3) := by decide +kernel
theorem dX8_points_7 : decode cX8_points 7 = .ok (.ireturn, 1) := by decide +kernel
set_option maxRecDepth 20000 in
theorem ggX8_edges_X1_edgeCount : GoodIn wsX8_edges wsX1_edgeCount := goodIn_r _ [6, 7, 8, 9, 10, 5, 11, 12, 13, 14, 15, 16, 17, 18, 19, 20, 21, 22, 23, 24, 25, 26, 27, 28, 29, 30, 31, 32, 33, 42, 43, 44, 45, 46, 47, 48] (by decide +kernel) (by decide +kernel)
set_option maxRecDepth 20000 in
theorem gX8_edges_X1_edgeCount : GoodIn wsX8_edges (wsV RX8 243 RX1 yX1_edgeCount wsX1_edgeCount) := goodIn_app (goodIn_of _ (by decide +kernel)) ggX8_edges_X1_edgeCount
theorem dX8_edges_0 : decode cX8_edges 0 = .ok (.aload_n 0, 1) := by decide +kernel
theorem dX8_edges_1 : decode cX8_edges 1 = .ok (.getfield 19, 3) := by decide +kernel
theorem dX8_edges_4 : decode cX8_edges 4 = .ok (.invokevirtual 243, 3) := by decide +kernel
theorem dX8_edges_7 : decode cX8_edges 7 = .ok (.ireturn, 1) := by decide +kernel
set_option maxRecDepth 20000 in
theorem ggX8_faces_X1_left : GoodIn wsX8_faces wsX1_left := goodIn_r _ [6, 7, 16, 17, 18, 19, 20] (by decide +kernel) (by decide +kernel)
set_option maxRecDepth 20000 in
theorem gX8_faces_X1_left : GoodIn wsX8_faces (wsV RX8 121 RX1 yX1_left wsX1_left) := goodIn_app (goodIn_of _ (by decide +kernel)) ggX8_faces_X1_left
theorem dX8_faces_0 : decode cX8_faces 0 = .ok (.aload_n 0, 1) := by decide +kernel
theorem dX8_faces_1 : decode cX8_faces 1 = .ok (.getfield 19, 3) := by decide +kernel
theorem dX8_faces_4 : decode cX8_faces 4 = .ok (.invokevirtual 121, 3) := by decide +kernel
theorem dX8_faces_7 : decode cX8_faces 7 = .ok (.ireturn, 1) := by decide +kernel
set_option maxRecDepth 20000 in
theorem ggX8_holes_X7_holeCount : GoodIn wsX8_holes wsX7_holeCount := goodIn_r _ [6, 7, 8, 9, 10, 11, 12, 13, 14, 15, 16, 17, 18, 19, 20, 21, 22, 23, 24, 25, 26, 27, 28, 29, 30, 31, 32, 33, 34, 35, 36, 37, 38, 39, 40, 5, 41, 42, 43, 44, 45, 46, 47, 48, 49, 50, 51, 52, 53, 54, 55, 56, 57, 58, 59, 60, 61, 62, 63, 64, 65, 66, 67, 68, 69, 70, 71, 72, 81, 82, 83, 84, 85, 86, 87, 88, 89, 90, 91, 92, 93, 94, 95] (by decide +kernel) (by decide +kernel)
set_option maxRecDepth 20000 in
theorem gX8_holes_X7_holeCount : GoodIn wsX8_holes (wsV RX8 246 RX7 yX7_holeCount wsX7_holeCount) := goodIn_app (goodIn_of _ (by decide +kernel)) ggX8_holes_X7_holeCount
theorem dX8_holes_0 : decode cX8_holes 0 = .ok (.aload_n 0, 1) := by decide +kernel
theorem dX8_holes_1 : decode cX8_holes 1 = .ok (.getfield 31, 3) := by decide +kernel
theorem dX8_holes_4 : decode cX8_holes 4 = .ok (.invokevirtual 246, 3) := by decide +kernel
theorem dX8_holes_7 : decode cX8_holes 7 = .ok (.ireturn, 1) := by decide +kernel
set_option maxRecDepth 20000 in
theorem ggX8_shells_X7_shellCount : GoodIn wsX8_shells wsX7_shellCount := goodIn_r _ [6, 7, 8, 9, 10, 5, 11, 12, 13, 14, 15, 16, 17, 18, 19, 20, 21, 22, 23, 24, 25, 26, 27, 28, 29, 30, 31, 32, 33, 34, 35, 36, 37, 38, 39, 40, 41, 42, 43, 44, 45, 46, 47, 48, 49, 50, 51, 52, 53, 54, 55, 56, 57, 58, 59, 60, 61, 62, 63, 72, 73, 74, 75, 76, 77, 78, 79, 80, 81, 82, 83, 84] (by decide +kernel) (by decide +kernel)
set_option maxRecDepth 20000 in
theorem gX8_shells_X7_shellCount : GoodIn wsX8_shells (wsV RX8 249 RX7 yX7_shellCount wsX7_shellCount) := goodIn_app (goodIn_of _ (by decide +kernel)) ggX8_shells_X7_shellCount
theorem dX8_shells_0 : decode cX8_shells 0 = .ok (.aload_n 0, 1) := by decide +kernel
theorem dX8_shells_1 : decode cX8_shells 1 = .ok (.getfield 31, 3) := by decide +kernel
theorem dX8_shells_4 : decode cX8_shells 4 = .ok (.invokevirtual 249, 3) := by decide +kernel
theorem dX8_shells_7 : decode cX8_shells 7 = .ok (.ireturn, 1) := by decide +kernel
set_option maxRecDepth 20000 in
theorem ggX8_at_X8_needPoint : GoodIn wsX8_at wsX8_needPoint := goodIn_ca (goodIn_r _ [6, 7, 8, 1, 9, 10, 11, 12, 13, 14, 15, 5, 16, 30, 31, 32, 33, 34, 35, 36, 37, 38, 39, 40, 41] (by decide +kernel) (by decide +kernel)) (goodIn_sub (fun _ h => List.mem_cons_of_mem _ (List.mem_append_left _ (List.mem_append_right _ h))) (by decide +kernel))
set_option maxRecDepth 20000 in
theorem gX8_at_X8_needPoint : GoodIn wsX8_at (wsV RX8 84 RX8 yX8_needPoint wsX8_needPoint) := goodIn_app (goodIn_of _ (by decide +kernel)) ggX8_at_X8_needPoint
set_option maxRecDepth 20000 in
theorem ggX8_at_X8_needAxis : GoodIn wsX8_at wsX8_needAxis := goodIn_ca (goodIn_r _ [19, 20, 21, 5, 22, 23, 24] (by decide +kernel) (by decide +kernel)) (goodIn_sub (fun _ h => List.mem_cons_of_mem _ (List.mem_append_right _ h)) (by decide +kernel))
set_option maxRecDepth 20000 in
theorem gX8_at_X8_needAxis : GoodIn wsX8_at (va_wsS RX8 252 yX8_needAxis wsX8_needAxis) := goodIn_app (goodIn_of _ (by decide +kernel)) ggX8_at_X8_needAxis
set_option maxRecDepth 20000 in
theorem ggX8_at_X3_get : GoodIn wsX8_at wsX3_get := goodIn_r _ [28, 29, 15, 5, 16, 38, 39, 40, 41] (by decide +kernel) (by decide +kernel)
set_option maxRecDepth 20000 in
theorem gX8_at_X3_get : GoodIn wsX8_at (wsV RX8 88 RX3 yX3_get wsX3_get) := goodIn_app (goodIn_of _ (by decide +kernel)) ggX8_at_X3_get
theorem dX8_at_0 : decode cX8_at 0 = .ok (.aload_n 0, 1) := by decide +kernel
theorem dX8_at_1 : decode cX8_at 1 = .ok (.iload_n 1, 1) := by decide +kernel
theorem dX8_at_2 : decode cX8_at 2 = .ok (.invokevirtual 84, 3) := by decide +kernel
theorem dX8_at_5 : decode cX8_at 5 = .ok (.iload_n 2, 1) := by decide +kernel
theorem dX8_at_6 : decode cX8_at 6 = .ok (.invokestatic 252, 3) := by decide +kernel
theorem dX8_at_9 : decode cX8_at 9 = .ok (.aload_n 0, 1) := by decide +kernel
theorem dX8_at_10 : decode cX8_at 10 = .ok (.getfield 12, 3) := by decide +kernel
theorem dX8_at_13 : decode cX8_at 13 = .ok (.iload_n 1, 1) := by decide +kernel
theorem dX8_at_14 : decode cX8_at 14 = .ok (.iload_n 2, 1) := by decide +kernel
theorem dX8_at_15 : decode cX8_at 15 = .ok (.invokevirtual 88, 3) := by decide +kernel
theorem dX8_at_18 : decode cX8_at 18 = .ok (.ireturn, 1) := by decide +kernel
set_option maxRecDepth 20000 in
theorem ggX8_size_X8_needFace : GoodIn wsX8_size wsX8_needFace := goodIn_ca (goodIn_r _ [6, 7, 8, 1, 9, 10, 11, 12, 13, 14, 15, 16, 17, 18, 19, 20, 21, 22, 23, 24, 25, 28, 29, 30, 31, 32, 33, 34, 35, 36, 37, 38, 39, 40, 41, 42] (by decide +kernel) (by decide +kernel)) (goodIn_sub (fun _ h => List.mem_cons_of_mem _ (List.mem_append_right _ h)) (by decide +kernel))
set_option maxRecDepth 20000 in
theorem gX8_size_X8_needFace : GoodIn wsX8_size (wsV RX8 115 RX8 yX8_needFace wsX8_needFace) := goodIn_app (goodIn_of _ (by decide +kernel)) ggX8_size_X8_needFace
set_option maxRecDepth 20000 in
theorem ggX8_size_X1_ring : GoodIn wsX8_size wsX1_ring := goodIn_r _ [17, 18, 19, 36, 37, 38, 39, 40] (by decide +kernel) (by decide +kernel)
set_option maxRecDepth 20000 in
theorem gX8_size_X1_ring : GoodIn wsX8_size (wsV RX8 157 RX1 yX1_ring wsX1_ring) := goodIn_app (goodIn_of _ (by decide +kernel)) ggX8_size_X1_ring
set_option maxRecDepth 20000 in
theorem ggX8_size_X5_length : GoodIn wsX8_size wsX5_length := goodIn_r _ [24, 25, 41, 42] (by decide +kernel) (by decide +kernel)
set_option maxRecDepth 20000 in
theorem gX8_size_X5_length : GoodIn wsX8_size (wsV RX8 164 RX5 yX5_length wsX5_length) := goodIn_app (goodIn_of _ (by decide +kernel)) ggX8_size_X5_length
theorem dX8_size_0 : decode cX8_size 0 = .ok (.aload_n 0, 1) := by decide +kernel
theorem dX8_size_1 : decode cX8_size 1 = .ok (.iload_n 1, 1) := by decide +kernel
theorem dX8_size_2 : decode cX8_size 2 = .ok (.invokevirtual 115, 3) := by decide +kernel
theorem dX8_size_5 : decode cX8_size 5 = .ok (.aload_n 0, 1) := by decide +kernel
theorem dX8_size_6 : decode cX8_size 6 = .ok (.getfield 19, 3) := by decide +kernel
theorem dX8_size_9 : decode cX8_size 9 = .ok (.iload_n 1, 1) := by decide +kernel
theorem dX8_size_10 : decode cX8_size 10 = .ok (.invokevirtual 157, 3) := by decide +kernel
theorem dX8_size_13 : decode cX8_size 13 = .ok (.invokevirtual 164, 3) := by decide +kernel
theorem dX8_size_16 : decode cX8_size 16 = .ok (.ireturn, 1) := by decide +kernel
set_option maxRecDepth 20000 in
theorem ggX8_corner_X8_needFace : GoodIn wsX8_corner wsX8_needFace := goodIn_ca (goodIn_r _ [8, 1, 2, 3, 9, 10, 11, 12, 13, 14, 15, 16, 17, 18, 19, 20, 21, 22, 23, 24, 25, 33, 34, 35, 36, 37, 38, 39, 40, 41, 42, 43, 44, 45, 46, 47] (by decide +kernel) (by decide +kernel)) (goodIn_sub (fun _ h => List.mem_cons_of_mem _ (List.mem_append_right _ h)) (by decide +kernel))
set_option maxRecDepth 20000 in
theorem gX8_corner_X8_needFace : GoodIn wsX8_corner (wsV RX8 115 RX8 yX8_needFace wsX8_needFace) := goodIn_app (goodIn_of _ (by decide +kernel)) ggX8_corner_X8_needFace
set_option maxRecDepth 20000 in
theorem ggX8_corner_X1_ring : GoodIn wsX8_corner wsX1_ring := goodIn_r _ [17, 18, 19, 41, 42, 43, 44, 45] (by decide +kernel) (by decide +kernel)
set_option maxRecDepth 20000 in
theorem gX8_corner_X1_ring : GoodIn wsX8_corner (wsV RX8 157 RX1 yX1_ring wsX1_ring) := goodIn_app (goodIn_of _ (by decide +kernel)) ggX8_corner_X1_ring
set_option maxRecDepth 20000 in
theorem ggX8_corner_X5_length : GoodIn wsX8_corner wsX5_length := goodIn_r _ [24, 25, 46, 47] (by decide +kernel) (by decide +kernel)
set_option maxRecDepth 20000 in
theorem gX8_corner_X5_length : GoodIn wsX8_corner (wsV RX8 164 RX5 yX5_length wsX5_length) := goodIn_app (goodIn_of _ (by decide +kernel)) ggX8_corner_X5_length
set_option maxRecDepth 20000 in
theorem ggX8_corner_X5_get : GoodIn wsX8_corner wsX5_get := goodIn_r _ [31, 25, 32, 46, 47] (by decide +kernel) (by decide +kernel)
set_option maxRecDepth 20000 in
theorem gX8_corner_X5_get : GoodIn wsX8_corner (wsV RX8 210 RX5 yX5_get wsX5_get) := goodIn_app (goodIn_of _ (by decide +kernel)) ggX8_corner_X5_get
theorem dX8_corner_0 : decode cX8_corner 0 = .ok (.aload_n 0, 1) := by decide +kernel
theorem dX8_corner_1 : decode cX8_corner 1 = .ok (.iload_n 1, 1) := by decide +kernel
theorem dX8_corner_2 : decode cX8_corner 2 = .ok (.invokevirtual 115, 3) := by decide +kernel
theorem dX8_corner_5 : decode cX8_corner 5 = .ok (.aload_n 0, 1) := by decide +kernel
theorem dX8_corner_6 : decode cX8_corner 6 = .ok (.getfield 19, 3) := by decide +kernel
theorem dX8_corner_9 : decode cX8_corner 9 = .ok (.iload_n 1, 1) := by decide +kernel
theorem dX8_corner_10 : decode cX8_corner 10 = .ok (.invokevirtual 157, 3) := by decide +kernel
theorem dX8_corner_13 : decode cX8_corner 13 = .ok (.astore_n 3, 1) := by decide +kernel
theorem dX8_corner_14 : decode cX8_corner 14 = .ok (.iload_n 2, 1) := by decide +kernel
theorem dX8_corner_15 : decode cX8_corner 15 = .ok (.ifCond .lt 11, 3) := by decide +kernel
theorem dX8_corner_18 : decode cX8_corner 18 = .ok (.iload_n 2, 1) := by decide +kernel
theorem dX8_corner_19 : decode cX8_corner 19 = .ok (.aload_n 3, 1) := by decide +kernel
theorem dX8_corner_20 : decode cX8_corner 20 = .ok (.invokevirtual 164, 3) := by decide +kernel
theorem dX8_corner_23 : decode cX8_corner 23 = .ok (.if_icmp .lt 14, 3) := by decide +kernel
theorem dX8_corner_26 : decode cX8_corner 26 = .ok (.new 255, 3) := by decide +kernel
theorem dX8_corner_29 : decode cX8_corner 29 = .ok (.dup, 1) := by decide +kernel
theorem dX8_corner_30 : decode cX8_corner 30 = .ok (.ldc_w 257, 3) := by decide +kernel
theorem dX8_corner_33 : decode cX8_corner 33 = .ok (.invokespecial 259, 3) := by decide +kernel
theorem dX8_corner_36 : decode cX8_corner 36 = .ok (.athrow, 1) := by decide +kernel
theorem dX8_corner_37 : decode cX8_corner 37 = .ok (.aload_n 3, 1) := by decide +kernel
theorem dX8_corner_38 : decode cX8_corner 38 = .ok (.iload_n 2, 1) := by decide +kernel
theorem dX8_corner_39 : decode cX8_corner 39 = .ok (.invokevirtual 210, 3) := by decide +kernel
theorem dX8_corner_42 : decode cX8_corner 42 = .ok (.ireturn, 1) := by decide +kernel
set_option maxRecDepth 20000 in
theorem ggX8_faceOf_X8_needPoints : GoodIn wsX8_faceOf wsX8_needPoints := goodIn_ca (goodIn_r _ [6, 7, 8, 9, 5, 10, 11, 12, 13, 14, 15, 16, 17, 18, 19, 20, 21, 28, 29, 30, 31, 32, 33, 34, 35, 36, 37, 38, 39] (by decide +kernel) (by decide +kernel)) (goodIn_sub (fun _ h => List.mem_cons_of_mem _ (List.mem_append_right _ h)) (by decide +kernel))
set_option maxRecDepth 20000 in
theorem gX8_faceOf_X8_needPoints : GoodIn wsX8_faceOf (wsV RX8 96 RX8 yX8_needPoints wsX8_needPoints) := goodIn_app (goodIn_of _ (by decide +kernel)) ggX8_faceOf_X8_needPoints
set_option maxRecDepth 20000 in
theorem ggX8_faceOf_X1_owner : GoodIn wsX8_faceOf wsX1_owner := goodIn_r _ [26, 27, 40, 41, 42, 43, 44] (by decide +kernel) (by decide +kernel)
set_option maxRecDepth 20000 in
theorem gX8_faceOf_X1_owner : GoodIn wsX8_faceOf (wsV RX8 145 RX1 yX1_owner wsX1_owner) := goodIn_app (goodIn_of _ (by decide +kernel)) ggX8_faceOf_X1_owner
theorem dX8_faceOf_0 : decode cX8_faceOf 0 = .ok (.aload_n 0, 1) := by decide +kernel
theorem dX8_faceOf_1 : decode cX8_faceOf 1 = .ok (.iload_n 1, 1) := by decide +kernel
theorem dX8_faceOf_2 : decode cX8_faceOf 2 = .ok (.iload_n 2, 1) := by decide +kernel
theorem dX8_faceOf_3 : decode cX8_faceOf 3 = .ok (.invokevirtual 96, 3) := by decide +kernel
theorem dX8_faceOf_6 : decode cX8_faceOf 6 = .ok (.aload_n 0, 1) := by decide +kernel
theorem dX8_faceOf_7 : decode cX8_faceOf 7 = .ok (.getfield 19, 3) := by decide +kernel
theorem dX8_faceOf_10 : decode cX8_faceOf 10 = .ok (.iload_n 1, 1) := by decide +kernel
theorem dX8_faceOf_11 : decode cX8_faceOf 11 = .ok (.iload_n 2, 1) := by decide +kernel
theorem dX8_faceOf_12 : decode cX8_faceOf 12 = .ok (.invokevirtual 145, 3) := by decide +kernel
theorem dX8_faceOf_15 : decode cX8_faceOf 15 = .ok (.ireturn, 1) := by decide +kernel
set_option maxRecDepth 20000 in
theorem ggX8_hole_X8_needPoints : GoodIn wsX8_hole wsX8_needPoints := goodIn_ca (goodIn_r _ [6, 7, 8, 9, 5, 10, 11, 12, 13, 14, 15, 16, 17, 18, 19, 20, 21, 79, 80, 81, 82, 83, 84, 85, 86, 87, 88, 89, 90] (by decide +kernel) (by decide +kernel)) (goodIn_sub (fun _ h => List.mem_cons_of_mem _ (List.mem_append_right _ h)) (by decide +kernel))
set_option maxRecDepth 20000 in
theorem gX8_hole_X8_needPoints : GoodIn wsX8_hole (wsV RX8 96 RX8 yX8_needPoints wsX8_needPoints) := goodIn_app (goodIn_of _ (by decide +kernel)) ggX8_hole_X8_needPoints
set_option maxRecDepth 20000 in
theorem ggX8_hole_X7_holeLength : GoodIn wsX8_hole wsX7_holeLength := goodIn_r _ [26, 27, 28, 29, 30, 31, 32, 33, 34, 35, 36, 25, 37, 38, 39, 40, 41, 42, 43, 44, 45, 46, 47, 48, 49, 50, 51, 52, 53, 20, 5, 21, 54, 55, 56, 57, 58, 59, 60, 61, 62, 63, 64, 65, 66, 67, 68, 69, 70, 71, 72, 73, 74, 75, 76, 77, 78, 91, 92, 93, 94, 95, 96, 97, 98, 99, 100, 101, 102, 103, 104, 105] (by decide +kernel) (by decide +kernel)
set_option maxRecDepth 20000 in
theorem gX8_hole_X7_holeLength : GoodIn wsX8_hole (wsV RX8 224 RX7 yX7_holeLength wsX7_holeLength) := goodIn_app (goodIn_of _ (by decide +kernel)) ggX8_hole_X7_holeLength
theorem dX8_hole_0 : decode cX8_hole 0 = .ok (.aload_n 0, 1) := by decide +kernel
theorem dX8_hole_1 : decode cX8_hole 1 = .ok (.iload_n 1, 1) := by decide +kernel
theorem dX8_hole_2 : decode cX8_hole 2 = .ok (.iload_n 2, 1) := by decide +kernel
theorem dX8_hole_3 : decode cX8_hole 3 = .ok (.invokevirtual 96, 3) := by decide +kernel
theorem dX8_hole_6 : decode cX8_hole 6 = .ok (.aload_n 0, 1) := by decide +kernel
theorem dX8_hole_7 : decode cX8_hole 7 = .ok (.getfield 31, 3) := by decide +kernel
theorem dX8_hole_10 : decode cX8_hole 10 = .ok (.iload_n 1, 1) := by decide +kernel
theorem dX8_hole_11 : decode cX8_hole 11 = .ok (.iload_n 2, 1) := by decide +kernel
theorem dX8_hole_12 : decode cX8_hole 12 = .ok (.invokevirtual 224, 3) := by decide +kernel
theorem dX8_hole_15 : decode cX8_hole 15 = .ok (.ireturn, 1) := by decide +kernel
set_option maxRecDepth 20000 in
theorem ggX8_meanEdge_X1_edgeCount : GoodIn wsX8_meanEdge wsX1_edgeCount := goodIn_r _ [6, 7, 8, 9, 10, 5, 11, 12, 13, 14, 15, 16, 17, 18, 19, 20, 21, 22, 23, 24, 25, 26, 27, 28, 29, 30, 31, 32, 33, 68, 69, 70, 71, 72, 73, 74] (by decide +kernel) (by decide +kernel)
set_option maxRecDepth 20000 in
theorem gX8_meanEdge_X1_edgeCount : GoodIn wsX8_meanEdge (wsV RX8 243 RX1 yX1_edgeCount wsX1_edgeCount) := goodIn_app (goodIn_of _ (by decide +kernel)) ggX8_meanEdge_X1_edgeCount
set_option maxRecDepth 20000 in
theorem ggX8_meanEdge_X8_sumOfSquares : GoodIn wsX8_meanEdge wsX8_sumOfSquares := goodIn_r _ [38, 1, 39, 40, 41, 42, 5, 43, 7, 44, 9, 10, 11, 12, 13, 45, 15, 16, 17, 18, 19, 46, 21, 22, 23, 24, 47, 26, 27, 28, 29, 30, 31, 32, 33, 48, 49, 50, 51, 52, 53, 54, 55, 56, 57, 58, 37, 59, 60, 61, 62, 63, 64, 65, 66, 67, 68, 69, 70, 71, 72, 73, 74, 75, 76, 77, 78] (by decide +kernel) (by decide +kernel)
set_option maxRecDepth 20000 in
theorem gX8_meanEdge_X8_sumOfSquares : GoodIn wsX8_meanEdge (wsV RX8 273 RX8 yX8_sumOfSquares wsX8_sumOfSquares) := goodIn_app (goodIn_of _ (by decide +kernel)) ggX8_meanEdge_X8_sumOfSquares
theorem dX8_meanEdge_0 : decode cX8_meanEdge 0 = .ok (.aload_n 0, 1) := by decide +kernel
theorem dX8_meanEdge_1 : decode cX8_meanEdge 1 = .ok (.getfield 19, 3) := by decide +kernel
theorem dX8_meanEdge_4 : decode cX8_meanEdge 4 = .ok (.invokevirtual 243, 3) := by decide +kernel
theorem dX8_meanEdge_7 : decode cX8_meanEdge 7 = .ok (.istore_n 1, 1) := by decide +kernel
theorem dX8_meanEdge_8 : decode cX8_meanEdge 8 = .ok (.iload_n 1, 1) := by decide +kernel
theorem dX8_meanEdge_9 : decode cX8_meanEdge 9 = .ok (.ifCond .ne 5, 3) := by decide +kernel
theorem dX8_meanEdge_12 : decode cX8_meanEdge 12 = .ok (.dconst 0, 1) := by decide +kernel
theorem dX8_meanEdge_13 : decode cX8_meanEdge 13 = .ok (.dreturn, 1) := by decide +kernel
theorem dX8_meanEdge_14 : decode cX8_meanEdge 14 = .ok (.aload_n 0, 1) := by decide +kernel
theorem dX8_meanEdge_15 : decode cX8_meanEdge 15 = .ok (.invokevirtual 273, 3) := by decide +kernel
theorem dX8_meanEdge_18 : decode cX8_meanEdge 18 = .ok (.l2d, 1) := by decide +kernel
theorem dX8_meanEdge_19 : decode cX8_meanEdge 19 = .ok (.iload_n 1, 1) := by decide +kernel
theorem dX8_meanEdge_20 : decode cX8_meanEdge 20 = .ok (.i2d, 1) := by decide +kernel
theorem dX8_meanEdge_21 : decode cX8_meanEdge 21 = .ok (.ddiv, 1) := by decide +kernel
theorem dX8_meanEdge_22 : decode cX8_meanEdge 22 = .ok (.dreturn, 1) := by decide +kernel
set_option maxRecDepth 20000 in
theorem ggX8_steps_X8_needPoints : GoodIn wsX8_steps wsX8_needPoints := goodIn_ca (goodIn_r _ [6, 7, 8, 9, 5, 10, 11, 12, 13, 14, 15, 16, 17, 18, 19, 20, 21, 53, 54, 55, 56, 57, 58, 59, 60, 61, 62, 63, 64] (by decide +kernel) (by decide +kernel)) (goodIn_sub (fun _ h => List.mem_cons_of_mem _ (List.mem_append_right _ h)) (by decide +kernel))
set_option maxRecDepth 20000 in
theorem gX8_steps_X8_needPoints : GoodIn wsX8_steps (wsV RX8 96 RX8 yX8_needPoints wsX8_needPoints) := goodIn_app (goodIn_of _ (by decide +kernel)) ggX8_steps_X8_needPoints
set_option maxRecDepth 20000 in
theorem ggX8_steps_X7_wayLength : GoodIn wsX8_steps wsX7_wayLength := goodIn_r _ [26, 27, 28, 29, 30, 31, 32, 33, 25, 34, 20, 5, 21, 35, 36, 37, 38, 39, 40, 41, 42, 43, 44, 45, 46, 47, 48, 49, 50, 51, 52, 65, 66, 67, 68, 69, 70, 71, 72, 73, 74, 75] (by decide +kernel) (by decide +kernel)
set_option maxRecDepth 20000 in
theorem gX8_steps_X7_wayLength : GoodIn wsX8_steps (wsV RX8 276 RX7 yX7_wayLength wsX7_wayLength) := goodIn_app (goodIn_of _ (by decide +kernel)) ggX8_steps_X7_wayLength
theorem dX8_steps_0 : decode cX8_steps 0 = .ok (.aload_n 0, 1) := by decide +kernel
theorem dX8_steps_1 : decode cX8_steps 1 = .ok (.iload_n 1, 1) := by decide +kernel
theorem dX8_steps_2 : decode cX8_steps 2 = .ok (.iload_n 2, 1) := by decide +kernel
theorem dX8_steps_3 : decode cX8_steps 3 = .ok (.invokevirtual 96, 3) := by decide +kernel
theorem dX8_steps_6 : decode cX8_steps 6 = .ok (.aload_n 0, 1) := by decide +kernel
theorem dX8_steps_7 : decode cX8_steps 7 = .ok (.getfield 31, 3) := by decide +kernel
theorem dX8_steps_10 : decode cX8_steps 10 = .ok (.iload_n 1, 1) := by decide +kernel
theorem dX8_steps_11 : decode cX8_steps 11 = .ok (.iload_n 2, 1) := by decide +kernel
theorem dX8_steps_12 : decode cX8_steps 12 = .ok (.invokevirtual 276, 3) := by decide +kernel
theorem dX8_steps_15 : decode cX8_steps 15 = .ok (.ireturn, 1) := by decide +kernel
set_option maxRecDepth 20000 in
theorem ggX8_may_X8_needArgument : GoodIn wsX8_may wsX8_needArgument := goodIn_ca (goodIn_r _ [4, 5, 6] (by decide +kernel) (by decide +kernel)) (goodIn_sub (fun _ h => List.mem_cons_of_mem _ (List.mem_append_right _ h)) (by decide +kernel))
set_option maxRecDepth 20000 in
theorem gX8_may_X8_needArgument : GoodIn wsX8_may (va_wsS RX8 131 yX8_needArgument wsX8_needArgument) := goodIn_app (goodIn_of _ (by decide +kernel)) ggX8_may_X8_needArgument
set_option maxRecDepth 20000 in
theorem ggX8_may_X8_countPairs : GoodIn wsX8_may wsX8_countPairs := goodIn_r _ [10, 11, 12, 13, 14, 15, 16, 17, 18, 19, 20, 21, 22, 23, 24, 25, 26, 27, 28, 29, 30, 31, 32, 33, 34, 35, 36, 37, 3, 38, 39, 40, 41, 42, 43, 44, 45, 46, 47, 48, 49, 50, 51, 52, 53, 54, 55, 56, 57, 58, 59, 60, 61, 62, 63, 64, 65, 66, 67, 68, 69, 70, 71, 72, 73, 74, 75, 76, 77, 78, 79, 80, 81, 82, 83, 84, 85, 86, 87, 88, 89, 90, 91, 92, 93, 94, 95, 96, 97, 98, 99, 100, 101, 102, 103, 104, 105, 106, 107, 108, 109, 110, 111, 112, 113, 114, 115, 116, 117, 118, 119, 120, 121, 122, 123, 124, 125, 126, 127, 128, 129, 130, 131, 132, 133, 134, 135, 136, 137, 138, 139, 140, 141, 142, 143, 144, 145, 146, 147] (by decide +kernel) (by decide +kernel)
set_option maxRecDepth 20000 in
theorem gX8_may_X8_countPairs : GoodIn wsX8_may (wsV RX8 279 RX8 yX8_countPairs wsX8_countPairs) := goodIn_app (goodIn_of _ (by decide +kernel)) ggX8_may_X8_countPairs
theorem dX8_may_0 : decode cX8_may 0 = .ok (.iload_n 1, 1) := by decide +kernel
theorem dX8_may_1 : decode cX8_may 1 = .ok (.ifCond .lt 12, 3) := by decide +kernel
theorem dX8_may_4 : decode cX8_may 4 = .ok (.iload_n 1, 1) := by decide +kernel
theorem dX8_may_5 : decode cX8_may 5 = .ok (.iconst 2, 1) := by decide +kernel
theorem dX8_may_6 : decode cX8_may 6 = .ok (.if_icmp .gt 7, 3) := by decide +kernel
theorem dX8_may_9 : decode cX8_may 9 = .ok (.iconst 1, 1) := by decide +kernel
theorem dX8_may_10 : decode cX8_may 10 = .ok (.goto 4, 3) := by decide +kernel
theorem dX8_may_13 : decode cX8_may 13 = .ok (.iconst 0, 1) := by decide +kernel
theorem dX8_may_14 : decode cX8_may 14 = .ok (.invokestatic 131, 3) := by decide +kernel
theorem dX8_may_17 : decode cX8_may 17 = .ok (.aload_n 0, 1) := by decide +kernel
theorem dX8_may_18 : decode cX8_may 18 = .ok (.iload_n 1, 1) := by decide +kernel
theorem dX8_may_19 : decode cX8_may 19 = .ok (.invokevirtual 279, 3) := by decide +kernel
theorem dX8_may_22 : decode cX8_may 22 = .ok (.ireturn, 1) := by decide +kernel
set_option maxRecDepth 20000 in
theorem ggX8_holesWithout_X8_needFace : GoodIn wsX8_holesWithout wsX8_needFace := goodIn_ca (goodIn_r _ [7, 8, 9, 1, 10, 11, 12, 13, 14, 15, 16, 17, 18, 19, 20, 21, 22, 23, 24, 25, 26, 97, 98, 99, 100, 101, 102, 103, 104, 105, 106, 107, 108, 109, 110, 111] (by decide +kernel) (by decide +kernel)) (goodIn_sub (fun _ h => List.mem_cons_of_mem _ (List.mem_append_right _ h)) (by decide +kernel))
set_option maxRecDepth 20000 in
theorem gX8_holesWithout_X8_needFace : GoodIn wsX8_holesWithout (wsV RX8 115 RX8 yX8_needFace wsX8_needFace) := goodIn_app (goodIn_of _ (by decide +kernel)) ggX8_holesWithout_X8_needFace
set_option maxRecDepth 20000 in
theorem ggX8_holesWithout_X1_release : GoodIn wsX8_holesWithout wsX1_release := goodIn_r _ [30, 15, 16, 17, 13, 18, 19, 20, 21, 22, 23, 24, 25, 26, 31, 32, 33, 34, 35, 36, 37, 38, 39, 40, 41, 42, 43, 44, 105, 106, 107, 108, 109, 110, 111] (by decide +kernel) (by decide +kernel)
set_option maxRecDepth 20000 in
theorem gX8_holesWithout_X1_release : GoodIn wsX8_holesWithout (wsV RX8 290 RX1 yX1_release wsX1_release) := goodIn_app (goodIn_of _ (by decide +kernel)) ggX8_holesWithout_X1_release
set_option maxRecDepth 20000 in
theorem ggX8_holesWithout_X7_holeCount : GoodIn wsX8_holesWithout wsX7_holeCount := goodIn_r _ [49, 50, 51, 52, 53, 54, 55, 56, 57, 58, 59, 60, 13, 61, 62, 63, 16, 17, 18, 19, 20, 64, 22, 23, 24, 25, 26, 65, 32, 33, 34, 35, 66, 67, 68, 48, 69, 70, 71, 72, 73, 36, 37, 38, 39, 40, 74, 75, 76, 77, 78, 79, 6, 80, 81, 82, 83, 84, 85, 86, 87, 88, 15, 89, 90, 91, 92, 31, 112, 113, 114, 115, 116, 117, 118, 119, 105, 106, 107, 108, 109, 110, 111] (by decide +kernel) (by decide +kernel)
set_option maxRecDepth 20000 in
theorem gX8_holesWithout_X7_holeCount : GoodIn wsX8_holesWithout (wsV RX8 246 RX7 yX7_holeCount wsX7_holeCount) := goodIn_app (goodIn_of _ (by decide +kernel)) ggX8_holesWithout_X7_holeCount
set_option maxRecDepth 20000 in
theorem ggX8_holesWithout_X1_claim : GoodIn wsX8_holesWithout wsX1_claim := goodIn_r _ [96, 15, 16, 17, 13, 18, 19, 20, 21, 22, 23, 24, 25, 26, 31, 32, 33, 34, 35, 41, 42, 43, 44, 40, 105, 106, 107, 108, 109, 110, 111] (by decide +kernel) (by decide +kernel)
set_option maxRecDepth 20000 in
theorem gX8_holesWithout_X1_claim : GoodIn wsX8_holesWithout (wsV RX8 293 RX1 yX1_claim wsX1_claim) := goodIn_app (goodIn_of _ (by decide +kernel)) ggX8_holesWithout_X1_claim
theorem dX8_holesWithout_0 : decode cX8_holesWithout 0 = .ok (.aload_n 0, 1) := by decide +kernel
theorem dX8_holesWithout_1 : decode cX8_holesWithout 1 = .ok (.iload_n 1, 1) := by decide +kernel
theorem dX8_holesWithout_2 : decode cX8_holesWithout 2 = .ok (.invokevirtual 115, 3) := by decide +kernel
theorem dX8_holesWithout_5 : decode cX8_holesWithout 5 = .ok (.aload_n 0, 1) := by decide +kernel
theorem dX8_holesWithout_6 : decode cX8_holesWithout 6 = .ok (.getfield 19, 3) := by decide +kernel
theorem dX8_holesWithout_9 : decode cX8_holesWithout 9 = .ok (.iload_n 1, 1) := by decide +kernel
theorem dX8_holesWithout_10 : decode cX8_holesWithout 10 = .ok (.invokevirtual 290, 3) := by decide +kernel
theorem dX8_holesWithout_13 : decode cX8_holesWithout 13 = .ok (.aload_n 0, 1) := by decide +kernel
theorem dX8_holesWithout_14 : decode cX8_holesWithout 14 = .ok (.getfield 31, 3) := by decide +kernel
theorem dX8_holesWithout_17 : decode cX8_holesWithout 17 = .ok (.invokevirtual 246, 3) := by decide +kernel
theorem dX8_holesWithout_20 : decode cX8_holesWithout 20 = .ok (.istore_n 2, 1) := by decide +kernel
theorem dX8_holesWithout_21 : decode cX8_holesWithout 21 = .ok (.aload_n 0, 1) := by decide +kernel
theorem dX8_holesWithout_22 : decode cX8_holesWithout 22 = .ok (.getfield 19, 3) := by decide +kernel
theorem dX8_holesWithout_25 : decode cX8_holesWithout 25 = .ok (.iload_n 1, 1) := by decide +kernel
theorem dX8_holesWithout_26 : decode cX8_holesWithout 26 = .ok (.invokevirtual 293, 3) := by decide +kernel
theorem dX8_holesWithout_29 : decode cX8_holesWithout 29 = .ok (.iload_n 2, 1) := by decide +kernel
theorem dX8_holesWithout_30 : decode cX8_holesWithout 30 = .ok (.ireturn, 1) := by decide +kernel
set_option maxRecDepth 20000 in
theorem ggX8_digest_X3_left : GoodIn wsX8_digest wsX3_left := goodIn_r _ [9, 10, 280, 281, 282, 283] (by decide +kernel) (by decide +kernel)
set_option maxRecDepth 20000 in
theorem gX8_digest_X3_left : GoodIn wsX8_digest (wsV RX8 130 RX3 yX3_left wsX3_left) := goodIn_app (goodIn_of _ (by decide +kernel)) ggX8_digest_X3_left
set_option maxRecDepth 20000 in
theorem ggX8_digest_X8_mix : GoodIn wsX8_digest wsX8_mix := goodIn_r _ [14, 15] (by decide +kernel) (by decide +kernel)
set_option maxRecDepth 20000 in
theorem gX8_digest_X8_mix : GoodIn wsX8_digest (va_wsS RX8 298 yX8_mix wsX8_mix) := goodIn_app (goodIn_of _ (by decide +kernel)) ggX8_digest_X8_mix
set_option maxRecDepth 20000 in
theorem ggX8_digest_X1_edgeCount : GoodIn wsX8_digest wsX1_edgeCount := goodIn_r _ [20, 21, 22, 23, 24, 19, 25, 26, 27, 28, 29, 30, 31, 32, 33, 34, 35, 36, 37, 38, 39, 40, 41, 42, 43, 44, 45, 46, 47, 284, 285, 286, 287, 288, 289, 290] (by decide +kernel) (by decide +kernel)
set_option maxRecDepth 20000 in
theorem gX8_digest_X1_edgeCount : GoodIn wsX8_digest (wsV RX8 243 RX1 yX1_edgeCount wsX1_edgeCount) := goodIn_app (goodIn_of _ (by decide +kernel)) ggX8_digest_X1_edgeCount
set_option maxRecDepth 20000 in
theorem ggX8_digest_X1_left : GoodIn wsX8_digest wsX1_left := goodIn_r _ [51, 52, 284, 285, 286, 287, 288] (by decide +kernel) (by decide +kernel)
set_option maxRecDepth 20000 in
theorem gX8_digest_X1_left : GoodIn wsX8_digest (wsV RX8 121 RX1 yX1_left wsX1_left) := goodIn_app (goodIn_of _ (by decide +kernel)) ggX8_digest_X1_left
set_option maxRecDepth 20000 in
theorem ggX8_digest_X7_holeCount : GoodIn wsX8_digest wsX7_holeCount := goodIn_r _ [57, 58, 59, 60, 61, 62, 63, 64, 65, 66, 67, 68, 19, 69, 21, 70, 23, 24, 25, 26, 27, 71, 29, 30, 31, 32, 33, 72, 35, 36, 37, 38, 73, 74, 75, 56, 76, 77, 78, 79, 80, 43, 44, 45, 46, 47, 81, 82, 83, 84, 85, 86, 13, 87, 88, 89, 90, 91, 92, 93, 94, 95, 22, 96, 97, 98, 99, 34, 291, 292, 293, 294, 295, 296, 297, 298, 284, 285, 286, 287, 288, 289, 290] (by decide +kernel) (by decide +kernel)
set_option maxRecDepth 20000 in
theorem gX8_digest_X7_holeCount : GoodIn wsX8_digest (wsV RX8 246 RX7 yX7_holeCount wsX7_holeCount) := goodIn_app (goodIn_of _ (by decide +kernel)) ggX8_digest_X7_holeCount
set_option maxRecDepth 20000 in
theorem ggX8_digest_X7_shellCount : GoodIn wsX8_digest wsX7_shellCount := goodIn_r _ [103, 59, 104, 105, 106, 56, 107, 108, 66, 67, 68, 19, 69, 21, 109, 110, 111, 112, 22, 23, 24, 25, 26, 27, 28, 29, 30, 31, 32, 33, 113, 114, 115, 116, 117, 13, 118, 119, 120, 121, 122, 123, 124, 125, 126, 127, 128, 70, 71, 72, 35, 36, 37, 38, 129, 44, 45, 46, 47, 291, 292, 293, 294, 295, 296, 284, 285, 286, 287, 288, 289, 290] (by decide +kernel) (by decide +kernel)
set_option maxRecDepth 20000 in
theorem gX8_digest_X7_shellCount : GoodIn wsX8_digest (wsV RX8 249 RX7 yX7_shellCount wsX7_shellCount) := goodIn_app (goodIn_of _ (by decide +kernel)) ggX8_digest_X7_shellCount
set_option maxRecDepth 20000 in
theorem ggX8_digest_X8_wholeBulk : GoodIn wsX8_digest wsX8_wholeBulk := goodIn_r _ [133, 3, 2, 134, 67, 68, 19, 69, 21, 135, 23, 24, 25, 26, 27, 136, 137, 138, 8, 139, 140, 29, 30, 31, 32, 33, 141, 35, 36, 37, 38, 142, 143, 144, 145, 146, 147, 148, 149, 150, 86, 13, 87, 272, 273, 274, 275, 276, 277, 278, 279, 284, 285, 286, 287, 288, 289, 290, 280, 281, 282, 283] (by decide +kernel) (by decide +kernel)
set_option maxRecDepth 20000 in
theorem gX8_digest_X8_wholeBulk : GoodIn wsX8_digest (wsV RX8 269 RX8 yX8_wholeBulk wsX8_wholeBulk) := goodIn_app (goodIn_of _ (by decide +kernel)) ggX8_digest_X8_wholeBulk
set_option maxRecDepth 20000 in
theorem ggX8_digest_X3_ever : GoodIn wsX8_digest wsX3_ever := goodIn_r _ [154, 155, 280, 281, 282, 283] (by decide +kernel) (by decide +kernel)
set_option maxRecDepth 20000 in
theorem gX8_digest_X3_ever : GoodIn wsX8_digest (wsV RX8 203 RX3 yX3_ever wsX3_ever) := goodIn_app (goodIn_of _ (by decide +kernel)) ggX8_digest_X3_ever
set_option maxRecDepth 20000 in
theorem ggX8_digest_X3_has : GoodIn wsX8_digest wsX3_has := goodIn_r _ [159, 160, 86, 13, 87, 280, 281, 282, 283] (by decide +kernel) (by decide +kernel)
set_option maxRecDepth 20000 in
theorem gX8_digest_X3_has : GoodIn wsX8_digest (wsV RX8 302 RX3 yX3_has wsX3_has) := goodIn_app (goodIn_of _ (by decide +kernel)) ggX8_digest_X3_has
set_option maxRecDepth 20000 in
theorem ggX8_digest_X8_mixPoint : GoodIn wsX8_digest wsX8_mixPoint := goodIn_r _ [164, 2, 11, 12, 13, 14, 15, 165, 147, 148, 8, 149, 150, 86, 87, 166, 167, 168, 169, 3, 4, 170, 171, 172, 19, 173, 174, 175, 176, 177, 43, 44, 45, 46, 47, 178, 179, 180, 56, 181, 59, 129, 182, 183, 184, 185, 77, 78, 79, 80, 186, 187, 188, 189, 104, 105, 106, 107, 108, 113, 114, 115, 116, 117, 118, 190, 191, 192, 193, 194, 195, 196, 197, 22, 23, 24, 25, 26, 27, 96, 97, 98, 31, 99, 33, 38, 34, 35, 36, 37, 198, 93, 94, 95, 272, 273, 274, 275, 276, 277, 278, 279, 280, 281, 282, 283, 284, 285, 286, 287, 288, 291, 292, 293, 294, 295, 296, 289, 290] (by decide +kernel) (by decide +kernel)
set_option maxRecDepth 20000 in
theorem gX8_digest_X8_mixPoint : GoodIn wsX8_digest (wsV RX8 303 RX8 yX8_mixPoint wsX8_mixPoint) := goodIn_app (goodIn_of _ (by decide +kernel)) ggX8_digest_X8_mixPoint
set_option maxRecDepth 20000 in
theorem ggX8_digest_X1_ever : GoodIn wsX8_digest wsX1_ever := goodIn_r _ [69, 21, 284, 285, 286, 287, 288] (by decide +kernel) (by decide +kernel)
set_option maxRecDepth 20000 in
theorem gX8_digest_X1_ever : GoodIn wsX8_digest (wsV RX8 236 RX1 yX1_ever wsX1_ever) := goodIn_app (goodIn_of _ (by decide +kernel)) ggX8_digest_X1_ever
set_option maxRecDepth 20000 in
theorem ggX8_digest_X1_has : GoodIn wsX8_digest wsX1_has := goodIn_r _ [112, 22, 23, 24, 19, 25, 26, 27, 28, 29, 30, 31, 32, 33, 284, 285, 286, 287, 288, 289, 290] (by decide +kernel) (by decide +kernel)
set_option maxRecDepth 20000 in
theorem gX8_digest_X1_has : GoodIn wsX8_digest (wsV RX8 237 RX1 yX1_has wsX1_has) := goodIn_app (goodIn_of _ (by decide +kernel)) ggX8_digest_X1_has
set_option maxRecDepth 20000 in
theorem ggX8_digest_X8_mixFace : GoodIn wsX8_digest wsX8_mixFace := goodIn_r _ [203, 3, 2, 135, 23, 24, 19, 25, 26, 27, 11, 12, 13, 14, 15, 204, 29, 30, 31, 32, 33, 205, 35, 36, 37, 38, 206, 207, 208, 8, 209, 140, 141, 146, 147, 148, 149, 150, 86, 87, 272, 273, 274, 275, 276, 277, 278, 279, 284, 285, 286, 287, 288, 289, 290, 280, 281, 282, 283] (by decide +kernel) (by decide +kernel)
set_option maxRecDepth 20000 in
theorem gX8_digest_X8_mixFace : GoodIn wsX8_digest (wsV RX8 307 RX8 yX8_mixFace wsX8_mixFace) := goodIn_app (goodIn_of _ (by decide +kernel)) ggX8_digest_X8_mixFace
set_option maxRecDepth 20000 in
theorem ggX8_digest_X8_countPairs : GoodIn wsX8_digest wsX8_countPairs := goodIn_r _ [213, 3, 134, 67, 68, 19, 69, 21, 135, 23, 24, 25, 26, 27, 204, 29, 30, 31, 32, 33, 205, 35, 36, 37, 38, 214, 215, 216, 13, 217, 218, 219, 220, 221, 222, 223, 224, 225, 226, 61, 62, 63, 64, 65, 227, 44, 45, 46, 47, 228, 229, 230, 231, 232, 233, 234, 97, 98, 99, 235, 236, 237, 238, 239, 240, 241, 242, 243, 244, 245, 246, 247, 248, 249, 82, 83, 84, 85, 86, 87, 250, 49, 50, 51, 52, 251, 252, 253, 254, 255, 256, 257, 258, 259, 260, 195, 196, 197, 22, 96, 34, 261, 175, 176, 177, 43, 262, 263, 264, 265, 266, 267, 268, 269, 270, 271, 78, 79, 80, 272, 273, 274, 275, 276, 277, 278, 279, 284, 285, 286, 287, 288, 289, 290, 299, 300, 301, 297, 298] (by decide +kernel) (by decide +kernel)
set_option maxRecDepth 20000 in
theorem gX8_digest_X8_countPairs : GoodIn wsX8_digest (wsV RX8 279 RX8 yX8_countPairs wsX8_countPairs) := goodIn_app (goodIn_of _ (by decide +kernel)) ggX8_digest_X8_countPairs
theorem dX8_digest_0 : decode cX8_digest 0 = .ok (.ldc2_w 296, 3) := by decide +kernel
theorem dX8_digest_3 : decode cX8_digest 3 = .ok (.lstore_n 1, 1) := by decide +kernel
theorem dX8_digest_4 : decode cX8_digest 4 = .ok (.lload_n 1, 1) := by decide +kernel
theorem dX8_digest_5 : decode cX8_digest 5 = .ok (.aload_n 0, 1) := by decide +kernel
theorem dX8_digest_6 : decode cX8_digest 6 = .ok (.getfield 12, 3) := by decide +kernel
theorem dX8_digest_9 : decode cX8_digest 9 = .ok (.invokevirtual 130, 3) := by decide +kernel
theorem dX8_digest_12 : decode cX8_digest 12 = .ok (.i2l, 1) := by decide +kernel
theorem dX8_digest_13 : decode cX8_digest 13 = .ok (.invokestatic 298, 3) := by decide +kernel
theorem dX8_digest_16 : decode cX8_digest 16 = .ok (.lstore_n 1, 1) := by decide +kernel
theorem dX8_digest_17 : decode cX8_digest 17 = .ok (.lload_n 1, 1) := by decide +kernel
theorem dX8_digest_18 : decode cX8_digest 18 = .ok (.aload_n 0, 1) := by decide +kernel
theorem dX8_digest_19 : decode cX8_digest 19 = .ok (.getfield 19, 3) := by decide +kernel
theorem dX8_digest_22 : decode cX8_digest 22 = .ok (.invokevirtual 243, 3) := by decide +kernel
theorem dX8_digest_25 : decode cX8_digest 25 = .ok (.i2l, 1) := by decide +kernel
theorem dX8_digest_26 : decode cX8_digest 26 = .ok (.invokestatic 298, 3) := by decide +kernel
theorem dX8_digest_29 : decode cX8_digest 29 = .ok (.lstore_n 1, 1) := by decide +kernel
theorem dX8_digest_30 : decode cX8_digest 30 = .ok (.lload_n 1, 1) := by decide +kernel
theorem dX8_digest_31 : decode cX8_digest 31 = .ok (.aload_n 0, 1) := by decide +kernel
theorem dX8_digest_32 : decode cX8_digest 32 = .ok (.getfield 19, 3) := by decide +kernel
theorem dX8_digest_35 : decode cX8_digest 35 = .ok (.invokevirtual 121, 3) := by decide +kernel
theorem dX8_digest_38 : decode cX8_digest 38 = .ok (.i2l, 1) := by decide +kernel
theorem dX8_digest_39 : decode cX8_digest 39 = .ok (.invokestatic 298, 3) := by decide +kernel
theorem dX8_digest_42 : decode cX8_digest 42 = .ok (.lstore_n 1, 1) := by decide +kernel
theorem dX8_digest_43 : decode cX8_digest 43 = .ok (.lload_n 1, 1) := by decide +kernel
theorem dX8_digest_44 : decode cX8_digest 44 = .ok (.aload_n 0, 1) := by decide +kernel
theorem dX8_digest_45 : decode cX8_digest 45 = .ok (.getfield 31, 3) := by decide +kernel
theorem dX8_digest_48 : decode cX8_digest 48 = .ok (.invokevirtual 246, 3) := by decide +kernel
theorem dX8_digest_51 : decode cX8_digest 51 = .ok (.i2l, 1) := by decide +kernel
theorem dX8_digest_52 : decode cX8_digest 52 = .ok (.invokestatic 298, 3) := by decide +kernel
theorem dX8_digest_55 : decode cX8_digest 55 = .ok (.lstore_n 1, 1) := by decide +kernel
theorem dX8_digest_56 : decode cX8_digest 56 = .ok (.lload_n 1, 1) := by decide +kernel
theorem dX8_digest_57 : decode cX8_digest 57 = .ok (.aload_n 0, 1) := by decide +kernel
theorem dX8_digest_58 : decode cX8_digest 58 = .ok (.getfield 31, 3) := by decide +kernel
theorem dX8_digest_61 : decode cX8_digest 61 = .ok (.invokevirtual 249, 3) := by decide +kernel
theorem dX8_digest_64 : decode cX8_digest 64 = .ok (.i2l, 1) := by decide +kernel
theorem dX8_digest_65 : decode cX8_digest 65 = .ok (.invokestatic 298, 3) := by decide +kernel
theorem dX8_digest_68 : decode cX8_digest 68 = .ok (.lstore_n 1, 1) := by decide +kernel
theorem dX8_digest_69 : decode cX8_digest 69 = .ok (.lload_n 1, 1) := by decide +kernel
theorem dX8_digest_70 : decode cX8_digest 70 = .ok (.aload_n 0, 1) := by decide +kernel
theorem dX8_digest_71 : decode cX8_digest 71 = .ok (.invokevirtual 269, 3) := by decide +kernel
theorem dX8_digest_74 : decode cX8_digest 74 = .ok (.invokestatic 298, 3) := by decide +kernel
theorem dX8_digest_77 : decode cX8_digest 77 = .ok (.lstore_n 1, 1) := by decide +kernel
theorem dX8_digest_78 : decode cX8_digest 78 = .ok (.iconst 0, 1) := by decide +kernel
theorem dX8_digest_79 : decode cX8_digest 79 = .ok (.istore_n 3, 1) := by decide +kernel
theorem dX8_digest_80 : decode cX8_digest 80 = .ok (.iload_n 3, 1) := by decide +kernel
theorem dX8_digest_81 : decode cX8_digest 81 = .ok (.aload_n 0, 1) := by decide +kernel
theorem dX8_digest_82 : decode cX8_digest 82 = .ok (.getfield 12, 3) := by decide +kernel
theorem dX8_digest_85 : decode cX8_digest 85 = .ok (.invokevirtual 203, 3) := by decide +kernel
theorem dX8_digest_88 : decode cX8_digest 88 = .ok (.if_icmp .ge 27, 3) := by decide +kernel
theorem dX8_digest_91 : decode cX8_digest 91 = .ok (.aload_n 0, 1) := by decide +kernel
theorem dX8_digest_92 : decode cX8_digest 92 = .ok (.getfield 12, 3) := by decide +kernel
theorem dX8_digest_95 : decode cX8_digest 95 = .ok (.iload_n 3, 1) := by decide +kernel
theorem dX8_digest_96 : decode cX8_digest 96 = .ok (.invokevirtual 302, 3) := by decide +kernel
theorem dX8_digest_99 : decode cX8_digest 99 = .ok (.ifCond .eq 10, 3) := by decide +kernel
theorem dX8_digest_102 : decode cX8_digest 102 = .ok (.aload_n 0, 1) := by decide +kernel
theorem dX8_digest_103 : decode cX8_digest 103 = .ok (.lload_n 1, 1) := by decide +kernel
theorem dX8_digest_104 : decode cX8_digest 104 = .ok (.iload_n 3, 1) := by decide +kernel
theorem dX8_digest_105 : decode cX8_digest 105 = .ok (.invokevirtual 303, 3) := by decide +kernel
theorem dX8_digest_108 : decode cX8_digest 108 = .ok (.lstore_n 1, 1) := by decide +kernel
theorem dX8_digest_109 : decode cX8_digest 109 = .ok (.iinc 3 1, 3) := by decide +kernel
theorem dX8_digest_112 : decode cX8_digest 112 = .ok (.goto (-32), 3) := by decide +kernel
theorem dX8_digest_115 : decode cX8_digest 115 = .ok (.iconst 0, 1) := by decide +kernel
theorem dX8_digest_116 : decode cX8_digest 116 = .ok (.istore_n 3, 1) := by decide +kernel
theorem dX8_digest_117 : decode cX8_digest 117 = .ok (.iload_n 3, 1) := by decide +kernel
theorem dX8_digest_118 : decode cX8_digest 118 = .ok (.aload_n 0, 1) := by decide +kernel
theorem dX8_digest_119 : decode cX8_digest 119 = .ok (.getfield 19, 3) := by decide +kernel
theorem dX8_digest_122 : decode cX8_digest 122 = .ok (.invokevirtual 236, 3) := by decide +kernel
theorem dX8_digest_125 : decode cX8_digest 125 = .ok (.if_icmp .ge 27, 3) := by decide +kernel
theorem dX8_digest_128 : decode cX8_digest 128 = .ok (.aload_n 0, 1) := by decide +kernel
theorem dX8_digest_129 : decode cX8_digest 129 = .ok (.getfield 19, 3) := by decide +kernel
theorem dX8_digest_132 : decode cX8_digest 132 = .ok (.iload_n 3, 1) := by decide +kernel
theorem dX8_digest_133 : decode cX8_digest 133 = .ok (.invokevirtual 237, 3) := by decide +kernel
theorem dX8_digest_136 : decode cX8_digest 136 = .ok (.ifCond .eq 10, 3) := by decide +kernel
theorem dX8_digest_139 : decode cX8_digest 139 = .ok (.aload_n 0, 1) := by decide +kernel
theorem dX8_digest_140 : decode cX8_digest 140 = .ok (.lload_n 1, 1) := by decide +kernel
theorem dX8_digest_141 : decode cX8_digest 141 = .ok (.iload_n 3, 1) := by decide +kernel
theorem dX8_digest_142 : decode cX8_digest 142 = .ok (.invokevirtual 307, 3) := by decide +kernel
theorem dX8_digest_145 : decode cX8_digest 145 = .ok (.lstore_n 1, 1) := by decide +kernel
theorem dX8_digest_146 : decode cX8_digest 146 = .ok (.iinc 3 1, 3) := by decide +kernel
theorem dX8_digest_149 : decode cX8_digest 149 = .ok (.goto (-32), 3) := by decide +kernel
theorem dX8_digest_152 : decode cX8_digest 152 = .ok (.lload_n 1, 1) := by decide +kernel
theorem dX8_digest_153 : decode cX8_digest 153 = .ok (.aload_n 0, 1) := by decide +kernel
theorem dX8_digest_154 : decode cX8_digest 154 = .ok (.iconst 1, 1) := by decide +kernel
theorem dX8_digest_155 : decode cX8_digest 155 = .ok (.invokevirtual 279, 3) := by decide +kernel
theorem dX8_digest_158 : decode cX8_digest 158 = .ok (.i2l, 1) := by decide +kernel
theorem dX8_digest_159 : decode cX8_digest 159 = .ok (.invokestatic 298, 3) := by decide +kernel
theorem dX8_digest_162 : decode cX8_digest 162 = .ok (.lstore_n 1, 1) := by decide +kernel
theorem dX8_digest_163 : decode cX8_digest 163 = .ok (.lload_n 1, 1) := by decide +kernel
theorem dX8_digest_164 : decode cX8_digest 164 = .ok (.aload_n 0, 1) := by decide +kernel
theorem dX8_digest_165 : decode cX8_digest 165 = .ok (.iconst 2, 1) := by decide +kernel
theorem dX8_digest_166 : decode cX8_digest 166 = .ok (.invokevirtual 279, 3) := by decide +kernel
theorem dX8_digest_169 : decode cX8_digest 169 = .ok (.i2l, 1) := by decide +kernel
theorem dX8_digest_170 : decode cX8_digest 170 = .ok (.invokestatic 298, 3) := by decide +kernel
theorem dX8_digest_173 : decode cX8_digest 173 = .ok (.lreturn, 1) := by decide +kernel
theorem dX8_isInReach_0 : decode cX8_isInReach 0 = .ok (.lload_n 0, 1) := by decide +kernel
theorem dX8_isInReach_1 : decode cX8_isInReach 1 = .ok (.ldc2_w 310, 3) := by decide +kernel
theorem dX8_isInReach_4 : decode cX8_isInReach 4 = .ok (.lcmp, 1) := by decide +kernel
theorem dX8_isInReach_5 : decode cX8_isInReach 5 = .ok (.ifCond .lt 15, 3) := by decide +kernel
theorem dX8_isInReach_8 : decode cX8_isInReach 8 = .ok (.lload_n 0, 1) := by decide +kernel
theorem dX8_isInReach_9 : decode cX8_isInReach 9 = .ok (.ldc2_w 312, 3) := by decide +kernel
theorem dX8_isInReach_12 : decode cX8_isInReach 12 = .ok (.lcmp, 1) := by decide +kernel
theorem dX8_isInReach_13 : decode cX8_isInReach 13 = .ok (.ifCond .gt 7, 3) := by decide +kernel
theorem dX8_isInReach_16 : decode cX8_isInReach 16 = .ok (.iconst 1, 1) := by decide +kernel
theorem dX8_isInReach_17 : decode cX8_isInReach 17 = .ok (.goto 4, 3) := by decide +kernel
theorem dX8_isInReach_20 : decode cX8_isInReach 20 = .ok (.iconst 0, 1) := by decide +kernel
theorem dX8_isInReach_21 : decode cX8_isInReach 21 = .ok (.ireturn, 1) := by decide +kernel
theorem dX8_needArgument_0 : decode cX8_needArgument 0 = .ok (.iload_n 0, 1) := by decide +kernel
theorem dX8_needArgument_1 : decode cX8_needArgument 1 = .ok (.ifCond .ne 14, 3) := by decide +kernel
theorem dX8_needArgument_4 : decode cX8_needArgument 4 = .ok (.new 314, 3) := by decide +kernel
theorem dX8_needArgument_7 : decode cX8_needArgument 7 = .ok (.dup, 1) := by decide +kernel
theorem dX8_needArgument_8 : decode cX8_needArgument 8 = .ok (.ldc_w 316, 3) := by decide +kernel
theorem dX8_needArgument_11 : decode cX8_needArgument 11 = .ok (.invokespecial 318, 3) := by decide +kernel
theorem dX8_needArgument_14 : decode cX8_needArgument 14 = .ok (.athrow, 1) := by decide +kernel
theorem dX8_needArgument_15 : decode cX8_needArgument 15 = .ok (.return_, 1) := by decide +kernel
theorem dX8_needState_0 : decode cX8_needState 0 = .ok (.iload_n 0, 1) := by decide +kernel
theorem dX8_needState_1 : decode cX8_needState 1 = .ok (.ifCond .ne 14, 3) := by decide +kernel
theorem dX8_needState_4 : decode cX8_needState 4 = .ok (.new 319, 3) := by decide +kernel
theorem dX8_needState_7 : decode cX8_needState 7 = .ok (.dup, 1) := by decide +kernel
theorem dX8_needState_8 : decode cX8_needState 8 = .ok (.ldc_w 321, 3) := by decide +kernel
theorem dX8_needState_11 : decode cX8_needState 11 = .ok (.invokespecial 323, 3) := by decide +kernel
theorem dX8_needState_14 : decode cX8_needState 14 = .ok (.athrow, 1) := by decide +kernel
theorem dX8_needState_15 : decode cX8_needState 15 = .ok (.return_, 1) := by decide +kernel
set_option maxRecDepth 20000 in
theorem ggX8_needPlace_X8_isInReach : GoodIn wsX8_needPlace wsX8_isInReach := goodIn_r _ [4, 5, 6] (by decide +kernel) (by decide +kernel)
set_option maxRecDepth 20000 in
theorem gX8_needPlace_X8_isInReach : GoodIn wsX8_needPlace (va_wsS RX8 324 yX8_isInReach wsX8_isInReach) := goodIn_app (goodIn_of _ (by decide +kernel)) ggX8_needPlace_X8_isInReach
set_option maxRecDepth 20000 in
theorem ggX8_needPlace_X8_needArgument : GoodIn wsX8_needPlace wsX8_needArgument := goodIn_ca (goodIn_r _ [9, 10, 11] (by decide +kernel) (by decide +kernel)) (goodIn_sub (fun _ h => List.mem_cons_of_mem _ (List.mem_append_right _ h)) (by decide +kernel))
set_option maxRecDepth 20000 in
theorem gX8_needPlace_X8_needArgument : GoodIn wsX8_needPlace (va_wsS RX8 131 yX8_needArgument wsX8_needArgument) := goodIn_app (goodIn_of _ (by decide +kernel)) ggX8_needPlace_X8_needArgument
theorem dX8_needPlace_0 : decode cX8_needPlace 0 = .ok (.iload_n 0, 1) := by decide +kernel
theorem dX8_needPlace_1 : decode cX8_needPlace 1 = .ok (.i2l, 1) := by decide +kernel
theorem dX8_needPlace_2 : decode cX8_needPlace 2 = .ok (.invokestatic 324, 3) := by decide +kernel
theorem dX8_needPlace_5 : decode cX8_needPlace 5 = .ok (.ifCond .eq 23, 3) := by decide +kernel
theorem dX8_needPlace_8 : decode cX8_needPlace 8 = .ok (.iload_n 1, 1) := by decide +kernel
theorem dX8_needPlace_9 : decode cX8_needPlace 9 = .ok (.i2l, 1) := by decide +kernel
theorem dX8_needPlace_10 : decode cX8_needPlace 10 = .ok (.invokestatic 324, 3) := by decide +kernel
theorem dX8_needPlace_13 : decode cX8_needPlace 13 = .ok (.ifCond .eq 15, 3) := by decide +kernel
theorem dX8_needPlace_16 : decode cX8_needPlace 16 = .ok (.iload_n 2, 1) := by decide +kernel
theorem dX8_needPlace_17 : decode cX8_needPlace 17 = .ok (.i2l, 1) := by decide +kernel
theorem dX8_needPlace_18 : decode cX8_needPlace 18 = .ok (.invokestatic 324, 3) := by decide +kernel
theorem dX8_needPlace_21 : decode cX8_needPlace 21 = .ok (.ifCond .eq 7, 3) := by decide +kernel
theorem dX8_needPlace_24 : decode cX8_needPlace 24 = .ok (.iconst 1, 1) := by decide +kernel
theorem dX8_needPlace_25 : decode cX8_needPlace 25 = .ok (.goto 4, 3) := by decide +kernel
theorem dX8_needPlace_28 : decode cX8_needPlace 28 = .ok (.iconst 0, 1) := by decide +kernel
theorem dX8_needPlace_29 : decode cX8_needPlace 29 = .ok (.invokestatic 131, 3) := by decide +kernel
theorem dX8_needPlace_32 : decode cX8_needPlace 32 = .ok (.return_, 1) := by decide +kernel
set_option maxRecDepth 20000 in
theorem ggX8_needAxis_X8_needArgument : GoodIn wsX8_needAxis wsX8_needArgument := goodIn_ca (goodIn_r _ [4, 5, 6] (by decide +kernel) (by decide +kernel)) (goodIn_sub (fun _ h => List.mem_cons_of_mem _ (List.mem_append_right _ h)) (by decide +kernel))
set_option maxRecDepth 20000 in
theorem gX8_needAxis_X8_needArgument : GoodIn wsX8_needAxis (va_wsS RX8 131 yX8_needArgument wsX8_needArgument) := goodIn_app (goodIn_of _ (by decide +kernel)) ggX8_needAxis_X8_needArgument
theorem dX8_needAxis_0 : decode cX8_needAxis 0 = .ok (.iload_n 0, 1) := by decide +kernel
theorem dX8_needAxis_1 : decode cX8_needAxis 1 = .ok (.ifCond .lt 12, 3) := by decide +kernel
theorem dX8_needAxis_4 : decode cX8_needAxis 4 = .ok (.iload_n 0, 1) := by decide +kernel
theorem dX8_needAxis_5 : decode cX8_needAxis 5 = .ok (.iconst 3, 1) := by decide +kernel
theorem dX8_needAxis_6 : decode cX8_needAxis 6 = .ok (.if_icmp .ge 7, 3) := by decide +kernel
theorem dX8_needAxis_9 : decode cX8_needAxis 9 = .ok (.iconst 1, 1) := by decide +kernel
theorem dX8_needAxis_10 : decode cX8_needAxis 10 = .ok (.goto 4, 3) := by decide +kernel
theorem dX8_needAxis_13 : decode cX8_needAxis 13 = .ok (.iconst 0, 1) := by decide +kernel
theorem dX8_needAxis_14 : decode cX8_needAxis 14 = .ok (.invokestatic 131, 3) := by decide +kernel
theorem dX8_needAxis_17 : decode cX8_needAxis 17 = .ok (.return_, 1) := by decide +kernel
set_option maxRecDepth 20000 in
theorem ggX8_needPoint_X3_has : GoodIn wsX8_needPoint wsX3_has := goodIn_r _ [8, 9, 10, 11, 12, 21, 22, 23, 24] (by decide +kernel) (by decide +kernel)
set_option maxRecDepth 20000 in
theorem gX8_needPoint_X3_has : GoodIn wsX8_needPoint (wsV RX8 302 RX3 yX3_has wsX3_has) := goodIn_app (goodIn_of _ (by decide +kernel)) ggX8_needPoint_X3_has
theorem dX8_needPoint_0 : decode cX8_needPoint 0 = .ok (.aload_n 0, 1) := by decide +kernel
theorem dX8_needPoint_1 : decode cX8_needPoint 1 = .ok (.getfield 12, 3) := by decide +kernel
theorem dX8_needPoint_4 : decode cX8_needPoint 4 = .ok (.iload_n 1, 1) := by decide +kernel
theorem dX8_needPoint_5 : decode cX8_needPoint 5 = .ok (.invokevirtual 302, 3) := by decide +kernel
theorem dX8_needPoint_8 : decode cX8_needPoint 8 = .ok (.ifCond .ne 14, 3) := by decide +kernel
theorem dX8_needPoint_11 : decode cX8_needPoint 11 = .ok (.new 255, 3) := by decide +kernel
theorem dX8_needPoint_14 : decode cX8_needPoint 14 = .ok (.dup, 1) := by decide +kernel
theorem dX8_needPoint_15 : decode cX8_needPoint 15 = .ok (.ldc_w 328, 3) := by decide +kernel
theorem dX8_needPoint_18 : decode cX8_needPoint 18 = .ok (.invokespecial 259, 3) := by decide +kernel
theorem dX8_needPoint_21 : decode cX8_needPoint 21 = .ok (.athrow, 1) := by decide +kernel
theorem dX8_needPoint_22 : decode cX8_needPoint 22 = .ok (.return_, 1) := by decide +kernel
set_option maxRecDepth 20000 in
theorem ggX8_needPoints_X8_needPoint : GoodIn wsX8_needPoints wsX8_needPoint := goodIn_ca (goodIn_r _ [5, 6, 7, 8, 9, 10, 11, 12, 13, 14, 15, 4, 16, 17, 18, 19, 20, 21, 22, 23, 24, 25, 26, 27, 28] (by decide +kernel) (by decide +kernel)) (goodIn_sub (fun _ h => List.mem_cons_of_mem _ (List.mem_append_right _ h)) (by decide +kernel))
set_option maxRecDepth 20000 in
theorem gX8_needPoints_X8_needPoint : GoodIn wsX8_needPoints (wsV RX8 84 RX8 yX8_needPoint wsX8_needPoint) := goodIn_app (goodIn_of _ (by decide +kernel)) ggX8_needPoints_X8_needPoint
theorem dX8_needPoints_0 : decode cX8_needPoints 0 = .ok (.aload_n 0, 1) := by decide +kernel
theorem dX8_needPoints_1 : decode cX8_needPoints 1 = .ok (.iload_n 1, 1) := by decide +kernel
theorem dX8_needPoints_2 : decode cX8_needPoints 2 = .ok (.invokevirtual 84, 3) := by decide +kernel
theorem dX8_needPoints_5 : decode cX8_needPoints 5 = .ok (.aload_n 0, 1) := by decide +kernel
theorem dX8_needPoints_6 : decode cX8_needPoints 6 = .ok (.iload_n 2, 1) := by decide +kernel
theorem dX8_needPoints_7 : decode cX8_needPoints 7 = .ok (.invokevirtual 84, 3) := by decide +kernel
theorem dX8_needPoints_10 : decode cX8_needPoints 10 = .ok (.return_, 1) := by decide +kernel
set_option maxRecDepth 20000 in
theorem ggX8_needFace_X1_has : GoodIn wsX8_needFace wsX1_has := goodIn_r _ [8, 9, 10, 11, 7, 12, 13, 14, 15, 16, 17, 18, 19, 20, 29, 30, 31, 32, 33, 34, 35] (by decide +kernel) (by decide +kernel)
set_option maxRecDepth 20000 in
theorem gX8_needFace_X1_has : GoodIn wsX8_needFace (wsV RX8 237 RX1 yX1_has wsX1_has) := goodIn_app (goodIn_of _ (by decide +kernel)) ggX8_needFace_X1_has
theorem dX8_needFace_0 : decode cX8_needFace 0 = .ok (.aload_n 0, 1) := by decide +kernel
theorem dX8_needFace_1 : decode cX8_needFace 1 = .ok (.getfield 19, 3) := by decide +kernel
theorem dX8_needFace_4 : decode cX8_needFace 4 = .ok (.iload_n 1, 1) := by decide +kernel
theorem dX8_needFace_5 : decode cX8_needFace 5 = .ok (.invokevirtual 237, 3) := by decide +kernel
theorem dX8_needFace_8 : decode cX8_needFace 8 = .ok (.ifCond .ne 14, 3) := by decide +kernel
theorem dX8_needFace_11 : decode cX8_needFace 11 = .ok (.new 255, 3) := by decide +kernel
theorem dX8_needFace_14 : decode cX8_needFace 14 = .ok (.dup, 1) := by decide +kernel
theorem dX8_needFace_15 : decode cX8_needFace 15 = .ok (.ldc_w 330, 3) := by decide +kernel
theorem dX8_needFace_18 : decode cX8_needFace 18 = .ok (.invokespecial 259, 3) := by decide +kernel
theorem dX8_needFace_21 : decode cX8_needFace 21 = .ok (.athrow, 1) := by decide +kernel
theorem dX8_needFace_22 : decode cX8_needFace 22 = .ok (.return_, 1) := by decide +kernel
set_option maxRecDepth 20000 in
theorem ggX8_addSquare_X3_add : GoodIn wsX8_addSquare wsX3_add := goodIn_r _ [6, 7, 8, 9, 10, 11, 12, 13, 14, 15, 5, 16, 17, 26, 27, 28, 29] (by decide +kernel) (by decide +kernel)
set_option maxRecDepth 20000 in
theorem gX8_addSquare_X3_add : GoodIn wsX8_addSquare (wsV RX8 80 RX3 yX3_add wsX3_add) := goodIn_app (goodIn_of _ (by decide +kernel)) ggX8_addSquare_X3_add
theorem dX8_addSquare_0 : decode cX8_addSquare 0 = .ok (.aload_n 0, 1) := by decide +kernel
theorem dX8_addSquare_1 : decode cX8_addSquare 1 = .ok (.getfield 12, 3) := by decide +kernel
theorem dX8_addSquare_4 : decode cX8_addSquare 4 = .ok (.iload_n 1, 1) := by decide +kernel
theorem dX8_addSquare_5 : decode cX8_addSquare 5 = .ok (.iload_n 2, 1) := by decide +kernel
theorem dX8_addSquare_6 : decode cX8_addSquare 6 = .ok (.iload_n 3, 1) := by decide +kernel
theorem dX8_addSquare_7 : decode cX8_addSquare 7 = .ok (.invokevirtual 80, 3) := by decide +kernel
theorem dX8_addSquare_10 : decode cX8_addSquare 10 = .ok (.istore 5, 2) := by decide +kernel
theorem dX8_addSquare_12 : decode cX8_addSquare 12 = .ok (.aload_n 0, 1) := by decide +kernel
theorem dX8_addSquare_13 : decode cX8_addSquare 13 = .ok (.getfield 12, 3) := by decide +kernel
theorem dX8_addSquare_16 : decode cX8_addSquare 16 = .ok (.iload_n 1, 1) := by decide +kernel
theorem dX8_addSquare_17 : decode cX8_addSquare 17 = .ok (.iload 4, 2) := by decide +kernel
theorem dX8_addSquare_19 : decode cX8_addSquare 19 = .ok (.iadd, 1) := by decide +kernel
theorem dX8_addSquare_20 : decode cX8_addSquare 20 = .ok (.iload_n 2, 1) := by decide +kernel
theorem dX8_addSquare_21 : decode cX8_addSquare 21 = .ok (.iload_n 3, 1) := by decide +kernel
theorem dX8_addSquare_22 : decode cX8_addSquare 22 = .ok (.invokevirtual 80, 3) := by decide +kernel
theorem dX8_addSquare_25 : decode cX8_addSquare 25 = .ok (.pop, 1) := by decide +kernel
theorem dX8_addSquare_26 : decode cX8_addSquare 26 = .ok (.aload_n 0, 1) := by decide +kernel
theorem dX8_addSquare_27 : decode cX8_addSquare 27 = .ok (.getfield 12, 3) := by decide +kernel
theorem dX8_addSquare_30 : decode cX8_addSquare 30 = .ok (.iload_n 1, 1) := by decide +kernel
theorem dX8_addSquare_31 : decode cX8_addSquare 31 = .ok (.iload 4, 2) := by decide +kernel
theorem dX8_addSquare_33 : decode cX8_addSquare 33 = .ok (.iadd, 1) := by decide +kernel
theorem dX8_addSquare_34 : decode cX8_addSquare 34 = .ok (.iload_n 2, 1) := by decide +kernel
theorem dX8_addSquare_35 : decode cX8_addSquare 35 = .ok (.iload 4, 2) := by decide +kernel
theorem dX8_addSquare_37 : decode cX8_addSquare 37 = .ok (.iadd, 1) := by decide +kernel
theorem dX8_addSquare_38 : decode cX8_addSquare 38 = .ok (.iload_n 3, 1) := by decide +kernel
theorem dX8_addSquare_39 : decode cX8_addSquare 39 = .ok (.invokevirtual 80, 3) := by decide +kernel
theorem dX8_addSquare_42 : decode cX8_addSquare 42 = .ok (.pop, 1) := by decide +kernel
theorem dX8_addSquare_43 : decode cX8_addSquare 43 = .ok (.aload_n 0, 1) := by decide +kernel
theorem dX8_addSquare_44 : decode cX8_addSquare 44 = .ok (.getfield 12, 3) := by decide +kernel
theorem dX8_addSquare_47 : decode cX8_addSquare 47 = .ok (.iload_n 1, 1) := by decide +kernel
theorem dX8_addSquare_48 : decode cX8_addSquare 48 = .ok (.iload_n 2, 1) := by decide +kernel
theorem dX8_addSquare_49 : decode cX8_addSquare 49 = .ok (.iload 4, 2) := by decide +kernel
theorem dX8_addSquare_51 : decode cX8_addSquare 51 = .ok (.iadd, 1) := by decide +kernel
theorem dX8_addSquare_52 : decode cX8_addSquare 52 = .ok (.iload_n 3, 1) := by decide +kernel
theorem dX8_addSquare_53 : decode cX8_addSquare 53 = .ok (.invokevirtual 80, 3) := by decide +kernel
theorem dX8_addSquare_56 : decode cX8_addSquare 56 = .ok (.pop, 1) := by decide +kernel
theorem dX8_addSquare_57 : decode cX8_addSquare 57 = .ok (.iload 5, 2) := by decide +kernel
theorem dX8_addSquare_59 : decode cX8_addSquare 59 = .ok (.ireturn, 1) := by decide +kernel
set_option maxRecDepth 20000 in
theorem ggX8_addBoxFaces_X5_set : GoodIn wsX8_addBoxFaces wsX5_set := goodIn_r _ [8, 9, 10, 11, 7, 12, 13, 14, 15, 16, 17, 18, 76, 77] (by decide +kernel) (by decide +kernel)
set_option maxRecDepth 20000 in
theorem gX8_addBoxFaces_X5_set : GoodIn wsX8_addBoxFaces (wsV RX8 100 RX5 yX5_set wsX5_set) := goodIn_app (goodIn_of _ (by decide +kernel)) ggX8_addBoxFaces_X5_set
set_option maxRecDepth 20000 in
theorem ggX8_addBoxFaces_X1_add : GoodIn wsX8_addBoxFaces wsX1_add := goodIn_r _ [23, 24, 25, 26, 27, 28, 29, 30, 31, 22, 32, 33, 34, 35, 36, 37, 38, 39, 40, 41, 42, 43, 44, 45, 7, 46, 13, 47, 48, 49, 50, 18, 51, 52, 53, 54, 55, 56, 57, 58, 59, 60, 61, 62, 63, 64, 65, 66, 67, 78, 79, 80, 81, 82, 76, 77] (by decide +kernel) (by decide +kernel)
set_option maxRecDepth 20000 in
theorem gX8_addBoxFaces_X1_add : GoodIn wsX8_addBoxFaces (wsV RX8 112 RX1 yX1_add wsX1_add) := goodIn_app (goodIn_of _ (by decide +kernel)) ggX8_addBoxFaces_X1_add
theorem dX8_addBoxFaces_0 : decode cX8_addBoxFaces 0 = .ok (.iconst 0, 1) := by decide +kernel
theorem dX8_addBoxFaces_1 : decode cX8_addBoxFaces 1 = .ok (.istore_n 2, 1) := by decide +kernel
theorem dX8_addBoxFaces_2 : decode cX8_addBoxFaces 2 = .ok (.iload_n 2, 1) := by decide +kernel
theorem dX8_addBoxFaces_3 : decode cX8_addBoxFaces 3 = .ok (.iconst 4, 1) := by decide +kernel
theorem dX8_addBoxFaces_4 : decode cX8_addBoxFaces 4 = .ok (.iadd, 1) := by decide +kernel
theorem dX8_addBoxFaces_5 : decode cX8_addBoxFaces 5 = .ok (.getstatic 332, 3) := by decide +kernel
theorem dX8_addBoxFaces_8 : decode cX8_addBoxFaces 8 = .ok (.arraylength, 1) := by decide +kernel
theorem dX8_addBoxFaces_9 : decode cX8_addBoxFaces 9 = .ok (.if_icmp .gt 62, 3) := by decide +kernel
theorem dX8_addBoxFaces_12 : decode cX8_addBoxFaces 12 = .ok (.aload_n 0, 1) := by decide +kernel
theorem dX8_addBoxFaces_13 : decode cX8_addBoxFaces 13 = .ok (.getfield 61, 3) := by decide +kernel
theorem dX8_addBoxFaces_16 : decode cX8_addBoxFaces 16 = .ok (.iload_n 1, 1) := by decide +kernel
theorem dX8_addBoxFaces_17 : decode cX8_addBoxFaces 17 = .ok (.getstatic 332, 3) := by decide +kernel
theorem dX8_addBoxFaces_20 : decode cX8_addBoxFaces 20 = .ok (.iload_n 2, 1) := by decide +kernel
theorem dX8_addBoxFaces_21 : decode cX8_addBoxFaces 21 = .ok (.iaload, 1) := by decide +kernel
theorem dX8_addBoxFaces_22 : decode cX8_addBoxFaces 22 = .ok (.iadd, 1) := by decide +kernel
theorem dX8_addBoxFaces_23 : decode cX8_addBoxFaces 23 = .ok (.iload_n 1, 1) := by decide +kernel
theorem dX8_addBoxFaces_24 : decode cX8_addBoxFaces 24 = .ok (.getstatic 332, 3) := by decide +kernel
theorem dX8_addBoxFaces_27 : decode cX8_addBoxFaces 27 = .ok (.iload_n 2, 1) := by decide +kernel
theorem dX8_addBoxFaces_28 : decode cX8_addBoxFaces 28 = .ok (.iconst 1, 1) := by decide +kernel
theorem dX8_addBoxFaces_29 : decode cX8_addBoxFaces 29 = .ok (.iadd, 1) := by decide +kernel
theorem dX8_addBoxFaces_30 : decode cX8_addBoxFaces 30 = .ok (.iaload, 1) := by decide +kernel
theorem dX8_addBoxFaces_31 : decode cX8_addBoxFaces 31 = .ok (.iadd, 1) := by decide +kernel
theorem dX8_addBoxFaces_32 : decode cX8_addBoxFaces 32 = .ok (.iload_n 1, 1) := by decide +kernel
theorem dX8_addBoxFaces_33 : decode cX8_addBoxFaces 33 = .ok (.getstatic 332, 3) := by decide +kernel
theorem dX8_addBoxFaces_36 : decode cX8_addBoxFaces 36 = .ok (.iload_n 2, 1) := by decide +kernel
theorem dX8_addBoxFaces_37 : decode cX8_addBoxFaces 37 = .ok (.iconst 2, 1) := by decide +kernel
theorem dX8_addBoxFaces_38 : decode cX8_addBoxFaces 38 = .ok (.iadd, 1) := by decide +kernel
theorem dX8_addBoxFaces_39 : decode cX8_addBoxFaces 39 = .ok (.iaload, 1) := by decide +kernel
theorem dX8_addBoxFaces_40 : decode cX8_addBoxFaces 40 = .ok (.iadd, 1) := by decide +kernel
theorem dX8_addBoxFaces_41 : decode cX8_addBoxFaces 41 = .ok (.iload_n 1, 1) := by decide +kernel
theorem dX8_addBoxFaces_42 : decode cX8_addBoxFaces 42 = .ok (.getstatic 332, 3) := by decide +kernel
theorem dX8_addBoxFaces_45 : decode cX8_addBoxFaces 45 = .ok (.iload_n 2, 1) := by decide +kernel
theorem dX8_addBoxFaces_46 : decode cX8_addBoxFaces 46 = .ok (.iconst 3, 1) := by decide +kernel
theorem dX8_addBoxFaces_47 : decode cX8_addBoxFaces 47 = .ok (.iadd, 1) := by decide +kernel
theorem dX8_addBoxFaces_48 : decode cX8_addBoxFaces 48 = .ok (.iaload, 1) := by decide +kernel
theorem dX8_addBoxFaces_49 : decode cX8_addBoxFaces 49 = .ok (.iadd, 1) := by decide +kernel
theorem dX8_addBoxFaces_50 : decode cX8_addBoxFaces 50 = .ok (.invokevirtual 100, 3) := by decide +kernel
theorem dX8_addBoxFaces_53 : decode cX8_addBoxFaces 53 = .ok (.aload_n 0, 1) := by decide +kernel
theorem dX8_addBoxFaces_54 : decode cX8_addBoxFaces 54 = .ok (.getfield 19, 3) := by decide +kernel
theorem dX8_addBoxFaces_57 : decode cX8_addBoxFaces 57 = .ok (.aload_n 0, 1) := by decide +kernel
theorem dX8_addBoxFaces_58 : decode cX8_addBoxFaces 58 = .ok (.getfield 61, 3) := by decide +kernel
theorem dX8_addBoxFaces_61 : decode cX8_addBoxFaces 61 = .ok (.invokevirtual 112, 3) := by decide +kernel
theorem dX8_addBoxFaces_64 : decode cX8_addBoxFaces 64 = .ok (.pop, 1) := by decide +kernel
theorem dX8_addBoxFaces_65 : decode cX8_addBoxFaces 65 = .ok (.iinc 2 4, 3) := by decide +kernel
theorem dX8_addBoxFaces_68 : decode cX8_addBoxFaces 68 = .ok (.goto (-66), 3) := by decide +kernel
theorem dX8_addBoxFaces_71 : decode cX8_addBoxFaces 71 = .ok (.return_, 1) := by decide +kernel
set_option maxRecDepth 20000 in
theorem ggX8_hasRoomInRing_X1_ring : GoodIn wsX8_hasRoomInRing wsX1_ring := goodIn_r _ [6, 7, 8, 23, 24, 25, 26, 27] (by decide +kernel) (by decide +kernel)
set_option maxRecDepth 20000 in
theorem gX8_hasRoomInRing_X1_ring : GoodIn wsX8_hasRoomInRing (wsV RX8 157 RX1 yX1_ring wsX1_ring) := goodIn_app (goodIn_of _ (by decide +kernel)) ggX8_hasRoomInRing_X1_ring
set_option maxRecDepth 20000 in
theorem ggX8_hasRoomInRing_X5_length : GoodIn wsX8_hasRoomInRing wsX5_length := goodIn_r _ [13, 14, 28, 29] (by decide +kernel) (by decide +kernel)
set_option maxRecDepth 20000 in
theorem gX8_hasRoomInRing_X5_length : GoodIn wsX8_hasRoomInRing (wsV RX8 164 RX5 yX5_length wsX5_length) := goodIn_app (goodIn_of _ (by decide +kernel)) ggX8_hasRoomInRing_X5_length
theorem dX8_hasRoomInRing_0 : decode cX8_hasRoomInRing 0 = .ok (.aload_n 0, 1) := by decide +kernel
theorem dX8_hasRoomInRing_1 : decode cX8_hasRoomInRing 1 = .ok (.getfield 19, 3) := by decide +kernel
theorem dX8_hasRoomInRing_4 : decode cX8_hasRoomInRing 4 = .ok (.iload_n 1, 1) := by decide +kernel
theorem dX8_hasRoomInRing_5 : decode cX8_hasRoomInRing 5 = .ok (.invokevirtual 157, 3) := by decide +kernel
theorem dX8_hasRoomInRing_8 : decode cX8_hasRoomInRing 8 = .ok (.invokevirtual 164, 3) := by decide +kernel
theorem dX8_hasRoomInRing_11 : decode cX8_hasRoomInRing 11 = .ok (.bipush 12, 2) := by decide +kernel
theorem dX8_hasRoomInRing_13 : decode cX8_hasRoomInRing 13 = .ok (.if_icmp .ge 7, 3) := by decide +kernel
theorem dX8_hasRoomInRing_16 : decode cX8_hasRoomInRing 16 = .ok (.iconst 1, 1) := by decide +kernel
theorem dX8_hasRoomInRing_17 : decode cX8_hasRoomInRing 17 = .ok (.goto 4, 3) := by decide +kernel
theorem dX8_hasRoomInRing_20 : decode cX8_hasRoomInRing 20 = .ok (.iconst 0, 1) := by decide +kernel
theorem dX8_hasRoomInRing_21 : decode cX8_hasRoomInRing 21 = .ok (.ireturn, 1) := by decide +kernel
set_option maxRecDepth 20000 in
theorem ggX8_putAfter_X1_has : GoodIn wsX8_putAfter wsX1_has := goodIn_r _ [7, 8, 9, 10, 6, 11, 12, 13, 14, 15, 16, 17, 18, 19, 69, 70, 71, 72, 73, 74, 75] (by decide +kernel) (by decide +kernel)
set_option maxRecDepth 20000 in
theorem gX8_putAfter_X1_has : GoodIn wsX8_putAfter (wsV RX8 237 RX1 yX1_has wsX1_has) := goodIn_app (goodIn_of _ (by decide +kernel)) ggX8_putAfter_X1_has
set_option maxRecDepth 20000 in
theorem ggX8_putAfter_X1_ring : GoodIn wsX8_putAfter wsX1_ring := goodIn_r _ [11, 12, 13, 69, 70, 71, 72, 73] (by decide +kernel) (by decide +kernel)
set_option maxRecDepth 20000 in
theorem gX8_putAfter_X1_ring : GoodIn wsX8_putAfter (wsV RX8 157 RX1 yX1_ring wsX1_ring) := goodIn_app (goodIn_of _ (by decide +kernel)) ggX8_putAfter_X1_ring
set_option maxRecDepth 20000 in
theorem ggX8_putAfter_X5_clear : GoodIn wsX8_putAfter wsX5_clear := goodIn_r _ [24, 19, 74, 75] (by decide +kernel) (by decide +kernel)
set_option maxRecDepth 20000 in
theorem gX8_putAfter_X5_clear : GoodIn wsX8_putAfter (wsV RX8 167 RX5 yX5_clear wsX5_clear) := goodIn_app (goodIn_of _ (by decide +kernel)) ggX8_putAfter_X5_clear
set_option maxRecDepth 20000 in
theorem ggX8_putAfter_X5_length : GoodIn wsX8_putAfter wsX5_length := goodIn_r _ [18, 19, 74, 75] (by decide +kernel) (by decide +kernel)
set_option maxRecDepth 20000 in
theorem gX8_putAfter_X5_length : GoodIn wsX8_putAfter (wsV RX8 164 RX5 yX5_length wsX5_length) := goodIn_app (goodIn_of _ (by decide +kernel)) ggX8_putAfter_X5_length
set_option maxRecDepth 20000 in
theorem ggX8_putAfter_X5_get : GoodIn wsX8_putAfter wsX5_get := goodIn_r _ [29, 19, 30, 74, 75] (by decide +kernel) (by decide +kernel)
set_option maxRecDepth 20000 in
theorem gX8_putAfter_X5_get : GoodIn wsX8_putAfter (wsV RX8 210 RX5 yX5_get wsX5_get) := goodIn_app (goodIn_of _ (by decide +kernel)) ggX8_putAfter_X5_get
set_option maxRecDepth 20000 in
theorem ggX8_putAfter_X5_add : GoodIn wsX8_putAfter wsX5_add := goodIn_r _ [34, 19, 30, 74, 75] (by decide +kernel) (by decide +kernel)
set_option maxRecDepth 20000 in
theorem gX8_putAfter_X5_add : GoodIn wsX8_putAfter (wsV RX8 215 RX5 yX5_add wsX5_add) := goodIn_app (goodIn_of _ (by decide +kernel)) ggX8_putAfter_X5_add
set_option maxRecDepth 20000 in
theorem ggX8_putAfter_X1_reshape : GoodIn wsX8_putAfter wsX1_reshape := goodIn_r _ [38, 39, 40, 41, 6, 42, 8, 9, 10, 11, 12, 13, 14, 15, 16, 17, 18, 19, 43, 27, 28, 29, 30, 44, 45, 46, 47, 48, 49, 50, 51, 52, 53, 54, 55, 56, 57, 58, 59, 60, 69, 70, 71, 72, 73, 74, 75] (by decide +kernel) (by decide +kernel)
set_option maxRecDepth 20000 in
theorem gX8_putAfter_X1_reshape : GoodIn wsX8_putAfter (wsV RX8 174 RX1 yX1_reshape wsX1_reshape) := goodIn_app (goodIn_of _ (by decide +kernel)) ggX8_putAfter_X1_reshape
theorem dX8_putAfter_0 : decode cX8_putAfter 0 = .ok (.aload_n 0, 1) := by decide +kernel
theorem dX8_putAfter_1 : decode cX8_putAfter 1 = .ok (.getfield 19, 3) := by decide +kernel
theorem dX8_putAfter_4 : decode cX8_putAfter 4 = .ok (.iload_n 1, 1) := by decide +kernel
theorem dX8_putAfter_5 : decode cX8_putAfter 5 = .ok (.invokevirtual 237, 3) := by decide +kernel
theorem dX8_putAfter_8 : decode cX8_putAfter 8 = .ok (.ifCond .ne 4, 3) := by decide +kernel
theorem dX8_putAfter_11 : decode cX8_putAfter 11 = .ok (.return_, 1) := by decide +kernel
theorem dX8_putAfter_12 : decode cX8_putAfter 12 = .ok (.aload_n 0, 1) := by decide +kernel
theorem dX8_putAfter_13 : decode cX8_putAfter 13 = .ok (.getfield 19, 3) := by decide +kernel
theorem dX8_putAfter_16 : decode cX8_putAfter 16 = .ok (.iload_n 1, 1) := by decide +kernel
theorem dX8_putAfter_17 : decode cX8_putAfter 17 = .ok (.invokevirtual 157, 3) := by decide +kernel
theorem dX8_putAfter_20 : decode cX8_putAfter 20 = .ok (.astore 4, 2) := by decide +kernel
theorem dX8_putAfter_22 : decode cX8_putAfter 22 = .ok (.aload_n 0, 1) := by decide +kernel
theorem dX8_putAfter_23 : decode cX8_putAfter 23 = .ok (.getfield 61, 3) := by decide +kernel
theorem dX8_putAfter_26 : decode cX8_putAfter 26 = .ok (.invokevirtual 167, 3) := by decide +kernel
theorem dX8_putAfter_29 : decode cX8_putAfter 29 = .ok (.iconst 0, 1) := by decide +kernel
theorem dX8_putAfter_30 : decode cX8_putAfter 30 = .ok (.istore 5, 2) := by decide +kernel
theorem dX8_putAfter_32 : decode cX8_putAfter 32 = .ok (.iload 5, 2) := by decide +kernel
theorem dX8_putAfter_34 : decode cX8_putAfter 34 = .ok (.aload 4, 2) := by decide +kernel
theorem dX8_putAfter_36 : decode cX8_putAfter 36 = .ok (.invokevirtual 164, 3) := by decide +kernel
theorem dX8_putAfter_39 : decode cX8_putAfter 39 = .ok (.if_icmp .ge 42, 3) := by decide +kernel
theorem dX8_putAfter_42 : decode cX8_putAfter 42 = .ok (.aload_n 0, 1) := by decide +kernel
theorem dX8_putAfter_43 : decode cX8_putAfter 43 = .ok (.getfield 61, 3) := by decide +kernel
theorem dX8_putAfter_46 : decode cX8_putAfter 46 = .ok (.aload 4, 2) := by decide +kernel
theorem dX8_putAfter_48 : decode cX8_putAfter 48 = .ok (.iload 5, 2) := by decide +kernel
theorem dX8_putAfter_50 : decode cX8_putAfter 50 = .ok (.invokevirtual 210, 3) := by decide +kernel
theorem dX8_putAfter_53 : decode cX8_putAfter 53 = .ok (.invokevirtual 215, 3) := by decide +kernel
theorem dX8_putAfter_56 : decode cX8_putAfter 56 = .ok (.aload 4, 2) := by decide +kernel
theorem dX8_putAfter_58 : decode cX8_putAfter 58 = .ok (.iload 5, 2) := by decide +kernel
theorem dX8_putAfter_60 : decode cX8_putAfter 60 = .ok (.invokevirtual 210, 3) := by decide +kernel
theorem dX8_putAfter_63 : decode cX8_putAfter 63 = .ok (.iload_n 2, 1) := by decide +kernel
theorem dX8_putAfter_64 : decode cX8_putAfter 64 = .ok (.if_icmp .ne 11, 3) := by decide +kernel
theorem dX8_putAfter_67 : decode cX8_putAfter 67 = .ok (.aload_n 0, 1) := by decide +kernel
theorem dX8_putAfter_68 : decode cX8_putAfter 68 = .ok (.getfield 61, 3) := by decide +kernel
theorem dX8_putAfter_71 : decode cX8_putAfter 71 = .ok (.iload_n 3, 1) := by decide +kernel
theorem dX8_putAfter_72 : decode cX8_putAfter 72 = .ok (.invokevirtual 215, 3) := by decide +kernel
theorem dX8_putAfter_75 : decode cX8_putAfter 75 = .ok (.iinc 5 1, 3) := by decide +kernel
theorem dX8_putAfter_78 : decode cX8_putAfter 78 = .ok (.goto (-46), 3) := by decide +kernel
theorem dX8_putAfter_81 : decode cX8_putAfter 81 = .ok (.aload_n 0, 1) := by decide +kernel
theorem dX8_putAfter_82 : decode cX8_putAfter 82 = .ok (.getfield 19, 3) := by decide +kernel
theorem dX8_putAfter_85 : decode cX8_putAfter 85 = .ok (.iload_n 1, 1) := by decide +kernel
theorem dX8_putAfter_86 : decode cX8_putAfter 86 = .ok (.aload_n 0, 1) := by decide +kernel
theorem dX8_putAfter_87 : decode cX8_putAfter 87 = .ok (.getfield 61, 3) := by decide +kernel
theorem dX8_putAfter_90 : decode cX8_putAfter 90 = .ok (.invokevirtual 174, 3) := by decide +kernel
theorem dX8_putAfter_93 : decode cX8_putAfter 93 = .ok (.return_, 1) := by decide +kernel
set_option maxRecDepth 20000 in
theorem ggX8_joinFits_X1_owner : GoodIn wsX8_joinFits wsX1_owner := goodIn_r _ [6, 7, 37, 38, 39, 40, 41] (by decide +kernel) (by decide +kernel)
set_option maxRecDepth 20000 in
theorem gX8_joinFits_X1_owner : GoodIn wsX8_joinFits (wsV RX8 145 RX1 yX1_owner wsX1_owner) := goodIn_app (goodIn_of _ (by decide +kernel)) ggX8_joinFits_X1_owner
set_option maxRecDepth 20000 in
theorem ggX8_joinFits_X1_ring : GoodIn wsX8_joinFits wsX1_ring := goodIn_r _ [11, 12, 13, 37, 38, 39, 40, 41] (by decide +kernel) (by decide +kernel)
set_option maxRecDepth 20000 in
theorem gX8_joinFits_X1_ring : GoodIn wsX8_joinFits (wsV RX8 157 RX1 yX1_ring wsX1_ring) := goodIn_app (goodIn_of _ (by decide +kernel)) ggX8_joinFits_X1_ring
set_option maxRecDepth 20000 in
theorem ggX8_joinFits_X5_length : GoodIn wsX8_joinFits wsX5_length := goodIn_r _ [18, 19, 42, 43] (by decide +kernel) (by decide +kernel)
set_option maxRecDepth 20000 in
theorem gX8_joinFits_X5_length : GoodIn wsX8_joinFits (wsV RX8 164 RX5 yX5_length wsX5_length) := goodIn_app (goodIn_of _ (by decide +kernel)) ggX8_joinFits_X5_length
set_option maxRecDepth 20000 in
theorem ggX8_joinFits_X5_get : GoodIn wsX8_joinFits wsX5_get := goodIn_r _ [23, 19, 24, 42, 43] (by decide +kernel) (by decide +kernel)
set_option maxRecDepth 20000 in
theorem gX8_joinFits_X5_get : GoodIn wsX8_joinFits (wsV RX8 210 RX5 yX5_get wsX5_get) := goodIn_app (goodIn_of _ (by decide +kernel)) ggX8_joinFits_X5_get
set_option maxRecDepth 20000 in
theorem ggX8_joinFits_X5_placeOf : GoodIn wsX8_joinFits wsX5_placeOf := goodIn_r _ [28, 19, 24, 42, 43] (by decide +kernel) (by decide +kernel)
set_option maxRecDepth 20000 in
theorem gX8_joinFits_X5_placeOf : GoodIn wsX8_joinFits (wsV RX8 161 RX5 yX5_placeOf wsX5_placeOf) := goodIn_app (goodIn_of _ (by decide +kernel)) ggX8_joinFits_X5_placeOf
theorem dX8_joinFits_0 : decode cX8_joinFits 0 = .ok (.aload_n 0, 1) := by decide +kernel
theorem dX8_joinFits_1 : decode cX8_joinFits 1 = .ok (.getfield 19, 3) := by decide +kernel
theorem dX8_joinFits_4 : decode cX8_joinFits 4 = .ok (.aload_n 0, 1) := by decide +kernel
theorem dX8_joinFits_5 : decode cX8_joinFits 5 = .ok (.getfield 19, 3) := by decide +kernel
theorem dX8_joinFits_8 : decode cX8_joinFits 8 = .ok (.iload_n 1, 1) := by decide +kernel
theorem dX8_joinFits_9 : decode cX8_joinFits 9 = .ok (.iload_n 2, 1) := by decide +kernel
theorem dX8_joinFits_10 : decode cX8_joinFits 10 = .ok (.invokevirtual 145, 3) := by decide +kernel
theorem dX8_joinFits_13 : decode cX8_joinFits 13 = .ok (.invokevirtual 157, 3) := by decide +kernel
theorem dX8_joinFits_16 : decode cX8_joinFits 16 = .ok (.astore_n 3, 1) := by decide +kernel
theorem dX8_joinFits_17 : decode cX8_joinFits 17 = .ok (.aload_n 0, 1) := by decide +kernel
theorem dX8_joinFits_18 : decode cX8_joinFits 18 = .ok (.getfield 19, 3) := by decide +kernel
theorem dX8_joinFits_21 : decode cX8_joinFits 21 = .ok (.aload_n 0, 1) := by decide +kernel
theorem dX8_joinFits_22 : decode cX8_joinFits 22 = .ok (.getfield 19, 3) := by decide +kernel
theorem dX8_joinFits_25 : decode cX8_joinFits 25 = .ok (.iload_n 2, 1) := by decide +kernel
theorem dX8_joinFits_26 : decode cX8_joinFits 26 = .ok (.iload_n 1, 1) := by decide +kernel
theorem dX8_joinFits_27 : decode cX8_joinFits 27 = .ok (.invokevirtual 145, 3) := by decide +kernel
theorem dX8_joinFits_30 : decode cX8_joinFits 30 = .ok (.invokevirtual 157, 3) := by decide +kernel
theorem dX8_joinFits_33 : decode cX8_joinFits 33 = .ok (.astore 4, 2) := by decide +kernel
theorem dX8_joinFits_35 : decode cX8_joinFits 35 = .ok (.aload_n 3, 1) := by decide +kernel
theorem dX8_joinFits_36 : decode cX8_joinFits 36 = .ok (.invokevirtual 164, 3) := by decide +kernel
theorem dX8_joinFits_39 : decode cX8_joinFits 39 = .ok (.aload 4, 2) := by decide +kernel
theorem dX8_joinFits_41 : decode cX8_joinFits 41 = .ok (.invokevirtual 164, 3) := by decide +kernel
theorem dX8_joinFits_44 : decode cX8_joinFits 44 = .ok (.iadd, 1) := by decide +kernel
theorem dX8_joinFits_45 : decode cX8_joinFits 45 = .ok (.iconst 2, 1) := by decide +kernel
theorem dX8_joinFits_46 : decode cX8_joinFits 46 = .ok (.isub, 1) := by decide +kernel
theorem dX8_joinFits_47 : decode cX8_joinFits 47 = .ok (.bipush 12, 2) := by decide +kernel
theorem dX8_joinFits_49 : decode cX8_joinFits 49 = .ok (.if_icmp .le 5, 3) := by decide +kernel
theorem dX8_joinFits_52 : decode cX8_joinFits 52 = .ok (.iconst 0, 1) := by decide +kernel
theorem dX8_joinFits_53 : decode cX8_joinFits 53 = .ok (.ireturn, 1) := by decide +kernel
theorem dX8_joinFits_54 : decode cX8_joinFits 54 = .ok (.iconst 0, 1) := by decide +kernel
theorem dX8_joinFits_55 : decode cX8_joinFits 55 = .ok (.istore 5, 2) := by decide +kernel
theorem dX8_joinFits_57 : decode cX8_joinFits 57 = .ok (.iload 5, 2) := by decide +kernel
theorem dX8_joinFits_59 : decode cX8_joinFits 59 = .ok (.aload 4, 2) := by decide +kernel
theorem dX8_joinFits_61 : decode cX8_joinFits 61 = .ok (.invokevirtual 164, 3) := by decide +kernel
theorem dX8_joinFits_64 : decode cX8_joinFits 64 = .ok (.if_icmp .ge 42, 3) := by decide +kernel
theorem dX8_joinFits_67 : decode cX8_joinFits 67 = .ok (.aload 4, 2) := by decide +kernel
theorem dX8_joinFits_69 : decode cX8_joinFits 69 = .ok (.iload 5, 2) := by decide +kernel
theorem dX8_joinFits_71 : decode cX8_joinFits 71 = .ok (.invokevirtual 210, 3) := by decide +kernel
theorem dX8_joinFits_74 : decode cX8_joinFits 74 = .ok (.istore 6, 2) := by decide +kernel
theorem dX8_joinFits_76 : decode cX8_joinFits 76 = .ok (.iload 6, 2) := by decide +kernel
theorem dX8_joinFits_78 : decode cX8_joinFits 78 = .ok (.iload_n 1, 1) := by decide +kernel
theorem dX8_joinFits_79 : decode cX8_joinFits 79 = .ok (.if_icmp .eq 21, 3) := by decide +kernel
theorem dX8_joinFits_82 : decode cX8_joinFits 82 = .ok (.iload 6, 2) := by decide +kernel
theorem dX8_joinFits_84 : decode cX8_joinFits 84 = .ok (.iload_n 2, 1) := by decide +kernel
theorem dX8_joinFits_85 : decode cX8_joinFits 85 = .ok (.if_icmp .eq 15, 3) := by decide +kernel
theorem dX8_joinFits_88 : decode cX8_joinFits 88 = .ok (.aload_n 3, 1) := by decide +kernel
theorem dX8_joinFits_89 : decode cX8_joinFits 89 = .ok (.iload 6, 2) := by decide +kernel
theorem dX8_joinFits_91 : decode cX8_joinFits 91 = .ok (.invokevirtual 161, 3) := by decide +kernel
theorem dX8_joinFits_94 : decode cX8_joinFits 94 = .ok (.iconst (-1), 1) := by decide +kernel
theorem dX8_joinFits_95 : decode cX8_joinFits 95 = .ok (.if_icmp .eq 5, 3) := by decide +kernel
theorem dX8_joinFits_98 : decode cX8_joinFits 98 = .ok (.iconst 0, 1) := by decide +kernel
theorem dX8_joinFits_99 : decode cX8_joinFits 99 = .ok (.ireturn, 1) := by decide +kernel
theorem dX8_joinFits_100 : decode cX8_joinFits 100 = .ok (.iinc 5 1, 3) := by decide +kernel
theorem dX8_joinFits_103 : decode cX8_joinFits 103 = .ok (.goto (-46), 3) := by decide +kernel
theorem dX8_joinFits_106 : decode cX8_joinFits 106 = .ok (.iconst 1, 1) := by decide +kernel
theorem dX8_joinFits_107 : decode cX8_joinFits 107 = .ok (.ireturn, 1) := by decide +kernel
set_option maxRecDepth 20000 in
theorem ggX8_isBetweenTriangles_X1_owner : GoodIn wsX8_isBetweenTriangles wsX1_owner := goodIn_r _ [6, 7, 28, 29, 30, 31, 32] (by decide +kernel) (by decide +kernel)
set_option maxRecDepth 20000 in
theorem gX8_isBetweenTriangles_X1_owner : GoodIn wsX8_isBetweenTriangles (wsV RX8 145 RX1 yX1_owner wsX1_owner) := goodIn_app (goodIn_of _ (by decide +kernel)) ggX8_isBetweenTriangles_X1_owner
set_option maxRecDepth 20000 in
theorem ggX8_isBetweenTriangles_X1_ring : GoodIn wsX8_isBetweenTriangles wsX1_ring := goodIn_r _ [11, 12, 13, 28, 29, 30, 31, 32] (by decide +kernel) (by decide +kernel)
set_option maxRecDepth 20000 in
theorem gX8_isBetweenTriangles_X1_ring : GoodIn wsX8_isBetweenTriangles (wsV RX8 157 RX1 yX1_ring wsX1_ring) := goodIn_app (goodIn_of _ (by decide +kernel)) ggX8_isBetweenTriangles_X1_ring
set_option maxRecDepth 20000 in
theorem ggX8_isBetweenTriangles_X5_length : GoodIn wsX8_isBetweenTriangles wsX5_length := goodIn_r _ [18, 19, 33, 34] (by decide +kernel) (by decide +kernel)
set_option maxRecDepth 20000 in
theorem gX8_isBetweenTriangles_X5_length : GoodIn wsX8_isBetweenTriangles (wsV RX8 164 RX5 yX5_length wsX5_length) := goodIn_app (goodIn_of _ (by decide +kernel)) ggX8_isBetweenTriangles_X5_length
theorem dX8_isBetweenTriangles_0 : decode cX8_isBetweenTriangles 0 = .ok (.aload_n 0, 1) := by decide +kernel
theorem dX8_isBetweenTriangles_1 : decode cX8_isBetweenTriangles 1 = .ok (.getfield 19, 3) := by decide +kernel
theorem dX8_isBetweenTriangles_4 : decode cX8_isBetweenTriangles 4 = .ok (.aload_n 0, 1) := by decide +kernel
theorem dX8_isBetweenTriangles_5 : decode cX8_isBetweenTriangles 5 = .ok (.getfield 19, 3) := by decide +kernel
theorem dX8_isBetweenTriangles_8 : decode cX8_isBetweenTriangles 8 = .ok (.iload_n 1, 1) := by decide +kernel
theorem dX8_isBetweenTriangles_9 : decode cX8_isBetweenTriangles 9 = .ok (.iload_n 2, 1) := by decide +kernel
theorem dX8_isBetweenTriangles_10 : decode cX8_isBetweenTriangles 10 = .ok (.invokevirtual 145, 3) := by decide +kernel
theorem dX8_isBetweenTriangles_13 : decode cX8_isBetweenTriangles 13 = .ok (.invokevirtual 157, 3) := by decide +kernel
theorem dX8_isBetweenTriangles_16 : decode cX8_isBetweenTriangles 16 = .ok (.invokevirtual 164, 3) := by decide +kernel
theorem dX8_isBetweenTriangles_19 : decode cX8_isBetweenTriangles 19 = .ok (.iconst 3, 1) := by decide +kernel
theorem dX8_isBetweenTriangles_20 : decode cX8_isBetweenTriangles 20 = .ok (.if_icmp .ne 30, 3) := by decide +kernel
theorem dX8_isBetweenTriangles_23 : decode cX8_isBetweenTriangles 23 = .ok (.aload_n 0, 1) := by decide +kernel
theorem dX8_isBetweenTriangles_24 : decode cX8_isBetweenTriangles 24 = .ok (.getfield 19, 3) := by decide +kernel
theorem dX8_isBetweenTriangles_27 : decode cX8_isBetweenTriangles 27 = .ok (.aload_n 0, 1) := by decide +kernel
theorem dX8_isBetweenTriangles_28 : decode cX8_isBetweenTriangles 28 = .ok (.getfield 19, 3) := by decide +kernel
theorem dX8_isBetweenTriangles_31 : decode cX8_isBetweenTriangles 31 = .ok (.iload_n 2, 1) := by decide +kernel
theorem dX8_isBetweenTriangles_32 : decode cX8_isBetweenTriangles 32 = .ok (.iload_n 1, 1) := by decide +kernel
theorem dX8_isBetweenTriangles_33 : decode cX8_isBetweenTriangles 33 = .ok (.invokevirtual 145, 3) := by decide +kernel
theorem dX8_isBetweenTriangles_36 : decode cX8_isBetweenTriangles 36 = .ok (.invokevirtual 157, 3) := by decide +kernel
theorem dX8_isBetweenTriangles_39 : decode cX8_isBetweenTriangles 39 = .ok (.invokevirtual 164, 3) := by decide +kernel
theorem dX8_isBetweenTriangles_42 : decode cX8_isBetweenTriangles 42 = .ok (.iconst 3, 1) := by decide +kernel
theorem dX8_isBetweenTriangles_43 : decode cX8_isBetweenTriangles 43 = .ok (.if_icmp .ne 7, 3) := by decide +kernel
theorem dX8_isBetweenTriangles_46 : decode cX8_isBetweenTriangles 46 = .ok (.iconst 1, 1) := by decide +kernel
theorem dX8_isBetweenTriangles_47 : decode cX8_isBetweenTriangles 47 = .ok (.goto 4, 3) := by decide +kernel
theorem dX8_isBetweenTriangles_50 : decode cX8_isBetweenTriangles 50 = .ok (.iconst 0, 1) := by decide +kernel
theorem dX8_isBetweenTriangles_51 : decode cX8_isBetweenTriangles 51 = .ok (.ireturn, 1) := by decide +kernel
set_option maxRecDepth 20000 in
theorem ggX8_flipFits_X1_owner : GoodIn wsX8_flipFits wsX1_owner := goodIn_r _ [6, 7, 42, 43, 44, 45, 46] (by decide +kernel) (by decide +kernel)
set_option maxRecDepth 20000 in
theorem gX8_flipFits_X1_owner : GoodIn wsX8_flipFits (wsV RX8 145 RX1 yX1_owner wsX1_owner) := goodIn_app (goodIn_of _ (by decide +kernel)) ggX8_flipFits_X1_owner
set_option maxRecDepth 20000 in
theorem ggX8_flipFits_X1_after : GoodIn wsX8_flipFits wsX1_after := goodIn_r _ [11, 12, 13, 14, 5, 15, 16, 17, 18, 19, 20, 21, 22, 23, 24, 25, 26, 27, 28, 42, 43, 44, 45, 46, 47, 48] (by decide +kernel) (by decide +kernel)
set_option maxRecDepth 20000 in
theorem gX8_flipFits_X1_after : GoodIn wsX8_flipFits (wsV RX8 196 RX1 yX1_after wsX1_after) := goodIn_app (goodIn_of _ (by decide +kernel)) ggX8_flipFits_X1_after
set_option maxRecDepth 20000 in
theorem ggX8_flipFits_X1_isEdge : GoodIn wsX8_flipFits wsX1_isEdge := goodIn_r _ [32, 33, 3, 4, 5, 6, 7, 42, 43, 44, 45, 46] (by decide +kernel) (by decide +kernel)
set_option maxRecDepth 20000 in
theorem gX8_flipFits_X1_isEdge : GoodIn wsX8_flipFits (wsV RX8 141 RX1 yX1_isEdge wsX1_isEdge) := goodIn_app (goodIn_of _ (by decide +kernel)) ggX8_flipFits_X1_isEdge
theorem dX8_flipFits_0 : decode cX8_flipFits 0 = .ok (.aload_n 0, 1) := by decide +kernel
theorem dX8_flipFits_1 : decode cX8_flipFits 1 = .ok (.getfield 19, 3) := by decide +kernel
theorem dX8_flipFits_4 : decode cX8_flipFits 4 = .ok (.aload_n 0, 1) := by decide +kernel
theorem dX8_flipFits_5 : decode cX8_flipFits 5 = .ok (.getfield 19, 3) := by decide +kernel
theorem dX8_flipFits_8 : decode cX8_flipFits 8 = .ok (.iload_n 1, 1) := by decide +kernel
theorem dX8_flipFits_9 : decode cX8_flipFits 9 = .ok (.iload_n 2, 1) := by decide +kernel
theorem dX8_flipFits_10 : decode cX8_flipFits 10 = .ok (.invokevirtual 145, 3) := by decide +kernel
theorem dX8_flipFits_13 : decode cX8_flipFits 13 = .ok (.iload_n 2, 1) := by decide +kernel
theorem dX8_flipFits_14 : decode cX8_flipFits 14 = .ok (.invokevirtual 196, 3) := by decide +kernel
theorem dX8_flipFits_17 : decode cX8_flipFits 17 = .ok (.istore_n 3, 1) := by decide +kernel
theorem dX8_flipFits_18 : decode cX8_flipFits 18 = .ok (.aload_n 0, 1) := by decide +kernel
theorem dX8_flipFits_19 : decode cX8_flipFits 19 = .ok (.getfield 19, 3) := by decide +kernel
theorem dX8_flipFits_22 : decode cX8_flipFits 22 = .ok (.aload_n 0, 1) := by decide +kernel
theorem dX8_flipFits_23 : decode cX8_flipFits 23 = .ok (.getfield 19, 3) := by decide +kernel
theorem dX8_flipFits_26 : decode cX8_flipFits 26 = .ok (.iload_n 2, 1) := by decide +kernel
theorem dX8_flipFits_27 : decode cX8_flipFits 27 = .ok (.iload_n 1, 1) := by decide +kernel
theorem dX8_flipFits_28 : decode cX8_flipFits 28 = .ok (.invokevirtual 145, 3) := by decide +kernel
theorem dX8_flipFits_31 : decode cX8_flipFits 31 = .ok (.iload_n 1, 1) := by decide +kernel
theorem dX8_flipFits_32 : decode cX8_flipFits 32 = .ok (.invokevirtual 196, 3) := by decide +kernel
theorem dX8_flipFits_35 : decode cX8_flipFits 35 = .ok (.istore 4, 2) := by decide +kernel
theorem dX8_flipFits_37 : decode cX8_flipFits 37 = .ok (.iload_n 3, 1) := by decide +kernel
theorem dX8_flipFits_38 : decode cX8_flipFits 38 = .ok (.iload 4, 2) := by decide +kernel
theorem dX8_flipFits_40 : decode cX8_flipFits 40 = .ok (.if_icmp .eq 20, 3) := by decide +kernel
theorem dX8_flipFits_43 : decode cX8_flipFits 43 = .ok (.aload_n 0, 1) := by decide +kernel
theorem dX8_flipFits_44 : decode cX8_flipFits 44 = .ok (.getfield 19, 3) := by decide +kernel
theorem dX8_flipFits_47 : decode cX8_flipFits 47 = .ok (.iload_n 3, 1) := by decide +kernel
theorem dX8_flipFits_48 : decode cX8_flipFits 48 = .ok (.iload 4, 2) := by decide +kernel
theorem dX8_flipFits_50 : decode cX8_flipFits 50 = .ok (.invokevirtual 141, 3) := by decide +kernel
theorem dX8_flipFits_53 : decode cX8_flipFits 53 = .ok (.ifCond .ne 7, 3) := by decide +kernel
theorem dX8_flipFits_56 : decode cX8_flipFits 56 = .ok (.iconst 1, 1) := by decide +kernel
theorem dX8_flipFits_57 : decode cX8_flipFits 57 = .ok (.goto 4, 3) := by decide +kernel
theorem dX8_flipFits_60 : decode cX8_flipFits 60 = .ok (.iconst 0, 1) := by decide +kernel
theorem dX8_flipFits_61 : decode cX8_flipFits 61 = .ok (.ireturn, 1) := by decide +kernel
set_option maxRecDepth 20000 in
theorem ggX8_canShift_X5_length : GoodIn wsX8_canShift wsX5_length := goodIn_r _ [6, 7, 35, 36] (by decide +kernel) (by decide +kernel)
set_option maxRecDepth 20000 in
theorem gX8_canShift_X5_length : GoodIn wsX8_canShift (wsV RX8 164 RX5 yX5_length wsX5_length) := goodIn_app (goodIn_of _ (by decide +kernel)) ggX8_canShift_X5_length
set_option maxRecDepth 20000 in
theorem ggX8_canShift_X5_get : GoodIn wsX8_canShift wsX5_get := goodIn_r _ [11, 7, 12, 35, 36] (by decide +kernel) (by decide +kernel)
set_option maxRecDepth 20000 in
theorem gX8_canShift_X5_get : GoodIn wsX8_canShift (wsV RX8 210 RX5 yX5_get wsX5_get) := goodIn_app (goodIn_of _ (by decide +kernel)) ggX8_canShift_X5_get
set_option maxRecDepth 20000 in
theorem ggX8_canShift_X3_get : GoodIn wsX8_canShift wsX3_get := goodIn_r _ [17, 18, 19, 20, 21, 37, 38, 39, 40] (by decide +kernel) (by decide +kernel)
set_option maxRecDepth 20000 in
theorem gX8_canShift_X3_get : GoodIn wsX8_canShift (wsV RX8 88 RX3 yX3_get wsX3_get) := goodIn_app (goodIn_of _ (by decide +kernel)) ggX8_canShift_X3_get
set_option maxRecDepth 20000 in
theorem ggX8_canShift_X8_isInReach : GoodIn wsX8_canShift wsX8_isInReach := goodIn_r _ [24, 25, 26] (by decide +kernel) (by decide +kernel)
set_option maxRecDepth 20000 in
theorem gX8_canShift_X8_isInReach : GoodIn wsX8_canShift (va_wsS RX8 324 yX8_isInReach wsX8_isInReach) := goodIn_app (goodIn_of _ (by decide +kernel)) ggX8_canShift_X8_isInReach
theorem dX8_canShift_0 : decode cX8_canShift 0 = .ok (.iconst 0, 1) := by decide +kernel
theorem dX8_canShift_1 : decode cX8_canShift 1 = .ok (.istore 4, 2) := by decide +kernel
theorem dX8_canShift_3 : decode cX8_canShift 3 = .ok (.iload 4, 2) := by decide +kernel
theorem dX8_canShift_5 : decode cX8_canShift 5 = .ok (.aload_n 1, 1) := by decide +kernel
theorem dX8_canShift_6 : decode cX8_canShift 6 = .ok (.invokevirtual 164, 3) := by decide +kernel
theorem dX8_canShift_9 : decode cX8_canShift 9 = .ok (.if_icmp .ge 35, 3) := by decide +kernel
theorem dX8_canShift_12 : decode cX8_canShift 12 = .ok (.aload_n 0, 1) := by decide +kernel
theorem dX8_canShift_13 : decode cX8_canShift 13 = .ok (.getfield 12, 3) := by decide +kernel
theorem dX8_canShift_16 : decode cX8_canShift 16 = .ok (.aload_n 1, 1) := by decide +kernel
theorem dX8_canShift_17 : decode cX8_canShift 17 = .ok (.iload 4, 2) := by decide +kernel
theorem dX8_canShift_19 : decode cX8_canShift 19 = .ok (.invokevirtual 210, 3) := by decide +kernel
theorem dX8_canShift_22 : decode cX8_canShift 22 = .ok (.iload_n 2, 1) := by decide +kernel
theorem dX8_canShift_23 : decode cX8_canShift 23 = .ok (.invokevirtual 88, 3) := by decide +kernel
theorem dX8_canShift_26 : decode cX8_canShift 26 = .ok (.i2l, 1) := by decide +kernel
theorem dX8_canShift_27 : decode cX8_canShift 27 = .ok (.iload_n 3, 1) := by decide +kernel
theorem dX8_canShift_28 : decode cX8_canShift 28 = .ok (.i2l, 1) := by decide +kernel
theorem dX8_canShift_29 : decode cX8_canShift 29 = .ok (.ladd, 1) := by decide +kernel
theorem dX8_canShift_30 : decode cX8_canShift 30 = .ok (.invokestatic 324, 3) := by decide +kernel
theorem dX8_canShift_33 : decode cX8_canShift 33 = .ok (.ifCond .ne 5, 3) := by decide +kernel
theorem dX8_canShift_36 : decode cX8_canShift 36 = .ok (.iconst 0, 1) := by decide +kernel
theorem dX8_canShift_37 : decode cX8_canShift 37 = .ok (.ireturn, 1) := by decide +kernel
theorem dX8_canShift_38 : decode cX8_canShift 38 = .ok (.iinc 4 1, 3) := by decide +kernel
theorem dX8_canShift_41 : decode cX8_canShift 41 = .ok (.goto (-38), 3) := by decide +kernel
theorem dX8_canShift_44 : decode cX8_canShift 44 = .ok (.iconst 1, 1) := by decide +kernel
theorem dX8_canShift_45 : decode cX8_canShift 45 = .ok (.ireturn, 1) := by decide +kernel
set_option maxRecDepth 20000 in
theorem ggX8_addSides_X5_length : GoodIn wsX8_addSides wsX5_length := goodIn_r _ [7, 8, 77, 78] (by decide +kernel) (by decide +kernel)
set_option maxRecDepth 20000 in
theorem gX8_addSides_X5_length : GoodIn wsX8_addSides (wsV RX8 164 RX5 yX5_length wsX5_length) := goodIn_app (goodIn_of _ (by decide +kernel)) ggX8_addSides_X5_length
set_option maxRecDepth 20000 in
theorem ggX8_addSides_X5_get : GoodIn wsX8_addSides wsX5_get := goodIn_r _ [12, 8, 13, 77, 78] (by decide +kernel) (by decide +kernel)
set_option maxRecDepth 20000 in
theorem gX8_addSides_X5_get : GoodIn wsX8_addSides (wsV RX8 210 RX5 yX5_get wsX5_get) := goodIn_app (goodIn_of _ (by decide +kernel)) ggX8_addSides_X5_get
set_option maxRecDepth 20000 in
theorem ggX8_addSides_X5_set : GoodIn wsX8_addSides wsX5_set := goodIn_r _ [17, 18, 19, 20, 6, 21, 8, 22, 23, 24, 25, 13, 77, 78] (by decide +kernel) (by decide +kernel)
set_option maxRecDepth 20000 in
theorem gX8_addSides_X5_set : GoodIn wsX8_addSides (wsV RX8 100 RX5 yX5_set wsX5_set) := goodIn_app (goodIn_of _ (by decide +kernel)) ggX8_addSides_X5_set
set_option maxRecDepth 20000 in
theorem ggX8_addSides_X1_add : GoodIn wsX8_addSides wsX1_add := goodIn_r _ [30, 31, 32, 33, 34, 35, 36, 37, 38, 29, 39, 40, 41, 42, 43, 44, 45, 46, 47, 48, 49, 50, 4, 5, 6, 7, 8, 51, 10, 11, 12, 13, 52, 53, 54, 55, 56, 57, 58, 59, 60, 61, 62, 63, 64, 65, 66, 67, 68, 79, 80, 81, 82, 83, 77, 78] (by decide +kernel) (by decide +kernel)
set_option maxRecDepth 20000 in
theorem gX8_addSides_X1_add : GoodIn wsX8_addSides (wsV RX8 112 RX1 yX1_add wsX1_add) := goodIn_app (goodIn_of _ (by decide +kernel)) ggX8_addSides_X1_add
theorem dX8_addSides_0 : decode cX8_addSides 0 = .ok (.aload_n 1, 1) := by decide +kernel
theorem dX8_addSides_1 : decode cX8_addSides 1 = .ok (.invokevirtual 164, 3) := by decide +kernel
theorem dX8_addSides_4 : decode cX8_addSides 4 = .ok (.istore_n 3, 1) := by decide +kernel
theorem dX8_addSides_5 : decode cX8_addSides 5 = .ok (.iconst 0, 1) := by decide +kernel
theorem dX8_addSides_6 : decode cX8_addSides 6 = .ok (.istore 4, 2) := by decide +kernel
theorem dX8_addSides_8 : decode cX8_addSides 8 = .ok (.iload 4, 2) := by decide +kernel
theorem dX8_addSides_10 : decode cX8_addSides 10 = .ok (.iload_n 3, 1) := by decide +kernel
theorem dX8_addSides_11 : decode cX8_addSides 11 = .ok (.if_icmp .ge 66, 3) := by decide +kernel
theorem dX8_addSides_14 : decode cX8_addSides 14 = .ok (.iload 4, 2) := by decide +kernel
theorem dX8_addSides_16 : decode cX8_addSides 16 = .ok (.iconst 1, 1) := by decide +kernel
theorem dX8_addSides_17 : decode cX8_addSides 17 = .ok (.iadd, 1) := by decide +kernel
theorem dX8_addSides_18 : decode cX8_addSides 18 = .ok (.iload_n 3, 1) := by decide +kernel
theorem dX8_addSides_19 : decode cX8_addSides 19 = .ok (.if_icmp .ge 10, 3) := by decide +kernel
theorem dX8_addSides_22 : decode cX8_addSides 22 = .ok (.iload 4, 2) := by decide +kernel
theorem dX8_addSides_24 : decode cX8_addSides 24 = .ok (.iconst 1, 1) := by decide +kernel
theorem dX8_addSides_25 : decode cX8_addSides 25 = .ok (.iadd, 1) := by decide +kernel
theorem dX8_addSides_26 : decode cX8_addSides 26 = .ok (.goto 4, 3) := by decide +kernel
theorem dX8_addSides_29 : decode cX8_addSides 29 = .ok (.iconst 0, 1) := by decide +kernel
theorem dX8_addSides_30 : decode cX8_addSides 30 = .ok (.istore 5, 2) := by decide +kernel
theorem dX8_addSides_32 : decode cX8_addSides 32 = .ok (.aload_n 0, 1) := by decide +kernel
theorem dX8_addSides_33 : decode cX8_addSides 33 = .ok (.getfield 61, 3) := by decide +kernel
theorem dX8_addSides_36 : decode cX8_addSides 36 = .ok (.aload_n 1, 1) := by decide +kernel
theorem dX8_addSides_37 : decode cX8_addSides 37 = .ok (.iload 4, 2) := by decide +kernel
theorem dX8_addSides_39 : decode cX8_addSides 39 = .ok (.invokevirtual 210, 3) := by decide +kernel
theorem dX8_addSides_42 : decode cX8_addSides 42 = .ok (.aload_n 1, 1) := by decide +kernel
theorem dX8_addSides_43 : decode cX8_addSides 43 = .ok (.iload 5, 2) := by decide +kernel
theorem dX8_addSides_45 : decode cX8_addSides 45 = .ok (.invokevirtual 210, 3) := by decide +kernel
theorem dX8_addSides_48 : decode cX8_addSides 48 = .ok (.iload_n 2, 1) := by decide +kernel
theorem dX8_addSides_49 : decode cX8_addSides 49 = .ok (.iload 5, 2) := by decide +kernel
theorem dX8_addSides_51 : decode cX8_addSides 51 = .ok (.iadd, 1) := by decide +kernel
theorem dX8_addSides_52 : decode cX8_addSides 52 = .ok (.iload_n 2, 1) := by decide +kernel
theorem dX8_addSides_53 : decode cX8_addSides 53 = .ok (.iload 4, 2) := by decide +kernel
theorem dX8_addSides_55 : decode cX8_addSides 55 = .ok (.iadd, 1) := by decide +kernel
theorem dX8_addSides_56 : decode cX8_addSides 56 = .ok (.invokevirtual 100, 3) := by decide +kernel
theorem dX8_addSides_59 : decode cX8_addSides 59 = .ok (.aload_n 0, 1) := by decide +kernel
theorem dX8_addSides_60 : decode cX8_addSides 60 = .ok (.getfield 19, 3) := by decide +kernel
theorem dX8_addSides_63 : decode cX8_addSides 63 = .ok (.aload_n 0, 1) := by decide +kernel
theorem dX8_addSides_64 : decode cX8_addSides 64 = .ok (.getfield 61, 3) := by decide +kernel
theorem dX8_addSides_67 : decode cX8_addSides 67 = .ok (.invokevirtual 112, 3) := by decide +kernel
theorem dX8_addSides_70 : decode cX8_addSides 70 = .ok (.pop, 1) := by decide +kernel
theorem dX8_addSides_71 : decode cX8_addSides 71 = .ok (.iinc 4 1, 3) := by decide +kernel
theorem dX8_addSides_74 : decode cX8_addSides 74 = .ok (.goto (-66), 3) := by decide +kernel
theorem dX8_addSides_77 : decode cX8_addSides 77 = .ok (.return_, 1) := by decide +kernel
set_option maxRecDepth 20000 in
theorem ggX8_readHole_X5_clear : GoodIn wsX8_readHole wsX5_clear := goodIn_r _ [7, 8, 50, 51] (by decide +kernel) (by decide +kernel)
set_option maxRecDepth 20000 in
theorem gX8_readHole_X5_clear : GoodIn wsX8_readHole (wsV RX8 167 RX5 yX5_clear wsX5_clear) := goodIn_app (goodIn_of _ (by decide +kernel)) ggX8_readHole_X5_clear
set_option maxRecDepth 20000 in
theorem ggX8_readHole_X5_add : GoodIn wsX8_readHole wsX5_add := goodIn_r _ [12, 8, 13, 50, 51] (by decide +kernel) (by decide +kernel)
set_option maxRecDepth 20000 in
theorem gX8_readHole_X5_add : GoodIn wsX8_readHole (wsV RX8 215 RX5 yX5_add wsX5_add) := goodIn_app (goodIn_of _ (by decide +kernel)) ggX8_readHole_X5_add
set_option maxRecDepth 20000 in
theorem ggX8_readHole_X1_nextOpen : GoodIn wsX8_readHole wsX1_nextOpen := goodIn_r _ [18, 19, 20, 21, 17, 22, 23, 24, 25, 26, 27, 28, 29, 30, 31, 32, 33, 34, 35, 36, 6, 37, 8, 13, 38, 39, 40, 41, 52, 53, 54, 55, 56, 50, 51] (by decide +kernel) (by decide +kernel)
set_option maxRecDepth 20000 in
theorem gX8_readHole_X1_nextOpen : GoodIn wsX8_readHole (wsV RX8 336 RX1 yX1_nextOpen wsX1_nextOpen) := goodIn_app (goodIn_of _ (by decide +kernel)) ggX8_readHole_X1_nextOpen
theorem dX8_readHole_0 : decode cX8_readHole 0 = .ok (.aload_n 0, 1) := by decide +kernel
theorem dX8_readHole_1 : decode cX8_readHole 1 = .ok (.getfield 61, 3) := by decide +kernel
theorem dX8_readHole_4 : decode cX8_readHole 4 = .ok (.invokevirtual 167, 3) := by decide +kernel
theorem dX8_readHole_7 : decode cX8_readHole 7 = .ok (.iload_n 1, 1) := by decide +kernel
theorem dX8_readHole_8 : decode cX8_readHole 8 = .ok (.istore 4, 2) := by decide +kernel
theorem dX8_readHole_10 : decode cX8_readHole 10 = .ok (.iload_n 2, 1) := by decide +kernel
theorem dX8_readHole_11 : decode cX8_readHole 11 = .ok (.istore 5, 2) := by decide +kernel
theorem dX8_readHole_13 : decode cX8_readHole 13 = .ok (.iconst 0, 1) := by decide +kernel
theorem dX8_readHole_14 : decode cX8_readHole 14 = .ok (.istore 6, 2) := by decide +kernel
theorem dX8_readHole_16 : decode cX8_readHole 16 = .ok (.iload 6, 2) := by decide +kernel
theorem dX8_readHole_18 : decode cX8_readHole 18 = .ok (.iload_n 3, 1) := by decide +kernel
theorem dX8_readHole_19 : decode cX8_readHole 19 = .ok (.if_icmp .ge 39, 3) := by decide +kernel
theorem dX8_readHole_22 : decode cX8_readHole 22 = .ok (.aload_n 0, 1) := by decide +kernel
theorem dX8_readHole_23 : decode cX8_readHole 23 = .ok (.getfield 61, 3) := by decide +kernel
theorem dX8_readHole_26 : decode cX8_readHole 26 = .ok (.iload 4, 2) := by decide +kernel
theorem dX8_readHole_28 : decode cX8_readHole 28 = .ok (.invokevirtual 215, 3) := by decide +kernel
theorem dX8_readHole_31 : decode cX8_readHole 31 = .ok (.aload_n 0, 1) := by decide +kernel
theorem dX8_readHole_32 : decode cX8_readHole 32 = .ok (.getfield 19, 3) := by decide +kernel
theorem dX8_readHole_35 : decode cX8_readHole 35 = .ok (.iload 4, 2) := by decide +kernel
theorem dX8_readHole_37 : decode cX8_readHole 37 = .ok (.iload 5, 2) := by decide +kernel
theorem dX8_readHole_39 : decode cX8_readHole 39 = .ok (.invokevirtual 336, 3) := by decide +kernel
theorem dX8_readHole_42 : decode cX8_readHole 42 = .ok (.istore 7, 2) := by decide +kernel
theorem dX8_readHole_44 : decode cX8_readHole 44 = .ok (.iload 5, 2) := by decide +kernel
theorem dX8_readHole_46 : decode cX8_readHole 46 = .ok (.istore 4, 2) := by decide +kernel
theorem dX8_readHole_48 : decode cX8_readHole 48 = .ok (.iload 7, 2) := by decide +kernel
theorem dX8_readHole_50 : decode cX8_readHole 50 = .ok (.istore 5, 2) := by decide +kernel
theorem dX8_readHole_52 : decode cX8_readHole 52 = .ok (.iinc 6 1, 3) := by decide +kernel
theorem dX8_readHole_55 : decode cX8_readHole 55 = .ok (.goto (-39), 3) := by decide +kernel
theorem dX8_readHole_58 : decode cX8_readHole 58 = .ok (.return_, 1) := by decide +kernel
set_option maxRecDepth 20000 in
theorem ggX8_countAround_X1_neighboursOf : GoodIn wsX8_countAround wsX1_neighboursOf := goodIn_r _ [7, 8, 9, 10, 6, 11, 12, 13, 14, 15, 16, 85, 86, 87, 88, 89] (by decide +kernel) (by decide +kernel)
set_option maxRecDepth 20000 in
theorem gX8_countAround_X1_neighboursOf : GoodIn wsX8_countAround (wsV RX8 339 RX1 yX1_neighboursOf wsX1_neighboursOf) := goodIn_app (goodIn_of _ (by decide +kernel)) ggX8_countAround_X1_neighboursOf
set_option maxRecDepth 20000 in
theorem ggX8_countAround_X7_facesAt : GoodIn wsX8_countAround wsX7_facesAt := goodIn_r _ [21, 22, 23, 13, 14, 6, 15, 16, 90, 91, 92, 93, 94, 95, 85, 86, 87, 88, 89] (by decide +kernel) (by decide +kernel)
set_option maxRecDepth 20000 in
theorem gX8_countAround_X7_facesAt : GoodIn wsX8_countAround (wsV RX8 125 RX7 yX7_facesAt wsX7_facesAt) := goodIn_app (goodIn_of _ (by decide +kernel)) ggX8_countAround_X7_facesAt
set_option maxRecDepth 20000 in
theorem ggX8_countAround_X7_openFrom : GoodIn wsX8_countAround wsX7_openFrom := goodIn_r _ [27, 22, 28, 29, 30, 6, 31, 12, 13, 14, 15, 16, 90, 91, 92, 93, 94, 95, 85, 86, 87, 88, 89] (by decide +kernel) (by decide +kernel)
set_option maxRecDepth 20000 in
theorem gX8_countAround_X7_openFrom : GoodIn wsX8_countAround (wsV RX8 342 RX7 yX7_openFrom wsX7_openFrom) := goodIn_app (goodIn_of _ (by decide +kernel)) ggX8_countAround_X7_openFrom
set_option maxRecDepth 20000 in
theorem ggX8_countAround_X7_fanCount : GoodIn wsX8_countAround wsX7_fanCount := goodIn_r _ [35, 22, 36, 37, 38, 20, 39, 40, 23, 13, 14, 6, 15, 16, 41, 42, 43, 44, 45, 46, 47, 48, 49, 50, 51, 52, 53, 54, 55, 56, 57, 58, 59, 60, 61, 62, 63, 64, 65, 66, 67, 68, 69, 70, 71, 72, 73, 74, 75, 76, 90, 91, 92, 93, 94, 95, 85, 86, 87, 88, 89, 96, 97] (by decide +kernel) (by decide +kernel)
set_option maxRecDepth 20000 in
theorem gX8_countAround_X7_fanCount : GoodIn wsX8_countAround (wsV RX8 345 RX7 yX7_fanCount wsX7_fanCount) := goodIn_app (goodIn_of _ (by decide +kernel)) ggX8_countAround_X7_fanCount
theorem dX8_countAround_0 : decode cX8_countAround 0 = .ok (.iload_n 2, 1) := by decide +kernel
theorem dX8_countAround_1 : decode cX8_countAround 1 = .ok (.tableswitch 54 0 2 #[27, 36, 45], 27) := by decide +kernel
theorem dX8_countAround_28 : decode cX8_countAround 28 = .ok (.aload_n 0, 1) := by decide +kernel
theorem dX8_countAround_29 : decode cX8_countAround 29 = .ok (.getfield 19, 3) := by decide +kernel
theorem dX8_countAround_32 : decode cX8_countAround 32 = .ok (.iload_n 1, 1) := by decide +kernel
theorem dX8_countAround_33 : decode cX8_countAround 33 = .ok (.invokevirtual 339, 3) := by decide +kernel
theorem dX8_countAround_36 : decode cX8_countAround 36 = .ok (.ireturn, 1) := by decide +kernel
theorem dX8_countAround_37 : decode cX8_countAround 37 = .ok (.aload_n 0, 1) := by decide +kernel
theorem dX8_countAround_38 : decode cX8_countAround 38 = .ok (.getfield 31, 3) := by decide +kernel
theorem dX8_countAround_41 : decode cX8_countAround 41 = .ok (.iload_n 1, 1) := by decide +kernel
theorem dX8_countAround_42 : decode cX8_countAround 42 = .ok (.invokevirtual 125, 3) := by decide +kernel
theorem dX8_countAround_45 : decode cX8_countAround 45 = .ok (.ireturn, 1) := by decide +kernel
theorem dX8_countAround_46 : decode cX8_countAround 46 = .ok (.aload_n 0, 1) := by decide +kernel
theorem dX8_countAround_47 : decode cX8_countAround 47 = .ok (.getfield 31, 3) := by decide +kernel
theorem dX8_countAround_50 : decode cX8_countAround 50 = .ok (.iload_n 1, 1) := by decide +kernel
theorem dX8_countAround_51 : decode cX8_countAround 51 = .ok (.invokevirtual 342, 3) := by decide +kernel
theorem dX8_countAround_54 : decode cX8_countAround 54 = .ok (.ireturn, 1) := by decide +kernel
theorem dX8_countAround_55 : decode cX8_countAround 55 = .ok (.aload_n 0, 1) := by decide +kernel
theorem dX8_countAround_56 : decode cX8_countAround 56 = .ok (.getfield 31, 3) := by decide +kernel
theorem dX8_countAround_59 : decode cX8_countAround 59 = .ok (.iload_n 1, 1) := by decide +kernel
theorem dX8_countAround_60 : decode cX8_countAround 60 = .ok (.invokevirtual 345, 3) := by decide +kernel
theorem dX8_countAround_63 : decode cX8_countAround 63 = .ok (.ireturn, 1) := by decide +kernel
set_option maxRecDepth 20000 in
theorem ggX8_wholeBulk_X1_ever : GoodIn wsX8_wholeBulk wsX1_ever := goodIn_r _ [7, 8, 51, 52, 53, 54, 55] (by decide +kernel) (by decide +kernel)
set_option maxRecDepth 20000 in
theorem gX8_wholeBulk_X1_ever : GoodIn wsX8_wholeBulk (wsV RX8 236 RX1 yX1_ever wsX1_ever) := goodIn_app (goodIn_of _ (by decide +kernel)) ggX8_wholeBulk_X1_ever
set_option maxRecDepth 20000 in
theorem ggX8_wholeBulk_X1_ring : GoodIn wsX8_wholeBulk wsX1_ring := goodIn_r _ [12, 13, 14, 51, 52, 53, 54, 55] (by decide +kernel) (by decide +kernel)
set_option maxRecDepth 20000 in
theorem gX8_wholeBulk_X1_ring : GoodIn wsX8_wholeBulk (wsV RX8 157 RX1 yX1_ring wsX1_ring) := goodIn_app (goodIn_of _ (by decide +kernel)) ggX8_wholeBulk_X1_ring
set_option maxRecDepth 20000 in
theorem ggX8_wholeBulk_X3_bulkOf : GoodIn wsX8_wholeBulk wsX3_bulkOf := goodIn_r _ [19, 20, 21, 22, 23, 24, 25, 26, 27, 28, 29, 30, 31, 32, 33, 18, 34, 35, 36, 37, 38, 39, 40, 41, 42, 56, 57, 58, 59, 60, 61] (by decide +kernel) (by decide +kernel)
set_option maxRecDepth 20000 in
theorem gX8_wholeBulk_X3_bulkOf : GoodIn wsX8_wholeBulk (wsV RX8 286 RX3 yX3_bulkOf wsX3_bulkOf) := goodIn_app (goodIn_of _ (by decide +kernel)) ggX8_wholeBulk_X3_bulkOf
theorem dX8_wholeBulk_0 : decode cX8_wholeBulk 0 = .ok (.lconst 0, 1) := by decide +kernel
theorem dX8_wholeBulk_1 : decode cX8_wholeBulk 1 = .ok (.lstore_n 1, 1) := by decide +kernel
theorem dX8_wholeBulk_2 : decode cX8_wholeBulk 2 = .ok (.iconst 0, 1) := by decide +kernel
theorem dX8_wholeBulk_3 : decode cX8_wholeBulk 3 = .ok (.istore_n 3, 1) := by decide +kernel
theorem dX8_wholeBulk_4 : decode cX8_wholeBulk 4 = .ok (.iload_n 3, 1) := by decide +kernel
theorem dX8_wholeBulk_5 : decode cX8_wholeBulk 5 = .ok (.aload_n 0, 1) := by decide +kernel
theorem dX8_wholeBulk_6 : decode cX8_wholeBulk 6 = .ok (.getfield 19, 3) := by decide +kernel
theorem dX8_wholeBulk_9 : decode cX8_wholeBulk 9 = .ok (.invokevirtual 236, 3) := by decide +kernel
theorem dX8_wholeBulk_12 : decode cX8_wholeBulk 12 = .ok (.if_icmp .ge 27, 3) := by decide +kernel
theorem dX8_wholeBulk_15 : decode cX8_wholeBulk 15 = .ok (.lload_n 1, 1) := by decide +kernel
theorem dX8_wholeBulk_16 : decode cX8_wholeBulk 16 = .ok (.aload_n 0, 1) := by decide +kernel
theorem dX8_wholeBulk_17 : decode cX8_wholeBulk 17 = .ok (.getfield 12, 3) := by decide +kernel
theorem dX8_wholeBulk_20 : decode cX8_wholeBulk 20 = .ok (.aload_n 0, 1) := by decide +kernel
theorem dX8_wholeBulk_21 : decode cX8_wholeBulk 21 = .ok (.getfield 19, 3) := by decide +kernel
theorem dX8_wholeBulk_24 : decode cX8_wholeBulk 24 = .ok (.iload_n 3, 1) := by decide +kernel
theorem dX8_wholeBulk_25 : decode cX8_wholeBulk 25 = .ok (.invokevirtual 157, 3) := by decide +kernel
theorem dX8_wholeBulk_28 : decode cX8_wholeBulk 28 = .ok (.invokevirtual 286, 3) := by decide +kernel
theorem dX8_wholeBulk_31 : decode cX8_wholeBulk 31 = .ok (.ladd, 1) := by decide +kernel
theorem dX8_wholeBulk_32 : decode cX8_wholeBulk 32 = .ok (.lstore_n 1, 1) := by decide +kernel
theorem dX8_wholeBulk_33 : decode cX8_wholeBulk 33 = .ok (.iinc 3 1, 3) := by decide +kernel
theorem dX8_wholeBulk_36 : decode cX8_wholeBulk 36 = .ok (.goto (-32), 3) := by decide +kernel
theorem dX8_wholeBulk_39 : decode cX8_wholeBulk 39 = .ok (.lload_n 1, 1) := by decide +kernel
theorem dX8_wholeBulk_40 : decode cX8_wholeBulk 40 = .ok (.lreturn, 1) := by decide +kernel
set_option maxRecDepth 20000 in
theorem ggX8_sumOfSquares_X1_ever : GoodIn wsX8_sumOfSquares wsX1_ever := goodIn_r _ [7, 8, 56, 57, 58, 59, 60] (by decide +kernel) (by decide +kernel)
set_option maxRecDepth 20000 in
theorem gX8_sumOfSquares_X1_ever : GoodIn wsX8_sumOfSquares (wsV RX8 236 RX1 yX1_ever wsX1_ever) := goodIn_app (goodIn_of _ (by decide +kernel)) ggX8_sumOfSquares_X1_ever
set_option maxRecDepth 20000 in
theorem ggX8_sumOfSquares_X1_ring : GoodIn wsX8_sumOfSquares wsX1_ring := goodIn_r _ [12, 13, 14, 56, 57, 58, 59, 60] (by decide +kernel) (by decide +kernel)
set_option maxRecDepth 20000 in
theorem gX8_sumOfSquares_X1_ring : GoodIn wsX8_sumOfSquares (wsV RX8 157 RX1 yX1_ring wsX1_ring) := goodIn_app (goodIn_of _ (by decide +kernel)) ggX8_sumOfSquares_X1_ring
set_option maxRecDepth 20000 in
theorem ggX8_sumOfSquares_X5_length : GoodIn wsX8_sumOfSquares wsX5_length := goodIn_r _ [19, 20, 61, 62] (by decide +kernel) (by decide +kernel)
set_option maxRecDepth 20000 in
theorem gX8_sumOfSquares_X5_length : GoodIn wsX8_sumOfSquares (wsV RX8 164 RX5 yX5_length wsX5_length) := goodIn_app (goodIn_of _ (by decide +kernel)) ggX8_sumOfSquares_X5_length
set_option maxRecDepth 20000 in
theorem ggX8_sumOfSquares_X5_get : GoodIn wsX8_sumOfSquares wsX5_get := goodIn_r _ [24, 20, 25, 61, 62] (by decide +kernel) (by decide +kernel)
set_option maxRecDepth 20000 in
theorem gX8_sumOfSquares_X5_get : GoodIn wsX8_sumOfSquares (wsV RX8 210 RX5 yX5_get wsX5_get) := goodIn_app (goodIn_of _ (by decide +kernel)) ggX8_sumOfSquares_X5_get
set_option maxRecDepth 20000 in
theorem ggX8_sumOfSquares_X1_isToldBy : GoodIn wsX8_sumOfSquares wsX1_isToldBy := goodIn_r _ [29, 30, 31, 32, 6, 33, 34, 56, 57, 58, 59, 60] (by decide +kernel) (by decide +kernel)
set_option maxRecDepth 20000 in
theorem gX8_sumOfSquares_X1_isToldBy : GoodIn wsX8_sumOfSquares (wsV RX8 348 RX1 yX1_isToldBy wsX1_isToldBy) := goodIn_app (goodIn_of _ (by decide +kernel)) ggX8_sumOfSquares_X1_isToldBy
set_option maxRecDepth 20000 in
theorem ggX8_sumOfSquares_X3_squaredLength : GoodIn wsX8_sumOfSquares wsX3_squaredLength := goodIn_r _ [39, 40, 41, 42, 38, 43, 44, 45, 46, 47, 63, 64, 65, 66] (by decide +kernel) (by decide +kernel)
set_option maxRecDepth 20000 in
theorem gX8_sumOfSquares_X3_squaredLength : GoodIn wsX8_sumOfSquares (wsV RX8 351 RX3 yX3_squaredLength wsX3_squaredLength) := goodIn_app (goodIn_of _ (by decide +kernel)) ggX8_sumOfSquares_X3_squaredLength
theorem dX8_sumOfSquares_0 : decode cX8_sumOfSquares 0 = .ok (.lconst 0, 1) := by decide +kernel
theorem dX8_sumOfSquares_1 : decode cX8_sumOfSquares 1 = .ok (.lstore_n 1, 1) := by decide +kernel
theorem dX8_sumOfSquares_2 : decode cX8_sumOfSquares 2 = .ok (.iconst 0, 1) := by decide +kernel
theorem dX8_sumOfSquares_3 : decode cX8_sumOfSquares 3 = .ok (.istore_n 3, 1) := by decide +kernel
theorem dX8_sumOfSquares_4 : decode cX8_sumOfSquares 4 = .ok (.iload_n 3, 1) := by decide +kernel
theorem dX8_sumOfSquares_5 : decode cX8_sumOfSquares 5 = .ok (.aload_n 0, 1) := by decide +kernel
theorem dX8_sumOfSquares_6 : decode cX8_sumOfSquares 6 = .ok (.getfield 19, 3) := by decide +kernel
theorem dX8_sumOfSquares_9 : decode cX8_sumOfSquares 9 = .ok (.invokevirtual 236, 3) := by decide +kernel
theorem dX8_sumOfSquares_12 : decode cX8_sumOfSquares 12 = .ok (.if_icmp .ge 91, 3) := by decide +kernel
theorem dX8_sumOfSquares_15 : decode cX8_sumOfSquares 15 = .ok (.aload_n 0, 1) := by decide +kernel
theorem dX8_sumOfSquares_16 : decode cX8_sumOfSquares 16 = .ok (.getfield 19, 3) := by decide +kernel
theorem dX8_sumOfSquares_19 : decode cX8_sumOfSquares 19 = .ok (.iload_n 3, 1) := by decide +kernel
theorem dX8_sumOfSquares_20 : decode cX8_sumOfSquares 20 = .ok (.invokevirtual 157, 3) := by decide +kernel
theorem dX8_sumOfSquares_23 : decode cX8_sumOfSquares 23 = .ok (.astore 4, 2) := by decide +kernel
theorem dX8_sumOfSquares_25 : decode cX8_sumOfSquares 25 = .ok (.iconst 0, 1) := by decide +kernel
theorem dX8_sumOfSquares_26 : decode cX8_sumOfSquares 26 = .ok (.istore 5, 2) := by decide +kernel
theorem dX8_sumOfSquares_28 : decode cX8_sumOfSquares 28 = .ok (.iload 5, 2) := by decide +kernel
theorem dX8_sumOfSquares_30 : decode cX8_sumOfSquares 30 = .ok (.aload 4, 2) := by decide +kernel
theorem dX8_sumOfSquares_32 : decode cX8_sumOfSquares 32 = .ok (.invokevirtual 164, 3) := by decide +kernel
theorem dX8_sumOfSquares_35 : decode cX8_sumOfSquares 35 = .ok (.if_icmp .ge 62, 3) := by decide +kernel
theorem dX8_sumOfSquares_38 : decode cX8_sumOfSquares 38 = .ok (.aload_n 0, 1) := by decide +kernel
theorem dX8_sumOfSquares_39 : decode cX8_sumOfSquares 39 = .ok (.getfield 19, 3) := by decide +kernel
theorem dX8_sumOfSquares_42 : decode cX8_sumOfSquares 42 = .ok (.aload 4, 2) := by decide +kernel
theorem dX8_sumOfSquares_44 : decode cX8_sumOfSquares 44 = .ok (.iload 5, 2) := by decide +kernel
theorem dX8_sumOfSquares_46 : decode cX8_sumOfSquares 46 = .ok (.invokevirtual 210, 3) := by decide +kernel
theorem dX8_sumOfSquares_49 : decode cX8_sumOfSquares 49 = .ok (.aload 4, 2) := by decide +kernel
theorem dX8_sumOfSquares_51 : decode cX8_sumOfSquares 51 = .ok (.iload 5, 2) := by decide +kernel
theorem dX8_sumOfSquares_53 : decode cX8_sumOfSquares 53 = .ok (.iconst 1, 1) := by decide +kernel
theorem dX8_sumOfSquares_54 : decode cX8_sumOfSquares 54 = .ok (.iadd, 1) := by decide +kernel
theorem dX8_sumOfSquares_55 : decode cX8_sumOfSquares 55 = .ok (.invokevirtual 210, 3) := by decide +kernel
theorem dX8_sumOfSquares_58 : decode cX8_sumOfSquares 58 = .ok (.invokevirtual 348, 3) := by decide +kernel
theorem dX8_sumOfSquares_61 : decode cX8_sumOfSquares 61 = .ok (.ifCond .eq 30, 3) := by decide +kernel
theorem dX8_sumOfSquares_64 : decode cX8_sumOfSquares 64 = .ok (.lload_n 1, 1) := by decide +kernel
theorem dX8_sumOfSquares_65 : decode cX8_sumOfSquares 65 = .ok (.aload_n 0, 1) := by decide +kernel
theorem dX8_sumOfSquares_66 : decode cX8_sumOfSquares 66 = .ok (.getfield 12, 3) := by decide +kernel
theorem dX8_sumOfSquares_69 : decode cX8_sumOfSquares 69 = .ok (.aload 4, 2) := by decide +kernel
theorem dX8_sumOfSquares_71 : decode cX8_sumOfSquares 71 = .ok (.iload 5, 2) := by decide +kernel
theorem dX8_sumOfSquares_73 : decode cX8_sumOfSquares 73 = .ok (.invokevirtual 210, 3) := by decide +kernel
theorem dX8_sumOfSquares_76 : decode cX8_sumOfSquares 76 = .ok (.aload 4, 2) := by decide +kernel
theorem dX8_sumOfSquares_78 : decode cX8_sumOfSquares 78 = .ok (.iload 5, 2) := by decide +kernel
theorem dX8_sumOfSquares_80 : decode cX8_sumOfSquares 80 = .ok (.iconst 1, 1) := by decide +kernel
theorem dX8_sumOfSquares_81 : decode cX8_sumOfSquares 81 = .ok (.iadd, 1) := by decide +kernel
theorem dX8_sumOfSquares_82 : decode cX8_sumOfSquares 82 = .ok (.invokevirtual 210, 3) := by decide +kernel
theorem dX8_sumOfSquares_85 : decode cX8_sumOfSquares 85 = .ok (.invokevirtual 351, 3) := by decide +kernel
theorem dX8_sumOfSquares_88 : decode cX8_sumOfSquares 88 = .ok (.i2l, 1) := by decide +kernel
theorem dX8_sumOfSquares_89 : decode cX8_sumOfSquares 89 = .ok (.ladd, 1) := by decide +kernel
theorem dX8_sumOfSquares_90 : decode cX8_sumOfSquares 90 = .ok (.lstore_n 1, 1) := by decide +kernel
theorem dX8_sumOfSquares_91 : decode cX8_sumOfSquares 91 = .ok (.iinc 5 1, 3) := by decide +kernel
theorem dX8_sumOfSquares_94 : decode cX8_sumOfSquares 94 = .ok (.goto (-66), 3) := by decide +kernel
theorem dX8_sumOfSquares_97 : decode cX8_sumOfSquares 97 = .ok (.iinc 3 1, 3) := by decide +kernel
theorem dX8_sumOfSquares_100 : decode cX8_sumOfSquares 100 = .ok (.goto (-96), 3) := by decide +kernel
theorem dX8_sumOfSquares_103 : decode cX8_sumOfSquares 103 = .ok (.lload_n 1, 1) := by decide +kernel
theorem dX8_sumOfSquares_104 : decode cX8_sumOfSquares 104 = .ok (.lreturn, 1) := by decide +kernel
set_option maxRecDepth 20000 in
theorem ggX8_countPairs_X1_ever : GoodIn wsX8_countPairs wsX1_ever := goodIn_r _ [6, 7, 127, 128, 129, 130, 131] (by decide +kernel) (by decide +kernel)
set_option maxRecDepth 20000 in
theorem gX8_countPairs_X1_ever : GoodIn wsX8_countPairs (wsV RX8 236 RX1 yX1_ever wsX1_ever) := goodIn_app (goodIn_of _ (by decide +kernel)) ggX8_countPairs_X1_ever
set_option maxRecDepth 20000 in
theorem ggX8_countPairs_X1_ring : GoodIn wsX8_countPairs wsX1_ring := goodIn_r _ [11, 12, 13, 127, 128, 129, 130, 131] (by decide +kernel) (by decide +kernel)
set_option maxRecDepth 20000 in
theorem gX8_countPairs_X1_ring : GoodIn wsX8_countPairs (wsV RX8 157 RX1 yX1_ring wsX1_ring) := goodIn_app (goodIn_of _ (by decide +kernel)) ggX8_countPairs_X1_ring
set_option maxRecDepth 20000 in
theorem ggX8_countPairs_X5_length : GoodIn wsX8_countPairs wsX5_length := goodIn_r _ [18, 19, 132, 133] (by decide +kernel) (by decide +kernel)
set_option maxRecDepth 20000 in
theorem gX8_countPairs_X5_length : GoodIn wsX8_countPairs (wsV RX8 164 RX5 yX5_length wsX5_length) := goodIn_app (goodIn_of _ (by decide +kernel)) ggX8_countPairs_X5_length
set_option maxRecDepth 20000 in
theorem ggX8_countPairs_X5_get : GoodIn wsX8_countPairs wsX5_get := goodIn_r _ [23, 19, 24, 132, 133] (by decide +kernel) (by decide +kernel)
set_option maxRecDepth 20000 in
theorem gX8_countPairs_X5_get : GoodIn wsX8_countPairs (wsV RX8 210 RX5 yX5_get wsX5_get) := goodIn_app (goodIn_of _ (by decide +kernel)) ggX8_countPairs_X5_get
set_option maxRecDepth 20000 in
theorem ggX8_countPairs_X8_isAllowed : GoodIn wsX8_countPairs wsX8_isAllowed := goodIn_r _ [29, 30, 1, 31, 32, 33, 34, 35, 36, 37, 38, 39, 40, 41, 42, 43, 44, 45, 46, 5, 47, 48, 49, 50, 51, 52, 53, 54, 9, 10, 11, 12, 13, 55, 56, 57, 17, 58, 19, 24, 59, 60, 61, 62, 63, 15, 16, 18, 64, 21, 22, 23, 65, 66, 67, 68, 69, 70, 71, 72, 73, 74, 75, 76, 77, 78, 28, 79, 80, 81, 82, 83, 84, 85, 86, 87, 88, 89, 8, 14, 90, 91, 92, 93, 94, 95, 96, 97, 98, 99, 100, 101, 102, 103, 104, 105, 106, 107, 108, 109, 110, 111, 112, 113, 20, 114, 119, 120, 121, 122, 123, 124, 125, 126, 134, 135, 136, 137, 138, 127, 128, 129, 130, 131, 132, 133] (by decide +kernel) (by decide +kernel)
set_option maxRecDepth 20000 in
theorem gX8_countPairs_X8_isAllowed : GoodIn wsX8_countPairs (wsV RX8 354 RX8 yX8_isAllowed wsX8_isAllowed) := goodIn_app (goodIn_of _ (by decide +kernel)) ggX8_countPairs_X8_isAllowed
set_option maxRecDepth 20000 in
theorem ggX8_countPairs_X1_isOpen : GoodIn wsX8_countPairs wsX1_isOpen := goodIn_r _ [118, 105, 45, 46, 5, 47, 48, 127, 128, 129, 130, 131] (by decide +kernel) (by decide +kernel)
set_option maxRecDepth 20000 in
theorem gX8_countPairs_X1_isOpen : GoodIn wsX8_countPairs (wsV RX8 221 RX1 yX1_isOpen wsX1_isOpen) := goodIn_app (goodIn_of _ (by decide +kernel)) ggX8_countPairs_X1_isOpen
theorem dX8_countPairs_0 : decode cX8_countPairs 0 = .ok (.iconst 0, 1) := by decide +kernel
theorem dX8_countPairs_1 : decode cX8_countPairs 1 = .ok (.istore_n 2, 1) := by decide +kernel
theorem dX8_countPairs_2 : decode cX8_countPairs 2 = .ok (.iconst 0, 1) := by decide +kernel
theorem dX8_countPairs_3 : decode cX8_countPairs 3 = .ok (.istore_n 3, 1) := by decide +kernel
theorem dX8_countPairs_4 : decode cX8_countPairs 4 = .ok (.iload_n 3, 1) := by decide +kernel
theorem dX8_countPairs_5 : decode cX8_countPairs 5 = .ok (.aload_n 0, 1) := by decide +kernel
theorem dX8_countPairs_6 : decode cX8_countPairs 6 = .ok (.getfield 19, 3) := by decide +kernel
theorem dX8_countPairs_9 : decode cX8_countPairs 9 = .ok (.invokevirtual 236, 3) := by decide +kernel
theorem dX8_countPairs_12 : decode cX8_countPairs 12 = .ok (.if_icmp .ge 112, 3) := by decide +kernel
theorem dX8_countPairs_15 : decode cX8_countPairs 15 = .ok (.aload_n 0, 1) := by decide +kernel
theorem dX8_countPairs_16 : decode cX8_countPairs 16 = .ok (.getfield 19, 3) := by decide +kernel
theorem dX8_countPairs_19 : decode cX8_countPairs 19 = .ok (.iload_n 3, 1) := by decide +kernel
theorem dX8_countPairs_20 : decode cX8_countPairs 20 = .ok (.invokevirtual 157, 3) := by decide +kernel
theorem dX8_countPairs_23 : decode cX8_countPairs 23 = .ok (.astore 4, 2) := by decide +kernel
theorem dX8_countPairs_25 : decode cX8_countPairs 25 = .ok (.iconst 0, 1) := by decide +kernel
theorem dX8_countPairs_26 : decode cX8_countPairs 26 = .ok (.istore 5, 2) := by decide +kernel
theorem dX8_countPairs_28 : decode cX8_countPairs 28 = .ok (.iload 5, 2) := by decide +kernel
theorem dX8_countPairs_30 : decode cX8_countPairs 30 = .ok (.aload 4, 2) := by decide +kernel
theorem dX8_countPairs_32 : decode cX8_countPairs 32 = .ok (.invokevirtual 164, 3) := by decide +kernel
theorem dX8_countPairs_35 : decode cX8_countPairs 35 = .ok (.if_icmp .ge 83, 3) := by decide +kernel
theorem dX8_countPairs_38 : decode cX8_countPairs 38 = .ok (.aload 4, 2) := by decide +kernel
theorem dX8_countPairs_40 : decode cX8_countPairs 40 = .ok (.iload 5, 2) := by decide +kernel
theorem dX8_countPairs_42 : decode cX8_countPairs 42 = .ok (.invokevirtual 210, 3) := by decide +kernel
theorem dX8_countPairs_45 : decode cX8_countPairs 45 = .ok (.istore 6, 2) := by decide +kernel
theorem dX8_countPairs_47 : decode cX8_countPairs 47 = .ok (.aload 4, 2) := by decide +kernel
theorem dX8_countPairs_49 : decode cX8_countPairs 49 = .ok (.iload 5, 2) := by decide +kernel
theorem dX8_countPairs_51 : decode cX8_countPairs 51 = .ok (.iconst 1, 1) := by decide +kernel
theorem dX8_countPairs_52 : decode cX8_countPairs 52 = .ok (.iadd, 1) := by decide +kernel
theorem dX8_countPairs_53 : decode cX8_countPairs 53 = .ok (.invokevirtual 210, 3) := by decide +kernel
theorem dX8_countPairs_56 : decode cX8_countPairs 56 = .ok (.istore 7, 2) := by decide +kernel
theorem dX8_countPairs_58 : decode cX8_countPairs 58 = .ok (.iload_n 2, 1) := by decide +kernel
theorem dX8_countPairs_59 : decode cX8_countPairs 59 = .ok (.aload_n 0, 1) := by decide +kernel
theorem dX8_countPairs_60 : decode cX8_countPairs 60 = .ok (.iload_n 1, 1) := by decide +kernel
theorem dX8_countPairs_61 : decode cX8_countPairs 61 = .ok (.iload 6, 2) := by decide +kernel
theorem dX8_countPairs_63 : decode cX8_countPairs 63 = .ok (.iload 7, 2) := by decide +kernel
theorem dX8_countPairs_65 : decode cX8_countPairs 65 = .ok (.invokevirtual 354, 3) := by decide +kernel
theorem dX8_countPairs_68 : decode cX8_countPairs 68 = .ok (.ifCond .eq 7, 3) := by decide +kernel
theorem dX8_countPairs_71 : decode cX8_countPairs 71 = .ok (.iconst 1, 1) := by decide +kernel
theorem dX8_countPairs_72 : decode cX8_countPairs 72 = .ok (.goto 4, 3) := by decide +kernel
theorem dX8_countPairs_75 : decode cX8_countPairs 75 = .ok (.iconst 0, 1) := by decide +kernel
theorem dX8_countPairs_76 : decode cX8_countPairs 76 = .ok (.iadd, 1) := by decide +kernel
theorem dX8_countPairs_77 : decode cX8_countPairs 77 = .ok (.istore_n 2, 1) := by decide +kernel
theorem dX8_countPairs_78 : decode cX8_countPairs 78 = .ok (.iload_n 2, 1) := by decide +kernel
theorem dX8_countPairs_79 : decode cX8_countPairs 79 = .ok (.aload_n 0, 1) := by decide +kernel
theorem dX8_countPairs_80 : decode cX8_countPairs 80 = .ok (.getfield 19, 3) := by decide +kernel
theorem dX8_countPairs_83 : decode cX8_countPairs 83 = .ok (.iload 7, 2) := by decide +kernel
theorem dX8_countPairs_85 : decode cX8_countPairs 85 = .ok (.iload 6, 2) := by decide +kernel
theorem dX8_countPairs_87 : decode cX8_countPairs 87 = .ok (.invokevirtual 221, 3) := by decide +kernel
theorem dX8_countPairs_90 : decode cX8_countPairs 90 = .ok (.ifCond .eq 19, 3) := by decide +kernel
theorem dX8_countPairs_93 : decode cX8_countPairs 93 = .ok (.aload_n 0, 1) := by decide +kernel
theorem dX8_countPairs_94 : decode cX8_countPairs 94 = .ok (.iload_n 1, 1) := by decide +kernel
theorem dX8_countPairs_95 : decode cX8_countPairs 95 = .ok (.iload 7, 2) := by decide +kernel
theorem dX8_countPairs_97 : decode cX8_countPairs 97 = .ok (.iload 6, 2) := by decide +kernel
theorem dX8_countPairs_99 : decode cX8_countPairs 99 = .ok (.invokevirtual 354, 3) := by decide +kernel
theorem dX8_countPairs_102 : decode cX8_countPairs 102 = .ok (.ifCond .eq 7, 3) := by decide +kernel
theorem dX8_countPairs_105 : decode cX8_countPairs 105 = .ok (.iconst 1, 1) := by decide +kernel
theorem dX8_countPairs_106 : decode cX8_countPairs 106 = .ok (.goto 4, 3) := by decide +kernel
theorem dX8_countPairs_109 : decode cX8_countPairs 109 = .ok (.iconst 0, 1) := by decide +kernel
theorem dX8_countPairs_110 : decode cX8_countPairs 110 = .ok (.iadd, 1) := by decide +kernel
theorem dX8_countPairs_111 : decode cX8_countPairs 111 = .ok (.istore_n 2, 1) := by decide +kernel
theorem dX8_countPairs_112 : decode cX8_countPairs 112 = .ok (.iinc 5 1, 3) := by decide +kernel
theorem dX8_countPairs_115 : decode cX8_countPairs 115 = .ok (.goto (-87), 3) := by decide +kernel
theorem dX8_countPairs_118 : decode cX8_countPairs 118 = .ok (.iinc 3 1, 3) := by decide +kernel
theorem dX8_countPairs_121 : decode cX8_countPairs 121 = .ok (.goto (-117), 3) := by decide +kernel
theorem dX8_countPairs_124 : decode cX8_countPairs 124 = .ok (.iload_n 2, 1) := by decide +kernel
theorem dX8_countPairs_125 : decode cX8_countPairs 125 = .ok (.ireturn, 1) := by decide +kernel
set_option maxRecDepth 20000 in
theorem ggX8_isAllowed_X0_fits : GoodIn wsX8_isAllowed wsX0_fits := goodIn_r _ [7, 8, 9, 10, 11, 12, 13, 14, 15, 16, 17, 18, 19, 20, 21, 22, 23, 24, 6, 25, 26, 27, 28, 29, 30, 31, 32, 33, 34, 35, 36, 37, 38, 39, 40, 41, 42, 43, 44, 45, 46, 47, 48, 49, 50, 51, 52, 53, 54, 55, 56, 57, 58, 59, 60, 61, 62, 63, 64, 65, 66, 67, 68, 69, 70, 71, 72, 114, 115, 116, 117, 118, 119, 120, 121, 122, 123, 124, 125] (by decide +kernel) (by decide +kernel)
set_option maxRecDepth 20000 in
theorem gX8_isAllowed_X0_fits : GoodIn wsX8_isAllowed (wsV RX8 184 RX0 yX0_fits wsX0_fits) := goodIn_app (goodIn_of _ (by decide +kernel)) ggX8_isAllowed_X0_fits
set_option maxRecDepth 20000 in
theorem ggX8_isAllowed_X8_isBetweenTriangles : GoodIn wsX8_isAllowed wsX8_isBetweenTriangles := goodIn_r _ [76, 2, 77, 17, 18, 19, 20, 21, 78, 28, 29, 30, 31, 32, 79, 45, 46, 36, 47, 38, 106, 107, 108, 109, 110, 111, 112, 113, 119, 120, 121, 122, 123, 124, 125] (by decide +kernel) (by decide +kernel)
set_option maxRecDepth 20000 in
theorem gX8_isAllowed_X8_isBetweenTriangles : GoodIn wsX8_isAllowed (wsV RX8 190 RX8 yX8_isBetweenTriangles wsX8_isBetweenTriangles) := goodIn_app (goodIn_of _ (by decide +kernel)) ggX8_isAllowed_X8_isBetweenTriangles
set_option maxRecDepth 20000 in
theorem ggX8_isAllowed_X8_flipFits : GoodIn wsX8_isAllowed wsX8_flipFits := goodIn_r _ [83, 2, 77, 17, 18, 19, 20, 21, 84, 85, 86, 87, 88, 28, 29, 30, 31, 32, 89, 34, 35, 36, 37, 38, 39, 90, 49, 50, 51, 91, 92, 93, 94, 95, 106, 107, 108, 109, 110, 111, 112, 113, 119, 120, 121, 122, 123, 124, 125] (by decide +kernel) (by decide +kernel)
set_option maxRecDepth 20000 in
theorem gX8_isAllowed_X8_flipFits : GoodIn wsX8_isAllowed (wsV RX8 193 RX8 yX8_flipFits wsX8_flipFits) := goodIn_app (goodIn_of _ (by decide +kernel)) ggX8_isAllowed_X8_flipFits
set_option maxRecDepth 20000 in
theorem ggX8_isAllowed_X1_isInner : GoodIn wsX8_isAllowed wsX1_isInner := goodIn_r _ [99, 95, 17, 18, 19, 20, 21, 119, 120, 121, 122, 123] (by decide +kernel) (by decide +kernel)
set_option maxRecDepth 20000 in
theorem gX8_isAllowed_X1_isInner : GoodIn wsX8_isAllowed (wsV RX8 178 RX1 yX1_isInner wsX1_isInner) := goodIn_app (goodIn_of _ (by decide +kernel)) ggX8_isAllowed_X1_isInner
set_option maxRecDepth 20000 in
theorem ggX8_isAllowed_X8_joinFits : GoodIn wsX8_isAllowed wsX8_joinFits := goodIn_r _ [103, 2, 77, 17, 18, 19, 20, 21, 78, 28, 29, 30, 31, 32, 79, 45, 46, 36, 47, 38, 104, 49, 50, 51, 39, 105, 34, 35, 37, 106, 107, 108, 109, 110, 111, 112, 113, 119, 120, 121, 122, 123, 124, 125] (by decide +kernel) (by decide +kernel)
set_option maxRecDepth 20000 in
theorem gX8_isAllowed_X8_joinFits : GoodIn wsX8_isAllowed (wsV RX8 181 RX8 yX8_joinFits wsX8_joinFits) := goodIn_app (goodIn_of _ (by decide +kernel)) ggX8_isAllowed_X8_joinFits
theorem dX8_isAllowed_0 : decode cX8_isAllowed 0 = .ok (.iload_n 1, 1) := by decide +kernel
theorem dX8_isAllowed_1 : decode cX8_isAllowed 1 = .ok (.lookupswitch 61 #[(0, 27), (1, 37)], 27) := by decide +kernel
theorem dX8_isAllowed_28 : decode cX8_isAllowed 28 = .ok (.aload_n 0, 1) := by decide +kernel
theorem dX8_isAllowed_29 : decode cX8_isAllowed 29 = .ok (.getfield 38, 3) := by decide +kernel
theorem dX8_isAllowed_32 : decode cX8_isAllowed 32 = .ok (.iload_n 2, 1) := by decide +kernel
theorem dX8_isAllowed_33 : decode cX8_isAllowed 33 = .ok (.iload_n 3, 1) := by decide +kernel
theorem dX8_isAllowed_34 : decode cX8_isAllowed 34 = .ok (.invokevirtual 184, 3) := by decide +kernel
theorem dX8_isAllowed_37 : decode cX8_isAllowed 37 = .ok (.ireturn, 1) := by decide +kernel
theorem dX8_isAllowed_38 : decode cX8_isAllowed 38 = .ok (.aload_n 0, 1) := by decide +kernel
theorem dX8_isAllowed_39 : decode cX8_isAllowed 39 = .ok (.iload_n 2, 1) := by decide +kernel
theorem dX8_isAllowed_40 : decode cX8_isAllowed 40 = .ok (.iload_n 3, 1) := by decide +kernel
theorem dX8_isAllowed_41 : decode cX8_isAllowed 41 = .ok (.invokevirtual 190, 3) := by decide +kernel
theorem dX8_isAllowed_44 : decode cX8_isAllowed 44 = .ok (.ifCond .eq 16, 3) := by decide +kernel
theorem dX8_isAllowed_47 : decode cX8_isAllowed 47 = .ok (.aload_n 0, 1) := by decide +kernel
theorem dX8_isAllowed_48 : decode cX8_isAllowed 48 = .ok (.iload_n 2, 1) := by decide +kernel
theorem dX8_isAllowed_49 : decode cX8_isAllowed 49 = .ok (.iload_n 3, 1) := by decide +kernel
theorem dX8_isAllowed_50 : decode cX8_isAllowed 50 = .ok (.invokevirtual 193, 3) := by decide +kernel
theorem dX8_isAllowed_53 : decode cX8_isAllowed 53 = .ok (.ifCond .eq 7, 3) := by decide +kernel
theorem dX8_isAllowed_56 : decode cX8_isAllowed 56 = .ok (.iconst 1, 1) := by decide +kernel
theorem dX8_isAllowed_57 : decode cX8_isAllowed 57 = .ok (.goto 4, 3) := by decide +kernel
theorem dX8_isAllowed_60 : decode cX8_isAllowed 60 = .ok (.iconst 0, 1) := by decide +kernel
theorem dX8_isAllowed_61 : decode cX8_isAllowed 61 = .ok (.ireturn, 1) := by decide +kernel
theorem dX8_isAllowed_62 : decode cX8_isAllowed 62 = .ok (.aload_n 0, 1) := by decide +kernel
theorem dX8_isAllowed_63 : decode cX8_isAllowed 63 = .ok (.getfield 19, 3) := by decide +kernel
theorem dX8_isAllowed_66 : decode cX8_isAllowed 66 = .ok (.iload_n 2, 1) := by decide +kernel
theorem dX8_isAllowed_67 : decode cX8_isAllowed 67 = .ok (.iload_n 3, 1) := by decide +kernel
theorem dX8_isAllowed_68 : decode cX8_isAllowed 68 = .ok (.invokevirtual 178, 3) := by decide +kernel
theorem dX8_isAllowed_71 : decode cX8_isAllowed 71 = .ok (.ifCond .eq 16, 3) := by decide +kernel
theorem dX8_isAllowed_74 : decode cX8_isAllowed 74 = .ok (.aload_n 0, 1) := by decide +kernel
theorem dX8_isAllowed_75 : decode cX8_isAllowed 75 = .ok (.iload_n 2, 1) := by decide +kernel
theorem dX8_isAllowed_76 : decode cX8_isAllowed 76 = .ok (.iload_n 3, 1) := by decide +kernel
theorem dX8_isAllowed_77 : decode cX8_isAllowed 77 = .ok (.invokevirtual 181, 3) := by decide +kernel
theorem dX8_isAllowed_80 : decode cX8_isAllowed 80 = .ok (.ifCond .eq 7, 3) := by decide +kernel
theorem dX8_isAllowed_83 : decode cX8_isAllowed 83 = .ok (.iconst 1, 1) := by decide +kernel
theorem dX8_isAllowed_84 : decode cX8_isAllowed 84 = .ok (.goto 4, 3) := by decide +kernel
theorem dX8_isAllowed_87 : decode cX8_isAllowed 87 = .ok (.iconst 0, 1) := by decide +kernel
theorem dX8_isAllowed_88 : decode cX8_isAllowed 88 = .ok (.ireturn, 1) := by decide +kernel
theorem dX8_mix_0 : decode cX8_mix 0 = .ok (.lload_n 0, 1) := by decide +kernel
theorem dX8_mix_1 : decode cX8_mix 1 = .ok (.ldc2_w 358, 3) := by decide +kernel
theorem dX8_mix_4 : decode cX8_mix 4 = .ok (.lmul, 1) := by decide +kernel
theorem dX8_mix_5 : decode cX8_mix 5 = .ok (.lload_n 2, 1) := by decide +kernel
theorem dX8_mix_6 : decode cX8_mix 6 = .ok (.ladd, 1) := by decide +kernel
theorem dX8_mix_7 : decode cX8_mix 7 = .ok (.lreturn, 1) := by decide +kernel
set_option maxRecDepth 20000 in
theorem ggX8_mixPoint_X8_mix : GoodIn wsX8_mixPoint wsX8_mix := goodIn_r _ [5, 6] (by decide +kernel) (by decide +kernel)
set_option maxRecDepth 20000 in
theorem gX8_mixPoint_X8_mix : GoodIn wsX8_mixPoint (va_wsS RX8 298 yX8_mix wsX8_mix) := goodIn_app (goodIn_of _ (by decide +kernel)) ggX8_mixPoint_X8_mix
set_option maxRecDepth 20000 in
theorem ggX8_mixPoint_X3_get : GoodIn wsX8_mixPoint wsX3_get := goodIn_r _ [11, 12, 13, 4, 14, 102, 103, 104, 105] (by decide +kernel) (by decide +kernel)
set_option maxRecDepth 20000 in
theorem gX8_mixPoint_X3_get : GoodIn wsX8_mixPoint (wsV RX8 88 RX3 yX3_get wsX3_get) := goodIn_app (goodIn_of _ (by decide +kernel)) ggX8_mixPoint_X3_get
set_option maxRecDepth 20000 in
theorem ggX8_mixPoint_X8_countAround : GoodIn wsX8_mixPoint wsX8_countAround := goodIn_r _ [18, 19, 20, 21, 22, 23, 24, 25, 26, 27, 28, 29, 30, 31, 32, 33, 34, 35, 36, 37, 38, 39, 40, 41, 42, 43, 44, 45, 46, 47, 48, 49, 50, 51, 52, 53, 54, 55, 56, 57, 58, 59, 60, 61, 62, 63, 4, 64, 65, 66, 67, 68, 69, 70, 71, 72, 73, 74, 75, 76, 77, 78, 79, 80, 81, 82, 83, 84, 85, 86, 87, 88, 89, 90, 91, 92, 93, 94, 95, 96, 97, 98, 99, 100, 101, 106, 107, 108, 109, 110, 111, 112, 113, 114, 115, 116, 117, 118] (by decide +kernel) (by decide +kernel)
set_option maxRecDepth 20000 in
theorem gX8_mixPoint_X8_countAround : GoodIn wsX8_mixPoint (wsV RX8 262 RX8 yX8_countAround wsX8_countAround) := goodIn_app (goodIn_of _ (by decide +kernel)) ggX8_mixPoint_X8_countAround
theorem dX8_mixPoint_0 : decode cX8_mixPoint 0 = .ok (.lload_n 1, 1) := by decide +kernel
theorem dX8_mixPoint_1 : decode cX8_mixPoint 1 = .ok (.iload_n 3, 1) := by decide +kernel
theorem dX8_mixPoint_2 : decode cX8_mixPoint 2 = .ok (.i2l, 1) := by decide +kernel
theorem dX8_mixPoint_3 : decode cX8_mixPoint 3 = .ok (.invokestatic 298, 3) := by decide +kernel
theorem dX8_mixPoint_6 : decode cX8_mixPoint 6 = .ok (.lstore 4, 2) := by decide +kernel
theorem dX8_mixPoint_8 : decode cX8_mixPoint 8 = .ok (.iconst 0, 1) := by decide +kernel
theorem dX8_mixPoint_9 : decode cX8_mixPoint 9 = .ok (.istore 6, 2) := by decide +kernel
theorem dX8_mixPoint_11 : decode cX8_mixPoint 11 = .ok (.iload 6, 2) := by decide +kernel
theorem dX8_mixPoint_13 : decode cX8_mixPoint 13 = .ok (.iconst 3, 1) := by decide +kernel
theorem dX8_mixPoint_14 : decode cX8_mixPoint 14 = .ok (.if_icmp .ge 27, 3) := by decide +kernel
theorem dX8_mixPoint_17 : decode cX8_mixPoint 17 = .ok (.lload 4, 2) := by decide +kernel
theorem dX8_mixPoint_19 : decode cX8_mixPoint 19 = .ok (.aload_n 0, 1) := by decide +kernel
theorem dX8_mixPoint_20 : decode cX8_mixPoint 20 = .ok (.getfield 12, 3) := by decide +kernel
theorem dX8_mixPoint_23 : decode cX8_mixPoint 23 = .ok (.iload_n 3, 1) := by decide +kernel
theorem dX8_mixPoint_24 : decode cX8_mixPoint 24 = .ok (.iload 6, 2) := by decide +kernel
theorem dX8_mixPoint_26 : decode cX8_mixPoint 26 = .ok (.invokevirtual 88, 3) := by decide +kernel
theorem dX8_mixPoint_29 : decode cX8_mixPoint 29 = .ok (.i2l, 1) := by decide +kernel
theorem dX8_mixPoint_30 : decode cX8_mixPoint 30 = .ok (.invokestatic 298, 3) := by decide +kernel
theorem dX8_mixPoint_33 : decode cX8_mixPoint 33 = .ok (.lstore 4, 2) := by decide +kernel
theorem dX8_mixPoint_35 : decode cX8_mixPoint 35 = .ok (.iinc 6 1, 3) := by decide +kernel
theorem dX8_mixPoint_38 : decode cX8_mixPoint 38 = .ok (.goto (-27), 3) := by decide +kernel
theorem dX8_mixPoint_41 : decode cX8_mixPoint 41 = .ok (.iconst 0, 1) := by decide +kernel
theorem dX8_mixPoint_42 : decode cX8_mixPoint 42 = .ok (.istore 6, 2) := by decide +kernel
theorem dX8_mixPoint_44 : decode cX8_mixPoint 44 = .ok (.iload 6, 2) := by decide +kernel
theorem dX8_mixPoint_46 : decode cX8_mixPoint 46 = .ok (.iconst 3, 1) := by decide +kernel
theorem dX8_mixPoint_47 : decode cX8_mixPoint 47 = .ok (.if_icmp .gt 24, 3) := by decide +kernel
theorem dX8_mixPoint_50 : decode cX8_mixPoint 50 = .ok (.lload 4, 2) := by decide +kernel
theorem dX8_mixPoint_52 : decode cX8_mixPoint 52 = .ok (.aload_n 0, 1) := by decide +kernel
theorem dX8_mixPoint_53 : decode cX8_mixPoint 53 = .ok (.iload_n 3, 1) := by decide +kernel
theorem dX8_mixPoint_54 : decode cX8_mixPoint 54 = .ok (.iload 6, 2) := by decide +kernel
theorem dX8_mixPoint_56 : decode cX8_mixPoint 56 = .ok (.invokevirtual 262, 3) := by decide +kernel
theorem dX8_mixPoint_59 : decode cX8_mixPoint 59 = .ok (.i2l, 1) := by decide +kernel
theorem dX8_mixPoint_60 : decode cX8_mixPoint 60 = .ok (.invokestatic 298, 3) := by decide +kernel
theorem dX8_mixPoint_63 : decode cX8_mixPoint 63 = .ok (.lstore 4, 2) := by decide +kernel
theorem dX8_mixPoint_65 : decode cX8_mixPoint 65 = .ok (.iinc 6 1, 3) := by decide +kernel
theorem dX8_mixPoint_68 : decode cX8_mixPoint 68 = .ok (.goto (-24), 3) := by decide +kernel
theorem dX8_mixPoint_71 : decode cX8_mixPoint 71 = .ok (.lload 4, 2) := by decide +kernel
theorem dX8_mixPoint_73 : decode cX8_mixPoint 73 = .ok (.lreturn, 1) := by decide +kernel
set_option maxRecDepth 20000 in
theorem ggX8_mixFace_X1_ring : GoodIn wsX8_mixFace wsX1_ring := goodIn_r _ [7, 8, 9, 48, 49, 50, 51, 52] (by decide +kernel) (by decide +kernel)
set_option maxRecDepth 20000 in
theorem gX8_mixFace_X1_ring : GoodIn wsX8_mixFace (wsV RX8 157 RX1 yX1_ring wsX1_ring) := goodIn_app (goodIn_of _ (by decide +kernel)) ggX8_mixFace_X1_ring
set_option maxRecDepth 20000 in
theorem ggX8_mixFace_X8_mix : GoodIn wsX8_mixFace wsX8_mix := goodIn_r _ [13, 14] (by decide +kernel) (by decide +kernel)
set_option maxRecDepth 20000 in
theorem gX8_mixFace_X8_mix : GoodIn wsX8_mixFace (va_wsS RX8 298 yX8_mix wsX8_mix) := goodIn_app (goodIn_of _ (by decide +kernel)) ggX8_mixFace_X8_mix
set_option maxRecDepth 20000 in
theorem ggX8_mixFace_X5_length : GoodIn wsX8_mixFace wsX5_length := goodIn_r _ [19, 20, 53, 54] (by decide +kernel) (by decide +kernel)
set_option maxRecDepth 20000 in
theorem gX8_mixFace_X5_length : GoodIn wsX8_mixFace (wsV RX8 164 RX5 yX5_length wsX5_length) := goodIn_app (goodIn_of _ (by decide +kernel)) ggX8_mixFace_X5_length
set_option maxRecDepth 20000 in
theorem ggX8_mixFace_X5_get : GoodIn wsX8_mixFace wsX5_get := goodIn_r _ [24, 20, 25, 53, 54] (by decide +kernel) (by decide +kernel)
set_option maxRecDepth 20000 in
theorem gX8_mixFace_X5_get : GoodIn wsX8_mixFace (wsV RX8 210 RX5 yX5_get wsX5_get) := goodIn_app (goodIn_of _ (by decide +kernel)) ggX8_mixFace_X5_get
set_option maxRecDepth 20000 in
theorem ggX8_mixFace_X3_normalOf : GoodIn wsX8_mixFace wsX3_normalOf := goodIn_r _ [30, 31, 16, 17, 18, 19, 20, 32, 22, 23, 24, 25, 33, 34, 35, 29, 36, 37, 38, 12, 39, 53, 54, 55, 56, 57, 58] (by decide +kernel) (by decide +kernel)
set_option maxRecDepth 20000 in
theorem gX8_mixFace_X3_normalOf : GoodIn wsX8_mixFace (wsV RX8 265 RX3 yX3_normalOf wsX3_normalOf) := goodIn_app (goodIn_of _ (by decide +kernel)) ggX8_mixFace_X3_normalOf
theorem dX8_mixFace_0 : decode cX8_mixFace 0 = .ok (.aload_n 0, 1) := by decide +kernel
theorem dX8_mixFace_1 : decode cX8_mixFace 1 = .ok (.getfield 19, 3) := by decide +kernel
theorem dX8_mixFace_4 : decode cX8_mixFace 4 = .ok (.iload_n 3, 1) := by decide +kernel
theorem dX8_mixFace_5 : decode cX8_mixFace 5 = .ok (.invokevirtual 157, 3) := by decide +kernel
theorem dX8_mixFace_8 : decode cX8_mixFace 8 = .ok (.astore 4, 2) := by decide +kernel
theorem dX8_mixFace_10 : decode cX8_mixFace 10 = .ok (.lload_n 1, 1) := by decide +kernel
theorem dX8_mixFace_11 : decode cX8_mixFace 11 = .ok (.iload_n 3, 1) := by decide +kernel
theorem dX8_mixFace_12 : decode cX8_mixFace 12 = .ok (.i2l, 1) := by decide +kernel
theorem dX8_mixFace_13 : decode cX8_mixFace 13 = .ok (.invokestatic 298, 3) := by decide +kernel
theorem dX8_mixFace_16 : decode cX8_mixFace 16 = .ok (.aload 4, 2) := by decide +kernel
theorem dX8_mixFace_18 : decode cX8_mixFace 18 = .ok (.invokevirtual 164, 3) := by decide +kernel
theorem dX8_mixFace_21 : decode cX8_mixFace 21 = .ok (.i2l, 1) := by decide +kernel
theorem dX8_mixFace_22 : decode cX8_mixFace 22 = .ok (.invokestatic 298, 3) := by decide +kernel
theorem dX8_mixFace_25 : decode cX8_mixFace 25 = .ok (.lstore 5, 2) := by decide +kernel
theorem dX8_mixFace_27 : decode cX8_mixFace 27 = .ok (.iconst 0, 1) := by decide +kernel
theorem dX8_mixFace_28 : decode cX8_mixFace 28 = .ok (.istore 7, 2) := by decide +kernel
theorem dX8_mixFace_30 : decode cX8_mixFace 30 = .ok (.iload 7, 2) := by decide +kernel
theorem dX8_mixFace_32 : decode cX8_mixFace 32 = .ok (.aload 4, 2) := by decide +kernel
theorem dX8_mixFace_34 : decode cX8_mixFace 34 = .ok (.invokevirtual 164, 3) := by decide +kernel
theorem dX8_mixFace_37 : decode cX8_mixFace 37 = .ok (.if_icmp .ge 24, 3) := by decide +kernel
theorem dX8_mixFace_40 : decode cX8_mixFace 40 = .ok (.lload 5, 2) := by decide +kernel
theorem dX8_mixFace_42 : decode cX8_mixFace 42 = .ok (.aload 4, 2) := by decide +kernel
theorem dX8_mixFace_44 : decode cX8_mixFace 44 = .ok (.iload 7, 2) := by decide +kernel
theorem dX8_mixFace_46 : decode cX8_mixFace 46 = .ok (.invokevirtual 210, 3) := by decide +kernel
theorem dX8_mixFace_49 : decode cX8_mixFace 49 = .ok (.i2l, 1) := by decide +kernel
theorem dX8_mixFace_50 : decode cX8_mixFace 50 = .ok (.invokestatic 298, 3) := by decide +kernel
theorem dX8_mixFace_53 : decode cX8_mixFace 53 = .ok (.lstore 5, 2) := by decide +kernel
theorem dX8_mixFace_55 : decode cX8_mixFace 55 = .ok (.iinc 7 1, 3) := by decide +kernel
theorem dX8_mixFace_58 : decode cX8_mixFace 58 = .ok (.goto (-28), 3) := by decide +kernel
theorem dX8_mixFace_61 : decode cX8_mixFace 61 = .ok (.iconst 0, 1) := by decide +kernel
theorem dX8_mixFace_62 : decode cX8_mixFace 62 = .ok (.istore 7, 2) := by decide +kernel
theorem dX8_mixFace_64 : decode cX8_mixFace 64 = .ok (.iload 7, 2) := by decide +kernel
theorem dX8_mixFace_66 : decode cX8_mixFace 66 = .ok (.iconst 3, 1) := by decide +kernel
theorem dX8_mixFace_67 : decode cX8_mixFace 67 = .ok (.if_icmp .ge 28, 3) := by decide +kernel
theorem dX8_mixFace_70 : decode cX8_mixFace 70 = .ok (.lload 5, 2) := by decide +kernel
theorem dX8_mixFace_72 : decode cX8_mixFace 72 = .ok (.aload_n 0, 1) := by decide +kernel
theorem dX8_mixFace_73 : decode cX8_mixFace 73 = .ok (.getfield 12, 3) := by decide +kernel
theorem dX8_mixFace_76 : decode cX8_mixFace 76 = .ok (.aload 4, 2) := by decide +kernel
theorem dX8_mixFace_78 : decode cX8_mixFace 78 = .ok (.iload 7, 2) := by decide +kernel
theorem dX8_mixFace_80 : decode cX8_mixFace 80 = .ok (.invokevirtual 265, 3) := by decide +kernel
theorem dX8_mixFace_83 : decode cX8_mixFace 83 = .ok (.i2l, 1) := by decide +kernel
theorem dX8_mixFace_84 : decode cX8_mixFace 84 = .ok (.invokestatic 298, 3) := by decide +kernel
theorem dX8_mixFace_87 : decode cX8_mixFace 87 = .ok (.lstore 5, 2) := by decide +kernel
theorem dX8_mixFace_89 : decode cX8_mixFace 89 = .ok (.iinc 7 1, 3) := by decide +kernel
theorem dX8_mixFace_92 : decode cX8_mixFace 92 = .ok (.goto (-28), 3) := by decide +kernel
theorem dX8_mixFace_95 : decode cX8_mixFace 95 = .ok (.lload 5, 2) := by decide +kernel
theorem dX8_mixFace_97 : decode cX8_mixFace 97 = .ok (.lreturn, 1) := by decide +kernel
theorem dX8_isPointNumber_0 : decode cX8_isPointNumber 0 = .ok (.iload_n 0, 1) := by decide +kernel
theorem dX8_isPointNumber_1 : decode cX8_isPointNumber 1 = .ok (.ifCond .lt 13, 3) := by decide +kernel
theorem dX8_isPointNumber_4 : decode cX8_isPointNumber 4 = .ok (.iload_n 0, 1) := by decide +kernel
theorem dX8_isPointNumber_5 : decode cX8_isPointNumber 5 = .ok (.bipush 100, 2) := by decide +kernel
theorem dX8_isPointNumber_7 : decode cX8_isPointNumber 7 = .ok (.if_icmp .ge 7, 3) := by decide +kernel
theorem dX8_isPointNumber_10 : decode cX8_isPointNumber 10 = .ok (.iconst 1, 1) := by decide +kernel
theorem dX8_isPointNumber_11 : decode cX8_isPointNumber 11 = .ok (.goto 4, 3) := by decide +kernel
theorem dX8_isPointNumber_14 : decode cX8_isPointNumber 14 = .ok (.iconst 0, 1) := by decide +kernel
theorem dX8_isPointNumber_15 : decode cX8_isPointNumber 15 = .ok (.ireturn, 1) := by decide +kernel
theorem dX8_isFaceNumber_0 : decode cX8_isFaceNumber 0 = .ok (.iload_n 0, 1) := by decide +kernel
theorem dX8_isFaceNumber_1 : decode cX8_isFaceNumber 1 = .ok (.ifCond .lt 14, 3) := by decide +kernel
theorem dX8_isFaceNumber_4 : decode cX8_isFaceNumber 4 = .ok (.iload_n 0, 1) := by decide +kernel
theorem dX8_isFaceNumber_5 : decode cX8_isFaceNumber 5 = .ok (.sipush 160, 3) := by decide +kernel
theorem dX8_isFaceNumber_8 : decode cX8_isFaceNumber 8 = .ok (.if_icmp .ge 7, 3) := by decide +kernel
theorem dX8_isFaceNumber_11 : decode cX8_isFaceNumber 11 = .ok (.iconst 1, 1) := by decide +kernel
theorem dX8_isFaceNumber_12 : decode cX8_isFaceNumber 12 = .ok (.goto 4, 3) := by decide +kernel
theorem dX8_isFaceNumber_15 : decode cX8_isFaceNumber 15 = .ok (.iconst 0, 1) := by decide +kernel
theorem dX8_isFaceNumber_16 : decode cX8_isFaceNumber 16 = .ok (.ireturn, 1) := by decide +kernel
