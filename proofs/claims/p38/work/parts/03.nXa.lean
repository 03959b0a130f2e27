set_option maxRecDepth 20000 in
theorem ggX0_init_X5_init : GoodIn wsX0_init wsX5_init := goodIn_r _ [11, 12, 2, 3, 13, 14, 15, 16] (by decide +kernel) (by decide +kernel)
set_option maxRecDepth 20000 in
theorem gX0_init_X5_init_n11 : GoodIn wsX0_init (wsX5_init) := ggX0_init_X5_init
theorem dX0_init_0 : decode cX0_init 0 = .ok (.aload_n 0, 1) := by decide +kernel
theorem dX0_init_1 : decode cX0_init 1 = .ok (.invokespecial 3, 3) := by decide +kernel
theorem dX0_init_4 : decode cX0_init 4 = .ok (.aload_n 0, 1) := by decide +kernel
theorem dX0_init_5 : decode cX0_init 5 = .ok (.new 9, 3) := by decide +kernel
theorem dX0_init_8 : decode cX0_init 8 = .ok (.dup, 1) := by decide +kernel
theorem dX0_init_9 : decode cX0_init 9 = .ok (.invokespecial 11, 3) := by decide +kernel
theorem dX0_init_12 : decode cX0_init 12 = .ok (.putfield 12, 3) := by decide +kernel
theorem dX0_init_15 : decode cX0_init 15 = .ok (.aload_n 0, 1) := by decide +kernel
theorem dX0_init_16 : decode cX0_init 16 = .ok (.aload_n 1, 1) := by decide +kernel
theorem dX0_init_17 : decode cX0_init 17 = .ok (.putfield 18, 3) := by decide +kernel
theorem dX0_init_20 : decode cX0_init 20 = .ok (.aload_n 0, 1) := by decide +kernel
theorem dX0_init_21 : decode cX0_init 21 = .ok (.aload_n 2, 1) := by decide +kernel
theorem dX0_init_22 : decode cX0_init 22 = .ok (.putfield 22, 3) := by decide +kernel
theorem dX0_init_25 : decode cX0_init 25 = .ok (.return_, 1) := by decide +kernel
set_option maxRecDepth 20000 in
theorem ggX0_shape_X1_ring : GoodIn wsX0_shape wsX1_ring := goodIn_r _ [7, 8, 9, 36, 37, 38, 39, 40] (by decide +kernel) (by decide +kernel)
set_option maxRecDepth 20000 in
theorem gX0_shape_X1_ring : GoodIn wsX0_shape (wsV RX0 26 RX1 yX1_ring wsX1_ring) := goodIn_app (goodIn_of _ (by decide +kernel)) ggX0_shape_X1_ring
set_option maxRecDepth 20000 in
theorem ggX0_shape_X5_placeOf : GoodIn wsX0_shape wsX5_placeOf := goodIn_r _ [14, 15, 16, 41, 42] (by decide +kernel) (by decide +kernel)
set_option maxRecDepth 20000 in
theorem gX0_shape_X5_placeOf : GoodIn wsX0_shape (wsV RX0 32 RX5 yX5_placeOf wsX5_placeOf) := goodIn_app (goodIn_of _ (by decide +kernel)) ggX0_shape_X5_placeOf
set_option maxRecDepth 20000 in
theorem ggX0_shape_X5_clear : GoodIn wsX0_shape wsX5_clear := goodIn_r _ [20, 15, 41, 42] (by decide +kernel) (by decide +kernel)
set_option maxRecDepth 20000 in
theorem gX0_shape_X5_clear : GoodIn wsX0_shape (wsV RX0 36 RX5 yX5_clear wsX5_clear) := goodIn_app (goodIn_of _ (by decide +kernel)) ggX0_shape_X5_clear
set_option maxRecDepth 20000 in
theorem ggX0_shape_X5_length : GoodIn wsX0_shape wsX5_length := goodIn_r _ [24, 15, 41, 42] (by decide +kernel) (by decide +kernel)
set_option maxRecDepth 20000 in
theorem gX0_shape_X5_length : GoodIn wsX0_shape (wsV RX0 39 RX5 yX5_length wsX5_length) := goodIn_app (goodIn_of _ (by decide +kernel)) ggX0_shape_X5_length
set_option maxRecDepth 20000 in
theorem ggX0_shape_X5_get : GoodIn wsX0_shape wsX5_get := goodIn_r _ [28, 15, 16, 41, 42] (by decide +kernel) (by decide +kernel)
set_option maxRecDepth 20000 in
theorem gX0_shape_X5_get : GoodIn wsX0_shape (wsV RX0 43 RX5 yX5_get wsX5_get) := goodIn_app (goodIn_of _ (by decide +kernel)) ggX0_shape_X5_get
set_option maxRecDepth 20000 in
theorem ggX0_shape_X5_add : GoodIn wsX0_shape wsX5_add := goodIn_r _ [32, 15, 16, 41, 42] (by decide +kernel) (by decide +kernel)
set_option maxRecDepth 20000 in
theorem gX0_shape_X5_add : GoodIn wsX0_shape (wsV RX0 46 RX5 yX5_add wsX5_add) := goodIn_app (goodIn_of _ (by decide +kernel)) ggX0_shape_X5_add
theorem dX0_shape_0 : decode cX0_shape 0 = .ok (.aload_n 0, 1) := by decide +kernel
theorem dX0_shape_1 : decode cX0_shape 1 = .ok (.getfield 18, 3) := by decide +kernel
theorem dX0_shape_4 : decode cX0_shape 4 = .ok (.iload_n 1, 1) := by decide +kernel
theorem dX0_shape_5 : decode cX0_shape 5 = .ok (.invokevirtual 26, 3) := by decide +kernel
theorem dX0_shape_8 : decode cX0_shape 8 = .ok (.astore 4, 2) := by decide +kernel
theorem dX0_shape_10 : decode cX0_shape 10 = .ok (.aload 4, 2) := by decide +kernel
theorem dX0_shape_12 : decode cX0_shape 12 = .ok (.iload_n 2, 1) := by decide +kernel
theorem dX0_shape_13 : decode cX0_shape 13 = .ok (.invokevirtual 32, 3) := by decide +kernel
theorem dX0_shape_16 : decode cX0_shape 16 = .ok (.iconst (-1), 1) := by decide +kernel
theorem dX0_shape_17 : decode cX0_shape 17 = .ok (.if_icmp .ne 7, 3) := by decide +kernel
theorem dX0_shape_20 : decode cX0_shape 20 = .ok (.iconst 1, 1) := by decide +kernel
theorem dX0_shape_21 : decode cX0_shape 21 = .ok (.goto 4, 3) := by decide +kernel
theorem dX0_shape_24 : decode cX0_shape 24 = .ok (.iconst 0, 1) := by decide +kernel
theorem dX0_shape_25 : decode cX0_shape 25 = .ok (.istore 5, 2) := by decide +kernel
theorem dX0_shape_27 : decode cX0_shape 27 = .ok (.aload_n 0, 1) := by decide +kernel
theorem dX0_shape_28 : decode cX0_shape 28 = .ok (.getfield 12, 3) := by decide +kernel
theorem dX0_shape_31 : decode cX0_shape 31 = .ok (.invokevirtual 36, 3) := by decide +kernel
theorem dX0_shape_34 : decode cX0_shape 34 = .ok (.iconst 0, 1) := by decide +kernel
theorem dX0_shape_35 : decode cX0_shape 35 = .ok (.istore 6, 2) := by decide +kernel
theorem dX0_shape_37 : decode cX0_shape 37 = .ok (.iload 6, 2) := by decide +kernel
theorem dX0_shape_39 : decode cX0_shape 39 = .ok (.aload 4, 2) := by decide +kernel
theorem dX0_shape_41 : decode cX0_shape 41 = .ok (.invokevirtual 39, 3) := by decide +kernel
theorem dX0_shape_44 : decode cX0_shape 44 = .ok (.if_icmp .ge 49, 3) := by decide +kernel
theorem dX0_shape_47 : decode cX0_shape 47 = .ok (.aload 4, 2) := by decide +kernel
theorem dX0_shape_49 : decode cX0_shape 49 = .ok (.iload 6, 2) := by decide +kernel
theorem dX0_shape_51 : decode cX0_shape 51 = .ok (.invokevirtual 43, 3) := by decide +kernel
theorem dX0_shape_54 : decode cX0_shape 54 = .ok (.istore 7, 2) := by decide +kernel
theorem dX0_shape_56 : decode cX0_shape 56 = .ok (.iload 7, 2) := by decide +kernel
theorem dX0_shape_58 : decode cX0_shape 58 = .ok (.iload_n 3, 1) := by decide +kernel
theorem dX0_shape_59 : decode cX0_shape 59 = .ok (.if_icmp .eq 15, 3) := by decide +kernel
theorem dX0_shape_62 : decode cX0_shape 62 = .ok (.aload_n 0, 1) := by decide +kernel
theorem dX0_shape_63 : decode cX0_shape 63 = .ok (.getfield 12, 3) := by decide +kernel
theorem dX0_shape_66 : decode cX0_shape 66 = .ok (.iload 7, 2) := by decide +kernel
theorem dX0_shape_68 : decode cX0_shape 68 = .ok (.invokevirtual 46, 3) := by decide +kernel
theorem dX0_shape_71 : decode cX0_shape 71 = .ok (.goto 16, 3) := by decide +kernel
theorem dX0_shape_74 : decode cX0_shape 74 = .ok (.iload 5, 2) := by decide +kernel
theorem dX0_shape_76 : decode cX0_shape 76 = .ok (.ifCond .eq 11, 3) := by decide +kernel
theorem dX0_shape_79 : decode cX0_shape 79 = .ok (.aload_n 0, 1) := by decide +kernel
theorem dX0_shape_80 : decode cX0_shape 80 = .ok (.getfield 12, 3) := by decide +kernel
theorem dX0_shape_83 : decode cX0_shape 83 = .ok (.iload_n 2, 1) := by decide +kernel
theorem dX0_shape_84 : decode cX0_shape 84 = .ok (.invokevirtual 46, 3) := by decide +kernel
theorem dX0_shape_87 : decode cX0_shape 87 = .ok (.iinc 6 1, 3) := by decide +kernel
theorem dX0_shape_90 : decode cX0_shape 90 = .ok (.goto (-53), 3) := by decide +kernel
theorem dX0_shape_93 : decode cX0_shape 93 = .ok (.aload_n 0, 1) := by decide +kernel
theorem dX0_shape_94 : decode cX0_shape 94 = .ok (.getfield 12, 3) := by decide +kernel
theorem dX0_shape_97 : decode cX0_shape 97 = .ok (.areturn, 1) := by decide +kernel
set_option maxRecDepth 20000 in
theorem ggX0_fits_X2_takeOff : GoodIn wsX0_fits wsX2_takeOff := goodIn_r _ [7, 8, 70, 71] (by decide +kernel) (by decide +kernel)
set_option maxRecDepth 20000 in
theorem gX0_fits_X2_takeOff : GoodIn wsX0_fits (wsV RX0 50 RX2 yX2_takeOff wsX2_takeOff) := goodIn_app (goodIn_of _ (by decide +kernel)) ggX0_fits_X2_takeOff
set_option maxRecDepth 20000 in
theorem ggX0_fits_X1_owner : GoodIn wsX0_fits wsX1_owner := goodIn_r _ [13, 14, 72, 73, 74, 75, 76] (by decide +kernel) (by decide +kernel)
set_option maxRecDepth 20000 in
theorem gX0_fits_X1_owner : GoodIn wsX0_fits (wsV RX0 55 RX1 yX1_owner wsX1_owner) := goodIn_app (goodIn_of _ (by decide +kernel)) ggX0_fits_X1_owner
set_option maxRecDepth 20000 in
theorem ggX0_fits_X0_shape : GoodIn wsX0_fits wsX0_shape := goodIn_r _ [19, 2, 20, 21, 22, 23, 12, 24, 25, 26, 27, 28, 29, 30, 31, 32, 33, 34, 35, 36, 37, 38, 39, 40, 41, 42, 43, 44, 45, 46, 47, 48, 49, 67, 68, 69, 72, 73, 74, 75, 76, 77, 78] (by decide +kernel) (by decide +kernel)
set_option maxRecDepth 20000 in
theorem gX0_fits_X0_shape : GoodIn wsX0_fits (wsV RX0 59 RX0 yX0_shape wsX0_shape) := goodIn_app (goodIn_of _ (by decide +kernel)) ggX0_fits_X0_shape
set_option maxRecDepth 20000 in
theorem ggX0_fits_X5_length : GoodIn wsX0_fits wsX5_length := goodIn_r _ [41, 32, 77, 78] (by decide +kernel) (by decide +kernel)
set_option maxRecDepth 20000 in
theorem gX0_fits_X5_length : GoodIn wsX0_fits (wsV RX0 39 RX5 yX5_length wsX5_length) := goodIn_app (goodIn_of _ (by decide +kernel)) ggX0_fits_X5_length
set_option maxRecDepth 20000 in
theorem ggX0_fits_X0_halvesFit : GoodIn wsX0_fits wsX0_halvesFit := goodIn_r _ [53, 2, 1, 38, 39, 40, 30, 41, 32, 42, 43, 44, 45, 33, 9, 10, 11, 12, 13, 14, 21, 22, 23, 24, 25, 26, 27, 28, 29, 31, 54, 55, 56, 6, 57, 58, 8, 59, 60, 61, 67, 68, 69, 77, 78, 72, 73, 74, 75, 76, 70, 71] (by decide +kernel) (by decide +kernel)
set_option maxRecDepth 20000 in
theorem gX0_fits_X0_halvesFit : GoodIn wsX0_fits (wsV RX0 63 RX0 yX0_halvesFit wsX0_halvesFit) := goodIn_app (goodIn_of _ (by decide +kernel)) ggX0_fits_X0_halvesFit
set_option maxRecDepth 20000 in
theorem ggX0_fits_X1_left : GoodIn wsX0_fits wsX1_left := goodIn_r _ [65, 66, 72, 73, 74, 75, 76] (by decide +kernel) (by decide +kernel)
set_option maxRecDepth 20000 in
theorem gX0_fits_X1_left : GoodIn wsX0_fits (wsV RX0 67 RX1 yX1_left wsX1_left) := goodIn_app (goodIn_of _ (by decide +kernel)) ggX0_fits_X1_left
theorem dX0_fits_0 : decode cX0_fits 0 = .ok (.aload_n 0, 1) := by decide +kernel
theorem dX0_fits_1 : decode cX0_fits 1 = .ok (.getfield 22, 3) := by decide +kernel
theorem dX0_fits_4 : decode cX0_fits 4 = .ok (.invokevirtual 50, 3) := by decide +kernel
theorem dX0_fits_7 : decode cX0_fits 7 = .ok (.iconst 0, 1) := by decide +kernel
theorem dX0_fits_8 : decode cX0_fits 8 = .ok (.istore_n 3, 1) := by decide +kernel
theorem dX0_fits_9 : decode cX0_fits 9 = .ok (.iconst 0, 1) := by decide +kernel
theorem dX0_fits_10 : decode cX0_fits 10 = .ok (.istore 4, 2) := by decide +kernel
theorem dX0_fits_12 : decode cX0_fits 12 = .ok (.iload 4, 2) := by decide +kernel
theorem dX0_fits_14 : decode cX0_fits 14 = .ok (.bipush 100, 2) := by decide +kernel
theorem dX0_fits_16 : decode cX0_fits 16 = .ok (.if_icmp .ge 64, 3) := by decide +kernel
theorem dX0_fits_19 : decode cX0_fits 19 = .ok (.aload_n 0, 1) := by decide +kernel
theorem dX0_fits_20 : decode cX0_fits 20 = .ok (.getfield 18, 3) := by decide +kernel
theorem dX0_fits_23 : decode cX0_fits 23 = .ok (.iload_n 2, 1) := by decide +kernel
theorem dX0_fits_24 : decode cX0_fits 24 = .ok (.iload 4, 2) := by decide +kernel
theorem dX0_fits_26 : decode cX0_fits 26 = .ok (.invokevirtual 55, 3) := by decide +kernel
theorem dX0_fits_29 : decode cX0_fits 29 = .ok (.istore 5, 2) := by decide +kernel
theorem dX0_fits_31 : decode cX0_fits 31 = .ok (.iload 5, 2) := by decide +kernel
theorem dX0_fits_33 : decode cX0_fits 33 = .ok (.iconst (-1), 1) := by decide +kernel
theorem dX0_fits_34 : decode cX0_fits 34 = .ok (.if_icmp .eq 40, 3) := by decide +kernel
theorem dX0_fits_37 : decode cX0_fits 37 = .ok (.aload_n 0, 1) := by decide +kernel
theorem dX0_fits_38 : decode cX0_fits 38 = .ok (.iload 5, 2) := by decide +kernel
theorem dX0_fits_40 : decode cX0_fits 40 = .ok (.iload_n 1, 1) := by decide +kernel
theorem dX0_fits_41 : decode cX0_fits 41 = .ok (.iload_n 2, 1) := by decide +kernel
theorem dX0_fits_42 : decode cX0_fits 42 = .ok (.invokevirtual 59, 3) := by decide +kernel
theorem dX0_fits_45 : decode cX0_fits 45 = .ok (.astore 6, 2) := by decide +kernel
theorem dX0_fits_47 : decode cX0_fits 47 = .ok (.aload 6, 2) := by decide +kernel
theorem dX0_fits_49 : decode cX0_fits 49 = .ok (.invokevirtual 39, 3) := by decide +kernel
theorem dX0_fits_52 : decode cX0_fits 52 = .ok (.iconst 3, 1) := by decide +kernel
theorem dX0_fits_53 : decode cX0_fits 53 = .ok (.if_icmp .ge 9, 3) := by decide +kernel
theorem dX0_fits_56 : decode cX0_fits 56 = .ok (.iinc 3 1, 3) := by decide +kernel
theorem dX0_fits_59 : decode cX0_fits 59 = .ok (.goto 15, 3) := by decide +kernel
theorem dX0_fits_62 : decode cX0_fits 62 = .ok (.aload_n 0, 1) := by decide +kernel
theorem dX0_fits_63 : decode cX0_fits 63 = .ok (.aload 6, 2) := by decide +kernel
theorem dX0_fits_65 : decode cX0_fits 65 = .ok (.iload_n 2, 1) := by decide +kernel
theorem dX0_fits_66 : decode cX0_fits 66 = .ok (.invokevirtual 63, 3) := by decide +kernel
theorem dX0_fits_69 : decode cX0_fits 69 = .ok (.ifCond .ne 5, 3) := by decide +kernel
theorem dX0_fits_72 : decode cX0_fits 72 = .ok (.iconst 0, 1) := by decide +kernel
theorem dX0_fits_73 : decode cX0_fits 73 = .ok (.ireturn, 1) := by decide +kernel
theorem dX0_fits_74 : decode cX0_fits 74 = .ok (.iinc 4 1, 3) := by decide +kernel
theorem dX0_fits_77 : decode cX0_fits 77 = .ok (.goto (-65), 3) := by decide +kernel
theorem dX0_fits_80 : decode cX0_fits 80 = .ok (.iload_n 3, 1) := by decide +kernel
theorem dX0_fits_81 : decode cX0_fits 81 = .ok (.aload_n 0, 1) := by decide +kernel
theorem dX0_fits_82 : decode cX0_fits 82 = .ok (.getfield 18, 3) := by decide +kernel
theorem dX0_fits_85 : decode cX0_fits 85 = .ok (.invokevirtual 67, 3) := by decide +kernel
theorem dX0_fits_88 : decode cX0_fits 88 = .ok (.if_icmp .ge 7, 3) := by decide +kernel
theorem dX0_fits_91 : decode cX0_fits 91 = .ok (.iconst 1, 1) := by decide +kernel
theorem dX0_fits_92 : decode cX0_fits 92 = .ok (.goto 4, 3) := by decide +kernel
theorem dX0_fits_95 : decode cX0_fits 95 = .ok (.iconst 0, 1) := by decide +kernel
theorem dX0_fits_96 : decode cX0_fits 96 = .ok (.ireturn, 1) := by decide +kernel
set_option maxRecDepth 20000 in
theorem ggX0_halvesFit_X5_length : GoodIn wsX0_halvesFit wsX5_length := goodIn_r _ [7, 8, 43, 44] (by decide +kernel) (by decide +kernel)
set_option maxRecDepth 20000 in
theorem gX0_halvesFit_X5_length : GoodIn wsX0_halvesFit (wsV RX0 39 RX5 yX5_length wsX5_length) := goodIn_app (goodIn_of _ (by decide +kernel)) ggX0_halvesFit_X5_length
set_option maxRecDepth 20000 in
theorem ggX0_halvesFit_X5_get : GoodIn wsX0_halvesFit wsX5_get := goodIn_r _ [12, 8, 13, 43, 44] (by decide +kernel) (by decide +kernel)
set_option maxRecDepth 20000 in
theorem gX0_halvesFit_X5_get : GoodIn wsX0_halvesFit (wsV RX0 43 RX5 yX5_get wsX5_get) := goodIn_app (goodIn_of _ (by decide +kernel)) ggX0_halvesFit_X5_get
set_option maxRecDepth 20000 in
theorem ggX0_halvesFit_X1_owner : GoodIn wsX0_halvesFit wsX1_owner := goodIn_r _ [18, 19, 45, 46, 47, 48, 49] (by decide +kernel) (by decide +kernel)
set_option maxRecDepth 20000 in
theorem gX0_halvesFit_X1_owner : GoodIn wsX0_halvesFit (wsV RX0 55 RX1 yX1_owner wsX1_owner) := goodIn_app (goodIn_of _ (by decide +kernel)) ggX0_halvesFit_X1_owner
set_option maxRecDepth 20000 in
theorem ggX0_halvesFit_X1_ring : GoodIn wsX0_halvesFit wsX1_ring := goodIn_r _ [23, 24, 25, 45, 46, 47, 48, 49] (by decide +kernel) (by decide +kernel)
set_option maxRecDepth 20000 in
theorem gX0_halvesFit_X1_ring : GoodIn wsX0_halvesFit (wsV RX0 26 RX1 yX1_ring wsX1_ring) := goodIn_app (goodIn_of _ (by decide +kernel)) ggX0_halvesFit_X1_ring
set_option maxRecDepth 20000 in
theorem ggX0_halvesFit_X5_placeOf : GoodIn wsX0_halvesFit wsX5_placeOf := goodIn_r _ [29, 8, 13, 43, 44] (by decide +kernel) (by decide +kernel)
set_option maxRecDepth 20000 in
theorem gX0_halvesFit_X5_placeOf : GoodIn wsX0_halvesFit (wsV RX0 32 RX5 yX5_placeOf wsX5_placeOf) := goodIn_app (goodIn_of _ (by decide +kernel)) ggX0_halvesFit_X5_placeOf
set_option maxRecDepth 20000 in
theorem ggX0_halvesFit_X2_mark : GoodIn wsX0_halvesFit wsX2_mark := goodIn_r _ [34, 35, 36, 37, 38, 39, 50, 51] (by decide +kernel) (by decide +kernel)
set_option maxRecDepth 20000 in
theorem gX0_halvesFit_X2_mark : GoodIn wsX0_halvesFit (wsV RX0 70 RX2 yX2_mark wsX2_mark) := goodIn_app (goodIn_of _ (by decide +kernel)) ggX0_halvesFit_X2_mark
theorem dX0_halvesFit_0 : decode cX0_halvesFit 0 = .ok (.iconst 0, 1) := by decide +kernel
theorem dX0_halvesFit_1 : decode cX0_halvesFit 1 = .ok (.istore_n 3, 1) := by decide +kernel
theorem dX0_halvesFit_2 : decode cX0_halvesFit 2 = .ok (.iload_n 3, 1) := by decide +kernel
theorem dX0_halvesFit_3 : decode cX0_halvesFit 3 = .ok (.aload_n 1, 1) := by decide +kernel
theorem dX0_halvesFit_4 : decode cX0_halvesFit 4 = .ok (.invokevirtual 39, 3) := by decide +kernel
theorem dX0_halvesFit_7 : decode cX0_halvesFit 7 = .ok (.if_icmp .ge 89, 3) := by decide +kernel
theorem dX0_halvesFit_10 : decode cX0_halvesFit 10 = .ok (.aload_n 1, 1) := by decide +kernel
theorem dX0_halvesFit_11 : decode cX0_halvesFit 11 = .ok (.iload_n 3, 1) := by decide +kernel
theorem dX0_halvesFit_12 : decode cX0_halvesFit 12 = .ok (.invokevirtual 43, 3) := by decide +kernel
theorem dX0_halvesFit_15 : decode cX0_halvesFit 15 = .ok (.istore 4, 2) := by decide +kernel
theorem dX0_halvesFit_17 : decode cX0_halvesFit 17 = .ok (.aload_n 1, 1) := by decide +kernel
theorem dX0_halvesFit_18 : decode cX0_halvesFit 18 = .ok (.iload_n 3, 1) := by decide +kernel
theorem dX0_halvesFit_19 : decode cX0_halvesFit 19 = .ok (.iconst 1, 1) := by decide +kernel
theorem dX0_halvesFit_20 : decode cX0_halvesFit 20 = .ok (.iadd, 1) := by decide +kernel
theorem dX0_halvesFit_21 : decode cX0_halvesFit 21 = .ok (.invokevirtual 43, 3) := by decide +kernel
theorem dX0_halvesFit_24 : decode cX0_halvesFit 24 = .ok (.istore 5, 2) := by decide +kernel
theorem dX0_halvesFit_26 : decode cX0_halvesFit 26 = .ok (.aload_n 0, 1) := by decide +kernel
theorem dX0_halvesFit_27 : decode cX0_halvesFit 27 = .ok (.getfield 18, 3) := by decide +kernel
theorem dX0_halvesFit_30 : decode cX0_halvesFit 30 = .ok (.iload 4, 2) := by decide +kernel
theorem dX0_halvesFit_32 : decode cX0_halvesFit 32 = .ok (.iload 5, 2) := by decide +kernel
theorem dX0_halvesFit_34 : decode cX0_halvesFit 34 = .ok (.invokevirtual 55, 3) := by decide +kernel
theorem dX0_halvesFit_37 : decode cX0_halvesFit 37 = .ok (.istore 6, 2) := by decide +kernel
theorem dX0_halvesFit_39 : decode cX0_halvesFit 39 = .ok (.iload 6, 2) := by decide +kernel
theorem dX0_halvesFit_41 : decode cX0_halvesFit 41 = .ok (.iconst (-1), 1) := by decide +kernel
theorem dX0_halvesFit_42 : decode cX0_halvesFit 42 = .ok (.if_icmp .eq 24, 3) := by decide +kernel
theorem dX0_halvesFit_45 : decode cX0_halvesFit 45 = .ok (.aload_n 0, 1) := by decide +kernel
theorem dX0_halvesFit_46 : decode cX0_halvesFit 46 = .ok (.getfield 18, 3) := by decide +kernel
theorem dX0_halvesFit_49 : decode cX0_halvesFit 49 = .ok (.iload 6, 2) := by decide +kernel
theorem dX0_halvesFit_51 : decode cX0_halvesFit 51 = .ok (.invokevirtual 26, 3) := by decide +kernel
theorem dX0_halvesFit_54 : decode cX0_halvesFit 54 = .ok (.iload_n 2, 1) := by decide +kernel
theorem dX0_halvesFit_55 : decode cX0_halvesFit 55 = .ok (.invokevirtual 32, 3) := by decide +kernel
theorem dX0_halvesFit_58 : decode cX0_halvesFit 58 = .ok (.iconst (-1), 1) := by decide +kernel
theorem dX0_halvesFit_59 : decode cX0_halvesFit 59 = .ok (.if_icmp .ne 7, 3) := by decide +kernel
theorem dX0_halvesFit_62 : decode cX0_halvesFit 62 = .ok (.iconst 1, 1) := by decide +kernel
theorem dX0_halvesFit_63 : decode cX0_halvesFit 63 = .ok (.goto 4, 3) := by decide +kernel
theorem dX0_halvesFit_66 : decode cX0_halvesFit 66 = .ok (.iconst 0, 1) := by decide +kernel
theorem dX0_halvesFit_67 : decode cX0_halvesFit 67 = .ok (.istore 7, 2) := by decide +kernel
theorem dX0_halvesFit_69 : decode cX0_halvesFit 69 = .ok (.iload 7, 2) := by decide +kernel
theorem dX0_halvesFit_71 : decode cX0_halvesFit 71 = .ok (.ifCond .ne 17, 3) := by decide +kernel
theorem dX0_halvesFit_74 : decode cX0_halvesFit 74 = .ok (.aload_n 0, 1) := by decide +kernel
theorem dX0_halvesFit_75 : decode cX0_halvesFit 75 = .ok (.getfield 22, 3) := by decide +kernel
theorem dX0_halvesFit_78 : decode cX0_halvesFit 78 = .ok (.iload 4, 2) := by decide +kernel
theorem dX0_halvesFit_80 : decode cX0_halvesFit 80 = .ok (.iload 5, 2) := by decide +kernel
theorem dX0_halvesFit_82 : decode cX0_halvesFit 82 = .ok (.invokevirtual 70, 3) := by decide +kernel
theorem dX0_halvesFit_85 : decode cX0_halvesFit 85 = .ok (.ifCond .ne 5, 3) := by decide +kernel
theorem dX0_halvesFit_88 : decode cX0_halvesFit 88 = .ok (.iconst 0, 1) := by decide +kernel
theorem dX0_halvesFit_89 : decode cX0_halvesFit 89 = .ok (.ireturn, 1) := by decide +kernel
theorem dX0_halvesFit_90 : decode cX0_halvesFit 90 = .ok (.iinc 3 1, 3) := by decide +kernel
theorem dX0_halvesFit_93 : decode cX0_halvesFit 93 = .ok (.goto (-91), 3) := by decide +kernel
theorem dX0_halvesFit_96 : decode cX0_halvesFit 96 = .ok (.iconst 1, 1) := by decide +kernel
theorem dX0_halvesFit_97 : decode cX0_halvesFit 97 = .ok (.ireturn, 1) := by decide +kernel
set_option maxRecDepth 20000 in
theorem ggX0_apply_X1_owner : GoodIn wsX0_apply wsX1_owner := goodIn_r _ [6, 7, 80, 81, 82, 83, 84] (by decide +kernel) (by decide +kernel)
set_option maxRecDepth 20000 in
theorem gX0_apply_X1_owner : GoodIn wsX0_apply (wsV RX0 55 RX1 yX1_owner wsX1_owner) := goodIn_app (goodIn_of _ (by decide +kernel)) ggX0_apply_X1_owner
set_option maxRecDepth 20000 in
theorem ggX0_apply_X0_shape : GoodIn wsX0_apply wsX0_shape := goodIn_r _ [12, 1, 13, 14, 15, 16, 5, 17, 18, 19, 20, 21, 22, 23, 24, 25, 26, 27, 28, 29, 30, 31, 32, 33, 34, 35, 36, 37, 38, 39, 40, 41, 42, 77, 78, 79, 80, 81, 82, 83, 84, 85, 86] (by decide +kernel) (by decide +kernel)
set_option maxRecDepth 20000 in
theorem gX0_apply_X0_shape : GoodIn wsX0_apply (wsV RX0 59 RX0 yX0_shape wsX0_shape) := goodIn_app (goodIn_of _ (by decide +kernel)) ggX0_apply_X0_shape
set_option maxRecDepth 20000 in
theorem ggX0_apply_X5_length : GoodIn wsX0_apply wsX5_length := goodIn_r _ [34, 25, 85, 86] (by decide +kernel) (by decide +kernel)
set_option maxRecDepth 20000 in
theorem gX0_apply_X5_length : GoodIn wsX0_apply (wsV RX0 39 RX5 yX5_length wsX5_length) := goodIn_app (goodIn_of _ (by decide +kernel)) ggX0_apply_X5_length
set_option maxRecDepth 20000 in
theorem ggX0_apply_X1_drop : GoodIn wsX0_apply wsX1_drop := goodIn_r _ [46, 47, 48, 49, 50, 5, 51, 52, 15, 16, 17, 18, 19, 53, 32, 33, 23, 34, 25, 54, 55, 56, 57, 58, 36, 37, 38, 26, 59, 3, 4, 6, 7, 60, 61, 62, 63, 64, 28, 29, 30, 80, 81, 82, 83, 84, 85, 86] (by decide +kernel) (by decide +kernel)
set_option maxRecDepth 20000 in
theorem gX0_apply_X1_drop : GoodIn wsX0_apply (wsV RX0 74 RX1 yX1_drop wsX1_drop) := goodIn_app (goodIn_of _ (by decide +kernel)) ggX0_apply_X1_drop
set_option maxRecDepth 20000 in
theorem ggX0_apply_X1_reshape : GoodIn wsX0_apply wsX1_reshape := goodIn_r _ [68, 54, 55, 56, 5, 57, 52, 15, 16, 17, 18, 19, 53, 32, 33, 23, 34, 25, 58, 36, 37, 38, 26, 59, 3, 4, 6, 7, 60, 61, 62, 63, 69, 70, 71, 72, 73, 74, 75, 76, 80, 81, 82, 83, 84, 85, 86] (by decide +kernel) (by decide +kernel)
set_option maxRecDepth 20000 in
theorem gX0_apply_X1_reshape : GoodIn wsX0_apply (wsV RX0 77 RX1 yX1_reshape wsX1_reshape) := goodIn_app (goodIn_of _ (by decide +kernel)) ggX0_apply_X1_reshape
theorem dX0_apply_0 : decode cX0_apply 0 = .ok (.iconst 0, 1) := by decide +kernel
theorem dX0_apply_1 : decode cX0_apply 1 = .ok (.istore_n 3, 1) := by decide +kernel
theorem dX0_apply_2 : decode cX0_apply 2 = .ok (.iconst 0, 1) := by decide +kernel
theorem dX0_apply_3 : decode cX0_apply 3 = .ok (.istore 4, 2) := by decide +kernel
theorem dX0_apply_5 : decode cX0_apply 5 = .ok (.iload 4, 2) := by decide +kernel
theorem dX0_apply_7 : decode cX0_apply 7 = .ok (.bipush 100, 2) := by decide +kernel
theorem dX0_apply_9 : decode cX0_apply 9 = .ok (.if_icmp .ge 72, 3) := by decide +kernel
theorem dX0_apply_12 : decode cX0_apply 12 = .ok (.aload_n 0, 1) := by decide +kernel
theorem dX0_apply_13 : decode cX0_apply 13 = .ok (.getfield 18, 3) := by decide +kernel
theorem dX0_apply_16 : decode cX0_apply 16 = .ok (.iload_n 2, 1) := by decide +kernel
theorem dX0_apply_17 : decode cX0_apply 17 = .ok (.iload 4, 2) := by decide +kernel
theorem dX0_apply_19 : decode cX0_apply 19 = .ok (.invokevirtual 55, 3) := by decide +kernel
theorem dX0_apply_22 : decode cX0_apply 22 = .ok (.istore 5, 2) := by decide +kernel
theorem dX0_apply_24 : decode cX0_apply 24 = .ok (.iload 5, 2) := by decide +kernel
theorem dX0_apply_26 : decode cX0_apply 26 = .ok (.iconst (-1), 1) := by decide +kernel
theorem dX0_apply_27 : decode cX0_apply 27 = .ok (.if_icmp .eq 48, 3) := by decide +kernel
theorem dX0_apply_30 : decode cX0_apply 30 = .ok (.aload_n 0, 1) := by decide +kernel
theorem dX0_apply_31 : decode cX0_apply 31 = .ok (.iload 5, 2) := by decide +kernel
theorem dX0_apply_33 : decode cX0_apply 33 = .ok (.iload_n 1, 1) := by decide +kernel
theorem dX0_apply_34 : decode cX0_apply 34 = .ok (.iload_n 2, 1) := by decide +kernel
theorem dX0_apply_35 : decode cX0_apply 35 = .ok (.invokevirtual 59, 3) := by decide +kernel
theorem dX0_apply_38 : decode cX0_apply 38 = .ok (.astore 6, 2) := by decide +kernel
theorem dX0_apply_40 : decode cX0_apply 40 = .ok (.aload 6, 2) := by decide +kernel
theorem dX0_apply_42 : decode cX0_apply 42 = .ok (.invokevirtual 39, 3) := by decide +kernel
theorem dX0_apply_45 : decode cX0_apply 45 = .ok (.iconst 3, 1) := by decide +kernel
theorem dX0_apply_46 : decode cX0_apply 46 = .ok (.if_icmp .ge 18, 3) := by decide +kernel
theorem dX0_apply_49 : decode cX0_apply 49 = .ok (.aload_n 0, 1) := by decide +kernel
theorem dX0_apply_50 : decode cX0_apply 50 = .ok (.getfield 18, 3) := by decide +kernel
theorem dX0_apply_53 : decode cX0_apply 53 = .ok (.iload 5, 2) := by decide +kernel
theorem dX0_apply_55 : decode cX0_apply 55 = .ok (.invokevirtual 74, 3) := by decide +kernel
theorem dX0_apply_58 : decode cX0_apply 58 = .ok (.iinc 3 1, 3) := by decide +kernel
theorem dX0_apply_61 : decode cX0_apply 61 = .ok (.goto 14, 3) := by decide +kernel
theorem dX0_apply_64 : decode cX0_apply 64 = .ok (.aload_n 0, 1) := by decide +kernel
theorem dX0_apply_65 : decode cX0_apply 65 = .ok (.getfield 18, 3) := by decide +kernel
theorem dX0_apply_68 : decode cX0_apply 68 = .ok (.iload 5, 2) := by decide +kernel
theorem dX0_apply_70 : decode cX0_apply 70 = .ok (.aload 6, 2) := by decide +kernel
theorem dX0_apply_72 : decode cX0_apply 72 = .ok (.invokevirtual 77, 3) := by decide +kernel
theorem dX0_apply_75 : decode cX0_apply 75 = .ok (.iinc 4 1, 3) := by decide +kernel
theorem dX0_apply_78 : decode cX0_apply 78 = .ok (.goto (-73), 3) := by decide +kernel
theorem dX0_apply_81 : decode cX0_apply 81 = .ok (.iload_n 3, 1) := by decide +kernel
theorem dX0_apply_82 : decode cX0_apply 82 = .ok (.ireturn, 1) := by decide +kernel
set_option maxRecDepth 20000 in
theorem ggX1_init_X5_init : GoodIn wsX1_init wsX5_init := goodIn_r _ [12, 13, 2, 3, 9, 14, 20, 21] (by decide +kernel) (by decide +kernel)
set_option maxRecDepth 20000 in
theorem gX1_init_X5_init_n17 : GoodIn wsX1_init (wsX5_init) := ggX1_init_X5_init
theorem dX1_init_0 : decode cX1_init 0 = .ok (.aload_n 0, 1) := by decide +kernel
theorem dX1_init_1 : decode cX1_init 1 = .ok (.invokespecial 3, 3) := by decide +kernel
theorem dX1_init_4 : decode cX1_init 4 = .ok (.aload_n 0, 1) := by decide +kernel
theorem dX1_init_5 : decode cX1_init 5 = .ok (.sipush 160, 3) := by decide +kernel
theorem dX1_init_8 : decode cX1_init 8 = .ok (.anewarray 9, 3) := by decide +kernel
theorem dX1_init_11 : decode cX1_init 11 = .ok (.putfield 11, 3) := by decide +kernel
theorem dX1_init_14 : decode cX1_init 14 = .ok (.aload_n 0, 1) := by decide +kernel
theorem dX1_init_15 : decode cX1_init 15 = .ok (.new 9, 3) := by decide +kernel
theorem dX1_init_18 : decode cX1_init 18 = .ok (.dup, 1) := by decide +kernel
theorem dX1_init_19 : decode cX1_init 19 = .ok (.invokespecial 17, 3) := by decide +kernel
theorem dX1_init_22 : decode cX1_init 22 = .ok (.putfield 18, 3) := by decide +kernel
theorem dX1_init_25 : decode cX1_init 25 = .ok (.aload_n 0, 1) := by decide +kernel
theorem dX1_init_26 : decode cX1_init 26 = .ok (.sipush 10000, 3) := by decide +kernel
theorem dX1_init_29 : decode cX1_init 29 = .ok (.newarray .int, 2) := by decide +kernel
theorem dX1_init_31 : decode cX1_init 31 = .ok (.putfield 22, 3) := by decide +kernel
theorem dX1_init_34 : decode cX1_init 34 = .ok (.iconst 0, 1) := by decide +kernel
theorem dX1_init_35 : decode cX1_init 35 = .ok (.istore_n 1, 1) := by decide +kernel
theorem dX1_init_36 : decode cX1_init 36 = .ok (.iload_n 1, 1) := by decide +kernel
theorem dX1_init_37 : decode cX1_init 37 = .ok (.sipush 160, 3) := by decide +kernel
theorem dX1_init_40 : decode cX1_init 40 = .ok (.if_icmp .ge 22, 3) := by decide +kernel
theorem dX1_init_43 : decode cX1_init 43 = .ok (.aload_n 0, 1) := by decide +kernel
theorem dX1_init_44 : decode cX1_init 44 = .ok (.getfield 11, 3) := by decide +kernel
theorem dX1_init_47 : decode cX1_init 47 = .ok (.iload_n 1, 1) := by decide +kernel
theorem dX1_init_48 : decode cX1_init 48 = .ok (.new 9, 3) := by decide +kernel
theorem dX1_init_51 : decode cX1_init 51 = .ok (.dup, 1) := by decide +kernel
theorem dX1_init_52 : decode cX1_init 52 = .ok (.invokespecial 17, 3) := by decide +kernel
theorem dX1_init_55 : decode cX1_init 55 = .ok (.aastore, 1) := by decide +kernel
theorem dX1_init_56 : decode cX1_init 56 = .ok (.iinc 1 1, 3) := by decide +kernel
theorem dX1_init_59 : decode cX1_init 59 = .ok (.goto (-23), 3) := by decide +kernel
theorem dX1_init_62 : decode cX1_init 62 = .ok (.return_, 1) := by decide +kernel
theorem dX1_ever_0 : decode cX1_ever 0 = .ok (.aload_n 0, 1) := by decide +kernel
theorem dX1_ever_1 : decode cX1_ever 1 = .ok (.getfield 26, 3) := by decide +kernel
theorem dX1_ever_4 : decode cX1_ever 4 = .ok (.ireturn, 1) := by decide +kernel
theorem dX1_left_0 : decode cX1_left 0 = .ok (.aload_n 0, 1) := by decide +kernel
theorem dX1_left_1 : decode cX1_left 1 = .ok (.getfield 30, 3) := by decide +kernel
theorem dX1_left_4 : decode cX1_left 4 = .ok (.ireturn, 1) := by decide +kernel
set_option maxRecDepth 20000 in
theorem ggX1_has_X1_ring : GoodIn wsX1_has wsX1_ring := goodIn_r _ [5, 6, 7, 14, 15, 16, 17, 18] (by decide +kernel) (by decide +kernel)
set_option maxRecDepth 20000 in
theorem gX1_has_X1_ring : GoodIn wsX1_has (wsV RX1 33 RX1 yX1_ring wsX1_ring) := goodIn_app (goodIn_of _ (by decide +kernel)) ggX1_has_X1_ring
set_option maxRecDepth 20000 in
theorem ggX1_has_X5_length : GoodIn wsX1_has wsX5_length := goodIn_r _ [12, 13, 19, 20] (by decide +kernel) (by decide +kernel)
set_option maxRecDepth 20000 in
theorem gX1_has_X5_length : GoodIn wsX1_has (wsV RX1 37 RX5 yX5_length wsX5_length) := goodIn_app (goodIn_of _ (by decide +kernel)) ggX1_has_X5_length
theorem dX1_has_0 : decode cX1_has 0 = .ok (.aload_n 0, 1) := by decide +kernel
theorem dX1_has_1 : decode cX1_has 1 = .ok (.iload_n 1, 1) := by decide +kernel
theorem dX1_has_2 : decode cX1_has 2 = .ok (.invokevirtual 33, 3) := by decide +kernel
theorem dX1_has_5 : decode cX1_has 5 = .ok (.invokevirtual 37, 3) := by decide +kernel
theorem dX1_has_8 : decode cX1_has 8 = .ok (.ifCond .le 7, 3) := by decide +kernel
theorem dX1_has_11 : decode cX1_has 11 = .ok (.iconst 1, 1) := by decide +kernel
theorem dX1_has_12 : decode cX1_has 12 = .ok (.goto 4, 3) := by decide +kernel
theorem dX1_has_15 : decode cX1_has 15 = .ok (.iconst 0, 1) := by decide +kernel
theorem dX1_has_16 : decode cX1_has 16 = .ok (.ireturn, 1) := by decide +kernel
theorem dX1_ring_0 : decode cX1_ring 0 = .ok (.iload_n 1, 1) := by decide +kernel
theorem dX1_ring_1 : decode cX1_ring 1 = .ok (.ifCond .lt 19, 3) := by decide +kernel
theorem dX1_ring_4 : decode cX1_ring 4 = .ok (.iload_n 1, 1) := by decide +kernel
theorem dX1_ring_5 : decode cX1_ring 5 = .ok (.sipush 160, 3) := by decide +kernel
theorem dX1_ring_8 : decode cX1_ring 8 = .ok (.if_icmp .ge 12, 3) := by decide +kernel
theorem dX1_ring_11 : decode cX1_ring 11 = .ok (.aload_n 0, 1) := by decide +kernel
theorem dX1_ring_12 : decode cX1_ring 12 = .ok (.getfield 11, 3) := by decide +kernel
theorem dX1_ring_15 : decode cX1_ring 15 = .ok (.iload_n 1, 1) := by decide +kernel
theorem dX1_ring_16 : decode cX1_ring 16 = .ok (.aaload, 1) := by decide +kernel
theorem dX1_ring_17 : decode cX1_ring 17 = .ok (.goto 7, 3) := by decide +kernel
theorem dX1_ring_20 : decode cX1_ring 20 = .ok (.aload_n 0, 1) := by decide +kernel
theorem dX1_ring_21 : decode cX1_ring 21 = .ok (.getfield 18, 3) := by decide +kernel
theorem dX1_ring_24 : decode cX1_ring 24 = .ok (.areturn, 1) := by decide +kernel
theorem dX1_hasRoom_0 : decode cX1_hasRoom 0 = .ok (.iload_n 1, 1) := by decide +kernel
theorem dX1_hasRoom_1 : decode cX1_hasRoom 1 = .ok (.sipush 160, 3) := by decide +kernel
theorem dX1_hasRoom_4 : decode cX1_hasRoom 4 = .ok (.aload_n 0, 1) := by decide +kernel
theorem dX1_hasRoom_5 : decode cX1_hasRoom 5 = .ok (.getfield 26, 3) := by decide +kernel
theorem dX1_hasRoom_8 : decode cX1_hasRoom 8 = .ok (.isub, 1) := by decide +kernel
theorem dX1_hasRoom_9 : decode cX1_hasRoom 9 = .ok (.if_icmp .gt 7, 3) := by decide +kernel
theorem dX1_hasRoom_12 : decode cX1_hasRoom 12 = .ok (.iconst 1, 1) := by decide +kernel
theorem dX1_hasRoom_13 : decode cX1_hasRoom 13 = .ok (.goto 4, 3) := by decide +kernel
theorem dX1_hasRoom_16 : decode cX1_hasRoom 16 = .ok (.iconst 0, 1) := by decide +kernel
theorem dX1_hasRoom_17 : decode cX1_hasRoom 17 = .ok (.ireturn, 1) := by decide +kernel
theorem dX1_owner_0 : decode cX1_owner 0 = .ok (.iload_n 1, 1) := by decide +kernel
theorem dX1_owner_1 : decode cX1_owner 1 = .ok (.ifCond .lt 19, 3) := by decide +kernel
theorem dX1_owner_4 : decode cX1_owner 4 = .ok (.iload_n 1, 1) := by decide +kernel
theorem dX1_owner_5 : decode cX1_owner 5 = .ok (.bipush 100, 2) := by decide +kernel
theorem dX1_owner_7 : decode cX1_owner 7 = .ok (.if_icmp .ge 13, 3) := by decide +kernel
theorem dX1_owner_10 : decode cX1_owner 10 = .ok (.iload_n 2, 1) := by decide +kernel
theorem dX1_owner_11 : decode cX1_owner 11 = .ok (.ifCond .lt 9, 3) := by decide +kernel
theorem dX1_owner_14 : decode cX1_owner 14 = .ok (.iload_n 2, 1) := by decide +kernel
theorem dX1_owner_15 : decode cX1_owner 15 = .ok (.bipush 100, 2) := by decide +kernel
theorem dX1_owner_17 : decode cX1_owner 17 = .ok (.if_icmp .lt 5, 3) := by decide +kernel
theorem dX1_owner_20 : decode cX1_owner 20 = .ok (.iconst (-1), 1) := by decide +kernel
theorem dX1_owner_21 : decode cX1_owner 21 = .ok (.ireturn, 1) := by decide +kernel
theorem dX1_owner_22 : decode cX1_owner 22 = .ok (.aload_n 0, 1) := by decide +kernel
theorem dX1_owner_23 : decode cX1_owner 23 = .ok (.getfield 22, 3) := by decide +kernel
theorem dX1_owner_26 : decode cX1_owner 26 = .ok (.iload_n 1, 1) := by decide +kernel
theorem dX1_owner_27 : decode cX1_owner 27 = .ok (.bipush 100, 2) := by decide +kernel
theorem dX1_owner_29 : decode cX1_owner 29 = .ok (.imul, 1) := by decide +kernel
theorem dX1_owner_30 : decode cX1_owner 30 = .ok (.iload_n 2, 1) := by decide +kernel
theorem dX1_owner_31 : decode cX1_owner 31 = .ok (.iadd, 1) := by decide +kernel
theorem dX1_owner_32 : decode cX1_owner 32 = .ok (.iaload, 1) := by decide +kernel
theorem dX1_owner_33 : decode cX1_owner 33 = .ok (.iconst 1, 1) := by decide +kernel
theorem dX1_owner_34 : decode cX1_owner 34 = .ok (.isub, 1) := by decide +kernel
theorem dX1_owner_35 : decode cX1_owner 35 = .ok (.ireturn, 1) := by decide +kernel
set_option maxRecDepth 20000 in
theorem ggX1_isOpen_X1_owner : GoodIn wsX1_isOpen wsX1_owner := goodIn_r _ [5, 6, 7, 8, 9, 10, 11] (by decide +kernel) (by decide +kernel)
set_option maxRecDepth 20000 in
theorem gX1_isOpen_X1_owner : GoodIn wsX1_isOpen (wsV RX1 41 RX1 yX1_owner wsX1_owner) := goodIn_app (goodIn_of _ (by decide +kernel)) ggX1_isOpen_X1_owner
theorem dX1_isOpen_0 : decode cX1_isOpen 0 = .ok (.aload_n 0, 1) := by decide +kernel
theorem dX1_isOpen_1 : decode cX1_isOpen 1 = .ok (.iload_n 1, 1) := by decide +kernel
theorem dX1_isOpen_2 : decode cX1_isOpen 2 = .ok (.iload_n 2, 1) := by decide +kernel
theorem dX1_isOpen_3 : decode cX1_isOpen 3 = .ok (.invokevirtual 41, 3) := by decide +kernel
theorem dX1_isOpen_6 : decode cX1_isOpen 6 = .ok (.iconst (-1), 1) := by decide +kernel
theorem dX1_isOpen_7 : decode cX1_isOpen 7 = .ok (.if_icmp .ne 17, 3) := by decide +kernel
theorem dX1_isOpen_10 : decode cX1_isOpen 10 = .ok (.aload_n 0, 1) := by decide +kernel
theorem dX1_isOpen_11 : decode cX1_isOpen 11 = .ok (.iload_n 2, 1) := by decide +kernel
theorem dX1_isOpen_12 : decode cX1_isOpen 12 = .ok (.iload_n 1, 1) := by decide +kernel
theorem dX1_isOpen_13 : decode cX1_isOpen 13 = .ok (.invokevirtual 41, 3) := by decide +kernel
theorem dX1_isOpen_16 : decode cX1_isOpen 16 = .ok (.iconst (-1), 1) := by decide +kernel
theorem dX1_isOpen_17 : decode cX1_isOpen 17 = .ok (.if_icmp .eq 7, 3) := by decide +kernel
theorem dX1_isOpen_20 : decode cX1_isOpen 20 = .ok (.iconst 1, 1) := by decide +kernel
theorem dX1_isOpen_21 : decode cX1_isOpen 21 = .ok (.goto 4, 3) := by decide +kernel
theorem dX1_isOpen_24 : decode cX1_isOpen 24 = .ok (.iconst 0, 1) := by decide +kernel
theorem dX1_isOpen_25 : decode cX1_isOpen 25 = .ok (.ireturn, 1) := by decide +kernel
set_option maxRecDepth 20000 in
theorem ggX1_isEdge_X1_owner : GoodIn wsX1_isEdge wsX1_owner := goodIn_r _ [5, 6, 7, 8, 9, 10, 11] (by decide +kernel) (by decide +kernel)
set_option maxRecDepth 20000 in
theorem gX1_isEdge_X1_owner : GoodIn wsX1_isEdge (wsV RX1 41 RX1 yX1_owner wsX1_owner) := goodIn_app (goodIn_of _ (by decide +kernel)) ggX1_isEdge_X1_owner
theorem dX1_isEdge_0 : decode cX1_isEdge 0 = .ok (.aload_n 0, 1) := by decide +kernel
theorem dX1_isEdge_1 : decode cX1_isEdge 1 = .ok (.iload_n 1, 1) := by decide +kernel
theorem dX1_isEdge_2 : decode cX1_isEdge 2 = .ok (.iload_n 2, 1) := by decide +kernel
theorem dX1_isEdge_3 : decode cX1_isEdge 3 = .ok (.invokevirtual 41, 3) := by decide +kernel
theorem dX1_isEdge_6 : decode cX1_isEdge 6 = .ok (.iconst (-1), 1) := by decide +kernel
theorem dX1_isEdge_7 : decode cX1_isEdge 7 = .ok (.if_icmp .ne 13, 3) := by decide +kernel
theorem dX1_isEdge_10 : decode cX1_isEdge 10 = .ok (.aload_n 0, 1) := by decide +kernel
theorem dX1_isEdge_11 : decode cX1_isEdge 11 = .ok (.iload_n 2, 1) := by decide +kernel
theorem dX1_isEdge_12 : decode cX1_isEdge 12 = .ok (.iload_n 1, 1) := by decide +kernel
theorem dX1_isEdge_13 : decode cX1_isEdge 13 = .ok (.invokevirtual 41, 3) := by decide +kernel
theorem dX1_isEdge_16 : decode cX1_isEdge 16 = .ok (.iconst (-1), 1) := by decide +kernel
theorem dX1_isEdge_17 : decode cX1_isEdge 17 = .ok (.if_icmp .eq 7, 3) := by decide +kernel
theorem dX1_isEdge_20 : decode cX1_isEdge 20 = .ok (.iconst 1, 1) := by decide +kernel
theorem dX1_isEdge_21 : decode cX1_isEdge 21 = .ok (.goto 4, 3) := by decide +kernel
theorem dX1_isEdge_24 : decode cX1_isEdge 24 = .ok (.iconst 0, 1) := by decide +kernel
theorem dX1_isEdge_25 : decode cX1_isEdge 25 = .ok (.ireturn, 1) := by decide +kernel
set_option maxRecDepth 20000 in
theorem ggX1_isInner_X1_owner : GoodIn wsX1_isInner wsX1_owner := goodIn_r _ [5, 6, 7, 8, 9, 10, 11] (by decide +kernel) (by decide +kernel)
set_option maxRecDepth 20000 in
theorem gX1_isInner_X1_owner : GoodIn wsX1_isInner (wsV RX1 41 RX1 yX1_owner wsX1_owner) := goodIn_app (goodIn_of _ (by decide +kernel)) ggX1_isInner_X1_owner
theorem dX1_isInner_0 : decode cX1_isInner 0 = .ok (.aload_n 0, 1) := by decide +kernel
theorem dX1_isInner_1 : decode cX1_isInner 1 = .ok (.iload_n 1, 1) := by decide +kernel
theorem dX1_isInner_2 : decode cX1_isInner 2 = .ok (.iload_n 2, 1) := by decide +kernel
theorem dX1_isInner_3 : decode cX1_isInner 3 = .ok (.invokevirtual 41, 3) := by decide +kernel
theorem dX1_isInner_6 : decode cX1_isInner 6 = .ok (.iconst (-1), 1) := by decide +kernel
theorem dX1_isInner_7 : decode cX1_isInner 7 = .ok (.if_icmp .eq 17, 3) := by decide +kernel
theorem dX1_isInner_10 : decode cX1_isInner 10 = .ok (.aload_n 0, 1) := by decide +kernel
theorem dX1_isInner_11 : decode cX1_isInner 11 = .ok (.iload_n 2, 1) := by decide +kernel
theorem dX1_isInner_12 : decode cX1_isInner 12 = .ok (.iload_n 1, 1) := by decide +kernel
theorem dX1_isInner_13 : decode cX1_isInner 13 = .ok (.invokevirtual 41, 3) := by decide +kernel
theorem dX1_isInner_16 : decode cX1_isInner 16 = .ok (.iconst (-1), 1) := by decide +kernel
theorem dX1_isInner_17 : decode cX1_isInner 17 = .ok (.if_icmp .eq 7, 3) := by decide +kernel
theorem dX1_isInner_20 : decode cX1_isInner 20 = .ok (.iconst 1, 1) := by decide +kernel
theorem dX1_isInner_21 : decode cX1_isInner 21 = .ok (.goto 4, 3) := by decide +kernel
theorem dX1_isInner_24 : decode cX1_isInner 24 = .ok (.iconst 0, 1) := by decide +kernel
theorem dX1_isInner_25 : decode cX1_isInner 25 = .ok (.ireturn, 1) := by decide +kernel
set_option maxRecDepth 20000 in
theorem ggX1_isToldBy_X1_owner : GoodIn wsX1_isToldBy wsX1_owner := goodIn_r _ [5, 6, 7, 8, 9, 10, 11] (by decide +kernel) (by decide +kernel)
set_option maxRecDepth 20000 in
theorem gX1_isToldBy_X1_owner : GoodIn wsX1_isToldBy (wsV RX1 41 RX1 yX1_owner wsX1_owner) := goodIn_app (goodIn_of _ (by decide +kernel)) ggX1_isToldBy_X1_owner
theorem dX1_isToldBy_0 : decode cX1_isToldBy 0 = .ok (.iload_n 1, 1) := by decide +kernel
theorem dX1_isToldBy_1 : decode cX1_isToldBy 1 = .ok (.iload_n 2, 1) := by decide +kernel
theorem dX1_isToldBy_2 : decode cX1_isToldBy 2 = .ok (.if_icmp .lt 13, 3) := by decide +kernel
theorem dX1_isToldBy_5 : decode cX1_isToldBy 5 = .ok (.aload_n 0, 1) := by decide +kernel
theorem dX1_isToldBy_6 : decode cX1_isToldBy 6 = .ok (.iload_n 2, 1) := by decide +kernel
theorem dX1_isToldBy_7 : decode cX1_isToldBy 7 = .ok (.iload_n 1, 1) := by decide +kernel
theorem dX1_isToldBy_8 : decode cX1_isToldBy 8 = .ok (.invokevirtual 41, 3) := by decide +kernel
theorem dX1_isToldBy_11 : decode cX1_isToldBy 11 = .ok (.iconst (-1), 1) := by decide +kernel
theorem dX1_isToldBy_12 : decode cX1_isToldBy 12 = .ok (.if_icmp .ne 7, 3) := by decide +kernel
theorem dX1_isToldBy_15 : decode cX1_isToldBy 15 = .ok (.iconst 1, 1) := by decide +kernel
theorem dX1_isToldBy_16 : decode cX1_isToldBy 16 = .ok (.goto 4, 3) := by decide +kernel
theorem dX1_isToldBy_19 : decode cX1_isToldBy 19 = .ok (.iconst 0, 1) := by decide +kernel
theorem dX1_isToldBy_20 : decode cX1_isToldBy 20 = .ok (.ireturn, 1) := by decide +kernel
set_option maxRecDepth 20000 in
theorem ggX1_isFree_X5_length : GoodIn wsX1_isFree wsX5_length := goodIn_r _ [5, 6, 18, 19] (by decide +kernel) (by decide +kernel)
set_option maxRecDepth 20000 in
theorem gX1_isFree_X5_length : GoodIn wsX1_isFree (wsV RX1 37 RX5 yX5_length wsX5_length) := goodIn_app (goodIn_of _ (by decide +kernel)) ggX1_isFree_X5_length
set_option maxRecDepth 20000 in
theorem ggX1_isFree_X5_get : GoodIn wsX1_isFree wsX5_get := goodIn_r _ [10, 6, 11, 18, 19] (by decide +kernel) (by decide +kernel)
set_option maxRecDepth 20000 in
theorem gX1_isFree_X5_get : GoodIn wsX1_isFree (wsV RX1 45 RX5 yX5_get wsX5_get) := goodIn_app (goodIn_of _ (by decide +kernel)) ggX1_isFree_X5_get
set_option maxRecDepth 20000 in
theorem ggX1_isFree_X1_owner : GoodIn wsX1_isFree wsX1_owner := goodIn_r _ [16, 17, 20, 21, 22, 23, 24] (by decide +kernel) (by decide +kernel)
set_option maxRecDepth 20000 in
theorem gX1_isFree_X1_owner : GoodIn wsX1_isFree (wsV RX1 41 RX1 yX1_owner wsX1_owner) := goodIn_app (goodIn_of _ (by decide +kernel)) ggX1_isFree_X1_owner
theorem dX1_isFree_0 : decode cX1_isFree 0 = .ok (.iconst 0, 1) := by decide +kernel
theorem dX1_isFree_1 : decode cX1_isFree 1 = .ok (.istore_n 2, 1) := by decide +kernel
theorem dX1_isFree_2 : decode cX1_isFree 2 = .ok (.iload_n 2, 1) := by decide +kernel
theorem dX1_isFree_3 : decode cX1_isFree 3 = .ok (.aload_n 1, 1) := by decide +kernel
theorem dX1_isFree_4 : decode cX1_isFree 4 = .ok (.invokevirtual 37, 3) := by decide +kernel
theorem dX1_isFree_7 : decode cX1_isFree 7 = .ok (.if_icmp .ge 31, 3) := by decide +kernel
theorem dX1_isFree_10 : decode cX1_isFree 10 = .ok (.aload_n 0, 1) := by decide +kernel
theorem dX1_isFree_11 : decode cX1_isFree 11 = .ok (.aload_n 1, 1) := by decide +kernel
theorem dX1_isFree_12 : decode cX1_isFree 12 = .ok (.iload_n 2, 1) := by decide +kernel
theorem dX1_isFree_13 : decode cX1_isFree 13 = .ok (.invokevirtual 45, 3) := by decide +kernel
theorem dX1_isFree_16 : decode cX1_isFree 16 = .ok (.aload_n 1, 1) := by decide +kernel
theorem dX1_isFree_17 : decode cX1_isFree 17 = .ok (.iload_n 2, 1) := by decide +kernel
theorem dX1_isFree_18 : decode cX1_isFree 18 = .ok (.iconst 1, 1) := by decide +kernel
theorem dX1_isFree_19 : decode cX1_isFree 19 = .ok (.iadd, 1) := by decide +kernel
theorem dX1_isFree_20 : decode cX1_isFree 20 = .ok (.invokevirtual 45, 3) := by decide +kernel
theorem dX1_isFree_23 : decode cX1_isFree 23 = .ok (.invokevirtual 41, 3) := by decide +kernel
theorem dX1_isFree_26 : decode cX1_isFree 26 = .ok (.iconst (-1), 1) := by decide +kernel
theorem dX1_isFree_27 : decode cX1_isFree 27 = .ok (.if_icmp .eq 5, 3) := by decide +kernel
theorem dX1_isFree_30 : decode cX1_isFree 30 = .ok (.iconst 0, 1) := by decide +kernel
theorem dX1_isFree_31 : decode cX1_isFree 31 = .ok (.ireturn, 1) := by decide +kernel
theorem dX1_isFree_32 : decode cX1_isFree 32 = .ok (.iinc 2 1, 3) := by decide +kernel
theorem dX1_isFree_35 : decode cX1_isFree 35 = .ok (.goto (-33), 3) := by decide +kernel
theorem dX1_isFree_38 : decode cX1_isFree 38 = .ok (.iconst 1, 1) := by decide +kernel
theorem dX1_isFree_39 : decode cX1_isFree 39 = .ok (.ireturn, 1) := by decide +kernel
set_option maxRecDepth 20000 in
theorem ggX1_after_X1_ring : GoodIn wsX1_after wsX1_ring := goodIn_r _ [5, 6, 7, 19, 20, 21, 22, 23] (by decide +kernel) (by decide +kernel)
set_option maxRecDepth 20000 in
theorem gX1_after_X1_ring : GoodIn wsX1_after (wsV RX1 33 RX1 yX1_ring wsX1_ring) := goodIn_app (goodIn_of _ (by decide +kernel)) ggX1_after_X1_ring
set_option maxRecDepth 20000 in
theorem ggX1_after_X5_placeOf : GoodIn wsX1_after wsX5_placeOf := goodIn_r _ [12, 13, 14, 24, 25] (by decide +kernel) (by decide +kernel)
set_option maxRecDepth 20000 in
theorem gX1_after_X5_placeOf : GoodIn wsX1_after (wsV RX1 49 RX5 yX5_placeOf wsX5_placeOf) := goodIn_app (goodIn_of _ (by decide +kernel)) ggX1_after_X5_placeOf
set_option maxRecDepth 20000 in
theorem ggX1_after_X5_get : GoodIn wsX1_after wsX5_get := goodIn_r _ [18, 13, 14, 24, 25] (by decide +kernel) (by decide +kernel)
set_option maxRecDepth 20000 in
theorem gX1_after_X5_get : GoodIn wsX1_after (wsV RX1 45 RX5 yX5_get wsX5_get) := goodIn_app (goodIn_of _ (by decide +kernel)) ggX1_after_X5_get
theorem dX1_after_0 : decode cX1_after 0 = .ok (.aload_n 0, 1) := by decide +kernel
theorem dX1_after_1 : decode cX1_after 1 = .ok (.iload_n 1, 1) := by decide +kernel
theorem dX1_after_2 : decode cX1_after 2 = .ok (.invokevirtual 33, 3) := by decide +kernel
theorem dX1_after_5 : decode cX1_after 5 = .ok (.astore_n 3, 1) := by decide +kernel
theorem dX1_after_6 : decode cX1_after 6 = .ok (.aload_n 3, 1) := by decide +kernel
theorem dX1_after_7 : decode cX1_after 7 = .ok (.aload_n 3, 1) := by decide +kernel
theorem dX1_after_8 : decode cX1_after 8 = .ok (.iload_n 2, 1) := by decide +kernel
theorem dX1_after_9 : decode cX1_after 9 = .ok (.invokevirtual 49, 3) := by decide +kernel
theorem dX1_after_12 : decode cX1_after 12 = .ok (.iconst 1, 1) := by decide +kernel
theorem dX1_after_13 : decode cX1_after 13 = .ok (.iadd, 1) := by decide +kernel
theorem dX1_after_14 : decode cX1_after 14 = .ok (.invokevirtual 45, 3) := by decide +kernel
theorem dX1_after_17 : decode cX1_after 17 = .ok (.ireturn, 1) := by decide +kernel
set_option maxRecDepth 20000 in
theorem ggX1_before_X1_ring : GoodIn wsX1_before wsX1_ring := goodIn_r _ [5, 6, 7, 19, 20, 21, 22, 23] (by decide +kernel) (by decide +kernel)
set_option maxRecDepth 20000 in
theorem gX1_before_X1_ring : GoodIn wsX1_before (wsV RX1 33 RX1 yX1_ring wsX1_ring) := goodIn_app (goodIn_of _ (by decide +kernel)) ggX1_before_X1_ring
set_option maxRecDepth 20000 in
theorem ggX1_before_X5_placeOf : GoodIn wsX1_before wsX5_placeOf := goodIn_r _ [12, 13, 14, 24, 25] (by decide +kernel) (by decide +kernel)
set_option maxRecDepth 20000 in
theorem gX1_before_X5_placeOf : GoodIn wsX1_before (wsV RX1 49 RX5 yX5_placeOf wsX5_placeOf) := goodIn_app (goodIn_of _ (by decide +kernel)) ggX1_before_X5_placeOf
set_option maxRecDepth 20000 in
theorem ggX1_before_X5_get : GoodIn wsX1_before wsX5_get := goodIn_r _ [18, 13, 14, 24, 25] (by decide +kernel) (by decide +kernel)
set_option maxRecDepth 20000 in
theorem gX1_before_X5_get : GoodIn wsX1_before (wsV RX1 45 RX5 yX5_get wsX5_get) := goodIn_app (goodIn_of _ (by decide +kernel)) ggX1_before_X5_get
theorem dX1_before_0 : decode cX1_before 0 = .ok (.aload_n 0, 1) := by decide +kernel
theorem dX1_before_1 : decode cX1_before 1 = .ok (.iload_n 1, 1) := by decide +kernel
theorem dX1_before_2 : decode cX1_before 2 = .ok (.invokevirtual 33, 3) := by decide +kernel
theorem dX1_before_5 : decode cX1_before 5 = .ok (.astore_n 3, 1) := by decide +kernel
theorem dX1_before_6 : decode cX1_before 6 = .ok (.aload_n 3, 1) := by decide +kernel
theorem dX1_before_7 : decode cX1_before 7 = .ok (.aload_n 3, 1) := by decide +kernel
theorem dX1_before_8 : decode cX1_before 8 = .ok (.iload_n 2, 1) := by decide +kernel
theorem dX1_before_9 : decode cX1_before 9 = .ok (.invokevirtual 49, 3) := by decide +kernel
theorem dX1_before_12 : decode cX1_before 12 = .ok (.iconst 1, 1) := by decide +kernel
theorem dX1_before_13 : decode cX1_before 13 = .ok (.isub, 1) := by decide +kernel
theorem dX1_before_14 : decode cX1_before 14 = .ok (.invokevirtual 45, 3) := by decide +kernel
theorem dX1_before_17 : decode cX1_before 17 = .ok (.ireturn, 1) := by decide +kernel
set_option maxRecDepth 20000 in
theorem ggX1_nextOpen_X1_owner : GoodIn wsX1_nextOpen wsX1_owner := goodIn_r _ [5, 6, 28, 29, 30, 31, 32] (by decide +kernel) (by decide +kernel)
set_option maxRecDepth 20000 in
theorem gX1_nextOpen_X1_owner : GoodIn wsX1_nextOpen (wsV RX1 41 RX1 yX1_owner wsX1_owner) := goodIn_app (goodIn_of _ (by decide +kernel)) ggX1_nextOpen_X1_owner
set_option maxRecDepth 20000 in
theorem ggX1_nextOpen_X1_before : GoodIn wsX1_nextOpen wsX1_before := goodIn_r _ [10, 11, 12, 13, 4, 14, 15, 16, 17, 18, 19, 20, 21, 22, 23, 24, 25, 26, 27, 28, 29, 30, 31, 32, 33, 34] (by decide +kernel) (by decide +kernel)
set_option maxRecDepth 20000 in
theorem gX1_nextOpen_X1_before : GoodIn wsX1_nextOpen (wsV RX1 52 RX1 yX1_before wsX1_before) := goodIn_app (goodIn_of _ (by decide +kernel)) ggX1_nextOpen_X1_before
theorem dX1_nextOpen_0 : decode cX1_nextOpen 0 = .ok (.iload_n 1, 1) := by decide +kernel
theorem dX1_nextOpen_1 : decode cX1_nextOpen 1 = .ok (.istore_n 3, 1) := by decide +kernel
theorem dX1_nextOpen_2 : decode cX1_nextOpen 2 = .ok (.iconst 0, 1) := by decide +kernel
theorem dX1_nextOpen_3 : decode cX1_nextOpen 3 = .ok (.istore 4, 2) := by decide +kernel
theorem dX1_nextOpen_5 : decode cX1_nextOpen 5 = .ok (.iload 4, 2) := by decide +kernel
theorem dX1_nextOpen_7 : decode cX1_nextOpen 7 = .ok (.bipush 100, 2) := by decide +kernel
theorem dX1_nextOpen_9 : decode cX1_nextOpen 9 = .ok (.if_icmp .ge 33, 3) := by decide +kernel
theorem dX1_nextOpen_12 : decode cX1_nextOpen 12 = .ok (.aload_n 0, 1) := by decide +kernel
theorem dX1_nextOpen_13 : decode cX1_nextOpen 13 = .ok (.iload_n 2, 1) := by decide +kernel
theorem dX1_nextOpen_14 : decode cX1_nextOpen 14 = .ok (.iload_n 3, 1) := by decide +kernel
theorem dX1_nextOpen_15 : decode cX1_nextOpen 15 = .ok (.invokevirtual 41, 3) := by decide +kernel
theorem dX1_nextOpen_18 : decode cX1_nextOpen 18 = .ok (.istore 5, 2) := by decide +kernel
theorem dX1_nextOpen_20 : decode cX1_nextOpen 20 = .ok (.iload 5, 2) := by decide +kernel
theorem dX1_nextOpen_22 : decode cX1_nextOpen 22 = .ok (.iconst (-1), 1) := by decide +kernel
theorem dX1_nextOpen_23 : decode cX1_nextOpen 23 = .ok (.if_icmp .ne 5, 3) := by decide +kernel
theorem dX1_nextOpen_26 : decode cX1_nextOpen 26 = .ok (.iload_n 3, 1) := by decide +kernel
theorem dX1_nextOpen_27 : decode cX1_nextOpen 27 = .ok (.ireturn, 1) := by decide +kernel
theorem dX1_nextOpen_28 : decode cX1_nextOpen 28 = .ok (.aload_n 0, 1) := by decide +kernel
theorem dX1_nextOpen_29 : decode cX1_nextOpen 29 = .ok (.iload 5, 2) := by decide +kernel
theorem dX1_nextOpen_31 : decode cX1_nextOpen 31 = .ok (.iload_n 2, 1) := by decide +kernel
theorem dX1_nextOpen_32 : decode cX1_nextOpen 32 = .ok (.invokevirtual 52, 3) := by decide +kernel
theorem dX1_nextOpen_35 : decode cX1_nextOpen 35 = .ok (.istore_n 3, 1) := by decide +kernel
theorem dX1_nextOpen_36 : decode cX1_nextOpen 36 = .ok (.iinc 4 1, 3) := by decide +kernel
theorem dX1_nextOpen_39 : decode cX1_nextOpen 39 = .ok (.goto (-34), 3) := by decide +kernel
theorem dX1_nextOpen_42 : decode cX1_nextOpen 42 = .ok (.iconst (-1), 1) := by decide +kernel
theorem dX1_nextOpen_43 : decode cX1_nextOpen 43 = .ok (.ireturn, 1) := by decide +kernel
set_option maxRecDepth 20000 in
theorem ggX1_edgeCount_X1_ring : GoodIn wsX1_edgeCount wsX1_ring := goodIn_r _ [6, 7, 8, 29, 30, 31, 32, 33] (by decide +kernel) (by decide +kernel)
set_option maxRecDepth 20000 in
theorem gX1_edgeCount_X1_ring : GoodIn wsX1_edgeCount (wsV RX1 33 RX1 yX1_ring wsX1_ring) := goodIn_app (goodIn_of _ (by decide +kernel)) ggX1_edgeCount_X1_ring
set_option maxRecDepth 20000 in
theorem ggX1_edgeCount_X5_length : GoodIn wsX1_edgeCount wsX5_length := goodIn_r _ [13, 14, 34, 35] (by decide +kernel) (by decide +kernel)
set_option maxRecDepth 20000 in
theorem gX1_edgeCount_X5_length : GoodIn wsX1_edgeCount (wsV RX1 37 RX5 yX5_length wsX5_length) := goodIn_app (goodIn_of _ (by decide +kernel)) ggX1_edgeCount_X5_length
set_option maxRecDepth 20000 in
theorem ggX1_edgeCount_X5_get : GoodIn wsX1_edgeCount wsX5_get := goodIn_r _ [18, 14, 19, 34, 35] (by decide +kernel) (by decide +kernel)
set_option maxRecDepth 20000 in
theorem gX1_edgeCount_X5_get : GoodIn wsX1_edgeCount (wsV RX1 45 RX5 yX5_get wsX5_get) := goodIn_app (goodIn_of _ (by decide +kernel)) ggX1_edgeCount_X5_get
set_option maxRecDepth 20000 in
theorem ggX1_edgeCount_X1_isToldBy : GoodIn wsX1_edgeCount wsX1_isToldBy := goodIn_r _ [23, 24, 25, 26, 5, 27, 28, 29, 30, 31, 32, 33] (by decide +kernel) (by decide +kernel)
set_option maxRecDepth 20000 in
theorem gX1_edgeCount_X1_isToldBy : GoodIn wsX1_edgeCount (wsV RX1 55 RX1 yX1_isToldBy wsX1_isToldBy) := goodIn_app (goodIn_of _ (by decide +kernel)) ggX1_edgeCount_X1_isToldBy
theorem dX1_edgeCount_0 : decode cX1_edgeCount 0 = .ok (.iconst 0, 1) := by decide +kernel
theorem dX1_edgeCount_1 : decode cX1_edgeCount 1 = .ok (.istore_n 1, 1) := by decide +kernel
theorem dX1_edgeCount_2 : decode cX1_edgeCount 2 = .ok (.iconst 0, 1) := by decide +kernel
theorem dX1_edgeCount_3 : decode cX1_edgeCount 3 = .ok (.istore_n 2, 1) := by decide +kernel
theorem dX1_edgeCount_4 : decode cX1_edgeCount 4 = .ok (.iload_n 2, 1) := by decide +kernel
theorem dX1_edgeCount_5 : decode cX1_edgeCount 5 = .ok (.aload_n 0, 1) := by decide +kernel
theorem dX1_edgeCount_6 : decode cX1_edgeCount 6 = .ok (.getfield 26, 3) := by decide +kernel
theorem dX1_edgeCount_9 : decode cX1_edgeCount 9 = .ok (.if_icmp .ge 62, 3) := by decide +kernel
theorem dX1_edgeCount_12 : decode cX1_edgeCount 12 = .ok (.aload_n 0, 1) := by decide +kernel
theorem dX1_edgeCount_13 : decode cX1_edgeCount 13 = .ok (.iload_n 2, 1) := by decide +kernel
theorem dX1_edgeCount_14 : decode cX1_edgeCount 14 = .ok (.invokevirtual 33, 3) := by decide +kernel
theorem dX1_edgeCount_17 : decode cX1_edgeCount 17 = .ok (.astore_n 3, 1) := by decide +kernel
theorem dX1_edgeCount_18 : decode cX1_edgeCount 18 = .ok (.iconst 0, 1) := by decide +kernel
theorem dX1_edgeCount_19 : decode cX1_edgeCount 19 = .ok (.istore 4, 2) := by decide +kernel
theorem dX1_edgeCount_21 : decode cX1_edgeCount 21 = .ok (.iload 4, 2) := by decide +kernel
theorem dX1_edgeCount_23 : decode cX1_edgeCount 23 = .ok (.aload_n 3, 1) := by decide +kernel
theorem dX1_edgeCount_24 : decode cX1_edgeCount 24 = .ok (.invokevirtual 37, 3) := by decide +kernel
theorem dX1_edgeCount_27 : decode cX1_edgeCount 27 = .ok (.if_icmp .ge 38, 3) := by decide +kernel
theorem dX1_edgeCount_30 : decode cX1_edgeCount 30 = .ok (.iload_n 1, 1) := by decide +kernel
theorem dX1_edgeCount_31 : decode cX1_edgeCount 31 = .ok (.aload_n 0, 1) := by decide +kernel
theorem dX1_edgeCount_32 : decode cX1_edgeCount 32 = .ok (.aload_n 3, 1) := by decide +kernel
theorem dX1_edgeCount_33 : decode cX1_edgeCount 33 = .ok (.iload 4, 2) := by decide +kernel
theorem dX1_edgeCount_35 : decode cX1_edgeCount 35 = .ok (.invokevirtual 45, 3) := by decide +kernel
theorem dX1_edgeCount_38 : decode cX1_edgeCount 38 = .ok (.aload_n 3, 1) := by decide +kernel
theorem dX1_edgeCount_39 : decode cX1_edgeCount 39 = .ok (.iload 4, 2) := by decide +kernel
theorem dX1_edgeCount_41 : decode cX1_edgeCount 41 = .ok (.iconst 1, 1) := by decide +kernel
theorem dX1_edgeCount_42 : decode cX1_edgeCount 42 = .ok (.iadd, 1) := by decide +kernel
theorem dX1_edgeCount_43 : decode cX1_edgeCount 43 = .ok (.invokevirtual 45, 3) := by decide +kernel
theorem dX1_edgeCount_46 : decode cX1_edgeCount 46 = .ok (.invokevirtual 55, 3) := by decide +kernel
theorem dX1_edgeCount_49 : decode cX1_edgeCount 49 = .ok (.ifCond .eq 7, 3) := by decide +kernel
theorem dX1_edgeCount_52 : decode cX1_edgeCount 52 = .ok (.iconst 1, 1) := by decide +kernel
theorem dX1_edgeCount_53 : decode cX1_edgeCount 53 = .ok (.goto 4, 3) := by decide +kernel
theorem dX1_edgeCount_56 : decode cX1_edgeCount 56 = .ok (.iconst 0, 1) := by decide +kernel
theorem dX1_edgeCount_57 : decode cX1_edgeCount 57 = .ok (.iadd, 1) := by decide +kernel
theorem dX1_edgeCount_58 : decode cX1_edgeCount 58 = .ok (.istore_n 1, 1) := by decide +kernel
theorem dX1_edgeCount_59 : decode cX1_edgeCount 59 = .ok (.iinc 4 1, 3) := by decide +kernel
theorem dX1_edgeCount_62 : decode cX1_edgeCount 62 = .ok (.goto (-41), 3) := by decide +kernel
theorem dX1_edgeCount_65 : decode cX1_edgeCount 65 = .ok (.iinc 2 1, 3) := by decide +kernel
theorem dX1_edgeCount_68 : decode cX1_edgeCount 68 = .ok (.goto (-64), 3) := by decide +kernel
theorem dX1_edgeCount_71 : decode cX1_edgeCount 71 = .ok (.iload_n 1, 1) := by decide +kernel
theorem dX1_edgeCount_72 : decode cX1_edgeCount 72 = .ok (.ireturn, 1) := by decide +kernel
set_option maxRecDepth 20000 in
theorem ggX1_halfCount_X1_ring : GoodIn wsX1_halfCount wsX1_ring := goodIn_r _ [6, 7, 8, 15, 16, 17, 18, 19] (by decide +kernel) (by decide +kernel)
set_option maxRecDepth 20000 in
theorem gX1_halfCount_X1_ring : GoodIn wsX1_halfCount (wsV RX1 33 RX1 yX1_ring wsX1_ring) := goodIn_app (goodIn_of _ (by decide +kernel)) ggX1_halfCount_X1_ring
set_option maxRecDepth 20000 in
theorem ggX1_halfCount_X5_length : GoodIn wsX1_halfCount wsX5_length := goodIn_r _ [13, 14, 20, 21] (by decide +kernel) (by decide +kernel)
set_option maxRecDepth 20000 in
theorem gX1_halfCount_X5_length : GoodIn wsX1_halfCount (wsV RX1 37 RX5 yX5_length wsX5_length) := goodIn_app (goodIn_of _ (by decide +kernel)) ggX1_halfCount_X5_length
theorem dX1_halfCount_0 : decode cX1_halfCount 0 = .ok (.iconst 0, 1) := by decide +kernel
theorem dX1_halfCount_1 : decode cX1_halfCount 1 = .ok (.istore_n 1, 1) := by decide +kernel
theorem dX1_halfCount_2 : decode cX1_halfCount 2 = .ok (.iconst 0, 1) := by decide +kernel
theorem dX1_halfCount_3 : decode cX1_halfCount 3 = .ok (.istore_n 2, 1) := by decide +kernel
theorem dX1_halfCount_4 : decode cX1_halfCount 4 = .ok (.iload_n 2, 1) := by decide +kernel
theorem dX1_halfCount_5 : decode cX1_halfCount 5 = .ok (.aload_n 0, 1) := by decide +kernel
theorem dX1_halfCount_6 : decode cX1_halfCount 6 = .ok (.getfield 26, 3) := by decide +kernel
theorem dX1_halfCount_9 : decode cX1_halfCount 9 = .ok (.if_icmp .ge 20, 3) := by decide +kernel
theorem dX1_halfCount_12 : decode cX1_halfCount 12 = .ok (.iload_n 1, 1) := by decide +kernel
theorem dX1_halfCount_13 : decode cX1_halfCount 13 = .ok (.aload_n 0, 1) := by decide +kernel
theorem dX1_halfCount_14 : decode cX1_halfCount 14 = .ok (.iload_n 2, 1) := by decide +kernel
theorem dX1_halfCount_15 : decode cX1_halfCount 15 = .ok (.invokevirtual 33, 3) := by decide +kernel
theorem dX1_halfCount_18 : decode cX1_halfCount 18 = .ok (.invokevirtual 37, 3) := by decide +kernel
theorem dX1_halfCount_21 : decode cX1_halfCount 21 = .ok (.iadd, 1) := by decide +kernel
theorem dX1_halfCount_22 : decode cX1_halfCount 22 = .ok (.istore_n 1, 1) := by decide +kernel
theorem dX1_halfCount_23 : decode cX1_halfCount 23 = .ok (.iinc 2 1, 3) := by decide +kernel
theorem dX1_halfCount_26 : decode cX1_halfCount 26 = .ok (.goto (-22), 3) := by decide +kernel
theorem dX1_halfCount_29 : decode cX1_halfCount 29 = .ok (.iload_n 1, 1) := by decide +kernel
theorem dX1_halfCount_30 : decode cX1_halfCount 30 = .ok (.ireturn, 1) := by decide +kernel
set_option maxRecDepth 20000 in
theorem ggX1_neighboursOf_X1_isEdge : GoodIn wsX1_neighboursOf wsX1_isEdge := goodIn_r _ [5, 6, 7, 8, 4, 9, 10, 11, 12, 13, 14, 15] (by decide +kernel) (by decide +kernel)
set_option maxRecDepth 20000 in
theorem gX1_neighboursOf_X1_isEdge : GoodIn wsX1_neighboursOf (wsV RX1 59 RX1 yX1_isEdge wsX1_isEdge) := goodIn_app (goodIn_of _ (by decide +kernel)) ggX1_neighboursOf_X1_isEdge
theorem dX1_neighboursOf_0 : decode cX1_neighboursOf 0 = .ok (.iconst 0, 1) := by decide +kernel
theorem dX1_neighboursOf_1 : decode cX1_neighboursOf 1 = .ok (.istore_n 2, 1) := by decide +kernel
theorem dX1_neighboursOf_2 : decode cX1_neighboursOf 2 = .ok (.iconst 0, 1) := by decide +kernel
theorem dX1_neighboursOf_3 : decode cX1_neighboursOf 3 = .ok (.istore_n 3, 1) := by decide +kernel
theorem dX1_neighboursOf_4 : decode cX1_neighboursOf 4 = .ok (.iload_n 3, 1) := by decide +kernel
theorem dX1_neighboursOf_5 : decode cX1_neighboursOf 5 = .ok (.bipush 100, 2) := by decide +kernel
theorem dX1_neighboursOf_7 : decode cX1_neighboursOf 7 = .ok (.if_icmp .ge 26, 3) := by decide +kernel
theorem dX1_neighboursOf_10 : decode cX1_neighboursOf 10 = .ok (.iload_n 2, 1) := by decide +kernel
theorem dX1_neighboursOf_11 : decode cX1_neighboursOf 11 = .ok (.aload_n 0, 1) := by decide +kernel
theorem dX1_neighboursOf_12 : decode cX1_neighboursOf 12 = .ok (.iload_n 1, 1) := by decide +kernel
theorem dX1_neighboursOf_13 : decode cX1_neighboursOf 13 = .ok (.iload_n 3, 1) := by decide +kernel
theorem dX1_neighboursOf_14 : decode cX1_neighboursOf 14 = .ok (.invokevirtual 59, 3) := by decide +kernel
theorem dX1_neighboursOf_17 : decode cX1_neighboursOf 17 = .ok (.ifCond .eq 7, 3) := by decide +kernel
theorem dX1_neighboursOf_20 : decode cX1_neighboursOf 20 = .ok (.iconst 1, 1) := by decide +kernel
theorem dX1_neighboursOf_21 : decode cX1_neighboursOf 21 = .ok (.goto 4, 3) := by decide +kernel
theorem dX1_neighboursOf_24 : decode cX1_neighboursOf 24 = .ok (.iconst 0, 1) := by decide +kernel
theorem dX1_neighboursOf_25 : decode cX1_neighboursOf 25 = .ok (.iadd, 1) := by decide +kernel
theorem dX1_neighboursOf_26 : decode cX1_neighboursOf 26 = .ok (.istore_n 2, 1) := by decide +kernel
theorem dX1_neighboursOf_27 : decode cX1_neighboursOf 27 = .ok (.iinc 3 1, 3) := by decide +kernel
theorem dX1_neighboursOf_30 : decode cX1_neighboursOf 30 = .ok (.goto (-26), 3) := by decide +kernel
theorem dX1_neighboursOf_33 : decode cX1_neighboursOf 33 = .ok (.iload_n 2, 1) := by decide +kernel
theorem dX1_neighboursOf_34 : decode cX1_neighboursOf 34 = .ok (.ireturn, 1) := by decide +kernel
set_option maxRecDepth 20000 in
theorem ggX1_add_X8_isFaceNumber : GoodIn wsX1_add wsX8_isFaceNumber := goodIn_r _ [5] (by decide +kernel) (by decide +kernel)
set_option maxRecDepth 20000 in
theorem gX1_add_X8_isFaceNumber_n62 : GoodIn wsX1_add (wsX8_isFaceNumber) := ggX1_add_X8_isFaceNumber
set_option maxRecDepth 20000 in
theorem ggX1_add_X1_reshape : GoodIn wsX1_add wsX1_reshape := goodIn_r _ [10, 11, 12, 13, 9, 14, 15, 16, 17, 18, 19, 20, 21, 22, 23, 24, 25, 26, 27, 28, 29, 30, 31, 32, 33, 34, 35, 36, 37, 38, 39, 40, 41, 42, 43, 44, 45, 46, 47, 48, 49, 50, 51, 52, 53, 54, 55] (by decide +kernel) (by decide +kernel)
set_option maxRecDepth 20000 in
theorem gX1_add_X1_reshape : GoodIn wsX1_add (wsV RX1 66 RX1 yX1_reshape wsX1_reshape) := goodIn_app (goodIn_of _ (by decide +kernel)) ggX1_add_X1_reshape
theorem dX1_add_0 : decode cX1_add 0 = .ok (.aload_n 0, 1) := by decide +kernel
theorem dX1_add_1 : decode cX1_add 1 = .ok (.getfield 26, 3) := by decide +kernel
theorem dX1_add_4 : decode cX1_add 4 = .ok (.istore_n 2, 1) := by decide +kernel
theorem dX1_add_5 : decode cX1_add 5 = .ok (.iload_n 2, 1) := by decide +kernel
theorem dX1_add_6 : decode cX1_add 6 = .ok (.invokestatic 62, 3) := by decide +kernel
theorem dX1_add_9 : decode cX1_add 9 = .ok (.ifCond .ne 5, 3) := by decide +kernel
theorem dX1_add_12 : decode cX1_add 12 = .ok (.iconst (-1), 1) := by decide +kernel
theorem dX1_add_13 : decode cX1_add 13 = .ok (.ireturn, 1) := by decide +kernel
theorem dX1_add_14 : decode cX1_add 14 = .ok (.aload_n 0, 1) := by decide +kernel
theorem dX1_add_15 : decode cX1_add 15 = .ok (.dup, 1) := by decide +kernel
theorem dX1_add_16 : decode cX1_add 16 = .ok (.getfield 26, 3) := by decide +kernel
theorem dX1_add_19 : decode cX1_add 19 = .ok (.iconst 1, 1) := by decide +kernel
theorem dX1_add_20 : decode cX1_add 20 = .ok (.iadd, 1) := by decide +kernel
theorem dX1_add_21 : decode cX1_add 21 = .ok (.putfield 26, 3) := by decide +kernel
theorem dX1_add_24 : decode cX1_add 24 = .ok (.aload_n 0, 1) := by decide +kernel
theorem dX1_add_25 : decode cX1_add 25 = .ok (.dup, 1) := by decide +kernel
theorem dX1_add_26 : decode cX1_add 26 = .ok (.getfield 30, 3) := by decide +kernel
theorem dX1_add_29 : decode cX1_add 29 = .ok (.iconst 1, 1) := by decide +kernel
theorem dX1_add_30 : decode cX1_add 30 = .ok (.iadd, 1) := by decide +kernel
theorem dX1_add_31 : decode cX1_add 31 = .ok (.putfield 30, 3) := by decide +kernel
theorem dX1_add_34 : decode cX1_add 34 = .ok (.aload_n 0, 1) := by decide +kernel
theorem dX1_add_35 : decode cX1_add 35 = .ok (.iload_n 2, 1) := by decide +kernel
theorem dX1_add_36 : decode cX1_add 36 = .ok (.aload_n 1, 1) := by decide +kernel
theorem dX1_add_37 : decode cX1_add 37 = .ok (.invokevirtual 66, 3) := by decide +kernel
theorem dX1_add_40 : decode cX1_add 40 = .ok (.iload_n 2, 1) := by decide +kernel
theorem dX1_add_41 : decode cX1_add 41 = .ok (.ireturn, 1) := by decide +kernel
set_option maxRecDepth 20000 in
theorem ggX1_drop_X1_has : GoodIn wsX1_drop wsX1_has := goodIn_r _ [6, 7, 8, 9, 5, 10, 11, 12, 13, 14, 15, 16, 17, 18, 41, 42, 43, 44, 45, 46, 47] (by decide +kernel) (by decide +kernel)
set_option maxRecDepth 20000 in
theorem gX1_drop_X1_has : GoodIn wsX1_drop (wsV RX1 70 RX1 yX1_has wsX1_has) := goodIn_app (goodIn_of _ (by decide +kernel)) ggX1_drop_X1_has
set_option maxRecDepth 20000 in
theorem ggX1_drop_X1_release : GoodIn wsX1_drop wsX1_release := goodIn_r _ [22, 7, 8, 9, 5, 10, 11, 12, 13, 14, 15, 16, 17, 18, 23, 24, 25, 26, 27, 28, 29, 30, 31, 32, 33, 34, 35, 36, 41, 42, 43, 44, 45, 46, 47] (by decide +kernel) (by decide +kernel)
set_option maxRecDepth 20000 in
theorem gX1_drop_X1_release : GoodIn wsX1_drop (wsV RX1 73 RX1 yX1_release wsX1_release) := goodIn_app (goodIn_of _ (by decide +kernel)) ggX1_drop_X1_release
set_option maxRecDepth 20000 in
theorem ggX1_drop_X1_ring : GoodIn wsX1_drop wsX1_ring := goodIn_r _ [10, 11, 12, 41, 42, 43, 44, 45] (by decide +kernel) (by decide +kernel)
set_option maxRecDepth 20000 in
theorem gX1_drop_X1_ring : GoodIn wsX1_drop (wsV RX1 33 RX1 yX1_ring wsX1_ring) := goodIn_app (goodIn_of _ (by decide +kernel)) ggX1_drop_X1_ring
set_option maxRecDepth 20000 in
theorem ggX1_drop_X5_clear : GoodIn wsX1_drop wsX5_clear := goodIn_r _ [40, 18, 46, 47] (by decide +kernel) (by decide +kernel)
set_option maxRecDepth 20000 in
theorem gX1_drop_X5_clear : GoodIn wsX1_drop (wsV RX1 77 RX5 yX5_clear wsX5_clear) := goodIn_app (goodIn_of _ (by decide +kernel)) ggX1_drop_X5_clear
theorem dX1_drop_0 : decode cX1_drop 0 = .ok (.aload_n 0, 1) := by decide +kernel
theorem dX1_drop_1 : decode cX1_drop 1 = .ok (.iload_n 1, 1) := by decide +kernel
theorem dX1_drop_2 : decode cX1_drop 2 = .ok (.invokevirtual 70, 3) := by decide +kernel
theorem dX1_drop_5 : decode cX1_drop 5 = .ok (.ifCond .eq 26, 3) := by decide +kernel
theorem dX1_drop_8 : decode cX1_drop 8 = .ok (.aload_n 0, 1) := by decide +kernel
theorem dX1_drop_9 : decode cX1_drop 9 = .ok (.iload_n 1, 1) := by decide +kernel
theorem dX1_drop_10 : decode cX1_drop 10 = .ok (.invokevirtual 73, 3) := by decide +kernel
theorem dX1_drop_13 : decode cX1_drop 13 = .ok (.aload_n 0, 1) := by decide +kernel
theorem dX1_drop_14 : decode cX1_drop 14 = .ok (.iload_n 1, 1) := by decide +kernel
theorem dX1_drop_15 : decode cX1_drop 15 = .ok (.invokevirtual 33, 3) := by decide +kernel
theorem dX1_drop_18 : decode cX1_drop 18 = .ok (.invokevirtual 77, 3) := by decide +kernel
theorem dX1_drop_21 : decode cX1_drop 21 = .ok (.aload_n 0, 1) := by decide +kernel
theorem dX1_drop_22 : decode cX1_drop 22 = .ok (.dup, 1) := by decide +kernel
theorem dX1_drop_23 : decode cX1_drop 23 = .ok (.getfield 30, 3) := by decide +kernel
theorem dX1_drop_26 : decode cX1_drop 26 = .ok (.iconst 1, 1) := by decide +kernel
theorem dX1_drop_27 : decode cX1_drop 27 = .ok (.isub, 1) := by decide +kernel
theorem dX1_drop_28 : decode cX1_drop 28 = .ok (.putfield 30, 3) := by decide +kernel
theorem dX1_drop_31 : decode cX1_drop 31 = .ok (.return_, 1) := by decide +kernel
set_option maxRecDepth 20000 in
theorem ggX1_reshape_X1_release : GoodIn wsX1_reshape wsX1_release := goodIn_r _ [5, 6, 7, 8, 4, 9, 10, 11, 12, 13, 14, 15, 16, 17, 18, 19, 20, 21, 22, 23, 24, 25, 26, 27, 28, 29, 30, 31, 40, 41, 42, 43, 44, 45, 46] (by decide +kernel) (by decide +kernel)
set_option maxRecDepth 20000 in
theorem gX1_reshape_X1_release : GoodIn wsX1_reshape (wsV RX1 73 RX1 yX1_release wsX1_release) := goodIn_app (goodIn_of _ (by decide +kernel)) ggX1_reshape_X1_release
set_option maxRecDepth 20000 in
theorem ggX1_reshape_X1_ring : GoodIn wsX1_reshape wsX1_ring := goodIn_r _ [9, 10, 11, 40, 41, 42, 43, 44] (by decide +kernel) (by decide +kernel)
set_option maxRecDepth 20000 in
theorem gX1_reshape_X1_ring : GoodIn wsX1_reshape (wsV RX1 33 RX1 yX1_ring wsX1_ring) := goodIn_app (goodIn_of _ (by decide +kernel)) ggX1_reshape_X1_ring
set_option maxRecDepth 20000 in
theorem ggX1_reshape_X5_copyFrom : GoodIn wsX1_reshape wsX5_copyFrom := goodIn_r _ [35, 17, 22, 45, 46] (by decide +kernel) (by decide +kernel)
set_option maxRecDepth 20000 in
theorem gX1_reshape_X5_copyFrom : GoodIn wsX1_reshape (wsV RX1 80 RX5 yX5_copyFrom wsX5_copyFrom) := goodIn_app (goodIn_of _ (by decide +kernel)) ggX1_reshape_X5_copyFrom
set_option maxRecDepth 20000 in
theorem ggX1_reshape_X1_claim : GoodIn wsX1_reshape wsX1_claim := goodIn_r _ [39, 6, 7, 8, 4, 9, 10, 11, 12, 13, 14, 15, 16, 17, 18, 19, 20, 21, 22, 28, 29, 30, 31, 27, 40, 41, 42, 43, 44, 45, 46] (by decide +kernel) (by decide +kernel)
set_option maxRecDepth 20000 in
theorem gX1_reshape_X1_claim : GoodIn wsX1_reshape (wsV RX1 84 RX1 yX1_claim wsX1_claim) := goodIn_app (goodIn_of _ (by decide +kernel)) ggX1_reshape_X1_claim
theorem dX1_reshape_0 : decode cX1_reshape 0 = .ok (.aload_n 0, 1) := by decide +kernel
theorem dX1_reshape_1 : decode cX1_reshape 1 = .ok (.iload_n 1, 1) := by decide +kernel
theorem dX1_reshape_2 : decode cX1_reshape 2 = .ok (.invokevirtual 73, 3) := by decide +kernel
theorem dX1_reshape_5 : decode cX1_reshape 5 = .ok (.aload_n 0, 1) := by decide +kernel
theorem dX1_reshape_6 : decode cX1_reshape 6 = .ok (.iload_n 1, 1) := by decide +kernel
theorem dX1_reshape_7 : decode cX1_reshape 7 = .ok (.invokevirtual 33, 3) := by decide +kernel
theorem dX1_reshape_10 : decode cX1_reshape 10 = .ok (.aload_n 2, 1) := by decide +kernel
theorem dX1_reshape_11 : decode cX1_reshape 11 = .ok (.invokevirtual 80, 3) := by decide +kernel
theorem dX1_reshape_14 : decode cX1_reshape 14 = .ok (.aload_n 0, 1) := by decide +kernel
theorem dX1_reshape_15 : decode cX1_reshape 15 = .ok (.iload_n 1, 1) := by decide +kernel
theorem dX1_reshape_16 : decode cX1_reshape 16 = .ok (.invokevirtual 84, 3) := by decide +kernel
theorem dX1_reshape_19 : decode cX1_reshape 19 = .ok (.return_, 1) := by decide +kernel
set_option maxRecDepth 20000 in
theorem ggX1_claim_X1_ring : GoodIn wsX1_claim wsX1_ring := goodIn_r _ [5, 6, 7, 24, 25, 26, 27, 28] (by decide +kernel) (by decide +kernel)
set_option maxRecDepth 20000 in
theorem gX1_claim_X1_ring : GoodIn wsX1_claim (wsV RX1 33 RX1 yX1_ring wsX1_ring) := goodIn_app (goodIn_of _ (by decide +kernel)) ggX1_claim_X1_ring
set_option maxRecDepth 20000 in
theorem ggX1_claim_X5_length : GoodIn wsX1_claim wsX5_length := goodIn_r _ [12, 13, 29, 30] (by decide +kernel) (by decide +kernel)
set_option maxRecDepth 20000 in
theorem gX1_claim_X5_length : GoodIn wsX1_claim (wsV RX1 37 RX5 yX5_length wsX5_length) := goodIn_app (goodIn_of _ (by decide +kernel)) ggX1_claim_X5_length
set_option maxRecDepth 20000 in
theorem ggX1_claim_X5_get : GoodIn wsX1_claim wsX5_get := goodIn_r _ [17, 13, 18, 29, 30] (by decide +kernel) (by decide +kernel)
set_option maxRecDepth 20000 in
theorem gX1_claim_X5_get : GoodIn wsX1_claim (wsV RX1 45 RX5 yX5_get wsX5_get) := goodIn_app (goodIn_of _ (by decide +kernel)) ggX1_claim_X5_get
set_option maxRecDepth 20000 in
theorem ggX1_claim_X1_setOwner : GoodIn wsX1_claim wsX1_setOwner := goodIn_r _ [22, 23, 24, 25, 26, 27, 28] (by decide +kernel) (by decide +kernel)
set_option maxRecDepth 20000 in
theorem gX1_claim_X1_setOwner : GoodIn wsX1_claim (wsV RX1 87 RX1 yX1_setOwner wsX1_setOwner) := goodIn_app (goodIn_of _ (by decide +kernel)) ggX1_claim_X1_setOwner
theorem dX1_claim_0 : decode cX1_claim 0 = .ok (.aload_n 0, 1) := by decide +kernel
theorem dX1_claim_1 : decode cX1_claim 1 = .ok (.iload_n 1, 1) := by decide +kernel
theorem dX1_claim_2 : decode cX1_claim 2 = .ok (.invokevirtual 33, 3) := by decide +kernel
theorem dX1_claim_5 : decode cX1_claim 5 = .ok (.astore_n 2, 1) := by decide +kernel
theorem dX1_claim_6 : decode cX1_claim 6 = .ok (.iconst 0, 1) := by decide +kernel
theorem dX1_claim_7 : decode cX1_claim 7 = .ok (.istore_n 3, 1) := by decide +kernel
theorem dX1_claim_8 : decode cX1_claim 8 = .ok (.iload_n 3, 1) := by decide +kernel
theorem dX1_claim_9 : decode cX1_claim 9 = .ok (.aload_n 2, 1) := by decide +kernel
theorem dX1_claim_10 : decode cX1_claim 10 = .ok (.invokevirtual 37, 3) := by decide +kernel
theorem dX1_claim_13 : decode cX1_claim 13 = .ok (.if_icmp .ge 26, 3) := by decide +kernel
theorem dX1_claim_16 : decode cX1_claim 16 = .ok (.aload_n 0, 1) := by decide +kernel
theorem dX1_claim_17 : decode cX1_claim 17 = .ok (.aload_n 2, 1) := by decide +kernel
theorem dX1_claim_18 : decode cX1_claim 18 = .ok (.iload_n 3, 1) := by decide +kernel
theorem dX1_claim_19 : decode cX1_claim 19 = .ok (.invokevirtual 45, 3) := by decide +kernel
theorem dX1_claim_22 : decode cX1_claim 22 = .ok (.aload_n 2, 1) := by decide +kernel
theorem dX1_claim_23 : decode cX1_claim 23 = .ok (.iload_n 3, 1) := by decide +kernel
theorem dX1_claim_24 : decode cX1_claim 24 = .ok (.iconst 1, 1) := by decide +kernel
theorem dX1_claim_25 : decode cX1_claim 25 = .ok (.iadd, 1) := by decide +kernel
theorem dX1_claim_26 : decode cX1_claim 26 = .ok (.invokevirtual 45, 3) := by decide +kernel
theorem dX1_claim_29 : decode cX1_claim 29 = .ok (.iload_n 1, 1) := by decide +kernel
theorem dX1_claim_30 : decode cX1_claim 30 = .ok (.invokevirtual 87, 3) := by decide +kernel
theorem dX1_claim_33 : decode cX1_claim 33 = .ok (.iinc 3 1, 3) := by decide +kernel
theorem dX1_claim_36 : decode cX1_claim 36 = .ok (.goto (-28), 3) := by decide +kernel
theorem dX1_claim_39 : decode cX1_claim 39 = .ok (.return_, 1) := by decide +kernel
set_option maxRecDepth 20000 in
theorem ggX1_release_X1_ring : GoodIn wsX1_release wsX1_ring := goodIn_r _ [5, 6, 7, 28, 29, 30, 31, 32] (by decide +kernel) (by decide +kernel)
set_option maxRecDepth 20000 in
theorem gX1_release_X1_ring : GoodIn wsX1_release (wsV RX1 33 RX1 yX1_ring wsX1_ring) := goodIn_app (goodIn_of _ (by decide +kernel)) ggX1_release_X1_ring
set_option maxRecDepth 20000 in
theorem ggX1_release_X5_length : GoodIn wsX1_release wsX5_length := goodIn_r _ [12, 13, 33, 34] (by decide +kernel) (by decide +kernel)
set_option maxRecDepth 20000 in
theorem gX1_release_X5_length : GoodIn wsX1_release (wsV RX1 37 RX5 yX5_length wsX5_length) := goodIn_app (goodIn_of _ (by decide +kernel)) ggX1_release_X5_length
set_option maxRecDepth 20000 in
theorem ggX1_release_X5_get : GoodIn wsX1_release wsX5_get := goodIn_r _ [17, 13, 18, 33, 34] (by decide +kernel) (by decide +kernel)
set_option maxRecDepth 20000 in
theorem gX1_release_X5_get : GoodIn wsX1_release (wsV RX1 45 RX5 yX5_get wsX5_get) := goodIn_app (goodIn_of _ (by decide +kernel)) ggX1_release_X5_get
set_option maxRecDepth 20000 in
theorem ggX1_release_X1_owner : GoodIn wsX1_release wsX1_owner := goodIn_r _ [22, 23, 28, 29, 30, 31, 32] (by decide +kernel) (by decide +kernel)
set_option maxRecDepth 20000 in
theorem gX1_release_X1_owner : GoodIn wsX1_release (wsV RX1 41 RX1 yX1_owner wsX1_owner) := goodIn_app (goodIn_of _ (by decide +kernel)) ggX1_release_X1_owner
set_option maxRecDepth 20000 in
theorem ggX1_release_X1_setOwner : GoodIn wsX1_release wsX1_setOwner := goodIn_r _ [27, 23, 28, 29, 30, 31, 32] (by decide +kernel) (by decide +kernel)
set_option maxRecDepth 20000 in
theorem gX1_release_X1_setOwner : GoodIn wsX1_release (wsV RX1 87 RX1 yX1_setOwner wsX1_setOwner) := goodIn_app (goodIn_of _ (by decide +kernel)) ggX1_release_X1_setOwner
theorem dX1_release_0 : decode cX1_release 0 = .ok (.aload_n 0, 1) := by decide +kernel
theorem dX1_release_1 : decode cX1_release 1 = .ok (.iload_n 1, 1) := by decide +kernel
theorem dX1_release_2 : decode cX1_release 2 = .ok (.invokevirtual 33, 3) := by decide +kernel
theorem dX1_release_5 : decode cX1_release 5 = .ok (.astore_n 2, 1) := by decide +kernel
theorem dX1_release_6 : decode cX1_release 6 = .ok (.iconst 0, 1) := by decide +kernel
theorem dX1_release_7 : decode cX1_release 7 = .ok (.istore_n 3, 1) := by decide +kernel
theorem dX1_release_8 : decode cX1_release 8 = .ok (.iload_n 3, 1) := by decide +kernel
theorem dX1_release_9 : decode cX1_release 9 = .ok (.aload_n 2, 1) := by decide +kernel
theorem dX1_release_10 : decode cX1_release 10 = .ok (.invokevirtual 37, 3) := by decide +kernel
theorem dX1_release_13 : decode cX1_release 13 = .ok (.if_icmp .ge 46, 3) := by decide +kernel
theorem dX1_release_16 : decode cX1_release 16 = .ok (.aload_n 0, 1) := by decide +kernel
theorem dX1_release_17 : decode cX1_release 17 = .ok (.aload_n 2, 1) := by decide +kernel
theorem dX1_release_18 : decode cX1_release 18 = .ok (.iload_n 3, 1) := by decide +kernel
theorem dX1_release_19 : decode cX1_release 19 = .ok (.invokevirtual 45, 3) := by decide +kernel
theorem dX1_release_22 : decode cX1_release 22 = .ok (.aload_n 2, 1) := by decide +kernel
theorem dX1_release_23 : decode cX1_release 23 = .ok (.iload_n 3, 1) := by decide +kernel
theorem dX1_release_24 : decode cX1_release 24 = .ok (.iconst 1, 1) := by decide +kernel
theorem dX1_release_25 : decode cX1_release 25 = .ok (.iadd, 1) := by decide +kernel
theorem dX1_release_26 : decode cX1_release 26 = .ok (.invokevirtual 45, 3) := by decide +kernel
theorem dX1_release_29 : decode cX1_release 29 = .ok (.invokevirtual 41, 3) := by decide +kernel
theorem dX1_release_32 : decode cX1_release 32 = .ok (.iload_n 1, 1) := by decide +kernel
theorem dX1_release_33 : decode cX1_release 33 = .ok (.if_icmp .ne 20, 3) := by decide +kernel
theorem dX1_release_36 : decode cX1_release 36 = .ok (.aload_n 0, 1) := by decide +kernel
theorem dX1_release_37 : decode cX1_release 37 = .ok (.aload_n 2, 1) := by decide +kernel
theorem dX1_release_38 : decode cX1_release 38 = .ok (.iload_n 3, 1) := by decide +kernel
theorem dX1_release_39 : decode cX1_release 39 = .ok (.invokevirtual 45, 3) := by decide +kernel
theorem dX1_release_42 : decode cX1_release 42 = .ok (.aload_n 2, 1) := by decide +kernel
theorem dX1_release_43 : decode cX1_release 43 = .ok (.iload_n 3, 1) := by decide +kernel
theorem dX1_release_44 : decode cX1_release 44 = .ok (.iconst 1, 1) := by decide +kernel
theorem dX1_release_45 : decode cX1_release 45 = .ok (.iadd, 1) := by decide +kernel
theorem dX1_release_46 : decode cX1_release 46 = .ok (.invokevirtual 45, 3) := by decide +kernel
theorem dX1_release_49 : decode cX1_release 49 = .ok (.iconst (-1), 1) := by decide +kernel
theorem dX1_release_50 : decode cX1_release 50 = .ok (.invokevirtual 87, 3) := by decide +kernel
theorem dX1_release_53 : decode cX1_release 53 = .ok (.iinc 3 1, 3) := by decide +kernel
theorem dX1_release_56 : decode cX1_release 56 = .ok (.goto (-48), 3) := by decide +kernel
theorem dX1_release_59 : decode cX1_release 59 = .ok (.return_, 1) := by decide +kernel
theorem dX1_setOwner_0 : decode cX1_setOwner 0 = .ok (.iload_n 1, 1) := by decide +kernel
theorem dX1_setOwner_1 : decode cX1_setOwner 1 = .ok (.ifCond .lt 33, 3) := by decide +kernel
theorem dX1_setOwner_4 : decode cX1_setOwner 4 = .ok (.iload_n 1, 1) := by decide +kernel
theorem dX1_setOwner_5 : decode cX1_setOwner 5 = .ok (.bipush 100, 2) := by decide +kernel
theorem dX1_setOwner_7 : decode cX1_setOwner 7 = .ok (.if_icmp .ge 27, 3) := by decide +kernel
theorem dX1_setOwner_10 : decode cX1_setOwner 10 = .ok (.iload_n 2, 1) := by decide +kernel
theorem dX1_setOwner_11 : decode cX1_setOwner 11 = .ok (.ifCond .lt 23, 3) := by decide +kernel
theorem dX1_setOwner_14 : decode cX1_setOwner 14 = .ok (.iload_n 2, 1) := by decide +kernel
theorem dX1_setOwner_15 : decode cX1_setOwner 15 = .ok (.bipush 100, 2) := by decide +kernel
theorem dX1_setOwner_17 : decode cX1_setOwner 17 = .ok (.if_icmp .ge 17, 3) := by decide +kernel
theorem dX1_setOwner_20 : decode cX1_setOwner 20 = .ok (.aload_n 0, 1) := by decide +kernel
theorem dX1_setOwner_21 : decode cX1_setOwner 21 = .ok (.getfield 22, 3) := by decide +kernel
theorem dX1_setOwner_24 : decode cX1_setOwner 24 = .ok (.iload_n 1, 1) := by decide +kernel
theorem dX1_setOwner_25 : decode cX1_setOwner 25 = .ok (.bipush 100, 2) := by decide +kernel
theorem dX1_setOwner_27 : decode cX1_setOwner 27 = .ok (.imul, 1) := by decide +kernel
theorem dX1_setOwner_28 : decode cX1_setOwner 28 = .ok (.iload_n 2, 1) := by decide +kernel
theorem dX1_setOwner_29 : decode cX1_setOwner 29 = .ok (.iadd, 1) := by decide +kernel
theorem dX1_setOwner_30 : decode cX1_setOwner 30 = .ok (.iload_n 3, 1) := by decide +kernel
theorem dX1_setOwner_31 : decode cX1_setOwner 31 = .ok (.iconst 1, 1) := by decide +kernel
theorem dX1_setOwner_32 : decode cX1_setOwner 32 = .ok (.iadd, 1) := by decide +kernel
theorem dX1_setOwner_33 : decode cX1_setOwner 33 = .ok (.iastore, 1) := by decide +kernel
theorem dX1_setOwner_34 : decode cX1_setOwner 34 = .ok (.return_, 1) := by decide +kernel
theorem dX2_init_0 : decode cX2_init 0 = .ok (.aload_n 0, 1) := by decide +kernel
theorem dX2_init_1 : decode cX2_init 1 = .ok (.invokespecial 3, 3) := by decide +kernel
theorem dX2_init_4 : decode cX2_init 4 = .ok (.aload_n 0, 1) := by decide +kernel
theorem dX2_init_5 : decode cX2_init 5 = .ok (.sipush 10000, 3) := by decide +kernel
theorem dX2_init_8 : decode cX2_init 8 = .ok (.newarray .int, 2) := by decide +kernel
theorem dX2_init_10 : decode cX2_init 10 = .ok (.putfield 9, 3) := by decide +kernel
theorem dX2_init_13 : decode cX2_init 13 = .ok (.return_, 1) := by decide +kernel
theorem dX2_takeOff_0 : decode cX2_takeOff 0 = .ok (.aload_n 0, 1) := by decide +kernel
theorem dX2_takeOff_1 : decode cX2_takeOff 1 = .ok (.dup, 1) := by decide +kernel
theorem dX2_takeOff_2 : decode cX2_takeOff 2 = .ok (.getfield 15, 3) := by decide +kernel
theorem dX2_takeOff_5 : decode cX2_takeOff 5 = .ok (.iconst 1, 1) := by decide +kernel
theorem dX2_takeOff_6 : decode cX2_takeOff 6 = .ok (.iadd, 1) := by decide +kernel
theorem dX2_takeOff_7 : decode cX2_takeOff 7 = .ok (.putfield 15, 3) := by decide +kernel
theorem dX2_takeOff_10 : decode cX2_takeOff 10 = .ok (.return_, 1) := by decide +kernel
set_option maxRecDepth 20000 in
theorem ggX2_mark_X8_isPointNumber : GoodIn wsX2_mark wsX8_isPointNumber := goodIn_r _ [5] (by decide +kernel) (by decide +kernel)
set_option maxRecDepth 20000 in
theorem gX2_mark_X8_isPointNumber_n19 : GoodIn wsX2_mark (wsX8_isPointNumber) := ggX2_mark_X8_isPointNumber
theorem dX2_mark_0 : decode cX2_mark 0 = .ok (.iload_n 1, 1) := by decide +kernel
theorem dX2_mark_1 : decode cX2_mark 1 = .ok (.invokestatic 19, 3) := by decide +kernel
theorem dX2_mark_4 : decode cX2_mark 4 = .ok (.ifCond .eq 28, 3) := by decide +kernel
theorem dX2_mark_7 : decode cX2_mark 7 = .ok (.iload_n 2, 1) := by decide +kernel
theorem dX2_mark_8 : decode cX2_mark 8 = .ok (.invokestatic 19, 3) := by decide +kernel
theorem dX2_mark_11 : decode cX2_mark 11 = .ok (.ifCond .eq 21, 3) := by decide +kernel
theorem dX2_mark_14 : decode cX2_mark 14 = .ok (.aload_n 0, 1) := by decide +kernel
theorem dX2_mark_15 : decode cX2_mark 15 = .ok (.getfield 9, 3) := by decide +kernel
theorem dX2_mark_18 : decode cX2_mark 18 = .ok (.iload_n 1, 1) := by decide +kernel
theorem dX2_mark_19 : decode cX2_mark 19 = .ok (.bipush 100, 2) := by decide +kernel
theorem dX2_mark_21 : decode cX2_mark 21 = .ok (.imul, 1) := by decide +kernel
theorem dX2_mark_22 : decode cX2_mark 22 = .ok (.iload_n 2, 1) := by decide +kernel
theorem dX2_mark_23 : decode cX2_mark 23 = .ok (.iadd, 1) := by decide +kernel
theorem dX2_mark_24 : decode cX2_mark 24 = .ok (.iaload, 1) := by decide +kernel
theorem dX2_mark_25 : decode cX2_mark 25 = .ok (.aload_n 0, 1) := by decide +kernel
theorem dX2_mark_26 : decode cX2_mark 26 = .ok (.getfield 15, 3) := by decide +kernel
theorem dX2_mark_29 : decode cX2_mark 29 = .ok (.if_icmp .ne 5, 3) := by decide +kernel
theorem dX2_mark_32 : decode cX2_mark 32 = .ok (.iconst 0, 1) := by decide +kernel
theorem dX2_mark_33 : decode cX2_mark 33 = .ok (.ireturn, 1) := by decide +kernel
theorem dX2_mark_34 : decode cX2_mark 34 = .ok (.aload_n 0, 1) := by decide +kernel
theorem dX2_mark_35 : decode cX2_mark 35 = .ok (.getfield 9, 3) := by decide +kernel
theorem dX2_mark_38 : decode cX2_mark 38 = .ok (.iload_n 1, 1) := by decide +kernel
theorem dX2_mark_39 : decode cX2_mark 39 = .ok (.bipush 100, 2) := by decide +kernel
theorem dX2_mark_41 : decode cX2_mark 41 = .ok (.imul, 1) := by decide +kernel
theorem dX2_mark_42 : decode cX2_mark 42 = .ok (.iload_n 2, 1) := by decide +kernel
theorem dX2_mark_43 : decode cX2_mark 43 = .ok (.iadd, 1) := by decide +kernel
theorem dX2_mark_44 : decode cX2_mark 44 = .ok (.aload_n 0, 1) := by decide +kernel
theorem dX2_mark_45 : decode cX2_mark 45 = .ok (.getfield 15, 3) := by decide +kernel
theorem dX2_mark_48 : decode cX2_mark 48 = .ok (.iastore, 1) := by decide +kernel
theorem dX2_mark_49 : decode cX2_mark 49 = .ok (.iconst 1, 1) := by decide +kernel
theorem dX2_mark_50 : decode cX2_mark 50 = .ok (.ireturn, 1) := by decide +kernel
theorem dX3_init_0 : decode cX3_init 0 = .ok (.aload_n 0, 1) := by decide +kernel
theorem dX3_init_1 : decode cX3_init 1 = .ok (.invokespecial 3, 3) := by decide +kernel
theorem dX3_init_4 : decode cX3_init 4 = .ok (.aload_n 0, 1) := by decide +kernel
theorem dX3_init_5 : decode cX3_init 5 = .ok (.iconst 3, 1) := by decide +kernel
theorem dX3_init_6 : decode cX3_init 6 = .ok (.bipush 100, 2) := by decide +kernel
theorem dX3_init_8 : decode cX3_init 8 = .ok (.multianewarray 9 2, 4) := by decide +kernel
theorem dX3_init_12 : decode cX3_init 12 = .ok (.putfield 11, 3) := by decide +kernel
theorem dX3_init_15 : decode cX3_init 15 = .ok (.aload_n 0, 1) := by decide +kernel
theorem dX3_init_16 : decode cX3_init 16 = .ok (.bipush 100, 2) := by decide +kernel
theorem dX3_init_18 : decode cX3_init 18 = .ok (.newarray .boolean, 2) := by decide +kernel
theorem dX3_init_20 : decode cX3_init 20 = .ok (.putfield 16, 3) := by decide +kernel
theorem dX3_init_23 : decode cX3_init 23 = .ok (.return_, 1) := by decide +kernel
theorem dX3_ever_0 : decode cX3_ever 0 = .ok (.aload_n 0, 1) := by decide +kernel
theorem dX3_ever_1 : decode cX3_ever 1 = .ok (.getfield 20, 3) := by decide +kernel
theorem dX3_ever_4 : decode cX3_ever 4 = .ok (.ireturn, 1) := by decide +kernel
theorem dX3_left_0 : decode cX3_left 0 = .ok (.aload_n 0, 1) := by decide +kernel
theorem dX3_left_1 : decode cX3_left 1 = .ok (.getfield 24, 3) := by decide +kernel
theorem dX3_left_4 : decode cX3_left 4 = .ok (.ireturn, 1) := by decide +kernel
set_option maxRecDepth 20000 in
theorem ggX3_has_X8_isPointNumber : GoodIn wsX3_has wsX8_isPointNumber := goodIn_r _ [4] (by decide +kernel) (by decide +kernel)
set_option maxRecDepth 20000 in
theorem gX3_has_X8_isPointNumber_n27 : GoodIn wsX3_has (wsX8_isPointNumber) := ggX3_has_X8_isPointNumber
theorem dX3_has_0 : decode cX3_has 0 = .ok (.iload_n 1, 1) := by decide +kernel
theorem dX3_has_1 : decode cX3_has 1 = .ok (.invokestatic 27, 3) := by decide +kernel
theorem dX3_has_4 : decode cX3_has 4 = .ok (.ifCond .eq 16, 3) := by decide +kernel
theorem dX3_has_7 : decode cX3_has 7 = .ok (.aload_n 0, 1) := by decide +kernel
theorem dX3_has_8 : decode cX3_has 8 = .ok (.getfield 16, 3) := by decide +kernel
theorem dX3_has_11 : decode cX3_has 11 = .ok (.iload_n 1, 1) := by decide +kernel
theorem dX3_has_12 : decode cX3_has 12 = .ok (.baload, 1) := by decide +kernel
theorem dX3_has_13 : decode cX3_has 13 = .ok (.ifCond .eq 7, 3) := by decide +kernel
theorem dX3_has_16 : decode cX3_has 16 = .ok (.iconst 1, 1) := by decide +kernel
theorem dX3_has_17 : decode cX3_has 17 = .ok (.goto 4, 3) := by decide +kernel
theorem dX3_has_20 : decode cX3_has 20 = .ok (.iconst 0, 1) := by decide +kernel
theorem dX3_has_21 : decode cX3_has 21 = .ok (.ireturn, 1) := by decide +kernel
theorem dX3_hasRoom_0 : decode cX3_hasRoom 0 = .ok (.iload_n 1, 1) := by decide +kernel
theorem dX3_hasRoom_1 : decode cX3_hasRoom 1 = .ok (.bipush 100, 2) := by decide +kernel
theorem dX3_hasRoom_3 : decode cX3_hasRoom 3 = .ok (.aload_n 0, 1) := by decide +kernel
theorem dX3_hasRoom_4 : decode cX3_hasRoom 4 = .ok (.getfield 20, 3) := by decide +kernel
theorem dX3_hasRoom_7 : decode cX3_hasRoom 7 = .ok (.isub, 1) := by decide +kernel
theorem dX3_hasRoom_8 : decode cX3_hasRoom 8 = .ok (.if_icmp .gt 7, 3) := by decide +kernel
theorem dX3_hasRoom_11 : decode cX3_hasRoom 11 = .ok (.iconst 1, 1) := by decide +kernel
theorem dX3_hasRoom_12 : decode cX3_hasRoom 12 = .ok (.goto 4, 3) := by decide +kernel
theorem dX3_hasRoom_15 : decode cX3_hasRoom 15 = .ok (.iconst 0, 1) := by decide +kernel
theorem dX3_hasRoom_16 : decode cX3_hasRoom 16 = .ok (.ireturn, 1) := by decide +kernel
set_option maxRecDepth 20000 in
theorem ggX3_get_X8_isPointNumber : GoodIn wsX3_get wsX8_isPointNumber := goodIn_r _ [4] (by decide +kernel) (by decide +kernel)
set_option maxRecDepth 20000 in
theorem gX3_get_X8_isPointNumber_n27 : GoodIn wsX3_get (wsX8_isPointNumber) := ggX3_get_X8_isPointNumber
theorem dX3_get_0 : decode cX3_get 0 = .ok (.iload_n 1, 1) := by decide +kernel
theorem dX3_get_1 : decode cX3_get 1 = .ok (.invokestatic 27, 3) := by decide +kernel
theorem dX3_get_4 : decode cX3_get 4 = .ok (.ifCond .eq 12, 3) := by decide +kernel
theorem dX3_get_7 : decode cX3_get 7 = .ok (.iload_n 2, 1) := by decide +kernel
theorem dX3_get_8 : decode cX3_get 8 = .ok (.ifCond .lt 8, 3) := by decide +kernel
theorem dX3_get_11 : decode cX3_get 11 = .ok (.iload_n 2, 1) := by decide +kernel
theorem dX3_get_12 : decode cX3_get 12 = .ok (.iconst 3, 1) := by decide +kernel
theorem dX3_get_13 : decode cX3_get 13 = .ok (.if_icmp .lt 5, 3) := by decide +kernel
theorem dX3_get_16 : decode cX3_get 16 = .ok (.iconst 0, 1) := by decide +kernel
theorem dX3_get_17 : decode cX3_get 17 = .ok (.ireturn, 1) := by decide +kernel
theorem dX3_get_18 : decode cX3_get 18 = .ok (.aload_n 0, 1) := by decide +kernel
theorem dX3_get_19 : decode cX3_get 19 = .ok (.getfield 11, 3) := by decide +kernel
theorem dX3_get_22 : decode cX3_get 22 = .ok (.iload_n 2, 1) := by decide +kernel
theorem dX3_get_23 : decode cX3_get 23 = .ok (.aaload, 1) := by decide +kernel
theorem dX3_get_24 : decode cX3_get 24 = .ok (.iload_n 1, 1) := by decide +kernel
theorem dX3_get_25 : decode cX3_get 25 = .ok (.iaload, 1) := by decide +kernel
theorem dX3_get_26 : decode cX3_get 26 = .ok (.ireturn, 1) := by decide +kernel
set_option maxRecDepth 20000 in
theorem ggX3_put_X8_isPointNumber : GoodIn wsX3_put wsX8_isPointNumber := goodIn_r _ [4] (by decide +kernel) (by decide +kernel)
set_option maxRecDepth 20000 in
theorem gX3_put_X8_isPointNumber_n27 : GoodIn wsX3_put (wsX8_isPointNumber) := ggX3_put_X8_isPointNumber
theorem dX3_put_0 : decode cX3_put 0 = .ok (.iload_n 1, 1) := by decide +kernel
theorem dX3_put_1 : decode cX3_put 1 = .ok (.invokestatic 27, 3) := by decide +kernel
theorem dX3_put_4 : decode cX3_put 4 = .ok (.ifCond .eq 31, 3) := by decide +kernel
theorem dX3_put_7 : decode cX3_put 7 = .ok (.aload_n 0, 1) := by decide +kernel
theorem dX3_put_8 : decode cX3_put 8 = .ok (.getfield 11, 3) := by decide +kernel
theorem dX3_put_11 : decode cX3_put 11 = .ok (.iconst 0, 1) := by decide +kernel
theorem dX3_put_12 : decode cX3_put 12 = .ok (.aaload, 1) := by decide +kernel
theorem dX3_put_13 : decode cX3_put 13 = .ok (.iload_n 1, 1) := by decide +kernel
theorem dX3_put_14 : decode cX3_put 14 = .ok (.iload_n 2, 1) := by decide +kernel
theorem dX3_put_15 : decode cX3_put 15 = .ok (.iastore, 1) := by decide +kernel
theorem dX3_put_16 : decode cX3_put 16 = .ok (.aload_n 0, 1) := by decide +kernel
theorem dX3_put_17 : decode cX3_put 17 = .ok (.getfield 11, 3) := by decide +kernel
theorem dX3_put_20 : decode cX3_put 20 = .ok (.iconst 1, 1) := by decide +kernel
theorem dX3_put_21 : decode cX3_put 21 = .ok (.aaload, 1) := by decide +kernel
theorem dX3_put_22 : decode cX3_put 22 = .ok (.iload_n 1, 1) := by decide +kernel
theorem dX3_put_23 : decode cX3_put 23 = .ok (.iload_n 3, 1) := by decide +kernel
theorem dX3_put_24 : decode cX3_put 24 = .ok (.iastore, 1) := by decide +kernel
theorem dX3_put_25 : decode cX3_put 25 = .ok (.aload_n 0, 1) := by decide +kernel
theorem dX3_put_26 : decode cX3_put 26 = .ok (.getfield 11, 3) := by decide +kernel
theorem dX3_put_29 : decode cX3_put 29 = .ok (.iconst 2, 1) := by decide +kernel
theorem dX3_put_30 : decode cX3_put 30 = .ok (.aaload, 1) := by decide +kernel
theorem dX3_put_31 : decode cX3_put 31 = .ok (.iload_n 1, 1) := by decide +kernel
theorem dX3_put_32 : decode cX3_put 32 = .ok (.iload 4, 2) := by decide +kernel
theorem dX3_put_34 : decode cX3_put 34 = .ok (.iastore, 1) := by decide +kernel
theorem dX3_put_35 : decode cX3_put 35 = .ok (.return_, 1) := by decide +kernel
set_option maxRecDepth 20000 in
theorem ggX3_add_X8_isPointNumber : GoodIn wsX3_add wsX8_isPointNumber := goodIn_r _ [6] (by decide +kernel) (by decide +kernel)
set_option maxRecDepth 20000 in
theorem gX3_add_X8_isPointNumber_n27 : GoodIn wsX3_add (wsX8_isPointNumber) := ggX3_add_X8_isPointNumber
set_option maxRecDepth 20000 in
theorem ggX3_add_X3_put : GoodIn wsX3_add wsX3_put := goodIn_r _ [11, 12, 4, 5, 6, 13, 14, 15, 16] (by decide +kernel) (by decide +kernel)
set_option maxRecDepth 20000 in
theorem gX3_add_X3_put : GoodIn wsX3_add (wsV RX3 31 RX3 yX3_put wsX3_put) := goodIn_app (goodIn_of _ (by decide +kernel)) ggX3_add_X3_put
theorem dX3_add_0 : decode cX3_add 0 = .ok (.aload_n 0, 1) := by decide +kernel
theorem dX3_add_1 : decode cX3_add 1 = .ok (.getfield 20, 3) := by decide +kernel
theorem dX3_add_4 : decode cX3_add 4 = .ok (.istore 4, 2) := by decide +kernel
theorem dX3_add_6 : decode cX3_add 6 = .ok (.iload 4, 2) := by decide +kernel
theorem dX3_add_8 : decode cX3_add 8 = .ok (.invokestatic 27, 3) := by decide +kernel
theorem dX3_add_11 : decode cX3_add 11 = .ok (.ifCond .ne 5, 3) := by decide +kernel
theorem dX3_add_14 : decode cX3_add 14 = .ok (.iconst (-1), 1) := by decide +kernel
theorem dX3_add_15 : decode cX3_add 15 = .ok (.ireturn, 1) := by decide +kernel
theorem dX3_add_16 : decode cX3_add 16 = .ok (.aload_n 0, 1) := by decide +kernel
theorem dX3_add_17 : decode cX3_add 17 = .ok (.iload 4, 2) := by decide +kernel
theorem dX3_add_19 : decode cX3_add 19 = .ok (.iload_n 1, 1) := by decide +kernel
theorem dX3_add_20 : decode cX3_add 20 = .ok (.iload_n 2, 1) := by decide +kernel
theorem dX3_add_21 : decode cX3_add 21 = .ok (.iload_n 3, 1) := by decide +kernel
theorem dX3_add_22 : decode cX3_add 22 = .ok (.invokevirtual 31, 3) := by decide +kernel
theorem dX3_add_25 : decode cX3_add 25 = .ok (.aload_n 0, 1) := by decide +kernel
theorem dX3_add_26 : decode cX3_add 26 = .ok (.getfield 16, 3) := by decide +kernel
theorem dX3_add_29 : decode cX3_add 29 = .ok (.iload 4, 2) := by decide +kernel
theorem dX3_add_31 : decode cX3_add 31 = .ok (.iconst 1, 1) := by decide +kernel
theorem dX3_add_32 : decode cX3_add 32 = .ok (.bastore, 1) := by decide +kernel
theorem dX3_add_33 : decode cX3_add 33 = .ok (.aload_n 0, 1) := by decide +kernel
theorem dX3_add_34 : decode cX3_add 34 = .ok (.dup, 1) := by decide +kernel
theorem dX3_add_35 : decode cX3_add 35 = .ok (.getfield 20, 3) := by decide +kernel
theorem dX3_add_38 : decode cX3_add 38 = .ok (.iconst 1, 1) := by decide +kernel
theorem dX3_add_39 : decode cX3_add 39 = .ok (.iadd, 1) := by decide +kernel
theorem dX3_add_40 : decode cX3_add 40 = .ok (.putfield 20, 3) := by decide +kernel
theorem dX3_add_43 : decode cX3_add 43 = .ok (.aload_n 0, 1) := by decide +kernel
theorem dX3_add_44 : decode cX3_add 44 = .ok (.dup, 1) := by decide +kernel
theorem dX3_add_45 : decode cX3_add 45 = .ok (.getfield 24, 3) := by decide +kernel
theorem dX3_add_48 : decode cX3_add 48 = .ok (.iconst 1, 1) := by decide +kernel
theorem dX3_add_49 : decode cX3_add 49 = .ok (.iadd, 1) := by decide +kernel
theorem dX3_add_50 : decode cX3_add 50 = .ok (.putfield 24, 3) := by decide +kernel
theorem dX3_add_53 : decode cX3_add 53 = .ok (.iload 4, 2) := by decide +kernel
theorem dX3_add_55 : decode cX3_add 55 = .ok (.ireturn, 1) := by decide +kernel
set_option maxRecDepth 20000 in
theorem ggX3_addMiddle_X3_get : GoodIn wsX3_addMiddle wsX3_get := goodIn_r _ [5, 6, 7, 8, 9, 21, 22, 23, 24] (by decide +kernel) (by decide +kernel)
set_option maxRecDepth 20000 in
theorem gX3_addMiddle_X3_get : GoodIn wsX3_addMiddle (wsV RX3 35 RX3 yX3_get wsX3_get) := goodIn_app (goodIn_of _ (by decide +kernel)) ggX3_addMiddle_X3_get
set_option maxRecDepth 20000 in
theorem ggX3_addMiddle_X3_add : GoodIn wsX3_addMiddle wsX3_add := goodIn_r _ [13, 14, 15, 16, 7, 8, 9, 17, 18, 19, 4, 20, 6, 21, 22, 23, 24] (by decide +kernel) (by decide +kernel)
set_option maxRecDepth 20000 in
theorem gX3_addMiddle_X3_add : GoodIn wsX3_addMiddle (wsV RX3 39 RX3 yX3_add wsX3_add) := goodIn_app (goodIn_of _ (by decide +kernel)) ggX3_addMiddle_X3_add
theorem dX3_addMiddle_0 : decode cX3_addMiddle 0 = .ok (.aload_n 0, 1) := by decide +kernel
theorem dX3_addMiddle_1 : decode cX3_addMiddle 1 = .ok (.aload_n 0, 1) := by decide +kernel
theorem dX3_addMiddle_2 : decode cX3_addMiddle 2 = .ok (.iload_n 1, 1) := by decide +kernel
theorem dX3_addMiddle_3 : decode cX3_addMiddle 3 = .ok (.iconst 0, 1) := by decide +kernel
theorem dX3_addMiddle_4 : decode cX3_addMiddle 4 = .ok (.invokevirtual 35, 3) := by decide +kernel
theorem dX3_addMiddle_7 : decode cX3_addMiddle 7 = .ok (.aload_n 0, 1) := by decide +kernel
theorem dX3_addMiddle_8 : decode cX3_addMiddle 8 = .ok (.iload_n 2, 1) := by decide +kernel
theorem dX3_addMiddle_9 : decode cX3_addMiddle 9 = .ok (.iconst 0, 1) := by decide +kernel
theorem dX3_addMiddle_10 : decode cX3_addMiddle 10 = .ok (.invokevirtual 35, 3) := by decide +kernel
theorem dX3_addMiddle_13 : decode cX3_addMiddle 13 = .ok (.iadd, 1) := by decide +kernel
theorem dX3_addMiddle_14 : decode cX3_addMiddle 14 = .ok (.iconst 2, 1) := by decide +kernel
theorem dX3_addMiddle_15 : decode cX3_addMiddle 15 = .ok (.idiv, 1) := by decide +kernel
theorem dX3_addMiddle_16 : decode cX3_addMiddle 16 = .ok (.aload_n 0, 1) := by decide +kernel
theorem dX3_addMiddle_17 : decode cX3_addMiddle 17 = .ok (.iload_n 1, 1) := by decide +kernel
theorem dX3_addMiddle_18 : decode cX3_addMiddle 18 = .ok (.iconst 1, 1) := by decide +kernel
theorem dX3_addMiddle_19 : decode cX3_addMiddle 19 = .ok (.invokevirtual 35, 3) := by decide +kernel
theorem dX3_addMiddle_22 : decode cX3_addMiddle 22 = .ok (.aload_n 0, 1) := by decide +kernel
theorem dX3_addMiddle_23 : decode cX3_addMiddle 23 = .ok (.iload_n 2, 1) := by decide +kernel
theorem dX3_addMiddle_24 : decode cX3_addMiddle 24 = .ok (.iconst 1, 1) := by decide +kernel
theorem dX3_addMiddle_25 : decode cX3_addMiddle 25 = .ok (.invokevirtual 35, 3) := by decide +kernel
theorem dX3_addMiddle_28 : decode cX3_addMiddle 28 = .ok (.iadd, 1) := by decide +kernel
theorem dX3_addMiddle_29 : decode cX3_addMiddle 29 = .ok (.iconst 2, 1) := by decide +kernel
theorem dX3_addMiddle_30 : decode cX3_addMiddle 30 = .ok (.idiv, 1) := by decide +kernel
theorem dX3_addMiddle_31 : decode cX3_addMiddle 31 = .ok (.aload_n 0, 1) := by decide +kernel
theorem dX3_addMiddle_32 : decode cX3_addMiddle 32 = .ok (.iload_n 1, 1) := by decide +kernel
theorem dX3_addMiddle_33 : decode cX3_addMiddle 33 = .ok (.iconst 2, 1) := by decide +kernel
theorem dX3_addMiddle_34 : decode cX3_addMiddle 34 = .ok (.invokevirtual 35, 3) := by decide +kernel
theorem dX3_addMiddle_37 : decode cX3_addMiddle 37 = .ok (.aload_n 0, 1) := by decide +kernel
theorem dX3_addMiddle_38 : decode cX3_addMiddle 38 = .ok (.iload_n 2, 1) := by decide +kernel
theorem dX3_addMiddle_39 : decode cX3_addMiddle 39 = .ok (.iconst 2, 1) := by decide +kernel
theorem dX3_addMiddle_40 : decode cX3_addMiddle 40 = .ok (.invokevirtual 35, 3) := by decide +kernel
theorem dX3_addMiddle_43 : decode cX3_addMiddle 43 = .ok (.iadd, 1) := by decide +kernel
theorem dX3_addMiddle_44 : decode cX3_addMiddle 44 = .ok (.iconst 2, 1) := by decide +kernel
theorem dX3_addMiddle_45 : decode cX3_addMiddle 45 = .ok (.idiv, 1) := by decide +kernel
theorem dX3_addMiddle_46 : decode cX3_addMiddle 46 = .ok (.invokevirtual 39, 3) := by decide +kernel
theorem dX3_addMiddle_49 : decode cX3_addMiddle 49 = .ok (.ireturn, 1) := by decide +kernel
set_option maxRecDepth 20000 in
theorem ggX3_addCentre_X3_centre : GoodIn wsX3_addCentre wsX3_centre := goodIn_r _ [5, 6, 7, 8, 9, 10, 11, 12, 13, 14, 15, 16, 17, 18, 19, 4, 20, 21, 22, 23, 24, 36, 37, 38, 39, 40, 41] (by decide +kernel) (by decide +kernel)
set_option maxRecDepth 20000 in
theorem gX3_addCentre_X3_centre : GoodIn wsX3_addCentre (wsV RX3 43 RX3 yX3_centre wsX3_centre) := goodIn_app (goodIn_of _ (by decide +kernel)) ggX3_addCentre_X3_centre
set_option maxRecDepth 20000 in
theorem ggX3_addCentre_X3_add : GoodIn wsX3_addCentre wsX3_add := goodIn_r _ [28, 29, 30, 31, 22, 23, 24, 32, 33, 34, 4, 35, 21, 38, 39, 40, 41] (by decide +kernel) (by decide +kernel)
set_option maxRecDepth 20000 in
theorem gX3_addCentre_X3_add : GoodIn wsX3_addCentre (wsV RX3 39 RX3 yX3_add wsX3_add) := goodIn_app (goodIn_of _ (by decide +kernel)) ggX3_addCentre_X3_add
theorem dX3_addCentre_0 : decode cX3_addCentre 0 = .ok (.aload_n 0, 1) := by decide +kernel
theorem dX3_addCentre_1 : decode cX3_addCentre 1 = .ok (.aload_n 0, 1) := by decide +kernel
theorem dX3_addCentre_2 : decode cX3_addCentre 2 = .ok (.aload_n 1, 1) := by decide +kernel
theorem dX3_addCentre_3 : decode cX3_addCentre 3 = .ok (.iconst 0, 1) := by decide +kernel
theorem dX3_addCentre_4 : decode cX3_addCentre 4 = .ok (.invokevirtual 43, 3) := by decide +kernel
theorem dX3_addCentre_7 : decode cX3_addCentre 7 = .ok (.aload_n 0, 1) := by decide +kernel
theorem dX3_addCentre_8 : decode cX3_addCentre 8 = .ok (.aload_n 1, 1) := by decide +kernel
theorem dX3_addCentre_9 : decode cX3_addCentre 9 = .ok (.iconst 1, 1) := by decide +kernel
theorem dX3_addCentre_10 : decode cX3_addCentre 10 = .ok (.invokevirtual 43, 3) := by decide +kernel
theorem dX3_addCentre_13 : decode cX3_addCentre 13 = .ok (.aload_n 0, 1) := by decide +kernel
theorem dX3_addCentre_14 : decode cX3_addCentre 14 = .ok (.aload_n 1, 1) := by decide +kernel
theorem dX3_addCentre_15 : decode cX3_addCentre 15 = .ok (.iconst 2, 1) := by decide +kernel
theorem dX3_addCentre_16 : decode cX3_addCentre 16 = .ok (.invokevirtual 43, 3) := by decide +kernel
theorem dX3_addCentre_19 : decode cX3_addCentre 19 = .ok (.invokevirtual 39, 3) := by decide +kernel
theorem dX3_addCentre_22 : decode cX3_addCentre 22 = .ok (.ireturn, 1) := by decide +kernel
set_option maxRecDepth 20000 in
theorem ggX3_addShifted_X3_get : GoodIn wsX3_addShifted wsX3_get := goodIn_r _ [5, 6, 7, 8, 9, 21, 22, 23, 24] (by decide +kernel) (by decide +kernel)
set_option maxRecDepth 20000 in
theorem gX3_addShifted_X3_get : GoodIn wsX3_addShifted (wsV RX3 35 RX3 yX3_get wsX3_get) := goodIn_app (goodIn_of _ (by decide +kernel)) ggX3_addShifted_X3_get
set_option maxRecDepth 20000 in
theorem ggX3_addShifted_X3_add : GoodIn wsX3_addShifted wsX3_add := goodIn_r _ [13, 14, 15, 16, 7, 8, 9, 17, 18, 19, 4, 20, 6, 21, 22, 23, 24] (by decide +kernel) (by decide +kernel)
set_option maxRecDepth 20000 in
theorem gX3_addShifted_X3_add : GoodIn wsX3_addShifted (wsV RX3 39 RX3 yX3_add wsX3_add) := goodIn_app (goodIn_of _ (by decide +kernel)) ggX3_addShifted_X3_add
theorem dX3_addShifted_0 : decode cX3_addShifted 0 = .ok (.aload_n 0, 1) := by decide +kernel
theorem dX3_addShifted_1 : decode cX3_addShifted 1 = .ok (.aload_n 0, 1) := by decide +kernel
theorem dX3_addShifted_2 : decode cX3_addShifted 2 = .ok (.iload_n 1, 1) := by decide +kernel
theorem dX3_addShifted_3 : decode cX3_addShifted 3 = .ok (.iconst 0, 1) := by decide +kernel
theorem dX3_addShifted_4 : decode cX3_addShifted 4 = .ok (.invokevirtual 35, 3) := by decide +kernel
theorem dX3_addShifted_7 : decode cX3_addShifted 7 = .ok (.iload_n 2, 1) := by decide +kernel
theorem dX3_addShifted_8 : decode cX3_addShifted 8 = .ok (.iadd, 1) := by decide +kernel
theorem dX3_addShifted_9 : decode cX3_addShifted 9 = .ok (.aload_n 0, 1) := by decide +kernel
theorem dX3_addShifted_10 : decode cX3_addShifted 10 = .ok (.iload_n 1, 1) := by decide +kernel
theorem dX3_addShifted_11 : decode cX3_addShifted 11 = .ok (.iconst 1, 1) := by decide +kernel
theorem dX3_addShifted_12 : decode cX3_addShifted 12 = .ok (.invokevirtual 35, 3) := by decide +kernel
theorem dX3_addShifted_15 : decode cX3_addShifted 15 = .ok (.iload_n 3, 1) := by decide +kernel
theorem dX3_addShifted_16 : decode cX3_addShifted 16 = .ok (.iadd, 1) := by decide +kernel
theorem dX3_addShifted_17 : decode cX3_addShifted 17 = .ok (.aload_n 0, 1) := by decide +kernel
theorem dX3_addShifted_18 : decode cX3_addShifted 18 = .ok (.iload_n 1, 1) := by decide +kernel
theorem dX3_addShifted_19 : decode cX3_addShifted 19 = .ok (.iconst 2, 1) := by decide +kernel
theorem dX3_addShifted_20 : decode cX3_addShifted 20 = .ok (.invokevirtual 35, 3) := by decide +kernel
theorem dX3_addShifted_23 : decode cX3_addShifted 23 = .ok (.iload 4, 2) := by decide +kernel
theorem dX3_addShifted_25 : decode cX3_addShifted 25 = .ok (.iadd, 1) := by decide +kernel
theorem dX3_addShifted_26 : decode cX3_addShifted 26 = .ok (.invokevirtual 39, 3) := by decide +kernel
theorem dX3_addShifted_29 : decode cX3_addShifted 29 = .ok (.ireturn, 1) := by decide +kernel
set_option maxRecDepth 20000 in
theorem ggX3_drop_X3_has : GoodIn wsX3_drop wsX3_has := goodIn_r _ [7, 1, 8, 9, 10, 11, 12, 13, 14] (by decide +kernel) (by decide +kernel)
set_option maxRecDepth 20000 in
theorem gX3_drop_X3_has : GoodIn wsX3_drop (wsV RX3 47 RX3 yX3_has wsX3_has) := goodIn_app (goodIn_of _ (by decide +kernel)) ggX3_drop_X3_has
theorem dX3_drop_0 : decode cX3_drop 0 = .ok (.aload_n 0, 1) := by decide +kernel
theorem dX3_drop_1 : decode cX3_drop 1 = .ok (.iload_n 1, 1) := by decide +kernel
theorem dX3_drop_2 : decode cX3_drop 2 = .ok (.invokevirtual 47, 3) := by decide +kernel
theorem dX3_drop_5 : decode cX3_drop 5 = .ok (.ifCond .eq 20, 3) := by decide +kernel
theorem dX3_drop_8 : decode cX3_drop 8 = .ok (.aload_n 0, 1) := by decide +kernel
theorem dX3_drop_9 : decode cX3_drop 9 = .ok (.getfield 16, 3) := by decide +kernel
theorem dX3_drop_12 : decode cX3_drop 12 = .ok (.iload_n 1, 1) := by decide +kernel
theorem dX3_drop_13 : decode cX3_drop 13 = .ok (.iconst 0, 1) := by decide +kernel
theorem dX3_drop_14 : decode cX3_drop 14 = .ok (.bastore, 1) := by decide +kernel
theorem dX3_drop_15 : decode cX3_drop 15 = .ok (.aload_n 0, 1) := by decide +kernel
theorem dX3_drop_16 : decode cX3_drop 16 = .ok (.dup, 1) := by decide +kernel
theorem dX3_drop_17 : decode cX3_drop 17 = .ok (.getfield 24, 3) := by decide +kernel
theorem dX3_drop_20 : decode cX3_drop 20 = .ok (.iconst 1, 1) := by decide +kernel
theorem dX3_drop_21 : decode cX3_drop 21 = .ok (.isub, 1) := by decide +kernel
theorem dX3_drop_22 : decode cX3_drop 22 = .ok (.putfield 24, 3) := by decide +kernel
theorem dX3_drop_25 : decode cX3_drop 25 = .ok (.return_, 1) := by decide +kernel
set_option maxRecDepth 20000 in
theorem ggX3_squaredLength_X3_get : GoodIn wsX3_squaredLength wsX3_get := goodIn_r _ [5, 6, 7, 8, 9, 10, 11, 12, 13] (by decide +kernel) (by decide +kernel)
set_option maxRecDepth 20000 in
theorem gX3_squaredLength_X3_get : GoodIn wsX3_squaredLength (wsV RX3 35 RX3 yX3_get wsX3_get) := goodIn_app (goodIn_of _ (by decide +kernel)) ggX3_squaredLength_X3_get
theorem dX3_squaredLength_0 : decode cX3_squaredLength 0 = .ok (.iconst 0, 1) := by decide +kernel
theorem dX3_squaredLength_1 : decode cX3_squaredLength 1 = .ok (.istore_n 3, 1) := by decide +kernel
theorem dX3_squaredLength_2 : decode cX3_squaredLength 2 = .ok (.iconst 0, 1) := by decide +kernel
theorem dX3_squaredLength_3 : decode cX3_squaredLength 3 = .ok (.istore 4, 2) := by decide +kernel
theorem dX3_squaredLength_5 : decode cX3_squaredLength 5 = .ok (.iload 4, 2) := by decide +kernel
theorem dX3_squaredLength_7 : decode cX3_squaredLength 7 = .ok (.iconst 3, 1) := by decide +kernel
theorem dX3_squaredLength_8 : decode cX3_squaredLength 8 = .ok (.if_icmp .ge 34, 3) := by decide +kernel
theorem dX3_squaredLength_11 : decode cX3_squaredLength 11 = .ok (.aload_n 0, 1) := by decide +kernel
theorem dX3_squaredLength_12 : decode cX3_squaredLength 12 = .ok (.iload_n 2, 1) := by decide +kernel
theorem dX3_squaredLength_13 : decode cX3_squaredLength 13 = .ok (.iload 4, 2) := by decide +kernel
theorem dX3_squaredLength_15 : decode cX3_squaredLength 15 = .ok (.invokevirtual 35, 3) := by decide +kernel
theorem dX3_squaredLength_18 : decode cX3_squaredLength 18 = .ok (.aload_n 0, 1) := by decide +kernel
theorem dX3_squaredLength_19 : decode cX3_squaredLength 19 = .ok (.iload_n 1, 1) := by decide +kernel
theorem dX3_squaredLength_20 : decode cX3_squaredLength 20 = .ok (.iload 4, 2) := by decide +kernel
theorem dX3_squaredLength_22 : decode cX3_squaredLength 22 = .ok (.invokevirtual 35, 3) := by decide +kernel
theorem dX3_squaredLength_25 : decode cX3_squaredLength 25 = .ok (.isub, 1) := by decide +kernel
theorem dX3_squaredLength_26 : decode cX3_squaredLength 26 = .ok (.istore 5, 2) := by decide +kernel
theorem dX3_squaredLength_28 : decode cX3_squaredLength 28 = .ok (.iload_n 3, 1) := by decide +kernel
theorem dX3_squaredLength_29 : decode cX3_squaredLength 29 = .ok (.iload 5, 2) := by decide +kernel
theorem dX3_squaredLength_31 : decode cX3_squaredLength 31 = .ok (.iload 5, 2) := by decide +kernel
theorem dX3_squaredLength_33 : decode cX3_squaredLength 33 = .ok (.imul, 1) := by decide +kernel
theorem dX3_squaredLength_34 : decode cX3_squaredLength 34 = .ok (.iadd, 1) := by decide +kernel
theorem dX3_squaredLength_35 : decode cX3_squaredLength 35 = .ok (.istore_n 3, 1) := by decide +kernel
theorem dX3_squaredLength_36 : decode cX3_squaredLength 36 = .ok (.iinc 4 1, 3) := by decide +kernel
theorem dX3_squaredLength_39 : decode cX3_squaredLength 39 = .ok (.goto (-34), 3) := by decide +kernel
theorem dX3_squaredLength_42 : decode cX3_squaredLength 42 = .ok (.iload_n 3, 1) := by decide +kernel
theorem dX3_squaredLength_43 : decode cX3_squaredLength 43 = .ok (.ireturn, 1) := by decide +kernel
set_option maxRecDepth 20000 in
theorem ggX3_normalOf_X5_length : GoodIn wsX3_normalOf wsX5_length := goodIn_r _ [5, 6, 21, 22] (by decide +kernel) (by decide +kernel)
set_option maxRecDepth 20000 in
theorem gX3_normalOf_X5_length : GoodIn wsX3_normalOf (wsV RX3 50 RX5 yX5_length wsX5_length) := goodIn_app (goodIn_of _ (by decide +kernel)) ggX3_normalOf_X5_length
set_option maxRecDepth 20000 in
theorem ggX3_normalOf_X5_get : GoodIn wsX3_normalOf wsX5_get := goodIn_r _ [10, 6, 11, 21, 22] (by decide +kernel) (by decide +kernel)
set_option maxRecDepth 20000 in
theorem gX3_normalOf_X5_get : GoodIn wsX3_normalOf (wsV RX3 56 RX5 yX5_get wsX5_get) := goodIn_app (goodIn_of _ (by decide +kernel)) ggX3_normalOf_X5_get
set_option maxRecDepth 20000 in
theorem ggX3_normalOf_X3_get : GoodIn wsX3_normalOf wsX3_get := goodIn_r _ [16, 17, 18, 19, 20, 23, 24, 25, 26] (by decide +kernel) (by decide +kernel)
set_option maxRecDepth 20000 in
theorem gX3_normalOf_X3_get : GoodIn wsX3_normalOf (wsV RX3 35 RX3 yX3_get wsX3_get) := goodIn_app (goodIn_of _ (by decide +kernel)) ggX3_normalOf_X3_get
theorem dX3_normalOf_0 : decode cX3_normalOf 0 = .ok (.iload_n 2, 1) := by decide +kernel
theorem dX3_normalOf_1 : decode cX3_normalOf 1 = .ok (.iconst 1, 1) := by decide +kernel
theorem dX3_normalOf_2 : decode cX3_normalOf 2 = .ok (.iadd, 1) := by decide +kernel
theorem dX3_normalOf_3 : decode cX3_normalOf 3 = .ok (.iconst 3, 1) := by decide +kernel
theorem dX3_normalOf_4 : decode cX3_normalOf 4 = .ok (.irem, 1) := by decide +kernel
theorem dX3_normalOf_5 : decode cX3_normalOf 5 = .ok (.istore_n 3, 1) := by decide +kernel
theorem dX3_normalOf_6 : decode cX3_normalOf 6 = .ok (.iload_n 2, 1) := by decide +kernel
theorem dX3_normalOf_7 : decode cX3_normalOf 7 = .ok (.iconst 2, 1) := by decide +kernel
theorem dX3_normalOf_8 : decode cX3_normalOf 8 = .ok (.iadd, 1) := by decide +kernel
theorem dX3_normalOf_9 : decode cX3_normalOf 9 = .ok (.iconst 3, 1) := by decide +kernel
theorem dX3_normalOf_10 : decode cX3_normalOf 10 = .ok (.irem, 1) := by decide +kernel
theorem dX3_normalOf_11 : decode cX3_normalOf 11 = .ok (.istore 4, 2) := by decide +kernel
theorem dX3_normalOf_13 : decode cX3_normalOf 13 = .ok (.iconst 0, 1) := by decide +kernel
theorem dX3_normalOf_14 : decode cX3_normalOf 14 = .ok (.istore 5, 2) := by decide +kernel
theorem dX3_normalOf_16 : decode cX3_normalOf 16 = .ok (.iconst 0, 1) := by decide +kernel
theorem dX3_normalOf_17 : decode cX3_normalOf 17 = .ok (.istore 6, 2) := by decide +kernel
theorem dX3_normalOf_19 : decode cX3_normalOf 19 = .ok (.iload 6, 2) := by decide +kernel
theorem dX3_normalOf_21 : decode cX3_normalOf 21 = .ok (.aload_n 1, 1) := by decide +kernel
theorem dX3_normalOf_22 : decode cX3_normalOf 22 = .ok (.invokevirtual 50, 3) := by decide +kernel
theorem dX3_normalOf_25 : decode cX3_normalOf 25 = .ok (.if_icmp .ge 65, 3) := by decide +kernel
theorem dX3_normalOf_28 : decode cX3_normalOf 28 = .ok (.aload_n 1, 1) := by decide +kernel
theorem dX3_normalOf_29 : decode cX3_normalOf 29 = .ok (.iload 6, 2) := by decide +kernel
theorem dX3_normalOf_31 : decode cX3_normalOf 31 = .ok (.invokevirtual 56, 3) := by decide +kernel
theorem dX3_normalOf_34 : decode cX3_normalOf 34 = .ok (.istore 7, 2) := by decide +kernel
theorem dX3_normalOf_36 : decode cX3_normalOf 36 = .ok (.aload_n 1, 1) := by decide +kernel
theorem dX3_normalOf_37 : decode cX3_normalOf 37 = .ok (.iload 6, 2) := by decide +kernel
theorem dX3_normalOf_39 : decode cX3_normalOf 39 = .ok (.iconst 1, 1) := by decide +kernel
theorem dX3_normalOf_40 : decode cX3_normalOf 40 = .ok (.iadd, 1) := by decide +kernel
theorem dX3_normalOf_41 : decode cX3_normalOf 41 = .ok (.invokevirtual 56, 3) := by decide +kernel
theorem dX3_normalOf_44 : decode cX3_normalOf 44 = .ok (.istore 8, 2) := by decide +kernel
theorem dX3_normalOf_46 : decode cX3_normalOf 46 = .ok (.iload 5, 2) := by decide +kernel
theorem dX3_normalOf_48 : decode cX3_normalOf 48 = .ok (.aload_n 0, 1) := by decide +kernel
theorem dX3_normalOf_49 : decode cX3_normalOf 49 = .ok (.iload 7, 2) := by decide +kernel
theorem dX3_normalOf_51 : decode cX3_normalOf 51 = .ok (.iload_n 3, 1) := by decide +kernel
theorem dX3_normalOf_52 : decode cX3_normalOf 52 = .ok (.invokevirtual 35, 3) := by decide +kernel
theorem dX3_normalOf_55 : decode cX3_normalOf 55 = .ok (.aload_n 0, 1) := by decide +kernel
theorem dX3_normalOf_56 : decode cX3_normalOf 56 = .ok (.iload 8, 2) := by decide +kernel
theorem dX3_normalOf_58 : decode cX3_normalOf 58 = .ok (.iload 4, 2) := by decide +kernel
theorem dX3_normalOf_60 : decode cX3_normalOf 60 = .ok (.invokevirtual 35, 3) := by decide +kernel
theorem dX3_normalOf_63 : decode cX3_normalOf 63 = .ok (.imul, 1) := by decide +kernel
theorem dX3_normalOf_64 : decode cX3_normalOf 64 = .ok (.aload_n 0, 1) := by decide +kernel
theorem dX3_normalOf_65 : decode cX3_normalOf 65 = .ok (.iload 7, 2) := by decide +kernel
theorem dX3_normalOf_67 : decode cX3_normalOf 67 = .ok (.iload 4, 2) := by decide +kernel
theorem dX3_normalOf_69 : decode cX3_normalOf 69 = .ok (.invokevirtual 35, 3) := by decide +kernel
theorem dX3_normalOf_72 : decode cX3_normalOf 72 = .ok (.aload_n 0, 1) := by decide +kernel
theorem dX3_normalOf_73 : decode cX3_normalOf 73 = .ok (.iload 8, 2) := by decide +kernel
theorem dX3_normalOf_75 : decode cX3_normalOf 75 = .ok (.iload_n 3, 1) := by decide +kernel
theorem dX3_normalOf_76 : decode cX3_normalOf 76 = .ok (.invokevirtual 35, 3) := by decide +kernel
theorem dX3_normalOf_79 : decode cX3_normalOf 79 = .ok (.imul, 1) := by decide +kernel
theorem dX3_normalOf_80 : decode cX3_normalOf 80 = .ok (.isub, 1) := by decide +kernel
theorem dX3_normalOf_81 : decode cX3_normalOf 81 = .ok (.iadd, 1) := by decide +kernel
theorem dX3_normalOf_82 : decode cX3_normalOf 82 = .ok (.istore 5, 2) := by decide +kernel
theorem dX3_normalOf_84 : decode cX3_normalOf 84 = .ok (.iinc 6 1, 3) := by decide +kernel
theorem dX3_normalOf_87 : decode cX3_normalOf 87 = .ok (.goto (-68), 3) := by decide +kernel
theorem dX3_normalOf_90 : decode cX3_normalOf 90 = .ok (.iload 5, 2) := by decide +kernel
theorem dX3_normalOf_92 : decode cX3_normalOf 92 = .ok (.ireturn, 1) := by decide +kernel
set_option maxRecDepth 20000 in
theorem ggX3_bulkOf_X5_length : GoodIn wsX3_bulkOf wsX5_length := goodIn_r _ [5, 6, 25, 26] (by decide +kernel) (by decide +kernel)
set_option maxRecDepth 20000 in
theorem gX3_bulkOf_X5_length : GoodIn wsX3_bulkOf (wsV RX3 50 RX5 yX5_length wsX5_length) := goodIn_app (goodIn_of _ (by decide +kernel)) ggX3_bulkOf_X5_length
set_option maxRecDepth 20000 in
theorem ggX3_bulkOf_X5_get : GoodIn wsX3_bulkOf wsX5_get := goodIn_r _ [10, 6, 11, 25, 26] (by decide +kernel) (by decide +kernel)
set_option maxRecDepth 20000 in
theorem gX3_bulkOf_X5_get : GoodIn wsX3_bulkOf (wsV RX3 56 RX5 yX5_get wsX5_get) := goodIn_app (goodIn_of _ (by decide +kernel)) ggX3_bulkOf_X5_get
set_option maxRecDepth 20000 in
theorem ggX3_bulkOf_X3_spat : GoodIn wsX3_bulkOf wsX3_spat := goodIn_r _ [16, 17, 18, 19, 15, 20, 21, 22, 23, 24, 27, 28, 29, 30] (by decide +kernel) (by decide +kernel)
set_option maxRecDepth 20000 in
theorem gX3_bulkOf_X3_spat : GoodIn wsX3_bulkOf (wsV RX3 59 RX3 yX3_spat wsX3_spat) := goodIn_app (goodIn_of _ (by decide +kernel)) ggX3_bulkOf_X3_spat
theorem dX3_bulkOf_0 : decode cX3_bulkOf 0 = .ok (.lconst 0, 1) := by decide +kernel
theorem dX3_bulkOf_1 : decode cX3_bulkOf 1 = .ok (.lstore_n 2, 1) := by decide +kernel
theorem dX3_bulkOf_2 : decode cX3_bulkOf 2 = .ok (.iconst 1, 1) := by decide +kernel
theorem dX3_bulkOf_3 : decode cX3_bulkOf 3 = .ok (.istore 4, 2) := by decide +kernel
theorem dX3_bulkOf_5 : decode cX3_bulkOf 5 = .ok (.iload 4, 2) := by decide +kernel
theorem dX3_bulkOf_7 : decode cX3_bulkOf 7 = .ok (.iconst 1, 1) := by decide +kernel
theorem dX3_bulkOf_8 : decode cX3_bulkOf 8 = .ok (.iadd, 1) := by decide +kernel
theorem dX3_bulkOf_9 : decode cX3_bulkOf 9 = .ok (.aload_n 1, 1) := by decide +kernel
theorem dX3_bulkOf_10 : decode cX3_bulkOf 10 = .ok (.invokevirtual 50, 3) := by decide +kernel
theorem dX3_bulkOf_13 : decode cX3_bulkOf 13 = .ok (.if_icmp .ge 35, 3) := by decide +kernel
theorem dX3_bulkOf_16 : decode cX3_bulkOf 16 = .ok (.lload_n 2, 1) := by decide +kernel
theorem dX3_bulkOf_17 : decode cX3_bulkOf 17 = .ok (.aload_n 0, 1) := by decide +kernel
theorem dX3_bulkOf_18 : decode cX3_bulkOf 18 = .ok (.aload_n 1, 1) := by decide +kernel
theorem dX3_bulkOf_19 : decode cX3_bulkOf 19 = .ok (.iconst 0, 1) := by decide +kernel
theorem dX3_bulkOf_20 : decode cX3_bulkOf 20 = .ok (.invokevirtual 56, 3) := by decide +kernel
theorem dX3_bulkOf_23 : decode cX3_bulkOf 23 = .ok (.aload_n 1, 1) := by decide +kernel
theorem dX3_bulkOf_24 : decode cX3_bulkOf 24 = .ok (.iload 4, 2) := by decide +kernel
theorem dX3_bulkOf_26 : decode cX3_bulkOf 26 = .ok (.invokevirtual 56, 3) := by decide +kernel
theorem dX3_bulkOf_29 : decode cX3_bulkOf 29 = .ok (.aload_n 1, 1) := by decide +kernel
theorem dX3_bulkOf_30 : decode cX3_bulkOf 30 = .ok (.iload 4, 2) := by decide +kernel
theorem dX3_bulkOf_32 : decode cX3_bulkOf 32 = .ok (.iconst 1, 1) := by decide +kernel
theorem dX3_bulkOf_33 : decode cX3_bulkOf 33 = .ok (.iadd, 1) := by decide +kernel
theorem dX3_bulkOf_34 : decode cX3_bulkOf 34 = .ok (.invokevirtual 56, 3) := by decide +kernel
theorem dX3_bulkOf_37 : decode cX3_bulkOf 37 = .ok (.invokevirtual 59, 3) := by decide +kernel
theorem dX3_bulkOf_40 : decode cX3_bulkOf 40 = .ok (.ladd, 1) := by decide +kernel
theorem dX3_bulkOf_41 : decode cX3_bulkOf 41 = .ok (.lstore_n 2, 1) := by decide +kernel
theorem dX3_bulkOf_42 : decode cX3_bulkOf 42 = .ok (.iinc 4 1, 3) := by decide +kernel
theorem dX3_bulkOf_45 : decode cX3_bulkOf 45 = .ok (.goto (-40), 3) := by decide +kernel
theorem dX3_bulkOf_48 : decode cX3_bulkOf 48 = .ok (.lload_n 2, 1) := by decide +kernel
theorem dX3_bulkOf_49 : decode cX3_bulkOf 49 = .ok (.lreturn, 1) := by decide +kernel
set_option maxRecDepth 20000 in
theorem ggX3_spat_X3_get : GoodIn wsX3_spat wsX3_get := goodIn_r _ [5, 6, 7, 8, 9, 10, 11, 12, 13] (by decide +kernel) (by decide +kernel)
set_option maxRecDepth 20000 in
theorem gX3_spat_X3_get : GoodIn wsX3_spat (wsV RX3 35 RX3 yX3_get wsX3_get) := goodIn_app (goodIn_of _ (by decide +kernel)) ggX3_spat_X3_get
theorem dX3_spat_0 : decode cX3_spat 0 = .ok (.lconst 0, 1) := by decide +kernel
theorem dX3_spat_1 : decode cX3_spat 1 = .ok (.lstore 4, 2) := by decide +kernel
theorem dX3_spat_3 : decode cX3_spat 3 = .ok (.iconst 0, 1) := by decide +kernel
theorem dX3_spat_4 : decode cX3_spat 4 = .ok (.istore 6, 2) := by decide +kernel
theorem dX3_spat_6 : decode cX3_spat 6 = .ok (.iload 6, 2) := by decide +kernel
theorem dX3_spat_8 : decode cX3_spat 8 = .ok (.iconst 3, 1) := by decide +kernel
theorem dX3_spat_9 : decode cX3_spat 9 = .ok (.if_icmp .ge 78, 3) := by decide +kernel
theorem dX3_spat_12 : decode cX3_spat 12 = .ok (.iload 6, 2) := by decide +kernel
theorem dX3_spat_14 : decode cX3_spat 14 = .ok (.iconst 1, 1) := by decide +kernel
theorem dX3_spat_15 : decode cX3_spat 15 = .ok (.iadd, 1) := by decide +kernel
theorem dX3_spat_16 : decode cX3_spat 16 = .ok (.iconst 3, 1) := by decide +kernel
theorem dX3_spat_17 : decode cX3_spat 17 = .ok (.irem, 1) := by decide +kernel
theorem dX3_spat_18 : decode cX3_spat 18 = .ok (.istore 7, 2) := by decide +kernel
theorem dX3_spat_20 : decode cX3_spat 20 = .ok (.iload 6, 2) := by decide +kernel
theorem dX3_spat_22 : decode cX3_spat 22 = .ok (.iconst 2, 1) := by decide +kernel
theorem dX3_spat_23 : decode cX3_spat 23 = .ok (.iadd, 1) := by decide +kernel
theorem dX3_spat_24 : decode cX3_spat 24 = .ok (.iconst 3, 1) := by decide +kernel
theorem dX3_spat_25 : decode cX3_spat 25 = .ok (.irem, 1) := by decide +kernel
theorem dX3_spat_26 : decode cX3_spat 26 = .ok (.istore 8, 2) := by decide +kernel
theorem dX3_spat_28 : decode cX3_spat 28 = .ok (.aload_n 0, 1) := by decide +kernel
theorem dX3_spat_29 : decode cX3_spat 29 = .ok (.iload_n 2, 1) := by decide +kernel
theorem dX3_spat_30 : decode cX3_spat 30 = .ok (.iload 7, 2) := by decide +kernel
theorem dX3_spat_32 : decode cX3_spat 32 = .ok (.invokevirtual 35, 3) := by decide +kernel
theorem dX3_spat_35 : decode cX3_spat 35 = .ok (.i2l, 1) := by decide +kernel
theorem dX3_spat_36 : decode cX3_spat 36 = .ok (.aload_n 0, 1) := by decide +kernel
theorem dX3_spat_37 : decode cX3_spat 37 = .ok (.iload_n 3, 1) := by decide +kernel
theorem dX3_spat_38 : decode cX3_spat 38 = .ok (.iload 8, 2) := by decide +kernel
theorem dX3_spat_40 : decode cX3_spat 40 = .ok (.invokevirtual 35, 3) := by decide +kernel
theorem dX3_spat_43 : decode cX3_spat 43 = .ok (.i2l, 1) := by decide +kernel
theorem dX3_spat_44 : decode cX3_spat 44 = .ok (.lmul, 1) := by decide +kernel
theorem dX3_spat_45 : decode cX3_spat 45 = .ok (.aload_n 0, 1) := by decide +kernel
theorem dX3_spat_46 : decode cX3_spat 46 = .ok (.iload_n 2, 1) := by decide +kernel
theorem dX3_spat_47 : decode cX3_spat 47 = .ok (.iload 8, 2) := by decide +kernel
theorem dX3_spat_49 : decode cX3_spat 49 = .ok (.invokevirtual 35, 3) := by decide +kernel
theorem dX3_spat_52 : decode cX3_spat 52 = .ok (.i2l, 1) := by decide +kernel
theorem dX3_spat_53 : decode cX3_spat 53 = .ok (.aload_n 0, 1) := by decide +kernel
theorem dX3_spat_54 : decode cX3_spat 54 = .ok (.iload_n 3, 1) := by decide +kernel
theorem dX3_spat_55 : decode cX3_spat 55 = .ok (.iload 7, 2) := by decide +kernel
theorem dX3_spat_57 : decode cX3_spat 57 = .ok (.invokevirtual 35, 3) := by decide +kernel
theorem dX3_spat_60 : decode cX3_spat 60 = .ok (.i2l, 1) := by decide +kernel
theorem dX3_spat_61 : decode cX3_spat 61 = .ok (.lmul, 1) := by decide +kernel
theorem dX3_spat_62 : decode cX3_spat 62 = .ok (.lsub, 1) := by decide +kernel
theorem dX3_spat_63 : decode cX3_spat 63 = .ok (.lstore 9, 2) := by decide +kernel
theorem dX3_spat_65 : decode cX3_spat 65 = .ok (.lload 4, 2) := by decide +kernel
theorem dX3_spat_67 : decode cX3_spat 67 = .ok (.aload_n 0, 1) := by decide +kernel
theorem dX3_spat_68 : decode cX3_spat 68 = .ok (.iload_n 1, 1) := by decide +kernel
theorem dX3_spat_69 : decode cX3_spat 69 = .ok (.iload 6, 2) := by decide +kernel
theorem dX3_spat_71 : decode cX3_spat 71 = .ok (.invokevirtual 35, 3) := by decide +kernel
theorem dX3_spat_74 : decode cX3_spat 74 = .ok (.i2l, 1) := by decide +kernel
theorem dX3_spat_75 : decode cX3_spat 75 = .ok (.lload 9, 2) := by decide +kernel
theorem dX3_spat_77 : decode cX3_spat 77 = .ok (.lmul, 1) := by decide +kernel
theorem dX3_spat_78 : decode cX3_spat 78 = .ok (.ladd, 1) := by decide +kernel
theorem dX3_spat_79 : decode cX3_spat 79 = .ok (.lstore 4, 2) := by decide +kernel
theorem dX3_spat_81 : decode cX3_spat 81 = .ok (.iinc 6 1, 3) := by decide +kernel
theorem dX3_spat_84 : decode cX3_spat 84 = .ok (.goto (-78), 3) := by decide +kernel
theorem dX3_spat_87 : decode cX3_spat 87 = .ok (.lload 4, 2) := by decide +kernel
theorem dX3_spat_89 : decode cX3_spat 89 = .ok (.lreturn, 1) := by decide +kernel
set_option maxRecDepth 20000 in
theorem ggX3_centre_X5_length : GoodIn wsX3_centre wsX5_length := goodIn_r _ [5, 6, 21, 22] (by decide +kernel) (by decide +kernel)
set_option maxRecDepth 20000 in
theorem gX3_centre_X5_length : GoodIn wsX3_centre (wsV RX3 50 RX5 yX5_length wsX5_length) := goodIn_app (goodIn_of _ (by decide +kernel)) ggX3_centre_X5_length
set_option maxRecDepth 20000 in
theorem ggX3_centre_X5_get : GoodIn wsX3_centre wsX5_get := goodIn_r _ [10, 6, 11, 21, 22] (by decide +kernel) (by decide +kernel)
set_option maxRecDepth 20000 in
theorem gX3_centre_X5_get : GoodIn wsX3_centre (wsV RX3 56 RX5 yX5_get wsX5_get) := goodIn_app (goodIn_of _ (by decide +kernel)) ggX3_centre_X5_get
set_option maxRecDepth 20000 in
theorem ggX3_centre_X3_get : GoodIn wsX3_centre wsX3_get := goodIn_r _ [16, 17, 18, 19, 20, 23, 24, 25, 26] (by decide +kernel) (by decide +kernel)
set_option maxRecDepth 20000 in
theorem gX3_centre_X3_get : GoodIn wsX3_centre (wsV RX3 35 RX3 yX3_get wsX3_get) := goodIn_app (goodIn_of _ (by decide +kernel)) ggX3_centre_X3_get
theorem dX3_centre_0 : decode cX3_centre 0 = .ok (.aload_n 1, 1) := by decide +kernel
theorem dX3_centre_1 : decode cX3_centre 1 = .ok (.invokevirtual 50, 3) := by decide +kernel
theorem dX3_centre_4 : decode cX3_centre 4 = .ok (.istore_n 3, 1) := by decide +kernel
theorem dX3_centre_5 : decode cX3_centre 5 = .ok (.iload_n 3, 1) := by decide +kernel
theorem dX3_centre_6 : decode cX3_centre 6 = .ok (.ifCond .ne 5, 3) := by decide +kernel
theorem dX3_centre_9 : decode cX3_centre 9 = .ok (.iconst 0, 1) := by decide +kernel
theorem dX3_centre_10 : decode cX3_centre 10 = .ok (.ireturn, 1) := by decide +kernel
theorem dX3_centre_11 : decode cX3_centre 11 = .ok (.iconst 0, 1) := by decide +kernel
theorem dX3_centre_12 : decode cX3_centre 12 = .ok (.istore 4, 2) := by decide +kernel
theorem dX3_centre_14 : decode cX3_centre 14 = .ok (.iconst 0, 1) := by decide +kernel
theorem dX3_centre_15 : decode cX3_centre 15 = .ok (.istore 5, 2) := by decide +kernel
theorem dX3_centre_17 : decode cX3_centre 17 = .ok (.iload 5, 2) := by decide +kernel
theorem dX3_centre_19 : decode cX3_centre 19 = .ok (.iload_n 3, 1) := by decide +kernel
theorem dX3_centre_20 : decode cX3_centre 20 = .ok (.if_icmp .ge 25, 3) := by decide +kernel
theorem dX3_centre_23 : decode cX3_centre 23 = .ok (.iload 4, 2) := by decide +kernel
theorem dX3_centre_25 : decode cX3_centre 25 = .ok (.aload_n 0, 1) := by decide +kernel
theorem dX3_centre_26 : decode cX3_centre 26 = .ok (.aload_n 1, 1) := by decide +kernel
theorem dX3_centre_27 : decode cX3_centre 27 = .ok (.iload 5, 2) := by decide +kernel
theorem dX3_centre_29 : decode cX3_centre 29 = .ok (.invokevirtual 56, 3) := by decide +kernel
theorem dX3_centre_32 : decode cX3_centre 32 = .ok (.iload_n 2, 1) := by decide +kernel
theorem dX3_centre_33 : decode cX3_centre 33 = .ok (.invokevirtual 35, 3) := by decide +kernel
theorem dX3_centre_36 : decode cX3_centre 36 = .ok (.iadd, 1) := by decide +kernel
theorem dX3_centre_37 : decode cX3_centre 37 = .ok (.istore 4, 2) := by decide +kernel
theorem dX3_centre_39 : decode cX3_centre 39 = .ok (.iinc 5 1, 3) := by decide +kernel
theorem dX3_centre_42 : decode cX3_centre 42 = .ok (.goto (-25), 3) := by decide +kernel
theorem dX3_centre_45 : decode cX3_centre 45 = .ok (.iload 4, 2) := by decide +kernel
theorem dX3_centre_47 : decode cX3_centre 47 = .ok (.iload_n 3, 1) := by decide +kernel
theorem dX3_centre_48 : decode cX3_centre 48 = .ok (.idiv, 1) := by decide +kernel
theorem dX3_centre_49 : decode cX3_centre 49 = .ok (.ireturn, 1) := by decide +kernel
set_option maxRecDepth 20000 in
theorem ggX4_init_X5_init : GoodIn wsX4_init wsX5_init := goodIn_r _ [14, 15, 2, 3, 4, 16, 22, 23] (by decide +kernel) (by decide +kernel)
set_option maxRecDepth 20000 in
theorem gX4_init_X5_init_n20 : GoodIn wsX4_init (wsX5_init) := ggX4_init_X5_init
theorem dX4_init_0 : decode cX4_init 0 = .ok (.aload_n 0, 1) := by decide +kernel
theorem dX4_init_1 : decode cX4_init 1 = .ok (.invokespecial 3, 3) := by decide +kernel
theorem dX4_init_4 : decode cX4_init 4 = .ok (.aload_n 0, 1) := by decide +kernel
theorem dX4_init_5 : decode cX4_init 5 = .ok (.sipush 10000, 3) := by decide +kernel
theorem dX4_init_8 : decode cX4_init 8 = .ok (.newarray .int, 2) := by decide +kernel
theorem dX4_init_10 : decode cX4_init 10 = .ok (.putfield 9, 3) := by decide +kernel
theorem dX4_init_13 : decode cX4_init 13 = .ok (.aload_n 0, 1) := by decide +kernel
theorem dX4_init_14 : decode cX4_init 14 = .ok (.sipush 160, 3) := by decide +kernel
theorem dX4_init_17 : decode cX4_init 17 = .ok (.newarray .int, 2) := by decide +kernel
theorem dX4_init_19 : decode cX4_init 19 = .ok (.putfield 15, 3) := by decide +kernel
theorem dX4_init_22 : decode cX4_init 22 = .ok (.aload_n 0, 1) := by decide +kernel
theorem dX4_init_23 : decode cX4_init 23 = .ok (.new 18, 3) := by decide +kernel
theorem dX4_init_26 : decode cX4_init 26 = .ok (.dup, 1) := by decide +kernel
theorem dX4_init_27 : decode cX4_init 27 = .ok (.invokespecial 20, 3) := by decide +kernel
theorem dX4_init_30 : decode cX4_init 30 = .ok (.putfield 21, 3) := by decide +kernel
theorem dX4_init_33 : decode cX4_init 33 = .ok (.aload_n 0, 1) := by decide +kernel
theorem dX4_init_34 : decode cX4_init 34 = .ok (.aload_n 1, 1) := by decide +kernel
theorem dX4_init_35 : decode cX4_init 35 = .ok (.putfield 25, 3) := by decide +kernel
theorem dX4_init_38 : decode cX4_init 38 = .ok (.aload_n 0, 1) := by decide +kernel
theorem dX4_init_39 : decode cX4_init 39 = .ok (.aload_n 2, 1) := by decide +kernel
theorem dX4_init_40 : decode cX4_init 40 = .ok (.putfield 29, 3) := by decide +kernel
theorem dX4_init_43 : decode cX4_init 43 = .ok (.return_, 1) := by decide +kernel
set_option maxRecDepth 20000 in
theorem ggX4_fits_X1_edgeCount : GoodIn wsX4_fits wsX1_edgeCount := goodIn_r _ [7, 8, 9, 10, 11, 6, 12, 13, 14, 15, 16, 17, 18, 19, 20, 21, 22, 23, 24, 25, 26, 27, 28, 29, 30, 31, 32, 33, 34, 59, 60, 61, 62, 63, 64, 65] (by decide +kernel) (by decide +kernel)
set_option maxRecDepth 20000 in
theorem gX4_fits_X1_edgeCount : GoodIn wsX4_fits (wsV RX4 33 RX1 yX1_edgeCount wsX1_edgeCount) := goodIn_app (goodIn_of _ (by decide +kernel)) ggX4_fits_X1_edgeCount
set_option maxRecDepth 20000 in
theorem ggX4_fits_X1_left : GoodIn wsX4_fits wsX1_left := goodIn_r _ [38, 39, 59, 60, 61, 62, 63] (by decide +kernel) (by decide +kernel)
set_option maxRecDepth 20000 in
theorem gX4_fits_X1_left : GoodIn wsX4_fits (wsV RX4 39 RX1 yX1_left wsX1_left) := goodIn_app (goodIn_of _ (by decide +kernel)) ggX4_fits_X1_left
set_option maxRecDepth 20000 in
theorem ggX4_fits_X3_hasRoom : GoodIn wsX4_fits wsX3_hasRoom := goodIn_r _ [44, 45, 66, 67, 68, 69] (by decide +kernel) (by decide +kernel)
set_option maxRecDepth 20000 in
theorem gX4_fits_X3_hasRoom : GoodIn wsX4_fits (wsV RX4 42 RX3 yX3_hasRoom wsX3_hasRoom) := goodIn_app (goodIn_of _ (by decide +kernel)) ggX4_fits_X3_hasRoom
set_option maxRecDepth 20000 in
theorem ggX4_fits_X1_halfCount : GoodIn wsX4_fits wsX1_halfCount := goodIn_r _ [49, 8, 9, 10, 11, 6, 12, 13, 14, 15, 16, 17, 18, 19, 20, 59, 60, 61, 62, 63, 64, 65] (by decide +kernel) (by decide +kernel)
set_option maxRecDepth 20000 in
theorem gX4_fits_X1_halfCount : GoodIn wsX4_fits (wsV RX4 48 RX1 yX1_halfCount wsX1_halfCount) := goodIn_app (goodIn_of _ (by decide +kernel)) ggX4_fits_X1_halfCount
set_option maxRecDepth 20000 in
theorem ggX4_fits_X1_hasRoom : GoodIn wsX4_fits wsX1_hasRoom := goodIn_r _ [53, 8, 59, 60, 61, 62, 63] (by decide +kernel) (by decide +kernel)
set_option maxRecDepth 20000 in
theorem gX4_fits_X1_hasRoom : GoodIn wsX4_fits (wsV RX4 51 RX1 yX1_hasRoom wsX1_hasRoom) := goodIn_app (goodIn_of _ (by decide +kernel)) ggX4_fits_X1_hasRoom
theorem dX4_fits_0 : decode cX4_fits 0 = .ok (.aload_n 0, 1) := by decide +kernel
theorem dX4_fits_1 : decode cX4_fits 1 = .ok (.getfield 25, 3) := by decide +kernel
theorem dX4_fits_4 : decode cX4_fits 4 = .ok (.aload_n 0, 1) := by decide +kernel
theorem dX4_fits_5 : decode cX4_fits 5 = .ok (.getfield 29, 3) := by decide +kernel
theorem dX4_fits_8 : decode cX4_fits 8 = .ok (.invokevirtual 33, 3) := by decide +kernel
theorem dX4_fits_11 : decode cX4_fits 11 = .ok (.aload_n 0, 1) := by decide +kernel
theorem dX4_fits_12 : decode cX4_fits 12 = .ok (.getfield 29, 3) := by decide +kernel
theorem dX4_fits_15 : decode cX4_fits 15 = .ok (.invokevirtual 39, 3) := by decide +kernel
theorem dX4_fits_18 : decode cX4_fits 18 = .ok (.iadd, 1) := by decide +kernel
theorem dX4_fits_19 : decode cX4_fits 19 = .ok (.invokevirtual 42, 3) := by decide +kernel
theorem dX4_fits_22 : decode cX4_fits 22 = .ok (.ifCond .eq 24, 3) := by decide +kernel
theorem dX4_fits_25 : decode cX4_fits 25 = .ok (.aload_n 0, 1) := by decide +kernel
theorem dX4_fits_26 : decode cX4_fits 26 = .ok (.getfield 29, 3) := by decide +kernel
theorem dX4_fits_29 : decode cX4_fits 29 = .ok (.aload_n 0, 1) := by decide +kernel
theorem dX4_fits_30 : decode cX4_fits 30 = .ok (.getfield 29, 3) := by decide +kernel
theorem dX4_fits_33 : decode cX4_fits 33 = .ok (.invokevirtual 48, 3) := by decide +kernel
theorem dX4_fits_36 : decode cX4_fits 36 = .ok (.invokevirtual 51, 3) := by decide +kernel
theorem dX4_fits_39 : decode cX4_fits 39 = .ok (.ifCond .eq 7, 3) := by decide +kernel
theorem dX4_fits_42 : decode cX4_fits 42 = .ok (.iconst 1, 1) := by decide +kernel
theorem dX4_fits_43 : decode cX4_fits 43 = .ok (.goto 4, 3) := by decide +kernel
theorem dX4_fits_46 : decode cX4_fits 46 = .ok (.iconst 0, 1) := by decide +kernel
theorem dX4_fits_47 : decode cX4_fits 47 = .ok (.ireturn, 1) := by decide +kernel
set_option maxRecDepth 20000 in
theorem ggX4_apply_X1_ever : GoodIn wsX4_apply wsX1_ever := goodIn_r _ [7, 8, 146, 147, 148, 149, 150] (by decide +kernel) (by decide +kernel)
set_option maxRecDepth 20000 in
theorem gX4_apply_X1_ever : GoodIn wsX4_apply (wsV RX4 52 RX1 yX1_ever wsX1_ever) := goodIn_app (goodIn_of _ (by decide +kernel)) ggX4_apply_X1_ever
set_option maxRecDepth 20000 in
theorem ggX4_apply_X4_addMiddles : GoodIn wsX4_apply wsX4_addMiddles := goodIn_r _ [13, 1, 14, 15, 16, 17, 18, 6, 19, 20, 21, 22, 23, 24, 25, 26, 27, 28, 29, 30, 31, 32, 33, 34, 35, 36, 37, 38, 39, 40, 41, 42, 43, 44, 45, 46, 47, 48, 141, 142, 143, 144, 145, 146, 147, 148, 149, 150, 151, 152, 153, 154] (by decide +kernel) (by decide +kernel)
set_option maxRecDepth 20000 in
theorem gX4_apply_X4_addMiddles : GoodIn wsX4_apply (wsV RX4 55 RX4 yX4_addMiddles wsX4_addMiddles) := goodIn_app (goodIn_of _ (by decide +kernel)) ggX4_apply_X4_addMiddles
set_option maxRecDepth 20000 in
theorem ggX4_apply_X4_addCentres : GoodIn wsX4_apply wsX4_addCentres := goodIn_r _ [52, 1, 2, 14, 53, 54, 55, 6, 56, 57, 58, 59, 60, 61, 62, 63, 64, 65, 66, 67, 68, 69, 70, 71, 72, 28, 73, 74, 75, 76, 77, 78, 79, 80, 81, 82, 83, 30, 31, 32, 33, 34, 35, 36, 37, 38, 39, 40, 41, 42, 43, 44, 45, 46, 47, 48, 141, 142, 143, 144, 145, 146, 147, 148, 149, 150, 155, 156, 151, 152, 153, 154] (by decide +kernel) (by decide +kernel)
set_option maxRecDepth 20000 in
theorem gX4_apply_X4_addCentres : GoodIn wsX4_apply (wsV RX4 58 RX4 yX4_addCentres wsX4_addCentres) := goodIn_app (goodIn_of _ (by decide +kernel)) ggX4_apply_X4_addCentres
set_option maxRecDepth 20000 in
theorem ggX4_apply_X1_has : GoodIn wsX4_apply wsX1_has := goodIn_r _ [56, 57, 58, 59, 6, 60, 61, 62, 63, 64, 65, 66, 67, 68, 146, 147, 148, 149, 150, 155, 156] (by decide +kernel) (by decide +kernel)
set_option maxRecDepth 20000 in
theorem gX4_apply_X1_has : GoodIn wsX4_apply (wsV RX4 61 RX1 yX1_has wsX1_has) := goodIn_app (goodIn_of _ (by decide +kernel)) ggX4_apply_X1_has
set_option maxRecDepth 20000 in
theorem ggX4_apply_X1_ring : GoodIn wsX4_apply wsX1_ring := goodIn_r _ [60, 61, 62, 146, 147, 148, 149, 150] (by decide +kernel) (by decide +kernel)
set_option maxRecDepth 20000 in
theorem gX4_apply_X1_ring : GoodIn wsX4_apply (wsV RX4 64 RX1 yX1_ring wsX1_ring) := goodIn_app (goodIn_of _ (by decide +kernel)) ggX4_apply_X1_ring
set_option maxRecDepth 20000 in
theorem ggX4_apply_X4_addQuarters : GoodIn wsX4_apply wsX4_addQuarters := goodIn_r _ [87, 88, 1, 89, 64, 65, 66, 67, 68, 90, 80, 81, 82, 83, 91, 92, 93, 12, 94, 15, 35, 36, 37, 95, 96, 97, 98, 99, 100, 101, 102, 103, 104, 105, 106, 107, 108, 109, 6, 110, 8, 111, 112, 113, 114, 115, 116, 117, 118, 119, 120, 121, 57, 58, 59, 60, 61, 62, 63, 122, 20, 21, 22, 23, 24, 123, 124, 125, 126, 127, 128, 129, 130, 131, 132, 133, 134, 141, 142, 143, 144, 145, 155, 156, 146, 147, 148, 149, 150] (by decide +kernel) (by decide +kernel)
set_option maxRecDepth 20000 in
theorem gX4_apply_X4_addQuarters : GoodIn wsX4_apply (wsV RX4 68 RX4 yX4_addQuarters wsX4_addQuarters) := goodIn_app (goodIn_of _ (by decide +kernel)) ggX4_apply_X4_addQuarters
set_option maxRecDepth 20000 in
theorem ggX4_apply_X1_drop : GoodIn wsX4_apply wsX1_drop := goodIn_r _ [138, 111, 139, 54, 55, 6, 56, 57, 58, 59, 60, 61, 62, 63, 64, 65, 66, 67, 68, 118, 119, 120, 121, 122, 80, 81, 82, 83, 20, 21, 22, 23, 24, 123, 124, 125, 126, 140, 100, 101, 102, 146, 147, 148, 149, 150, 155, 156] (by decide +kernel) (by decide +kernel)
set_option maxRecDepth 20000 in
theorem gX4_apply_X1_drop : GoodIn wsX4_apply (wsV RX4 72 RX1 yX1_drop wsX1_drop) := goodIn_app (goodIn_of _ (by decide +kernel)) ggX4_apply_X1_drop
theorem dX4_apply_0 : decode cX4_apply 0 = .ok (.aload_n 0, 1) := by decide +kernel
theorem dX4_apply_1 : decode cX4_apply 1 = .ok (.getfield 29, 3) := by decide +kernel
theorem dX4_apply_4 : decode cX4_apply 4 = .ok (.invokevirtual 52, 3) := by decide +kernel
theorem dX4_apply_7 : decode cX4_apply 7 = .ok (.istore_n 1, 1) := by decide +kernel
theorem dX4_apply_8 : decode cX4_apply 8 = .ok (.aload_n 0, 1) := by decide +kernel
theorem dX4_apply_9 : decode cX4_apply 9 = .ok (.invokevirtual 55, 3) := by decide +kernel
theorem dX4_apply_12 : decode cX4_apply 12 = .ok (.aload_n 0, 1) := by decide +kernel
theorem dX4_apply_13 : decode cX4_apply 13 = .ok (.invokevirtual 58, 3) := by decide +kernel
theorem dX4_apply_16 : decode cX4_apply 16 = .ok (.iconst 0, 1) := by decide +kernel
theorem dX4_apply_17 : decode cX4_apply 17 = .ok (.istore_n 2, 1) := by decide +kernel
theorem dX4_apply_18 : decode cX4_apply 18 = .ok (.iload_n 2, 1) := by decide +kernel
theorem dX4_apply_19 : decode cX4_apply 19 = .ok (.iload_n 1, 1) := by decide +kernel
theorem dX4_apply_20 : decode cX4_apply 20 = .ok (.if_icmp .ge 53, 3) := by decide +kernel
theorem dX4_apply_23 : decode cX4_apply 23 = .ok (.iload_n 2, 1) := by decide +kernel
theorem dX4_apply_24 : decode cX4_apply 24 = .ok (.sipush 160, 3) := by decide +kernel
theorem dX4_apply_27 : decode cX4_apply 27 = .ok (.if_icmp .ge 46, 3) := by decide +kernel
theorem dX4_apply_30 : decode cX4_apply 30 = .ok (.aload_n 0, 1) := by decide +kernel
theorem dX4_apply_31 : decode cX4_apply 31 = .ok (.getfield 29, 3) := by decide +kernel
theorem dX4_apply_34 : decode cX4_apply 34 = .ok (.iload_n 2, 1) := by decide +kernel
theorem dX4_apply_35 : decode cX4_apply 35 = .ok (.invokevirtual 61, 3) := by decide +kernel
theorem dX4_apply_38 : decode cX4_apply 38 = .ok (.ifCond .eq 29, 3) := by decide +kernel
theorem dX4_apply_41 : decode cX4_apply 41 = .ok (.aload_n 0, 1) := by decide +kernel
theorem dX4_apply_42 : decode cX4_apply 42 = .ok (.aload_n 0, 1) := by decide +kernel
theorem dX4_apply_43 : decode cX4_apply 43 = .ok (.getfield 29, 3) := by decide +kernel
theorem dX4_apply_46 : decode cX4_apply 46 = .ok (.iload_n 2, 1) := by decide +kernel
theorem dX4_apply_47 : decode cX4_apply 47 = .ok (.invokevirtual 64, 3) := by decide +kernel
theorem dX4_apply_50 : decode cX4_apply 50 = .ok (.aload_n 0, 1) := by decide +kernel
theorem dX4_apply_51 : decode cX4_apply 51 = .ok (.getfield 15, 3) := by decide +kernel
theorem dX4_apply_54 : decode cX4_apply 54 = .ok (.iload_n 2, 1) := by decide +kernel
theorem dX4_apply_55 : decode cX4_apply 55 = .ok (.iaload, 1) := by decide +kernel
theorem dX4_apply_56 : decode cX4_apply 56 = .ok (.invokevirtual 68, 3) := by decide +kernel
theorem dX4_apply_59 : decode cX4_apply 59 = .ok (.aload_n 0, 1) := by decide +kernel
theorem dX4_apply_60 : decode cX4_apply 60 = .ok (.getfield 29, 3) := by decide +kernel
theorem dX4_apply_63 : decode cX4_apply 63 = .ok (.iload_n 2, 1) := by decide +kernel
theorem dX4_apply_64 : decode cX4_apply 64 = .ok (.invokevirtual 72, 3) := by decide +kernel
theorem dX4_apply_67 : decode cX4_apply 67 = .ok (.iinc 2 1, 3) := by decide +kernel
theorem dX4_apply_70 : decode cX4_apply 70 = .ok (.goto (-52), 3) := by decide +kernel
theorem dX4_apply_73 : decode cX4_apply 73 = .ok (.return_, 1) := by decide +kernel
set_option maxRecDepth 20000 in
theorem ggX4_addMiddles_X1_isEdge : GoodIn wsX4_addMiddles wsX1_isEdge := goodIn_r _ [8, 9, 10, 11, 7, 12, 13, 43, 44, 45, 46, 47] (by decide +kernel) (by decide +kernel)
set_option maxRecDepth 20000 in
theorem gX4_addMiddles_X1_isEdge : GoodIn wsX4_addMiddles (wsV RX4 76 RX1 yX1_isEdge wsX1_isEdge) := goodIn_app (goodIn_of _ (by decide +kernel)) ggX4_addMiddles_X1_isEdge
set_option maxRecDepth 20000 in
theorem ggX4_addMiddles_X3_addMiddle : GoodIn wsX4_addMiddles wsX3_addMiddle := goodIn_r _ [18, 19, 20, 21, 17, 22, 23, 24, 25, 26, 27, 28, 29, 30, 31, 32, 33, 34, 35, 36, 37, 48, 49, 50, 51] (by decide +kernel) (by decide +kernel)
set_option maxRecDepth 20000 in
theorem gX4_addMiddles_X3_addMiddle : GoodIn wsX4_addMiddles (wsV RX4 80 RX3 yX3_addMiddle wsX3_addMiddle) := goodIn_app (goodIn_of _ (by decide +kernel)) ggX4_addMiddles_X3_addMiddle
theorem dX4_addMiddles_0 : decode cX4_addMiddles 0 = .ok (.iconst 0, 1) := by decide +kernel
theorem dX4_addMiddles_1 : decode cX4_addMiddles 1 = .ok (.istore_n 1, 1) := by decide +kernel
theorem dX4_addMiddles_2 : decode cX4_addMiddles 2 = .ok (.iload_n 1, 1) := by decide +kernel
theorem dX4_addMiddles_3 : decode cX4_addMiddles 3 = .ok (.bipush 100, 2) := by decide +kernel
theorem dX4_addMiddles_5 : decode cX4_addMiddles 5 = .ok (.if_icmp .ge 71, 3) := by decide +kernel
theorem dX4_addMiddles_8 : decode cX4_addMiddles 8 = .ok (.iload_n 1, 1) := by decide +kernel
theorem dX4_addMiddles_9 : decode cX4_addMiddles 9 = .ok (.iconst 1, 1) := by decide +kernel
theorem dX4_addMiddles_10 : decode cX4_addMiddles 10 = .ok (.iadd, 1) := by decide +kernel
theorem dX4_addMiddles_11 : decode cX4_addMiddles 11 = .ok (.istore_n 2, 1) := by decide +kernel
theorem dX4_addMiddles_12 : decode cX4_addMiddles 12 = .ok (.iload_n 2, 1) := by decide +kernel
theorem dX4_addMiddles_13 : decode cX4_addMiddles 13 = .ok (.bipush 100, 2) := by decide +kernel
theorem dX4_addMiddles_15 : decode cX4_addMiddles 15 = .ok (.if_icmp .ge 55, 3) := by decide +kernel
theorem dX4_addMiddles_18 : decode cX4_addMiddles 18 = .ok (.aload_n 0, 1) := by decide +kernel
theorem dX4_addMiddles_19 : decode cX4_addMiddles 19 = .ok (.getfield 29, 3) := by decide +kernel
theorem dX4_addMiddles_22 : decode cX4_addMiddles 22 = .ok (.iload_n 1, 1) := by decide +kernel
theorem dX4_addMiddles_23 : decode cX4_addMiddles 23 = .ok (.iload_n 2, 1) := by decide +kernel
theorem dX4_addMiddles_24 : decode cX4_addMiddles 24 = .ok (.invokevirtual 76, 3) := by decide +kernel
theorem dX4_addMiddles_27 : decode cX4_addMiddles 27 = .ok (.ifCond .eq 37, 3) := by decide +kernel
theorem dX4_addMiddles_30 : decode cX4_addMiddles 30 = .ok (.aload_n 0, 1) := by decide +kernel
theorem dX4_addMiddles_31 : decode cX4_addMiddles 31 = .ok (.getfield 25, 3) := by decide +kernel
theorem dX4_addMiddles_34 : decode cX4_addMiddles 34 = .ok (.iload_n 1, 1) := by decide +kernel
theorem dX4_addMiddles_35 : decode cX4_addMiddles 35 = .ok (.iload_n 2, 1) := by decide +kernel
theorem dX4_addMiddles_36 : decode cX4_addMiddles 36 = .ok (.invokevirtual 80, 3) := by decide +kernel
theorem dX4_addMiddles_39 : decode cX4_addMiddles 39 = .ok (.istore_n 3, 1) := by decide +kernel
theorem dX4_addMiddles_40 : decode cX4_addMiddles 40 = .ok (.aload_n 0, 1) := by decide +kernel
theorem dX4_addMiddles_41 : decode cX4_addMiddles 41 = .ok (.getfield 9, 3) := by decide +kernel
theorem dX4_addMiddles_44 : decode cX4_addMiddles 44 = .ok (.iload_n 1, 1) := by decide +kernel
theorem dX4_addMiddles_45 : decode cX4_addMiddles 45 = .ok (.bipush 100, 2) := by decide +kernel
theorem dX4_addMiddles_47 : decode cX4_addMiddles 47 = .ok (.imul, 1) := by decide +kernel
theorem dX4_addMiddles_48 : decode cX4_addMiddles 48 = .ok (.iload_n 2, 1) := by decide +kernel
theorem dX4_addMiddles_49 : decode cX4_addMiddles 49 = .ok (.iadd, 1) := by decide +kernel
theorem dX4_addMiddles_50 : decode cX4_addMiddles 50 = .ok (.iload_n 3, 1) := by decide +kernel
theorem dX4_addMiddles_51 : decode cX4_addMiddles 51 = .ok (.iastore, 1) := by decide +kernel
theorem dX4_addMiddles_52 : decode cX4_addMiddles 52 = .ok (.aload_n 0, 1) := by decide +kernel
theorem dX4_addMiddles_53 : decode cX4_addMiddles 53 = .ok (.getfield 9, 3) := by decide +kernel
theorem dX4_addMiddles_56 : decode cX4_addMiddles 56 = .ok (.iload_n 2, 1) := by decide +kernel
theorem dX4_addMiddles_57 : decode cX4_addMiddles 57 = .ok (.bipush 100, 2) := by decide +kernel
theorem dX4_addMiddles_59 : decode cX4_addMiddles 59 = .ok (.imul, 1) := by decide +kernel
theorem dX4_addMiddles_60 : decode cX4_addMiddles 60 = .ok (.iload_n 1, 1) := by decide +kernel
theorem dX4_addMiddles_61 : decode cX4_addMiddles 61 = .ok (.iadd, 1) := by decide +kernel
theorem dX4_addMiddles_62 : decode cX4_addMiddles 62 = .ok (.iload_n 3, 1) := by decide +kernel
theorem dX4_addMiddles_63 : decode cX4_addMiddles 63 = .ok (.iastore, 1) := by decide +kernel
theorem dX4_addMiddles_64 : decode cX4_addMiddles 64 = .ok (.iinc 2 1, 3) := by decide +kernel
theorem dX4_addMiddles_67 : decode cX4_addMiddles 67 = .ok (.goto (-55), 3) := by decide +kernel
theorem dX4_addMiddles_70 : decode cX4_addMiddles 70 = .ok (.iinc 1 1, 3) := by decide +kernel
theorem dX4_addMiddles_73 : decode cX4_addMiddles 73 = .ok (.goto (-71), 3) := by decide +kernel
theorem dX4_addMiddles_76 : decode cX4_addMiddles 76 = .ok (.return_, 1) := by decide +kernel
set_option maxRecDepth 20000 in
theorem ggX4_addCentres_X1_has : GoodIn wsX4_addCentres wsX1_has := goodIn_r _ [8, 9, 10, 11, 7, 12, 13, 14, 15, 16, 17, 18, 19, 20, 61, 62, 63, 64, 65, 66, 67] (by decide +kernel) (by decide +kernel)
set_option maxRecDepth 20000 in
theorem gX4_addCentres_X1_has : GoodIn wsX4_addCentres (wsV RX4 61 RX1 yX1_has wsX1_has) := goodIn_app (goodIn_of _ (by decide +kernel)) ggX4_addCentres_X1_has
set_option maxRecDepth 20000 in
theorem ggX4_addCentres_X1_ring : GoodIn wsX4_addCentres wsX1_ring := goodIn_r _ [12, 13, 14, 61, 62, 63, 64, 65] (by decide +kernel) (by decide +kernel)
set_option maxRecDepth 20000 in
theorem gX4_addCentres_X1_ring : GoodIn wsX4_addCentres (wsV RX4 64 RX1 yX1_ring wsX1_ring) := goodIn_app (goodIn_of _ (by decide +kernel)) ggX4_addCentres_X1_ring
set_option maxRecDepth 20000 in
theorem ggX4_addCentres_X3_addCentre : GoodIn wsX4_addCentres wsX3_addCentre := goodIn_r _ [26, 27, 28, 29, 25, 30, 31, 16, 17, 18, 19, 20, 32, 33, 34, 35, 36, 37, 38, 39, 40, 41, 42, 43, 44, 45, 46, 47, 48, 49, 50, 51, 52, 53, 54, 55, 66, 67, 68, 69, 70, 71] (by decide +kernel) (by decide +kernel)
set_option maxRecDepth 20000 in
theorem gX4_addCentres_X3_addCentre : GoodIn wsX4_addCentres (wsV RX4 84 RX3 yX3_addCentre wsX3_addCentre) := goodIn_app (goodIn_of _ (by decide +kernel)) ggX4_addCentres_X3_addCentre
theorem dX4_addCentres_0 : decode cX4_addCentres 0 = .ok (.iconst 0, 1) := by decide +kernel
theorem dX4_addCentres_1 : decode cX4_addCentres 1 = .ok (.istore_n 1, 1) := by decide +kernel
theorem dX4_addCentres_2 : decode cX4_addCentres 2 = .ok (.iload_n 1, 1) := by decide +kernel
theorem dX4_addCentres_3 : decode cX4_addCentres 3 = .ok (.sipush 160, 3) := by decide +kernel
theorem dX4_addCentres_6 : decode cX4_addCentres 6 = .ok (.if_icmp .ge 41, 3) := by decide +kernel
theorem dX4_addCentres_9 : decode cX4_addCentres 9 = .ok (.aload_n 0, 1) := by decide +kernel
theorem dX4_addCentres_10 : decode cX4_addCentres 10 = .ok (.getfield 29, 3) := by decide +kernel
theorem dX4_addCentres_13 : decode cX4_addCentres 13 = .ok (.iload_n 1, 1) := by decide +kernel
theorem dX4_addCentres_14 : decode cX4_addCentres 14 = .ok (.invokevirtual 61, 3) := by decide +kernel
theorem dX4_addCentres_17 : decode cX4_addCentres 17 = .ok (.ifCond .eq 24, 3) := by decide +kernel
theorem dX4_addCentres_20 : decode cX4_addCentres 20 = .ok (.aload_n 0, 1) := by decide +kernel
theorem dX4_addCentres_21 : decode cX4_addCentres 21 = .ok (.getfield 15, 3) := by decide +kernel
theorem dX4_addCentres_24 : decode cX4_addCentres 24 = .ok (.iload_n 1, 1) := by decide +kernel
theorem dX4_addCentres_25 : decode cX4_addCentres 25 = .ok (.aload_n 0, 1) := by decide +kernel
theorem dX4_addCentres_26 : decode cX4_addCentres 26 = .ok (.getfield 25, 3) := by decide +kernel
theorem dX4_addCentres_29 : decode cX4_addCentres 29 = .ok (.aload_n 0, 1) := by decide +kernel
theorem dX4_addCentres_30 : decode cX4_addCentres 30 = .ok (.getfield 29, 3) := by decide +kernel
theorem dX4_addCentres_33 : decode cX4_addCentres 33 = .ok (.iload_n 1, 1) := by decide +kernel
theorem dX4_addCentres_34 : decode cX4_addCentres 34 = .ok (.invokevirtual 64, 3) := by decide +kernel
theorem dX4_addCentres_37 : decode cX4_addCentres 37 = .ok (.invokevirtual 84, 3) := by decide +kernel
theorem dX4_addCentres_40 : decode cX4_addCentres 40 = .ok (.iastore, 1) := by decide +kernel
theorem dX4_addCentres_41 : decode cX4_addCentres 41 = .ok (.iinc 1 1, 3) := by decide +kernel
theorem dX4_addCentres_44 : decode cX4_addCentres 44 = .ok (.goto (-42), 3) := by decide +kernel
theorem dX4_addCentres_47 : decode cX4_addCentres 47 = .ok (.return_, 1) := by decide +kernel
set_option maxRecDepth 20000 in
theorem ggX4_addQuarters_X5_length : GoodIn wsX4_addQuarters wsX5_length := goodIn_r _ [7, 8, 82, 83] (by decide +kernel) (by decide +kernel)
set_option maxRecDepth 20000 in
theorem gX4_addQuarters_X5_length : GoodIn wsX4_addQuarters (wsV RX4 88 RX5 yX5_length wsX5_length) := goodIn_app (goodIn_of _ (by decide +kernel)) ggX4_addQuarters_X5_length
set_option maxRecDepth 20000 in
theorem ggX4_addQuarters_X5_get : GoodIn wsX4_addQuarters wsX5_get := goodIn_r _ [12, 8, 13, 82, 83] (by decide +kernel) (by decide +kernel)
set_option maxRecDepth 20000 in
theorem gX4_addQuarters_X5_get : GoodIn wsX4_addQuarters (wsV RX4 91 RX5 yX5_get wsX5_get) := goodIn_app (goodIn_of _ (by decide +kernel)) ggX4_addQuarters_X5_get
set_option maxRecDepth 20000 in
theorem ggX4_addQuarters_X4_middle : GoodIn wsX4_addQuarters wsX4_middle := goodIn_r _ [18, 19, 20, 21, 22, 77, 78, 79, 80, 81] (by decide +kernel) (by decide +kernel)
set_option maxRecDepth 20000 in
theorem gX4_addQuarters_X4_middle : GoodIn wsX4_addQuarters (wsV RX4 95 RX4 yX4_middle wsX4_middle) := goodIn_app (goodIn_of _ (by decide +kernel)) ggX4_addQuarters_X4_middle
set_option maxRecDepth 20000 in
theorem ggX4_addQuarters_X5_set : GoodIn wsX4_addQuarters wsX5_set := goodIn_r _ [26, 27, 28, 29, 6, 30, 8, 31, 32, 33, 34, 13, 82, 83] (by decide +kernel) (by decide +kernel)
set_option maxRecDepth 20000 in
theorem gX4_addQuarters_X5_set : GoodIn wsX4_addQuarters (wsV RX4 98 RX5 yX5_set wsX5_set) := goodIn_app (goodIn_of _ (by decide +kernel)) ggX4_addQuarters_X5_set
set_option maxRecDepth 20000 in
theorem ggX4_addQuarters_X1_add : GoodIn wsX4_addQuarters wsX1_add := goodIn_r _ [39, 40, 41, 42, 21, 43, 44, 45, 46, 38, 47, 48, 49, 50, 51, 52, 53, 54, 55, 56, 57, 58, 4, 5, 6, 7, 8, 59, 10, 11, 12, 13, 60, 61, 62, 63, 64, 65, 66, 67, 68, 69, 70, 71, 72, 73, 74, 75, 76, 84, 85, 86, 87, 88, 82, 83] (by decide +kernel) (by decide +kernel)
set_option maxRecDepth 20000 in
theorem gX4_addQuarters_X1_add : GoodIn wsX4_addQuarters (wsV RX4 102 RX1 yX1_add wsX1_add) := goodIn_app (goodIn_of _ (by decide +kernel)) ggX4_addQuarters_X1_add
theorem dX4_addQuarters_0 : decode cX4_addQuarters 0 = .ok (.iconst 0, 1) := by decide +kernel
theorem dX4_addQuarters_1 : decode cX4_addQuarters 1 = .ok (.istore_n 3, 1) := by decide +kernel
theorem dX4_addQuarters_2 : decode cX4_addQuarters 2 = .ok (.iload_n 3, 1) := by decide +kernel
theorem dX4_addQuarters_3 : decode cX4_addQuarters 3 = .ok (.aload_n 1, 1) := by decide +kernel
theorem dX4_addQuarters_4 : decode cX4_addQuarters 4 = .ok (.invokevirtual 88, 3) := by decide +kernel
theorem dX4_addQuarters_7 : decode cX4_addQuarters 7 = .ok (.if_icmp .ge 64, 3) := by decide +kernel
theorem dX4_addQuarters_10 : decode cX4_addQuarters 10 = .ok (.aload_n 1, 1) := by decide +kernel
theorem dX4_addQuarters_11 : decode cX4_addQuarters 11 = .ok (.iload_n 3, 1) := by decide +kernel
theorem dX4_addQuarters_12 : decode cX4_addQuarters 12 = .ok (.invokevirtual 91, 3) := by decide +kernel
theorem dX4_addQuarters_15 : decode cX4_addQuarters 15 = .ok (.istore 4, 2) := by decide +kernel
theorem dX4_addQuarters_17 : decode cX4_addQuarters 17 = .ok (.aload_n 0, 1) := by decide +kernel
theorem dX4_addQuarters_18 : decode cX4_addQuarters 18 = .ok (.getfield 21, 3) := by decide +kernel
theorem dX4_addQuarters_21 : decode cX4_addQuarters 21 = .ok (.iload 4, 2) := by decide +kernel
theorem dX4_addQuarters_23 : decode cX4_addQuarters 23 = .ok (.aload_n 0, 1) := by decide +kernel
theorem dX4_addQuarters_24 : decode cX4_addQuarters 24 = .ok (.iload 4, 2) := by decide +kernel
theorem dX4_addQuarters_26 : decode cX4_addQuarters 26 = .ok (.aload_n 1, 1) := by decide +kernel
theorem dX4_addQuarters_27 : decode cX4_addQuarters 27 = .ok (.iload_n 3, 1) := by decide +kernel
theorem dX4_addQuarters_28 : decode cX4_addQuarters 28 = .ok (.iconst 1, 1) := by decide +kernel
theorem dX4_addQuarters_29 : decode cX4_addQuarters 29 = .ok (.iadd, 1) := by decide +kernel
theorem dX4_addQuarters_30 : decode cX4_addQuarters 30 = .ok (.invokevirtual 91, 3) := by decide +kernel
theorem dX4_addQuarters_33 : decode cX4_addQuarters 33 = .ok (.invokevirtual 95, 3) := by decide +kernel
theorem dX4_addQuarters_36 : decode cX4_addQuarters 36 = .ok (.iload_n 2, 1) := by decide +kernel
theorem dX4_addQuarters_37 : decode cX4_addQuarters 37 = .ok (.aload_n 0, 1) := by decide +kernel
theorem dX4_addQuarters_38 : decode cX4_addQuarters 38 = .ok (.aload_n 1, 1) := by decide +kernel
theorem dX4_addQuarters_39 : decode cX4_addQuarters 39 = .ok (.iload_n 3, 1) := by decide +kernel
theorem dX4_addQuarters_40 : decode cX4_addQuarters 40 = .ok (.iconst 1, 1) := by decide +kernel
theorem dX4_addQuarters_41 : decode cX4_addQuarters 41 = .ok (.isub, 1) := by decide +kernel
theorem dX4_addQuarters_42 : decode cX4_addQuarters 42 = .ok (.invokevirtual 91, 3) := by decide +kernel
theorem dX4_addQuarters_45 : decode cX4_addQuarters 45 = .ok (.iload 4, 2) := by decide +kernel
theorem dX4_addQuarters_47 : decode cX4_addQuarters 47 = .ok (.invokevirtual 95, 3) := by decide +kernel
theorem dX4_addQuarters_50 : decode cX4_addQuarters 50 = .ok (.invokevirtual 98, 3) := by decide +kernel
theorem dX4_addQuarters_53 : decode cX4_addQuarters 53 = .ok (.aload_n 0, 1) := by decide +kernel
theorem dX4_addQuarters_54 : decode cX4_addQuarters 54 = .ok (.getfield 29, 3) := by decide +kernel
theorem dX4_addQuarters_57 : decode cX4_addQuarters 57 = .ok (.aload_n 0, 1) := by decide +kernel
theorem dX4_addQuarters_58 : decode cX4_addQuarters 58 = .ok (.getfield 21, 3) := by decide +kernel
theorem dX4_addQuarters_61 : decode cX4_addQuarters 61 = .ok (.invokevirtual 102, 3) := by decide +kernel
theorem dX4_addQuarters_64 : decode cX4_addQuarters 64 = .ok (.pop, 1) := by decide +kernel
theorem dX4_addQuarters_65 : decode cX4_addQuarters 65 = .ok (.iinc 3 1, 3) := by decide +kernel
theorem dX4_addQuarters_68 : decode cX4_addQuarters 68 = .ok (.goto (-66), 3) := by decide +kernel
theorem dX4_addQuarters_71 : decode cX4_addQuarters 71 = .ok (.return_, 1) := by decide +kernel
set_option maxRecDepth 20000 in
theorem ggX4_middle_X8_isPointNumber : GoodIn wsX4_middle wsX8_isPointNumber := goodIn_r _ [4] (by decide +kernel) (by decide +kernel)
set_option maxRecDepth 20000 in
theorem gX4_middle_X8_isPointNumber_n105 : GoodIn wsX4_middle (wsX8_isPointNumber) := ggX4_middle_X8_isPointNumber
theorem dX4_middle_0 : decode cX4_middle 0 = .ok (.iload_n 1, 1) := by decide +kernel
theorem dX4_middle_1 : decode cX4_middle 1 = .ok (.invokestatic 105, 3) := by decide +kernel
theorem dX4_middle_4 : decode cX4_middle 4 = .ok (.ifCond .eq 24, 3) := by decide +kernel
theorem dX4_middle_7 : decode cX4_middle 7 = .ok (.iload_n 2, 1) := by decide +kernel
theorem dX4_middle_8 : decode cX4_middle 8 = .ok (.invokestatic 105, 3) := by decide +kernel
theorem dX4_middle_11 : decode cX4_middle 11 = .ok (.ifCond .eq 17, 3) := by decide +kernel
theorem dX4_middle_14 : decode cX4_middle 14 = .ok (.aload_n 0, 1) := by decide +kernel
theorem dX4_middle_15 : decode cX4_middle 15 = .ok (.getfield 9, 3) := by decide +kernel
theorem dX4_middle_18 : decode cX4_middle 18 = .ok (.iload_n 1, 1) := by decide +kernel
theorem dX4_middle_19 : decode cX4_middle 19 = .ok (.bipush 100, 2) := by decide +kernel
theorem dX4_middle_21 : decode cX4_middle 21 = .ok (.imul, 1) := by decide +kernel
theorem dX4_middle_22 : decode cX4_middle 22 = .ok (.iload_n 2, 1) := by decide +kernel
theorem dX4_middle_23 : decode cX4_middle 23 = .ok (.iadd, 1) := by decide +kernel
theorem dX4_middle_24 : decode cX4_middle 24 = .ok (.iaload, 1) := by decide +kernel
theorem dX4_middle_25 : decode cX4_middle 25 = .ok (.goto 4, 3) := by decide +kernel
theorem dX4_middle_28 : decode cX4_middle 28 = .ok (.iconst (-1), 1) := by decide +kernel
theorem dX4_middle_29 : decode cX4_middle 29 = .ok (.ireturn, 1) := by decide +kernel
theorem dX5_init_0 : decode cX5_init 0 = .ok (.aload_n 0, 1) := by decide +kernel
theorem dX5_init_1 : decode cX5_init 1 = .ok (.invokespecial 3, 3) := by decide +kernel
theorem dX5_init_4 : decode cX5_init 4 = .ok (.aload_n 0, 1) := by decide +kernel
theorem dX5_init_5 : decode cX5_init 5 = .ok (.bipush 12, 2) := by decide +kernel
theorem dX5_init_7 : decode cX5_init 7 = .ok (.newarray .int, 2) := by decide +kernel
theorem dX5_init_9 : decode cX5_init 9 = .ok (.putfield 9, 3) := by decide +kernel
theorem dX5_init_12 : decode cX5_init 12 = .ok (.return_, 1) := by decide +kernel
theorem dX5_length_0 : decode cX5_length 0 = .ok (.aload_n 0, 1) := by decide +kernel
theorem dX5_length_1 : decode cX5_length 1 = .ok (.getfield 15, 3) := by decide +kernel
theorem dX5_length_4 : decode cX5_length 4 = .ok (.ireturn, 1) := by decide +kernel
theorem dX5_get_0 : decode cX5_get 0 = .ok (.aload_n 0, 1) := by decide +kernel
theorem dX5_get_1 : decode cX5_get 1 = .ok (.getfield 15, 3) := by decide +kernel
theorem dX5_get_4 : decode cX5_get 4 = .ok (.ifCond .gt 5, 3) := by decide +kernel
theorem dX5_get_7 : decode cX5_get 7 = .ok (.iconst (-1), 1) := by decide +kernel
theorem dX5_get_8 : decode cX5_get 8 = .ok (.ireturn, 1) := by decide +kernel
theorem dX5_get_9 : decode cX5_get 9 = .ok (.iload_n 1, 1) := by decide +kernel
theorem dX5_get_10 : decode cX5_get 10 = .ok (.aload_n 0, 1) := by decide +kernel
theorem dX5_get_11 : decode cX5_get 11 = .ok (.getfield 15, 3) := by decide +kernel
theorem dX5_get_14 : decode cX5_get 14 = .ok (.irem, 1) := by decide +kernel
theorem dX5_get_15 : decode cX5_get 15 = .ok (.istore_n 2, 1) := by decide +kernel
theorem dX5_get_16 : decode cX5_get 16 = .ok (.aload_n 0, 1) := by decide +kernel
theorem dX5_get_17 : decode cX5_get 17 = .ok (.getfield 9, 3) := by decide +kernel
theorem dX5_get_20 : decode cX5_get 20 = .ok (.iload_n 2, 1) := by decide +kernel
theorem dX5_get_21 : decode cX5_get 21 = .ok (.ifCond .ge 12, 3) := by decide +kernel
theorem dX5_get_24 : decode cX5_get 24 = .ok (.iload_n 2, 1) := by decide +kernel
theorem dX5_get_25 : decode cX5_get 25 = .ok (.aload_n 0, 1) := by decide +kernel
theorem dX5_get_26 : decode cX5_get 26 = .ok (.getfield 15, 3) := by decide +kernel
theorem dX5_get_29 : decode cX5_get 29 = .ok (.iadd, 1) := by decide +kernel
theorem dX5_get_30 : decode cX5_get 30 = .ok (.goto 4, 3) := by decide +kernel
theorem dX5_get_33 : decode cX5_get 33 = .ok (.iload_n 2, 1) := by decide +kernel
theorem dX5_get_34 : decode cX5_get 34 = .ok (.iaload, 1) := by decide +kernel
theorem dX5_get_35 : decode cX5_get 35 = .ok (.ireturn, 1) := by decide +kernel
theorem dX5_placeOf_0 : decode cX5_placeOf 0 = .ok (.iconst 0, 1) := by decide +kernel
theorem dX5_placeOf_1 : decode cX5_placeOf 1 = .ok (.istore_n 2, 1) := by decide +kernel
theorem dX5_placeOf_2 : decode cX5_placeOf 2 = .ok (.iload_n 2, 1) := by decide +kernel
theorem dX5_placeOf_3 : decode cX5_placeOf 3 = .ok (.aload_n 0, 1) := by decide +kernel
theorem dX5_placeOf_4 : decode cX5_placeOf 4 = .ok (.getfield 15, 3) := by decide +kernel
theorem dX5_placeOf_7 : decode cX5_placeOf 7 = .ok (.if_icmp .ge 21, 3) := by decide +kernel
theorem dX5_placeOf_10 : decode cX5_placeOf 10 = .ok (.aload_n 0, 1) := by decide +kernel
theorem dX5_placeOf_11 : decode cX5_placeOf 11 = .ok (.getfield 9, 3) := by decide +kernel
theorem dX5_placeOf_14 : decode cX5_placeOf 14 = .ok (.iload_n 2, 1) := by decide +kernel
theorem dX5_placeOf_15 : decode cX5_placeOf 15 = .ok (.iaload, 1) := by decide +kernel
theorem dX5_placeOf_16 : decode cX5_placeOf 16 = .ok (.iload_n 1, 1) := by decide +kernel
theorem dX5_placeOf_17 : decode cX5_placeOf 17 = .ok (.if_icmp .ne 5, 3) := by decide +kernel
theorem dX5_placeOf_20 : decode cX5_placeOf 20 = .ok (.iload_n 2, 1) := by decide +kernel
theorem dX5_placeOf_21 : decode cX5_placeOf 21 = .ok (.ireturn, 1) := by decide +kernel
theorem dX5_placeOf_22 : decode cX5_placeOf 22 = .ok (.iinc 2 1, 3) := by decide +kernel
theorem dX5_placeOf_25 : decode cX5_placeOf 25 = .ok (.goto (-23), 3) := by decide +kernel
theorem dX5_placeOf_28 : decode cX5_placeOf 28 = .ok (.iconst (-1), 1) := by decide +kernel
theorem dX5_placeOf_29 : decode cX5_placeOf 29 = .ok (.ireturn, 1) := by decide +kernel
set_option maxRecDepth 20000 in
theorem ggX5_hasTwice_X5_placeOf : GoodIn wsX5_hasTwice wsX5_placeOf := goodIn_r _ [7, 1, 2, 8, 9] (by decide +kernel) (by decide +kernel)
set_option maxRecDepth 20000 in
theorem gX5_hasTwice_X5_placeOf : GoodIn wsX5_hasTwice (wsV RX5 19 RX5 yX5_placeOf wsX5_placeOf) := goodIn_app (goodIn_of _ (by decide +kernel)) ggX5_hasTwice_X5_placeOf
theorem dX5_hasTwice_0 : decode cX5_hasTwice 0 = .ok (.iconst 0, 1) := by decide +kernel
theorem dX5_hasTwice_1 : decode cX5_hasTwice 1 = .ok (.istore_n 1, 1) := by decide +kernel
theorem dX5_hasTwice_2 : decode cX5_hasTwice 2 = .ok (.iload_n 1, 1) := by decide +kernel
theorem dX5_hasTwice_3 : decode cX5_hasTwice 3 = .ok (.aload_n 0, 1) := by decide +kernel
theorem dX5_hasTwice_4 : decode cX5_hasTwice 4 = .ok (.getfield 15, 3) := by decide +kernel
theorem dX5_hasTwice_7 : decode cX5_hasTwice 7 = .ok (.if_icmp .ge 25, 3) := by decide +kernel
theorem dX5_hasTwice_10 : decode cX5_hasTwice 10 = .ok (.aload_n 0, 1) := by decide +kernel
theorem dX5_hasTwice_11 : decode cX5_hasTwice 11 = .ok (.aload_n 0, 1) := by decide +kernel
theorem dX5_hasTwice_12 : decode cX5_hasTwice 12 = .ok (.getfield 9, 3) := by decide +kernel
theorem dX5_hasTwice_15 : decode cX5_hasTwice 15 = .ok (.iload_n 1, 1) := by decide +kernel
theorem dX5_hasTwice_16 : decode cX5_hasTwice 16 = .ok (.iaload, 1) := by decide +kernel
theorem dX5_hasTwice_17 : decode cX5_hasTwice 17 = .ok (.invokevirtual 19, 3) := by decide +kernel
theorem dX5_hasTwice_20 : decode cX5_hasTwice 20 = .ok (.iload_n 1, 1) := by decide +kernel
theorem dX5_hasTwice_21 : decode cX5_hasTwice 21 = .ok (.if_icmp .eq 5, 3) := by decide +kernel
theorem dX5_hasTwice_24 : decode cX5_hasTwice 24 = .ok (.iconst 1, 1) := by decide +kernel
theorem dX5_hasTwice_25 : decode cX5_hasTwice 25 = .ok (.ireturn, 1) := by decide +kernel
theorem dX5_hasTwice_26 : decode cX5_hasTwice 26 = .ok (.iinc 1 1, 3) := by decide +kernel
theorem dX5_hasTwice_29 : decode cX5_hasTwice 29 = .ok (.goto (-27), 3) := by decide +kernel
theorem dX5_hasTwice_32 : decode cX5_hasTwice 32 = .ok (.iconst 0, 1) := by decide +kernel
theorem dX5_hasTwice_33 : decode cX5_hasTwice 33 = .ok (.ireturn, 1) := by decide +kernel
theorem dX5_clear_0 : decode cX5_clear 0 = .ok (.aload_n 0, 1) := by decide +kernel
theorem dX5_clear_1 : decode cX5_clear 1 = .ok (.iconst 0, 1) := by decide +kernel
theorem dX5_clear_2 : decode cX5_clear 2 = .ok (.putfield 15, 3) := by decide +kernel
theorem dX5_clear_5 : decode cX5_clear 5 = .ok (.return_, 1) := by decide +kernel
theorem dX5_add_0 : decode cX5_add 0 = .ok (.aload_n 0, 1) := by decide +kernel
theorem dX5_add_1 : decode cX5_add 1 = .ok (.getfield 15, 3) := by decide +kernel
theorem dX5_add_4 : decode cX5_add 4 = .ok (.bipush 12, 2) := by decide +kernel
theorem dX5_add_6 : decode cX5_add 6 = .ok (.if_icmp .ge 23, 3) := by decide +kernel
theorem dX5_add_9 : decode cX5_add 9 = .ok (.aload_n 0, 1) := by decide +kernel
theorem dX5_add_10 : decode cX5_add 10 = .ok (.getfield 9, 3) := by decide +kernel
theorem dX5_add_13 : decode cX5_add 13 = .ok (.aload_n 0, 1) := by decide +kernel
theorem dX5_add_14 : decode cX5_add 14 = .ok (.getfield 15, 3) := by decide +kernel
theorem dX5_add_17 : decode cX5_add 17 = .ok (.iload_n 1, 1) := by decide +kernel
theorem dX5_add_18 : decode cX5_add 18 = .ok (.iastore, 1) := by decide +kernel
theorem dX5_add_19 : decode cX5_add 19 = .ok (.aload_n 0, 1) := by decide +kernel
theorem dX5_add_20 : decode cX5_add 20 = .ok (.dup, 1) := by decide +kernel
theorem dX5_add_21 : decode cX5_add 21 = .ok (.getfield 15, 3) := by decide +kernel
theorem dX5_add_24 : decode cX5_add 24 = .ok (.iconst 1, 1) := by decide +kernel
theorem dX5_add_25 : decode cX5_add 25 = .ok (.iadd, 1) := by decide +kernel
theorem dX5_add_26 : decode cX5_add 26 = .ok (.putfield 15, 3) := by decide +kernel
theorem dX5_add_29 : decode cX5_add 29 = .ok (.return_, 1) := by decide +kernel
set_option maxRecDepth 20000 in
theorem ggX5_set_X5_clear : GoodIn wsX5_set wsX5_clear := goodIn_r _ [5, 6, 12, 13] (by decide +kernel) (by decide +kernel)
set_option maxRecDepth 20000 in
theorem gX5_set_X5_clear : GoodIn wsX5_set (wsV RX5 23 RX5 yX5_clear wsX5_clear) := goodIn_app (goodIn_of _ (by decide +kernel)) ggX5_set_X5_clear
set_option maxRecDepth 20000 in
theorem ggX5_set_X5_add : GoodIn wsX5_set wsX5_add := goodIn_r _ [10, 6, 11, 12, 13] (by decide +kernel) (by decide +kernel)
set_option maxRecDepth 20000 in
theorem gX5_set_X5_add : GoodIn wsX5_set (wsV RX5 26 RX5 yX5_add wsX5_add) := goodIn_app (goodIn_of _ (by decide +kernel)) ggX5_set_X5_add
theorem dX5_set_0 : decode cX5_set 0 = .ok (.aload_n 0, 1) := by decide +kernel
theorem dX5_set_1 : decode cX5_set 1 = .ok (.invokevirtual 23, 3) := by decide +kernel
theorem dX5_set_4 : decode cX5_set 4 = .ok (.aload_n 0, 1) := by decide +kernel
theorem dX5_set_5 : decode cX5_set 5 = .ok (.iload_n 1, 1) := by decide +kernel
theorem dX5_set_6 : decode cX5_set 6 = .ok (.invokevirtual 26, 3) := by decide +kernel
theorem dX5_set_9 : decode cX5_set 9 = .ok (.aload_n 0, 1) := by decide +kernel
theorem dX5_set_10 : decode cX5_set 10 = .ok (.iload_n 2, 1) := by decide +kernel
theorem dX5_set_11 : decode cX5_set 11 = .ok (.invokevirtual 26, 3) := by decide +kernel
theorem dX5_set_14 : decode cX5_set 14 = .ok (.aload_n 0, 1) := by decide +kernel
theorem dX5_set_15 : decode cX5_set 15 = .ok (.iload_n 3, 1) := by decide +kernel
theorem dX5_set_16 : decode cX5_set 16 = .ok (.invokevirtual 26, 3) := by decide +kernel
theorem dX5_set_19 : decode cX5_set 19 = .ok (.iload 4, 2) := by decide +kernel
theorem dX5_set_21 : decode cX5_set 21 = .ok (.iconst (-1), 1) := by decide +kernel
theorem dX5_set_22 : decode cX5_set 22 = .ok (.if_icmp .eq 9, 3) := by decide +kernel
theorem dX5_set_25 : decode cX5_set 25 = .ok (.aload_n 0, 1) := by decide +kernel
theorem dX5_set_26 : decode cX5_set 26 = .ok (.iload 4, 2) := by decide +kernel
theorem dX5_set_28 : decode cX5_set 28 = .ok (.invokevirtual 26, 3) := by decide +kernel
theorem dX5_set_31 : decode cX5_set 31 = .ok (.return_, 1) := by decide +kernel
set_option maxRecDepth 20000 in
theorem ggX5_addStretch_X5_get : GoodIn wsX5_addStretch wsX5_get := goodIn_r _ [5, 6, 7, 12, 13] (by decide +kernel) (by decide +kernel)
set_option maxRecDepth 20000 in
theorem gX5_addStretch_X5_get : GoodIn wsX5_addStretch (wsV RX5 30 RX5 yX5_get wsX5_get) := goodIn_app (goodIn_of _ (by decide +kernel)) ggX5_addStretch_X5_get
set_option maxRecDepth 20000 in
theorem ggX5_addStretch_X5_add : GoodIn wsX5_addStretch wsX5_add := goodIn_r _ [11, 6, 7, 12, 13] (by decide +kernel) (by decide +kernel)
set_option maxRecDepth 20000 in
theorem gX5_addStretch_X5_add : GoodIn wsX5_addStretch (wsV RX5 26 RX5 yX5_add wsX5_add) := goodIn_app (goodIn_of _ (by decide +kernel)) ggX5_addStretch_X5_add
theorem dX5_addStretch_0 : decode cX5_addStretch 0 = .ok (.iconst 0, 1) := by decide +kernel
theorem dX5_addStretch_1 : decode cX5_addStretch 1 = .ok (.istore 4, 2) := by decide +kernel
theorem dX5_addStretch_3 : decode cX5_addStretch 3 = .ok (.iload 4, 2) := by decide +kernel
theorem dX5_addStretch_5 : decode cX5_addStretch 5 = .ok (.iload_n 3, 1) := by decide +kernel
theorem dX5_addStretch_6 : decode cX5_addStretch 6 = .ok (.if_icmp .ge 21, 3) := by decide +kernel
theorem dX5_addStretch_9 : decode cX5_addStretch 9 = .ok (.aload_n 0, 1) := by decide +kernel
theorem dX5_addStretch_10 : decode cX5_addStretch 10 = .ok (.aload_n 1, 1) := by decide +kernel
theorem dX5_addStretch_11 : decode cX5_addStretch 11 = .ok (.iload_n 2, 1) := by decide +kernel
theorem dX5_addStretch_12 : decode cX5_addStretch 12 = .ok (.iload 4, 2) := by decide +kernel
theorem dX5_addStretch_14 : decode cX5_addStretch 14 = .ok (.iadd, 1) := by decide +kernel
theorem dX5_addStretch_15 : decode cX5_addStretch 15 = .ok (.invokevirtual 30, 3) := by decide +kernel
theorem dX5_addStretch_18 : decode cX5_addStretch 18 = .ok (.invokevirtual 26, 3) := by decide +kernel
theorem dX5_addStretch_21 : decode cX5_addStretch 21 = .ok (.iinc 4 1, 3) := by decide +kernel
theorem dX5_addStretch_24 : decode cX5_addStretch 24 = .ok (.goto (-21), 3) := by decide +kernel
theorem dX5_addStretch_27 : decode cX5_addStretch 27 = .ok (.return_, 1) := by decide +kernel
theorem dX5_copyFrom_0 : decode cX5_copyFrom 0 = .ok (.aload_n 0, 1) := by decide +kernel
theorem dX5_copyFrom_1 : decode cX5_copyFrom 1 = .ok (.aload_n 1, 1) := by decide +kernel
theorem dX5_copyFrom_2 : decode cX5_copyFrom 2 = .ok (.getfield 15, 3) := by decide +kernel
theorem dX5_copyFrom_5 : decode cX5_copyFrom 5 = .ok (.putfield 15, 3) := by decide +kernel
theorem dX5_copyFrom_8 : decode cX5_copyFrom 8 = .ok (.iconst 0, 1) := by decide +kernel
theorem dX5_copyFrom_9 : decode cX5_copyFrom 9 = .ok (.istore_n 2, 1) := by decide +kernel
theorem dX5_copyFrom_10 : decode cX5_copyFrom 10 = .ok (.iload_n 2, 1) := by decide +kernel
theorem dX5_copyFrom_11 : decode cX5_copyFrom 11 = .ok (.aload_n 0, 1) := by decide +kernel
theorem dX5_copyFrom_12 : decode cX5_copyFrom 12 = .ok (.getfield 15, 3) := by decide +kernel
theorem dX5_copyFrom_15 : decode cX5_copyFrom 15 = .ok (.if_icmp .ge 27, 3) := by decide +kernel
theorem dX5_copyFrom_18 : decode cX5_copyFrom 18 = .ok (.iload_n 2, 1) := by decide +kernel
theorem dX5_copyFrom_19 : decode cX5_copyFrom 19 = .ok (.bipush 12, 2) := by decide +kernel
theorem dX5_copyFrom_21 : decode cX5_copyFrom 21 = .ok (.if_icmp .ge 21, 3) := by decide +kernel
theorem dX5_copyFrom_24 : decode cX5_copyFrom 24 = .ok (.aload_n 0, 1) := by decide +kernel
theorem dX5_copyFrom_25 : decode cX5_copyFrom 25 = .ok (.getfield 9, 3) := by decide +kernel
theorem dX5_copyFrom_28 : decode cX5_copyFrom 28 = .ok (.iload_n 2, 1) := by decide +kernel
theorem dX5_copyFrom_29 : decode cX5_copyFrom 29 = .ok (.aload_n 1, 1) := by decide +kernel
theorem dX5_copyFrom_30 : decode cX5_copyFrom 30 = .ok (.getfield 9, 3) := by decide +kernel
theorem dX5_copyFrom_33 : decode cX5_copyFrom 33 = .ok (.iload_n 2, 1) := by decide +kernel
theorem dX5_copyFrom_34 : decode cX5_copyFrom 34 = .ok (.iaload, 1) := by decide +kernel
theorem dX5_copyFrom_35 : decode cX5_copyFrom 35 = .ok (.iastore, 1) := by decide +kernel
theorem dX5_copyFrom_36 : decode cX5_copyFrom 36 = .ok (.iinc 2 1, 3) := by decide +kernel
theorem dX5_copyFrom_39 : decode cX5_copyFrom 39 = .ok (.goto (-29), 3) := by decide +kernel
theorem dX5_copyFrom_42 : decode cX5_copyFrom 42 = .ok (.return_, 1) := by decide +kernel
set_option maxRecDepth 20000 in
theorem ggX5_copyBackwards_X5_clear : GoodIn wsX5_copyBackwards wsX5_clear := goodIn_r _ [5, 6, 20, 21] (by decide +kernel) (by decide +kernel)
set_option maxRecDepth 20000 in
theorem gX5_copyBackwards_X5_clear : GoodIn wsX5_copyBackwards (wsV RX5 23 RX5 yX5_clear wsX5_clear) := goodIn_app (goodIn_of _ (by decide +kernel)) ggX5_copyBackwards_X5_clear
set_option maxRecDepth 20000 in
theorem ggX5_copyBackwards_X5_length : GoodIn wsX5_copyBackwards wsX5_length := goodIn_r _ [10, 6, 20, 21] (by decide +kernel) (by decide +kernel)
set_option maxRecDepth 20000 in
theorem gX5_copyBackwards_X5_length : GoodIn wsX5_copyBackwards (wsV RX5 33 RX5 yX5_length wsX5_length) := goodIn_app (goodIn_of _ (by decide +kernel)) ggX5_copyBackwards_X5_length
set_option maxRecDepth 20000 in
theorem ggX5_copyBackwards_X5_get : GoodIn wsX5_copyBackwards wsX5_get := goodIn_r _ [14, 6, 15, 20, 21] (by decide +kernel) (by decide +kernel)
set_option maxRecDepth 20000 in
theorem gX5_copyBackwards_X5_get : GoodIn wsX5_copyBackwards (wsV RX5 30 RX5 yX5_get wsX5_get) := goodIn_app (goodIn_of _ (by decide +kernel)) ggX5_copyBackwards_X5_get
set_option maxRecDepth 20000 in
theorem ggX5_copyBackwards_X5_add : GoodIn wsX5_copyBackwards wsX5_add := goodIn_r _ [19, 6, 15, 20, 21] (by decide +kernel) (by decide +kernel)
set_option maxRecDepth 20000 in
theorem gX5_copyBackwards_X5_add : GoodIn wsX5_copyBackwards (wsV RX5 26 RX5 yX5_add wsX5_add) := goodIn_app (goodIn_of _ (by decide +kernel)) ggX5_copyBackwards_X5_add
theorem dX5_copyBackwards_0 : decode cX5_copyBackwards 0 = .ok (.aload_n 0, 1) := by decide +kernel
theorem dX5_copyBackwards_1 : decode cX5_copyBackwards 1 = .ok (.invokevirtual 23, 3) := by decide +kernel
theorem dX5_copyBackwards_4 : decode cX5_copyBackwards 4 = .ok (.iconst 0, 1) := by decide +kernel
theorem dX5_copyBackwards_5 : decode cX5_copyBackwards 5 = .ok (.istore_n 2, 1) := by decide +kernel
theorem dX5_copyBackwards_6 : decode cX5_copyBackwards 6 = .ok (.iload_n 2, 1) := by decide +kernel
theorem dX5_copyBackwards_7 : decode cX5_copyBackwards 7 = .ok (.aload_n 1, 1) := by decide +kernel
theorem dX5_copyBackwards_8 : decode cX5_copyBackwards 8 = .ok (.invokevirtual 33, 3) := by decide +kernel
theorem dX5_copyBackwards_11 : decode cX5_copyBackwards 11 = .ok (.if_icmp .ge 19, 3) := by decide +kernel
theorem dX5_copyBackwards_14 : decode cX5_copyBackwards 14 = .ok (.aload_n 0, 1) := by decide +kernel
theorem dX5_copyBackwards_15 : decode cX5_copyBackwards 15 = .ok (.aload_n 1, 1) := by decide +kernel
theorem dX5_copyBackwards_16 : decode cX5_copyBackwards 16 = .ok (.iload_n 2, 1) := by decide +kernel
theorem dX5_copyBackwards_17 : decode cX5_copyBackwards 17 = .ok (.ineg, 1) := by decide +kernel
theorem dX5_copyBackwards_18 : decode cX5_copyBackwards 18 = .ok (.invokevirtual 30, 3) := by decide +kernel
theorem dX5_copyBackwards_21 : decode cX5_copyBackwards 21 = .ok (.invokevirtual 26, 3) := by decide +kernel
theorem dX5_copyBackwards_24 : decode cX5_copyBackwards 24 = .ok (.iinc 2 1, 3) := by decide +kernel
theorem dX5_copyBackwards_27 : decode cX5_copyBackwards 27 = .ok (.goto (-21), 3) := by decide +kernel
theorem dX5_copyBackwards_30 : decode cX5_copyBackwards 30 = .ok (.return_, 1) := by decide +kernel
theorem dX6_init_0 : decode cX6_init 0 = .ok (.aload_n 0, 1) := by decide +kernel
theorem dX6_init_1 : decode cX6_init 1 = .ok (.invokespecial 3, 3) := by decide +kernel
theorem dX6_init_4 : decode cX6_init 4 = .ok (.aload_n 0, 1) := by decide +kernel
theorem dX6_init_5 : decode cX6_init 5 = .ok (.iconst 3, 1) := by decide +kernel
theorem dX6_init_6 : decode cX6_init 6 = .ok (.bipush 100, 2) := by decide +kernel
theorem dX6_init_8 : decode cX6_init 8 = .ok (.multianewarray 9 2, 4) := by decide +kernel
theorem dX6_init_12 : decode cX6_init 12 = .ok (.putfield 11, 3) := by decide +kernel
theorem dX6_init_15 : decode cX6_init 15 = .ok (.aload_n 0, 1) := by decide +kernel
theorem dX6_init_16 : decode cX6_init 16 = .ok (.aload_n 1, 1) := by decide +kernel
theorem dX6_init_17 : decode cX6_init 17 = .ok (.putfield 16, 3) := by decide +kernel
theorem dX6_init_20 : decode cX6_init 20 = .ok (.aload_n 0, 1) := by decide +kernel
theorem dX6_init_21 : decode cX6_init 21 = .ok (.aload_n 2, 1) := by decide +kernel
theorem dX6_init_22 : decode cX6_init 22 = .ok (.putfield 20, 3) := by decide +kernel
theorem dX6_init_25 : decode cX6_init 25 = .ok (.return_, 1) := by decide +kernel
set_option maxRecDepth 20000 in
theorem ggX6_apply_X3_get : GoodIn wsX6_apply wsX3_get := goodIn_r _ [7, 8, 9, 10, 11, 57, 58, 59, 60] (by decide +kernel) (by decide +kernel)
set_option maxRecDepth 20000 in
theorem gX6_apply_X3_get : GoodIn wsX6_apply (wsV RX6 24 RX3 yX3_get wsX3_get) := goodIn_app (goodIn_of _ (by decide +kernel)) ggX6_apply_X3_get
set_option maxRecDepth 20000 in
theorem ggX6_apply_X6_isAtOpenHalf : GoodIn wsX6_apply wsX6_isAtOpenHalf := goodIn_r _ [16, 17, 18, 19, 20, 21, 22, 23, 24, 25, 26, 27, 54, 55, 56, 61, 62, 63, 64, 65] (by decide +kernel) (by decide +kernel)
set_option maxRecDepth 20000 in
theorem gX6_apply_X6_isAtOpenHalf : GoodIn wsX6_apply (wsV RX6 30 RX6 yX6_isAtOpenHalf wsX6_isAtOpenHalf) := goodIn_app (goodIn_of _ (by decide +kernel)) ggX6_apply_X6_isAtOpenHalf
set_option maxRecDepth 20000 in
theorem ggX6_apply_X6_findPlace : GoodIn wsX6_apply wsX6_findPlace := goodIn_r _ [31, 17, 2, 1, 32, 33, 34, 21, 35, 36, 37, 38, 39, 23, 24, 25, 26, 27, 9, 10, 11, 40, 3, 4, 5, 6, 7, 8, 54, 55, 56, 61, 62, 63, 64, 65, 57, 58, 59, 60] (by decide +kernel) (by decide +kernel)
set_option maxRecDepth 20000 in
theorem gX6_apply_X6_findPlace : GoodIn wsX6_apply (wsV RX6 34 RX6 yX6_findPlace wsX6_findPlace) := goodIn_app (goodIn_of _ (by decide +kernel)) ggX6_apply_X6_findPlace
set_option maxRecDepth 20000 in
theorem ggX6_apply_X6_settle : GoodIn wsX6_apply wsX6_settle := goodIn_r _ [44, 2, 1, 45, 46, 47, 6, 48, 49, 9, 10, 11, 3, 4, 5, 7, 8, 50, 51, 52, 53, 54, 55, 56, 57, 58, 59, 60] (by decide +kernel) (by decide +kernel)
set_option maxRecDepth 20000 in
theorem gX6_apply_X6_settle : GoodIn wsX6_apply (wsV RX6 38 RX6 yX6_settle wsX6_settle) := goodIn_app (goodIn_of _ (by decide +kernel)) ggX6_apply_X6_settle
theorem dX6_apply_0 : decode cX6_apply 0 = .ok (.iconst 0, 1) := by decide +kernel
theorem dX6_apply_1 : decode cX6_apply 1 = .ok (.istore_n 1, 1) := by decide +kernel
theorem dX6_apply_2 : decode cX6_apply 2 = .ok (.iload_n 1, 1) := by decide +kernel
theorem dX6_apply_3 : decode cX6_apply 3 = .ok (.bipush 100, 2) := by decide +kernel
theorem dX6_apply_5 : decode cX6_apply 5 = .ok (.if_icmp .ge 52, 3) := by decide +kernel
theorem dX6_apply_8 : decode cX6_apply 8 = .ok (.iconst 0, 1) := by decide +kernel
theorem dX6_apply_9 : decode cX6_apply 9 = .ok (.istore_n 2, 1) := by decide +kernel
theorem dX6_apply_10 : decode cX6_apply 10 = .ok (.iload_n 2, 1) := by decide +kernel
theorem dX6_apply_11 : decode cX6_apply 11 = .ok (.iconst 3, 1) := by decide +kernel
theorem dX6_apply_12 : decode cX6_apply 12 = .ok (.if_icmp .ge 26, 3) := by decide +kernel
theorem dX6_apply_15 : decode cX6_apply 15 = .ok (.aload_n 0, 1) := by decide +kernel
theorem dX6_apply_16 : decode cX6_apply 16 = .ok (.getfield 11, 3) := by decide +kernel
theorem dX6_apply_19 : decode cX6_apply 19 = .ok (.iload_n 2, 1) := by decide +kernel
theorem dX6_apply_20 : decode cX6_apply 20 = .ok (.aaload, 1) := by decide +kernel
theorem dX6_apply_21 : decode cX6_apply 21 = .ok (.iload_n 1, 1) := by decide +kernel
theorem dX6_apply_22 : decode cX6_apply 22 = .ok (.aload_n 0, 1) := by decide +kernel
theorem dX6_apply_23 : decode cX6_apply 23 = .ok (.getfield 16, 3) := by decide +kernel
theorem dX6_apply_26 : decode cX6_apply 26 = .ok (.iload_n 1, 1) := by decide +kernel
theorem dX6_apply_27 : decode cX6_apply 27 = .ok (.iload_n 2, 1) := by decide +kernel
theorem dX6_apply_28 : decode cX6_apply 28 = .ok (.invokevirtual 24, 3) := by decide +kernel
theorem dX6_apply_31 : decode cX6_apply 31 = .ok (.iastore, 1) := by decide +kernel
theorem dX6_apply_32 : decode cX6_apply 32 = .ok (.iinc 2 1, 3) := by decide +kernel
theorem dX6_apply_35 : decode cX6_apply 35 = .ok (.goto (-25), 3) := by decide +kernel
theorem dX6_apply_38 : decode cX6_apply 38 = .ok (.aload_n 0, 1) := by decide +kernel
theorem dX6_apply_39 : decode cX6_apply 39 = .ok (.iload_n 1, 1) := by decide +kernel
theorem dX6_apply_40 : decode cX6_apply 40 = .ok (.invokevirtual 30, 3) := by decide +kernel
theorem dX6_apply_43 : decode cX6_apply 43 = .ok (.ifCond .ne 8, 3) := by decide +kernel
theorem dX6_apply_46 : decode cX6_apply 46 = .ok (.aload_n 0, 1) := by decide +kernel
theorem dX6_apply_47 : decode cX6_apply 47 = .ok (.iload_n 1, 1) := by decide +kernel
theorem dX6_apply_48 : decode cX6_apply 48 = .ok (.invokevirtual 34, 3) := by decide +kernel
theorem dX6_apply_51 : decode cX6_apply 51 = .ok (.iinc 1 1, 3) := by decide +kernel
theorem dX6_apply_54 : decode cX6_apply 54 = .ok (.goto (-52), 3) := by decide +kernel
theorem dX6_apply_57 : decode cX6_apply 57 = .ok (.iconst 0, 1) := by decide +kernel
theorem dX6_apply_58 : decode cX6_apply 58 = .ok (.istore_n 1, 1) := by decide +kernel
theorem dX6_apply_59 : decode cX6_apply 59 = .ok (.iconst 0, 1) := by decide +kernel
theorem dX6_apply_60 : decode cX6_apply 60 = .ok (.istore_n 2, 1) := by decide +kernel
theorem dX6_apply_61 : decode cX6_apply 61 = .ok (.iload_n 2, 1) := by decide +kernel
theorem dX6_apply_62 : decode cX6_apply 62 = .ok (.bipush 100, 2) := by decide +kernel
theorem dX6_apply_64 : decode cX6_apply 64 = .ok (.if_icmp .ge 25, 3) := by decide +kernel
theorem dX6_apply_67 : decode cX6_apply 67 = .ok (.iload_n 1, 1) := by decide +kernel
theorem dX6_apply_68 : decode cX6_apply 68 = .ok (.aload_n 0, 1) := by decide +kernel
theorem dX6_apply_69 : decode cX6_apply 69 = .ok (.iload_n 2, 1) := by decide +kernel
theorem dX6_apply_70 : decode cX6_apply 70 = .ok (.invokevirtual 38, 3) := by decide +kernel
theorem dX6_apply_73 : decode cX6_apply 73 = .ok (.ifCond .eq 7, 3) := by decide +kernel
theorem dX6_apply_76 : decode cX6_apply 76 = .ok (.iconst 1, 1) := by decide +kernel
theorem dX6_apply_77 : decode cX6_apply 77 = .ok (.goto 4, 3) := by decide +kernel
theorem dX6_apply_80 : decode cX6_apply 80 = .ok (.iconst 0, 1) := by decide +kernel
theorem dX6_apply_81 : decode cX6_apply 81 = .ok (.iadd, 1) := by decide +kernel
theorem dX6_apply_82 : decode cX6_apply 82 = .ok (.istore_n 1, 1) := by decide +kernel
theorem dX6_apply_83 : decode cX6_apply 83 = .ok (.iinc 2 1, 3) := by decide +kernel
theorem dX6_apply_86 : decode cX6_apply 86 = .ok (.goto (-25), 3) := by decide +kernel
theorem dX6_apply_89 : decode cX6_apply 89 = .ok (.iload_n 1, 1) := by decide +kernel
theorem dX6_apply_90 : decode cX6_apply 90 = .ok (.ireturn, 1) := by decide +kernel
set_option maxRecDepth 20000 in
theorem ggX6_isAtOpenHalf_X1_isOpen : GoodIn wsX6_isAtOpenHalf wsX1_isOpen := goodIn_r _ [6, 7, 8, 9, 5, 10, 11, 15, 16, 17, 18, 19] (by decide +kernel) (by decide +kernel)
set_option maxRecDepth 20000 in
theorem gX6_isAtOpenHalf_X1_isOpen : GoodIn wsX6_isAtOpenHalf (wsV RX6 41 RX1 yX1_isOpen wsX1_isOpen) := goodIn_app (goodIn_of _ (by decide +kernel)) ggX6_isAtOpenHalf_X1_isOpen
theorem dX6_isAtOpenHalf_0 : decode cX6_isAtOpenHalf 0 = .ok (.iconst 0, 1) := by decide +kernel
theorem dX6_isAtOpenHalf_1 : decode cX6_isAtOpenHalf 1 = .ok (.istore_n 2, 1) := by decide +kernel
theorem dX6_isAtOpenHalf_2 : decode cX6_isAtOpenHalf 2 = .ok (.iload_n 2, 1) := by decide +kernel
theorem dX6_isAtOpenHalf_3 : decode cX6_isAtOpenHalf 3 = .ok (.bipush 100, 2) := by decide +kernel
theorem dX6_isAtOpenHalf_5 : decode cX6_isAtOpenHalf 5 = .ok (.if_icmp .ge 35, 3) := by decide +kernel
theorem dX6_isAtOpenHalf_8 : decode cX6_isAtOpenHalf 8 = .ok (.aload_n 0, 1) := by decide +kernel
theorem dX6_isAtOpenHalf_9 : decode cX6_isAtOpenHalf 9 = .ok (.getfield 20, 3) := by decide +kernel
theorem dX6_isAtOpenHalf_12 : decode cX6_isAtOpenHalf 12 = .ok (.iload_n 1, 1) := by decide +kernel
theorem dX6_isAtOpenHalf_13 : decode cX6_isAtOpenHalf 13 = .ok (.iload_n 2, 1) := by decide +kernel
theorem dX6_isAtOpenHalf_14 : decode cX6_isAtOpenHalf 14 = .ok (.invokevirtual 41, 3) := by decide +kernel
theorem dX6_isAtOpenHalf_17 : decode cX6_isAtOpenHalf 17 = .ok (.ifCond .ne 15, 3) := by decide +kernel
theorem dX6_isAtOpenHalf_20 : decode cX6_isAtOpenHalf 20 = .ok (.aload_n 0, 1) := by decide +kernel
theorem dX6_isAtOpenHalf_21 : decode cX6_isAtOpenHalf 21 = .ok (.getfield 20, 3) := by decide +kernel
theorem dX6_isAtOpenHalf_24 : decode cX6_isAtOpenHalf 24 = .ok (.iload_n 2, 1) := by decide +kernel
theorem dX6_isAtOpenHalf_25 : decode cX6_isAtOpenHalf 25 = .ok (.iload_n 1, 1) := by decide +kernel
theorem dX6_isAtOpenHalf_26 : decode cX6_isAtOpenHalf 26 = .ok (.invokevirtual 41, 3) := by decide +kernel
theorem dX6_isAtOpenHalf_29 : decode cX6_isAtOpenHalf 29 = .ok (.ifCond .eq 5, 3) := by decide +kernel
theorem dX6_isAtOpenHalf_32 : decode cX6_isAtOpenHalf 32 = .ok (.iconst 1, 1) := by decide +kernel
theorem dX6_isAtOpenHalf_33 : decode cX6_isAtOpenHalf 33 = .ok (.ireturn, 1) := by decide +kernel
theorem dX6_isAtOpenHalf_34 : decode cX6_isAtOpenHalf 34 = .ok (.iinc 2 1, 3) := by decide +kernel
theorem dX6_isAtOpenHalf_37 : decode cX6_isAtOpenHalf 37 = .ok (.goto (-35), 3) := by decide +kernel
theorem dX6_isAtOpenHalf_40 : decode cX6_isAtOpenHalf 40 = .ok (.iconst 0, 1) := by decide +kernel
theorem dX6_isAtOpenHalf_41 : decode cX6_isAtOpenHalf 41 = .ok (.ireturn, 1) := by decide +kernel
set_option maxRecDepth 20000 in
theorem ggX6_findPlace_X1_neighboursOf : GoodIn wsX6_findPlace wsX1_neighboursOf := goodIn_r _ [8, 9, 10, 11, 7, 12, 13, 14, 15, 16, 17, 31, 32, 33, 34, 35] (by decide +kernel) (by decide +kernel)
set_option maxRecDepth 20000 in
theorem gX6_findPlace_X1_neighboursOf : GoodIn wsX6_findPlace (wsV RX6 47 RX1 yX1_neighboursOf wsX1_neighboursOf) := goodIn_app (goodIn_of _ (by decide +kernel)) ggX6_findPlace_X1_neighboursOf
set_option maxRecDepth 20000 in
theorem ggX6_findPlace_X8_isPointNumber : GoodIn wsX6_findPlace wsX8_isPointNumber := goodIn_r _ [20] (by decide +kernel) (by decide +kernel)
set_option maxRecDepth 20000 in
theorem gX6_findPlace_X8_isPointNumber_n51 : GoodIn wsX6_findPlace (wsX8_isPointNumber) := ggX6_findPlace_X8_isPointNumber
set_option maxRecDepth 20000 in
theorem ggX6_findPlace_X1_isEdge : GoodIn wsX6_findPlace wsX1_isEdge := goodIn_r _ [12, 13, 14, 15, 7, 16, 17, 31, 32, 33, 34, 35] (by decide +kernel) (by decide +kernel)
set_option maxRecDepth 20000 in
theorem gX6_findPlace_X1_isEdge : GoodIn wsX6_findPlace (wsV RX6 54 RX1 yX1_isEdge wsX1_isEdge) := goodIn_app (goodIn_of _ (by decide +kernel)) ggX6_findPlace_X1_isEdge
set_option maxRecDepth 20000 in
theorem ggX6_findPlace_X3_get : GoodIn wsX6_findPlace wsX3_get := goodIn_r _ [26, 27, 18, 19, 20, 36, 37, 38, 39] (by decide +kernel) (by decide +kernel)
set_option maxRecDepth 20000 in
theorem gX6_findPlace_X3_get : GoodIn wsX6_findPlace (wsV RX6 24 RX3 yX3_get wsX3_get) := goodIn_app (goodIn_of _ (by decide +kernel)) ggX6_findPlace_X3_get
theorem dX6_findPlace_0 : decode cX6_findPlace 0 = .ok (.aload_n 0, 1) := by decide +kernel
theorem dX6_findPlace_1 : decode cX6_findPlace 1 = .ok (.getfield 20, 3) := by decide +kernel
theorem dX6_findPlace_4 : decode cX6_findPlace 4 = .ok (.iload_n 1, 1) := by decide +kernel
theorem dX6_findPlace_5 : decode cX6_findPlace 5 = .ok (.invokevirtual 47, 3) := by decide +kernel
theorem dX6_findPlace_8 : decode cX6_findPlace 8 = .ok (.istore_n 2, 1) := by decide +kernel
theorem dX6_findPlace_9 : decode cX6_findPlace 9 = .ok (.iload_n 2, 1) := by decide +kernel
theorem dX6_findPlace_10 : decode cX6_findPlace 10 = .ok (.ifCond .eq 10, 3) := by decide +kernel
theorem dX6_findPlace_13 : decode cX6_findPlace 13 = .ok (.iload_n 1, 1) := by decide +kernel
theorem dX6_findPlace_14 : decode cX6_findPlace 14 = .ok (.invokestatic 51, 3) := by decide +kernel
theorem dX6_findPlace_17 : decode cX6_findPlace 17 = .ok (.ifCond .ne 4, 3) := by decide +kernel
theorem dX6_findPlace_20 : decode cX6_findPlace 20 = .ok (.return_, 1) := by decide +kernel
theorem dX6_findPlace_21 : decode cX6_findPlace 21 = .ok (.iconst 0, 1) := by decide +kernel
theorem dX6_findPlace_22 : decode cX6_findPlace 22 = .ok (.istore_n 3, 1) := by decide +kernel
theorem dX6_findPlace_23 : decode cX6_findPlace 23 = .ok (.iload_n 3, 1) := by decide +kernel
theorem dX6_findPlace_24 : decode cX6_findPlace 24 = .ok (.iconst 3, 1) := by decide +kernel
theorem dX6_findPlace_25 : decode cX6_findPlace 25 = .ok (.if_icmp .ge 72, 3) := by decide +kernel
theorem dX6_findPlace_28 : decode cX6_findPlace 28 = .ok (.iconst 0, 1) := by decide +kernel
theorem dX6_findPlace_29 : decode cX6_findPlace 29 = .ok (.istore 4, 2) := by decide +kernel
theorem dX6_findPlace_31 : decode cX6_findPlace 31 = .ok (.iconst 0, 1) := by decide +kernel
theorem dX6_findPlace_32 : decode cX6_findPlace 32 = .ok (.istore 5, 2) := by decide +kernel
theorem dX6_findPlace_34 : decode cX6_findPlace 34 = .ok (.iload 5, 2) := by decide +kernel
theorem dX6_findPlace_36 : decode cX6_findPlace 36 = .ok (.bipush 100, 2) := by decide +kernel
theorem dX6_findPlace_38 : decode cX6_findPlace 38 = .ok (.if_icmp .ge 41, 3) := by decide +kernel
theorem dX6_findPlace_41 : decode cX6_findPlace 41 = .ok (.iload 4, 2) := by decide +kernel
theorem dX6_findPlace_43 : decode cX6_findPlace 43 = .ok (.aload_n 0, 1) := by decide +kernel
theorem dX6_findPlace_44 : decode cX6_findPlace 44 = .ok (.getfield 20, 3) := by decide +kernel
theorem dX6_findPlace_47 : decode cX6_findPlace 47 = .ok (.iload_n 1, 1) := by decide +kernel
theorem dX6_findPlace_48 : decode cX6_findPlace 48 = .ok (.iload 5, 2) := by decide +kernel
theorem dX6_findPlace_50 : decode cX6_findPlace 50 = .ok (.invokevirtual 54, 3) := by decide +kernel
theorem dX6_findPlace_53 : decode cX6_findPlace 53 = .ok (.ifCond .eq 16, 3) := by decide +kernel
theorem dX6_findPlace_56 : decode cX6_findPlace 56 = .ok (.aload_n 0, 1) := by decide +kernel
theorem dX6_findPlace_57 : decode cX6_findPlace 57 = .ok (.getfield 16, 3) := by decide +kernel
theorem dX6_findPlace_60 : decode cX6_findPlace 60 = .ok (.iload 5, 2) := by decide +kernel
theorem dX6_findPlace_62 : decode cX6_findPlace 62 = .ok (.iload_n 3, 1) := by decide +kernel
theorem dX6_findPlace_63 : decode cX6_findPlace 63 = .ok (.invokevirtual 24, 3) := by decide +kernel
theorem dX6_findPlace_66 : decode cX6_findPlace 66 = .ok (.goto 4, 3) := by decide +kernel
theorem dX6_findPlace_69 : decode cX6_findPlace 69 = .ok (.iconst 0, 1) := by decide +kernel
theorem dX6_findPlace_70 : decode cX6_findPlace 70 = .ok (.iadd, 1) := by decide +kernel
theorem dX6_findPlace_71 : decode cX6_findPlace 71 = .ok (.istore 4, 2) := by decide +kernel
theorem dX6_findPlace_73 : decode cX6_findPlace 73 = .ok (.iinc 5 1, 3) := by decide +kernel
theorem dX6_findPlace_76 : decode cX6_findPlace 76 = .ok (.goto (-42), 3) := by decide +kernel
theorem dX6_findPlace_79 : decode cX6_findPlace 79 = .ok (.aload_n 0, 1) := by decide +kernel
theorem dX6_findPlace_80 : decode cX6_findPlace 80 = .ok (.getfield 11, 3) := by decide +kernel
theorem dX6_findPlace_83 : decode cX6_findPlace 83 = .ok (.iload_n 3, 1) := by decide +kernel
theorem dX6_findPlace_84 : decode cX6_findPlace 84 = .ok (.aaload, 1) := by decide +kernel
theorem dX6_findPlace_85 : decode cX6_findPlace 85 = .ok (.iload_n 1, 1) := by decide +kernel
theorem dX6_findPlace_86 : decode cX6_findPlace 86 = .ok (.iload 4, 2) := by decide +kernel
theorem dX6_findPlace_88 : decode cX6_findPlace 88 = .ok (.iload_n 2, 1) := by decide +kernel
theorem dX6_findPlace_89 : decode cX6_findPlace 89 = .ok (.idiv, 1) := by decide +kernel
theorem dX6_findPlace_90 : decode cX6_findPlace 90 = .ok (.iastore, 1) := by decide +kernel
theorem dX6_findPlace_91 : decode cX6_findPlace 91 = .ok (.iinc 3 1, 3) := by decide +kernel
theorem dX6_findPlace_94 : decode cX6_findPlace 94 = .ok (.goto (-71), 3) := by decide +kernel
theorem dX6_findPlace_97 : decode cX6_findPlace 97 = .ok (.return_, 1) := by decide +kernel
set_option maxRecDepth 20000 in
theorem ggX6_settle_X3_has : GoodIn wsX6_settle wsX3_has := goodIn_r _ [7, 8, 9, 10, 11, 24, 25, 26, 27] (by decide +kernel) (by decide +kernel)
set_option maxRecDepth 20000 in
theorem gX6_settle_X3_has : GoodIn wsX6_settle (wsV RX6 57 RX3 yX3_has wsX3_has) := goodIn_app (goodIn_of _ (by decide +kernel)) ggX6_settle_X3_has
set_option maxRecDepth 20000 in
theorem ggX6_settle_X3_get : GoodIn wsX6_settle wsX3_get := goodIn_r _ [15, 16, 9, 10, 11, 24, 25, 26, 27] (by decide +kernel) (by decide +kernel)
set_option maxRecDepth 20000 in
theorem gX6_settle_X3_get : GoodIn wsX6_settle (wsV RX6 24 RX3 yX3_get wsX3_get) := goodIn_app (goodIn_of _ (by decide +kernel)) ggX6_settle_X3_get
set_option maxRecDepth 20000 in
theorem ggX6_settle_X3_put : GoodIn wsX6_settle wsX3_put := goodIn_r _ [20, 16, 9, 10, 11, 24, 25, 26, 27] (by decide +kernel) (by decide +kernel)
set_option maxRecDepth 20000 in
theorem gX6_settle_X3_put : GoodIn wsX6_settle (wsV RX6 60 RX3 yX3_put wsX3_put) := goodIn_app (goodIn_of _ (by decide +kernel)) ggX6_settle_X3_put
theorem dX6_settle_0 : decode cX6_settle 0 = .ok (.aload_n 0, 1) := by decide +kernel
theorem dX6_settle_1 : decode cX6_settle 1 = .ok (.getfield 16, 3) := by decide +kernel
theorem dX6_settle_4 : decode cX6_settle 4 = .ok (.iload_n 1, 1) := by decide +kernel
theorem dX6_settle_5 : decode cX6_settle 5 = .ok (.invokevirtual 57, 3) := by decide +kernel
theorem dX6_settle_8 : decode cX6_settle 8 = .ok (.ifCond .ne 5, 3) := by decide +kernel
theorem dX6_settle_11 : decode cX6_settle 11 = .ok (.iconst 0, 1) := by decide +kernel
theorem dX6_settle_12 : decode cX6_settle 12 = .ok (.ireturn, 1) := by decide +kernel
theorem dX6_settle_13 : decode cX6_settle 13 = .ok (.aload_n 0, 1) := by decide +kernel
theorem dX6_settle_14 : decode cX6_settle 14 = .ok (.getfield 11, 3) := by decide +kernel
theorem dX6_settle_17 : decode cX6_settle 17 = .ok (.iconst 0, 1) := by decide +kernel
theorem dX6_settle_18 : decode cX6_settle 18 = .ok (.aaload, 1) := by decide +kernel
theorem dX6_settle_19 : decode cX6_settle 19 = .ok (.iload_n 1, 1) := by decide +kernel
theorem dX6_settle_20 : decode cX6_settle 20 = .ok (.iaload, 1) := by decide +kernel
theorem dX6_settle_21 : decode cX6_settle 21 = .ok (.istore_n 2, 1) := by decide +kernel
theorem dX6_settle_22 : decode cX6_settle 22 = .ok (.aload_n 0, 1) := by decide +kernel
theorem dX6_settle_23 : decode cX6_settle 23 = .ok (.getfield 11, 3) := by decide +kernel
theorem dX6_settle_26 : decode cX6_settle 26 = .ok (.iconst 1, 1) := by decide +kernel
theorem dX6_settle_27 : decode cX6_settle 27 = .ok (.aaload, 1) := by decide +kernel
theorem dX6_settle_28 : decode cX6_settle 28 = .ok (.iload_n 1, 1) := by decide +kernel
theorem dX6_settle_29 : decode cX6_settle 29 = .ok (.iaload, 1) := by decide +kernel
theorem dX6_settle_30 : decode cX6_settle 30 = .ok (.istore_n 3, 1) := by decide +kernel
theorem dX6_settle_31 : decode cX6_settle 31 = .ok (.aload_n 0, 1) := by decide +kernel
theorem dX6_settle_32 : decode cX6_settle 32 = .ok (.getfield 11, 3) := by decide +kernel
theorem dX6_settle_35 : decode cX6_settle 35 = .ok (.iconst 2, 1) := by decide +kernel
theorem dX6_settle_36 : decode cX6_settle 36 = .ok (.aaload, 1) := by decide +kernel
theorem dX6_settle_37 : decode cX6_settle 37 = .ok (.iload_n 1, 1) := by decide +kernel
theorem dX6_settle_38 : decode cX6_settle 38 = .ok (.iaload, 1) := by decide +kernel
theorem dX6_settle_39 : decode cX6_settle 39 = .ok (.istore 4, 2) := by decide +kernel
theorem dX6_settle_41 : decode cX6_settle 41 = .ok (.iload_n 2, 1) := by decide +kernel
theorem dX6_settle_42 : decode cX6_settle 42 = .ok (.aload_n 0, 1) := by decide +kernel
theorem dX6_settle_43 : decode cX6_settle 43 = .ok (.getfield 16, 3) := by decide +kernel
theorem dX6_settle_46 : decode cX6_settle 46 = .ok (.iload_n 1, 1) := by decide +kernel
theorem dX6_settle_47 : decode cX6_settle 47 = .ok (.iconst 0, 1) := by decide +kernel
theorem dX6_settle_48 : decode cX6_settle 48 = .ok (.invokevirtual 24, 3) := by decide +kernel
theorem dX6_settle_51 : decode cX6_settle 51 = .ok (.if_icmp .ne 30, 3) := by decide +kernel
theorem dX6_settle_54 : decode cX6_settle 54 = .ok (.iload_n 3, 1) := by decide +kernel
theorem dX6_settle_55 : decode cX6_settle 55 = .ok (.aload_n 0, 1) := by decide +kernel
theorem dX6_settle_56 : decode cX6_settle 56 = .ok (.getfield 16, 3) := by decide +kernel
theorem dX6_settle_59 : decode cX6_settle 59 = .ok (.iload_n 1, 1) := by decide +kernel
theorem dX6_settle_60 : decode cX6_settle 60 = .ok (.iconst 1, 1) := by decide +kernel
theorem dX6_settle_61 : decode cX6_settle 61 = .ok (.invokevirtual 24, 3) := by decide +kernel
theorem dX6_settle_64 : decode cX6_settle 64 = .ok (.if_icmp .ne 17, 3) := by decide +kernel
theorem dX6_settle_67 : decode cX6_settle 67 = .ok (.iload 4, 2) := by decide +kernel
theorem dX6_settle_69 : decode cX6_settle 69 = .ok (.aload_n 0, 1) := by decide +kernel
theorem dX6_settle_70 : decode cX6_settle 70 = .ok (.getfield 16, 3) := by decide +kernel
theorem dX6_settle_73 : decode cX6_settle 73 = .ok (.iload_n 1, 1) := by decide +kernel
theorem dX6_settle_74 : decode cX6_settle 74 = .ok (.iconst 2, 1) := by decide +kernel
theorem dX6_settle_75 : decode cX6_settle 75 = .ok (.invokevirtual 24, 3) := by decide +kernel
theorem dX6_settle_78 : decode cX6_settle 78 = .ok (.if_icmp .eq 7, 3) := by decide +kernel
theorem dX6_settle_81 : decode cX6_settle 81 = .ok (.iconst 1, 1) := by decide +kernel
theorem dX6_settle_82 : decode cX6_settle 82 = .ok (.goto 4, 3) := by decide +kernel
theorem dX6_settle_85 : decode cX6_settle 85 = .ok (.iconst 0, 1) := by decide +kernel
theorem dX6_settle_86 : decode cX6_settle 86 = .ok (.istore 5, 2) := by decide +kernel
theorem dX6_settle_88 : decode cX6_settle 88 = .ok (.aload_n 0, 1) := by decide +kernel
theorem dX6_settle_89 : decode cX6_settle 89 = .ok (.getfield 16, 3) := by decide +kernel
theorem dX6_settle_92 : decode cX6_settle 92 = .ok (.iload_n 1, 1) := by decide +kernel
theorem dX6_settle_93 : decode cX6_settle 93 = .ok (.iload_n 2, 1) := by decide +kernel
theorem dX6_settle_94 : decode cX6_settle 94 = .ok (.iload_n 3, 1) := by decide +kernel
theorem dX6_settle_95 : decode cX6_settle 95 = .ok (.iload 4, 2) := by decide +kernel
theorem dX6_settle_97 : decode cX6_settle 97 = .ok (.invokevirtual 60, 3) := by decide +kernel
theorem dX6_settle_100 : decode cX6_settle 100 = .ok (.iload 5, 2) := by decide +kernel
theorem dX6_settle_102 : decode cX6_settle 102 = .ok (.ireturn, 1) := by decide +kernel
theorem dX7_init_0 : decode cX7_init 0 = .ok (.aload_n 0, 1) := by decide +kernel
theorem dX7_init_1 : decode cX7_init 1 = .ok (.invokespecial 3, 3) := by decide +kernel
theorem dX7_init_4 : decode cX7_init 4 = .ok (.aload_n 0, 1) := by decide +kernel
theorem dX7_init_5 : decode cX7_init 5 = .ok (.sipush 160, 3) := by decide +kernel
theorem dX7_init_8 : decode cX7_init 8 = .ok (.newarray .boolean, 2) := by decide +kernel
theorem dX7_init_10 : decode cX7_init 10 = .ok (.putfield 9, 3) := by decide +kernel
theorem dX7_init_13 : decode cX7_init 13 = .ok (.aload_n 0, 1) := by decide +kernel
theorem dX7_init_14 : decode cX7_init 14 = .ok (.sipush 160, 3) := by decide +kernel
theorem dX7_init_17 : decode cX7_init 17 = .ok (.newarray .int, 2) := by decide +kernel
theorem dX7_init_19 : decode cX7_init 19 = .ok (.putfield 15, 3) := by decide +kernel
theorem dX7_init_22 : decode cX7_init 22 = .ok (.aload_n 0, 1) := by decide +kernel
theorem dX7_init_23 : decode cX7_init 23 = .ok (.bipush 100, 2) := by decide +kernel
theorem dX7_init_25 : decode cX7_init 25 = .ok (.newarray .int, 2) := by decide +kernel
theorem dX7_init_27 : decode cX7_init 27 = .ok (.putfield 19, 3) := by decide +kernel
theorem dX7_init_30 : decode cX7_init 30 = .ok (.aload_n 0, 1) := by decide +kernel
theorem dX7_init_31 : decode cX7_init 31 = .ok (.aload_n 1, 1) := by decide +kernel
theorem dX7_init_32 : decode cX7_init 32 = .ok (.putfield 22, 3) := by decide +kernel
theorem dX7_init_35 : decode cX7_init 35 = .ok (.aload_n 0, 1) := by decide +kernel
theorem dX7_init_36 : decode cX7_init 36 = .ok (.aload_n 2, 1) := by decide +kernel
theorem dX7_init_37 : decode cX7_init 37 = .ok (.putfield 26, 3) := by decide +kernel
theorem dX7_init_40 : decode cX7_init 40 = .ok (.return_, 1) := by decide +kernel
set_option maxRecDepth 20000 in
theorem ggX7_facesAt_X1_owner : GoodIn wsX7_facesAt wsX1_owner := goodIn_r _ [6, 7, 14, 15, 16, 17, 18] (by decide +kernel) (by decide +kernel)
set_option maxRecDepth 20000 in
theorem gX7_facesAt_X1_owner : GoodIn wsX7_facesAt (wsV RX7 30 RX1 yX1_owner wsX1_owner) := goodIn_app (goodIn_of _ (by decide +kernel)) ggX7_facesAt_X1_owner
theorem dX7_facesAt_0 : decode cX7_facesAt 0 = .ok (.iconst 0, 1) := by decide +kernel
theorem dX7_facesAt_1 : decode cX7_facesAt 1 = .ok (.istore_n 2, 1) := by decide +kernel
theorem dX7_facesAt_2 : decode cX7_facesAt 2 = .ok (.iconst 0, 1) := by decide +kernel
theorem dX7_facesAt_3 : decode cX7_facesAt 3 = .ok (.istore_n 3, 1) := by decide +kernel
theorem dX7_facesAt_4 : decode cX7_facesAt 4 = .ok (.iload_n 3, 1) := by decide +kernel
theorem dX7_facesAt_5 : decode cX7_facesAt 5 = .ok (.bipush 100, 2) := by decide +kernel
theorem dX7_facesAt_7 : decode cX7_facesAt 7 = .ok (.if_icmp .ge 30, 3) := by decide +kernel
theorem dX7_facesAt_10 : decode cX7_facesAt 10 = .ok (.iload_n 2, 1) := by decide +kernel
theorem dX7_facesAt_11 : decode cX7_facesAt 11 = .ok (.aload_n 0, 1) := by decide +kernel
theorem dX7_facesAt_12 : decode cX7_facesAt 12 = .ok (.getfield 22, 3) := by decide +kernel
theorem dX7_facesAt_15 : decode cX7_facesAt 15 = .ok (.iload_n 1, 1) := by decide +kernel
theorem dX7_facesAt_16 : decode cX7_facesAt 16 = .ok (.iload_n 3, 1) := by decide +kernel
theorem dX7_facesAt_17 : decode cX7_facesAt 17 = .ok (.invokevirtual 30, 3) := by decide +kernel
theorem dX7_facesAt_20 : decode cX7_facesAt 20 = .ok (.iconst (-1), 1) := by decide +kernel
theorem dX7_facesAt_21 : decode cX7_facesAt 21 = .ok (.if_icmp .eq 7, 3) := by decide +kernel
theorem dX7_facesAt_24 : decode cX7_facesAt 24 = .ok (.iconst 1, 1) := by decide +kernel
theorem dX7_facesAt_25 : decode cX7_facesAt 25 = .ok (.goto 4, 3) := by decide +kernel
theorem dX7_facesAt_28 : decode cX7_facesAt 28 = .ok (.iconst 0, 1) := by decide +kernel
theorem dX7_facesAt_29 : decode cX7_facesAt 29 = .ok (.iadd, 1) := by decide +kernel
theorem dX7_facesAt_30 : decode cX7_facesAt 30 = .ok (.istore_n 2, 1) := by decide +kernel
theorem dX7_facesAt_31 : decode cX7_facesAt 31 = .ok (.iinc 3 1, 3) := by decide +kernel
theorem dX7_facesAt_34 : decode cX7_facesAt 34 = .ok (.goto (-30), 3) := by decide +kernel
theorem dX7_facesAt_37 : decode cX7_facesAt 37 = .ok (.iload_n 2, 1) := by decide +kernel
theorem dX7_facesAt_38 : decode cX7_facesAt 38 = .ok (.ireturn, 1) := by decide +kernel
set_option maxRecDepth 20000 in
theorem ggX7_openFrom_X1_isOpen : GoodIn wsX7_openFrom wsX1_isOpen := goodIn_r _ [6, 7, 8, 9, 5, 10, 11, 18, 19, 20, 21, 22] (by decide +kernel) (by decide +kernel)
set_option maxRecDepth 20000 in
theorem gX7_openFrom_X1_isOpen : GoodIn wsX7_openFrom (wsV RX7 36 RX1 yX1_isOpen wsX1_isOpen) := goodIn_app (goodIn_of _ (by decide +kernel)) ggX7_openFrom_X1_isOpen
theorem dX7_openFrom_0 : decode cX7_openFrom 0 = .ok (.iconst 0, 1) := by decide +kernel
theorem dX7_openFrom_1 : decode cX7_openFrom 1 = .ok (.istore_n 2, 1) := by decide +kernel
theorem dX7_openFrom_2 : decode cX7_openFrom 2 = .ok (.iconst 0, 1) := by decide +kernel
theorem dX7_openFrom_3 : decode cX7_openFrom 3 = .ok (.istore_n 3, 1) := by decide +kernel
theorem dX7_openFrom_4 : decode cX7_openFrom 4 = .ok (.iload_n 3, 1) := by decide +kernel
theorem dX7_openFrom_5 : decode cX7_openFrom 5 = .ok (.bipush 100, 2) := by decide +kernel
theorem dX7_openFrom_7 : decode cX7_openFrom 7 = .ok (.if_icmp .ge 29, 3) := by decide +kernel
theorem dX7_openFrom_10 : decode cX7_openFrom 10 = .ok (.iload_n 2, 1) := by decide +kernel
theorem dX7_openFrom_11 : decode cX7_openFrom 11 = .ok (.aload_n 0, 1) := by decide +kernel
theorem dX7_openFrom_12 : decode cX7_openFrom 12 = .ok (.getfield 22, 3) := by decide +kernel
theorem dX7_openFrom_15 : decode cX7_openFrom 15 = .ok (.iload_n 1, 1) := by decide +kernel
theorem dX7_openFrom_16 : decode cX7_openFrom 16 = .ok (.iload_n 3, 1) := by decide +kernel
theorem dX7_openFrom_17 : decode cX7_openFrom 17 = .ok (.invokevirtual 36, 3) := by decide +kernel
theorem dX7_openFrom_20 : decode cX7_openFrom 20 = .ok (.ifCond .eq 7, 3) := by decide +kernel
theorem dX7_openFrom_23 : decode cX7_openFrom 23 = .ok (.iconst 1, 1) := by decide +kernel
theorem dX7_openFrom_24 : decode cX7_openFrom 24 = .ok (.goto 4, 3) := by decide +kernel
theorem dX7_openFrom_27 : decode cX7_openFrom 27 = .ok (.iconst 0, 1) := by decide +kernel
theorem dX7_openFrom_28 : decode cX7_openFrom 28 = .ok (.iadd, 1) := by decide +kernel
theorem dX7_openFrom_29 : decode cX7_openFrom 29 = .ok (.istore_n 2, 1) := by decide +kernel
theorem dX7_openFrom_30 : decode cX7_openFrom 30 = .ok (.iinc 3 1, 3) := by decide +kernel
theorem dX7_openFrom_33 : decode cX7_openFrom 33 = .ok (.goto (-29), 3) := by decide +kernel
theorem dX7_openFrom_36 : decode cX7_openFrom 36 = .ok (.iload_n 2, 1) := by decide +kernel
theorem dX7_openFrom_37 : decode cX7_openFrom 37 = .ok (.ireturn, 1) := by decide +kernel
set_option maxRecDepth 20000 in
theorem ggX7_holeCount_X2_takeOff : GoodIn wsX7_holeCount wsX2_takeOff := goodIn_r _ [7, 8, 74, 75] (by decide +kernel) (by decide +kernel)
set_option maxRecDepth 20000 in
theorem gX7_holeCount_X2_takeOff : GoodIn wsX7_holeCount (wsV RX7 40 RX2 yX2_takeOff wsX2_takeOff) := goodIn_app (goodIn_of _ (by decide +kernel)) ggX7_holeCount_X2_takeOff
set_option maxRecDepth 20000 in
theorem ggX7_holeCount_X1_ever : GoodIn wsX7_holeCount wsX1_ever := goodIn_r _ [13, 14, 76, 77, 78, 79, 80] (by decide +kernel) (by decide +kernel)
set_option maxRecDepth 20000 in
theorem gX7_holeCount_X1_ever : GoodIn wsX7_holeCount (wsV RX7 45 RX1 yX1_ever wsX1_ever) := goodIn_app (goodIn_of _ (by decide +kernel)) ggX7_holeCount_X1_ever
set_option maxRecDepth 20000 in
theorem ggX7_holeCount_X1_ring : GoodIn wsX7_holeCount wsX1_ring := goodIn_r _ [18, 19, 20, 76, 77, 78, 79, 80] (by decide +kernel) (by decide +kernel)
set_option maxRecDepth 20000 in
theorem gX7_holeCount_X1_ring : GoodIn wsX7_holeCount (wsV RX7 49 RX1 yX1_ring wsX1_ring) := goodIn_app (goodIn_of _ (by decide +kernel)) ggX7_holeCount_X1_ring
set_option maxRecDepth 20000 in
theorem ggX7_holeCount_X5_length : GoodIn wsX7_holeCount wsX5_length := goodIn_r _ [25, 26, 81, 82] (by decide +kernel) (by decide +kernel)
set_option maxRecDepth 20000 in
theorem gX7_holeCount_X5_length : GoodIn wsX7_holeCount (wsV RX7 53 RX5 yX5_length wsX5_length) := goodIn_app (goodIn_of _ (by decide +kernel)) ggX7_holeCount_X5_length
set_option maxRecDepth 20000 in
theorem ggX7_holeCount_X5_get : GoodIn wsX7_holeCount wsX5_get := goodIn_r _ [30, 26, 31, 81, 82] (by decide +kernel) (by decide +kernel)
set_option maxRecDepth 20000 in
theorem gX7_holeCount_X5_get : GoodIn wsX7_holeCount (wsV RX7 58 RX5 yX5_get wsX5_get) := goodIn_app (goodIn_of _ (by decide +kernel)) ggX7_holeCount_X5_get
set_option maxRecDepth 20000 in
theorem ggX7_holeCount_X7_markHole : GoodIn wsX7_holeCount wsX7_markHole := goodIn_r _ [36, 2, 1, 37, 38, 39, 12, 40, 41, 42, 43, 44, 45, 46, 47, 48, 6, 49, 50, 8, 51, 52, 53, 54, 55, 56, 57, 58, 59, 60, 61, 62, 16, 17, 18, 19, 20, 63, 64, 65, 24, 66, 26, 31, 67, 28, 29, 30, 68, 69, 70, 71, 72, 73, 76, 77, 78, 79, 80, 74, 75, 81, 82] (by decide +kernel) (by decide +kernel)
set_option maxRecDepth 20000 in
theorem gX7_holeCount_X7_markHole : GoodIn wsX7_holeCount (wsV RX7 62 RX7 yX7_markHole wsX7_markHole) := goodIn_app (goodIn_of _ (by decide +kernel)) ggX7_holeCount_X7_markHole
theorem dX7_holeCount_0 : decode cX7_holeCount 0 = .ok (.aload_n 0, 1) := by decide +kernel
theorem dX7_holeCount_1 : decode cX7_holeCount 1 = .ok (.getfield 26, 3) := by decide +kernel
theorem dX7_holeCount_4 : decode cX7_holeCount 4 = .ok (.invokevirtual 40, 3) := by decide +kernel
theorem dX7_holeCount_7 : decode cX7_holeCount 7 = .ok (.iconst 0, 1) := by decide +kernel
theorem dX7_holeCount_8 : decode cX7_holeCount 8 = .ok (.istore_n 1, 1) := by decide +kernel
theorem dX7_holeCount_9 : decode cX7_holeCount 9 = .ok (.iconst 0, 1) := by decide +kernel
theorem dX7_holeCount_10 : decode cX7_holeCount 10 = .ok (.istore_n 2, 1) := by decide +kernel
theorem dX7_holeCount_11 : decode cX7_holeCount 11 = .ok (.iload_n 2, 1) := by decide +kernel
theorem dX7_holeCount_12 : decode cX7_holeCount 12 = .ok (.aload_n 0, 1) := by decide +kernel
theorem dX7_holeCount_13 : decode cX7_holeCount 13 = .ok (.getfield 22, 3) := by decide +kernel
theorem dX7_holeCount_16 : decode cX7_holeCount 16 = .ok (.invokevirtual 45, 3) := by decide +kernel
theorem dX7_holeCount_19 : decode cX7_holeCount 19 = .ok (.if_icmp .ge 65, 3) := by decide +kernel
theorem dX7_holeCount_22 : decode cX7_holeCount 22 = .ok (.aload_n 0, 1) := by decide +kernel
theorem dX7_holeCount_23 : decode cX7_holeCount 23 = .ok (.getfield 22, 3) := by decide +kernel
theorem dX7_holeCount_26 : decode cX7_holeCount 26 = .ok (.iload_n 2, 1) := by decide +kernel
theorem dX7_holeCount_27 : decode cX7_holeCount 27 = .ok (.invokevirtual 49, 3) := by decide +kernel
theorem dX7_holeCount_30 : decode cX7_holeCount 30 = .ok (.astore_n 3, 1) := by decide +kernel
theorem dX7_holeCount_31 : decode cX7_holeCount 31 = .ok (.iconst 0, 1) := by decide +kernel
theorem dX7_holeCount_32 : decode cX7_holeCount 32 = .ok (.istore 4, 2) := by decide +kernel
theorem dX7_holeCount_34 : decode cX7_holeCount 34 = .ok (.iload 4, 2) := by decide +kernel
theorem dX7_holeCount_36 : decode cX7_holeCount 36 = .ok (.aload_n 3, 1) := by decide +kernel
theorem dX7_holeCount_37 : decode cX7_holeCount 37 = .ok (.invokevirtual 53, 3) := by decide +kernel
theorem dX7_holeCount_40 : decode cX7_holeCount 40 = .ok (.if_icmp .ge 38, 3) := by decide +kernel
theorem dX7_holeCount_43 : decode cX7_holeCount 43 = .ok (.iload_n 1, 1) := by decide +kernel
theorem dX7_holeCount_44 : decode cX7_holeCount 44 = .ok (.aload_n 0, 1) := by decide +kernel
theorem dX7_holeCount_45 : decode cX7_holeCount 45 = .ok (.aload_n 3, 1) := by decide +kernel
theorem dX7_holeCount_46 : decode cX7_holeCount 46 = .ok (.iload 4, 2) := by decide +kernel
theorem dX7_holeCount_48 : decode cX7_holeCount 48 = .ok (.iconst 1, 1) := by decide +kernel
theorem dX7_holeCount_49 : decode cX7_holeCount 49 = .ok (.iadd, 1) := by decide +kernel
theorem dX7_holeCount_50 : decode cX7_holeCount 50 = .ok (.invokevirtual 58, 3) := by decide +kernel
theorem dX7_holeCount_53 : decode cX7_holeCount 53 = .ok (.aload_n 3, 1) := by decide +kernel
theorem dX7_holeCount_54 : decode cX7_holeCount 54 = .ok (.iload 4, 2) := by decide +kernel
theorem dX7_holeCount_56 : decode cX7_holeCount 56 = .ok (.invokevirtual 58, 3) := by decide +kernel
theorem dX7_holeCount_59 : decode cX7_holeCount 59 = .ok (.invokevirtual 62, 3) := by decide +kernel
theorem dX7_holeCount_62 : decode cX7_holeCount 62 = .ok (.ifCond .le 7, 3) := by decide +kernel
theorem dX7_holeCount_65 : decode cX7_holeCount 65 = .ok (.iconst 1, 1) := by decide +kernel
theorem dX7_holeCount_66 : decode cX7_holeCount 66 = .ok (.goto 4, 3) := by decide +kernel
theorem dX7_holeCount_69 : decode cX7_holeCount 69 = .ok (.iconst 0, 1) := by decide +kernel
theorem dX7_holeCount_70 : decode cX7_holeCount 70 = .ok (.iadd, 1) := by decide +kernel
theorem dX7_holeCount_71 : decode cX7_holeCount 71 = .ok (.istore_n 1, 1) := by decide +kernel
theorem dX7_holeCount_72 : decode cX7_holeCount 72 = .ok (.iinc 4 1, 3) := by decide +kernel
theorem dX7_holeCount_75 : decode cX7_holeCount 75 = .ok (.goto (-41), 3) := by decide +kernel
theorem dX7_holeCount_78 : decode cX7_holeCount 78 = .ok (.iinc 2 1, 3) := by decide +kernel
theorem dX7_holeCount_81 : decode cX7_holeCount 81 = .ok (.goto (-70), 3) := by decide +kernel
theorem dX7_holeCount_84 : decode cX7_holeCount 84 = .ok (.iload_n 1, 1) := by decide +kernel
theorem dX7_holeCount_85 : decode cX7_holeCount 85 = .ok (.ireturn, 1) := by decide +kernel
set_option maxRecDepth 20000 in
theorem ggX7_holeLength_X2_takeOff : GoodIn wsX7_holeLength wsX2_takeOff := goodIn_r _ [6, 7, 63, 64] (by decide +kernel) (by decide +kernel)
set_option maxRecDepth 20000 in
theorem gX7_holeLength_X2_takeOff : GoodIn wsX7_holeLength (wsV RX7 40 RX2 yX2_takeOff wsX2_takeOff) := goodIn_app (goodIn_of _ (by decide +kernel)) ggX7_holeLength_X2_takeOff
set_option maxRecDepth 20000 in
theorem ggX7_holeLength_X7_markHole : GoodIn wsX7_holeLength wsX7_markHole := goodIn_r _ [12, 13, 1, 14, 15, 16, 17, 18, 19, 20, 21, 22, 23, 24, 25, 26, 5, 27, 28, 7, 29, 30, 31, 32, 33, 34, 35, 36, 37, 38, 39, 40, 41, 42, 43, 44, 45, 46, 47, 48, 49, 50, 51, 52, 53, 54, 55, 56, 57, 58, 59, 60, 61, 62, 65, 66, 67, 68, 69, 63, 64, 70, 71] (by decide +kernel) (by decide +kernel)
set_option maxRecDepth 20000 in
theorem gX7_holeLength_X7_markHole : GoodIn wsX7_holeLength (wsV RX7 62 RX7 yX7_markHole wsX7_markHole) := goodIn_app (goodIn_of _ (by decide +kernel)) ggX7_holeLength_X7_markHole
theorem dX7_holeLength_0 : decode cX7_holeLength 0 = .ok (.aload_n 0, 1) := by decide +kernel
theorem dX7_holeLength_1 : decode cX7_holeLength 1 = .ok (.getfield 26, 3) := by decide +kernel
theorem dX7_holeLength_4 : decode cX7_holeLength 4 = .ok (.invokevirtual 40, 3) := by decide +kernel
theorem dX7_holeLength_7 : decode cX7_holeLength 7 = .ok (.aload_n 0, 1) := by decide +kernel
theorem dX7_holeLength_8 : decode cX7_holeLength 8 = .ok (.iload_n 1, 1) := by decide +kernel
theorem dX7_holeLength_9 : decode cX7_holeLength 9 = .ok (.iload_n 2, 1) := by decide +kernel
theorem dX7_holeLength_10 : decode cX7_holeLength 10 = .ok (.invokevirtual 62, 3) := by decide +kernel
theorem dX7_holeLength_13 : decode cX7_holeLength 13 = .ok (.ireturn, 1) := by decide +kernel
set_option maxRecDepth 20000 in
theorem ggX7_markHole_X1_isOpen : GoodIn wsX7_markHole wsX1_isOpen := goodIn_r _ [7, 8, 9, 10, 6, 11, 12, 54, 55, 56, 57, 58] (by decide +kernel) (by decide +kernel)
set_option maxRecDepth 20000 in
theorem gX7_markHole_X1_isOpen : GoodIn wsX7_markHole (wsV RX7 36 RX1 yX1_isOpen wsX1_isOpen) := goodIn_app (goodIn_of _ (by decide +kernel)) ggX7_markHole_X1_isOpen
set_option maxRecDepth 20000 in
theorem ggX7_markHole_X2_mark : GoodIn wsX7_markHole wsX2_mark := goodIn_r _ [17, 18, 19, 20, 21, 22, 59, 60] (by decide +kernel) (by decide +kernel)
set_option maxRecDepth 20000 in
theorem gX7_markHole_X2_mark : GoodIn wsX7_markHole (wsV RX7 65 RX2 yX2_mark wsX2_mark) := goodIn_app (goodIn_of _ (by decide +kernel)) ggX7_markHole_X2_mark
set_option maxRecDepth 20000 in
theorem ggX7_markHole_X1_nextOpen : GoodIn wsX7_markHole wsX1_nextOpen := goodIn_r _ [26, 8, 9, 10, 6, 11, 12, 27, 28, 29, 30, 31, 32, 33, 34, 35, 36, 37, 38, 39, 40, 41, 42, 43, 44, 45, 46, 47, 54, 55, 56, 57, 58, 61, 62] (by decide +kernel) (by decide +kernel)
set_option maxRecDepth 20000 in
theorem gX7_markHole_X1_nextOpen : GoodIn wsX7_markHole (wsV RX7 68 RX1 yX1_nextOpen wsX1_nextOpen) := goodIn_app (goodIn_of _ (by decide +kernel)) ggX7_markHole_X1_nextOpen
theorem dX7_markHole_0 : decode cX7_markHole 0 = .ok (.aload_n 0, 1) := by decide +kernel
theorem dX7_markHole_1 : decode cX7_markHole 1 = .ok (.getfield 22, 3) := by decide +kernel
theorem dX7_markHole_4 : decode cX7_markHole 4 = .ok (.iload_n 1, 1) := by decide +kernel
theorem dX7_markHole_5 : decode cX7_markHole 5 = .ok (.iload_n 2, 1) := by decide +kernel
theorem dX7_markHole_6 : decode cX7_markHole 6 = .ok (.invokevirtual 36, 3) := by decide +kernel
theorem dX7_markHole_9 : decode cX7_markHole 9 = .ok (.ifCond .ne 5, 3) := by decide +kernel
theorem dX7_markHole_12 : decode cX7_markHole 12 = .ok (.iconst 0, 1) := by decide +kernel
theorem dX7_markHole_13 : decode cX7_markHole 13 = .ok (.ireturn, 1) := by decide +kernel
theorem dX7_markHole_14 : decode cX7_markHole 14 = .ok (.iload_n 1, 1) := by decide +kernel
theorem dX7_markHole_15 : decode cX7_markHole 15 = .ok (.istore_n 3, 1) := by decide +kernel
theorem dX7_markHole_16 : decode cX7_markHole 16 = .ok (.iload_n 2, 1) := by decide +kernel
theorem dX7_markHole_17 : decode cX7_markHole 17 = .ok (.istore 4, 2) := by decide +kernel
theorem dX7_markHole_19 : decode cX7_markHole 19 = .ok (.iconst 0, 1) := by decide +kernel
theorem dX7_markHole_20 : decode cX7_markHole 20 = .ok (.istore 5, 2) := by decide +kernel
theorem dX7_markHole_22 : decode cX7_markHole 22 = .ok (.iload 5, 2) := by decide +kernel
theorem dX7_markHole_24 : decode cX7_markHole 24 = .ok (.sipush 1920, 3) := by decide +kernel
theorem dX7_markHole_27 : decode cX7_markHole 27 = .ok (.if_icmp .ge 41, 3) := by decide +kernel
theorem dX7_markHole_30 : decode cX7_markHole 30 = .ok (.aload_n 0, 1) := by decide +kernel
theorem dX7_markHole_31 : decode cX7_markHole 31 = .ok (.getfield 26, 3) := by decide +kernel
theorem dX7_markHole_34 : decode cX7_markHole 34 = .ok (.iload_n 3, 1) := by decide +kernel
theorem dX7_markHole_35 : decode cX7_markHole 35 = .ok (.iload 4, 2) := by decide +kernel
theorem dX7_markHole_37 : decode cX7_markHole 37 = .ok (.invokevirtual 65, 3) := by decide +kernel
theorem dX7_markHole_40 : decode cX7_markHole 40 = .ok (.ifCond .eq 28, 3) := by decide +kernel
theorem dX7_markHole_43 : decode cX7_markHole 43 = .ok (.aload_n 0, 1) := by decide +kernel
theorem dX7_markHole_44 : decode cX7_markHole 44 = .ok (.getfield 22, 3) := by decide +kernel
theorem dX7_markHole_47 : decode cX7_markHole 47 = .ok (.iload_n 3, 1) := by decide +kernel
theorem dX7_markHole_48 : decode cX7_markHole 48 = .ok (.iload 4, 2) := by decide +kernel
theorem dX7_markHole_50 : decode cX7_markHole 50 = .ok (.invokevirtual 68, 3) := by decide +kernel
theorem dX7_markHole_53 : decode cX7_markHole 53 = .ok (.istore 6, 2) := by decide +kernel
theorem dX7_markHole_55 : decode cX7_markHole 55 = .ok (.iload 4, 2) := by decide +kernel
theorem dX7_markHole_57 : decode cX7_markHole 57 = .ok (.istore_n 3, 1) := by decide +kernel
theorem dX7_markHole_58 : decode cX7_markHole 58 = .ok (.iload 6, 2) := by decide +kernel
theorem dX7_markHole_60 : decode cX7_markHole 60 = .ok (.istore 4, 2) := by decide +kernel
theorem dX7_markHole_62 : decode cX7_markHole 62 = .ok (.iinc 5 1, 3) := by decide +kernel
theorem dX7_markHole_65 : decode cX7_markHole 65 = .ok (.goto (-43), 3) := by decide +kernel
theorem dX7_markHole_68 : decode cX7_markHole 68 = .ok (.iload 5, 2) := by decide +kernel
theorem dX7_markHole_70 : decode cX7_markHole 70 = .ok (.ireturn, 1) := by decide +kernel
set_option maxRecDepth 20000 in
theorem ggX7_shellCount_X7_forgetFaces : GoodIn wsX7_shellCount wsX7_forgetFaces := goodIn_r _ [6, 7, 59, 60, 61, 62, 63, 64] (by decide +kernel) (by decide +kernel)
set_option maxRecDepth 20000 in
theorem gX7_shellCount_X7_forgetFaces : GoodIn wsX7_shellCount (wsV RX7 71 RX7 yX7_forgetFaces wsX7_forgetFaces) := goodIn_app (goodIn_of _ (by decide +kernel)) ggX7_shellCount_X7_forgetFaces
set_option maxRecDepth 20000 in
theorem ggX7_shellCount_X1_ever : GoodIn wsX7_shellCount wsX1_ever := goodIn_r _ [12, 13, 65, 66, 67, 68, 69] (by decide +kernel) (by decide +kernel)
set_option maxRecDepth 20000 in
theorem gX7_shellCount_X1_ever : GoodIn wsX7_shellCount (wsV RX7 45 RX1 yX1_ever wsX1_ever) := goodIn_app (goodIn_of _ (by decide +kernel)) ggX7_shellCount_X1_ever
set_option maxRecDepth 20000 in
theorem ggX7_shellCount_X1_has : GoodIn wsX7_shellCount wsX1_has := goodIn_r _ [17, 18, 19, 20, 11, 21, 22, 23, 24, 25, 26, 27, 28, 29, 65, 66, 67, 68, 69, 70, 71] (by decide +kernel) (by decide +kernel)
set_option maxRecDepth 20000 in
theorem gX7_shellCount_X1_has : GoodIn wsX7_shellCount (wsV RX7 74 RX1 yX1_has wsX1_has) := goodIn_app (goodIn_of _ (by decide +kernel)) ggX7_shellCount_X1_has
set_option maxRecDepth 20000 in
theorem ggX7_shellCount_X7_see : GoodIn wsX7_shellCount wsX7_see := goodIn_r _ [33, 7, 34, 35, 36, 59, 60, 61, 62, 63, 64] (by decide +kernel) (by decide +kernel)
set_option maxRecDepth 20000 in
theorem gX7_shellCount_X7_see : GoodIn wsX7_shellCount (wsV RX7 78 RX7 yX7_see wsX7_see) := goodIn_app (goodIn_of _ (by decide +kernel)) ggX7_shellCount_X7_see
set_option maxRecDepth 20000 in
theorem ggX7_shellCount_X7_seeShell : GoodIn wsX7_shellCount wsX7_seeShell := goodIn_r _ [40, 41, 1, 42, 43, 44, 45, 5, 46, 47, 19, 20, 11, 21, 22, 23, 48, 25, 26, 27, 28, 29, 49, 50, 51, 52, 53, 54, 55, 56, 57, 58, 30, 31, 32, 33, 7, 34, 35, 36, 59, 60, 61, 62, 63, 64, 65, 66, 67, 68, 69, 70, 71] (by decide +kernel) (by decide +kernel)
set_option maxRecDepth 20000 in
theorem gX7_shellCount_X7_seeShell : GoodIn wsX7_shellCount (wsV RX7 81 RX7 yX7_seeShell wsX7_seeShell) := goodIn_app (goodIn_of _ (by decide +kernel)) ggX7_shellCount_X7_seeShell
theorem dX7_shellCount_0 : decode cX7_shellCount 0 = .ok (.aload_n 0, 1) := by decide +kernel
theorem dX7_shellCount_1 : decode cX7_shellCount 1 = .ok (.invokevirtual 71, 3) := by decide +kernel
theorem dX7_shellCount_4 : decode cX7_shellCount 4 = .ok (.iconst 0, 1) := by decide +kernel
theorem dX7_shellCount_5 : decode cX7_shellCount 5 = .ok (.istore_n 1, 1) := by decide +kernel
theorem dX7_shellCount_6 : decode cX7_shellCount 6 = .ok (.iconst 0, 1) := by decide +kernel
theorem dX7_shellCount_7 : decode cX7_shellCount 7 = .ok (.istore_n 2, 1) := by decide +kernel
theorem dX7_shellCount_8 : decode cX7_shellCount 8 = .ok (.iload_n 2, 1) := by decide +kernel
theorem dX7_shellCount_9 : decode cX7_shellCount 9 = .ok (.aload_n 0, 1) := by decide +kernel
theorem dX7_shellCount_10 : decode cX7_shellCount 10 = .ok (.getfield 22, 3) := by decide +kernel
theorem dX7_shellCount_13 : decode cX7_shellCount 13 = .ok (.invokevirtual 45, 3) := by decide +kernel
theorem dX7_shellCount_16 : decode cX7_shellCount 16 = .ok (.if_icmp .ge 36, 3) := by decide +kernel
theorem dX7_shellCount_19 : decode cX7_shellCount 19 = .ok (.aload_n 0, 1) := by decide +kernel
theorem dX7_shellCount_20 : decode cX7_shellCount 20 = .ok (.getfield 22, 3) := by decide +kernel
theorem dX7_shellCount_23 : decode cX7_shellCount 23 = .ok (.iload_n 2, 1) := by decide +kernel
theorem dX7_shellCount_24 : decode cX7_shellCount 24 = .ok (.invokevirtual 74, 3) := by decide +kernel
theorem dX7_shellCount_27 : decode cX7_shellCount 27 = .ok (.ifCond .eq 19, 3) := by decide +kernel
theorem dX7_shellCount_30 : decode cX7_shellCount 30 = .ok (.aload_n 0, 1) := by decide +kernel
theorem dX7_shellCount_31 : decode cX7_shellCount 31 = .ok (.iload_n 2, 1) := by decide +kernel
theorem dX7_shellCount_32 : decode cX7_shellCount 32 = .ok (.invokevirtual 78, 3) := by decide +kernel
theorem dX7_shellCount_35 : decode cX7_shellCount 35 = .ok (.ifCond .eq 11, 3) := by decide +kernel
theorem dX7_shellCount_38 : decode cX7_shellCount 38 = .ok (.iinc 1 1, 3) := by decide +kernel
theorem dX7_shellCount_41 : decode cX7_shellCount 41 = .ok (.aload_n 0, 1) := by decide +kernel
theorem dX7_shellCount_42 : decode cX7_shellCount 42 = .ok (.iload_n 2, 1) := by decide +kernel
theorem dX7_shellCount_43 : decode cX7_shellCount 43 = .ok (.invokevirtual 81, 3) := by decide +kernel
theorem dX7_shellCount_46 : decode cX7_shellCount 46 = .ok (.iinc 2 1, 3) := by decide +kernel
theorem dX7_shellCount_49 : decode cX7_shellCount 49 = .ok (.goto (-41), 3) := by decide +kernel
theorem dX7_shellCount_52 : decode cX7_shellCount 52 = .ok (.iload_n 1, 1) := by decide +kernel
theorem dX7_shellCount_53 : decode cX7_shellCount 53 = .ok (.ireturn, 1) := by decide +kernel
set_option maxRecDepth 20000 in
theorem ggX7_seeShell_X7_enqueue : GoodIn wsX7_seeShell wsX7_enqueue := goodIn_r _ [8, 1, 3, 40, 41, 42, 43, 44, 45] (by decide +kernel) (by decide +kernel)
set_option maxRecDepth 20000 in
theorem gX7_seeShell_X7_enqueue : GoodIn wsX7_seeShell (wsV RX7 89 RX7 yX7_enqueue wsX7_enqueue) := goodIn_app (goodIn_of _ (by decide +kernel)) ggX7_seeShell_X7_enqueue
set_option maxRecDepth 20000 in
theorem ggX7_seeShell_X1_ring : GoodIn wsX7_seeShell wsX1_ring := goodIn_r _ [13, 14, 15, 46, 47, 48, 49, 50] (by decide +kernel) (by decide +kernel)
set_option maxRecDepth 20000 in
theorem gX7_seeShell_X1_ring : GoodIn wsX7_seeShell (wsV RX7 49 RX1 yX1_ring wsX1_ring) := goodIn_app (goodIn_of _ (by decide +kernel)) ggX7_seeShell_X1_ring
set_option maxRecDepth 20000 in
theorem ggX7_seeShell_X5_length : GoodIn wsX7_seeShell wsX5_length := goodIn_r _ [20, 21, 51, 52] (by decide +kernel) (by decide +kernel)
set_option maxRecDepth 20000 in
theorem gX7_seeShell_X5_length : GoodIn wsX7_seeShell (wsV RX7 53 RX5 yX5_length wsX5_length) := goodIn_app (goodIn_of _ (by decide +kernel)) ggX7_seeShell_X5_length
set_option maxRecDepth 20000 in
theorem ggX7_seeShell_X5_get : GoodIn wsX7_seeShell wsX5_get := goodIn_r _ [25, 21, 26, 51, 52] (by decide +kernel) (by decide +kernel)
set_option maxRecDepth 20000 in
theorem gX7_seeShell_X5_get : GoodIn wsX7_seeShell (wsV RX7 58 RX5 yX5_get wsX5_get) := goodIn_app (goodIn_of _ (by decide +kernel)) ggX7_seeShell_X5_get
set_option maxRecDepth 20000 in
theorem ggX7_seeShell_X1_owner : GoodIn wsX7_seeShell wsX1_owner := goodIn_r _ [30, 31, 46, 47, 48, 49, 50] (by decide +kernel) (by decide +kernel)
set_option maxRecDepth 20000 in
theorem gX7_seeShell_X1_owner : GoodIn wsX7_seeShell (wsV RX7 30 RX1 yX1_owner wsX1_owner) := goodIn_app (goodIn_of _ (by decide +kernel)) ggX7_seeShell_X1_owner
set_option maxRecDepth 20000 in
theorem ggX7_seeShell_X7_see : GoodIn wsX7_seeShell wsX7_see := goodIn_r _ [35, 36, 37, 38, 39, 40, 41, 42, 43, 44, 45] (by decide +kernel) (by decide +kernel)
set_option maxRecDepth 20000 in
theorem gX7_seeShell_X7_see : GoodIn wsX7_seeShell (wsV RX7 78 RX7 yX7_see wsX7_see) := goodIn_app (goodIn_of _ (by decide +kernel)) ggX7_seeShell_X7_see
theorem dX7_seeShell_0 : decode cX7_seeShell 0 = .ok (.aload_n 0, 1) := by decide +kernel
theorem dX7_seeShell_1 : decode cX7_seeShell 1 = .ok (.iconst 0, 1) := by decide +kernel
theorem dX7_seeShell_2 : decode cX7_seeShell 2 = .ok (.putfield 85, 3) := by decide +kernel
theorem dX7_seeShell_5 : decode cX7_seeShell 5 = .ok (.aload_n 0, 1) := by decide +kernel
theorem dX7_seeShell_6 : decode cX7_seeShell 6 = .ok (.iload_n 1, 1) := by decide +kernel
theorem dX7_seeShell_7 : decode cX7_seeShell 7 = .ok (.invokevirtual 89, 3) := by decide +kernel
theorem dX7_seeShell_10 : decode cX7_seeShell 10 = .ok (.iconst 0, 1) := by decide +kernel
theorem dX7_seeShell_11 : decode cX7_seeShell 11 = .ok (.istore_n 2, 1) := by decide +kernel
theorem dX7_seeShell_12 : decode cX7_seeShell 12 = .ok (.iload_n 2, 1) := by decide +kernel
theorem dX7_seeShell_13 : decode cX7_seeShell 13 = .ok (.aload_n 0, 1) := by decide +kernel
theorem dX7_seeShell_14 : decode cX7_seeShell 14 = .ok (.getfield 85, 3) := by decide +kernel
theorem dX7_seeShell_17 : decode cX7_seeShell 17 = .ok (.if_icmp .ge 86, 3) := by decide +kernel
theorem dX7_seeShell_20 : decode cX7_seeShell 20 = .ok (.iload_n 2, 1) := by decide +kernel
theorem dX7_seeShell_21 : decode cX7_seeShell 21 = .ok (.sipush 160, 3) := by decide +kernel
theorem dX7_seeShell_24 : decode cX7_seeShell 24 = .ok (.if_icmp .ge 79, 3) := by decide +kernel
theorem dX7_seeShell_27 : decode cX7_seeShell 27 = .ok (.aload_n 0, 1) := by decide +kernel
theorem dX7_seeShell_28 : decode cX7_seeShell 28 = .ok (.getfield 22, 3) := by decide +kernel
theorem dX7_seeShell_31 : decode cX7_seeShell 31 = .ok (.aload_n 0, 1) := by decide +kernel
theorem dX7_seeShell_32 : decode cX7_seeShell 32 = .ok (.getfield 15, 3) := by decide +kernel
theorem dX7_seeShell_35 : decode cX7_seeShell 35 = .ok (.iload_n 2, 1) := by decide +kernel
theorem dX7_seeShell_36 : decode cX7_seeShell 36 = .ok (.iaload, 1) := by decide +kernel
theorem dX7_seeShell_37 : decode cX7_seeShell 37 = .ok (.invokevirtual 49, 3) := by decide +kernel
theorem dX7_seeShell_40 : decode cX7_seeShell 40 = .ok (.astore_n 3, 1) := by decide +kernel
theorem dX7_seeShell_41 : decode cX7_seeShell 41 = .ok (.iconst 0, 1) := by decide +kernel
theorem dX7_seeShell_42 : decode cX7_seeShell 42 = .ok (.istore 4, 2) := by decide +kernel
theorem dX7_seeShell_44 : decode cX7_seeShell 44 = .ok (.iload 4, 2) := by decide +kernel
theorem dX7_seeShell_46 : decode cX7_seeShell 46 = .ok (.aload_n 3, 1) := by decide +kernel
theorem dX7_seeShell_47 : decode cX7_seeShell 47 = .ok (.invokevirtual 53, 3) := by decide +kernel
theorem dX7_seeShell_50 : decode cX7_seeShell 50 = .ok (.if_icmp .ge 47, 3) := by decide +kernel
theorem dX7_seeShell_53 : decode cX7_seeShell 53 = .ok (.aload_n 0, 1) := by decide +kernel
theorem dX7_seeShell_54 : decode cX7_seeShell 54 = .ok (.getfield 22, 3) := by decide +kernel
theorem dX7_seeShell_57 : decode cX7_seeShell 57 = .ok (.aload_n 3, 1) := by decide +kernel
theorem dX7_seeShell_58 : decode cX7_seeShell 58 = .ok (.iload 4, 2) := by decide +kernel
theorem dX7_seeShell_60 : decode cX7_seeShell 60 = .ok (.iconst 1, 1) := by decide +kernel
theorem dX7_seeShell_61 : decode cX7_seeShell 61 = .ok (.iadd, 1) := by decide +kernel
theorem dX7_seeShell_62 : decode cX7_seeShell 62 = .ok (.invokevirtual 58, 3) := by decide +kernel
theorem dX7_seeShell_65 : decode cX7_seeShell 65 = .ok (.aload_n 3, 1) := by decide +kernel
theorem dX7_seeShell_66 : decode cX7_seeShell 66 = .ok (.iload 4, 2) := by decide +kernel
theorem dX7_seeShell_68 : decode cX7_seeShell 68 = .ok (.invokevirtual 58, 3) := by decide +kernel
theorem dX7_seeShell_71 : decode cX7_seeShell 71 = .ok (.invokevirtual 30, 3) := by decide +kernel
theorem dX7_seeShell_74 : decode cX7_seeShell 74 = .ok (.istore 5, 2) := by decide +kernel
theorem dX7_seeShell_76 : decode cX7_seeShell 76 = .ok (.aload_n 0, 1) := by decide +kernel
theorem dX7_seeShell_77 : decode cX7_seeShell 77 = .ok (.iload 5, 2) := by decide +kernel
theorem dX7_seeShell_79 : decode cX7_seeShell 79 = .ok (.invokevirtual 78, 3) := by decide +kernel
theorem dX7_seeShell_82 : decode cX7_seeShell 82 = .ok (.ifCond .eq 9, 3) := by decide +kernel
theorem dX7_seeShell_85 : decode cX7_seeShell 85 = .ok (.aload_n 0, 1) := by decide +kernel
theorem dX7_seeShell_86 : decode cX7_seeShell 86 = .ok (.iload 5, 2) := by decide +kernel
theorem dX7_seeShell_88 : decode cX7_seeShell 88 = .ok (.invokevirtual 89, 3) := by decide +kernel
theorem dX7_seeShell_91 : decode cX7_seeShell 91 = .ok (.iinc 4 1, 3) := by decide +kernel
theorem dX7_seeShell_94 : decode cX7_seeShell 94 = .ok (.goto (-50), 3) := by decide +kernel
theorem dX7_seeShell_97 : decode cX7_seeShell 97 = .ok (.iinc 2 1, 3) := by decide +kernel
theorem dX7_seeShell_100 : decode cX7_seeShell 100 = .ok (.goto (-88), 3) := by decide +kernel
theorem dX7_seeShell_103 : decode cX7_seeShell 103 = .ok (.return_, 1) := by decide +kernel
set_option maxRecDepth 20000 in
theorem ggX7_fanCount_X7_forgetFaces : GoodIn wsX7_fanCount wsX7_forgetFaces := goodIn_r _ [6, 7, 50, 51, 52, 53, 54, 55] (by decide +kernel) (by decide +kernel)
set_option maxRecDepth 20000 in
theorem gX7_fanCount_X7_forgetFaces : GoodIn wsX7_fanCount (wsV RX7 71 RX7 yX7_forgetFaces wsX7_forgetFaces) := goodIn_app (goodIn_of _ (by decide +kernel)) ggX7_fanCount_X7_forgetFaces
set_option maxRecDepth 20000 in
theorem ggX7_fanCount_X1_owner : GoodIn wsX7_fanCount wsX1_owner := goodIn_r _ [12, 13, 56, 57, 58, 59, 60] (by decide +kernel) (by decide +kernel)
set_option maxRecDepth 20000 in
theorem gX7_fanCount_X1_owner : GoodIn wsX7_fanCount (wsV RX7 30 RX1 yX1_owner wsX1_owner) := goodIn_app (goodIn_of _ (by decide +kernel)) ggX7_fanCount_X1_owner
set_option maxRecDepth 20000 in
theorem ggX7_fanCount_X7_see : GoodIn wsX7_fanCount wsX7_see := goodIn_r _ [17, 7, 18, 19, 20, 50, 51, 52, 53, 54, 55] (by decide +kernel) (by decide +kernel)
set_option maxRecDepth 20000 in
theorem gX7_fanCount_X7_see : GoodIn wsX7_fanCount (wsV RX7 78 RX7 yX7_see wsX7_see) := goodIn_app (goodIn_of _ (by decide +kernel)) ggX7_fanCount_X7_see
set_option maxRecDepth 20000 in
theorem ggX7_fanCount_X7_seeFan : GoodIn wsX7_fanCount wsX7_seeFan := goodIn_r _ [24, 1, 25, 26, 27, 11, 28, 29, 30, 31, 32, 33, 34, 35, 36, 37, 38, 39, 40, 41, 42, 43, 44, 45, 8, 9, 10, 12, 13, 14, 15, 16, 5, 17, 7, 18, 19, 20, 46, 47, 48, 49, 50, 51, 52, 53, 54, 55, 56, 57, 58, 59, 60, 61, 62] (by decide +kernel) (by decide +kernel)
set_option maxRecDepth 20000 in
theorem gX7_fanCount_X7_seeFan : GoodIn wsX7_fanCount (wsV RX7 92 RX7 yX7_seeFan wsX7_seeFan) := goodIn_app (goodIn_of _ (by decide +kernel)) ggX7_fanCount_X7_seeFan
theorem dX7_fanCount_0 : decode cX7_fanCount 0 = .ok (.aload_n 0, 1) := by decide +kernel
theorem dX7_fanCount_1 : decode cX7_fanCount 1 = .ok (.invokevirtual 71, 3) := by decide +kernel
theorem dX7_fanCount_4 : decode cX7_fanCount 4 = .ok (.iconst 0, 1) := by decide +kernel
theorem dX7_fanCount_5 : decode cX7_fanCount 5 = .ok (.istore_n 2, 1) := by decide +kernel
theorem dX7_fanCount_6 : decode cX7_fanCount 6 = .ok (.iconst 0, 1) := by decide +kernel
theorem dX7_fanCount_7 : decode cX7_fanCount 7 = .ok (.istore_n 3, 1) := by decide +kernel
theorem dX7_fanCount_8 : decode cX7_fanCount 8 = .ok (.iload_n 3, 1) := by decide +kernel
theorem dX7_fanCount_9 : decode cX7_fanCount 9 = .ok (.bipush 100, 2) := by decide +kernel
theorem dX7_fanCount_11 : decode cX7_fanCount 11 = .ok (.if_icmp .ge 39, 3) := by decide +kernel
theorem dX7_fanCount_14 : decode cX7_fanCount 14 = .ok (.aload_n 0, 1) := by decide +kernel
theorem dX7_fanCount_15 : decode cX7_fanCount 15 = .ok (.getfield 22, 3) := by decide +kernel
theorem dX7_fanCount_18 : decode cX7_fanCount 18 = .ok (.iload_n 1, 1) := by decide +kernel
theorem dX7_fanCount_19 : decode cX7_fanCount 19 = .ok (.iload_n 3, 1) := by decide +kernel
theorem dX7_fanCount_20 : decode cX7_fanCount 20 = .ok (.invokevirtual 30, 3) := by decide +kernel
theorem dX7_fanCount_23 : decode cX7_fanCount 23 = .ok (.istore 4, 2) := by decide +kernel
theorem dX7_fanCount_25 : decode cX7_fanCount 25 = .ok (.aload_n 0, 1) := by decide +kernel
theorem dX7_fanCount_26 : decode cX7_fanCount 26 = .ok (.iload 4, 2) := by decide +kernel
theorem dX7_fanCount_28 : decode cX7_fanCount 28 = .ok (.invokevirtual 78, 3) := by decide +kernel
theorem dX7_fanCount_31 : decode cX7_fanCount 31 = .ok (.ifCond .eq 13, 3) := by decide +kernel
theorem dX7_fanCount_34 : decode cX7_fanCount 34 = .ok (.iinc 2 1, 3) := by decide +kernel
theorem dX7_fanCount_37 : decode cX7_fanCount 37 = .ok (.aload_n 0, 1) := by decide +kernel
theorem dX7_fanCount_38 : decode cX7_fanCount 38 = .ok (.iload_n 1, 1) := by decide +kernel
theorem dX7_fanCount_39 : decode cX7_fanCount 39 = .ok (.iload 4, 2) := by decide +kernel
theorem dX7_fanCount_41 : decode cX7_fanCount 41 = .ok (.invokevirtual 92, 3) := by decide +kernel
theorem dX7_fanCount_44 : decode cX7_fanCount 44 = .ok (.iinc 3 1, 3) := by decide +kernel
theorem dX7_fanCount_47 : decode cX7_fanCount 47 = .ok (.goto (-39), 3) := by decide +kernel
theorem dX7_fanCount_50 : decode cX7_fanCount 50 = .ok (.iload_n 2, 1) := by decide +kernel
theorem dX7_fanCount_51 : decode cX7_fanCount 51 = .ok (.ireturn, 1) := by decide +kernel
set_option maxRecDepth 20000 in
theorem ggX7_seeFan_X1_after : GoodIn wsX7_seeFan wsX1_after := goodIn_r _ [6, 7, 8, 9, 5, 10, 11, 12, 13, 14, 15, 16, 17, 18, 19, 20, 21, 22, 23, 48, 49, 50, 51, 52, 53, 54] (by decide +kernel) (by decide +kernel)
set_option maxRecDepth 20000 in
theorem gX7_seeFan_X1_after : GoodIn wsX7_seeFan (wsV RX7 96 RX1 yX1_after wsX1_after) := goodIn_app (goodIn_of _ (by decide +kernel)) ggX7_seeFan_X1_after
set_option maxRecDepth 20000 in
theorem ggX7_seeFan_X1_owner : GoodIn wsX7_seeFan wsX1_owner := goodIn_r _ [27, 28, 48, 49, 50, 51, 52] (by decide +kernel) (by decide +kernel)
set_option maxRecDepth 20000 in
theorem gX7_seeFan_X1_owner : GoodIn wsX7_seeFan (wsV RX7 30 RX1 yX1_owner wsX1_owner) := goodIn_app (goodIn_of _ (by decide +kernel)) ggX7_seeFan_X1_owner
set_option maxRecDepth 20000 in
theorem ggX7_seeFan_X7_see : GoodIn wsX7_seeFan wsX7_see := goodIn_r _ [33, 34, 35, 36, 37, 42, 43, 44, 45, 46, 47] (by decide +kernel) (by decide +kernel)
set_option maxRecDepth 20000 in
theorem gX7_seeFan_X7_see : GoodIn wsX7_seeFan (wsV RX7 78 RX7 yX7_see wsX7_see) := goodIn_app (goodIn_of _ (by decide +kernel)) ggX7_seeFan_X7_see
set_option maxRecDepth 20000 in
theorem ggX7_seeFan_X1_before : GoodIn wsX7_seeFan wsX1_before := goodIn_r _ [41, 7, 8, 9, 5, 10, 11, 12, 13, 14, 15, 16, 17, 18, 19, 20, 21, 22, 23, 48, 49, 50, 51, 52, 53, 54] (by decide +kernel) (by decide +kernel)
set_option maxRecDepth 20000 in
theorem gX7_seeFan_X1_before : GoodIn wsX7_seeFan (wsV RX7 99 RX1 yX1_before wsX1_before) := goodIn_app (goodIn_of _ (by decide +kernel)) ggX7_seeFan_X1_before
theorem dX7_seeFan_0 : decode cX7_seeFan 0 = .ok (.aload_n 0, 1) := by decide +kernel
theorem dX7_seeFan_1 : decode cX7_seeFan 1 = .ok (.getfield 22, 3) := by decide +kernel
theorem dX7_seeFan_4 : decode cX7_seeFan 4 = .ok (.aload_n 0, 1) := by decide +kernel
theorem dX7_seeFan_5 : decode cX7_seeFan 5 = .ok (.getfield 22, 3) := by decide +kernel
theorem dX7_seeFan_8 : decode cX7_seeFan 8 = .ok (.iload_n 2, 1) := by decide +kernel
theorem dX7_seeFan_9 : decode cX7_seeFan 9 = .ok (.iload_n 1, 1) := by decide +kernel
theorem dX7_seeFan_10 : decode cX7_seeFan 10 = .ok (.invokevirtual 96, 3) := by decide +kernel
theorem dX7_seeFan_13 : decode cX7_seeFan 13 = .ok (.iload_n 1, 1) := by decide +kernel
theorem dX7_seeFan_14 : decode cX7_seeFan 14 = .ok (.invokevirtual 30, 3) := by decide +kernel
theorem dX7_seeFan_17 : decode cX7_seeFan 17 = .ok (.istore_n 3, 1) := by decide +kernel
theorem dX7_seeFan_18 : decode cX7_seeFan 18 = .ok (.iconst 0, 1) := by decide +kernel
theorem dX7_seeFan_19 : decode cX7_seeFan 19 = .ok (.istore 4, 2) := by decide +kernel
theorem dX7_seeFan_21 : decode cX7_seeFan 21 = .ok (.iload 4, 2) := by decide +kernel
theorem dX7_seeFan_23 : decode cX7_seeFan 23 = .ok (.sipush 160, 3) := by decide +kernel
theorem dX7_seeFan_26 : decode cX7_seeFan 26 = .ok (.if_icmp .ge 35, 3) := by decide +kernel
theorem dX7_seeFan_29 : decode cX7_seeFan 29 = .ok (.aload_n 0, 1) := by decide +kernel
theorem dX7_seeFan_30 : decode cX7_seeFan 30 = .ok (.iload_n 3, 1) := by decide +kernel
theorem dX7_seeFan_31 : decode cX7_seeFan 31 = .ok (.invokevirtual 78, 3) := by decide +kernel
theorem dX7_seeFan_34 : decode cX7_seeFan 34 = .ok (.ifCond .eq 27, 3) := by decide +kernel
theorem dX7_seeFan_37 : decode cX7_seeFan 37 = .ok (.aload_n 0, 1) := by decide +kernel
theorem dX7_seeFan_38 : decode cX7_seeFan 38 = .ok (.getfield 22, 3) := by decide +kernel
theorem dX7_seeFan_41 : decode cX7_seeFan 41 = .ok (.aload_n 0, 1) := by decide +kernel
theorem dX7_seeFan_42 : decode cX7_seeFan 42 = .ok (.getfield 22, 3) := by decide +kernel
theorem dX7_seeFan_45 : decode cX7_seeFan 45 = .ok (.iload_n 3, 1) := by decide +kernel
theorem dX7_seeFan_46 : decode cX7_seeFan 46 = .ok (.iload_n 1, 1) := by decide +kernel
theorem dX7_seeFan_47 : decode cX7_seeFan 47 = .ok (.invokevirtual 96, 3) := by decide +kernel
theorem dX7_seeFan_50 : decode cX7_seeFan 50 = .ok (.iload_n 1, 1) := by decide +kernel
theorem dX7_seeFan_51 : decode cX7_seeFan 51 = .ok (.invokevirtual 30, 3) := by decide +kernel
theorem dX7_seeFan_54 : decode cX7_seeFan 54 = .ok (.istore_n 3, 1) := by decide +kernel
theorem dX7_seeFan_55 : decode cX7_seeFan 55 = .ok (.iinc 4 1, 3) := by decide +kernel
theorem dX7_seeFan_58 : decode cX7_seeFan 58 = .ok (.goto (-37), 3) := by decide +kernel
theorem dX7_seeFan_61 : decode cX7_seeFan 61 = .ok (.aload_n 0, 1) := by decide +kernel
theorem dX7_seeFan_62 : decode cX7_seeFan 62 = .ok (.getfield 22, 3) := by decide +kernel
theorem dX7_seeFan_65 : decode cX7_seeFan 65 = .ok (.iload_n 1, 1) := by decide +kernel
theorem dX7_seeFan_66 : decode cX7_seeFan 66 = .ok (.aload_n 0, 1) := by decide +kernel
theorem dX7_seeFan_67 : decode cX7_seeFan 67 = .ok (.getfield 22, 3) := by decide +kernel
theorem dX7_seeFan_70 : decode cX7_seeFan 70 = .ok (.iload_n 2, 1) := by decide +kernel
theorem dX7_seeFan_71 : decode cX7_seeFan 71 = .ok (.iload_n 1, 1) := by decide +kernel
theorem dX7_seeFan_72 : decode cX7_seeFan 72 = .ok (.invokevirtual 99, 3) := by decide +kernel
theorem dX7_seeFan_75 : decode cX7_seeFan 75 = .ok (.invokevirtual 30, 3) := by decide +kernel
theorem dX7_seeFan_78 : decode cX7_seeFan 78 = .ok (.istore_n 3, 1) := by decide +kernel
theorem dX7_seeFan_79 : decode cX7_seeFan 79 = .ok (.iconst 0, 1) := by decide +kernel
theorem dX7_seeFan_80 : decode cX7_seeFan 80 = .ok (.istore 4, 2) := by decide +kernel
theorem dX7_seeFan_82 : decode cX7_seeFan 82 = .ok (.iload 4, 2) := by decide +kernel
theorem dX7_seeFan_84 : decode cX7_seeFan 84 = .ok (.sipush 160, 3) := by decide +kernel
theorem dX7_seeFan_87 : decode cX7_seeFan 87 = .ok (.if_icmp .ge 35, 3) := by decide +kernel
theorem dX7_seeFan_90 : decode cX7_seeFan 90 = .ok (.aload_n 0, 1) := by decide +kernel
theorem dX7_seeFan_91 : decode cX7_seeFan 91 = .ok (.iload_n 3, 1) := by decide +kernel
theorem dX7_seeFan_92 : decode cX7_seeFan 92 = .ok (.invokevirtual 78, 3) := by decide +kernel
theorem dX7_seeFan_95 : decode cX7_seeFan 95 = .ok (.ifCond .eq 27, 3) := by decide +kernel
theorem dX7_seeFan_98 : decode cX7_seeFan 98 = .ok (.aload_n 0, 1) := by decide +kernel
theorem dX7_seeFan_99 : decode cX7_seeFan 99 = .ok (.getfield 22, 3) := by decide +kernel
theorem dX7_seeFan_102 : decode cX7_seeFan 102 = .ok (.iload_n 1, 1) := by decide +kernel
theorem dX7_seeFan_103 : decode cX7_seeFan 103 = .ok (.aload_n 0, 1) := by decide +kernel
theorem dX7_seeFan_104 : decode cX7_seeFan 104 = .ok (.getfield 22, 3) := by decide +kernel
theorem dX7_seeFan_107 : decode cX7_seeFan 107 = .ok (.iload_n 3, 1) := by decide +kernel
theorem dX7_seeFan_108 : decode cX7_seeFan 108 = .ok (.iload_n 1, 1) := by decide +kernel
theorem dX7_seeFan_109 : decode cX7_seeFan 109 = .ok (.invokevirtual 99, 3) := by decide +kernel
theorem dX7_seeFan_112 : decode cX7_seeFan 112 = .ok (.invokevirtual 30, 3) := by decide +kernel
theorem dX7_seeFan_115 : decode cX7_seeFan 115 = .ok (.istore_n 3, 1) := by decide +kernel
theorem dX7_seeFan_116 : decode cX7_seeFan 116 = .ok (.iinc 4 1, 3) := by decide +kernel
theorem dX7_seeFan_119 : decode cX7_seeFan 119 = .ok (.goto (-37), 3) := by decide +kernel
theorem dX7_seeFan_122 : decode cX7_seeFan 122 = .ok (.return_, 1) := by decide +kernel
set_option maxRecDepth 20000 in
theorem ggX7_wayLength_X7_reach : GoodIn wsX7_wayLength wsX7_reach := goodIn_r _ [9, 1, 10, 11, 12, 13, 14, 15, 8, 16, 2, 3, 31, 32, 33, 34, 35, 36] (by decide +kernel) (by decide +kernel)
set_option maxRecDepth 20000 in
theorem gX7_wayLength_X7_reach : GoodIn wsX7_wayLength (wsV RX7 102 RX7 yX7_reach wsX7_reach) := goodIn_app (goodIn_of _ (by decide +kernel)) ggX7_wayLength_X7_reach
set_option maxRecDepth 20000 in
theorem ggX7_wayLength_X7_distanceOf : GoodIn wsX7_wayLength wsX7_distanceOf := goodIn_r _ [20, 1, 10, 11, 12, 31, 32, 33, 34, 35, 36] (by decide +kernel) (by decide +kernel)
set_option maxRecDepth 20000 in
theorem gX7_wayLength_X7_distanceOf : GoodIn wsX7_wayLength (wsV RX7 105 RX7 yX7_distanceOf wsX7_distanceOf) := goodIn_app (goodIn_of _ (by decide +kernel)) ggX7_wayLength_X7_distanceOf
set_option maxRecDepth 20000 in
theorem ggX7_wayLength_X1_isEdge : GoodIn wsX7_wayLength wsX1_isEdge := goodIn_r _ [25, 26, 27, 28, 24, 29, 30, 37, 38, 39, 40, 41] (by decide +kernel) (by decide +kernel)
set_option maxRecDepth 20000 in
theorem gX7_wayLength_X1_isEdge : GoodIn wsX7_wayLength (wsV RX7 108 RX1 yX1_isEdge wsX1_isEdge) := goodIn_app (goodIn_of _ (by decide +kernel)) ggX7_wayLength_X1_isEdge
theorem dX7_wayLength_0 : decode cX7_wayLength 0 = .ok (.iconst 0, 1) := by decide +kernel
theorem dX7_wayLength_1 : decode cX7_wayLength 1 = .ok (.istore_n 3, 1) := by decide +kernel
theorem dX7_wayLength_2 : decode cX7_wayLength 2 = .ok (.iload_n 3, 1) := by decide +kernel
theorem dX7_wayLength_3 : decode cX7_wayLength 3 = .ok (.bipush 100, 2) := by decide +kernel
theorem dX7_wayLength_5 : decode cX7_wayLength 5 = .ok (.if_icmp .ge 16, 3) := by decide +kernel
theorem dX7_wayLength_8 : decode cX7_wayLength 8 = .ok (.aload_n 0, 1) := by decide +kernel
theorem dX7_wayLength_9 : decode cX7_wayLength 9 = .ok (.getfield 19, 3) := by decide +kernel
theorem dX7_wayLength_12 : decode cX7_wayLength 12 = .ok (.iload_n 3, 1) := by decide +kernel
theorem dX7_wayLength_13 : decode cX7_wayLength 13 = .ok (.iconst (-1), 1) := by decide +kernel
theorem dX7_wayLength_14 : decode cX7_wayLength 14 = .ok (.iastore, 1) := by decide +kernel
theorem dX7_wayLength_15 : decode cX7_wayLength 15 = .ok (.iinc 3 1, 3) := by decide +kernel
theorem dX7_wayLength_18 : decode cX7_wayLength 18 = .ok (.goto (-16), 3) := by decide +kernel
theorem dX7_wayLength_21 : decode cX7_wayLength 21 = .ok (.aload_n 0, 1) := by decide +kernel
theorem dX7_wayLength_22 : decode cX7_wayLength 22 = .ok (.iconst 0, 1) := by decide +kernel
theorem dX7_wayLength_23 : decode cX7_wayLength 23 = .ok (.putfield 85, 3) := by decide +kernel
theorem dX7_wayLength_26 : decode cX7_wayLength 26 = .ok (.aload_n 0, 1) := by decide +kernel
theorem dX7_wayLength_27 : decode cX7_wayLength 27 = .ok (.iload_n 1, 1) := by decide +kernel
theorem dX7_wayLength_28 : decode cX7_wayLength 28 = .ok (.iconst 0, 1) := by decide +kernel
theorem dX7_wayLength_29 : decode cX7_wayLength 29 = .ok (.invokevirtual 102, 3) := by decide +kernel
theorem dX7_wayLength_32 : decode cX7_wayLength 32 = .ok (.iconst 0, 1) := by decide +kernel
theorem dX7_wayLength_33 : decode cX7_wayLength 33 = .ok (.istore_n 3, 1) := by decide +kernel
theorem dX7_wayLength_34 : decode cX7_wayLength 34 = .ok (.iload_n 3, 1) := by decide +kernel
theorem dX7_wayLength_35 : decode cX7_wayLength 35 = .ok (.aload_n 0, 1) := by decide +kernel
theorem dX7_wayLength_36 : decode cX7_wayLength 36 = .ok (.getfield 85, 3) := by decide +kernel
theorem dX7_wayLength_39 : decode cX7_wayLength 39 = .ok (.if_icmp .ge 91, 3) := by decide +kernel
theorem dX7_wayLength_42 : decode cX7_wayLength 42 = .ok (.iload_n 3, 1) := by decide +kernel
theorem dX7_wayLength_43 : decode cX7_wayLength 43 = .ok (.bipush 100, 2) := by decide +kernel
theorem dX7_wayLength_45 : decode cX7_wayLength 45 = .ok (.if_icmp .ge 85, 3) := by decide +kernel
theorem dX7_wayLength_48 : decode cX7_wayLength 48 = .ok (.aload_n 0, 1) := by decide +kernel
theorem dX7_wayLength_49 : decode cX7_wayLength 49 = .ok (.getfield 15, 3) := by decide +kernel
theorem dX7_wayLength_52 : decode cX7_wayLength 52 = .ok (.iload_n 3, 1) := by decide +kernel
theorem dX7_wayLength_53 : decode cX7_wayLength 53 = .ok (.iaload, 1) := by decide +kernel
theorem dX7_wayLength_54 : decode cX7_wayLength 54 = .ok (.istore 4, 2) := by decide +kernel
theorem dX7_wayLength_56 : decode cX7_wayLength 56 = .ok (.iload 4, 2) := by decide +kernel
theorem dX7_wayLength_58 : decode cX7_wayLength 58 = .ok (.iload_n 2, 1) := by decide +kernel
theorem dX7_wayLength_59 : decode cX7_wayLength 59 = .ok (.if_icmp .ne 10, 3) := by decide +kernel
theorem dX7_wayLength_62 : decode cX7_wayLength 62 = .ok (.aload_n 0, 1) := by decide +kernel
theorem dX7_wayLength_63 : decode cX7_wayLength 63 = .ok (.iload 4, 2) := by decide +kernel
theorem dX7_wayLength_65 : decode cX7_wayLength 65 = .ok (.invokevirtual 105, 3) := by decide +kernel
theorem dX7_wayLength_68 : decode cX7_wayLength 68 = .ok (.ireturn, 1) := by decide +kernel
theorem dX7_wayLength_69 : decode cX7_wayLength 69 = .ok (.iconst 0, 1) := by decide +kernel
theorem dX7_wayLength_70 : decode cX7_wayLength 70 = .ok (.istore 5, 2) := by decide +kernel
theorem dX7_wayLength_72 : decode cX7_wayLength 72 = .ok (.iload 5, 2) := by decide +kernel
theorem dX7_wayLength_74 : decode cX7_wayLength 74 = .ok (.bipush 100, 2) := by decide +kernel
theorem dX7_wayLength_76 : decode cX7_wayLength 76 = .ok (.if_icmp .ge 48, 3) := by decide +kernel
theorem dX7_wayLength_79 : decode cX7_wayLength 79 = .ok (.aload_n 0, 1) := by decide +kernel
theorem dX7_wayLength_80 : decode cX7_wayLength 80 = .ok (.getfield 19, 3) := by decide +kernel
theorem dX7_wayLength_83 : decode cX7_wayLength 83 = .ok (.iload 5, 2) := by decide +kernel
theorem dX7_wayLength_85 : decode cX7_wayLength 85 = .ok (.iaload, 1) := by decide +kernel
theorem dX7_wayLength_86 : decode cX7_wayLength 86 = .ok (.iconst (-1), 1) := by decide +kernel
theorem dX7_wayLength_87 : decode cX7_wayLength 87 = .ok (.if_icmp .ne 31, 3) := by decide +kernel
theorem dX7_wayLength_90 : decode cX7_wayLength 90 = .ok (.aload_n 0, 1) := by decide +kernel
theorem dX7_wayLength_91 : decode cX7_wayLength 91 = .ok (.getfield 22, 3) := by decide +kernel
theorem dX7_wayLength_94 : decode cX7_wayLength 94 = .ok (.iload 4, 2) := by decide +kernel
theorem dX7_wayLength_96 : decode cX7_wayLength 96 = .ok (.iload 5, 2) := by decide +kernel
theorem dX7_wayLength_98 : decode cX7_wayLength 98 = .ok (.invokevirtual 108, 3) := by decide +kernel
theorem dX7_wayLength_101 : decode cX7_wayLength 101 = .ok (.ifCond .eq 17, 3) := by decide +kernel
theorem dX7_wayLength_104 : decode cX7_wayLength 104 = .ok (.aload_n 0, 1) := by decide +kernel
theorem dX7_wayLength_105 : decode cX7_wayLength 105 = .ok (.iload 5, 2) := by decide +kernel
theorem dX7_wayLength_107 : decode cX7_wayLength 107 = .ok (.aload_n 0, 1) := by decide +kernel
theorem dX7_wayLength_108 : decode cX7_wayLength 108 = .ok (.iload 4, 2) := by decide +kernel
theorem dX7_wayLength_110 : decode cX7_wayLength 110 = .ok (.invokevirtual 105, 3) := by decide +kernel
theorem dX7_wayLength_113 : decode cX7_wayLength 113 = .ok (.iconst 1, 1) := by decide +kernel
theorem dX7_wayLength_114 : decode cX7_wayLength 114 = .ok (.iadd, 1) := by decide +kernel
theorem dX7_wayLength_115 : decode cX7_wayLength 115 = .ok (.invokevirtual 102, 3) := by decide +kernel
theorem dX7_wayLength_118 : decode cX7_wayLength 118 = .ok (.iinc 5 1, 3) := by decide +kernel
theorem dX7_wayLength_121 : decode cX7_wayLength 121 = .ok (.goto (-49), 3) := by decide +kernel
theorem dX7_wayLength_124 : decode cX7_wayLength 124 = .ok (.iinc 3 1, 3) := by decide +kernel
theorem dX7_wayLength_127 : decode cX7_wayLength 127 = .ok (.goto (-93), 3) := by decide +kernel
theorem dX7_wayLength_130 : decode cX7_wayLength 130 = .ok (.iconst (-1), 1) := by decide +kernel
theorem dX7_wayLength_131 : decode cX7_wayLength 131 = .ok (.ireturn, 1) := by decide +kernel
set_option maxRecDepth 20000 in
theorem ggX7_distanceOf_X8_isPointNumber : GoodIn wsX7_distanceOf wsX8_isPointNumber := goodIn_r _ [4] (by decide +kernel) (by decide +kernel)
set_option maxRecDepth 20000 in
theorem gX7_distanceOf_X8_isPointNumber_n111 : GoodIn wsX7_distanceOf (wsX8_isPointNumber) := ggX7_distanceOf_X8_isPointNumber
theorem dX7_distanceOf_0 : decode cX7_distanceOf 0 = .ok (.iload_n 1, 1) := by decide +kernel
theorem dX7_distanceOf_1 : decode cX7_distanceOf 1 = .ok (.invokestatic 111, 3) := by decide +kernel
theorem dX7_distanceOf_4 : decode cX7_distanceOf 4 = .ok (.ifCond .eq 12, 3) := by decide +kernel
theorem dX7_distanceOf_7 : decode cX7_distanceOf 7 = .ok (.aload_n 0, 1) := by decide +kernel
theorem dX7_distanceOf_8 : decode cX7_distanceOf 8 = .ok (.getfield 19, 3) := by decide +kernel
theorem dX7_distanceOf_11 : decode cX7_distanceOf 11 = .ok (.iload_n 1, 1) := by decide +kernel
theorem dX7_distanceOf_12 : decode cX7_distanceOf 12 = .ok (.iaload, 1) := by decide +kernel
theorem dX7_distanceOf_13 : decode cX7_distanceOf 13 = .ok (.goto 4, 3) := by decide +kernel
theorem dX7_distanceOf_16 : decode cX7_distanceOf 16 = .ok (.iconst (-1), 1) := by decide +kernel
theorem dX7_distanceOf_17 : decode cX7_distanceOf 17 = .ok (.ireturn, 1) := by decide +kernel
set_option maxRecDepth 20000 in
theorem ggX7_reach_X8_isPointNumber : GoodIn wsX7_reach wsX8_isPointNumber := goodIn_r _ [4] (by decide +kernel) (by decide +kernel)
set_option maxRecDepth 20000 in
theorem gX7_reach_X8_isPointNumber_n111 : GoodIn wsX7_reach (wsX8_isPointNumber) := ggX7_reach_X8_isPointNumber
set_option maxRecDepth 20000 in
theorem ggX7_reach_X7_enqueue : GoodIn wsX7_reach wsX7_enqueue := goodIn_r _ [9, 10, 11, 12, 13, 14, 15, 16, 17] (by decide +kernel) (by decide +kernel)
set_option maxRecDepth 20000 in
theorem gX7_reach_X7_enqueue : GoodIn wsX7_reach (wsV RX7 89 RX7 yX7_enqueue wsX7_enqueue) := goodIn_app (goodIn_of _ (by decide +kernel)) ggX7_reach_X7_enqueue
theorem dX7_reach_0 : decode cX7_reach 0 = .ok (.iload_n 1, 1) := by decide +kernel
theorem dX7_reach_1 : decode cX7_reach 1 = .ok (.invokestatic 111, 3) := by decide +kernel
theorem dX7_reach_4 : decode cX7_reach 4 = .ok (.ifCond .eq 15, 3) := by decide +kernel
theorem dX7_reach_7 : decode cX7_reach 7 = .ok (.aload_n 0, 1) := by decide +kernel
theorem dX7_reach_8 : decode cX7_reach 8 = .ok (.getfield 19, 3) := by decide +kernel
theorem dX7_reach_11 : decode cX7_reach 11 = .ok (.iload_n 1, 1) := by decide +kernel
theorem dX7_reach_12 : decode cX7_reach 12 = .ok (.iload_n 2, 1) := by decide +kernel
theorem dX7_reach_13 : decode cX7_reach 13 = .ok (.iastore, 1) := by decide +kernel
theorem dX7_reach_14 : decode cX7_reach 14 = .ok (.aload_n 0, 1) := by decide +kernel
theorem dX7_reach_15 : decode cX7_reach 15 = .ok (.iload_n 1, 1) := by decide +kernel
theorem dX7_reach_16 : decode cX7_reach 16 = .ok (.invokevirtual 89, 3) := by decide +kernel
theorem dX7_reach_19 : decode cX7_reach 19 = .ok (.return_, 1) := by decide +kernel
theorem dX7_enqueue_0 : decode cX7_enqueue 0 = .ok (.aload_n 0, 1) := by decide +kernel
theorem dX7_enqueue_1 : decode cX7_enqueue 1 = .ok (.getfield 85, 3) := by decide +kernel
theorem dX7_enqueue_4 : decode cX7_enqueue 4 = .ok (.ifCond .lt 33, 3) := by decide +kernel
theorem dX7_enqueue_7 : decode cX7_enqueue 7 = .ok (.aload_n 0, 1) := by decide +kernel
theorem dX7_enqueue_8 : decode cX7_enqueue 8 = .ok (.getfield 85, 3) := by decide +kernel
theorem dX7_enqueue_11 : decode cX7_enqueue 11 = .ok (.sipush 160, 3) := by decide +kernel
theorem dX7_enqueue_14 : decode cX7_enqueue 14 = .ok (.if_icmp .ge 23, 3) := by decide +kernel
theorem dX7_enqueue_17 : decode cX7_enqueue 17 = .ok (.aload_n 0, 1) := by decide +kernel
theorem dX7_enqueue_18 : decode cX7_enqueue 18 = .ok (.getfield 15, 3) := by decide +kernel
theorem dX7_enqueue_21 : decode cX7_enqueue 21 = .ok (.aload_n 0, 1) := by decide +kernel
theorem dX7_enqueue_22 : decode cX7_enqueue 22 = .ok (.getfield 85, 3) := by decide +kernel
theorem dX7_enqueue_25 : decode cX7_enqueue 25 = .ok (.iload_n 1, 1) := by decide +kernel
theorem dX7_enqueue_26 : decode cX7_enqueue 26 = .ok (.iastore, 1) := by decide +kernel
theorem dX7_enqueue_27 : decode cX7_enqueue 27 = .ok (.aload_n 0, 1) := by decide +kernel
theorem dX7_enqueue_28 : decode cX7_enqueue 28 = .ok (.dup, 1) := by decide +kernel
theorem dX7_enqueue_29 : decode cX7_enqueue 29 = .ok (.getfield 85, 3) := by decide +kernel
theorem dX7_enqueue_32 : decode cX7_enqueue 32 = .ok (.iconst 1, 1) := by decide +kernel
theorem dX7_enqueue_33 : decode cX7_enqueue 33 = .ok (.iadd, 1) := by decide +kernel
theorem dX7_enqueue_34 : decode cX7_enqueue 34 = .ok (.putfield 85, 3) := by decide +kernel
theorem dX7_enqueue_37 : decode cX7_enqueue 37 = .ok (.return_, 1) := by decide +kernel
theorem dX7_forgetFaces_0 : decode cX7_forgetFaces 0 = .ok (.iconst 0, 1) := by decide +kernel
theorem dX7_forgetFaces_1 : decode cX7_forgetFaces 1 = .ok (.istore_n 1, 1) := by decide +kernel
theorem dX7_forgetFaces_2 : decode cX7_forgetFaces 2 = .ok (.iload_n 1, 1) := by decide +kernel
theorem dX7_forgetFaces_3 : decode cX7_forgetFaces 3 = .ok (.sipush 160, 3) := by decide +kernel
theorem dX7_forgetFaces_6 : decode cX7_forgetFaces 6 = .ok (.if_icmp .ge 16, 3) := by decide +kernel
theorem dX7_forgetFaces_9 : decode cX7_forgetFaces 9 = .ok (.aload_n 0, 1) := by decide +kernel
theorem dX7_forgetFaces_10 : decode cX7_forgetFaces 10 = .ok (.getfield 9, 3) := by decide +kernel
theorem dX7_forgetFaces_13 : decode cX7_forgetFaces 13 = .ok (.iload_n 1, 1) := by decide +kernel
theorem dX7_forgetFaces_14 : decode cX7_forgetFaces 14 = .ok (.iconst 0, 1) := by decide +kernel
theorem dX7_forgetFaces_15 : decode cX7_forgetFaces 15 = .ok (.bastore, 1) := by decide +kernel
theorem dX7_forgetFaces_16 : decode cX7_forgetFaces 16 = .ok (.iinc 1 1, 3) := by decide +kernel
theorem dX7_forgetFaces_19 : decode cX7_forgetFaces 19 = .ok (.goto (-17), 3) := by decide +kernel
theorem dX7_forgetFaces_22 : decode cX7_forgetFaces 22 = .ok (.return_, 1) := by decide +kernel
set_option maxRecDepth 20000 in
theorem ggX7_see_X8_isFaceNumber : GoodIn wsX7_see wsX8_isFaceNumber := goodIn_r _ [4] (by decide +kernel) (by decide +kernel)
set_option maxRecDepth 20000 in
theorem gX7_see_X8_isFaceNumber_n114 : GoodIn wsX7_see (wsX8_isFaceNumber) := ggX7_see_X8_isFaceNumber
theorem dX7_see_0 : decode cX7_see 0 = .ok (.iload_n 1, 1) := by decide +kernel
theorem dX7_see_1 : decode cX7_see 1 = .ok (.invokestatic 114, 3) := by decide +kernel
theorem dX7_see_4 : decode cX7_see 4 = .ok (.ifCond .eq 12, 3) := by decide +kernel
theorem dX7_see_7 : decode cX7_see 7 = .ok (.aload_n 0, 1) := by decide +kernel
theorem dX7_see_8 : decode cX7_see 8 = .ok (.getfield 9, 3) := by decide +kernel
theorem dX7_see_11 : decode cX7_see 11 = .ok (.iload_n 1, 1) := by decide +kernel
theorem dX7_see_12 : decode cX7_see 12 = .ok (.baload, 1) := by decide +kernel
theorem dX7_see_13 : decode cX7_see 13 = .ok (.ifCond .eq 5, 3) := by decide +kernel
theorem dX7_see_16 : decode cX7_see 16 = .ok (.iconst 0, 1) := by decide +kernel
theorem dX7_see_17 : decode cX7_see 17 = .ok (.ireturn, 1) := by decide +kernel
theorem dX7_see_18 : decode cX7_see 18 = .ok (.aload_n 0, 1) := by decide +kernel
theorem dX7_see_19 : decode cX7_see 19 = .ok (.getfield 9, 3) := by decide +kernel
theorem dX7_see_22 : decode cX7_see 22 = .ok (.iload_n 1, 1) := by decide +kernel
theorem dX7_see_23 : decode cX7_see 23 = .ok (.iconst 1, 1) := by decide +kernel
theorem dX7_see_24 : decode cX7_see 24 = .ok (.bastore, 1) := by decide +kernel
theorem dX7_see_25 : decode cX7_see 25 = .ok (.iconst 1, 1) := by decide +kernel
theorem dX7_see_26 : decode cX7_see 26 = .ok (.ireturn, 1) := by decide +kernel
