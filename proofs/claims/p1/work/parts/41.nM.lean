set_option maxRecDepth 20000 in
theorem ggX9_init_X9_table : GoodIn wsX9_init wsX9_table := goodIn_r _ [19, 11, 20, 21, 12, 10, 22, 23, 24, 25, 26, 27, 28, 18, 29, 30, 31, 32, 33, 34, 35, 36, 37, 38, 39, 40, 41, 42, 43, 44, 45] (by decide +kernel) (by decide +kernel)
set_option maxRecDepth 20000 in
theorem gX9_init_X9_table : GoodIn wsX9_init (wsV RX9 36 RX9 yX9_table wsX9_table) := goodIn_app (goodIn_of _ (by decide +kernel)) ggX9_init_X9_table
theorem dX9_init_0 : decode cX9_init 0 = .ok (.aload_n 0, 1) := by decide +kernel
theorem dX9_init_1 : decode cX9_init 1 = .ok (.invokespecial 1, 3) := by decide +kernel
theorem dX9_init_4 : decode cX9_init 4 = .ok (.aload_n 0, 1) := by decide +kernel
theorem dX9_init_5 : decode cX9_init 5 = .ok (.bipush 100, 2) := by decide +kernel
theorem dX9_init_7 : decode cX9_init 7 = .ok (.iconst 3, 1) := by decide +kernel
theorem dX9_init_8 : decode cX9_init 8 = .ok (.multianewarray 9 2, 4) := by decide +kernel
theorem dX9_init_12 : decode cX9_init 12 = .ok (.putfield 11, 3) := by decide +kernel
theorem dX9_init_15 : decode cX9_init 15 = .ok (.aload_n 0, 1) := by decide +kernel
theorem dX9_init_16 : decode cX9_init 16 = .ok (.bipush 100, 2) := by decide +kernel
theorem dX9_init_18 : decode cX9_init 18 = .ok (.newarray .boolean, 2) := by decide +kernel
theorem dX9_init_20 : decode cX9_init 20 = .ok (.putfield 14, 3) := by decide +kernel
theorem dX9_init_23 : decode cX9_init 23 = .ok (.aload_n 0, 1) := by decide +kernel
theorem dX9_init_24 : decode cX9_init 24 = .ok (.sipush 160, 3) := by decide +kernel
theorem dX9_init_27 : decode cX9_init 27 = .ok (.anewarray 18, 3) := by decide +kernel
theorem dX9_init_30 : decode cX9_init 30 = .ok (.putfield 20, 3) := by decide +kernel
theorem dX9_init_33 : decode cX9_init 33 = .ok (.aload_n 0, 1) := by decide +kernel
theorem dX9_init_34 : decode cX9_init 34 = .ok (.bipush 100, 2) := by decide +kernel
theorem dX9_init_36 : decode cX9_init 36 = .ok (.bipush 100, 2) := by decide +kernel
theorem dX9_init_38 : decode cX9_init 38 = .ok (.multianewarray 9 2, 4) := by decide +kernel
theorem dX9_init_42 : decode cX9_init 42 = .ok (.putfield 23, 3) := by decide +kernel
theorem dX9_init_45 : decode cX9_init 45 = .ok (.aload_n 0, 1) := by decide +kernel
theorem dX9_init_46 : decode cX9_init 46 = .ok (.iconst 1, 1) := by decide +kernel
theorem dX9_init_47 : decode cX9_init 47 = .ok (.putfield 26, 3) := by decide +kernel
theorem dX9_init_50 : decode cX9_init 50 = .ok (.aload_n 0, 1) := by decide +kernel
theorem dX9_init_51 : decode cX9_init 51 = .ok (.sipush 160, 3) := by decide +kernel
theorem dX9_init_54 : decode cX9_init 54 = .ok (.anewarray 18, 3) := by decide +kernel
theorem dX9_init_57 : decode cX9_init 57 = .ok (.putfield 30, 3) := by decide +kernel
theorem dX9_init_60 : decode cX9_init 60 = .ok (.aload_n 0, 1) := by decide +kernel
theorem dX9_init_61 : decode cX9_init 61 = .ok (.bipush 100, 2) := by decide +kernel
theorem dX9_init_63 : decode cX9_init 63 = .ok (.newarray .boolean, 2) := by decide +kernel
theorem dX9_init_65 : decode cX9_init 65 = .ok (.putfield 33, 3) := by decide +kernel
theorem dX9_init_68 : decode cX9_init 68 = .ok (.aload_n 0, 1) := by decide +kernel
theorem dX9_init_69 : decode cX9_init 69 = .ok (.invokevirtual 36, 3) := by decide +kernel
theorem dX9_init_72 : decode cX9_init 72 = .ok (.return_, 1) := by decide +kernel
theorem dX9_thrown_0 : decode cX9_thrown 0 = .ok (.aload_n 0, 1) := by decide +kernel
theorem dX9_thrown_1 : decode cX9_thrown 1 = .ok (.getfield 39, 3) := by decide +kernel
theorem dX9_thrown_4 : decode cX9_thrown 4 = .ok (.ireturn, 1) := by decide +kernel
theorem dX9_refuse_0 : decode cX9_refuse 0 = .ok (.aload_n 0, 1) := by decide +kernel
theorem dX9_refuse_1 : decode cX9_refuse 1 = .ok (.iload_n 1, 1) := by decide +kernel
theorem dX9_refuse_2 : decode cX9_refuse 2 = .ok (.putfield 39, 3) := by decide +kernel
theorem dX9_refuse_5 : decode cX9_refuse 5 = .ok (.iconst 0, 1) := by decide +kernel
theorem dX9_refuse_6 : decode cX9_refuse 6 = .ok (.ireturn, 1) := by decide +kernel
theorem dX9_is_0 : decode cX9_is 0 = .ok (.iload_n 0, 1) := by decide +kernel
theorem dX9_is_1 : decode cX9_is 1 = .ok (.iload_n 1, 1) := by decide +kernel
theorem dX9_is_2 : decode cX9_is 2 = .ok (.if_icmp .lt 12, 3) := by decide +kernel
theorem dX9_is_5 : decode cX9_is 5 = .ok (.iload_n 0, 1) := by decide +kernel
theorem dX9_is_6 : decode cX9_is 6 = .ok (.iload_n 2, 1) := by decide +kernel
theorem dX9_is_7 : decode cX9_is 7 = .ok (.if_icmp .gt 7, 3) := by decide +kernel
theorem dX9_is_10 : decode cX9_is 10 = .ok (.iconst 1, 1) := by decide +kernel
theorem dX9_is_11 : decode cX9_is 11 = .ok (.goto 4, 3) := by decide +kernel
theorem dX9_is_14 : decode cX9_is 14 = .ok (.iconst 0, 1) := by decide +kernel
theorem dX9_is_15 : decode cX9_is 15 = .ok (.ireturn, 1) := by decide +kernel
set_option maxRecDepth 20000 in
theorem ggX9_isNear_X9_is : GoodIn wsX9_isNear wsX9_is := goodIn_r _ [4] (by decide +kernel) (by decide +kernel)
set_option maxRecDepth 20000 in
theorem gX9_isNear_X9_is : GoodIn wsX9_isNear (va_wsS RX9 43 yX9_is wsX9_is) := goodIn_app (goodIn_of _ (by decide +kernel)) ggX9_isNear_X9_is
theorem dX9_isNear_0 : decode cX9_isNear 0 = .ok (.iload_n 0, 1) := by decide +kernel
theorem dX9_isNear_1 : decode cX9_isNear 1 = .ok (.sipush (-500), 3) := by decide +kernel
theorem dX9_isNear_4 : decode cX9_isNear 4 = .ok (.sipush 500, 3) := by decide +kernel
theorem dX9_isNear_7 : decode cX9_isNear 7 = .ok (.invokestatic 43, 3) := by decide +kernel
theorem dX9_isNear_10 : decode cX9_isNear 10 = .ok (.ireturn, 1) := by decide +kernel
set_option maxRecDepth 20000 in
theorem ggX9_isPoint_X9_is : GoodIn wsX9_isPoint wsX9_is := goodIn_r _ [6] (by decide +kernel) (by decide +kernel)
set_option maxRecDepth 20000 in
theorem gX9_isPoint_X9_is : GoodIn wsX9_isPoint (va_wsS RX9 43 yX9_is wsX9_is) := goodIn_app (goodIn_of _ (by decide +kernel)) ggX9_isPoint_X9_is
theorem dX9_isPoint_0 : decode cX9_isPoint 0 = .ok (.iload_n 1, 1) := by decide +kernel
theorem dX9_isPoint_1 : decode cX9_isPoint 1 = .ok (.iconst 0, 1) := by decide +kernel
theorem dX9_isPoint_2 : decode cX9_isPoint 2 = .ok (.aload_n 0, 1) := by decide +kernel
theorem dX9_isPoint_3 : decode cX9_isPoint 3 = .ok (.getfield 47, 3) := by decide +kernel
theorem dX9_isPoint_6 : decode cX9_isPoint 6 = .ok (.iconst 1, 1) := by decide +kernel
theorem dX9_isPoint_7 : decode cX9_isPoint 7 = .ok (.isub, 1) := by decide +kernel
theorem dX9_isPoint_8 : decode cX9_isPoint 8 = .ok (.invokestatic 43, 3) := by decide +kernel
theorem dX9_isPoint_11 : decode cX9_isPoint 11 = .ok (.ifCond .eq 16, 3) := by decide +kernel
theorem dX9_isPoint_14 : decode cX9_isPoint 14 = .ok (.aload_n 0, 1) := by decide +kernel
theorem dX9_isPoint_15 : decode cX9_isPoint 15 = .ok (.getfield 14, 3) := by decide +kernel
theorem dX9_isPoint_18 : decode cX9_isPoint 18 = .ok (.iload_n 1, 1) := by decide +kernel
theorem dX9_isPoint_19 : decode cX9_isPoint 19 = .ok (.baload, 1) := by decide +kernel
theorem dX9_isPoint_20 : decode cX9_isPoint 20 = .ok (.ifCond .eq 7, 3) := by decide +kernel
theorem dX9_isPoint_23 : decode cX9_isPoint 23 = .ok (.iconst 1, 1) := by decide +kernel
theorem dX9_isPoint_24 : decode cX9_isPoint 24 = .ok (.goto 4, 3) := by decide +kernel
theorem dX9_isPoint_27 : decode cX9_isPoint 27 = .ok (.iconst 0, 1) := by decide +kernel
theorem dX9_isPoint_28 : decode cX9_isPoint 28 = .ok (.ireturn, 1) := by decide +kernel
set_option maxRecDepth 20000 in
theorem ggX9_isFace_X9_is : GoodIn wsX9_isFace wsX9_is := goodIn_r _ [6] (by decide +kernel) (by decide +kernel)
set_option maxRecDepth 20000 in
theorem gX9_isFace_X9_is : GoodIn wsX9_isFace (va_wsS RX9 43 yX9_is wsX9_is) := goodIn_app (goodIn_of _ (by decide +kernel)) ggX9_isFace_X9_is
theorem dX9_isFace_0 : decode cX9_isFace 0 = .ok (.iload_n 1, 1) := by decide +kernel
theorem dX9_isFace_1 : decode cX9_isFace 1 = .ok (.iconst 0, 1) := by decide +kernel
theorem dX9_isFace_2 : decode cX9_isFace 2 = .ok (.aload_n 0, 1) := by decide +kernel
theorem dX9_isFace_3 : decode cX9_isFace 3 = .ok (.getfield 50, 3) := by decide +kernel
theorem dX9_isFace_6 : decode cX9_isFace 6 = .ok (.iconst 1, 1) := by decide +kernel
theorem dX9_isFace_7 : decode cX9_isFace 7 = .ok (.isub, 1) := by decide +kernel
theorem dX9_isFace_8 : decode cX9_isFace 8 = .ok (.invokestatic 43, 3) := by decide +kernel
theorem dX9_isFace_11 : decode cX9_isFace 11 = .ok (.ifCond .eq 16, 3) := by decide +kernel
theorem dX9_isFace_14 : decode cX9_isFace 14 = .ok (.aload_n 0, 1) := by decide +kernel
theorem dX9_isFace_15 : decode cX9_isFace 15 = .ok (.getfield 20, 3) := by decide +kernel
theorem dX9_isFace_18 : decode cX9_isFace 18 = .ok (.iload_n 1, 1) := by decide +kernel
theorem dX9_isFace_19 : decode cX9_isFace 19 = .ok (.aaload, 1) := by decide +kernel
theorem dX9_isFace_20 : decode cX9_isFace 20 = .ok (.ifnull 7, 3) := by decide +kernel
theorem dX9_isFace_23 : decode cX9_isFace 23 = .ok (.iconst 1, 1) := by decide +kernel
theorem dX9_isFace_24 : decode cX9_isFace 24 = .ok (.goto 4, 3) := by decide +kernel
theorem dX9_isFace_27 : decode cX9_isFace 27 = .ok (.iconst 0, 1) := by decide +kernel
theorem dX9_isFace_28 : decode cX9_isFace 28 = .ok (.ireturn, 1) := by decide +kernel
set_option maxRecDepth 20000 in
theorem ggX9_table_J7_fill_53178 : GoodIn wsX9_table wsJ7_fill_53178 := goodIn_r _ [9] (by decide +kernel) (by decide +kernel)
set_option maxRecDepth 20000 in
theorem gX9_table_J7_fill_53178 : GoodIn wsX9_table (va_wsS RX9 53 yJ7_fill_53178 wsJ7_fill_53178) := goodIn_app (goodIn_of _ (by decide +kernel)) ggX9_table_J7_fill_53178
set_option maxRecDepth 20000 in
theorem ggX9_table_X9_enter : GoodIn wsX9_table wsX9_enter := goodIn_r _ [14, 5, 4, 1, 15, 16, 13, 17, 18, 19, 20, 21, 22, 23, 24, 25, 26, 27, 28, 29, 30] (by decide +kernel) (by decide +kernel)
set_option maxRecDepth 20000 in
theorem gX9_table_X9_enter : GoodIn wsX9_table (wsV RX9 59 RX9 yX9_enter wsX9_enter) := goodIn_app (goodIn_of _ (by decide +kernel)) ggX9_table_X9_enter
theorem dX9_table_0 : decode cX9_table 0 = .ok (.aload_n 0, 1) := by decide +kernel
theorem dX9_table_1 : decode cX9_table 1 = .ok (.getfield 23, 3) := by decide +kernel
theorem dX9_table_4 : decode cX9_table 4 = .ok (.astore_n 1, 1) := by decide +kernel
theorem dX9_table_5 : decode cX9_table 5 = .ok (.aload_n 1, 1) := by decide +kernel
theorem dX9_table_6 : decode cX9_table 6 = .ok (.arraylength, 1) := by decide +kernel
theorem dX9_table_7 : decode cX9_table 7 = .ok (.istore_n 2, 1) := by decide +kernel
theorem dX9_table_8 : decode cX9_table 8 = .ok (.iconst 0, 1) := by decide +kernel
theorem dX9_table_9 : decode cX9_table 9 = .ok (.istore_n 3, 1) := by decide +kernel
theorem dX9_table_10 : decode cX9_table 10 = .ok (.iload_n 3, 1) := by decide +kernel
theorem dX9_table_11 : decode cX9_table 11 = .ok (.iload_n 2, 1) := by decide +kernel
theorem dX9_table_12 : decode cX9_table 12 = .ok (.if_icmp .ge 20, 3) := by decide +kernel
theorem dX9_table_15 : decode cX9_table 15 = .ok (.aload_n 1, 1) := by decide +kernel
theorem dX9_table_16 : decode cX9_table 16 = .ok (.iload_n 3, 1) := by decide +kernel
theorem dX9_table_17 : decode cX9_table 17 = .ok (.aaload, 1) := by decide +kernel
theorem dX9_table_18 : decode cX9_table 18 = .ok (.astore 4, 2) := by decide +kernel
theorem dX9_table_20 : decode cX9_table 20 = .ok (.aload 4, 2) := by decide +kernel
theorem dX9_table_22 : decode cX9_table 22 = .ok (.iconst (-1), 1) := by decide +kernel
theorem dX9_table_23 : decode cX9_table 23 = .ok (.invokestatic 53, 3) := by decide +kernel
theorem dX9_table_26 : decode cX9_table 26 = .ok (.iinc 3 1, 3) := by decide +kernel
theorem dX9_table_29 : decode cX9_table 29 = .ok (.goto (-19), 3) := by decide +kernel
theorem dX9_table_32 : decode cX9_table 32 = .ok (.aload_n 0, 1) := by decide +kernel
theorem dX9_table_33 : decode cX9_table 33 = .ok (.aload_n 0, 1) := by decide +kernel
theorem dX9_table_34 : decode cX9_table 34 = .ok (.getfield 47, 3) := by decide +kernel
theorem dX9_table_37 : decode cX9_table 37 = .ok (.bipush 100, 2) := by decide +kernel
theorem dX9_table_39 : decode cX9_table 39 = .ok (.if_icmp .gt 17, 3) := by decide +kernel
theorem dX9_table_42 : decode cX9_table 42 = .ok (.aload_n 0, 1) := by decide +kernel
theorem dX9_table_43 : decode cX9_table 43 = .ok (.getfield 50, 3) := by decide +kernel
theorem dX9_table_46 : decode cX9_table 46 = .ok (.sipush 160, 3) := by decide +kernel
theorem dX9_table_49 : decode cX9_table 49 = .ok (.if_icmp .gt 7, 3) := by decide +kernel
theorem dX9_table_52 : decode cX9_table 52 = .ok (.iconst 1, 1) := by decide +kernel
theorem dX9_table_53 : decode cX9_table 53 = .ok (.goto 4, 3) := by decide +kernel
theorem dX9_table_56 : decode cX9_table 56 = .ok (.iconst 0, 1) := by decide +kernel
theorem dX9_table_57 : decode cX9_table 57 = .ok (.putfield 26, 3) := by decide +kernel
theorem dX9_table_60 : decode cX9_table 60 = .ok (.iconst 0, 1) := by decide +kernel
theorem dX9_table_61 : decode cX9_table 61 = .ok (.istore_n 1, 1) := by decide +kernel
theorem dX9_table_62 : decode cX9_table 62 = .ok (.iload_n 1, 1) := by decide +kernel
theorem dX9_table_63 : decode cX9_table 63 = .ok (.aload_n 0, 1) := by decide +kernel
theorem dX9_table_64 : decode cX9_table 64 = .ok (.getfield 50, 3) := by decide +kernel
theorem dX9_table_67 : decode cX9_table 67 = .ok (.if_icmp .ge 23, 3) := by decide +kernel
theorem dX9_table_70 : decode cX9_table 70 = .ok (.aload_n 0, 1) := by decide +kernel
theorem dX9_table_71 : decode cX9_table 71 = .ok (.getfield 20, 3) := by decide +kernel
theorem dX9_table_74 : decode cX9_table 74 = .ok (.iload_n 1, 1) := by decide +kernel
theorem dX9_table_75 : decode cX9_table 75 = .ok (.aaload, 1) := by decide +kernel
theorem dX9_table_76 : decode cX9_table 76 = .ok (.ifnull 8, 3) := by decide +kernel
theorem dX9_table_79 : decode cX9_table 79 = .ok (.aload_n 0, 1) := by decide +kernel
theorem dX9_table_80 : decode cX9_table 80 = .ok (.iload_n 1, 1) := by decide +kernel
theorem dX9_table_81 : decode cX9_table 81 = .ok (.invokevirtual 59, 3) := by decide +kernel
theorem dX9_table_84 : decode cX9_table 84 = .ok (.iinc 1 1, 3) := by decide +kernel
theorem dX9_table_87 : decode cX9_table 87 = .ok (.goto (-25), 3) := by decide +kernel
theorem dX9_table_90 : decode cX9_table 90 = .ok (.return_, 1) := by decide +kernel
set_option maxRecDepth 20000 in
theorem ggX9_enter_X9_is : GoodIn wsX9_enter wsX9_is := goodIn_r _ [7] (by decide +kernel) (by decide +kernel)
set_option maxRecDepth 20000 in
theorem gX9_enter_X9_is : GoodIn wsX9_enter (va_wsS RX9 43 yX9_is wsX9_is) := goodIn_app (goodIn_of _ (by decide +kernel)) ggX9_enter_X9_is
theorem dX9_enter_0 : decode cX9_enter 0 = .ok (.aload_n 0, 1) := by decide +kernel
theorem dX9_enter_1 : decode cX9_enter 1 = .ok (.getfield 20, 3) := by decide +kernel
theorem dX9_enter_4 : decode cX9_enter 4 = .ok (.iload_n 1, 1) := by decide +kernel
theorem dX9_enter_5 : decode cX9_enter 5 = .ok (.aaload, 1) := by decide +kernel
theorem dX9_enter_6 : decode cX9_enter 6 = .ok (.astore_n 2, 1) := by decide +kernel
theorem dX9_enter_7 : decode cX9_enter 7 = .ok (.aload_n 0, 1) := by decide +kernel
theorem dX9_enter_8 : decode cX9_enter 8 = .ok (.dup, 1) := by decide +kernel
theorem dX9_enter_9 : decode cX9_enter 9 = .ok (.getfield 26, 3) := by decide +kernel
theorem dX9_enter_12 : decode cX9_enter 12 = .ok (.aload_n 2, 1) := by decide +kernel
theorem dX9_enter_13 : decode cX9_enter 13 = .ok (.arraylength, 1) := by decide +kernel
theorem dX9_enter_14 : decode cX9_enter 14 = .ok (.iconst 3, 1) := by decide +kernel
theorem dX9_enter_15 : decode cX9_enter 15 = .ok (.bipush 12, 2) := by decide +kernel
theorem dX9_enter_17 : decode cX9_enter 17 = .ok (.invokestatic 43, 3) := by decide +kernel
theorem dX9_enter_20 : decode cX9_enter 20 = .ok (.iand, 1) := by decide +kernel
theorem dX9_enter_21 : decode cX9_enter 21 = .ok (.putfield 26, 3) := by decide +kernel
theorem dX9_enter_24 : decode cX9_enter 24 = .ok (.iconst 0, 1) := by decide +kernel
theorem dX9_enter_25 : decode cX9_enter 25 = .ok (.istore_n 3, 1) := by decide +kernel
theorem dX9_enter_26 : decode cX9_enter 26 = .ok (.iload_n 3, 1) := by decide +kernel
theorem dX9_enter_27 : decode cX9_enter 27 = .ok (.aload_n 2, 1) := by decide +kernel
theorem dX9_enter_28 : decode cX9_enter 28 = .ok (.arraylength, 1) := by decide +kernel
theorem dX9_enter_29 : decode cX9_enter 29 = .ok (.if_icmp .ge 107, 3) := by decide +kernel
theorem dX9_enter_32 : decode cX9_enter 32 = .ok (.aload_n 2, 1) := by decide +kernel
theorem dX9_enter_33 : decode cX9_enter 33 = .ok (.iload_n 3, 1) := by decide +kernel
theorem dX9_enter_34 : decode cX9_enter 34 = .ok (.iconst 1, 1) := by decide +kernel
theorem dX9_enter_35 : decode cX9_enter 35 = .ok (.iadd, 1) := by decide +kernel
theorem dX9_enter_36 : decode cX9_enter 36 = .ok (.aload_n 2, 1) := by decide +kernel
theorem dX9_enter_37 : decode cX9_enter 37 = .ok (.arraylength, 1) := by decide +kernel
theorem dX9_enter_38 : decode cX9_enter 38 = .ok (.irem, 1) := by decide +kernel
theorem dX9_enter_39 : decode cX9_enter 39 = .ok (.iaload, 1) := by decide +kernel
theorem dX9_enter_40 : decode cX9_enter 40 = .ok (.istore 4, 2) := by decide +kernel
theorem dX9_enter_42 : decode cX9_enter 42 = .ok (.aload_n 0, 1) := by decide +kernel
theorem dX9_enter_43 : decode cX9_enter 43 = .ok (.dup, 1) := by decide +kernel
theorem dX9_enter_44 : decode cX9_enter 44 = .ok (.getfield 26, 3) := by decide +kernel
theorem dX9_enter_47 : decode cX9_enter 47 = .ok (.aload_n 0, 1) := by decide +kernel
theorem dX9_enter_48 : decode cX9_enter 48 = .ok (.getfield 23, 3) := by decide +kernel
theorem dX9_enter_51 : decode cX9_enter 51 = .ok (.aload_n 2, 1) := by decide +kernel
theorem dX9_enter_52 : decode cX9_enter 52 = .ok (.iload_n 3, 1) := by decide +kernel
theorem dX9_enter_53 : decode cX9_enter 53 = .ok (.iaload, 1) := by decide +kernel
theorem dX9_enter_54 : decode cX9_enter 54 = .ok (.aaload, 1) := by decide +kernel
theorem dX9_enter_55 : decode cX9_enter 55 = .ok (.iload 4, 2) := by decide +kernel
theorem dX9_enter_57 : decode cX9_enter 57 = .ok (.iaload, 1) := by decide +kernel
theorem dX9_enter_58 : decode cX9_enter 58 = .ok (.iconst (-1), 1) := by decide +kernel
theorem dX9_enter_59 : decode cX9_enter 59 = .ok (.if_icmp .ne 15, 3) := by decide +kernel
theorem dX9_enter_62 : decode cX9_enter 62 = .ok (.aload_n 2, 1) := by decide +kernel
theorem dX9_enter_63 : decode cX9_enter 63 = .ok (.iload_n 3, 1) := by decide +kernel
theorem dX9_enter_64 : decode cX9_enter 64 = .ok (.iaload, 1) := by decide +kernel
theorem dX9_enter_65 : decode cX9_enter 65 = .ok (.iload 4, 2) := by decide +kernel
theorem dX9_enter_67 : decode cX9_enter 67 = .ok (.if_icmp .eq 7, 3) := by decide +kernel
theorem dX9_enter_70 : decode cX9_enter 70 = .ok (.iconst 1, 1) := by decide +kernel
theorem dX9_enter_71 : decode cX9_enter 71 = .ok (.goto 4, 3) := by decide +kernel
theorem dX9_enter_74 : decode cX9_enter 74 = .ok (.iconst 0, 1) := by decide +kernel
theorem dX9_enter_75 : decode cX9_enter 75 = .ok (.iand, 1) := by decide +kernel
theorem dX9_enter_76 : decode cX9_enter 76 = .ok (.putfield 26, 3) := by decide +kernel
theorem dX9_enter_79 : decode cX9_enter 79 = .ok (.aload_n 0, 1) := by decide +kernel
theorem dX9_enter_80 : decode cX9_enter 80 = .ok (.getfield 23, 3) := by decide +kernel
theorem dX9_enter_83 : decode cX9_enter 83 = .ok (.aload_n 2, 1) := by decide +kernel
theorem dX9_enter_84 : decode cX9_enter 84 = .ok (.iload_n 3, 1) := by decide +kernel
theorem dX9_enter_85 : decode cX9_enter 85 = .ok (.iaload, 1) := by decide +kernel
theorem dX9_enter_86 : decode cX9_enter 86 = .ok (.aaload, 1) := by decide +kernel
theorem dX9_enter_87 : decode cX9_enter 87 = .ok (.iload 4, 2) := by decide +kernel
theorem dX9_enter_89 : decode cX9_enter 89 = .ok (.iload_n 1, 1) := by decide +kernel
theorem dX9_enter_90 : decode cX9_enter 90 = .ok (.iastore, 1) := by decide +kernel
theorem dX9_enter_91 : decode cX9_enter 91 = .ok (.iconst 0, 1) := by decide +kernel
theorem dX9_enter_92 : decode cX9_enter 92 = .ok (.istore 5, 2) := by decide +kernel
theorem dX9_enter_94 : decode cX9_enter 94 = .ok (.iload 5, 2) := by decide +kernel
theorem dX9_enter_96 : decode cX9_enter 96 = .ok (.iload_n 3, 1) := by decide +kernel
theorem dX9_enter_97 : decode cX9_enter 97 = .ok (.if_icmp .ge 33, 3) := by decide +kernel
theorem dX9_enter_100 : decode cX9_enter 100 = .ok (.aload_n 0, 1) := by decide +kernel
theorem dX9_enter_101 : decode cX9_enter 101 = .ok (.dup, 1) := by decide +kernel
theorem dX9_enter_102 : decode cX9_enter 102 = .ok (.getfield 26, 3) := by decide +kernel
theorem dX9_enter_105 : decode cX9_enter 105 = .ok (.aload_n 2, 1) := by decide +kernel
theorem dX9_enter_106 : decode cX9_enter 106 = .ok (.iload 5, 2) := by decide +kernel
theorem dX9_enter_108 : decode cX9_enter 108 = .ok (.iaload, 1) := by decide +kernel
theorem dX9_enter_109 : decode cX9_enter 109 = .ok (.aload_n 2, 1) := by decide +kernel
theorem dX9_enter_110 : decode cX9_enter 110 = .ok (.iload_n 3, 1) := by decide +kernel
theorem dX9_enter_111 : decode cX9_enter 111 = .ok (.iaload, 1) := by decide +kernel
theorem dX9_enter_112 : decode cX9_enter 112 = .ok (.if_icmp .eq 7, 3) := by decide +kernel
theorem dX9_enter_115 : decode cX9_enter 115 = .ok (.iconst 1, 1) := by decide +kernel
theorem dX9_enter_116 : decode cX9_enter 116 = .ok (.goto 4, 3) := by decide +kernel
theorem dX9_enter_119 : decode cX9_enter 119 = .ok (.iconst 0, 1) := by decide +kernel
theorem dX9_enter_120 : decode cX9_enter 120 = .ok (.iand, 1) := by decide +kernel
theorem dX9_enter_121 : decode cX9_enter 121 = .ok (.putfield 26, 3) := by decide +kernel
theorem dX9_enter_124 : decode cX9_enter 124 = .ok (.iinc 5 1, 3) := by decide +kernel
theorem dX9_enter_127 : decode cX9_enter 127 = .ok (.goto (-33), 3) := by decide +kernel
theorem dX9_enter_130 : decode cX9_enter 130 = .ok (.iinc 3 1, 3) := by decide +kernel
theorem dX9_enter_133 : decode cX9_enter 133 = .ok (.goto (-107), 3) := by decide +kernel
theorem dX9_enter_136 : decode cX9_enter 136 = .ok (.return_, 1) := by decide +kernel
theorem dX9_facesNow_0 : decode cX9_facesNow 0 = .ok (.iconst 0, 1) := by decide +kernel
theorem dX9_facesNow_1 : decode cX9_facesNow 1 = .ok (.istore_n 1, 1) := by decide +kernel
theorem dX9_facesNow_2 : decode cX9_facesNow 2 = .ok (.iconst 0, 1) := by decide +kernel
theorem dX9_facesNow_3 : decode cX9_facesNow 3 = .ok (.istore_n 2, 1) := by decide +kernel
theorem dX9_facesNow_4 : decode cX9_facesNow 4 = .ok (.iload_n 2, 1) := by decide +kernel
theorem dX9_facesNow_5 : decode cX9_facesNow 5 = .ok (.aload_n 0, 1) := by decide +kernel
theorem dX9_facesNow_6 : decode cX9_facesNow 6 = .ok (.getfield 50, 3) := by decide +kernel
theorem dX9_facesNow_9 : decode cX9_facesNow 9 = .ok (.if_icmp .ge 26, 3) := by decide +kernel
theorem dX9_facesNow_12 : decode cX9_facesNow 12 = .ok (.iload_n 1, 1) := by decide +kernel
theorem dX9_facesNow_13 : decode cX9_facesNow 13 = .ok (.aload_n 0, 1) := by decide +kernel
theorem dX9_facesNow_14 : decode cX9_facesNow 14 = .ok (.getfield 20, 3) := by decide +kernel
theorem dX9_facesNow_17 : decode cX9_facesNow 17 = .ok (.iload_n 2, 1) := by decide +kernel
theorem dX9_facesNow_18 : decode cX9_facesNow 18 = .ok (.aaload, 1) := by decide +kernel
theorem dX9_facesNow_19 : decode cX9_facesNow 19 = .ok (.ifnonnull 7, 3) := by decide +kernel
theorem dX9_facesNow_22 : decode cX9_facesNow 22 = .ok (.iconst 0, 1) := by decide +kernel
theorem dX9_facesNow_23 : decode cX9_facesNow 23 = .ok (.goto 4, 3) := by decide +kernel
theorem dX9_facesNow_26 : decode cX9_facesNow 26 = .ok (.iconst 1, 1) := by decide +kernel
theorem dX9_facesNow_27 : decode cX9_facesNow 27 = .ok (.iadd, 1) := by decide +kernel
theorem dX9_facesNow_28 : decode cX9_facesNow 28 = .ok (.istore_n 1, 1) := by decide +kernel
theorem dX9_facesNow_29 : decode cX9_facesNow 29 = .ok (.iinc 2 1, 3) := by decide +kernel
theorem dX9_facesNow_32 : decode cX9_facesNow 32 = .ok (.goto (-28), 3) := by decide +kernel
theorem dX9_facesNow_35 : decode cX9_facesNow 35 = .ok (.iload_n 1, 1) := by decide +kernel
theorem dX9_facesNow_36 : decode cX9_facesNow 36 = .ok (.ireturn, 1) := by decide +kernel
theorem dX9_pointsNow_0 : decode cX9_pointsNow 0 = .ok (.iconst 0, 1) := by decide +kernel
theorem dX9_pointsNow_1 : decode cX9_pointsNow 1 = .ok (.istore_n 1, 1) := by decide +kernel
theorem dX9_pointsNow_2 : decode cX9_pointsNow 2 = .ok (.iconst 0, 1) := by decide +kernel
theorem dX9_pointsNow_3 : decode cX9_pointsNow 3 = .ok (.istore_n 2, 1) := by decide +kernel
theorem dX9_pointsNow_4 : decode cX9_pointsNow 4 = .ok (.iload_n 2, 1) := by decide +kernel
theorem dX9_pointsNow_5 : decode cX9_pointsNow 5 = .ok (.aload_n 0, 1) := by decide +kernel
theorem dX9_pointsNow_6 : decode cX9_pointsNow 6 = .ok (.getfield 47, 3) := by decide +kernel
theorem dX9_pointsNow_9 : decode cX9_pointsNow 9 = .ok (.if_icmp .ge 26, 3) := by decide +kernel
theorem dX9_pointsNow_12 : decode cX9_pointsNow 12 = .ok (.iload_n 1, 1) := by decide +kernel
theorem dX9_pointsNow_13 : decode cX9_pointsNow 13 = .ok (.aload_n 0, 1) := by decide +kernel
theorem dX9_pointsNow_14 : decode cX9_pointsNow 14 = .ok (.getfield 14, 3) := by decide +kernel
theorem dX9_pointsNow_17 : decode cX9_pointsNow 17 = .ok (.iload_n 2, 1) := by decide +kernel
theorem dX9_pointsNow_18 : decode cX9_pointsNow 18 = .ok (.baload, 1) := by decide +kernel
theorem dX9_pointsNow_19 : decode cX9_pointsNow 19 = .ok (.ifCond .eq 7, 3) := by decide +kernel
theorem dX9_pointsNow_22 : decode cX9_pointsNow 22 = .ok (.iconst 1, 1) := by decide +kernel
theorem dX9_pointsNow_23 : decode cX9_pointsNow 23 = .ok (.goto 4, 3) := by decide +kernel
theorem dX9_pointsNow_26 : decode cX9_pointsNow 26 = .ok (.iconst 0, 1) := by decide +kernel
theorem dX9_pointsNow_27 : decode cX9_pointsNow 27 = .ok (.iadd, 1) := by decide +kernel
theorem dX9_pointsNow_28 : decode cX9_pointsNow 28 = .ok (.istore_n 1, 1) := by decide +kernel
theorem dX9_pointsNow_29 : decode cX9_pointsNow 29 = .ok (.iinc 2 1, 3) := by decide +kernel
theorem dX9_pointsNow_32 : decode cX9_pointsNow 32 = .ok (.goto (-28), 3) := by decide +kernel
theorem dX9_pointsNow_35 : decode cX9_pointsNow 35 = .ok (.iload_n 1, 1) := by decide +kernel
theorem dX9_pointsNow_36 : decode cX9_pointsNow 36 = .ok (.ireturn, 1) := by decide +kernel
theorem dX9_newPoint_0 : decode cX9_newPoint 0 = .ok (.iconst 3, 1) := by decide +kernel
theorem dX9_newPoint_1 : decode cX9_newPoint 1 = .ok (.newarray .int, 2) := by decide +kernel
theorem dX9_newPoint_3 : decode cX9_newPoint 3 = .ok (.dup, 1) := by decide +kernel
theorem dX9_newPoint_4 : decode cX9_newPoint 4 = .ok (.iconst 0, 1) := by decide +kernel
theorem dX9_newPoint_5 : decode cX9_newPoint 5 = .ok (.iload_n 1, 1) := by decide +kernel
theorem dX9_newPoint_6 : decode cX9_newPoint 6 = .ok (.iastore, 1) := by decide +kernel
theorem dX9_newPoint_7 : decode cX9_newPoint 7 = .ok (.dup, 1) := by decide +kernel
theorem dX9_newPoint_8 : decode cX9_newPoint 8 = .ok (.iconst 1, 1) := by decide +kernel
theorem dX9_newPoint_9 : decode cX9_newPoint 9 = .ok (.iload_n 2, 1) := by decide +kernel
theorem dX9_newPoint_10 : decode cX9_newPoint 10 = .ok (.iastore, 1) := by decide +kernel
theorem dX9_newPoint_11 : decode cX9_newPoint 11 = .ok (.dup, 1) := by decide +kernel
theorem dX9_newPoint_12 : decode cX9_newPoint 12 = .ok (.iconst 2, 1) := by decide +kernel
theorem dX9_newPoint_13 : decode cX9_newPoint 13 = .ok (.iload_n 3, 1) := by decide +kernel
theorem dX9_newPoint_14 : decode cX9_newPoint 14 = .ok (.iastore, 1) := by decide +kernel
theorem dX9_newPoint_15 : decode cX9_newPoint 15 = .ok (.astore 4, 2) := by decide +kernel
theorem dX9_newPoint_17 : decode cX9_newPoint 17 = .ok (.aload 4, 2) := by decide +kernel
theorem dX9_newPoint_19 : decode cX9_newPoint 19 = .ok (.iconst 0, 1) := by decide +kernel
theorem dX9_newPoint_20 : decode cX9_newPoint 20 = .ok (.aload_n 0, 1) := by decide +kernel
theorem dX9_newPoint_21 : decode cX9_newPoint 21 = .ok (.getfield 11, 3) := by decide +kernel
theorem dX9_newPoint_24 : decode cX9_newPoint 24 = .ok (.aload_n 0, 1) := by decide +kernel
theorem dX9_newPoint_25 : decode cX9_newPoint 25 = .ok (.getfield 47, 3) := by decide +kernel
theorem dX9_newPoint_28 : decode cX9_newPoint 28 = .ok (.aaload, 1) := by decide +kernel
theorem dX9_newPoint_29 : decode cX9_newPoint 29 = .ok (.iconst 0, 1) := by decide +kernel
theorem dX9_newPoint_30 : decode cX9_newPoint 30 = .ok (.iconst 3, 1) := by decide +kernel
theorem dX9_newPoint_31 : decode cX9_newPoint 31 = .ok (.invokestatic 63, 3) := by decide +kernel
theorem dX9_newPoint_34 : decode cX9_newPoint 34 = .ok (.aload_n 0, 1) := by decide +kernel
theorem dX9_newPoint_35 : decode cX9_newPoint 35 = .ok (.getfield 14, 3) := by decide +kernel
theorem dX9_newPoint_38 : decode cX9_newPoint 38 = .ok (.aload_n 0, 1) := by decide +kernel
theorem dX9_newPoint_39 : decode cX9_newPoint 39 = .ok (.getfield 47, 3) := by decide +kernel
theorem dX9_newPoint_42 : decode cX9_newPoint 42 = .ok (.iconst 1, 1) := by decide +kernel
theorem dX9_newPoint_43 : decode cX9_newPoint 43 = .ok (.bastore, 1) := by decide +kernel
theorem dX9_newPoint_44 : decode cX9_newPoint 44 = .ok (.aload_n 0, 1) := by decide +kernel
theorem dX9_newPoint_45 : decode cX9_newPoint 45 = .ok (.dup, 1) := by decide +kernel
theorem dX9_newPoint_46 : decode cX9_newPoint 46 = .ok (.getfield 47, 3) := by decide +kernel
theorem dX9_newPoint_49 : decode cX9_newPoint 49 = .ok (.iconst 1, 1) := by decide +kernel
theorem dX9_newPoint_50 : decode cX9_newPoint 50 = .ok (.iadd, 1) := by decide +kernel
theorem dX9_newPoint_51 : decode cX9_newPoint 51 = .ok (.putfield 47, 3) := by decide +kernel
theorem dX9_newPoint_54 : decode cX9_newPoint 54 = .ok (.aload_n 0, 1) := by decide +kernel
theorem dX9_newPoint_55 : decode cX9_newPoint 55 = .ok (.getfield 47, 3) := by decide +kernel
theorem dX9_newPoint_58 : decode cX9_newPoint 58 = .ok (.iconst 1, 1) := by decide +kernel
theorem dX9_newPoint_59 : decode cX9_newPoint 59 = .ok (.isub, 1) := by decide +kernel
theorem dX9_newPoint_60 : decode cX9_newPoint 60 = .ok (.ireturn, 1) := by decide +kernel
theorem dX9_newFace_0 : decode cX9_newFace 0 = .ok (.aload_n 0, 1) := by decide +kernel
theorem dX9_newFace_1 : decode cX9_newFace 1 = .ok (.getfield 20, 3) := by decide +kernel
theorem dX9_newFace_4 : decode cX9_newFace 4 = .ok (.aload_n 0, 1) := by decide +kernel
theorem dX9_newFace_5 : decode cX9_newFace 5 = .ok (.getfield 50, 3) := by decide +kernel
theorem dX9_newFace_8 : decode cX9_newFace 8 = .ok (.aload_n 1, 1) := by decide +kernel
theorem dX9_newFace_9 : decode cX9_newFace 9 = .ok (.aastore, 1) := by decide +kernel
theorem dX9_newFace_10 : decode cX9_newFace 10 = .ok (.aload_n 0, 1) := by decide +kernel
theorem dX9_newFace_11 : decode cX9_newFace 11 = .ok (.dup, 1) := by decide +kernel
theorem dX9_newFace_12 : decode cX9_newFace 12 = .ok (.getfield 50, 3) := by decide +kernel
theorem dX9_newFace_15 : decode cX9_newFace 15 = .ok (.iconst 1, 1) := by decide +kernel
theorem dX9_newFace_16 : decode cX9_newFace 16 = .ok (.iadd, 1) := by decide +kernel
theorem dX9_newFace_17 : decode cX9_newFace 17 = .ok (.putfield 50, 3) := by decide +kernel
theorem dX9_newFace_20 : decode cX9_newFace 20 = .ok (.aload_n 0, 1) := by decide +kernel
theorem dX9_newFace_21 : decode cX9_newFace 21 = .ok (.getfield 50, 3) := by decide +kernel
theorem dX9_newFace_24 : decode cX9_newFace 24 = .ok (.iconst 1, 1) := by decide +kernel
theorem dX9_newFace_25 : decode cX9_newFace 25 = .ok (.isub, 1) := by decide +kernel
theorem dX9_newFace_26 : decode cX9_newFace 26 = .ok (.ireturn, 1) := by decide +kernel
set_option maxRecDepth 20000 in
theorem ggX9_point_X9_isNear : GoodIn wsX9_point wsX9_isNear := goodIn_r _ [6, 7, 8, 5, 9] (by decide +kernel) (by decide +kernel)
set_option maxRecDepth 20000 in
theorem gX9_point_X9_isNear : GoodIn wsX9_point (va_wsS RX9 90 yX9_isNear wsX9_isNear) := goodIn_app (goodIn_of _ (by decide +kernel)) ggX9_point_X9_isNear
set_option maxRecDepth 20000 in
theorem ggX9_point_X9_refuse : GoodIn wsX9_point wsX9_refuse := goodIn_r _ [13, 1, 25, 26, 27, 28, 29, 30, 31, 32, 33, 34, 35, 36, 37] (by decide +kernel) (by decide +kernel)
set_option maxRecDepth 20000 in
theorem gX9_point_X9_refuse : GoodIn wsX9_point (wsV RX9 94 RX9 yX9_refuse wsX9_refuse) := goodIn_app (goodIn_of _ (by decide +kernel)) ggX9_point_X9_refuse
set_option maxRecDepth 20000 in
theorem ggX9_point_X9_newPoint : GoodIn wsX9_point wsX9_newPoint := goodIn_r _ [17, 18, 19, 2, 20, 21, 22, 23, 24, 25, 26, 27, 28, 29, 30, 31, 32, 33, 34, 35, 36, 37] (by decide +kernel) (by decide +kernel)
set_option maxRecDepth 20000 in
theorem gX9_point_X9_newPoint : GoodIn wsX9_point (wsV RX9 86 RX9 yX9_newPoint wsX9_newPoint) := goodIn_app (goodIn_of _ (by decide +kernel)) ggX9_point_X9_newPoint
theorem dX9_point_0 : decode cX9_point 0 = .ok (.aload_n 0, 1) := by decide +kernel
theorem dX9_point_1 : decode cX9_point 1 = .ok (.iconst 0, 1) := by decide +kernel
theorem dX9_point_2 : decode cX9_point 2 = .ok (.putfield 39, 3) := by decide +kernel
theorem dX9_point_5 : decode cX9_point 5 = .ok (.iload_n 1, 1) := by decide +kernel
theorem dX9_point_6 : decode cX9_point 6 = .ok (.invokestatic 90, 3) := by decide +kernel
theorem dX9_point_9 : decode cX9_point 9 = .ok (.ifCond .eq 17, 3) := by decide +kernel
theorem dX9_point_12 : decode cX9_point 12 = .ok (.iload_n 2, 1) := by decide +kernel
theorem dX9_point_13 : decode cX9_point 13 = .ok (.invokestatic 90, 3) := by decide +kernel
theorem dX9_point_16 : decode cX9_point 16 = .ok (.ifCond .eq 10, 3) := by decide +kernel
theorem dX9_point_19 : decode cX9_point 19 = .ok (.iload_n 3, 1) := by decide +kernel
theorem dX9_point_20 : decode cX9_point 20 = .ok (.invokestatic 90, 3) := by decide +kernel
theorem dX9_point_23 : decode cX9_point 23 = .ok (.ifCond .ne 9, 3) := by decide +kernel
theorem dX9_point_26 : decode cX9_point 26 = .ok (.aload_n 0, 1) := by decide +kernel
theorem dX9_point_27 : decode cX9_point 27 = .ok (.iconst 1, 1) := by decide +kernel
theorem dX9_point_28 : decode cX9_point 28 = .ok (.invokevirtual 94, 3) := by decide +kernel
theorem dX9_point_31 : decode cX9_point 31 = .ok (.ireturn, 1) := by decide +kernel
theorem dX9_point_32 : decode cX9_point 32 = .ok (.aload_n 0, 1) := by decide +kernel
theorem dX9_point_33 : decode cX9_point 33 = .ok (.getfield 47, 3) := by decide +kernel
theorem dX9_point_36 : decode cX9_point 36 = .ok (.bipush 100, 2) := by decide +kernel
theorem dX9_point_38 : decode cX9_point 38 = .ok (.if_icmp .ne 11, 3) := by decide +kernel
theorem dX9_point_41 : decode cX9_point 41 = .ok (.aload_n 0, 1) := by decide +kernel
theorem dX9_point_42 : decode cX9_point 42 = .ok (.iconst 2, 1) := by decide +kernel
theorem dX9_point_43 : decode cX9_point 43 = .ok (.invokevirtual 94, 3) := by decide +kernel
theorem dX9_point_46 : decode cX9_point 46 = .ok (.goto 10, 3) := by decide +kernel
theorem dX9_point_49 : decode cX9_point 49 = .ok (.aload_n 0, 1) := by decide +kernel
theorem dX9_point_50 : decode cX9_point 50 = .ok (.iload_n 1, 1) := by decide +kernel
theorem dX9_point_51 : decode cX9_point 51 = .ok (.iload_n 2, 1) := by decide +kernel
theorem dX9_point_52 : decode cX9_point 52 = .ok (.iload_n 3, 1) := by decide +kernel
theorem dX9_point_53 : decode cX9_point 53 = .ok (.invokevirtual 86, 3) := by decide +kernel
theorem dX9_point_56 : decode cX9_point 56 = .ok (.ireturn, 1) := by decide +kernel
set_option maxRecDepth 20000 in
theorem ggX9_move_X9_isPoint : GoodIn wsX9_move wsX9_isPoint := goodIn_r _ [8, 9, 10, 11, 12, 7, 13, 21, 22, 23, 24, 25, 26, 27, 28, 29, 30, 31, 32, 33] (by decide +kernel) (by decide +kernel)
set_option maxRecDepth 20000 in
theorem gX9_move_X9_isPoint : GoodIn wsX9_move (wsV RX9 98 RX9 yX9_isPoint wsX9_isPoint) := goodIn_app (goodIn_of _ (by decide +kernel)) ggX9_move_X9_isPoint
set_option maxRecDepth 20000 in
theorem ggX9_move_X9_refuse : GoodIn wsX9_move wsX9_refuse := goodIn_r _ [17, 1, 21, 22, 23, 24, 25, 26, 27, 28, 29, 30, 31, 32, 33] (by decide +kernel) (by decide +kernel)
set_option maxRecDepth 20000 in
theorem gX9_move_X9_refuse : GoodIn wsX9_move (wsV RX9 94 RX9 yX9_refuse wsX9_refuse) := goodIn_app (goodIn_of _ (by decide +kernel)) ggX9_move_X9_refuse
set_option maxRecDepth 20000 in
theorem ggX9_move_X9_isNear : GoodIn wsX9_move wsX9_isNear := goodIn_r _ [20, 11, 12, 7, 13] (by decide +kernel) (by decide +kernel)
set_option maxRecDepth 20000 in
theorem gX9_move_X9_isNear : GoodIn wsX9_move (va_wsS RX9 90 yX9_isNear wsX9_isNear) := goodIn_app (goodIn_of _ (by decide +kernel)) ggX9_move_X9_isNear
theorem dX9_move_0 : decode cX9_move 0 = .ok (.aload_n 0, 1) := by decide +kernel
theorem dX9_move_1 : decode cX9_move 1 = .ok (.iconst 0, 1) := by decide +kernel
theorem dX9_move_2 : decode cX9_move 2 = .ok (.putfield 39, 3) := by decide +kernel
theorem dX9_move_5 : decode cX9_move 5 = .ok (.aload_n 0, 1) := by decide +kernel
theorem dX9_move_6 : decode cX9_move 6 = .ok (.iload_n 1, 1) := by decide +kernel
theorem dX9_move_7 : decode cX9_move 7 = .ok (.invokevirtual 98, 3) := by decide +kernel
theorem dX9_move_10 : decode cX9_move 10 = .ok (.ifCond .ne 9, 3) := by decide +kernel
theorem dX9_move_13 : decode cX9_move 13 = .ok (.aload_n 0, 1) := by decide +kernel
theorem dX9_move_14 : decode cX9_move 14 = .ok (.iconst 1, 1) := by decide +kernel
theorem dX9_move_15 : decode cX9_move 15 = .ok (.invokevirtual 94, 3) := by decide +kernel
theorem dX9_move_18 : decode cX9_move 18 = .ok (.ireturn, 1) := by decide +kernel
theorem dX9_move_19 : decode cX9_move 19 = .ok (.iload_n 2, 1) := by decide +kernel
theorem dX9_move_20 : decode cX9_move 20 = .ok (.invokestatic 90, 3) := by decide +kernel
theorem dX9_move_23 : decode cX9_move 23 = .ok (.ifCond .eq 18, 3) := by decide +kernel
theorem dX9_move_26 : decode cX9_move 26 = .ok (.iload_n 3, 1) := by decide +kernel
theorem dX9_move_27 : decode cX9_move 27 = .ok (.invokestatic 90, 3) := by decide +kernel
theorem dX9_move_30 : decode cX9_move 30 = .ok (.ifCond .eq 11, 3) := by decide +kernel
theorem dX9_move_33 : decode cX9_move 33 = .ok (.iload 4, 2) := by decide +kernel
theorem dX9_move_35 : decode cX9_move 35 = .ok (.invokestatic 90, 3) := by decide +kernel
theorem dX9_move_38 : decode cX9_move 38 = .ok (.ifCond .ne 9, 3) := by decide +kernel
theorem dX9_move_41 : decode cX9_move 41 = .ok (.aload_n 0, 1) := by decide +kernel
theorem dX9_move_42 : decode cX9_move 42 = .ok (.iconst 2, 1) := by decide +kernel
theorem dX9_move_43 : decode cX9_move 43 = .ok (.invokevirtual 94, 3) := by decide +kernel
theorem dX9_move_46 : decode cX9_move 46 = .ok (.ireturn, 1) := by decide +kernel
theorem dX9_move_47 : decode cX9_move 47 = .ok (.iconst 3, 1) := by decide +kernel
theorem dX9_move_48 : decode cX9_move 48 = .ok (.newarray .int, 2) := by decide +kernel
theorem dX9_move_50 : decode cX9_move 50 = .ok (.dup, 1) := by decide +kernel
theorem dX9_move_51 : decode cX9_move 51 = .ok (.iconst 0, 1) := by decide +kernel
theorem dX9_move_52 : decode cX9_move 52 = .ok (.iload_n 2, 1) := by decide +kernel
theorem dX9_move_53 : decode cX9_move 53 = .ok (.iastore, 1) := by decide +kernel
theorem dX9_move_54 : decode cX9_move 54 = .ok (.dup, 1) := by decide +kernel
theorem dX9_move_55 : decode cX9_move 55 = .ok (.iconst 1, 1) := by decide +kernel
theorem dX9_move_56 : decode cX9_move 56 = .ok (.iload_n 3, 1) := by decide +kernel
theorem dX9_move_57 : decode cX9_move 57 = .ok (.iastore, 1) := by decide +kernel
theorem dX9_move_58 : decode cX9_move 58 = .ok (.dup, 1) := by decide +kernel
theorem dX9_move_59 : decode cX9_move 59 = .ok (.iconst 2, 1) := by decide +kernel
theorem dX9_move_60 : decode cX9_move 60 = .ok (.iload 4, 2) := by decide +kernel
theorem dX9_move_62 : decode cX9_move 62 = .ok (.iastore, 1) := by decide +kernel
theorem dX9_move_63 : decode cX9_move 63 = .ok (.astore 5, 2) := by decide +kernel
theorem dX9_move_65 : decode cX9_move 65 = .ok (.iconst 0, 1) := by decide +kernel
theorem dX9_move_66 : decode cX9_move 66 = .ok (.istore 6, 2) := by decide +kernel
theorem dX9_move_68 : decode cX9_move 68 = .ok (.iconst 0, 1) := by decide +kernel
theorem dX9_move_69 : decode cX9_move 69 = .ok (.istore 7, 2) := by decide +kernel
theorem dX9_move_71 : decode cX9_move 71 = .ok (.iload 7, 2) := by decide +kernel
theorem dX9_move_73 : decode cX9_move 73 = .ok (.iconst 3, 1) := by decide +kernel
theorem dX9_move_74 : decode cX9_move 74 = .ok (.if_icmp .ge 59, 3) := by decide +kernel
theorem dX9_move_77 : decode cX9_move 77 = .ok (.iload 6, 2) := by decide +kernel
theorem dX9_move_79 : decode cX9_move 79 = .ok (.aload 5, 2) := by decide +kernel
theorem dX9_move_81 : decode cX9_move 81 = .ok (.iload 7, 2) := by decide +kernel
theorem dX9_move_83 : decode cX9_move 83 = .ok (.iaload, 1) := by decide +kernel
theorem dX9_move_84 : decode cX9_move 84 = .ok (.aload_n 0, 1) := by decide +kernel
theorem dX9_move_85 : decode cX9_move 85 = .ok (.getfield 11, 3) := by decide +kernel
theorem dX9_move_88 : decode cX9_move 88 = .ok (.iload_n 1, 1) := by decide +kernel
theorem dX9_move_89 : decode cX9_move 89 = .ok (.aaload, 1) := by decide +kernel
theorem dX9_move_90 : decode cX9_move 90 = .ok (.iload 7, 2) := by decide +kernel
theorem dX9_move_92 : decode cX9_move 92 = .ok (.iaload, 1) := by decide +kernel
theorem dX9_move_93 : decode cX9_move 93 = .ok (.isub, 1) := by decide +kernel
theorem dX9_move_94 : decode cX9_move 94 = .ok (.aload 5, 2) := by decide +kernel
theorem dX9_move_96 : decode cX9_move 96 = .ok (.iload 7, 2) := by decide +kernel
theorem dX9_move_98 : decode cX9_move 98 = .ok (.iaload, 1) := by decide +kernel
theorem dX9_move_99 : decode cX9_move 99 = .ok (.aload_n 0, 1) := by decide +kernel
theorem dX9_move_100 : decode cX9_move 100 = .ok (.getfield 11, 3) := by decide +kernel
theorem dX9_move_103 : decode cX9_move 103 = .ok (.iload_n 1, 1) := by decide +kernel
theorem dX9_move_104 : decode cX9_move 104 = .ok (.aaload, 1) := by decide +kernel
theorem dX9_move_105 : decode cX9_move 105 = .ok (.iload 7, 2) := by decide +kernel
theorem dX9_move_107 : decode cX9_move 107 = .ok (.iaload, 1) := by decide +kernel
theorem dX9_move_108 : decode cX9_move 108 = .ok (.isub, 1) := by decide +kernel
theorem dX9_move_109 : decode cX9_move 109 = .ok (.imul, 1) := by decide +kernel
theorem dX9_move_110 : decode cX9_move 110 = .ok (.iadd, 1) := by decide +kernel
theorem dX9_move_111 : decode cX9_move 111 = .ok (.istore 6, 2) := by decide +kernel
theorem dX9_move_113 : decode cX9_move 113 = .ok (.aload_n 0, 1) := by decide +kernel
theorem dX9_move_114 : decode cX9_move 114 = .ok (.getfield 11, 3) := by decide +kernel
theorem dX9_move_117 : decode cX9_move 117 = .ok (.iload_n 1, 1) := by decide +kernel
theorem dX9_move_118 : decode cX9_move 118 = .ok (.aaload, 1) := by decide +kernel
theorem dX9_move_119 : decode cX9_move 119 = .ok (.iload 7, 2) := by decide +kernel
theorem dX9_move_121 : decode cX9_move 121 = .ok (.aload 5, 2) := by decide +kernel
theorem dX9_move_123 : decode cX9_move 123 = .ok (.iload 7, 2) := by decide +kernel
theorem dX9_move_125 : decode cX9_move 125 = .ok (.iaload, 1) := by decide +kernel
theorem dX9_move_126 : decode cX9_move 126 = .ok (.iastore, 1) := by decide +kernel
theorem dX9_move_127 : decode cX9_move 127 = .ok (.iinc 7 1, 3) := by decide +kernel
theorem dX9_move_130 : decode cX9_move 130 = .ok (.goto (-59), 3) := by decide +kernel
theorem dX9_move_133 : decode cX9_move 133 = .ok (.iload 6, 2) := by decide +kernel
theorem dX9_move_135 : decode cX9_move 135 = .ok (.ireturn, 1) := by decide +kernel
set_option maxRecDepth 20000 in
theorem ggX9_face_X9_isPoint : GoodIn wsX9_face wsX9_isPoint := goodIn_r _ [8, 9, 10, 11, 12, 7, 13, 57, 58, 59, 60, 61, 62, 63, 64, 65, 66, 67, 68, 69] (by decide +kernel) (by decide +kernel)
set_option maxRecDepth 20000 in
theorem gX9_face_X9_isPoint : GoodIn wsX9_face (wsV RX9 98 RX9 yX9_isPoint wsX9_isPoint) := goodIn_app (goodIn_of _ (by decide +kernel)) ggX9_face_X9_isPoint
set_option maxRecDepth 20000 in
theorem ggX9_face_X9_refuse : GoodIn wsX9_face wsX9_refuse := goodIn_r _ [17, 1, 57, 58, 59, 60, 61, 62, 63, 64, 65, 66, 67, 68, 69] (by decide +kernel) (by decide +kernel)
set_option maxRecDepth 20000 in
theorem gX9_face_X9_refuse : GoodIn wsX9_face (wsV RX9 94 RX9 yX9_refuse wsX9_refuse) := goodIn_app (goodIn_of _ (by decide +kernel)) ggX9_face_X9_refuse
set_option maxRecDepth 20000 in
theorem ggX9_face_X9_keep : GoodIn wsX9_face wsX9_keep := goodIn_r _ [21, 22, 23, 24, 25, 26, 27, 10, 28, 9, 29, 2, 30, 57, 58, 59, 60, 61, 62, 63, 64, 65, 66, 67, 68, 69] (by decide +kernel) (by decide +kernel)
set_option maxRecDepth 20000 in
theorem gX9_face_X9_keep : GoodIn wsX9_face (wsV RX9 101 RX9 yX9_keep wsX9_keep) := goodIn_app (goodIn_of _ (by decide +kernel)) ggX9_face_X9_keep
set_option maxRecDepth 20000 in
theorem ggX9_face_X9_newFace : GoodIn wsX9_face wsX9_newFace := goodIn_r _ [34, 22, 2, 57, 58, 59, 60, 61, 62, 63, 64, 65, 66, 67, 68, 69] (by decide +kernel) (by decide +kernel)
set_option maxRecDepth 20000 in
theorem gX9_face_X9_newFace : GoodIn wsX9_face (wsV RX9 104 RX9 yX9_newFace wsX9_newFace) := goodIn_app (goodIn_of _ (by decide +kernel)) ggX9_face_X9_newFace
set_option maxRecDepth 20000 in
theorem ggX9_face_X9_isDone : GoodIn wsX9_face wsX9_isDone := goodIn_r _ [38, 39, 40, 41, 42, 7, 43, 44, 9, 2, 22, 45, 46, 47, 48, 49, 50, 51, 52, 11, 12, 13, 53, 54, 55, 56, 23, 24, 25, 26, 27, 28, 10, 29, 30, 57, 58, 59, 60, 61, 62, 63, 64, 65, 66, 67, 68, 69] (by decide +kernel) (by decide +kernel)
set_option maxRecDepth 20000 in
theorem gX9_face_X9_isDone : GoodIn wsX9_face (wsV RX9 108 RX9 yX9_isDone wsX9_isDone) := goodIn_app (goodIn_of _ (by decide +kernel)) ggX9_face_X9_isDone
theorem dX9_face_0 : decode cX9_face 0 = .ok (.aload_n 0, 1) := by decide +kernel
theorem dX9_face_1 : decode cX9_face 1 = .ok (.iconst 0, 1) := by decide +kernel
theorem dX9_face_2 : decode cX9_face 2 = .ok (.putfield 39, 3) := by decide +kernel
theorem dX9_face_5 : decode cX9_face 5 = .ok (.aload_n 0, 1) := by decide +kernel
theorem dX9_face_6 : decode cX9_face 6 = .ok (.iload_n 1, 1) := by decide +kernel
theorem dX9_face_7 : decode cX9_face 7 = .ok (.invokevirtual 98, 3) := by decide +kernel
theorem dX9_face_10 : decode cX9_face 10 = .ok (.ifCond .eq 34, 3) := by decide +kernel
theorem dX9_face_13 : decode cX9_face 13 = .ok (.aload_n 0, 1) := by decide +kernel
theorem dX9_face_14 : decode cX9_face 14 = .ok (.iload_n 2, 1) := by decide +kernel
theorem dX9_face_15 : decode cX9_face 15 = .ok (.invokevirtual 98, 3) := by decide +kernel
theorem dX9_face_18 : decode cX9_face 18 = .ok (.ifCond .eq 26, 3) := by decide +kernel
theorem dX9_face_21 : decode cX9_face 21 = .ok (.aload_n 0, 1) := by decide +kernel
theorem dX9_face_22 : decode cX9_face 22 = .ok (.iload_n 3, 1) := by decide +kernel
theorem dX9_face_23 : decode cX9_face 23 = .ok (.invokevirtual 98, 3) := by decide +kernel
theorem dX9_face_26 : decode cX9_face 26 = .ok (.ifCond .eq 18, 3) := by decide +kernel
theorem dX9_face_29 : decode cX9_face 29 = .ok (.iload 4, 2) := by decide +kernel
theorem dX9_face_31 : decode cX9_face 31 = .ok (.iconst (-1), 1) := by decide +kernel
theorem dX9_face_32 : decode cX9_face 32 = .ok (.if_icmp .eq 18, 3) := by decide +kernel
theorem dX9_face_35 : decode cX9_face 35 = .ok (.aload_n 0, 1) := by decide +kernel
theorem dX9_face_36 : decode cX9_face 36 = .ok (.iload 4, 2) := by decide +kernel
theorem dX9_face_38 : decode cX9_face 38 = .ok (.invokevirtual 98, 3) := by decide +kernel
theorem dX9_face_41 : decode cX9_face 41 = .ok (.ifCond .ne 9, 3) := by decide +kernel
theorem dX9_face_44 : decode cX9_face 44 = .ok (.aload_n 0, 1) := by decide +kernel
theorem dX9_face_45 : decode cX9_face 45 = .ok (.iconst 1, 1) := by decide +kernel
theorem dX9_face_46 : decode cX9_face 46 = .ok (.invokevirtual 94, 3) := by decide +kernel
theorem dX9_face_49 : decode cX9_face 49 = .ok (.ireturn, 1) := by decide +kernel
theorem dX9_face_50 : decode cX9_face 50 = .ok (.aload_n 0, 1) := by decide +kernel
theorem dX9_face_51 : decode cX9_face 51 = .ok (.getfield 50, 3) := by decide +kernel
theorem dX9_face_54 : decode cX9_face 54 = .ok (.sipush 160, 3) := by decide +kernel
theorem dX9_face_57 : decode cX9_face 57 = .ok (.if_icmp .ne 9, 3) := by decide +kernel
theorem dX9_face_60 : decode cX9_face 60 = .ok (.aload_n 0, 1) := by decide +kernel
theorem dX9_face_61 : decode cX9_face 61 = .ok (.iconst 2, 1) := by decide +kernel
theorem dX9_face_62 : decode cX9_face 62 = .ok (.invokevirtual 94, 3) := by decide +kernel
theorem dX9_face_65 : decode cX9_face 65 = .ok (.ireturn, 1) := by decide +kernel
theorem dX9_face_66 : decode cX9_face 66 = .ok (.aload_n 0, 1) := by decide +kernel
theorem dX9_face_67 : decode cX9_face 67 = .ok (.invokevirtual 101, 3) := by decide +kernel
theorem dX9_face_70 : decode cX9_face 70 = .ok (.iconst 3, 1) := by decide +kernel
theorem dX9_face_71 : decode cX9_face 71 = .ok (.newarray .int, 2) := by decide +kernel
theorem dX9_face_73 : decode cX9_face 73 = .ok (.dup, 1) := by decide +kernel
theorem dX9_face_74 : decode cX9_face 74 = .ok (.iconst 0, 1) := by decide +kernel
theorem dX9_face_75 : decode cX9_face 75 = .ok (.iload_n 1, 1) := by decide +kernel
theorem dX9_face_76 : decode cX9_face 76 = .ok (.iastore, 1) := by decide +kernel
theorem dX9_face_77 : decode cX9_face 77 = .ok (.dup, 1) := by decide +kernel
theorem dX9_face_78 : decode cX9_face 78 = .ok (.iconst 1, 1) := by decide +kernel
theorem dX9_face_79 : decode cX9_face 79 = .ok (.iload_n 2, 1) := by decide +kernel
theorem dX9_face_80 : decode cX9_face 80 = .ok (.iastore, 1) := by decide +kernel
theorem dX9_face_81 : decode cX9_face 81 = .ok (.dup, 1) := by decide +kernel
theorem dX9_face_82 : decode cX9_face 82 = .ok (.iconst 2, 1) := by decide +kernel
theorem dX9_face_83 : decode cX9_face 83 = .ok (.iload_n 3, 1) := by decide +kernel
theorem dX9_face_84 : decode cX9_face 84 = .ok (.iastore, 1) := by decide +kernel
theorem dX9_face_85 : decode cX9_face 85 = .ok (.astore 5, 2) := by decide +kernel
theorem dX9_face_87 : decode cX9_face 87 = .ok (.iconst 4, 1) := by decide +kernel
theorem dX9_face_88 : decode cX9_face 88 = .ok (.newarray .int, 2) := by decide +kernel
theorem dX9_face_90 : decode cX9_face 90 = .ok (.dup, 1) := by decide +kernel
theorem dX9_face_91 : decode cX9_face 91 = .ok (.iconst 0, 1) := by decide +kernel
theorem dX9_face_92 : decode cX9_face 92 = .ok (.iload_n 1, 1) := by decide +kernel
theorem dX9_face_93 : decode cX9_face 93 = .ok (.iastore, 1) := by decide +kernel
theorem dX9_face_94 : decode cX9_face 94 = .ok (.dup, 1) := by decide +kernel
theorem dX9_face_95 : decode cX9_face 95 = .ok (.iconst 1, 1) := by decide +kernel
theorem dX9_face_96 : decode cX9_face 96 = .ok (.iload_n 2, 1) := by decide +kernel
theorem dX9_face_97 : decode cX9_face 97 = .ok (.iastore, 1) := by decide +kernel
theorem dX9_face_98 : decode cX9_face 98 = .ok (.dup, 1) := by decide +kernel
theorem dX9_face_99 : decode cX9_face 99 = .ok (.iconst 2, 1) := by decide +kernel
theorem dX9_face_100 : decode cX9_face 100 = .ok (.iload_n 3, 1) := by decide +kernel
theorem dX9_face_101 : decode cX9_face 101 = .ok (.iastore, 1) := by decide +kernel
theorem dX9_face_102 : decode cX9_face 102 = .ok (.dup, 1) := by decide +kernel
theorem dX9_face_103 : decode cX9_face 103 = .ok (.iconst 3, 1) := by decide +kernel
theorem dX9_face_104 : decode cX9_face 104 = .ok (.iload 4, 2) := by decide +kernel
theorem dX9_face_106 : decode cX9_face 106 = .ok (.iastore, 1) := by decide +kernel
theorem dX9_face_107 : decode cX9_face 107 = .ok (.astore 6, 2) := by decide +kernel
theorem dX9_face_109 : decode cX9_face 109 = .ok (.aload_n 0, 1) := by decide +kernel
theorem dX9_face_110 : decode cX9_face 110 = .ok (.iload 4, 2) := by decide +kernel
theorem dX9_face_112 : decode cX9_face 112 = .ok (.iconst (-1), 1) := by decide +kernel
theorem dX9_face_113 : decode cX9_face 113 = .ok (.if_icmp .ne 8, 3) := by decide +kernel
theorem dX9_face_116 : decode cX9_face 116 = .ok (.aload 5, 2) := by decide +kernel
theorem dX9_face_118 : decode cX9_face 118 = .ok (.goto 5, 3) := by decide +kernel
theorem dX9_face_121 : decode cX9_face 121 = .ok (.aload 6, 2) := by decide +kernel
theorem dX9_face_123 : decode cX9_face 123 = .ok (.invokevirtual 104, 3) := by decide +kernel
theorem dX9_face_126 : decode cX9_face 126 = .ok (.istore 7, 2) := by decide +kernel
theorem dX9_face_128 : decode cX9_face 128 = .ok (.aload_n 0, 1) := by decide +kernel
theorem dX9_face_129 : decode cX9_face 129 = .ok (.invokevirtual 108, 3) := by decide +kernel
theorem dX9_face_132 : decode cX9_face 132 = .ok (.ifCond .eq 8, 3) := by decide +kernel
theorem dX9_face_135 : decode cX9_face 135 = .ok (.iload 7, 2) := by decide +kernel
theorem dX9_face_137 : decode cX9_face 137 = .ok (.goto 8, 3) := by decide +kernel
theorem dX9_face_140 : decode cX9_face 140 = .ok (.aload_n 0, 1) := by decide +kernel
theorem dX9_face_141 : decode cX9_face 141 = .ok (.iconst 2, 1) := by decide +kernel
theorem dX9_face_142 : decode cX9_face 142 = .ok (.invokevirtual 94, 3) := by decide +kernel
theorem dX9_face_145 : decode cX9_face 145 = .ok (.ireturn, 1) := by decide +kernel
set_option maxRecDepth 20000 in
theorem ggX9_dropFace_X9_isFace : GoodIn wsX9_dropFace wsX9_isFace := goodIn_r _ [7, 8, 2, 9, 10, 6, 11, 35, 36, 37, 38, 39, 40, 41, 42, 43, 44, 45, 46, 47] (by decide +kernel) (by decide +kernel)
set_option maxRecDepth 20000 in
theorem gX9_dropFace_X9_isFace : GoodIn wsX9_dropFace (wsV RX9 112 RX9 yX9_isFace wsX9_isFace) := goodIn_app (goodIn_of _ (by decide +kernel)) ggX9_dropFace_X9_isFace
set_option maxRecDepth 20000 in
theorem ggX9_dropFace_X9_refuse : GoodIn wsX9_dropFace wsX9_refuse := goodIn_r _ [15, 1, 35, 36, 37, 38, 39, 40, 41, 42, 43, 44, 45, 46, 47] (by decide +kernel) (by decide +kernel)
set_option maxRecDepth 20000 in
theorem gX9_dropFace_X9_refuse : GoodIn wsX9_dropFace (wsV RX9 94 RX9 yX9_refuse wsX9_refuse) := goodIn_app (goodIn_of _ (by decide +kernel)) ggX9_dropFace_X9_refuse
set_option maxRecDepth 20000 in
theorem ggX9_dropFace_X9_table : GoodIn wsX9_dropFace wsX9_table := goodIn_r _ [19, 20, 21, 8, 22, 2, 23, 24, 25, 26, 27, 28, 29, 6, 30, 9, 10, 11, 35, 36, 37, 38, 39, 40, 41, 42, 43, 44, 45, 46, 47] (by decide +kernel) (by decide +kernel)
set_option maxRecDepth 20000 in
theorem gX9_dropFace_X9_table : GoodIn wsX9_dropFace (wsV RX9 36 RX9 yX9_table wsX9_table) := goodIn_app (goodIn_of _ (by decide +kernel)) ggX9_dropFace_X9_table
set_option maxRecDepth 20000 in
theorem ggX9_dropFace_X9_facesNow : GoodIn wsX9_dropFace wsX9_facesNow := goodIn_r _ [34, 8, 2, 35, 36, 37, 38, 39, 40, 41, 42, 43, 44, 45, 46, 47] (by decide +kernel) (by decide +kernel)
set_option maxRecDepth 20000 in
theorem gX9_dropFace_X9_facesNow : GoodIn wsX9_dropFace (wsV RX9 115 RX9 yX9_facesNow wsX9_facesNow) := goodIn_app (goodIn_of _ (by decide +kernel)) ggX9_dropFace_X9_facesNow
theorem dX9_dropFace_0 : decode cX9_dropFace 0 = .ok (.aload_n 0, 1) := by decide +kernel
theorem dX9_dropFace_1 : decode cX9_dropFace 1 = .ok (.iconst 0, 1) := by decide +kernel
theorem dX9_dropFace_2 : decode cX9_dropFace 2 = .ok (.putfield 39, 3) := by decide +kernel
theorem dX9_dropFace_5 : decode cX9_dropFace 5 = .ok (.aload_n 0, 1) := by decide +kernel
theorem dX9_dropFace_6 : decode cX9_dropFace 6 = .ok (.iload_n 1, 1) := by decide +kernel
theorem dX9_dropFace_7 : decode cX9_dropFace 7 = .ok (.invokevirtual 112, 3) := by decide +kernel
theorem dX9_dropFace_10 : decode cX9_dropFace 10 = .ok (.ifCond .ne 9, 3) := by decide +kernel
theorem dX9_dropFace_13 : decode cX9_dropFace 13 = .ok (.aload_n 0, 1) := by decide +kernel
theorem dX9_dropFace_14 : decode cX9_dropFace 14 = .ok (.iconst 1, 1) := by decide +kernel
theorem dX9_dropFace_15 : decode cX9_dropFace 15 = .ok (.invokevirtual 94, 3) := by decide +kernel
theorem dX9_dropFace_18 : decode cX9_dropFace 18 = .ok (.ireturn, 1) := by decide +kernel
theorem dX9_dropFace_19 : decode cX9_dropFace 19 = .ok (.aload_n 0, 1) := by decide +kernel
theorem dX9_dropFace_20 : decode cX9_dropFace 20 = .ok (.getfield 20, 3) := by decide +kernel
theorem dX9_dropFace_23 : decode cX9_dropFace 23 = .ok (.iload_n 1, 1) := by decide +kernel
theorem dX9_dropFace_24 : decode cX9_dropFace 24 = .ok (.aconst_null, 1) := by decide +kernel
theorem dX9_dropFace_25 : decode cX9_dropFace 25 = .ok (.aastore, 1) := by decide +kernel
theorem dX9_dropFace_26 : decode cX9_dropFace 26 = .ok (.aload_n 0, 1) := by decide +kernel
theorem dX9_dropFace_27 : decode cX9_dropFace 27 = .ok (.invokevirtual 36, 3) := by decide +kernel
theorem dX9_dropFace_30 : decode cX9_dropFace 30 = .ok (.aload_n 0, 1) := by decide +kernel
theorem dX9_dropFace_31 : decode cX9_dropFace 31 = .ok (.invokevirtual 115, 3) := by decide +kernel
theorem dX9_dropFace_34 : decode cX9_dropFace 34 = .ok (.ireturn, 1) := by decide +kernel
set_option maxRecDepth 20000 in
theorem ggX9_dropPoint_X9_isPoint : GoodIn wsX9_dropPoint wsX9_isPoint := goodIn_r _ [9, 10, 4, 11, 12, 8, 13, 30, 31, 32, 33, 34, 35, 36, 37, 38, 39, 40, 41, 42] (by decide +kernel) (by decide +kernel)
set_option maxRecDepth 20000 in
theorem gX9_dropPoint_X9_isPoint : GoodIn wsX9_dropPoint (wsV RX9 98 RX9 yX9_isPoint wsX9_isPoint) := goodIn_app (goodIn_of _ (by decide +kernel)) ggX9_dropPoint_X9_isPoint
set_option maxRecDepth 20000 in
theorem ggX9_dropPoint_X9_refuse : GoodIn wsX9_dropPoint wsX9_refuse := goodIn_r _ [17, 1, 30, 31, 32, 33, 34, 35, 36, 37, 38, 39, 40, 41, 42] (by decide +kernel) (by decide +kernel)
set_option maxRecDepth 20000 in
theorem gX9_dropPoint_X9_refuse : GoodIn wsX9_dropPoint (wsV RX9 94 RX9 yX9_refuse wsX9_refuse) := goodIn_app (goodIn_of _ (by decide +kernel)) ggX9_dropPoint_X9_refuse
set_option maxRecDepth 20000 in
theorem ggX9_dropPoint_X9_has : GoodIn wsX9_dropPoint wsX9_has := goodIn_r _ [21, 22, 23, 24, 8, 25, 3, 30, 31, 32, 33, 34, 35, 36, 37, 38, 39, 40, 41, 42] (by decide +kernel) (by decide +kernel)
set_option maxRecDepth 20000 in
theorem gX9_dropPoint_X9_has : GoodIn wsX9_dropPoint (wsV RX9 119 RX9 yX9_has wsX9_has) := goodIn_app (goodIn_of _ (by decide +kernel)) ggX9_dropPoint_X9_has
set_option maxRecDepth 20000 in
theorem ggX9_dropPoint_X9_pointsNow : GoodIn wsX9_dropPoint wsX9_pointsNow := goodIn_r _ [29, 10, 4, 30, 31, 32, 33, 34, 35, 36, 37, 38, 39, 40, 41, 42] (by decide +kernel) (by decide +kernel)
set_option maxRecDepth 20000 in
theorem gX9_dropPoint_X9_pointsNow : GoodIn wsX9_dropPoint (wsV RX9 123 RX9 yX9_pointsNow wsX9_pointsNow) := goodIn_app (goodIn_of _ (by decide +kernel)) ggX9_dropPoint_X9_pointsNow
theorem dX9_dropPoint_0 : decode cX9_dropPoint 0 = .ok (.aload_n 0, 1) := by decide +kernel
theorem dX9_dropPoint_1 : decode cX9_dropPoint 1 = .ok (.iconst 0, 1) := by decide +kernel
theorem dX9_dropPoint_2 : decode cX9_dropPoint 2 = .ok (.putfield 39, 3) := by decide +kernel
theorem dX9_dropPoint_5 : decode cX9_dropPoint 5 = .ok (.aload_n 0, 1) := by decide +kernel
theorem dX9_dropPoint_6 : decode cX9_dropPoint 6 = .ok (.iload_n 1, 1) := by decide +kernel
theorem dX9_dropPoint_7 : decode cX9_dropPoint 7 = .ok (.invokevirtual 98, 3) := by decide +kernel
theorem dX9_dropPoint_10 : decode cX9_dropPoint 10 = .ok (.ifCond .ne 9, 3) := by decide +kernel
theorem dX9_dropPoint_13 : decode cX9_dropPoint 13 = .ok (.aload_n 0, 1) := by decide +kernel
theorem dX9_dropPoint_14 : decode cX9_dropPoint 14 = .ok (.iconst 1, 1) := by decide +kernel
theorem dX9_dropPoint_15 : decode cX9_dropPoint 15 = .ok (.invokevirtual 94, 3) := by decide +kernel
theorem dX9_dropPoint_18 : decode cX9_dropPoint 18 = .ok (.ireturn, 1) := by decide +kernel
theorem dX9_dropPoint_19 : decode cX9_dropPoint 19 = .ok (.iconst 0, 1) := by decide +kernel
theorem dX9_dropPoint_20 : decode cX9_dropPoint 20 = .ok (.istore_n 2, 1) := by decide +kernel
theorem dX9_dropPoint_21 : decode cX9_dropPoint 21 = .ok (.iload_n 2, 1) := by decide +kernel
theorem dX9_dropPoint_22 : decode cX9_dropPoint 22 = .ok (.aload_n 0, 1) := by decide +kernel
theorem dX9_dropPoint_23 : decode cX9_dropPoint 23 = .ok (.getfield 50, 3) := by decide +kernel
theorem dX9_dropPoint_26 : decode cX9_dropPoint 26 = .ok (.if_icmp .ge 33, 3) := by decide +kernel
theorem dX9_dropPoint_29 : decode cX9_dropPoint 29 = .ok (.aload_n 0, 1) := by decide +kernel
theorem dX9_dropPoint_30 : decode cX9_dropPoint 30 = .ok (.getfield 20, 3) := by decide +kernel
theorem dX9_dropPoint_33 : decode cX9_dropPoint 33 = .ok (.iload_n 2, 1) := by decide +kernel
theorem dX9_dropPoint_34 : decode cX9_dropPoint 34 = .ok (.aaload, 1) := by decide +kernel
theorem dX9_dropPoint_35 : decode cX9_dropPoint 35 = .ok (.ifnull 18, 3) := by decide +kernel
theorem dX9_dropPoint_38 : decode cX9_dropPoint 38 = .ok (.aload_n 0, 1) := by decide +kernel
theorem dX9_dropPoint_39 : decode cX9_dropPoint 39 = .ok (.iload_n 2, 1) := by decide +kernel
theorem dX9_dropPoint_40 : decode cX9_dropPoint 40 = .ok (.iload_n 1, 1) := by decide +kernel
theorem dX9_dropPoint_41 : decode cX9_dropPoint 41 = .ok (.invokevirtual 119, 3) := by decide +kernel
theorem dX9_dropPoint_44 : decode cX9_dropPoint 44 = .ok (.ifCond .eq 9, 3) := by decide +kernel
theorem dX9_dropPoint_47 : decode cX9_dropPoint 47 = .ok (.aload_n 0, 1) := by decide +kernel
theorem dX9_dropPoint_48 : decode cX9_dropPoint 48 = .ok (.iconst 2, 1) := by decide +kernel
theorem dX9_dropPoint_49 : decode cX9_dropPoint 49 = .ok (.invokevirtual 94, 3) := by decide +kernel
theorem dX9_dropPoint_52 : decode cX9_dropPoint 52 = .ok (.ireturn, 1) := by decide +kernel
theorem dX9_dropPoint_53 : decode cX9_dropPoint 53 = .ok (.iinc 2 1, 3) := by decide +kernel
theorem dX9_dropPoint_56 : decode cX9_dropPoint 56 = .ok (.goto (-35), 3) := by decide +kernel
theorem dX9_dropPoint_59 : decode cX9_dropPoint 59 = .ok (.aload_n 0, 1) := by decide +kernel
theorem dX9_dropPoint_60 : decode cX9_dropPoint 60 = .ok (.getfield 14, 3) := by decide +kernel
theorem dX9_dropPoint_63 : decode cX9_dropPoint 63 = .ok (.iload_n 1, 1) := by decide +kernel
theorem dX9_dropPoint_64 : decode cX9_dropPoint 64 = .ok (.iconst 0, 1) := by decide +kernel
theorem dX9_dropPoint_65 : decode cX9_dropPoint 65 = .ok (.bastore, 1) := by decide +kernel
theorem dX9_dropPoint_66 : decode cX9_dropPoint 66 = .ok (.aload_n 0, 1) := by decide +kernel
theorem dX9_dropPoint_67 : decode cX9_dropPoint 67 = .ok (.invokevirtual 123, 3) := by decide +kernel
theorem dX9_dropPoint_70 : decode cX9_dropPoint 70 = .ok (.ireturn, 1) := by decide +kernel
set_option maxRecDepth 20000 in
theorem ggX9_box_X9_is : GoodIn wsX9_box wsX9_is := goodIn_r _ [8] (by decide +kernel) (by decide +kernel)
set_option maxRecDepth 20000 in
theorem gX9_box_X9_is : GoodIn wsX9_box (va_wsS RX9 43 yX9_is wsX9_is) := goodIn_app (goodIn_of _ (by decide +kernel)) ggX9_box_X9_is
set_option maxRecDepth 20000 in
theorem ggX9_box_X9_isNear : GoodIn wsX9_box wsX9_isNear := goodIn_r _ [11, 5, 6, 7, 8] (by decide +kernel) (by decide +kernel)
set_option maxRecDepth 20000 in
theorem gX9_box_X9_isNear : GoodIn wsX9_box (va_wsS RX9 90 yX9_isNear wsX9_isNear) := goodIn_app (goodIn_of _ (by decide +kernel)) ggX9_box_X9_isNear
set_option maxRecDepth 20000 in
theorem ggX9_box_X9_refuse : GoodIn wsX9_box wsX9_refuse := goodIn_r _ [15, 1, 45, 46, 47, 48, 49, 50, 51, 52, 53, 54, 55, 56, 57] (by decide +kernel) (by decide +kernel)
set_option maxRecDepth 20000 in
theorem gX9_box_X9_refuse : GoodIn wsX9_box (wsV RX9 94 RX9 yX9_refuse wsX9_refuse) := goodIn_app (goodIn_of _ (by decide +kernel)) ggX9_box_X9_refuse
set_option maxRecDepth 20000 in
theorem ggX9_box_X9_newPoint : GoodIn wsX9_box wsX9_newPoint := goodIn_r _ [19, 4, 20, 2, 21, 22, 23, 24, 25, 45, 46, 47, 48, 49, 50, 51, 52, 53, 54, 55, 56, 57] (by decide +kernel) (by decide +kernel)
set_option maxRecDepth 20000 in
theorem gX9_box_X9_newPoint : GoodIn wsX9_box (wsV RX9 86 RX9 yX9_newPoint wsX9_newPoint) := goodIn_app (goodIn_of _ (by decide +kernel)) ggX9_box_X9_newPoint
set_option maxRecDepth 20000 in
theorem ggX9_box_X9_newFace : GoodIn wsX9_box wsX9_newFace := goodIn_r _ [29, 30, 3, 45, 46, 47, 48, 49, 50, 51, 52, 53, 54, 55, 56, 57] (by decide +kernel) (by decide +kernel)
set_option maxRecDepth 20000 in
theorem gX9_box_X9_newFace : GoodIn wsX9_box (wsV RX9 104 RX9 yX9_newFace wsX9_newFace) := goodIn_app (goodIn_of _ (by decide +kernel)) ggX9_box_X9_newFace
set_option maxRecDepth 20000 in
theorem ggX9_box_X9_table : GoodIn wsX9_box wsX9_table := goodIn_r _ [34, 35, 2, 3, 36, 30, 37, 38, 39, 40, 41, 42, 43, 7, 44, 5, 6, 8, 45, 46, 47, 48, 49, 50, 51, 52, 53, 54, 55, 56, 57] (by decide +kernel) (by decide +kernel)
set_option maxRecDepth 20000 in
theorem gX9_box_X9_table : GoodIn wsX9_box (wsV RX9 36 RX9 yX9_table wsX9_table) := goodIn_app (goodIn_of _ (by decide +kernel)) ggX9_box_X9_table
theorem dX9_box_0 : decode cX9_box 0 = .ok (.aload_n 0, 1) := by decide +kernel
theorem dX9_box_1 : decode cX9_box 1 = .ok (.iconst 0, 1) := by decide +kernel
theorem dX9_box_2 : decode cX9_box 2 = .ok (.putfield 39, 3) := by decide +kernel
theorem dX9_box_5 : decode cX9_box 5 = .ok (.iload 4, 2) := by decide +kernel
theorem dX9_box_7 : decode cX9_box 7 = .ok (.iconst 1, 1) := by decide +kernel
theorem dX9_box_8 : decode cX9_box 8 = .ok (.sipush 500, 3) := by decide +kernel
theorem dX9_box_11 : decode cX9_box 11 = .ok (.invokestatic 43, 3) := by decide +kernel
theorem dX9_box_14 : decode cX9_box 14 = .ok (.ifCond .eq 54, 3) := by decide +kernel
theorem dX9_box_17 : decode cX9_box 17 = .ok (.iload_n 1, 1) := by decide +kernel
theorem dX9_box_18 : decode cX9_box 18 = .ok (.invokestatic 90, 3) := by decide +kernel
theorem dX9_box_21 : decode cX9_box 21 = .ok (.ifCond .eq 47, 3) := by decide +kernel
theorem dX9_box_24 : decode cX9_box 24 = .ok (.iload_n 2, 1) := by decide +kernel
theorem dX9_box_25 : decode cX9_box 25 = .ok (.invokestatic 90, 3) := by decide +kernel
theorem dX9_box_28 : decode cX9_box 28 = .ok (.ifCond .eq 40, 3) := by decide +kernel
theorem dX9_box_31 : decode cX9_box 31 = .ok (.iload_n 3, 1) := by decide +kernel
theorem dX9_box_32 : decode cX9_box 32 = .ok (.invokestatic 90, 3) := by decide +kernel
theorem dX9_box_35 : decode cX9_box 35 = .ok (.ifCond .eq 33, 3) := by decide +kernel
theorem dX9_box_38 : decode cX9_box 38 = .ok (.iload_n 1, 1) := by decide +kernel
theorem dX9_box_39 : decode cX9_box 39 = .ok (.iload 4, 2) := by decide +kernel
theorem dX9_box_41 : decode cX9_box 41 = .ok (.iadd, 1) := by decide +kernel
theorem dX9_box_42 : decode cX9_box 42 = .ok (.invokestatic 90, 3) := by decide +kernel
theorem dX9_box_45 : decode cX9_box 45 = .ok (.ifCond .eq 23, 3) := by decide +kernel
theorem dX9_box_48 : decode cX9_box 48 = .ok (.iload_n 2, 1) := by decide +kernel
theorem dX9_box_49 : decode cX9_box 49 = .ok (.iload 4, 2) := by decide +kernel
theorem dX9_box_51 : decode cX9_box 51 = .ok (.iadd, 1) := by decide +kernel
theorem dX9_box_52 : decode cX9_box 52 = .ok (.invokestatic 90, 3) := by decide +kernel
theorem dX9_box_55 : decode cX9_box 55 = .ok (.ifCond .eq 13, 3) := by decide +kernel
theorem dX9_box_58 : decode cX9_box 58 = .ok (.iload_n 3, 1) := by decide +kernel
theorem dX9_box_59 : decode cX9_box 59 = .ok (.iload 4, 2) := by decide +kernel
theorem dX9_box_61 : decode cX9_box 61 = .ok (.iadd, 1) := by decide +kernel
theorem dX9_box_62 : decode cX9_box 62 = .ok (.invokestatic 90, 3) := by decide +kernel
theorem dX9_box_65 : decode cX9_box 65 = .ok (.ifCond .ne 9, 3) := by decide +kernel
theorem dX9_box_68 : decode cX9_box 68 = .ok (.aload_n 0, 1) := by decide +kernel
theorem dX9_box_69 : decode cX9_box 69 = .ok (.iconst 1, 1) := by decide +kernel
theorem dX9_box_70 : decode cX9_box 70 = .ok (.invokevirtual 94, 3) := by decide +kernel
theorem dX9_box_73 : decode cX9_box 73 = .ok (.ireturn, 1) := by decide +kernel
theorem dX9_box_74 : decode cX9_box 74 = .ok (.aload_n 0, 1) := by decide +kernel
theorem dX9_box_75 : decode cX9_box 75 = .ok (.getfield 47, 3) := by decide +kernel
theorem dX9_box_78 : decode cX9_box 78 = .ok (.bipush 8, 2) := by decide +kernel
theorem dX9_box_80 : decode cX9_box 80 = .ok (.iadd, 1) := by decide +kernel
theorem dX9_box_81 : decode cX9_box 81 = .ok (.bipush 100, 2) := by decide +kernel
theorem dX9_box_83 : decode cX9_box 83 = .ok (.if_icmp .gt 16, 3) := by decide +kernel
theorem dX9_box_86 : decode cX9_box 86 = .ok (.aload_n 0, 1) := by decide +kernel
theorem dX9_box_87 : decode cX9_box 87 = .ok (.getfield 50, 3) := by decide +kernel
theorem dX9_box_90 : decode cX9_box 90 = .ok (.bipush 6, 2) := by decide +kernel
theorem dX9_box_92 : decode cX9_box 92 = .ok (.iadd, 1) := by decide +kernel
theorem dX9_box_93 : decode cX9_box 93 = .ok (.sipush 160, 3) := by decide +kernel
theorem dX9_box_96 : decode cX9_box 96 = .ok (.if_icmp .le 9, 3) := by decide +kernel
theorem dX9_box_99 : decode cX9_box 99 = .ok (.aload_n 0, 1) := by decide +kernel
theorem dX9_box_100 : decode cX9_box 100 = .ok (.iconst 2, 1) := by decide +kernel
theorem dX9_box_101 : decode cX9_box 101 = .ok (.invokevirtual 94, 3) := by decide +kernel
theorem dX9_box_104 : decode cX9_box 104 = .ok (.ireturn, 1) := by decide +kernel
theorem dX9_box_105 : decode cX9_box 105 = .ok (.aload_n 0, 1) := by decide +kernel
theorem dX9_box_106 : decode cX9_box 106 = .ok (.getfield 47, 3) := by decide +kernel
theorem dX9_box_109 : decode cX9_box 109 = .ok (.istore 5, 2) := by decide +kernel
theorem dX9_box_111 : decode cX9_box 111 = .ok (.iconst 0, 1) := by decide +kernel
theorem dX9_box_112 : decode cX9_box 112 = .ok (.istore 6, 2) := by decide +kernel
theorem dX9_box_114 : decode cX9_box 114 = .ok (.iload 6, 2) := by decide +kernel
theorem dX9_box_116 : decode cX9_box 116 = .ok (.bipush 8, 2) := by decide +kernel
theorem dX9_box_118 : decode cX9_box 118 = .ok (.if_icmp .ge 68, 3) := by decide +kernel
theorem dX9_box_121 : decode cX9_box 121 = .ok (.aload_n 0, 1) := by decide +kernel
theorem dX9_box_122 : decode cX9_box 122 = .ok (.iload_n 1, 1) := by decide +kernel
theorem dX9_box_123 : decode cX9_box 123 = .ok (.iload 6, 2) := by decide +kernel
theorem dX9_box_125 : decode cX9_box 125 = .ok (.iconst 4, 1) := by decide +kernel
theorem dX9_box_126 : decode cX9_box 126 = .ok (.irem, 1) := by decide +kernel
theorem dX9_box_127 : decode cX9_box 127 = .ok (.iconst 1, 1) := by decide +kernel
theorem dX9_box_128 : decode cX9_box 128 = .ok (.if_icmp .eq 11, 3) := by decide +kernel
theorem dX9_box_131 : decode cX9_box 131 = .ok (.iload 6, 2) := by decide +kernel
theorem dX9_box_133 : decode cX9_box 133 = .ok (.iconst 4, 1) := by decide +kernel
theorem dX9_box_134 : decode cX9_box 134 = .ok (.irem, 1) := by decide +kernel
theorem dX9_box_135 : decode cX9_box 135 = .ok (.iconst 2, 1) := by decide +kernel
theorem dX9_box_136 : decode cX9_box 136 = .ok (.if_icmp .ne 8, 3) := by decide +kernel
theorem dX9_box_139 : decode cX9_box 139 = .ok (.iload 4, 2) := by decide +kernel
theorem dX9_box_141 : decode cX9_box 141 = .ok (.goto 4, 3) := by decide +kernel
theorem dX9_box_144 : decode cX9_box 144 = .ok (.iconst 0, 1) := by decide +kernel
theorem dX9_box_145 : decode cX9_box 145 = .ok (.iadd, 1) := by decide +kernel
theorem dX9_box_146 : decode cX9_box 146 = .ok (.iload_n 2, 1) := by decide +kernel
theorem dX9_box_147 : decode cX9_box 147 = .ok (.iload 6, 2) := by decide +kernel
theorem dX9_box_149 : decode cX9_box 149 = .ok (.iconst 4, 1) := by decide +kernel
theorem dX9_box_150 : decode cX9_box 150 = .ok (.irem, 1) := by decide +kernel
theorem dX9_box_151 : decode cX9_box 151 = .ok (.iconst 1, 1) := by decide +kernel
theorem dX9_box_152 : decode cX9_box 152 = .ok (.if_icmp .le 8, 3) := by decide +kernel
theorem dX9_box_155 : decode cX9_box 155 = .ok (.iload 4, 2) := by decide +kernel
theorem dX9_box_157 : decode cX9_box 157 = .ok (.goto 4, 3) := by decide +kernel
theorem dX9_box_160 : decode cX9_box 160 = .ok (.iconst 0, 1) := by decide +kernel
theorem dX9_box_161 : decode cX9_box 161 = .ok (.iadd, 1) := by decide +kernel
theorem dX9_box_162 : decode cX9_box 162 = .ok (.iload_n 3, 1) := by decide +kernel
theorem dX9_box_163 : decode cX9_box 163 = .ok (.iload 6, 2) := by decide +kernel
theorem dX9_box_165 : decode cX9_box 165 = .ok (.iconst 3, 1) := by decide +kernel
theorem dX9_box_166 : decode cX9_box 166 = .ok (.if_icmp .le 8, 3) := by decide +kernel
theorem dX9_box_169 : decode cX9_box 169 = .ok (.iload 4, 2) := by decide +kernel
theorem dX9_box_171 : decode cX9_box 171 = .ok (.goto 4, 3) := by decide +kernel
theorem dX9_box_174 : decode cX9_box 174 = .ok (.iconst 0, 1) := by decide +kernel
theorem dX9_box_175 : decode cX9_box 175 = .ok (.iadd, 1) := by decide +kernel
theorem dX9_box_176 : decode cX9_box 176 = .ok (.invokevirtual 86, 3) := by decide +kernel
theorem dX9_box_179 : decode cX9_box 179 = .ok (.pop, 1) := by decide +kernel
theorem dX9_box_180 : decode cX9_box 180 = .ok (.iinc 6 1, 3) := by decide +kernel
theorem dX9_box_183 : decode cX9_box 183 = .ok (.goto (-69), 3) := by decide +kernel
theorem dX9_box_186 : decode cX9_box 186 = .ok (.aload_n 0, 1) := by decide +kernel
theorem dX9_box_187 : decode cX9_box 187 = .ok (.iconst 4, 1) := by decide +kernel
theorem dX9_box_188 : decode cX9_box 188 = .ok (.newarray .int, 2) := by decide +kernel
theorem dX9_box_190 : decode cX9_box 190 = .ok (.dup, 1) := by decide +kernel
theorem dX9_box_191 : decode cX9_box 191 = .ok (.iconst 0, 1) := by decide +kernel
theorem dX9_box_192 : decode cX9_box 192 = .ok (.iload 5, 2) := by decide +kernel
theorem dX9_box_194 : decode cX9_box 194 = .ok (.iastore, 1) := by decide +kernel
theorem dX9_box_195 : decode cX9_box 195 = .ok (.dup, 1) := by decide +kernel
theorem dX9_box_196 : decode cX9_box 196 = .ok (.iconst 1, 1) := by decide +kernel
theorem dX9_box_197 : decode cX9_box 197 = .ok (.iload 5, 2) := by decide +kernel
theorem dX9_box_199 : decode cX9_box 199 = .ok (.iconst 3, 1) := by decide +kernel
theorem dX9_box_200 : decode cX9_box 200 = .ok (.iadd, 1) := by decide +kernel
theorem dX9_box_201 : decode cX9_box 201 = .ok (.iastore, 1) := by decide +kernel
theorem dX9_box_202 : decode cX9_box 202 = .ok (.dup, 1) := by decide +kernel
theorem dX9_box_203 : decode cX9_box 203 = .ok (.iconst 2, 1) := by decide +kernel
theorem dX9_box_204 : decode cX9_box 204 = .ok (.iload 5, 2) := by decide +kernel
theorem dX9_box_206 : decode cX9_box 206 = .ok (.iconst 2, 1) := by decide +kernel
theorem dX9_box_207 : decode cX9_box 207 = .ok (.iadd, 1) := by decide +kernel
theorem dX9_box_208 : decode cX9_box 208 = .ok (.iastore, 1) := by decide +kernel
theorem dX9_box_209 : decode cX9_box 209 = .ok (.dup, 1) := by decide +kernel
theorem dX9_box_210 : decode cX9_box 210 = .ok (.iconst 3, 1) := by decide +kernel
theorem dX9_box_211 : decode cX9_box 211 = .ok (.iload 5, 2) := by decide +kernel
theorem dX9_box_213 : decode cX9_box 213 = .ok (.iconst 1, 1) := by decide +kernel
theorem dX9_box_214 : decode cX9_box 214 = .ok (.iadd, 1) := by decide +kernel
theorem dX9_box_215 : decode cX9_box 215 = .ok (.iastore, 1) := by decide +kernel
theorem dX9_box_216 : decode cX9_box 216 = .ok (.invokevirtual 104, 3) := by decide +kernel
theorem dX9_box_219 : decode cX9_box 219 = .ok (.pop, 1) := by decide +kernel
theorem dX9_box_220 : decode cX9_box 220 = .ok (.aload_n 0, 1) := by decide +kernel
theorem dX9_box_221 : decode cX9_box 221 = .ok (.iconst 4, 1) := by decide +kernel
theorem dX9_box_222 : decode cX9_box 222 = .ok (.newarray .int, 2) := by decide +kernel
theorem dX9_box_224 : decode cX9_box 224 = .ok (.dup, 1) := by decide +kernel
theorem dX9_box_225 : decode cX9_box 225 = .ok (.iconst 0, 1) := by decide +kernel
theorem dX9_box_226 : decode cX9_box 226 = .ok (.iload 5, 2) := by decide +kernel
theorem dX9_box_228 : decode cX9_box 228 = .ok (.iconst 4, 1) := by decide +kernel
theorem dX9_box_229 : decode cX9_box 229 = .ok (.iadd, 1) := by decide +kernel
theorem dX9_box_230 : decode cX9_box 230 = .ok (.iastore, 1) := by decide +kernel
theorem dX9_box_231 : decode cX9_box 231 = .ok (.dup, 1) := by decide +kernel
theorem dX9_box_232 : decode cX9_box 232 = .ok (.iconst 1, 1) := by decide +kernel
theorem dX9_box_233 : decode cX9_box 233 = .ok (.iload 5, 2) := by decide +kernel
theorem dX9_box_235 : decode cX9_box 235 = .ok (.iconst 5, 1) := by decide +kernel
theorem dX9_box_236 : decode cX9_box 236 = .ok (.iadd, 1) := by decide +kernel
theorem dX9_box_237 : decode cX9_box 237 = .ok (.iastore, 1) := by decide +kernel
theorem dX9_box_238 : decode cX9_box 238 = .ok (.dup, 1) := by decide +kernel
theorem dX9_box_239 : decode cX9_box 239 = .ok (.iconst 2, 1) := by decide +kernel
theorem dX9_box_240 : decode cX9_box 240 = .ok (.iload 5, 2) := by decide +kernel
theorem dX9_box_242 : decode cX9_box 242 = .ok (.bipush 6, 2) := by decide +kernel
theorem dX9_box_244 : decode cX9_box 244 = .ok (.iadd, 1) := by decide +kernel
theorem dX9_box_245 : decode cX9_box 245 = .ok (.iastore, 1) := by decide +kernel
theorem dX9_box_246 : decode cX9_box 246 = .ok (.dup, 1) := by decide +kernel
theorem dX9_box_247 : decode cX9_box 247 = .ok (.iconst 3, 1) := by decide +kernel
theorem dX9_box_248 : decode cX9_box 248 = .ok (.iload 5, 2) := by decide +kernel
theorem dX9_box_250 : decode cX9_box 250 = .ok (.bipush 7, 2) := by decide +kernel
theorem dX9_box_252 : decode cX9_box 252 = .ok (.iadd, 1) := by decide +kernel
theorem dX9_box_253 : decode cX9_box 253 = .ok (.iastore, 1) := by decide +kernel
theorem dX9_box_254 : decode cX9_box 254 = .ok (.invokevirtual 104, 3) := by decide +kernel
theorem dX9_box_257 : decode cX9_box 257 = .ok (.pop, 1) := by decide +kernel
theorem dX9_box_258 : decode cX9_box 258 = .ok (.aload_n 0, 1) := by decide +kernel
theorem dX9_box_259 : decode cX9_box 259 = .ok (.iconst 4, 1) := by decide +kernel
theorem dX9_box_260 : decode cX9_box 260 = .ok (.newarray .int, 2) := by decide +kernel
theorem dX9_box_262 : decode cX9_box 262 = .ok (.dup, 1) := by decide +kernel
theorem dX9_box_263 : decode cX9_box 263 = .ok (.iconst 0, 1) := by decide +kernel
theorem dX9_box_264 : decode cX9_box 264 = .ok (.iload 5, 2) := by decide +kernel
theorem dX9_box_266 : decode cX9_box 266 = .ok (.iastore, 1) := by decide +kernel
theorem dX9_box_267 : decode cX9_box 267 = .ok (.dup, 1) := by decide +kernel
theorem dX9_box_268 : decode cX9_box 268 = .ok (.iconst 1, 1) := by decide +kernel
theorem dX9_box_269 : decode cX9_box 269 = .ok (.iload 5, 2) := by decide +kernel
theorem dX9_box_271 : decode cX9_box 271 = .ok (.iconst 1, 1) := by decide +kernel
theorem dX9_box_272 : decode cX9_box 272 = .ok (.iadd, 1) := by decide +kernel
theorem dX9_box_273 : decode cX9_box 273 = .ok (.iastore, 1) := by decide +kernel
theorem dX9_box_274 : decode cX9_box 274 = .ok (.dup, 1) := by decide +kernel
theorem dX9_box_275 : decode cX9_box 275 = .ok (.iconst 2, 1) := by decide +kernel
theorem dX9_box_276 : decode cX9_box 276 = .ok (.iload 5, 2) := by decide +kernel
theorem dX9_box_278 : decode cX9_box 278 = .ok (.iconst 5, 1) := by decide +kernel
theorem dX9_box_279 : decode cX9_box 279 = .ok (.iadd, 1) := by decide +kernel
theorem dX9_box_280 : decode cX9_box 280 = .ok (.iastore, 1) := by decide +kernel
theorem dX9_box_281 : decode cX9_box 281 = .ok (.dup, 1) := by decide +kernel
theorem dX9_box_282 : decode cX9_box 282 = .ok (.iconst 3, 1) := by decide +kernel
theorem dX9_box_283 : decode cX9_box 283 = .ok (.iload 5, 2) := by decide +kernel
theorem dX9_box_285 : decode cX9_box 285 = .ok (.iconst 4, 1) := by decide +kernel
theorem dX9_box_286 : decode cX9_box 286 = .ok (.iadd, 1) := by decide +kernel
theorem dX9_box_287 : decode cX9_box 287 = .ok (.iastore, 1) := by decide +kernel
theorem dX9_box_288 : decode cX9_box 288 = .ok (.invokevirtual 104, 3) := by decide +kernel
theorem dX9_box_291 : decode cX9_box 291 = .ok (.pop, 1) := by decide +kernel
theorem dX9_box_292 : decode cX9_box 292 = .ok (.aload_n 0, 1) := by decide +kernel
theorem dX9_box_293 : decode cX9_box 293 = .ok (.iconst 4, 1) := by decide +kernel
theorem dX9_box_294 : decode cX9_box 294 = .ok (.newarray .int, 2) := by decide +kernel
theorem dX9_box_296 : decode cX9_box 296 = .ok (.dup, 1) := by decide +kernel
theorem dX9_box_297 : decode cX9_box 297 = .ok (.iconst 0, 1) := by decide +kernel
theorem dX9_box_298 : decode cX9_box 298 = .ok (.iload 5, 2) := by decide +kernel
theorem dX9_box_300 : decode cX9_box 300 = .ok (.iconst 1, 1) := by decide +kernel
theorem dX9_box_301 : decode cX9_box 301 = .ok (.iadd, 1) := by decide +kernel
theorem dX9_box_302 : decode cX9_box 302 = .ok (.iastore, 1) := by decide +kernel
theorem dX9_box_303 : decode cX9_box 303 = .ok (.dup, 1) := by decide +kernel
theorem dX9_box_304 : decode cX9_box 304 = .ok (.iconst 1, 1) := by decide +kernel
theorem dX9_box_305 : decode cX9_box 305 = .ok (.iload 5, 2) := by decide +kernel
theorem dX9_box_307 : decode cX9_box 307 = .ok (.iconst 2, 1) := by decide +kernel
theorem dX9_box_308 : decode cX9_box 308 = .ok (.iadd, 1) := by decide +kernel
theorem dX9_box_309 : decode cX9_box 309 = .ok (.iastore, 1) := by decide +kernel
theorem dX9_box_310 : decode cX9_box 310 = .ok (.dup, 1) := by decide +kernel
theorem dX9_box_311 : decode cX9_box 311 = .ok (.iconst 2, 1) := by decide +kernel
theorem dX9_box_312 : decode cX9_box 312 = .ok (.iload 5, 2) := by decide +kernel
theorem dX9_box_314 : decode cX9_box 314 = .ok (.bipush 6, 2) := by decide +kernel
theorem dX9_box_316 : decode cX9_box 316 = .ok (.iadd, 1) := by decide +kernel
theorem dX9_box_317 : decode cX9_box 317 = .ok (.iastore, 1) := by decide +kernel
theorem dX9_box_318 : decode cX9_box 318 = .ok (.dup, 1) := by decide +kernel
theorem dX9_box_319 : decode cX9_box 319 = .ok (.iconst 3, 1) := by decide +kernel
theorem dX9_box_320 : decode cX9_box 320 = .ok (.iload 5, 2) := by decide +kernel
theorem dX9_box_322 : decode cX9_box 322 = .ok (.iconst 5, 1) := by decide +kernel
theorem dX9_box_323 : decode cX9_box 323 = .ok (.iadd, 1) := by decide +kernel
theorem dX9_box_324 : decode cX9_box 324 = .ok (.iastore, 1) := by decide +kernel
theorem dX9_box_325 : decode cX9_box 325 = .ok (.invokevirtual 104, 3) := by decide +kernel
theorem dX9_box_328 : decode cX9_box 328 = .ok (.pop, 1) := by decide +kernel
theorem dX9_box_329 : decode cX9_box 329 = .ok (.aload_n 0, 1) := by decide +kernel
theorem dX9_box_330 : decode cX9_box 330 = .ok (.iconst 4, 1) := by decide +kernel
theorem dX9_box_331 : decode cX9_box 331 = .ok (.newarray .int, 2) := by decide +kernel
theorem dX9_box_333 : decode cX9_box 333 = .ok (.dup, 1) := by decide +kernel
theorem dX9_box_334 : decode cX9_box 334 = .ok (.iconst 0, 1) := by decide +kernel
theorem dX9_box_335 : decode cX9_box 335 = .ok (.iload 5, 2) := by decide +kernel
theorem dX9_box_337 : decode cX9_box 337 = .ok (.iconst 2, 1) := by decide +kernel
theorem dX9_box_338 : decode cX9_box 338 = .ok (.iadd, 1) := by decide +kernel
theorem dX9_box_339 : decode cX9_box 339 = .ok (.iastore, 1) := by decide +kernel
theorem dX9_box_340 : decode cX9_box 340 = .ok (.dup, 1) := by decide +kernel
theorem dX9_box_341 : decode cX9_box 341 = .ok (.iconst 1, 1) := by decide +kernel
theorem dX9_box_342 : decode cX9_box 342 = .ok (.iload 5, 2) := by decide +kernel
theorem dX9_box_344 : decode cX9_box 344 = .ok (.iconst 3, 1) := by decide +kernel
theorem dX9_box_345 : decode cX9_box 345 = .ok (.iadd, 1) := by decide +kernel
theorem dX9_box_346 : decode cX9_box 346 = .ok (.iastore, 1) := by decide +kernel
theorem dX9_box_347 : decode cX9_box 347 = .ok (.dup, 1) := by decide +kernel
theorem dX9_box_348 : decode cX9_box 348 = .ok (.iconst 2, 1) := by decide +kernel
theorem dX9_box_349 : decode cX9_box 349 = .ok (.iload 5, 2) := by decide +kernel
theorem dX9_box_351 : decode cX9_box 351 = .ok (.bipush 7, 2) := by decide +kernel
theorem dX9_box_353 : decode cX9_box 353 = .ok (.iadd, 1) := by decide +kernel
theorem dX9_box_354 : decode cX9_box 354 = .ok (.iastore, 1) := by decide +kernel
theorem dX9_box_355 : decode cX9_box 355 = .ok (.dup, 1) := by decide +kernel
theorem dX9_box_356 : decode cX9_box 356 = .ok (.iconst 3, 1) := by decide +kernel
theorem dX9_box_357 : decode cX9_box 357 = .ok (.iload 5, 2) := by decide +kernel
theorem dX9_box_359 : decode cX9_box 359 = .ok (.bipush 6, 2) := by decide +kernel
theorem dX9_box_361 : decode cX9_box 361 = .ok (.iadd, 1) := by decide +kernel
theorem dX9_box_362 : decode cX9_box 362 = .ok (.iastore, 1) := by decide +kernel
theorem dX9_box_363 : decode cX9_box 363 = .ok (.invokevirtual 104, 3) := by decide +kernel
theorem dX9_box_366 : decode cX9_box 366 = .ok (.pop, 1) := by decide +kernel
theorem dX9_box_367 : decode cX9_box 367 = .ok (.aload_n 0, 1) := by decide +kernel
theorem dX9_box_368 : decode cX9_box 368 = .ok (.iconst 4, 1) := by decide +kernel
theorem dX9_box_369 : decode cX9_box 369 = .ok (.newarray .int, 2) := by decide +kernel
theorem dX9_box_371 : decode cX9_box 371 = .ok (.dup, 1) := by decide +kernel
theorem dX9_box_372 : decode cX9_box 372 = .ok (.iconst 0, 1) := by decide +kernel
theorem dX9_box_373 : decode cX9_box 373 = .ok (.iload 5, 2) := by decide +kernel
theorem dX9_box_375 : decode cX9_box 375 = .ok (.iconst 3, 1) := by decide +kernel
theorem dX9_box_376 : decode cX9_box 376 = .ok (.iadd, 1) := by decide +kernel
theorem dX9_box_377 : decode cX9_box 377 = .ok (.iastore, 1) := by decide +kernel
theorem dX9_box_378 : decode cX9_box 378 = .ok (.dup, 1) := by decide +kernel
theorem dX9_box_379 : decode cX9_box 379 = .ok (.iconst 1, 1) := by decide +kernel
theorem dX9_box_380 : decode cX9_box 380 = .ok (.iload 5, 2) := by decide +kernel
theorem dX9_box_382 : decode cX9_box 382 = .ok (.iastore, 1) := by decide +kernel
theorem dX9_box_383 : decode cX9_box 383 = .ok (.dup, 1) := by decide +kernel
theorem dX9_box_384 : decode cX9_box 384 = .ok (.iconst 2, 1) := by decide +kernel
theorem dX9_box_385 : decode cX9_box 385 = .ok (.iload 5, 2) := by decide +kernel
theorem dX9_box_387 : decode cX9_box 387 = .ok (.iconst 4, 1) := by decide +kernel
theorem dX9_box_388 : decode cX9_box 388 = .ok (.iadd, 1) := by decide +kernel
theorem dX9_box_389 : decode cX9_box 389 = .ok (.iastore, 1) := by decide +kernel
theorem dX9_box_390 : decode cX9_box 390 = .ok (.dup, 1) := by decide +kernel
theorem dX9_box_391 : decode cX9_box 391 = .ok (.iconst 3, 1) := by decide +kernel
theorem dX9_box_392 : decode cX9_box 392 = .ok (.iload 5, 2) := by decide +kernel
theorem dX9_box_394 : decode cX9_box 394 = .ok (.bipush 7, 2) := by decide +kernel
theorem dX9_box_396 : decode cX9_box 396 = .ok (.iadd, 1) := by decide +kernel
theorem dX9_box_397 : decode cX9_box 397 = .ok (.iastore, 1) := by decide +kernel
theorem dX9_box_398 : decode cX9_box 398 = .ok (.invokevirtual 104, 3) := by decide +kernel
theorem dX9_box_401 : decode cX9_box 401 = .ok (.pop, 1) := by decide +kernel
theorem dX9_box_402 : decode cX9_box 402 = .ok (.aload_n 0, 1) := by decide +kernel
theorem dX9_box_403 : decode cX9_box 403 = .ok (.invokevirtual 36, 3) := by decide +kernel
theorem dX9_box_406 : decode cX9_box 406 = .ok (.iload 5, 2) := by decide +kernel
theorem dX9_box_408 : decode cX9_box 408 = .ok (.ireturn, 1) := by decide +kernel
set_option maxRecDepth 20000 in
theorem ggX9_split_X9_isPoint : GoodIn wsX9_split wsX9_isPoint := goodIn_r _ [9, 2, 10, 11, 12, 8, 13, 87, 88, 89, 90, 91, 92, 93, 94, 95, 96, 97, 98, 99] (by decide +kernel) (by decide +kernel)
set_option maxRecDepth 20000 in
theorem gX9_split_X9_isPoint : GoodIn wsX9_split (wsV RX9 98 RX9 yX9_isPoint wsX9_isPoint) := goodIn_app (goodIn_of _ (by decide +kernel)) ggX9_split_X9_isPoint
set_option maxRecDepth 20000 in
theorem ggX9_split_X9_refuse : GoodIn wsX9_split wsX9_refuse := goodIn_r _ [17, 1, 87, 88, 89, 90, 91, 92, 93, 94, 95, 96, 97, 98, 99] (by decide +kernel) (by decide +kernel)
set_option maxRecDepth 20000 in
theorem gX9_split_X9_refuse : GoodIn wsX9_split (wsV RX9 94 RX9 yX9_refuse wsX9_refuse) := goodIn_app (goodIn_of _ (by decide +kernel)) ggX9_split_X9_refuse
set_option maxRecDepth 20000 in
theorem ggX9_split_X9_isEdge : GoodIn wsX9_split wsX9_isEdge := goodIn_r _ [21, 3, 87, 88, 89, 90, 91, 92, 93, 94, 95, 96, 97, 98, 99] (by decide +kernel) (by decide +kernel)
set_option maxRecDepth 20000 in
theorem gX9_split_X9_isEdge : GoodIn wsX9_split (wsV RX9 126 RX9 yX9_isEdge wsX9_isEdge) := goodIn_app (goodIn_of _ (by decide +kernel)) ggX9_split_X9_isEdge
set_option maxRecDepth 20000 in
theorem ggX9_split_X9_keep : GoodIn wsX9_split wsX9_keep := goodIn_r _ [25, 4, 26, 27, 28, 29, 30, 10, 31, 2, 32, 33, 34, 87, 88, 89, 90, 91, 92, 93, 94, 95, 96, 97, 98, 99] (by decide +kernel) (by decide +kernel)
set_option maxRecDepth 20000 in
theorem gX9_split_X9_keep : GoodIn wsX9_split (wsV RX9 101 RX9 yX9_keep wsX9_keep) := goodIn_app (goodIn_of _ (by decide +kernel)) ggX9_split_X9_keep
set_option maxRecDepth 20000 in
theorem ggX9_split_X9_middle : GoodIn wsX9_split wsX9_middle := goodIn_r _ [38, 39, 40, 41, 42, 8, 43, 44, 2, 27, 28, 29, 30, 10, 87, 88, 89, 90, 91, 92, 93, 94, 95, 96, 97, 98, 99] (by decide +kernel) (by decide +kernel)
set_option maxRecDepth 20000 in
theorem gX9_split_X9_middle : GoodIn wsX9_split (wsV RX9 129 RX9 yX9_middle wsX9_middle) := goodIn_app (goodIn_of _ (by decide +kernel)) ggX9_split_X9_middle
set_option maxRecDepth 20000 in
theorem ggX9_split_X9_placeIn : GoodIn wsX9_split wsX9_placeIn := goodIn_r _ [48, 4, 87, 88, 89, 90, 91, 92, 93, 94, 95, 96, 97, 98, 99] (by decide +kernel) (by decide +kernel)
set_option maxRecDepth 20000 in
theorem gX9_split_X9_placeIn : GoodIn wsX9_split (wsV RX9 78 RX9 yX9_placeIn wsX9_placeIn) := goodIn_app (goodIn_of _ (by decide +kernel)) ggX9_split_X9_placeIn
set_option maxRecDepth 20000 in
theorem ggX9_split_X9_with : GoodIn wsX9_split wsX9_with := goodIn_r _ [51, 27, 28, 29, 30, 52, 53, 54, 55, 56, 57, 58, 59, 60, 61, 44, 62, 63, 64, 65, 66] (by decide +kernel) (by decide +kernel)
set_option maxRecDepth 20000 in
theorem gX9_split_X9_with : GoodIn wsX9_split (va_wsS RX9 132 yX9_with wsX9_with) := goodIn_app (goodIn_of _ (by decide +kernel)) ggX9_split_X9_with
set_option maxRecDepth 20000 in
theorem ggX9_split_X9_isDone : GoodIn wsX9_split wsX9_isDone := goodIn_r _ [70, 71, 72, 73, 74, 8, 75, 3, 2, 33, 4, 76, 77, 54, 78, 79, 80, 81, 82, 11, 12, 13, 83, 84, 85, 86, 26, 27, 28, 29, 30, 31, 10, 32, 34, 87, 88, 89, 90, 91, 92, 93, 94, 95, 96, 97, 98, 99] (by decide +kernel) (by decide +kernel)
set_option maxRecDepth 20000 in
theorem gX9_split_X9_isDone : GoodIn wsX9_split (wsV RX9 108 RX9 yX9_isDone wsX9_isDone) := goodIn_app (goodIn_of _ (by decide +kernel)) ggX9_split_X9_isDone
theorem dX9_split_0 : decode cX9_split 0 = .ok (.aload_n 0, 1) := by decide +kernel
theorem dX9_split_1 : decode cX9_split 1 = .ok (.iconst 0, 1) := by decide +kernel
theorem dX9_split_2 : decode cX9_split 2 = .ok (.putfield 39, 3) := by decide +kernel
theorem dX9_split_5 : decode cX9_split 5 = .ok (.aload_n 0, 1) := by decide +kernel
theorem dX9_split_6 : decode cX9_split 6 = .ok (.iload_n 1, 1) := by decide +kernel
theorem dX9_split_7 : decode cX9_split 7 = .ok (.invokevirtual 98, 3) := by decide +kernel
theorem dX9_split_10 : decode cX9_split 10 = .ok (.ifCond .eq 11, 3) := by decide +kernel
theorem dX9_split_13 : decode cX9_split 13 = .ok (.aload_n 0, 1) := by decide +kernel
theorem dX9_split_14 : decode cX9_split 14 = .ok (.iload_n 2, 1) := by decide +kernel
theorem dX9_split_15 : decode cX9_split 15 = .ok (.invokevirtual 98, 3) := by decide +kernel
theorem dX9_split_18 : decode cX9_split 18 = .ok (.ifCond .ne 9, 3) := by decide +kernel
theorem dX9_split_21 : decode cX9_split 21 = .ok (.aload_n 0, 1) := by decide +kernel
theorem dX9_split_22 : decode cX9_split 22 = .ok (.iconst 1, 1) := by decide +kernel
theorem dX9_split_23 : decode cX9_split 23 = .ok (.invokevirtual 94, 3) := by decide +kernel
theorem dX9_split_26 : decode cX9_split 26 = .ok (.ireturn, 1) := by decide +kernel
theorem dX9_split_27 : decode cX9_split 27 = .ok (.aload_n 0, 1) := by decide +kernel
theorem dX9_split_28 : decode cX9_split 28 = .ok (.iload_n 1, 1) := by decide +kernel
theorem dX9_split_29 : decode cX9_split 29 = .ok (.iload_n 2, 1) := by decide +kernel
theorem dX9_split_30 : decode cX9_split 30 = .ok (.invokevirtual 126, 3) := by decide +kernel
theorem dX9_split_33 : decode cX9_split 33 = .ok (.ifCond .ne 9, 3) := by decide +kernel
theorem dX9_split_36 : decode cX9_split 36 = .ok (.aload_n 0, 1) := by decide +kernel
theorem dX9_split_37 : decode cX9_split 37 = .ok (.iconst 2, 1) := by decide +kernel
theorem dX9_split_38 : decode cX9_split 38 = .ok (.invokevirtual 94, 3) := by decide +kernel
theorem dX9_split_41 : decode cX9_split 41 = .ok (.ireturn, 1) := by decide +kernel
theorem dX9_split_42 : decode cX9_split 42 = .ok (.aload_n 0, 1) := by decide +kernel
theorem dX9_split_43 : decode cX9_split 43 = .ok (.getfield 47, 3) := by decide +kernel
theorem dX9_split_46 : decode cX9_split 46 = .ok (.bipush 100, 2) := by decide +kernel
theorem dX9_split_48 : decode cX9_split 48 = .ok (.if_icmp .ne 9, 3) := by decide +kernel
theorem dX9_split_51 : decode cX9_split 51 = .ok (.aload_n 0, 1) := by decide +kernel
theorem dX9_split_52 : decode cX9_split 52 = .ok (.iconst 3, 1) := by decide +kernel
theorem dX9_split_53 : decode cX9_split 53 = .ok (.invokevirtual 94, 3) := by decide +kernel
theorem dX9_split_56 : decode cX9_split 56 = .ok (.ireturn, 1) := by decide +kernel
theorem dX9_split_57 : decode cX9_split 57 = .ok (.aload_n 0, 1) := by decide +kernel
theorem dX9_split_58 : decode cX9_split 58 = .ok (.invokevirtual 101, 3) := by decide +kernel
theorem dX9_split_61 : decode cX9_split 61 = .ok (.aload_n 0, 1) := by decide +kernel
theorem dX9_split_62 : decode cX9_split 62 = .ok (.getfield 23, 3) := by decide +kernel
theorem dX9_split_65 : decode cX9_split 65 = .ok (.iload_n 1, 1) := by decide +kernel
theorem dX9_split_66 : decode cX9_split 66 = .ok (.aaload, 1) := by decide +kernel
theorem dX9_split_67 : decode cX9_split 67 = .ok (.iload_n 2, 1) := by decide +kernel
theorem dX9_split_68 : decode cX9_split 68 = .ok (.iaload, 1) := by decide +kernel
theorem dX9_split_69 : decode cX9_split 69 = .ok (.istore_n 3, 1) := by decide +kernel
theorem dX9_split_70 : decode cX9_split 70 = .ok (.aload_n 0, 1) := by decide +kernel
theorem dX9_split_71 : decode cX9_split 71 = .ok (.getfield 23, 3) := by decide +kernel
theorem dX9_split_74 : decode cX9_split 74 = .ok (.iload_n 2, 1) := by decide +kernel
theorem dX9_split_75 : decode cX9_split 75 = .ok (.aaload, 1) := by decide +kernel
theorem dX9_split_76 : decode cX9_split 76 = .ok (.iload_n 1, 1) := by decide +kernel
theorem dX9_split_77 : decode cX9_split 77 = .ok (.iaload, 1) := by decide +kernel
theorem dX9_split_78 : decode cX9_split 78 = .ok (.istore 4, 2) := by decide +kernel
theorem dX9_split_80 : decode cX9_split 80 = .ok (.aload_n 0, 1) := by decide +kernel
theorem dX9_split_81 : decode cX9_split 81 = .ok (.iload_n 1, 1) := by decide +kernel
theorem dX9_split_82 : decode cX9_split 82 = .ok (.iload_n 2, 1) := by decide +kernel
theorem dX9_split_83 : decode cX9_split 83 = .ok (.invokevirtual 129, 3) := by decide +kernel
theorem dX9_split_86 : decode cX9_split 86 = .ok (.istore 5, 2) := by decide +kernel
theorem dX9_split_88 : decode cX9_split 88 = .ok (.iload_n 3, 1) := by decide +kernel
theorem dX9_split_89 : decode cX9_split 89 = .ok (.iconst (-1), 1) := by decide +kernel
theorem dX9_split_90 : decode cX9_split 90 = .ok (.if_icmp .eq 28, 3) := by decide +kernel
theorem dX9_split_93 : decode cX9_split 93 = .ok (.aload_n 0, 1) := by decide +kernel
theorem dX9_split_94 : decode cX9_split 94 = .ok (.getfield 20, 3) := by decide +kernel
theorem dX9_split_97 : decode cX9_split 97 = .ok (.iload_n 3, 1) := by decide +kernel
theorem dX9_split_98 : decode cX9_split 98 = .ok (.aload_n 0, 1) := by decide +kernel
theorem dX9_split_99 : decode cX9_split 99 = .ok (.getfield 20, 3) := by decide +kernel
theorem dX9_split_102 : decode cX9_split 102 = .ok (.iload_n 3, 1) := by decide +kernel
theorem dX9_split_103 : decode cX9_split 103 = .ok (.aaload, 1) := by decide +kernel
theorem dX9_split_104 : decode cX9_split 104 = .ok (.aload_n 0, 1) := by decide +kernel
theorem dX9_split_105 : decode cX9_split 105 = .ok (.iload_n 3, 1) := by decide +kernel
theorem dX9_split_106 : decode cX9_split 106 = .ok (.iload_n 1, 1) := by decide +kernel
theorem dX9_split_107 : decode cX9_split 107 = .ok (.invokevirtual 78, 3) := by decide +kernel
theorem dX9_split_110 : decode cX9_split 110 = .ok (.iconst 1, 1) := by decide +kernel
theorem dX9_split_111 : decode cX9_split 111 = .ok (.iadd, 1) := by decide +kernel
theorem dX9_split_112 : decode cX9_split 112 = .ok (.iload 5, 2) := by decide +kernel
theorem dX9_split_114 : decode cX9_split 114 = .ok (.invokestatic 132, 3) := by decide +kernel
theorem dX9_split_117 : decode cX9_split 117 = .ok (.aastore, 1) := by decide +kernel
theorem dX9_split_118 : decode cX9_split 118 = .ok (.iload 4, 2) := by decide +kernel
theorem dX9_split_120 : decode cX9_split 120 = .ok (.iconst (-1), 1) := by decide +kernel
theorem dX9_split_121 : decode cX9_split 121 = .ok (.if_icmp .eq 31, 3) := by decide +kernel
theorem dX9_split_124 : decode cX9_split 124 = .ok (.aload_n 0, 1) := by decide +kernel
theorem dX9_split_125 : decode cX9_split 125 = .ok (.getfield 20, 3) := by decide +kernel
theorem dX9_split_128 : decode cX9_split 128 = .ok (.iload 4, 2) := by decide +kernel
theorem dX9_split_130 : decode cX9_split 130 = .ok (.aload_n 0, 1) := by decide +kernel
theorem dX9_split_131 : decode cX9_split 131 = .ok (.getfield 20, 3) := by decide +kernel
theorem dX9_split_134 : decode cX9_split 134 = .ok (.iload 4, 2) := by decide +kernel
theorem dX9_split_136 : decode cX9_split 136 = .ok (.aaload, 1) := by decide +kernel
theorem dX9_split_137 : decode cX9_split 137 = .ok (.aload_n 0, 1) := by decide +kernel
theorem dX9_split_138 : decode cX9_split 138 = .ok (.iload 4, 2) := by decide +kernel
theorem dX9_split_140 : decode cX9_split 140 = .ok (.iload_n 2, 1) := by decide +kernel
theorem dX9_split_141 : decode cX9_split 141 = .ok (.invokevirtual 78, 3) := by decide +kernel
theorem dX9_split_144 : decode cX9_split 144 = .ok (.iconst 1, 1) := by decide +kernel
theorem dX9_split_145 : decode cX9_split 145 = .ok (.iadd, 1) := by decide +kernel
theorem dX9_split_146 : decode cX9_split 146 = .ok (.iload 5, 2) := by decide +kernel
theorem dX9_split_148 : decode cX9_split 148 = .ok (.invokestatic 132, 3) := by decide +kernel
theorem dX9_split_151 : decode cX9_split 151 = .ok (.aastore, 1) := by decide +kernel
theorem dX9_split_152 : decode cX9_split 152 = .ok (.aload_n 0, 1) := by decide +kernel
theorem dX9_split_153 : decode cX9_split 153 = .ok (.invokevirtual 108, 3) := by decide +kernel
theorem dX9_split_156 : decode cX9_split 156 = .ok (.ifCond .eq 8, 3) := by decide +kernel
theorem dX9_split_159 : decode cX9_split 159 = .ok (.iload 5, 2) := by decide +kernel
theorem dX9_split_161 : decode cX9_split 161 = .ok (.goto 8, 3) := by decide +kernel
theorem dX9_split_164 : decode cX9_split 164 = .ok (.aload_n 0, 1) := by decide +kernel
theorem dX9_split_165 : decode cX9_split 165 = .ok (.iconst 3, 1) := by decide +kernel
theorem dX9_split_166 : decode cX9_split 166 = .ok (.invokevirtual 94, 3) := by decide +kernel
theorem dX9_split_169 : decode cX9_split 169 = .ok (.ireturn, 1) := by decide +kernel
set_option maxRecDepth 20000 in
theorem ggX9_cut_X9_isFace : GoodIn wsX9_cut wsX9_isFace := goodIn_r _ [8, 2, 3, 9, 10, 7, 11, 73, 74, 75, 76, 77, 78, 79, 80, 81, 82, 83, 84, 85] (by decide +kernel) (by decide +kernel)
set_option maxRecDepth 20000 in
theorem gX9_cut_X9_isFace : GoodIn wsX9_cut (wsV RX9 112 RX9 yX9_isFace wsX9_isFace) := goodIn_app (goodIn_of _ (by decide +kernel)) ggX9_cut_X9_isFace
set_option maxRecDepth 20000 in
theorem ggX9_cut_X9_refuse : GoodIn wsX9_cut wsX9_refuse := goodIn_r _ [15, 1, 73, 74, 75, 76, 77, 78, 79, 80, 81, 82, 83, 84, 85] (by decide +kernel) (by decide +kernel)
set_option maxRecDepth 20000 in
theorem gX9_cut_X9_refuse : GoodIn wsX9_cut (wsV RX9 94 RX9 yX9_refuse wsX9_refuse) := goodIn_app (goodIn_of _ (by decide +kernel)) ggX9_cut_X9_refuse
set_option maxRecDepth 20000 in
theorem ggX9_cut_X9_has : GoodIn wsX9_cut wsX9_has := goodIn_r _ [19, 20, 21, 22, 7, 23, 3, 73, 74, 75, 76, 77, 78, 79, 80, 81, 82, 83, 84, 85] (by decide +kernel) (by decide +kernel)
set_option maxRecDepth 20000 in
theorem gX9_cut_X9_has : GoodIn wsX9_cut (wsV RX9 119 RX9 yX9_has wsX9_has) := goodIn_app (goodIn_of _ (by decide +kernel)) ggX9_cut_X9_has
set_option maxRecDepth 20000 in
theorem ggX9_cut_X9_behind : GoodIn wsX9_cut wsX9_behind := goodIn_r _ [27, 3, 20, 21, 22, 7, 23, 73, 74, 75, 76, 77, 78, 79, 80, 81, 82, 83, 84, 85] (by decide +kernel) (by decide +kernel)
set_option maxRecDepth 20000 in
theorem gX9_cut_X9_behind : GoodIn wsX9_cut (wsV RX9 136 RX9 yX9_behind wsX9_behind) := goodIn_app (goodIn_of _ (by decide +kernel)) ggX9_cut_X9_behind
set_option maxRecDepth 20000 in
theorem ggX9_cut_X9_keep : GoodIn wsX9_cut wsX9_keep := goodIn_r _ [31, 3, 32, 33, 34, 35, 36, 37, 38, 39, 40, 2, 41, 73, 74, 75, 76, 77, 78, 79, 80, 81, 82, 83, 84, 85] (by decide +kernel) (by decide +kernel)
set_option maxRecDepth 20000 in
theorem gX9_cut_X9_keep : GoodIn wsX9_cut (wsV RX9 101 RX9 yX9_keep wsX9_keep) := goodIn_app (goodIn_of _ (by decide +kernel)) ggX9_cut_X9_keep
set_option maxRecDepth 20000 in
theorem ggX9_cut_X9_part : GoodIn wsX9_cut wsX9_part := goodIn_r _ [45, 3, 46, 20, 21, 22, 7, 23, 73, 74, 75, 76, 77, 78, 79, 80, 81, 82, 83, 84, 85] (by decide +kernel) (by decide +kernel)
set_option maxRecDepth 20000 in
theorem gX9_cut_X9_part : GoodIn wsX9_cut (wsV RX9 139 RX9 yX9_part wsX9_part) := goodIn_app (goodIn_of _ (by decide +kernel)) ggX9_cut_X9_part
set_option maxRecDepth 20000 in
theorem ggX9_cut_X9_newFace : GoodIn wsX9_cut wsX9_newFace := goodIn_r _ [50, 3, 2, 73, 74, 75, 76, 77, 78, 79, 80, 81, 82, 83, 84, 85] (by decide +kernel) (by decide +kernel)
set_option maxRecDepth 20000 in
theorem gX9_cut_X9_newFace : GoodIn wsX9_cut (wsV RX9 104 RX9 yX9_newFace wsX9_newFace) := goodIn_app (goodIn_of _ (by decide +kernel)) ggX9_cut_X9_newFace
set_option maxRecDepth 20000 in
theorem ggX9_cut_X9_isDone : GoodIn wsX9_cut wsX9_isDone := goodIn_r _ [54, 55, 56, 57, 58, 7, 59, 60, 39, 2, 3, 61, 62, 63, 64, 65, 66, 67, 68, 9, 10, 11, 69, 70, 71, 72, 32, 33, 34, 35, 36, 38, 37, 40, 41, 73, 74, 75, 76, 77, 78, 79, 80, 81, 82, 83, 84, 85] (by decide +kernel) (by decide +kernel)
set_option maxRecDepth 20000 in
theorem gX9_cut_X9_isDone : GoodIn wsX9_cut (wsV RX9 108 RX9 yX9_isDone wsX9_isDone) := goodIn_app (goodIn_of _ (by decide +kernel)) ggX9_cut_X9_isDone
theorem dX9_cut_0 : decode cX9_cut 0 = .ok (.aload_n 0, 1) := by decide +kernel
theorem dX9_cut_1 : decode cX9_cut 1 = .ok (.iconst 0, 1) := by decide +kernel
theorem dX9_cut_2 : decode cX9_cut 2 = .ok (.putfield 39, 3) := by decide +kernel
theorem dX9_cut_5 : decode cX9_cut 5 = .ok (.aload_n 0, 1) := by decide +kernel
theorem dX9_cut_6 : decode cX9_cut 6 = .ok (.iload_n 1, 1) := by decide +kernel
theorem dX9_cut_7 : decode cX9_cut 7 = .ok (.invokevirtual 112, 3) := by decide +kernel
theorem dX9_cut_10 : decode cX9_cut 10 = .ok (.ifCond .ne 9, 3) := by decide +kernel
theorem dX9_cut_13 : decode cX9_cut 13 = .ok (.aload_n 0, 1) := by decide +kernel
theorem dX9_cut_14 : decode cX9_cut 14 = .ok (.iconst 1, 1) := by decide +kernel
theorem dX9_cut_15 : decode cX9_cut 15 = .ok (.invokevirtual 94, 3) := by decide +kernel
theorem dX9_cut_18 : decode cX9_cut 18 = .ok (.ireturn, 1) := by decide +kernel
theorem dX9_cut_19 : decode cX9_cut 19 = .ok (.aload_n 0, 1) := by decide +kernel
theorem dX9_cut_20 : decode cX9_cut 20 = .ok (.iload_n 1, 1) := by decide +kernel
theorem dX9_cut_21 : decode cX9_cut 21 = .ok (.iload_n 2, 1) := by decide +kernel
theorem dX9_cut_22 : decode cX9_cut 22 = .ok (.invokevirtual 119, 3) := by decide +kernel
theorem dX9_cut_25 : decode cX9_cut 25 = .ok (.ifCond .eq 39, 3) := by decide +kernel
theorem dX9_cut_28 : decode cX9_cut 28 = .ok (.aload_n 0, 1) := by decide +kernel
theorem dX9_cut_29 : decode cX9_cut 29 = .ok (.iload_n 1, 1) := by decide +kernel
theorem dX9_cut_30 : decode cX9_cut 30 = .ok (.iload_n 3, 1) := by decide +kernel
theorem dX9_cut_31 : decode cX9_cut 31 = .ok (.invokevirtual 119, 3) := by decide +kernel
theorem dX9_cut_34 : decode cX9_cut 34 = .ok (.ifCond .eq 30, 3) := by decide +kernel
theorem dX9_cut_37 : decode cX9_cut 37 = .ok (.iload_n 2, 1) := by decide +kernel
theorem dX9_cut_38 : decode cX9_cut 38 = .ok (.iload_n 3, 1) := by decide +kernel
theorem dX9_cut_39 : decode cX9_cut 39 = .ok (.if_icmp .eq 25, 3) := by decide +kernel
theorem dX9_cut_42 : decode cX9_cut 42 = .ok (.aload_n 0, 1) := by decide +kernel
theorem dX9_cut_43 : decode cX9_cut 43 = .ok (.iload_n 1, 1) := by decide +kernel
theorem dX9_cut_44 : decode cX9_cut 44 = .ok (.iload_n 2, 1) := by decide +kernel
theorem dX9_cut_45 : decode cX9_cut 45 = .ok (.iconst 1, 1) := by decide +kernel
theorem dX9_cut_46 : decode cX9_cut 46 = .ok (.invokevirtual 136, 3) := by decide +kernel
theorem dX9_cut_49 : decode cX9_cut 49 = .ok (.iload_n 3, 1) := by decide +kernel
theorem dX9_cut_50 : decode cX9_cut 50 = .ok (.if_icmp .eq 14, 3) := by decide +kernel
theorem dX9_cut_53 : decode cX9_cut 53 = .ok (.aload_n 0, 1) := by decide +kernel
theorem dX9_cut_54 : decode cX9_cut 54 = .ok (.iload_n 1, 1) := by decide +kernel
theorem dX9_cut_55 : decode cX9_cut 55 = .ok (.iload_n 3, 1) := by decide +kernel
theorem dX9_cut_56 : decode cX9_cut 56 = .ok (.iconst 1, 1) := by decide +kernel
theorem dX9_cut_57 : decode cX9_cut 57 = .ok (.invokevirtual 136, 3) := by decide +kernel
theorem dX9_cut_60 : decode cX9_cut 60 = .ok (.iload_n 2, 1) := by decide +kernel
theorem dX9_cut_61 : decode cX9_cut 61 = .ok (.if_icmp .ne 9, 3) := by decide +kernel
theorem dX9_cut_64 : decode cX9_cut 64 = .ok (.aload_n 0, 1) := by decide +kernel
theorem dX9_cut_65 : decode cX9_cut 65 = .ok (.iconst 2, 1) := by decide +kernel
theorem dX9_cut_66 : decode cX9_cut 66 = .ok (.invokevirtual 94, 3) := by decide +kernel
theorem dX9_cut_69 : decode cX9_cut 69 = .ok (.ireturn, 1) := by decide +kernel
theorem dX9_cut_70 : decode cX9_cut 70 = .ok (.aload_n 0, 1) := by decide +kernel
theorem dX9_cut_71 : decode cX9_cut 71 = .ok (.getfield 50, 3) := by decide +kernel
theorem dX9_cut_74 : decode cX9_cut 74 = .ok (.sipush 160, 3) := by decide +kernel
theorem dX9_cut_77 : decode cX9_cut 77 = .ok (.if_icmp .ne 9, 3) := by decide +kernel
theorem dX9_cut_80 : decode cX9_cut 80 = .ok (.aload_n 0, 1) := by decide +kernel
theorem dX9_cut_81 : decode cX9_cut 81 = .ok (.iconst 3, 1) := by decide +kernel
theorem dX9_cut_82 : decode cX9_cut 82 = .ok (.invokevirtual 94, 3) := by decide +kernel
theorem dX9_cut_85 : decode cX9_cut 85 = .ok (.ireturn, 1) := by decide +kernel
theorem dX9_cut_86 : decode cX9_cut 86 = .ok (.aload_n 0, 1) := by decide +kernel
theorem dX9_cut_87 : decode cX9_cut 87 = .ok (.invokevirtual 101, 3) := by decide +kernel
theorem dX9_cut_90 : decode cX9_cut 90 = .ok (.aload_n 0, 1) := by decide +kernel
theorem dX9_cut_91 : decode cX9_cut 91 = .ok (.iload_n 1, 1) := by decide +kernel
theorem dX9_cut_92 : decode cX9_cut 92 = .ok (.iload_n 2, 1) := by decide +kernel
theorem dX9_cut_93 : decode cX9_cut 93 = .ok (.iload_n 3, 1) := by decide +kernel
theorem dX9_cut_94 : decode cX9_cut 94 = .ok (.invokevirtual 139, 3) := by decide +kernel
theorem dX9_cut_97 : decode cX9_cut 97 = .ok (.astore 4, 2) := by decide +kernel
theorem dX9_cut_99 : decode cX9_cut 99 = .ok (.aload_n 0, 1) := by decide +kernel
theorem dX9_cut_100 : decode cX9_cut 100 = .ok (.iload_n 1, 1) := by decide +kernel
theorem dX9_cut_101 : decode cX9_cut 101 = .ok (.iload_n 3, 1) := by decide +kernel
theorem dX9_cut_102 : decode cX9_cut 102 = .ok (.iload_n 2, 1) := by decide +kernel
theorem dX9_cut_103 : decode cX9_cut 103 = .ok (.invokevirtual 139, 3) := by decide +kernel
theorem dX9_cut_106 : decode cX9_cut 106 = .ok (.astore 5, 2) := by decide +kernel
theorem dX9_cut_108 : decode cX9_cut 108 = .ok (.aload_n 0, 1) := by decide +kernel
theorem dX9_cut_109 : decode cX9_cut 109 = .ok (.getfield 20, 3) := by decide +kernel
theorem dX9_cut_112 : decode cX9_cut 112 = .ok (.iload_n 1, 1) := by decide +kernel
theorem dX9_cut_113 : decode cX9_cut 113 = .ok (.aload 4, 2) := by decide +kernel
theorem dX9_cut_115 : decode cX9_cut 115 = .ok (.aastore, 1) := by decide +kernel
theorem dX9_cut_116 : decode cX9_cut 116 = .ok (.aload_n 0, 1) := by decide +kernel
theorem dX9_cut_117 : decode cX9_cut 117 = .ok (.aload 5, 2) := by decide +kernel
theorem dX9_cut_119 : decode cX9_cut 119 = .ok (.invokevirtual 104, 3) := by decide +kernel
theorem dX9_cut_122 : decode cX9_cut 122 = .ok (.istore 6, 2) := by decide +kernel
theorem dX9_cut_124 : decode cX9_cut 124 = .ok (.aload_n 0, 1) := by decide +kernel
theorem dX9_cut_125 : decode cX9_cut 125 = .ok (.invokevirtual 108, 3) := by decide +kernel
theorem dX9_cut_128 : decode cX9_cut 128 = .ok (.ifCond .eq 8, 3) := by decide +kernel
theorem dX9_cut_131 : decode cX9_cut 131 = .ok (.iload 6, 2) := by decide +kernel
theorem dX9_cut_133 : decode cX9_cut 133 = .ok (.goto 8, 3) := by decide +kernel
theorem dX9_cut_136 : decode cX9_cut 136 = .ok (.aload_n 0, 1) := by decide +kernel
theorem dX9_cut_137 : decode cX9_cut 137 = .ok (.iconst 3, 1) := by decide +kernel
theorem dX9_cut_138 : decode cX9_cut 138 = .ok (.invokevirtual 94, 3) := by decide +kernel
theorem dX9_cut_141 : decode cX9_cut 141 = .ok (.ireturn, 1) := by decide +kernel
set_option maxRecDepth 20000 in
theorem ggX9_join__X9_isPoint : GoodIn wsX9_join_ wsX9_isPoint := goodIn_r _ [7, 8, 9, 10, 11, 6, 12, 93, 94, 95, 96, 97, 98, 99, 100, 101, 102, 103, 104, 105] (by decide +kernel) (by decide +kernel)
set_option maxRecDepth 20000 in
theorem gX9_join__X9_isPoint : GoodIn wsX9_join_ (wsV RX9 98 RX9 yX9_isPoint wsX9_isPoint) := goodIn_app (goodIn_of _ (by decide +kernel)) ggX9_join__X9_isPoint
set_option maxRecDepth 20000 in
theorem ggX9_join__X9_refuse : GoodIn wsX9_join_ wsX9_refuse := goodIn_r _ [16, 1, 93, 94, 95, 96, 97, 98, 99, 100, 101, 102, 103, 104, 105] (by decide +kernel) (by decide +kernel)
set_option maxRecDepth 20000 in
theorem gX9_join__X9_refuse : GoodIn wsX9_join_ (wsV RX9 94 RX9 yX9_refuse wsX9_refuse) := goodIn_app (goodIn_of _ (by decide +kernel)) ggX9_join__X9_refuse
set_option maxRecDepth 20000 in
theorem ggX9_join__X9_join : GoodIn wsX9_join_ wsX9_join := goodIn_r _ [20, 21, 22, 23, 24, 6, 25, 26, 27, 28, 29, 30, 31, 32, 33, 34, 35, 36, 37, 38, 39, 40, 41, 42, 9, 43, 8, 44, 45, 46, 47, 48, 49, 50, 51, 52, 53, 54, 55, 56, 57, 58, 59, 60, 61, 62, 63, 64, 65, 66, 67, 68, 69, 70, 71, 72, 73, 74, 75, 76, 77, 78, 79, 80, 81, 2, 82, 83, 84, 85, 86, 87, 88, 10, 11, 12, 89, 90, 91, 92, 93, 94, 95, 96, 97, 98, 99, 100, 101, 102, 103, 104, 105] (by decide +kernel) (by decide +kernel)
set_option maxRecDepth 20000 in
theorem gX9_join__X9_join : GoodIn wsX9_join_ (wsV RX9 154 RX9 yX9_join wsX9_join) := goodIn_app (goodIn_of _ (by decide +kernel)) ggX9_join__X9_join
theorem dX9_join__0 : decode cX9_join_ 0 = .ok (.aload_n 0, 1) := by decide +kernel
theorem dX9_join__1 : decode cX9_join_ 1 = .ok (.iconst 0, 1) := by decide +kernel
theorem dX9_join__2 : decode cX9_join_ 2 = .ok (.putfield 39, 3) := by decide +kernel
theorem dX9_join__5 : decode cX9_join_ 5 = .ok (.aload_n 0, 1) := by decide +kernel
theorem dX9_join__6 : decode cX9_join_ 6 = .ok (.iload_n 1, 1) := by decide +kernel
theorem dX9_join__7 : decode cX9_join_ 7 = .ok (.invokevirtual 98, 3) := by decide +kernel
theorem dX9_join__10 : decode cX9_join_ 10 = .ok (.ifCond .eq 11, 3) := by decide +kernel
theorem dX9_join__13 : decode cX9_join_ 13 = .ok (.aload_n 0, 1) := by decide +kernel
theorem dX9_join__14 : decode cX9_join_ 14 = .ok (.iload_n 2, 1) := by decide +kernel
theorem dX9_join__15 : decode cX9_join_ 15 = .ok (.invokevirtual 98, 3) := by decide +kernel
theorem dX9_join__18 : decode cX9_join_ 18 = .ok (.ifCond .ne 9, 3) := by decide +kernel
theorem dX9_join__21 : decode cX9_join_ 21 = .ok (.aload_n 0, 1) := by decide +kernel
theorem dX9_join__22 : decode cX9_join_ 22 = .ok (.iconst 1, 1) := by decide +kernel
theorem dX9_join__23 : decode cX9_join_ 23 = .ok (.invokevirtual 94, 3) := by decide +kernel
theorem dX9_join__26 : decode cX9_join_ 26 = .ok (.ireturn, 1) := by decide +kernel
theorem dX9_join__27 : decode cX9_join_ 27 = .ok (.aload_n 0, 1) := by decide +kernel
theorem dX9_join__28 : decode cX9_join_ 28 = .ok (.getfield 23, 3) := by decide +kernel
theorem dX9_join__31 : decode cX9_join_ 31 = .ok (.iload_n 1, 1) := by decide +kernel
theorem dX9_join__32 : decode cX9_join_ 32 = .ok (.aaload, 1) := by decide +kernel
theorem dX9_join__33 : decode cX9_join_ 33 = .ok (.iload_n 2, 1) := by decide +kernel
theorem dX9_join__34 : decode cX9_join_ 34 = .ok (.iaload, 1) := by decide +kernel
theorem dX9_join__35 : decode cX9_join_ 35 = .ok (.istore_n 3, 1) := by decide +kernel
theorem dX9_join__36 : decode cX9_join_ 36 = .ok (.iload_n 3, 1) := by decide +kernel
theorem dX9_join__37 : decode cX9_join_ 37 = .ok (.iconst (-1), 1) := by decide +kernel
theorem dX9_join__38 : decode cX9_join_ 38 = .ok (.if_icmp .eq 15, 3) := by decide +kernel
theorem dX9_join__41 : decode cX9_join_ 41 = .ok (.aload_n 0, 1) := by decide +kernel
theorem dX9_join__42 : decode cX9_join_ 42 = .ok (.getfield 23, 3) := by decide +kernel
theorem dX9_join__45 : decode cX9_join_ 45 = .ok (.iload_n 2, 1) := by decide +kernel
theorem dX9_join__46 : decode cX9_join_ 46 = .ok (.aaload, 1) := by decide +kernel
theorem dX9_join__47 : decode cX9_join_ 47 = .ok (.iload_n 1, 1) := by decide +kernel
theorem dX9_join__48 : decode cX9_join_ 48 = .ok (.iaload, 1) := by decide +kernel
theorem dX9_join__49 : decode cX9_join_ 49 = .ok (.iconst (-1), 1) := by decide +kernel
theorem dX9_join__50 : decode cX9_join_ 50 = .ok (.if_icmp .ne 9, 3) := by decide +kernel
theorem dX9_join__53 : decode cX9_join_ 53 = .ok (.aload_n 0, 1) := by decide +kernel
theorem dX9_join__54 : decode cX9_join_ 54 = .ok (.iconst 2, 1) := by decide +kernel
theorem dX9_join__55 : decode cX9_join_ 55 = .ok (.invokevirtual 94, 3) := by decide +kernel
theorem dX9_join__58 : decode cX9_join_ 58 = .ok (.ireturn, 1) := by decide +kernel
theorem dX9_join__59 : decode cX9_join_ 59 = .ok (.aload_n 0, 1) := by decide +kernel
theorem dX9_join__60 : decode cX9_join_ 60 = .ok (.iload_n 3, 1) := by decide +kernel
theorem dX9_join__61 : decode cX9_join_ 61 = .ok (.aload_n 0, 1) := by decide +kernel
theorem dX9_join__62 : decode cX9_join_ 62 = .ok (.getfield 23, 3) := by decide +kernel
theorem dX9_join__65 : decode cX9_join_ 65 = .ok (.iload_n 2, 1) := by decide +kernel
theorem dX9_join__66 : decode cX9_join_ 66 = .ok (.aaload, 1) := by decide +kernel
theorem dX9_join__67 : decode cX9_join_ 67 = .ok (.iload_n 1, 1) := by decide +kernel
theorem dX9_join__68 : decode cX9_join_ 68 = .ok (.iaload, 1) := by decide +kernel
theorem dX9_join__69 : decode cX9_join_ 69 = .ok (.iload_n 1, 1) := by decide +kernel
theorem dX9_join__70 : decode cX9_join_ 70 = .ok (.iload_n 2, 1) := by decide +kernel
theorem dX9_join__71 : decode cX9_join_ 71 = .ok (.invokevirtual 154, 3) := by decide +kernel
theorem dX9_join__74 : decode cX9_join_ 74 = .ok (.ifCond .eq 7, 3) := by decide +kernel
theorem dX9_join__77 : decode cX9_join_ 77 = .ok (.iload_n 3, 1) := by decide +kernel
theorem dX9_join__78 : decode cX9_join_ 78 = .ok (.goto 8, 3) := by decide +kernel
theorem dX9_join__81 : decode cX9_join_ 81 = .ok (.aload_n 0, 1) := by decide +kernel
theorem dX9_join__82 : decode cX9_join_ 82 = .ok (.iconst 3, 1) := by decide +kernel
theorem dX9_join__83 : decode cX9_join_ 83 = .ok (.invokevirtual 94, 3) := by decide +kernel
theorem dX9_join__86 : decode cX9_join_ 86 = .ok (.ireturn, 1) := by decide +kernel
set_option maxRecDepth 20000 in
theorem ggX9_collapse_X9_isPoint : GoodIn wsX9_collapse wsX9_isPoint := goodIn_r _ [6, 7, 8, 9, 10, 5, 11, 92, 93, 94, 95, 96, 97, 98, 99, 100, 101, 102, 103, 104] (by decide +kernel) (by decide +kernel)
set_option maxRecDepth 20000 in
theorem gX9_collapse_X9_isPoint : GoodIn wsX9_collapse (wsV RX9 98 RX9 yX9_isPoint wsX9_isPoint) := goodIn_app (goodIn_of _ (by decide +kernel)) ggX9_collapse_X9_isPoint
set_option maxRecDepth 20000 in
theorem ggX9_collapse_X9_refuse : GoodIn wsX9_collapse wsX9_refuse := goodIn_r _ [15, 1, 92, 93, 94, 95, 96, 97, 98, 99, 100, 101, 102, 103, 104] (by decide +kernel) (by decide +kernel)
set_option maxRecDepth 20000 in
theorem gX9_collapse_X9_refuse : GoodIn wsX9_collapse (wsV RX9 94 RX9 yX9_refuse wsX9_refuse) := goodIn_app (goodIn_of _ (by decide +kernel)) ggX9_collapse_X9_refuse
set_option maxRecDepth 20000 in
theorem ggX9_collapse_X9_isEdge : GoodIn wsX9_collapse wsX9_isEdge := goodIn_r _ [19, 20, 92, 93, 94, 95, 96, 97, 98, 99, 100, 101, 102, 103, 104] (by decide +kernel) (by decide +kernel)
set_option maxRecDepth 20000 in
theorem gX9_collapse_X9_isEdge : GoodIn wsX9_collapse (wsV RX9 126 RX9 yX9_isEdge wsX9_isEdge) := goodIn_app (goodIn_of _ (by decide +kernel)) ggX9_collapse_X9_isEdge
set_option maxRecDepth 20000 in
theorem ggX9_collapse_X9_facesNow : GoodIn wsX9_collapse wsX9_facesNow := goodIn_r _ [24, 25, 26, 92, 93, 94, 95, 96, 97, 98, 99, 100, 101, 102, 103, 104] (by decide +kernel) (by decide +kernel)
set_option maxRecDepth 20000 in
theorem gX9_collapse_X9_facesNow : GoodIn wsX9_collapse (wsV RX9 115 RX9 yX9_facesNow wsX9_facesNow) := goodIn_app (goodIn_of _ (by decide +kernel)) ggX9_collapse_X9_facesNow
set_option maxRecDepth 20000 in
theorem ggX9_collapse_X9_collapseNow : GoodIn wsX9_collapse wsX9_collapseNow := goodIn_r _ [30, 25, 26, 31, 32, 33, 34, 35, 36, 8, 37, 38, 39, 5, 40, 41, 42, 43, 44, 45, 46, 7, 47, 48, 49, 50, 51, 52, 53, 54, 55, 56, 57, 58, 59, 60, 61, 62, 63, 64, 65, 66, 67, 68, 69, 70, 71, 21, 22, 23, 24, 72, 73, 74, 75, 76, 77, 78, 79, 20, 80, 81, 82, 83, 84, 85, 86, 87, 9, 10, 11, 88, 89, 90, 91, 92, 93, 94, 95, 96, 97, 98, 99, 100, 101, 102, 103, 104] (by decide +kernel) (by decide +kernel)
set_option maxRecDepth 20000 in
theorem gX9_collapse_X9_collapseNow : GoodIn wsX9_collapse (wsV RX9 161 RX9 yX9_collapseNow wsX9_collapseNow) := goodIn_app (goodIn_of _ (by decide +kernel)) ggX9_collapse_X9_collapseNow
theorem dX9_collapse_0 : decode cX9_collapse 0 = .ok (.aload_n 0, 1) := by decide +kernel
theorem dX9_collapse_1 : decode cX9_collapse 1 = .ok (.iconst 0, 1) := by decide +kernel
theorem dX9_collapse_2 : decode cX9_collapse 2 = .ok (.putfield 39, 3) := by decide +kernel
theorem dX9_collapse_5 : decode cX9_collapse 5 = .ok (.aload_n 0, 1) := by decide +kernel
theorem dX9_collapse_6 : decode cX9_collapse 6 = .ok (.iload_n 1, 1) := by decide +kernel
theorem dX9_collapse_7 : decode cX9_collapse 7 = .ok (.invokevirtual 98, 3) := by decide +kernel
theorem dX9_collapse_10 : decode cX9_collapse 10 = .ok (.ifCond .eq 11, 3) := by decide +kernel
theorem dX9_collapse_13 : decode cX9_collapse 13 = .ok (.aload_n 0, 1) := by decide +kernel
theorem dX9_collapse_14 : decode cX9_collapse 14 = .ok (.iload_n 2, 1) := by decide +kernel
theorem dX9_collapse_15 : decode cX9_collapse 15 = .ok (.invokevirtual 98, 3) := by decide +kernel
theorem dX9_collapse_18 : decode cX9_collapse 18 = .ok (.ifCond .ne 9, 3) := by decide +kernel
theorem dX9_collapse_21 : decode cX9_collapse 21 = .ok (.aload_n 0, 1) := by decide +kernel
theorem dX9_collapse_22 : decode cX9_collapse 22 = .ok (.iconst 1, 1) := by decide +kernel
theorem dX9_collapse_23 : decode cX9_collapse 23 = .ok (.invokevirtual 94, 3) := by decide +kernel
theorem dX9_collapse_26 : decode cX9_collapse 26 = .ok (.ireturn, 1) := by decide +kernel
theorem dX9_collapse_27 : decode cX9_collapse 27 = .ok (.aload_n 0, 1) := by decide +kernel
theorem dX9_collapse_28 : decode cX9_collapse 28 = .ok (.iload_n 1, 1) := by decide +kernel
theorem dX9_collapse_29 : decode cX9_collapse 29 = .ok (.iload_n 2, 1) := by decide +kernel
theorem dX9_collapse_30 : decode cX9_collapse 30 = .ok (.invokevirtual 126, 3) := by decide +kernel
theorem dX9_collapse_33 : decode cX9_collapse 33 = .ok (.ifCond .ne 9, 3) := by decide +kernel
theorem dX9_collapse_36 : decode cX9_collapse 36 = .ok (.aload_n 0, 1) := by decide +kernel
theorem dX9_collapse_37 : decode cX9_collapse 37 = .ok (.iconst 2, 1) := by decide +kernel
theorem dX9_collapse_38 : decode cX9_collapse 38 = .ok (.invokevirtual 94, 3) := by decide +kernel
theorem dX9_collapse_41 : decode cX9_collapse 41 = .ok (.ireturn, 1) := by decide +kernel
theorem dX9_collapse_42 : decode cX9_collapse 42 = .ok (.aload_n 0, 1) := by decide +kernel
theorem dX9_collapse_43 : decode cX9_collapse 43 = .ok (.invokevirtual 115, 3) := by decide +kernel
theorem dX9_collapse_46 : decode cX9_collapse 46 = .ok (.istore_n 3, 1) := by decide +kernel
theorem dX9_collapse_47 : decode cX9_collapse 47 = .ok (.aload_n 0, 1) := by decide +kernel
theorem dX9_collapse_48 : decode cX9_collapse 48 = .ok (.iload_n 1, 1) := by decide +kernel
theorem dX9_collapse_49 : decode cX9_collapse 49 = .ok (.iload_n 2, 1) := by decide +kernel
theorem dX9_collapse_50 : decode cX9_collapse 50 = .ok (.invokevirtual 161, 3) := by decide +kernel
theorem dX9_collapse_53 : decode cX9_collapse 53 = .ok (.ifCond .eq 12, 3) := by decide +kernel
theorem dX9_collapse_56 : decode cX9_collapse 56 = .ok (.iload_n 3, 1) := by decide +kernel
theorem dX9_collapse_57 : decode cX9_collapse 57 = .ok (.aload_n 0, 1) := by decide +kernel
theorem dX9_collapse_58 : decode cX9_collapse 58 = .ok (.invokevirtual 115, 3) := by decide +kernel
theorem dX9_collapse_61 : decode cX9_collapse 61 = .ok (.isub, 1) := by decide +kernel
theorem dX9_collapse_62 : decode cX9_collapse 62 = .ok (.goto 8, 3) := by decide +kernel
theorem dX9_collapse_65 : decode cX9_collapse 65 = .ok (.aload_n 0, 1) := by decide +kernel
theorem dX9_collapse_66 : decode cX9_collapse 66 = .ok (.iconst 3, 1) := by decide +kernel
theorem dX9_collapse_67 : decode cX9_collapse 67 = .ok (.invokevirtual 94, 3) := by decide +kernel
theorem dX9_collapse_70 : decode cX9_collapse 70 = .ok (.ireturn, 1) := by decide +kernel
set_option maxRecDepth 20000 in
theorem ggX9_flip_X9_isPoint : GoodIn wsX9_flip wsX9_isPoint := goodIn_r _ [7, 8, 9, 10, 11, 6, 12, 69, 70, 71, 72, 73, 74, 75, 76, 77, 78, 79, 80, 81] (by decide +kernel) (by decide +kernel)
set_option maxRecDepth 20000 in
theorem gX9_flip_X9_isPoint : GoodIn wsX9_flip (wsV RX9 98 RX9 yX9_isPoint wsX9_isPoint) := goodIn_app (goodIn_of _ (by decide +kernel)) ggX9_flip_X9_isPoint
set_option maxRecDepth 20000 in
theorem ggX9_flip_X9_refuse : GoodIn wsX9_flip wsX9_refuse := goodIn_r _ [16, 1, 69, 70, 71, 72, 73, 74, 75, 76, 77, 78, 79, 80, 81] (by decide +kernel) (by decide +kernel)
set_option maxRecDepth 20000 in
theorem gX9_flip_X9_refuse : GoodIn wsX9_flip (wsV RX9 94 RX9 yX9_refuse wsX9_refuse) := goodIn_app (goodIn_of _ (by decide +kernel)) ggX9_flip_X9_refuse
set_option maxRecDepth 20000 in
theorem ggX9_flip_X9_isThree : GoodIn wsX9_flip wsX9_isThree := goodIn_r _ [20, 21, 69, 70, 71, 72, 73, 74, 75, 76, 77, 78, 79, 80, 81] (by decide +kernel) (by decide +kernel)
set_option maxRecDepth 20000 in
theorem gX9_flip_X9_isThree : GoodIn wsX9_flip (wsV RX9 164 RX9 yX9_isThree wsX9_isThree) := goodIn_app (goodIn_of _ (by decide +kernel)) ggX9_flip_X9_isThree
set_option maxRecDepth 20000 in
theorem ggX9_flip_X9_behind : GoodIn wsX9_flip wsX9_behind := goodIn_r _ [25, 21, 26, 27, 28, 6, 29, 69, 70, 71, 72, 73, 74, 75, 76, 77, 78, 79, 80, 81] (by decide +kernel) (by decide +kernel)
set_option maxRecDepth 20000 in
theorem gX9_flip_X9_behind : GoodIn wsX9_flip (wsV RX9 136 RX9 yX9_behind wsX9_behind) := goodIn_app (goodIn_of _ (by decide +kernel)) ggX9_flip_X9_behind
set_option maxRecDepth 20000 in
theorem ggX9_flip_X9_flipNow : GoodIn wsX9_flip wsX9_flipNow := goodIn_r _ [33, 2, 34, 21, 22, 23, 24, 6, 25, 26, 27, 28, 29, 35, 36, 37, 38, 39, 40, 41, 42, 43, 9, 44, 8, 45, 46, 47, 48, 49, 50, 51, 52, 53, 54, 55, 56, 57, 58, 59, 60, 61, 62, 63, 64, 10, 11, 12, 65, 66, 67, 68, 69, 70, 71, 72, 73, 74, 75, 76, 77, 78, 79, 80, 81] (by decide +kernel) (by decide +kernel)
set_option maxRecDepth 20000 in
theorem gX9_flip_X9_flipNow : GoodIn wsX9_flip (wsV RX9 167 RX9 yX9_flipNow wsX9_flipNow) := goodIn_app (goodIn_of _ (by decide +kernel)) ggX9_flip_X9_flipNow
theorem dX9_flip_0 : decode cX9_flip 0 = .ok (.aload_n 0, 1) := by decide +kernel
theorem dX9_flip_1 : decode cX9_flip 1 = .ok (.iconst 0, 1) := by decide +kernel
theorem dX9_flip_2 : decode cX9_flip 2 = .ok (.putfield 39, 3) := by decide +kernel
theorem dX9_flip_5 : decode cX9_flip 5 = .ok (.aload_n 0, 1) := by decide +kernel
theorem dX9_flip_6 : decode cX9_flip 6 = .ok (.iload_n 1, 1) := by decide +kernel
theorem dX9_flip_7 : decode cX9_flip 7 = .ok (.invokevirtual 98, 3) := by decide +kernel
theorem dX9_flip_10 : decode cX9_flip 10 = .ok (.ifCond .eq 11, 3) := by decide +kernel
theorem dX9_flip_13 : decode cX9_flip 13 = .ok (.aload_n 0, 1) := by decide +kernel
theorem dX9_flip_14 : decode cX9_flip 14 = .ok (.iload_n 2, 1) := by decide +kernel
theorem dX9_flip_15 : decode cX9_flip 15 = .ok (.invokevirtual 98, 3) := by decide +kernel
theorem dX9_flip_18 : decode cX9_flip 18 = .ok (.ifCond .ne 9, 3) := by decide +kernel
theorem dX9_flip_21 : decode cX9_flip 21 = .ok (.aload_n 0, 1) := by decide +kernel
theorem dX9_flip_22 : decode cX9_flip 22 = .ok (.iconst 1, 1) := by decide +kernel
theorem dX9_flip_23 : decode cX9_flip 23 = .ok (.invokevirtual 94, 3) := by decide +kernel
theorem dX9_flip_26 : decode cX9_flip 26 = .ok (.ireturn, 1) := by decide +kernel
theorem dX9_flip_27 : decode cX9_flip 27 = .ok (.aload_n 0, 1) := by decide +kernel
theorem dX9_flip_28 : decode cX9_flip 28 = .ok (.aload_n 0, 1) := by decide +kernel
theorem dX9_flip_29 : decode cX9_flip 29 = .ok (.getfield 23, 3) := by decide +kernel
theorem dX9_flip_32 : decode cX9_flip 32 = .ok (.iload_n 1, 1) := by decide +kernel
theorem dX9_flip_33 : decode cX9_flip 33 = .ok (.aaload, 1) := by decide +kernel
theorem dX9_flip_34 : decode cX9_flip 34 = .ok (.iload_n 2, 1) := by decide +kernel
theorem dX9_flip_35 : decode cX9_flip 35 = .ok (.iaload, 1) := by decide +kernel
theorem dX9_flip_36 : decode cX9_flip 36 = .ok (.invokevirtual 164, 3) := by decide +kernel
theorem dX9_flip_39 : decode cX9_flip 39 = .ok (.ifCond .eq 18, 3) := by decide +kernel
theorem dX9_flip_42 : decode cX9_flip 42 = .ok (.aload_n 0, 1) := by decide +kernel
theorem dX9_flip_43 : decode cX9_flip 43 = .ok (.aload_n 0, 1) := by decide +kernel
theorem dX9_flip_44 : decode cX9_flip 44 = .ok (.getfield 23, 3) := by decide +kernel
theorem dX9_flip_47 : decode cX9_flip 47 = .ok (.iload_n 2, 1) := by decide +kernel
theorem dX9_flip_48 : decode cX9_flip 48 = .ok (.aaload, 1) := by decide +kernel
theorem dX9_flip_49 : decode cX9_flip 49 = .ok (.iload_n 1, 1) := by decide +kernel
theorem dX9_flip_50 : decode cX9_flip 50 = .ok (.iaload, 1) := by decide +kernel
theorem dX9_flip_51 : decode cX9_flip 51 = .ok (.invokevirtual 164, 3) := by decide +kernel
theorem dX9_flip_54 : decode cX9_flip 54 = .ok (.ifCond .ne 9, 3) := by decide +kernel
theorem dX9_flip_57 : decode cX9_flip 57 = .ok (.aload_n 0, 1) := by decide +kernel
theorem dX9_flip_58 : decode cX9_flip 58 = .ok (.iconst 2, 1) := by decide +kernel
theorem dX9_flip_59 : decode cX9_flip 59 = .ok (.invokevirtual 94, 3) := by decide +kernel
theorem dX9_flip_62 : decode cX9_flip 62 = .ok (.ireturn, 1) := by decide +kernel
theorem dX9_flip_63 : decode cX9_flip 63 = .ok (.sipush 1000, 3) := by decide +kernel
theorem dX9_flip_66 : decode cX9_flip 66 = .ok (.aload_n 0, 1) := by decide +kernel
theorem dX9_flip_67 : decode cX9_flip 67 = .ok (.aload_n 0, 1) := by decide +kernel
theorem dX9_flip_68 : decode cX9_flip 68 = .ok (.getfield 23, 3) := by decide +kernel
theorem dX9_flip_71 : decode cX9_flip 71 = .ok (.iload_n 1, 1) := by decide +kernel
theorem dX9_flip_72 : decode cX9_flip 72 = .ok (.aaload, 1) := by decide +kernel
theorem dX9_flip_73 : decode cX9_flip 73 = .ok (.iload_n 2, 1) := by decide +kernel
theorem dX9_flip_74 : decode cX9_flip 74 = .ok (.iaload, 1) := by decide +kernel
theorem dX9_flip_75 : decode cX9_flip 75 = .ok (.iload_n 2, 1) := by decide +kernel
theorem dX9_flip_76 : decode cX9_flip 76 = .ok (.iconst 1, 1) := by decide +kernel
theorem dX9_flip_77 : decode cX9_flip 77 = .ok (.invokevirtual 136, 3) := by decide +kernel
theorem dX9_flip_80 : decode cX9_flip 80 = .ok (.imul, 1) := by decide +kernel
theorem dX9_flip_81 : decode cX9_flip 81 = .ok (.aload_n 0, 1) := by decide +kernel
theorem dX9_flip_82 : decode cX9_flip 82 = .ok (.aload_n 0, 1) := by decide +kernel
theorem dX9_flip_83 : decode cX9_flip 83 = .ok (.getfield 23, 3) := by decide +kernel
theorem dX9_flip_86 : decode cX9_flip 86 = .ok (.iload_n 2, 1) := by decide +kernel
theorem dX9_flip_87 : decode cX9_flip 87 = .ok (.aaload, 1) := by decide +kernel
theorem dX9_flip_88 : decode cX9_flip 88 = .ok (.iload_n 1, 1) := by decide +kernel
theorem dX9_flip_89 : decode cX9_flip 89 = .ok (.iaload, 1) := by decide +kernel
theorem dX9_flip_90 : decode cX9_flip 90 = .ok (.iload_n 1, 1) := by decide +kernel
theorem dX9_flip_91 : decode cX9_flip 91 = .ok (.iconst 1, 1) := by decide +kernel
theorem dX9_flip_92 : decode cX9_flip 92 = .ok (.invokevirtual 136, 3) := by decide +kernel
theorem dX9_flip_95 : decode cX9_flip 95 = .ok (.iadd, 1) := by decide +kernel
theorem dX9_flip_96 : decode cX9_flip 96 = .ok (.istore_n 3, 1) := by decide +kernel
theorem dX9_flip_97 : decode cX9_flip 97 = .ok (.aload_n 0, 1) := by decide +kernel
theorem dX9_flip_98 : decode cX9_flip 98 = .ok (.iload_n 1, 1) := by decide +kernel
theorem dX9_flip_99 : decode cX9_flip 99 = .ok (.iload_n 2, 1) := by decide +kernel
theorem dX9_flip_100 : decode cX9_flip 100 = .ok (.invokevirtual 167, 3) := by decide +kernel
theorem dX9_flip_103 : decode cX9_flip 103 = .ok (.ifCond .eq 7, 3) := by decide +kernel
theorem dX9_flip_106 : decode cX9_flip 106 = .ok (.iload_n 3, 1) := by decide +kernel
theorem dX9_flip_107 : decode cX9_flip 107 = .ok (.goto 8, 3) := by decide +kernel
theorem dX9_flip_110 : decode cX9_flip 110 = .ok (.aload_n 0, 1) := by decide +kernel
theorem dX9_flip_111 : decode cX9_flip 111 = .ok (.iconst 3, 1) := by decide +kernel
theorem dX9_flip_112 : decode cX9_flip 112 = .ok (.invokevirtual 94, 3) := by decide +kernel
theorem dX9_flip_115 : decode cX9_flip 115 = .ok (.ireturn, 1) := by decide +kernel
set_option maxRecDepth 20000 in
theorem ggX9_draw_X9_isFace : GoodIn wsX9_draw wsX9_isFace := goodIn_r _ [11, 6, 2, 12, 13, 10, 14, 49, 50, 51, 52, 53, 54, 55, 56, 57, 58, 59, 60, 61] (by decide +kernel) (by decide +kernel)
set_option maxRecDepth 20000 in
theorem gX9_draw_X9_isFace : GoodIn wsX9_draw (wsV RX9 112 RX9 yX9_isFace wsX9_isFace) := goodIn_app (goodIn_of _ (by decide +kernel)) ggX9_draw_X9_isFace
set_option maxRecDepth 20000 in
theorem ggX9_draw_X9_refuse : GoodIn wsX9_draw wsX9_refuse := goodIn_r _ [18, 1, 49, 50, 51, 52, 53, 54, 55, 56, 57, 58, 59, 60, 61] (by decide +kernel) (by decide +kernel)
set_option maxRecDepth 20000 in
theorem gX9_draw_X9_refuse : GoodIn wsX9_draw (wsV RX9 94 RX9 yX9_refuse wsX9_refuse) := goodIn_app (goodIn_of _ (by decide +kernel)) ggX9_draw_X9_refuse
set_option maxRecDepth 20000 in
theorem ggX9_draw_X9_is : GoodIn wsX9_draw wsX9_is := goodIn_r _ [14] (by decide +kernel) (by decide +kernel)
set_option maxRecDepth 20000 in
theorem gX9_draw_X9_is : GoodIn wsX9_draw (va_wsS RX9 43 yX9_is wsX9_is) := goodIn_app (goodIn_of _ (by decide +kernel)) ggX9_draw_X9_is
set_option maxRecDepth 20000 in
theorem ggX9_draw_X9_isNear : GoodIn wsX9_draw wsX9_isNear := goodIn_r _ [21, 12, 13, 10, 14] (by decide +kernel) (by decide +kernel)
set_option maxRecDepth 20000 in
theorem gX9_draw_X9_isNear : GoodIn wsX9_draw (va_wsS RX9 90 yX9_isNear wsX9_isNear) := goodIn_app (goodIn_of _ (by decide +kernel)) ggX9_draw_X9_isNear
set_option maxRecDepth 20000 in
theorem ggX9_draw_X9_newPoint : GoodIn wsX9_draw wsX9_newPoint := goodIn_r _ [25, 3, 4, 5, 26, 27, 28, 29, 30, 49, 50, 51, 52, 53, 54, 55, 56, 57, 58, 59, 60, 61] (by decide +kernel) (by decide +kernel)
set_option maxRecDepth 20000 in
theorem gX9_draw_X9_newPoint : GoodIn wsX9_draw (wsV RX9 86 RX9 yX9_newPoint wsX9_newPoint) := goodIn_app (goodIn_of _ (by decide +kernel)) ggX9_draw_X9_newPoint
set_option maxRecDepth 20000 in
theorem ggX9_draw_X9_newFace : GoodIn wsX9_draw wsX9_newFace := goodIn_r _ [34, 2, 6, 49, 50, 51, 52, 53, 54, 55, 56, 57, 58, 59, 60, 61] (by decide +kernel) (by decide +kernel)
set_option maxRecDepth 20000 in
theorem gX9_draw_X9_newFace : GoodIn wsX9_draw (wsV RX9 104 RX9 yX9_newFace wsX9_newFace) := goodIn_app (goodIn_of _ (by decide +kernel)) ggX9_draw_X9_newFace
set_option maxRecDepth 20000 in
theorem ggX9_draw_X9_table : GoodIn wsX9_draw wsX9_table := goodIn_r _ [38, 39, 5, 6, 40, 2, 41, 42, 43, 44, 45, 46, 47, 10, 48, 12, 13, 14, 49, 50, 51, 52, 53, 54, 55, 56, 57, 58, 59, 60, 61] (by decide +kernel) (by decide +kernel)
set_option maxRecDepth 20000 in
theorem gX9_draw_X9_table : GoodIn wsX9_draw (wsV RX9 36 RX9 yX9_table wsX9_table) := goodIn_app (goodIn_of _ (by decide +kernel)) ggX9_draw_X9_table
theorem dX9_draw_0 : decode cX9_draw 0 = .ok (.aload_n 0, 1) := by decide +kernel
theorem dX9_draw_1 : decode cX9_draw 1 = .ok (.iconst 0, 1) := by decide +kernel
theorem dX9_draw_2 : decode cX9_draw 2 = .ok (.putfield 39, 3) := by decide +kernel
theorem dX9_draw_5 : decode cX9_draw 5 = .ok (.aload_n 0, 1) := by decide +kernel
theorem dX9_draw_6 : decode cX9_draw 6 = .ok (.iload_n 1, 1) := by decide +kernel
theorem dX9_draw_7 : decode cX9_draw 7 = .ok (.invokevirtual 112, 3) := by decide +kernel
theorem dX9_draw_10 : decode cX9_draw 10 = .ok (.ifCond .ne 9, 3) := by decide +kernel
theorem dX9_draw_13 : decode cX9_draw 13 = .ok (.aload_n 0, 1) := by decide +kernel
theorem dX9_draw_14 : decode cX9_draw 14 = .ok (.iconst 1, 1) := by decide +kernel
theorem dX9_draw_15 : decode cX9_draw 15 = .ok (.invokevirtual 94, 3) := by decide +kernel
theorem dX9_draw_18 : decode cX9_draw 18 = .ok (.ireturn, 1) := by decide +kernel
theorem dX9_draw_19 : decode cX9_draw 19 = .ok (.aload_n 0, 1) := by decide +kernel
theorem dX9_draw_20 : decode cX9_draw 20 = .ok (.getfield 20, 3) := by decide +kernel
theorem dX9_draw_23 : decode cX9_draw 23 = .ok (.iload_n 1, 1) := by decide +kernel
theorem dX9_draw_24 : decode cX9_draw 24 = .ok (.aaload, 1) := by decide +kernel
theorem dX9_draw_25 : decode cX9_draw 25 = .ok (.astore 5, 2) := by decide +kernel
theorem dX9_draw_27 : decode cX9_draw 27 = .ok (.iconst 3, 1) := by decide +kernel
theorem dX9_draw_28 : decode cX9_draw 28 = .ok (.newarray .int, 2) := by decide +kernel
theorem dX9_draw_30 : decode cX9_draw 30 = .ok (.dup, 1) := by decide +kernel
theorem dX9_draw_31 : decode cX9_draw 31 = .ok (.iconst 0, 1) := by decide +kernel
theorem dX9_draw_32 : decode cX9_draw 32 = .ok (.iload_n 2, 1) := by decide +kernel
theorem dX9_draw_33 : decode cX9_draw 33 = .ok (.iastore, 1) := by decide +kernel
theorem dX9_draw_34 : decode cX9_draw 34 = .ok (.dup, 1) := by decide +kernel
theorem dX9_draw_35 : decode cX9_draw 35 = .ok (.iconst 1, 1) := by decide +kernel
theorem dX9_draw_36 : decode cX9_draw 36 = .ok (.iload_n 3, 1) := by decide +kernel
theorem dX9_draw_37 : decode cX9_draw 37 = .ok (.iastore, 1) := by decide +kernel
theorem dX9_draw_38 : decode cX9_draw 38 = .ok (.dup, 1) := by decide +kernel
theorem dX9_draw_39 : decode cX9_draw 39 = .ok (.iconst 2, 1) := by decide +kernel
theorem dX9_draw_40 : decode cX9_draw 40 = .ok (.iload 4, 2) := by decide +kernel
theorem dX9_draw_42 : decode cX9_draw 42 = .ok (.iastore, 1) := by decide +kernel
theorem dX9_draw_43 : decode cX9_draw 43 = .ok (.astore 6, 2) := by decide +kernel
theorem dX9_draw_45 : decode cX9_draw 45 = .ok (.aload 5, 2) := by decide +kernel
theorem dX9_draw_47 : decode cX9_draw 47 = .ok (.astore 7, 2) := by decide +kernel
theorem dX9_draw_49 : decode cX9_draw 49 = .ok (.aload 7, 2) := by decide +kernel
theorem dX9_draw_51 : decode cX9_draw 51 = .ok (.arraylength, 1) := by decide +kernel
theorem dX9_draw_52 : decode cX9_draw 52 = .ok (.istore 8, 2) := by decide +kernel
theorem dX9_draw_54 : decode cX9_draw 54 = .ok (.iconst 0, 1) := by decide +kernel
theorem dX9_draw_55 : decode cX9_draw 55 = .ok (.istore 9, 2) := by decide +kernel
theorem dX9_draw_57 : decode cX9_draw 57 = .ok (.iload 9, 2) := by decide +kernel
theorem dX9_draw_59 : decode cX9_draw 59 = .ok (.iload 8, 2) := by decide +kernel
theorem dX9_draw_61 : decode cX9_draw 61 = .ok (.if_icmp .ge 76, 3) := by decide +kernel
theorem dX9_draw_64 : decode cX9_draw 64 = .ok (.aload 7, 2) := by decide +kernel
theorem dX9_draw_66 : decode cX9_draw 66 = .ok (.iload 9, 2) := by decide +kernel
theorem dX9_draw_68 : decode cX9_draw 68 = .ok (.iaload, 1) := by decide +kernel
theorem dX9_draw_69 : decode cX9_draw 69 = .ok (.istore 10, 2) := by decide +kernel
theorem dX9_draw_71 : decode cX9_draw 71 = .ok (.iconst 0, 1) := by decide +kernel
theorem dX9_draw_72 : decode cX9_draw 72 = .ok (.istore 11, 2) := by decide +kernel
theorem dX9_draw_74 : decode cX9_draw 74 = .ok (.iload 11, 2) := by decide +kernel
theorem dX9_draw_76 : decode cX9_draw 76 = .ok (.iconst 3, 1) := by decide +kernel
theorem dX9_draw_77 : decode cX9_draw 77 = .ok (.if_icmp .ge 54, 3) := by decide +kernel
theorem dX9_draw_80 : decode cX9_draw 80 = .ok (.aload 6, 2) := by decide +kernel
theorem dX9_draw_82 : decode cX9_draw 82 = .ok (.iload 11, 2) := by decide +kernel
theorem dX9_draw_84 : decode cX9_draw 84 = .ok (.iaload, 1) := by decide +kernel
theorem dX9_draw_85 : decode cX9_draw 85 = .ok (.sipush (-1000), 3) := by decide +kernel
theorem dX9_draw_88 : decode cX9_draw 88 = .ok (.sipush 1000, 3) := by decide +kernel
theorem dX9_draw_91 : decode cX9_draw 91 = .ok (.invokestatic 43, 3) := by decide +kernel
theorem dX9_draw_94 : decode cX9_draw 94 = .ok (.ifCond .eq 25, 3) := by decide +kernel
theorem dX9_draw_97 : decode cX9_draw 97 = .ok (.aload_n 0, 1) := by decide +kernel
theorem dX9_draw_98 : decode cX9_draw 98 = .ok (.getfield 11, 3) := by decide +kernel
theorem dX9_draw_101 : decode cX9_draw 101 = .ok (.iload 10, 2) := by decide +kernel
theorem dX9_draw_103 : decode cX9_draw 103 = .ok (.aaload, 1) := by decide +kernel
theorem dX9_draw_104 : decode cX9_draw 104 = .ok (.iload 11, 2) := by decide +kernel
theorem dX9_draw_106 : decode cX9_draw 106 = .ok (.iaload, 1) := by decide +kernel
theorem dX9_draw_107 : decode cX9_draw 107 = .ok (.aload 6, 2) := by decide +kernel
theorem dX9_draw_109 : decode cX9_draw 109 = .ok (.iload 11, 2) := by decide +kernel
theorem dX9_draw_111 : decode cX9_draw 111 = .ok (.iaload, 1) := by decide +kernel
theorem dX9_draw_112 : decode cX9_draw 112 = .ok (.iadd, 1) := by decide +kernel
theorem dX9_draw_113 : decode cX9_draw 113 = .ok (.invokestatic 90, 3) := by decide +kernel
theorem dX9_draw_116 : decode cX9_draw 116 = .ok (.ifCond .ne 9, 3) := by decide +kernel
theorem dX9_draw_119 : decode cX9_draw 119 = .ok (.aload_n 0, 1) := by decide +kernel
theorem dX9_draw_120 : decode cX9_draw 120 = .ok (.iconst 2, 1) := by decide +kernel
theorem dX9_draw_121 : decode cX9_draw 121 = .ok (.invokevirtual 94, 3) := by decide +kernel
theorem dX9_draw_124 : decode cX9_draw 124 = .ok (.ireturn, 1) := by decide +kernel
theorem dX9_draw_125 : decode cX9_draw 125 = .ok (.iinc 11 1, 3) := by decide +kernel
theorem dX9_draw_128 : decode cX9_draw 128 = .ok (.goto (-54), 3) := by decide +kernel
theorem dX9_draw_131 : decode cX9_draw 131 = .ok (.iinc 9 1, 3) := by decide +kernel
theorem dX9_draw_134 : decode cX9_draw 134 = .ok (.goto (-77), 3) := by decide +kernel
theorem dX9_draw_137 : decode cX9_draw 137 = .ok (.aload_n 0, 1) := by decide +kernel
theorem dX9_draw_138 : decode cX9_draw 138 = .ok (.getfield 47, 3) := by decide +kernel
theorem dX9_draw_141 : decode cX9_draw 141 = .ok (.aload 5, 2) := by decide +kernel
theorem dX9_draw_143 : decode cX9_draw 143 = .ok (.arraylength, 1) := by decide +kernel
theorem dX9_draw_144 : decode cX9_draw 144 = .ok (.iadd, 1) := by decide +kernel
theorem dX9_draw_145 : decode cX9_draw 145 = .ok (.bipush 100, 2) := by decide +kernel
theorem dX9_draw_147 : decode cX9_draw 147 = .ok (.if_icmp .gt 17, 3) := by decide +kernel
theorem dX9_draw_150 : decode cX9_draw 150 = .ok (.aload_n 0, 1) := by decide +kernel
theorem dX9_draw_151 : decode cX9_draw 151 = .ok (.getfield 50, 3) := by decide +kernel
theorem dX9_draw_154 : decode cX9_draw 154 = .ok (.aload 5, 2) := by decide +kernel
theorem dX9_draw_156 : decode cX9_draw 156 = .ok (.arraylength, 1) := by decide +kernel
theorem dX9_draw_157 : decode cX9_draw 157 = .ok (.iadd, 1) := by decide +kernel
theorem dX9_draw_158 : decode cX9_draw 158 = .ok (.sipush 160, 3) := by decide +kernel
theorem dX9_draw_161 : decode cX9_draw 161 = .ok (.if_icmp .le 9, 3) := by decide +kernel
theorem dX9_draw_164 : decode cX9_draw 164 = .ok (.aload_n 0, 1) := by decide +kernel
theorem dX9_draw_165 : decode cX9_draw 165 = .ok (.iconst 3, 1) := by decide +kernel
theorem dX9_draw_166 : decode cX9_draw 166 = .ok (.invokevirtual 94, 3) := by decide +kernel
theorem dX9_draw_169 : decode cX9_draw 169 = .ok (.ireturn, 1) := by decide +kernel
theorem dX9_draw_170 : decode cX9_draw 170 = .ok (.aload 5, 2) := by decide +kernel
theorem dX9_draw_172 : decode cX9_draw 172 = .ok (.arraylength, 1) := by decide +kernel
theorem dX9_draw_173 : decode cX9_draw 173 = .ok (.newarray .int, 2) := by decide +kernel
theorem dX9_draw_175 : decode cX9_draw 175 = .ok (.astore 7, 2) := by decide +kernel
theorem dX9_draw_177 : decode cX9_draw 177 = .ok (.iconst 0, 1) := by decide +kernel
theorem dX9_draw_178 : decode cX9_draw 178 = .ok (.istore 8, 2) := by decide +kernel
theorem dX9_draw_180 : decode cX9_draw 180 = .ok (.iload 8, 2) := by decide +kernel
theorem dX9_draw_182 : decode cX9_draw 182 = .ok (.aload 5, 2) := by decide +kernel
theorem dX9_draw_184 : decode cX9_draw 184 = .ok (.arraylength, 1) := by decide +kernel
theorem dX9_draw_185 : decode cX9_draw 185 = .ok (.if_icmp .ge 61, 3) := by decide +kernel
theorem dX9_draw_188 : decode cX9_draw 188 = .ok (.aload 7, 2) := by decide +kernel
theorem dX9_draw_190 : decode cX9_draw 190 = .ok (.iload 8, 2) := by decide +kernel
theorem dX9_draw_192 : decode cX9_draw 192 = .ok (.aload_n 0, 1) := by decide +kernel
theorem dX9_draw_193 : decode cX9_draw 193 = .ok (.aload_n 0, 1) := by decide +kernel
theorem dX9_draw_194 : decode cX9_draw 194 = .ok (.getfield 11, 3) := by decide +kernel
theorem dX9_draw_197 : decode cX9_draw 197 = .ok (.aload 5, 2) := by decide +kernel
theorem dX9_draw_199 : decode cX9_draw 199 = .ok (.iload 8, 2) := by decide +kernel
theorem dX9_draw_201 : decode cX9_draw 201 = .ok (.iaload, 1) := by decide +kernel
theorem dX9_draw_202 : decode cX9_draw 202 = .ok (.aaload, 1) := by decide +kernel
theorem dX9_draw_203 : decode cX9_draw 203 = .ok (.iconst 0, 1) := by decide +kernel
theorem dX9_draw_204 : decode cX9_draw 204 = .ok (.iaload, 1) := by decide +kernel
theorem dX9_draw_205 : decode cX9_draw 205 = .ok (.iload_n 2, 1) := by decide +kernel
theorem dX9_draw_206 : decode cX9_draw 206 = .ok (.iadd, 1) := by decide +kernel
theorem dX9_draw_207 : decode cX9_draw 207 = .ok (.aload_n 0, 1) := by decide +kernel
theorem dX9_draw_208 : decode cX9_draw 208 = .ok (.getfield 11, 3) := by decide +kernel
theorem dX9_draw_211 : decode cX9_draw 211 = .ok (.aload 5, 2) := by decide +kernel
theorem dX9_draw_213 : decode cX9_draw 213 = .ok (.iload 8, 2) := by decide +kernel
theorem dX9_draw_215 : decode cX9_draw 215 = .ok (.iaload, 1) := by decide +kernel
theorem dX9_draw_216 : decode cX9_draw 216 = .ok (.aaload, 1) := by decide +kernel
theorem dX9_draw_217 : decode cX9_draw 217 = .ok (.iconst 1, 1) := by decide +kernel
theorem dX9_draw_218 : decode cX9_draw 218 = .ok (.iaload, 1) := by decide +kernel
theorem dX9_draw_219 : decode cX9_draw 219 = .ok (.iload_n 3, 1) := by decide +kernel
theorem dX9_draw_220 : decode cX9_draw 220 = .ok (.iadd, 1) := by decide +kernel
theorem dX9_draw_221 : decode cX9_draw 221 = .ok (.aload_n 0, 1) := by decide +kernel
theorem dX9_draw_222 : decode cX9_draw 222 = .ok (.getfield 11, 3) := by decide +kernel
theorem dX9_draw_225 : decode cX9_draw 225 = .ok (.aload 5, 2) := by decide +kernel
theorem dX9_draw_227 : decode cX9_draw 227 = .ok (.iload 8, 2) := by decide +kernel
theorem dX9_draw_229 : decode cX9_draw 229 = .ok (.iaload, 1) := by decide +kernel
theorem dX9_draw_230 : decode cX9_draw 230 = .ok (.aaload, 1) := by decide +kernel
theorem dX9_draw_231 : decode cX9_draw 231 = .ok (.iconst 2, 1) := by decide +kernel
theorem dX9_draw_232 : decode cX9_draw 232 = .ok (.iaload, 1) := by decide +kernel
theorem dX9_draw_233 : decode cX9_draw 233 = .ok (.iload 4, 2) := by decide +kernel
theorem dX9_draw_235 : decode cX9_draw 235 = .ok (.iadd, 1) := by decide +kernel
theorem dX9_draw_236 : decode cX9_draw 236 = .ok (.invokevirtual 86, 3) := by decide +kernel
theorem dX9_draw_239 : decode cX9_draw 239 = .ok (.iastore, 1) := by decide +kernel
theorem dX9_draw_240 : decode cX9_draw 240 = .ok (.iinc 8 1, 3) := by decide +kernel
theorem dX9_draw_243 : decode cX9_draw 243 = .ok (.goto (-63), 3) := by decide +kernel
theorem dX9_draw_246 : decode cX9_draw 246 = .ok (.iconst 0, 1) := by decide +kernel
theorem dX9_draw_247 : decode cX9_draw 247 = .ok (.istore 8, 2) := by decide +kernel
theorem dX9_draw_249 : decode cX9_draw 249 = .ok (.iload 8, 2) := by decide +kernel
theorem dX9_draw_251 : decode cX9_draw 251 = .ok (.aload 5, 2) := by decide +kernel
theorem dX9_draw_253 : decode cX9_draw 253 = .ok (.arraylength, 1) := by decide +kernel
theorem dX9_draw_254 : decode cX9_draw 254 = .ok (.if_icmp .ge 59, 3) := by decide +kernel
theorem dX9_draw_257 : decode cX9_draw 257 = .ok (.iload 8, 2) := by decide +kernel
theorem dX9_draw_259 : decode cX9_draw 259 = .ok (.iconst 1, 1) := by decide +kernel
theorem dX9_draw_260 : decode cX9_draw 260 = .ok (.iadd, 1) := by decide +kernel
theorem dX9_draw_261 : decode cX9_draw 261 = .ok (.aload 5, 2) := by decide +kernel
theorem dX9_draw_263 : decode cX9_draw 263 = .ok (.arraylength, 1) := by decide +kernel
theorem dX9_draw_264 : decode cX9_draw 264 = .ok (.irem, 1) := by decide +kernel
theorem dX9_draw_265 : decode cX9_draw 265 = .ok (.istore 9, 2) := by decide +kernel
theorem dX9_draw_267 : decode cX9_draw 267 = .ok (.aload_n 0, 1) := by decide +kernel
theorem dX9_draw_268 : decode cX9_draw 268 = .ok (.iconst 4, 1) := by decide +kernel
theorem dX9_draw_269 : decode cX9_draw 269 = .ok (.newarray .int, 2) := by decide +kernel
theorem dX9_draw_271 : decode cX9_draw 271 = .ok (.dup, 1) := by decide +kernel
theorem dX9_draw_272 : decode cX9_draw 272 = .ok (.iconst 0, 1) := by decide +kernel
theorem dX9_draw_273 : decode cX9_draw 273 = .ok (.aload 5, 2) := by decide +kernel
theorem dX9_draw_275 : decode cX9_draw 275 = .ok (.iload 8, 2) := by decide +kernel
theorem dX9_draw_277 : decode cX9_draw 277 = .ok (.iaload, 1) := by decide +kernel
theorem dX9_draw_278 : decode cX9_draw 278 = .ok (.iastore, 1) := by decide +kernel
theorem dX9_draw_279 : decode cX9_draw 279 = .ok (.dup, 1) := by decide +kernel
theorem dX9_draw_280 : decode cX9_draw 280 = .ok (.iconst 1, 1) := by decide +kernel
theorem dX9_draw_281 : decode cX9_draw 281 = .ok (.aload 5, 2) := by decide +kernel
theorem dX9_draw_283 : decode cX9_draw 283 = .ok (.iload 9, 2) := by decide +kernel
theorem dX9_draw_285 : decode cX9_draw 285 = .ok (.iaload, 1) := by decide +kernel
theorem dX9_draw_286 : decode cX9_draw 286 = .ok (.iastore, 1) := by decide +kernel
theorem dX9_draw_287 : decode cX9_draw 287 = .ok (.dup, 1) := by decide +kernel
theorem dX9_draw_288 : decode cX9_draw 288 = .ok (.iconst 2, 1) := by decide +kernel
theorem dX9_draw_289 : decode cX9_draw 289 = .ok (.aload 7, 2) := by decide +kernel
theorem dX9_draw_291 : decode cX9_draw 291 = .ok (.iload 9, 2) := by decide +kernel
theorem dX9_draw_293 : decode cX9_draw 293 = .ok (.iaload, 1) := by decide +kernel
theorem dX9_draw_294 : decode cX9_draw 294 = .ok (.iastore, 1) := by decide +kernel
theorem dX9_draw_295 : decode cX9_draw 295 = .ok (.dup, 1) := by decide +kernel
theorem dX9_draw_296 : decode cX9_draw 296 = .ok (.iconst 3, 1) := by decide +kernel
theorem dX9_draw_297 : decode cX9_draw 297 = .ok (.aload 7, 2) := by decide +kernel
theorem dX9_draw_299 : decode cX9_draw 299 = .ok (.iload 8, 2) := by decide +kernel
theorem dX9_draw_301 : decode cX9_draw 301 = .ok (.iaload, 1) := by decide +kernel
theorem dX9_draw_302 : decode cX9_draw 302 = .ok (.iastore, 1) := by decide +kernel
theorem dX9_draw_303 : decode cX9_draw 303 = .ok (.invokevirtual 104, 3) := by decide +kernel
theorem dX9_draw_306 : decode cX9_draw 306 = .ok (.pop, 1) := by decide +kernel
theorem dX9_draw_307 : decode cX9_draw 307 = .ok (.iinc 8 1, 3) := by decide +kernel
theorem dX9_draw_310 : decode cX9_draw 310 = .ok (.goto (-61), 3) := by decide +kernel
theorem dX9_draw_313 : decode cX9_draw 313 = .ok (.aload_n 0, 1) := by decide +kernel
theorem dX9_draw_314 : decode cX9_draw 314 = .ok (.getfield 20, 3) := by decide +kernel
theorem dX9_draw_317 : decode cX9_draw 317 = .ok (.iload_n 1, 1) := by decide +kernel
theorem dX9_draw_318 : decode cX9_draw 318 = .ok (.aload 7, 2) := by decide +kernel
theorem dX9_draw_320 : decode cX9_draw 320 = .ok (.aastore, 1) := by decide +kernel
theorem dX9_draw_321 : decode cX9_draw 321 = .ok (.aload_n 0, 1) := by decide +kernel
theorem dX9_draw_322 : decode cX9_draw 322 = .ok (.invokevirtual 36, 3) := by decide +kernel
theorem dX9_draw_325 : decode cX9_draw 325 = .ok (.aload 7, 2) := by decide +kernel
theorem dX9_draw_327 : decode cX9_draw 327 = .ok (.iconst 0, 1) := by decide +kernel
theorem dX9_draw_328 : decode cX9_draw 328 = .ok (.iaload, 1) := by decide +kernel
theorem dX9_draw_329 : decode cX9_draw 329 = .ok (.ireturn, 1) := by decide +kernel
set_option maxRecDepth 20000 in
theorem ggX9_fill_X9_isPoint : GoodIn wsX9_fill wsX9_isPoint := goodIn_r _ [7, 8, 9, 10, 11, 6, 12, 94, 95, 96, 97, 98, 99, 100, 101, 102, 103, 104, 105, 106] (by decide +kernel) (by decide +kernel)
set_option maxRecDepth 20000 in
theorem gX9_fill_X9_isPoint : GoodIn wsX9_fill (wsV RX9 98 RX9 yX9_isPoint wsX9_isPoint) := goodIn_app (goodIn_of _ (by decide +kernel)) ggX9_fill_X9_isPoint
set_option maxRecDepth 20000 in
theorem ggX9_fill_X9_refuse : GoodIn wsX9_fill wsX9_refuse := goodIn_r _ [16, 1, 94, 95, 96, 97, 98, 99, 100, 101, 102, 103, 104, 105, 106] (by decide +kernel) (by decide +kernel)
set_option maxRecDepth 20000 in
theorem gX9_fill_X9_refuse : GoodIn wsX9_fill (wsV RX9 94 RX9 yX9_refuse wsX9_refuse) := goodIn_app (goodIn_of _ (by decide +kernel)) ggX9_fill_X9_refuse
set_option maxRecDepth 20000 in
theorem ggX9_fill_X9_isOpen : GoodIn wsX9_fill wsX9_isOpen := goodIn_r _ [20, 21, 94, 95, 96, 97, 98, 99, 100, 101, 102, 103, 104, 105, 106] (by decide +kernel) (by decide +kernel)
set_option maxRecDepth 20000 in
theorem gX9_fill_X9_isOpen : GoodIn wsX9_fill (wsV RX9 173 RX9 yX9_isOpen wsX9_isOpen) := goodIn_app (goodIn_of _ (by decide +kernel)) ggX9_fill_X9_isOpen
set_option maxRecDepth 20000 in
theorem ggX9_fill_X9_keep : GoodIn wsX9_fill wsX9_keep := goodIn_r _ [25, 26, 27, 28, 29, 30, 31, 9, 32, 8, 33, 2, 34, 94, 95, 96, 97, 98, 99, 100, 101, 102, 103, 104, 105, 106] (by decide +kernel) (by decide +kernel)
set_option maxRecDepth 20000 in
theorem gX9_fill_X9_keep : GoodIn wsX9_fill (wsV RX9 101 RX9 yX9_keep wsX9_keep) := goodIn_app (goodIn_of _ (by decide +kernel)) ggX9_fill_X9_keep
set_option maxRecDepth 20000 in
theorem ggX9_fill_X9_holeOf : GoodIn wsX9_fill wsX9_holeOf := goodIn_r _ [38, 39, 40, 41, 42, 6, 43, 21, 44, 45, 46, 47, 26, 48, 49, 50, 51, 52, 53, 54, 28, 29, 30, 31, 55, 56, 57, 58, 59, 60, 61, 62, 63, 64, 65, 66, 67, 68, 69, 94, 95, 96, 97, 98, 99, 100, 101, 102, 103, 104, 105, 106] (by decide +kernel) (by decide +kernel)
set_option maxRecDepth 20000 in
theorem gX9_fill_X9_holeOf : GoodIn wsX9_fill (wsV RX9 176 RX9 yX9_holeOf wsX9_holeOf) := goodIn_app (goodIn_of _ (by decide +kernel)) ggX9_fill_X9_holeOf
set_option maxRecDepth 20000 in
theorem ggX9_fill_X9_newFace : GoodIn wsX9_fill wsX9_newFace := goodIn_r _ [73, 26, 2, 94, 95, 96, 97, 98, 99, 100, 101, 102, 103, 104, 105, 106] (by decide +kernel) (by decide +kernel)
set_option maxRecDepth 20000 in
theorem gX9_fill_X9_newFace : GoodIn wsX9_fill (wsV RX9 104 RX9 yX9_newFace wsX9_newFace) := goodIn_app (goodIn_of _ (by decide +kernel)) ggX9_fill_X9_newFace
set_option maxRecDepth 20000 in
theorem ggX9_fill_X9_isDone : GoodIn wsX9_fill wsX9_isDone := goodIn_r _ [77, 78, 79, 80, 81, 6, 82, 21, 8, 2, 26, 83, 84, 57, 85, 86, 87, 88, 89, 10, 11, 12, 90, 91, 92, 93, 27, 28, 29, 30, 31, 32, 9, 33, 34, 94, 95, 96, 97, 98, 99, 100, 101, 102, 103, 104, 105, 106] (by decide +kernel) (by decide +kernel)
set_option maxRecDepth 20000 in
theorem gX9_fill_X9_isDone : GoodIn wsX9_fill (wsV RX9 108 RX9 yX9_isDone wsX9_isDone) := goodIn_app (goodIn_of _ (by decide +kernel)) ggX9_fill_X9_isDone
theorem dX9_fill_0 : decode cX9_fill 0 = .ok (.aload_n 0, 1) := by decide +kernel
theorem dX9_fill_1 : decode cX9_fill 1 = .ok (.iconst 0, 1) := by decide +kernel
theorem dX9_fill_2 : decode cX9_fill 2 = .ok (.putfield 39, 3) := by decide +kernel
theorem dX9_fill_5 : decode cX9_fill 5 = .ok (.aload_n 0, 1) := by decide +kernel
theorem dX9_fill_6 : decode cX9_fill 6 = .ok (.iload_n 1, 1) := by decide +kernel
theorem dX9_fill_7 : decode cX9_fill 7 = .ok (.invokevirtual 98, 3) := by decide +kernel
theorem dX9_fill_10 : decode cX9_fill 10 = .ok (.ifCond .eq 11, 3) := by decide +kernel
theorem dX9_fill_13 : decode cX9_fill 13 = .ok (.aload_n 0, 1) := by decide +kernel
theorem dX9_fill_14 : decode cX9_fill 14 = .ok (.iload_n 2, 1) := by decide +kernel
theorem dX9_fill_15 : decode cX9_fill 15 = .ok (.invokevirtual 98, 3) := by decide +kernel
theorem dX9_fill_18 : decode cX9_fill 18 = .ok (.ifCond .ne 9, 3) := by decide +kernel
theorem dX9_fill_21 : decode cX9_fill 21 = .ok (.aload_n 0, 1) := by decide +kernel
theorem dX9_fill_22 : decode cX9_fill 22 = .ok (.iconst 1, 1) := by decide +kernel
theorem dX9_fill_23 : decode cX9_fill 23 = .ok (.invokevirtual 94, 3) := by decide +kernel
theorem dX9_fill_26 : decode cX9_fill 26 = .ok (.ireturn, 1) := by decide +kernel
theorem dX9_fill_27 : decode cX9_fill 27 = .ok (.aload_n 0, 1) := by decide +kernel
theorem dX9_fill_28 : decode cX9_fill 28 = .ok (.iload_n 1, 1) := by decide +kernel
theorem dX9_fill_29 : decode cX9_fill 29 = .ok (.iload_n 2, 1) := by decide +kernel
theorem dX9_fill_30 : decode cX9_fill 30 = .ok (.invokevirtual 173, 3) := by decide +kernel
theorem dX9_fill_33 : decode cX9_fill 33 = .ok (.ifCond .ne 9, 3) := by decide +kernel
theorem dX9_fill_36 : decode cX9_fill 36 = .ok (.aload_n 0, 1) := by decide +kernel
theorem dX9_fill_37 : decode cX9_fill 37 = .ok (.iconst 2, 1) := by decide +kernel
theorem dX9_fill_38 : decode cX9_fill 38 = .ok (.invokevirtual 94, 3) := by decide +kernel
theorem dX9_fill_41 : decode cX9_fill 41 = .ok (.ireturn, 1) := by decide +kernel
theorem dX9_fill_42 : decode cX9_fill 42 = .ok (.aload_n 0, 1) := by decide +kernel
theorem dX9_fill_43 : decode cX9_fill 43 = .ok (.getfield 50, 3) := by decide +kernel
theorem dX9_fill_46 : decode cX9_fill 46 = .ok (.sipush 160, 3) := by decide +kernel
theorem dX9_fill_49 : decode cX9_fill 49 = .ok (.if_icmp .ne 9, 3) := by decide +kernel
theorem dX9_fill_52 : decode cX9_fill 52 = .ok (.aload_n 0, 1) := by decide +kernel
theorem dX9_fill_53 : decode cX9_fill 53 = .ok (.iconst 3, 1) := by decide +kernel
theorem dX9_fill_54 : decode cX9_fill 54 = .ok (.invokevirtual 94, 3) := by decide +kernel
theorem dX9_fill_57 : decode cX9_fill 57 = .ok (.ireturn, 1) := by decide +kernel
theorem dX9_fill_58 : decode cX9_fill 58 = .ok (.aload_n 0, 1) := by decide +kernel
theorem dX9_fill_59 : decode cX9_fill 59 = .ok (.invokevirtual 101, 3) := by decide +kernel
theorem dX9_fill_62 : decode cX9_fill 62 = .ok (.aload_n 0, 1) := by decide +kernel
theorem dX9_fill_63 : decode cX9_fill 63 = .ok (.aload_n 0, 1) := by decide +kernel
theorem dX9_fill_64 : decode cX9_fill 64 = .ok (.iload_n 1, 1) := by decide +kernel
theorem dX9_fill_65 : decode cX9_fill 65 = .ok (.iload_n 2, 1) := by decide +kernel
theorem dX9_fill_66 : decode cX9_fill 66 = .ok (.invokevirtual 176, 3) := by decide +kernel
theorem dX9_fill_69 : decode cX9_fill 69 = .ok (.invokevirtual 104, 3) := by decide +kernel
theorem dX9_fill_72 : decode cX9_fill 72 = .ok (.istore_n 3, 1) := by decide +kernel
theorem dX9_fill_73 : decode cX9_fill 73 = .ok (.aload_n 0, 1) := by decide +kernel
theorem dX9_fill_74 : decode cX9_fill 74 = .ok (.invokevirtual 108, 3) := by decide +kernel
theorem dX9_fill_77 : decode cX9_fill 77 = .ok (.ifCond .eq 7, 3) := by decide +kernel
theorem dX9_fill_80 : decode cX9_fill 80 = .ok (.iload_n 3, 1) := by decide +kernel
theorem dX9_fill_81 : decode cX9_fill 81 = .ok (.goto 8, 3) := by decide +kernel
theorem dX9_fill_84 : decode cX9_fill 84 = .ok (.aload_n 0, 1) := by decide +kernel
theorem dX9_fill_85 : decode cX9_fill 85 = .ok (.iconst 3, 1) := by decide +kernel
theorem dX9_fill_86 : decode cX9_fill 86 = .ok (.invokevirtual 94, 3) := by decide +kernel
theorem dX9_fill_89 : decode cX9_fill 89 = .ok (.ireturn, 1) := by decide +kernel
set_option maxRecDepth 20000 in
theorem ggX9_quarters_X9_edgesNow : GoodIn wsX9_quarters wsX9_edgesNow := goodIn_r _ [11, 4, 12, 13, 14, 10, 15, 16, 71, 72, 73, 74, 75, 76, 77, 78, 79, 80, 81, 82, 83] (by decide +kernel) (by decide +kernel)
set_option maxRecDepth 20000 in
theorem gX9_quarters_X9_edgesNow : GoodIn wsX9_quarters (wsV RX9 180 RX9 yX9_edgesNow wsX9_edgesNow) := goodIn_app (goodIn_of _ (by decide +kernel)) ggX9_quarters_X9_edgesNow
set_option maxRecDepth 20000 in
theorem ggX9_quarters_X9_facesNow : GoodIn wsX9_quarters wsX9_facesNow := goodIn_r _ [20, 2, 3, 71, 72, 73, 74, 75, 76, 77, 78, 79, 80, 81, 82, 83] (by decide +kernel) (by decide +kernel)
set_option maxRecDepth 20000 in
theorem gX9_quarters_X9_facesNow : GoodIn wsX9_quarters (wsV RX9 115 RX9 yX9_facesNow wsX9_facesNow) := goodIn_app (goodIn_of _ (by decide +kernel)) ggX9_quarters_X9_facesNow
set_option maxRecDepth 20000 in
theorem ggX9_quarters_X9_refuse : GoodIn wsX9_quarters wsX9_refuse := goodIn_r _ [24, 1, 71, 72, 73, 74, 75, 76, 77, 78, 79, 80, 81, 82, 83] (by decide +kernel) (by decide +kernel)
set_option maxRecDepth 20000 in
theorem gX9_quarters_X9_refuse : GoodIn wsX9_quarters (wsV RX9 94 RX9 yX9_refuse wsX9_refuse) := goodIn_app (goodIn_of _ (by decide +kernel)) ggX9_quarters_X9_refuse
set_option maxRecDepth 20000 in
theorem ggX9_quarters_X9_isEdge : GoodIn wsX9_quarters wsX9_isEdge := goodIn_r _ [15, 16, 71, 72, 73, 74, 75, 76, 77, 78, 79, 80, 81, 82, 83] (by decide +kernel) (by decide +kernel)
set_option maxRecDepth 20000 in
theorem gX9_quarters_X9_isEdge : GoodIn wsX9_quarters (wsV RX9 126 RX9 yX9_isEdge wsX9_isEdge) := goodIn_app (goodIn_of _ (by decide +kernel)) ggX9_quarters_X9_isEdge
set_option maxRecDepth 20000 in
theorem ggX9_quarters_X9_middle : GoodIn wsX9_quarters wsX9_middle := goodIn_r _ [28, 29, 30, 31, 32, 10, 33, 6, 4, 34, 35, 36, 37, 38, 71, 72, 73, 74, 75, 76, 77, 78, 79, 80, 81, 82, 83] (by decide +kernel) (by decide +kernel)
set_option maxRecDepth 20000 in
theorem gX9_quarters_X9_middle : GoodIn wsX9_quarters (wsV RX9 129 RX9 yX9_middle wsX9_middle) := goodIn_app (goodIn_of _ (by decide +kernel)) ggX9_quarters_X9_middle
set_option maxRecDepth 20000 in
theorem ggX9_quarters_X9_mean : GoodIn wsX9_quarters wsX9_mean := goodIn_r _ [42, 29, 71, 72, 73, 74, 75, 76, 77, 78, 79, 80, 81, 82, 83] (by decide +kernel) (by decide +kernel)
set_option maxRecDepth 20000 in
theorem gX9_quarters_X9_mean : GoodIn wsX9_quarters (wsV RX9 183 RX9 yX9_mean wsX9_mean) := goodIn_app (goodIn_of _ (by decide +kernel)) ggX9_quarters_X9_mean
set_option maxRecDepth 20000 in
theorem ggX9_quarters_X9_newPoint : GoodIn wsX9_quarters wsX9_newPoint := goodIn_r _ [33, 6, 29, 4, 34, 35, 36, 37, 38, 71, 72, 73, 74, 75, 76, 77, 78, 79, 80, 81, 82, 83] (by decide +kernel) (by decide +kernel)
set_option maxRecDepth 20000 in
theorem gX9_quarters_X9_newPoint : GoodIn wsX9_quarters (wsV RX9 86 RX9 yX9_newPoint wsX9_newPoint) := goodIn_app (goodIn_of _ (by decide +kernel)) ggX9_quarters_X9_newPoint
set_option maxRecDepth 20000 in
theorem ggX9_quarters_X9_behind : GoodIn wsX9_quarters wsX9_behind := goodIn_r _ [46, 3, 47, 48, 49, 10, 50, 71, 72, 73, 74, 75, 76, 77, 78, 79, 80, 81, 82, 83] (by decide +kernel) (by decide +kernel)
set_option maxRecDepth 20000 in
theorem gX9_quarters_X9_behind : GoodIn wsX9_quarters (wsV RX9 136 RX9 yX9_behind wsX9_behind) := goodIn_app (goodIn_of _ (by decide +kernel)) ggX9_quarters_X9_behind
set_option maxRecDepth 20000 in
theorem ggX9_quarters_X9_newFace : GoodIn wsX9_quarters wsX9_newFace := goodIn_r _ [54, 3, 2, 71, 72, 73, 74, 75, 76, 77, 78, 79, 80, 81, 82, 83] (by decide +kernel) (by decide +kernel)
set_option maxRecDepth 20000 in
theorem gX9_quarters_X9_newFace : GoodIn wsX9_quarters (wsV RX9 104 RX9 yX9_newFace wsX9_newFace) := goodIn_app (goodIn_of _ (by decide +kernel)) ggX9_quarters_X9_newFace
set_option maxRecDepth 20000 in
theorem ggX9_quarters_X9_table : GoodIn wsX9_quarters wsX9_table := goodIn_r _ [58, 16, 4, 2, 59, 3, 60, 61, 62, 63, 64, 65, 66, 10, 67, 68, 69, 70, 71, 72, 73, 74, 75, 76, 77, 78, 79, 80, 81, 82, 83] (by decide +kernel) (by decide +kernel)
set_option maxRecDepth 20000 in
theorem gX9_quarters_X9_table : GoodIn wsX9_quarters (wsV RX9 36 RX9 yX9_table wsX9_table) := goodIn_app (goodIn_of _ (by decide +kernel)) ggX9_quarters_X9_table
theorem dX9_quarters_0 : decode cX9_quarters 0 = .ok (.aload_n 0, 1) := by decide +kernel
theorem dX9_quarters_1 : decode cX9_quarters 1 = .ok (.iconst 0, 1) := by decide +kernel
theorem dX9_quarters_2 : decode cX9_quarters 2 = .ok (.putfield 39, 3) := by decide +kernel
theorem dX9_quarters_5 : decode cX9_quarters 5 = .ok (.aload_n 0, 1) := by decide +kernel
theorem dX9_quarters_6 : decode cX9_quarters 6 = .ok (.invokevirtual 180, 3) := by decide +kernel
theorem dX9_quarters_9 : decode cX9_quarters 9 = .ok (.istore_n 1, 1) := by decide +kernel
theorem dX9_quarters_10 : decode cX9_quarters 10 = .ok (.iconst 0, 1) := by decide +kernel
theorem dX9_quarters_11 : decode cX9_quarters 11 = .ok (.istore_n 2, 1) := by decide +kernel
theorem dX9_quarters_12 : decode cX9_quarters 12 = .ok (.iconst 0, 1) := by decide +kernel
theorem dX9_quarters_13 : decode cX9_quarters 13 = .ok (.istore_n 3, 1) := by decide +kernel
theorem dX9_quarters_14 : decode cX9_quarters 14 = .ok (.iload_n 3, 1) := by decide +kernel
theorem dX9_quarters_15 : decode cX9_quarters 15 = .ok (.aload_n 0, 1) := by decide +kernel
theorem dX9_quarters_16 : decode cX9_quarters 16 = .ok (.getfield 50, 3) := by decide +kernel
theorem dX9_quarters_19 : decode cX9_quarters 19 = .ok (.if_icmp .ge 32, 3) := by decide +kernel
theorem dX9_quarters_22 : decode cX9_quarters 22 = .ok (.iload_n 2, 1) := by decide +kernel
theorem dX9_quarters_23 : decode cX9_quarters 23 = .ok (.aload_n 0, 1) := by decide +kernel
theorem dX9_quarters_24 : decode cX9_quarters 24 = .ok (.getfield 20, 3) := by decide +kernel
theorem dX9_quarters_27 : decode cX9_quarters 27 = .ok (.iload_n 3, 1) := by decide +kernel
theorem dX9_quarters_28 : decode cX9_quarters 28 = .ok (.aaload, 1) := by decide +kernel
theorem dX9_quarters_29 : decode cX9_quarters 29 = .ok (.ifnonnull 7, 3) := by decide +kernel
theorem dX9_quarters_32 : decode cX9_quarters 32 = .ok (.iconst 0, 1) := by decide +kernel
theorem dX9_quarters_33 : decode cX9_quarters 33 = .ok (.goto 10, 3) := by decide +kernel
theorem dX9_quarters_36 : decode cX9_quarters 36 = .ok (.aload_n 0, 1) := by decide +kernel
theorem dX9_quarters_37 : decode cX9_quarters 37 = .ok (.getfield 20, 3) := by decide +kernel
theorem dX9_quarters_40 : decode cX9_quarters 40 = .ok (.iload_n 3, 1) := by decide +kernel
theorem dX9_quarters_41 : decode cX9_quarters 41 = .ok (.aaload, 1) := by decide +kernel
theorem dX9_quarters_42 : decode cX9_quarters 42 = .ok (.arraylength, 1) := by decide +kernel
theorem dX9_quarters_43 : decode cX9_quarters 43 = .ok (.iadd, 1) := by decide +kernel
theorem dX9_quarters_44 : decode cX9_quarters 44 = .ok (.istore_n 2, 1) := by decide +kernel
theorem dX9_quarters_45 : decode cX9_quarters 45 = .ok (.iinc 3 1, 3) := by decide +kernel
theorem dX9_quarters_48 : decode cX9_quarters 48 = .ok (.goto (-34), 3) := by decide +kernel
theorem dX9_quarters_51 : decode cX9_quarters 51 = .ok (.aload_n 0, 1) := by decide +kernel
theorem dX9_quarters_52 : decode cX9_quarters 52 = .ok (.getfield 47, 3) := by decide +kernel
theorem dX9_quarters_55 : decode cX9_quarters 55 = .ok (.iload_n 1, 1) := by decide +kernel
theorem dX9_quarters_56 : decode cX9_quarters 56 = .ok (.iadd, 1) := by decide +kernel
theorem dX9_quarters_57 : decode cX9_quarters 57 = .ok (.aload_n 0, 1) := by decide +kernel
theorem dX9_quarters_58 : decode cX9_quarters 58 = .ok (.invokevirtual 115, 3) := by decide +kernel
theorem dX9_quarters_61 : decode cX9_quarters 61 = .ok (.iadd, 1) := by decide +kernel
theorem dX9_quarters_62 : decode cX9_quarters 62 = .ok (.bipush 100, 2) := by decide +kernel
theorem dX9_quarters_64 : decode cX9_quarters 64 = .ok (.if_icmp .gt 15, 3) := by decide +kernel
theorem dX9_quarters_67 : decode cX9_quarters 67 = .ok (.aload_n 0, 1) := by decide +kernel
theorem dX9_quarters_68 : decode cX9_quarters 68 = .ok (.getfield 50, 3) := by decide +kernel
theorem dX9_quarters_71 : decode cX9_quarters 71 = .ok (.iload_n 2, 1) := by decide +kernel
theorem dX9_quarters_72 : decode cX9_quarters 72 = .ok (.iadd, 1) := by decide +kernel
theorem dX9_quarters_73 : decode cX9_quarters 73 = .ok (.sipush 160, 3) := by decide +kernel
theorem dX9_quarters_76 : decode cX9_quarters 76 = .ok (.if_icmp .le 9, 3) := by decide +kernel
theorem dX9_quarters_79 : decode cX9_quarters 79 = .ok (.aload_n 0, 1) := by decide +kernel
theorem dX9_quarters_80 : decode cX9_quarters 80 = .ok (.iconst 1, 1) := by decide +kernel
theorem dX9_quarters_81 : decode cX9_quarters 81 = .ok (.invokevirtual 94, 3) := by decide +kernel
theorem dX9_quarters_84 : decode cX9_quarters 84 = .ok (.ireturn, 1) := by decide +kernel
theorem dX9_quarters_85 : decode cX9_quarters 85 = .ok (.aload_n 0, 1) := by decide +kernel
theorem dX9_quarters_86 : decode cX9_quarters 86 = .ok (.getfield 47, 3) := by decide +kernel
theorem dX9_quarters_89 : decode cX9_quarters 89 = .ok (.istore_n 3, 1) := by decide +kernel
theorem dX9_quarters_90 : decode cX9_quarters 90 = .ok (.aload_n 0, 1) := by decide +kernel
theorem dX9_quarters_91 : decode cX9_quarters 91 = .ok (.getfield 50, 3) := by decide +kernel
theorem dX9_quarters_94 : decode cX9_quarters 94 = .ok (.istore 4, 2) := by decide +kernel
theorem dX9_quarters_96 : decode cX9_quarters 96 = .ok (.iload_n 3, 1) := by decide +kernel
theorem dX9_quarters_97 : decode cX9_quarters 97 = .ok (.iload_n 3, 1) := by decide +kernel
theorem dX9_quarters_98 : decode cX9_quarters 98 = .ok (.multianewarray 9 2, 4) := by decide +kernel
theorem dX9_quarters_102 : decode cX9_quarters 102 = .ok (.astore 5, 2) := by decide +kernel
theorem dX9_quarters_104 : decode cX9_quarters 104 = .ok (.iconst 0, 1) := by decide +kernel
theorem dX9_quarters_105 : decode cX9_quarters 105 = .ok (.istore 6, 2) := by decide +kernel
theorem dX9_quarters_107 : decode cX9_quarters 107 = .ok (.iload 6, 2) := by decide +kernel
theorem dX9_quarters_109 : decode cX9_quarters 109 = .ok (.iload_n 3, 1) := by decide +kernel
theorem dX9_quarters_110 : decode cX9_quarters 110 = .ok (.if_icmp .ge 73, 3) := by decide +kernel
theorem dX9_quarters_113 : decode cX9_quarters 113 = .ok (.iload 6, 2) := by decide +kernel
theorem dX9_quarters_115 : decode cX9_quarters 115 = .ok (.iconst 1, 1) := by decide +kernel
theorem dX9_quarters_116 : decode cX9_quarters 116 = .ok (.iadd, 1) := by decide +kernel
theorem dX9_quarters_117 : decode cX9_quarters 117 = .ok (.istore 7, 2) := by decide +kernel
theorem dX9_quarters_119 : decode cX9_quarters 119 = .ok (.iload 7, 2) := by decide +kernel
theorem dX9_quarters_121 : decode cX9_quarters 121 = .ok (.iload_n 3, 1) := by decide +kernel
theorem dX9_quarters_122 : decode cX9_quarters 122 = .ok (.if_icmp .ge 55, 3) := by decide +kernel
theorem dX9_quarters_125 : decode cX9_quarters 125 = .ok (.aload_n 0, 1) := by decide +kernel
theorem dX9_quarters_126 : decode cX9_quarters 126 = .ok (.iload 6, 2) := by decide +kernel
theorem dX9_quarters_128 : decode cX9_quarters 128 = .ok (.iload 7, 2) := by decide +kernel
theorem dX9_quarters_130 : decode cX9_quarters 130 = .ok (.invokevirtual 126, 3) := by decide +kernel
theorem dX9_quarters_133 : decode cX9_quarters 133 = .ok (.ifCond .ne 6, 3) := by decide +kernel
theorem dX9_quarters_136 : decode cX9_quarters 136 = .ok (.goto 35, 3) := by decide +kernel
theorem dX9_quarters_139 : decode cX9_quarters 139 = .ok (.aload 5, 2) := by decide +kernel
theorem dX9_quarters_141 : decode cX9_quarters 141 = .ok (.iload 6, 2) := by decide +kernel
theorem dX9_quarters_143 : decode cX9_quarters 143 = .ok (.aaload, 1) := by decide +kernel
theorem dX9_quarters_144 : decode cX9_quarters 144 = .ok (.iload 7, 2) := by decide +kernel
theorem dX9_quarters_146 : decode cX9_quarters 146 = .ok (.aload_n 0, 1) := by decide +kernel
theorem dX9_quarters_147 : decode cX9_quarters 147 = .ok (.iload 6, 2) := by decide +kernel
theorem dX9_quarters_149 : decode cX9_quarters 149 = .ok (.iload 7, 2) := by decide +kernel
theorem dX9_quarters_151 : decode cX9_quarters 151 = .ok (.invokevirtual 129, 3) := by decide +kernel
theorem dX9_quarters_154 : decode cX9_quarters 154 = .ok (.iastore, 1) := by decide +kernel
theorem dX9_quarters_155 : decode cX9_quarters 155 = .ok (.aload 5, 2) := by decide +kernel
theorem dX9_quarters_157 : decode cX9_quarters 157 = .ok (.iload 7, 2) := by decide +kernel
theorem dX9_quarters_159 : decode cX9_quarters 159 = .ok (.aaload, 1) := by decide +kernel
theorem dX9_quarters_160 : decode cX9_quarters 160 = .ok (.iload 6, 2) := by decide +kernel
theorem dX9_quarters_162 : decode cX9_quarters 162 = .ok (.aload 5, 2) := by decide +kernel
theorem dX9_quarters_164 : decode cX9_quarters 164 = .ok (.iload 6, 2) := by decide +kernel
theorem dX9_quarters_166 : decode cX9_quarters 166 = .ok (.aaload, 1) := by decide +kernel
theorem dX9_quarters_167 : decode cX9_quarters 167 = .ok (.iload 7, 2) := by decide +kernel
theorem dX9_quarters_169 : decode cX9_quarters 169 = .ok (.iaload, 1) := by decide +kernel
theorem dX9_quarters_170 : decode cX9_quarters 170 = .ok (.iastore, 1) := by decide +kernel
theorem dX9_quarters_171 : decode cX9_quarters 171 = .ok (.iinc 7 1, 3) := by decide +kernel
theorem dX9_quarters_174 : decode cX9_quarters 174 = .ok (.goto (-55), 3) := by decide +kernel
theorem dX9_quarters_177 : decode cX9_quarters 177 = .ok (.iinc 6 1, 3) := by decide +kernel
theorem dX9_quarters_180 : decode cX9_quarters 180 = .ok (.goto (-73), 3) := by decide +kernel
theorem dX9_quarters_183 : decode cX9_quarters 183 = .ok (.sipush 160, 3) := by decide +kernel
theorem dX9_quarters_186 : decode cX9_quarters 186 = .ok (.newarray .int, 2) := by decide +kernel
theorem dX9_quarters_188 : decode cX9_quarters 188 = .ok (.astore 6, 2) := by decide +kernel
theorem dX9_quarters_190 : decode cX9_quarters 190 = .ok (.iconst 0, 1) := by decide +kernel
theorem dX9_quarters_191 : decode cX9_quarters 191 = .ok (.istore 7, 2) := by decide +kernel
theorem dX9_quarters_193 : decode cX9_quarters 193 = .ok (.iload 7, 2) := by decide +kernel
theorem dX9_quarters_195 : decode cX9_quarters 195 = .ok (.iload 4, 2) := by decide +kernel
theorem dX9_quarters_197 : decode cX9_quarters 197 = .ok (.if_icmp .ge 64, 3) := by decide +kernel
theorem dX9_quarters_200 : decode cX9_quarters 200 = .ok (.aload_n 0, 1) := by decide +kernel
theorem dX9_quarters_201 : decode cX9_quarters 201 = .ok (.getfield 20, 3) := by decide +kernel
theorem dX9_quarters_204 : decode cX9_quarters 204 = .ok (.iload 7, 2) := by decide +kernel
theorem dX9_quarters_206 : decode cX9_quarters 206 = .ok (.aaload, 1) := by decide +kernel
theorem dX9_quarters_207 : decode cX9_quarters 207 = .ok (.ifnull 48, 3) := by decide +kernel
theorem dX9_quarters_210 : decode cX9_quarters 210 = .ok (.aload 6, 2) := by decide +kernel
theorem dX9_quarters_212 : decode cX9_quarters 212 = .ok (.iload 7, 2) := by decide +kernel
theorem dX9_quarters_214 : decode cX9_quarters 214 = .ok (.aload_n 0, 1) := by decide +kernel
theorem dX9_quarters_215 : decode cX9_quarters 215 = .ok (.aload_n 0, 1) := by decide +kernel
theorem dX9_quarters_216 : decode cX9_quarters 216 = .ok (.aload_n 0, 1) := by decide +kernel
theorem dX9_quarters_217 : decode cX9_quarters 217 = .ok (.getfield 20, 3) := by decide +kernel
theorem dX9_quarters_220 : decode cX9_quarters 220 = .ok (.iload 7, 2) := by decide +kernel
theorem dX9_quarters_222 : decode cX9_quarters 222 = .ok (.aaload, 1) := by decide +kernel
theorem dX9_quarters_223 : decode cX9_quarters 223 = .ok (.iconst 0, 1) := by decide +kernel
theorem dX9_quarters_224 : decode cX9_quarters 224 = .ok (.invokevirtual 183, 3) := by decide +kernel
theorem dX9_quarters_227 : decode cX9_quarters 227 = .ok (.aload_n 0, 1) := by decide +kernel
theorem dX9_quarters_228 : decode cX9_quarters 228 = .ok (.aload_n 0, 1) := by decide +kernel
theorem dX9_quarters_229 : decode cX9_quarters 229 = .ok (.getfield 20, 3) := by decide +kernel
theorem dX9_quarters_232 : decode cX9_quarters 232 = .ok (.iload 7, 2) := by decide +kernel
theorem dX9_quarters_234 : decode cX9_quarters 234 = .ok (.aaload, 1) := by decide +kernel
theorem dX9_quarters_235 : decode cX9_quarters 235 = .ok (.iconst 1, 1) := by decide +kernel
theorem dX9_quarters_236 : decode cX9_quarters 236 = .ok (.invokevirtual 183, 3) := by decide +kernel
theorem dX9_quarters_239 : decode cX9_quarters 239 = .ok (.aload_n 0, 1) := by decide +kernel
theorem dX9_quarters_240 : decode cX9_quarters 240 = .ok (.aload_n 0, 1) := by decide +kernel
theorem dX9_quarters_241 : decode cX9_quarters 241 = .ok (.getfield 20, 3) := by decide +kernel
theorem dX9_quarters_244 : decode cX9_quarters 244 = .ok (.iload 7, 2) := by decide +kernel
theorem dX9_quarters_246 : decode cX9_quarters 246 = .ok (.aaload, 1) := by decide +kernel
theorem dX9_quarters_247 : decode cX9_quarters 247 = .ok (.iconst 2, 1) := by decide +kernel
theorem dX9_quarters_248 : decode cX9_quarters 248 = .ok (.invokevirtual 183, 3) := by decide +kernel
theorem dX9_quarters_251 : decode cX9_quarters 251 = .ok (.invokevirtual 86, 3) := by decide +kernel
theorem dX9_quarters_254 : decode cX9_quarters 254 = .ok (.iastore, 1) := by decide +kernel
theorem dX9_quarters_255 : decode cX9_quarters 255 = .ok (.iinc 7 1, 3) := by decide +kernel
theorem dX9_quarters_258 : decode cX9_quarters 258 = .ok (.goto (-65), 3) := by decide +kernel
theorem dX9_quarters_261 : decode cX9_quarters 261 = .ok (.iconst 0, 1) := by decide +kernel
theorem dX9_quarters_262 : decode cX9_quarters 262 = .ok (.istore 7, 2) := by decide +kernel
theorem dX9_quarters_264 : decode cX9_quarters 264 = .ok (.iload 7, 2) := by decide +kernel
theorem dX9_quarters_266 : decode cX9_quarters 266 = .ok (.iload 4, 2) := by decide +kernel
theorem dX9_quarters_268 : decode cX9_quarters 268 = .ok (.if_icmp .ge 116, 3) := by decide +kernel
theorem dX9_quarters_271 : decode cX9_quarters 271 = .ok (.aload_n 0, 1) := by decide +kernel
theorem dX9_quarters_272 : decode cX9_quarters 272 = .ok (.getfield 20, 3) := by decide +kernel
theorem dX9_quarters_275 : decode cX9_quarters 275 = .ok (.iload 7, 2) := by decide +kernel
theorem dX9_quarters_277 : decode cX9_quarters 277 = .ok (.aaload, 1) := by decide +kernel
theorem dX9_quarters_278 : decode cX9_quarters 278 = .ok (.ifnonnull 6, 3) := by decide +kernel
theorem dX9_quarters_281 : decode cX9_quarters 281 = .ok (.goto 97, 3) := by decide +kernel
theorem dX9_quarters_284 : decode cX9_quarters 284 = .ok (.aload_n 0, 1) := by decide +kernel
theorem dX9_quarters_285 : decode cX9_quarters 285 = .ok (.getfield 20, 3) := by decide +kernel
theorem dX9_quarters_288 : decode cX9_quarters 288 = .ok (.iload 7, 2) := by decide +kernel
theorem dX9_quarters_290 : decode cX9_quarters 290 = .ok (.aaload, 1) := by decide +kernel
theorem dX9_quarters_291 : decode cX9_quarters 291 = .ok (.astore 8, 2) := by decide +kernel
theorem dX9_quarters_293 : decode cX9_quarters 293 = .ok (.aload 8, 2) := by decide +kernel
theorem dX9_quarters_295 : decode cX9_quarters 295 = .ok (.arraylength, 1) := by decide +kernel
theorem dX9_quarters_296 : decode cX9_quarters 296 = .ok (.istore 9, 2) := by decide +kernel
theorem dX9_quarters_298 : decode cX9_quarters 298 = .ok (.iconst 0, 1) := by decide +kernel
theorem dX9_quarters_299 : decode cX9_quarters 299 = .ok (.istore 10, 2) := by decide +kernel
theorem dX9_quarters_301 : decode cX9_quarters 301 = .ok (.iload 10, 2) := by decide +kernel
theorem dX9_quarters_303 : decode cX9_quarters 303 = .ok (.iload 9, 2) := by decide +kernel
theorem dX9_quarters_305 : decode cX9_quarters 305 = .ok (.if_icmp .ge 73, 3) := by decide +kernel
theorem dX9_quarters_308 : decode cX9_quarters 308 = .ok (.aload 8, 2) := by decide +kernel
theorem dX9_quarters_310 : decode cX9_quarters 310 = .ok (.iload 10, 2) := by decide +kernel
theorem dX9_quarters_312 : decode cX9_quarters 312 = .ok (.iaload, 1) := by decide +kernel
theorem dX9_quarters_313 : decode cX9_quarters 313 = .ok (.istore 11, 2) := by decide +kernel
theorem dX9_quarters_315 : decode cX9_quarters 315 = .ok (.aload_n 0, 1) := by decide +kernel
theorem dX9_quarters_316 : decode cX9_quarters 316 = .ok (.iconst 4, 1) := by decide +kernel
theorem dX9_quarters_317 : decode cX9_quarters 317 = .ok (.newarray .int, 2) := by decide +kernel
theorem dX9_quarters_319 : decode cX9_quarters 319 = .ok (.dup, 1) := by decide +kernel
theorem dX9_quarters_320 : decode cX9_quarters 320 = .ok (.iconst 0, 1) := by decide +kernel
theorem dX9_quarters_321 : decode cX9_quarters 321 = .ok (.iload 11, 2) := by decide +kernel
theorem dX9_quarters_323 : decode cX9_quarters 323 = .ok (.iastore, 1) := by decide +kernel
theorem dX9_quarters_324 : decode cX9_quarters 324 = .ok (.dup, 1) := by decide +kernel
theorem dX9_quarters_325 : decode cX9_quarters 325 = .ok (.iconst 1, 1) := by decide +kernel
theorem dX9_quarters_326 : decode cX9_quarters 326 = .ok (.aload 5, 2) := by decide +kernel
theorem dX9_quarters_328 : decode cX9_quarters 328 = .ok (.iload 11, 2) := by decide +kernel
theorem dX9_quarters_330 : decode cX9_quarters 330 = .ok (.aaload, 1) := by decide +kernel
theorem dX9_quarters_331 : decode cX9_quarters 331 = .ok (.aload_n 0, 1) := by decide +kernel
theorem dX9_quarters_332 : decode cX9_quarters 332 = .ok (.iload 7, 2) := by decide +kernel
theorem dX9_quarters_334 : decode cX9_quarters 334 = .ok (.iload 11, 2) := by decide +kernel
theorem dX9_quarters_336 : decode cX9_quarters 336 = .ok (.iconst 1, 1) := by decide +kernel
theorem dX9_quarters_337 : decode cX9_quarters 337 = .ok (.invokevirtual 136, 3) := by decide +kernel
theorem dX9_quarters_340 : decode cX9_quarters 340 = .ok (.iaload, 1) := by decide +kernel
theorem dX9_quarters_341 : decode cX9_quarters 341 = .ok (.iastore, 1) := by decide +kernel
theorem dX9_quarters_342 : decode cX9_quarters 342 = .ok (.dup, 1) := by decide +kernel
theorem dX9_quarters_343 : decode cX9_quarters 343 = .ok (.iconst 2, 1) := by decide +kernel
theorem dX9_quarters_344 : decode cX9_quarters 344 = .ok (.aload 6, 2) := by decide +kernel
theorem dX9_quarters_346 : decode cX9_quarters 346 = .ok (.iload 7, 2) := by decide +kernel
theorem dX9_quarters_348 : decode cX9_quarters 348 = .ok (.iaload, 1) := by decide +kernel
theorem dX9_quarters_349 : decode cX9_quarters 349 = .ok (.iastore, 1) := by decide +kernel
theorem dX9_quarters_350 : decode cX9_quarters 350 = .ok (.dup, 1) := by decide +kernel
theorem dX9_quarters_351 : decode cX9_quarters 351 = .ok (.iconst 3, 1) := by decide +kernel
theorem dX9_quarters_352 : decode cX9_quarters 352 = .ok (.aload 5, 2) := by decide +kernel
theorem dX9_quarters_354 : decode cX9_quarters 354 = .ok (.aload_n 0, 1) := by decide +kernel
theorem dX9_quarters_355 : decode cX9_quarters 355 = .ok (.iload 7, 2) := by decide +kernel
theorem dX9_quarters_357 : decode cX9_quarters 357 = .ok (.iload 11, 2) := by decide +kernel
theorem dX9_quarters_359 : decode cX9_quarters 359 = .ok (.iconst (-1), 1) := by decide +kernel
theorem dX9_quarters_360 : decode cX9_quarters 360 = .ok (.invokevirtual 136, 3) := by decide +kernel
theorem dX9_quarters_363 : decode cX9_quarters 363 = .ok (.aaload, 1) := by decide +kernel
theorem dX9_quarters_364 : decode cX9_quarters 364 = .ok (.iload 11, 2) := by decide +kernel
theorem dX9_quarters_366 : decode cX9_quarters 366 = .ok (.iaload, 1) := by decide +kernel
theorem dX9_quarters_367 : decode cX9_quarters 367 = .ok (.iastore, 1) := by decide +kernel
theorem dX9_quarters_368 : decode cX9_quarters 368 = .ok (.invokevirtual 104, 3) := by decide +kernel
theorem dX9_quarters_371 : decode cX9_quarters 371 = .ok (.pop, 1) := by decide +kernel
theorem dX9_quarters_372 : decode cX9_quarters 372 = .ok (.iinc 10 1, 3) := by decide +kernel
theorem dX9_quarters_375 : decode cX9_quarters 375 = .ok (.goto (-74), 3) := by decide +kernel
theorem dX9_quarters_378 : decode cX9_quarters 378 = .ok (.iinc 7 1, 3) := by decide +kernel
theorem dX9_quarters_381 : decode cX9_quarters 381 = .ok (.goto (-117), 3) := by decide +kernel
theorem dX9_quarters_384 : decode cX9_quarters 384 = .ok (.iconst 0, 1) := by decide +kernel
theorem dX9_quarters_385 : decode cX9_quarters 385 = .ok (.istore 7, 2) := by decide +kernel
theorem dX9_quarters_387 : decode cX9_quarters 387 = .ok (.iload 7, 2) := by decide +kernel
theorem dX9_quarters_389 : decode cX9_quarters 389 = .ok (.iload 4, 2) := by decide +kernel
theorem dX9_quarters_391 : decode cX9_quarters 391 = .ok (.if_icmp .ge 17, 3) := by decide +kernel
theorem dX9_quarters_394 : decode cX9_quarters 394 = .ok (.aload_n 0, 1) := by decide +kernel
theorem dX9_quarters_395 : decode cX9_quarters 395 = .ok (.getfield 20, 3) := by decide +kernel
theorem dX9_quarters_398 : decode cX9_quarters 398 = .ok (.iload 7, 2) := by decide +kernel
theorem dX9_quarters_400 : decode cX9_quarters 400 = .ok (.aconst_null, 1) := by decide +kernel
theorem dX9_quarters_401 : decode cX9_quarters 401 = .ok (.aastore, 1) := by decide +kernel
theorem dX9_quarters_402 : decode cX9_quarters 402 = .ok (.iinc 7 1, 3) := by decide +kernel
theorem dX9_quarters_405 : decode cX9_quarters 405 = .ok (.goto (-18), 3) := by decide +kernel
theorem dX9_quarters_408 : decode cX9_quarters 408 = .ok (.aload_n 0, 1) := by decide +kernel
theorem dX9_quarters_409 : decode cX9_quarters 409 = .ok (.invokevirtual 36, 3) := by decide +kernel
theorem dX9_quarters_412 : decode cX9_quarters 412 = .ok (.aload_n 0, 1) := by decide +kernel
theorem dX9_quarters_413 : decode cX9_quarters 413 = .ok (.invokevirtual 115, 3) := by decide +kernel
theorem dX9_quarters_416 : decode cX9_quarters 416 = .ok (.ireturn, 1) := by decide +kernel
set_option maxRecDepth 20000 in
theorem ggX9_smooth_X9_isEdge : GoodIn wsX9_smooth wsX9_isEdge := goodIn_r _ [15, 16, 31, 32, 33, 34, 35, 36, 37, 38, 39, 40, 41, 42, 43] (by decide +kernel) (by decide +kernel)
set_option maxRecDepth 20000 in
theorem gX9_smooth_X9_isEdge : GoodIn wsX9_smooth (wsV RX9 126 RX9 yX9_isEdge wsX9_isEdge) := goodIn_app (goodIn_of _ (by decide +kernel)) ggX9_smooth_X9_isEdge
set_option maxRecDepth 20000 in
theorem ggX9_smooth_X9_isOpen : GoodIn wsX9_smooth wsX9_isOpen := goodIn_r _ [20, 16, 31, 32, 33, 34, 35, 36, 37, 38, 39, 40, 41, 42, 43] (by decide +kernel) (by decide +kernel)
set_option maxRecDepth 20000 in
theorem gX9_smooth_X9_isOpen : GoodIn wsX9_smooth (wsV RX9 173 RX9 yX9_isOpen wsX9_isOpen) := goodIn_app (goodIn_of _ (by decide +kernel)) ggX9_smooth_X9_isOpen
set_option maxRecDepth 20000 in
theorem ggX9_smooth_J7_equals_bbcde : GoodIn wsX9_smooth wsJ7_equals_bbcde := goodIn_r _ [24, 25, 26, 27, 28, 29, 30] (by decide +kernel) (by decide +kernel)
set_option maxRecDepth 20000 in
theorem gX9_smooth_J7_equals_bbcde : GoodIn wsX9_smooth (va_wsS RX9 187 yJ7_equals_bbcde wsJ7_equals_bbcde) := goodIn_app (goodIn_of _ (by decide +kernel)) ggX9_smooth_J7_equals_bbcde
theorem dX9_smooth_0 : decode cX9_smooth 0 = .ok (.aload_n 0, 1) := by decide +kernel
theorem dX9_smooth_1 : decode cX9_smooth 1 = .ok (.iconst 0, 1) := by decide +kernel
theorem dX9_smooth_2 : decode cX9_smooth 2 = .ok (.putfield 39, 3) := by decide +kernel
theorem dX9_smooth_5 : decode cX9_smooth 5 = .ok (.aload_n 0, 1) := by decide +kernel
theorem dX9_smooth_6 : decode cX9_smooth 6 = .ok (.getfield 47, 3) := by decide +kernel
theorem dX9_smooth_9 : decode cX9_smooth 9 = .ok (.anewarray 18, 3) := by decide +kernel
theorem dX9_smooth_12 : decode cX9_smooth 12 = .ok (.astore_n 1, 1) := by decide +kernel
theorem dX9_smooth_13 : decode cX9_smooth 13 = .ok (.iconst 0, 1) := by decide +kernel
theorem dX9_smooth_14 : decode cX9_smooth 14 = .ok (.istore_n 2, 1) := by decide +kernel
theorem dX9_smooth_15 : decode cX9_smooth 15 = .ok (.iload_n 2, 1) := by decide +kernel
theorem dX9_smooth_16 : decode cX9_smooth 16 = .ok (.aload_n 0, 1) := by decide +kernel
theorem dX9_smooth_17 : decode cX9_smooth 17 = .ok (.getfield 47, 3) := by decide +kernel
theorem dX9_smooth_20 : decode cX9_smooth 20 = .ok (.if_icmp .ge 24, 3) := by decide +kernel
theorem dX9_smooth_23 : decode cX9_smooth 23 = .ok (.aload_n 1, 1) := by decide +kernel
theorem dX9_smooth_24 : decode cX9_smooth 24 = .ok (.iload_n 2, 1) := by decide +kernel
theorem dX9_smooth_25 : decode cX9_smooth 25 = .ok (.aload_n 0, 1) := by decide +kernel
theorem dX9_smooth_26 : decode cX9_smooth 26 = .ok (.getfield 11, 3) := by decide +kernel
theorem dX9_smooth_29 : decode cX9_smooth 29 = .ok (.iload_n 2, 1) := by decide +kernel
theorem dX9_smooth_30 : decode cX9_smooth 30 = .ok (.aaload, 1) := by decide +kernel
theorem dX9_smooth_31 : decode cX9_smooth 31 = .ok (.invokevirtual 157, 3) := by decide +kernel
theorem dX9_smooth_34 : decode cX9_smooth 34 = .ok (.checkcast 18, 3) := by decide +kernel
theorem dX9_smooth_37 : decode cX9_smooth 37 = .ok (.aastore, 1) := by decide +kernel
theorem dX9_smooth_38 : decode cX9_smooth 38 = .ok (.iinc 2 1, 3) := by decide +kernel
theorem dX9_smooth_41 : decode cX9_smooth 41 = .ok (.goto (-26), 3) := by decide +kernel
theorem dX9_smooth_44 : decode cX9_smooth 44 = .ok (.iconst 0, 1) := by decide +kernel
theorem dX9_smooth_45 : decode cX9_smooth 45 = .ok (.istore_n 2, 1) := by decide +kernel
theorem dX9_smooth_46 : decode cX9_smooth 46 = .ok (.iconst 0, 1) := by decide +kernel
theorem dX9_smooth_47 : decode cX9_smooth 47 = .ok (.istore_n 3, 1) := by decide +kernel
theorem dX9_smooth_48 : decode cX9_smooth 48 = .ok (.iload_n 3, 1) := by decide +kernel
theorem dX9_smooth_49 : decode cX9_smooth 49 = .ok (.aload_n 0, 1) := by decide +kernel
theorem dX9_smooth_50 : decode cX9_smooth 50 = .ok (.getfield 47, 3) := by decide +kernel
theorem dX9_smooth_53 : decode cX9_smooth 53 = .ok (.if_icmp .ge 182, 3) := by decide +kernel
theorem dX9_smooth_56 : decode cX9_smooth 56 = .ok (.iconst 3, 1) := by decide +kernel
theorem dX9_smooth_57 : decode cX9_smooth 57 = .ok (.newarray .int, 2) := by decide +kernel
theorem dX9_smooth_59 : decode cX9_smooth 59 = .ok (.astore 4, 2) := by decide +kernel
theorem dX9_smooth_61 : decode cX9_smooth 61 = .ok (.iconst 0, 1) := by decide +kernel
theorem dX9_smooth_62 : decode cX9_smooth 62 = .ok (.istore 5, 2) := by decide +kernel
theorem dX9_smooth_64 : decode cX9_smooth 64 = .ok (.iconst 1, 1) := by decide +kernel
theorem dX9_smooth_65 : decode cX9_smooth 65 = .ok (.istore 6, 2) := by decide +kernel
theorem dX9_smooth_67 : decode cX9_smooth 67 = .ok (.iconst 0, 1) := by decide +kernel
theorem dX9_smooth_68 : decode cX9_smooth 68 = .ok (.istore 7, 2) := by decide +kernel
theorem dX9_smooth_70 : decode cX9_smooth 70 = .ok (.iload 7, 2) := by decide +kernel
theorem dX9_smooth_72 : decode cX9_smooth 72 = .ok (.aload_n 0, 1) := by decide +kernel
theorem dX9_smooth_73 : decode cX9_smooth 73 = .ok (.getfield 47, 3) := by decide +kernel
theorem dX9_smooth_76 : decode cX9_smooth 76 = .ok (.if_icmp .ge 85, 3) := by decide +kernel
theorem dX9_smooth_79 : decode cX9_smooth 79 = .ok (.aload_n 0, 1) := by decide +kernel
theorem dX9_smooth_80 : decode cX9_smooth 80 = .ok (.iload_n 3, 1) := by decide +kernel
theorem dX9_smooth_81 : decode cX9_smooth 81 = .ok (.iload 7, 2) := by decide +kernel
theorem dX9_smooth_83 : decode cX9_smooth 83 = .ok (.invokevirtual 126, 3) := by decide +kernel
theorem dX9_smooth_86 : decode cX9_smooth 86 = .ok (.ifCond .ne 6, 3) := by decide +kernel
theorem dX9_smooth_89 : decode cX9_smooth 89 = .ok (.goto 66, 3) := by decide +kernel
theorem dX9_smooth_92 : decode cX9_smooth 92 = .ok (.iinc 5 1, 3) := by decide +kernel
theorem dX9_smooth_95 : decode cX9_smooth 95 = .ok (.iload 6, 2) := by decide +kernel
theorem dX9_smooth_97 : decode cX9_smooth 97 = .ok (.aload_n 0, 1) := by decide +kernel
theorem dX9_smooth_98 : decode cX9_smooth 98 = .ok (.iload_n 3, 1) := by decide +kernel
theorem dX9_smooth_99 : decode cX9_smooth 99 = .ok (.iload 7, 2) := by decide +kernel
theorem dX9_smooth_101 : decode cX9_smooth 101 = .ok (.invokevirtual 173, 3) := by decide +kernel
theorem dX9_smooth_104 : decode cX9_smooth 104 = .ok (.ifCond .ne 17, 3) := by decide +kernel
theorem dX9_smooth_107 : decode cX9_smooth 107 = .ok (.aload_n 0, 1) := by decide +kernel
theorem dX9_smooth_108 : decode cX9_smooth 108 = .ok (.iload 7, 2) := by decide +kernel
theorem dX9_smooth_110 : decode cX9_smooth 110 = .ok (.iload_n 3, 1) := by decide +kernel
theorem dX9_smooth_111 : decode cX9_smooth 111 = .ok (.invokevirtual 173, 3) := by decide +kernel
theorem dX9_smooth_114 : decode cX9_smooth 114 = .ok (.ifCond .ne 7, 3) := by decide +kernel
theorem dX9_smooth_117 : decode cX9_smooth 117 = .ok (.iconst 1, 1) := by decide +kernel
theorem dX9_smooth_118 : decode cX9_smooth 118 = .ok (.goto 4, 3) := by decide +kernel
theorem dX9_smooth_121 : decode cX9_smooth 121 = .ok (.iconst 0, 1) := by decide +kernel
theorem dX9_smooth_122 : decode cX9_smooth 122 = .ok (.iand, 1) := by decide +kernel
theorem dX9_smooth_123 : decode cX9_smooth 123 = .ok (.istore 6, 2) := by decide +kernel
theorem dX9_smooth_125 : decode cX9_smooth 125 = .ok (.iconst 0, 1) := by decide +kernel
theorem dX9_smooth_126 : decode cX9_smooth 126 = .ok (.istore 8, 2) := by decide +kernel
theorem dX9_smooth_128 : decode cX9_smooth 128 = .ok (.iload 8, 2) := by decide +kernel
theorem dX9_smooth_130 : decode cX9_smooth 130 = .ok (.iconst 3, 1) := by decide +kernel
theorem dX9_smooth_131 : decode cX9_smooth 131 = .ok (.if_icmp .ge 24, 3) := by decide +kernel
theorem dX9_smooth_134 : decode cX9_smooth 134 = .ok (.aload 4, 2) := by decide +kernel
theorem dX9_smooth_136 : decode cX9_smooth 136 = .ok (.iload 8, 2) := by decide +kernel
theorem dX9_smooth_138 : decode cX9_smooth 138 = .ok (.dup2, 1) := by decide +kernel
theorem dX9_smooth_139 : decode cX9_smooth 139 = .ok (.iaload, 1) := by decide +kernel
theorem dX9_smooth_140 : decode cX9_smooth 140 = .ok (.aload_n 1, 1) := by decide +kernel
theorem dX9_smooth_141 : decode cX9_smooth 141 = .ok (.iload 7, 2) := by decide +kernel
theorem dX9_smooth_143 : decode cX9_smooth 143 = .ok (.aaload, 1) := by decide +kernel
theorem dX9_smooth_144 : decode cX9_smooth 144 = .ok (.iload 8, 2) := by decide +kernel
theorem dX9_smooth_146 : decode cX9_smooth 146 = .ok (.iaload, 1) := by decide +kernel
theorem dX9_smooth_147 : decode cX9_smooth 147 = .ok (.iadd, 1) := by decide +kernel
theorem dX9_smooth_148 : decode cX9_smooth 148 = .ok (.iastore, 1) := by decide +kernel
theorem dX9_smooth_149 : decode cX9_smooth 149 = .ok (.iinc 8 1, 3) := by decide +kernel
theorem dX9_smooth_152 : decode cX9_smooth 152 = .ok (.goto (-24), 3) := by decide +kernel
theorem dX9_smooth_155 : decode cX9_smooth 155 = .ok (.iinc 7 1, 3) := by decide +kernel
theorem dX9_smooth_158 : decode cX9_smooth 158 = .ok (.goto (-88), 3) := by decide +kernel
theorem dX9_smooth_161 : decode cX9_smooth 161 = .ok (.iload 5, 2) := by decide +kernel
theorem dX9_smooth_163 : decode cX9_smooth 163 = .ok (.ifCond .eq 66, 3) := by decide +kernel
theorem dX9_smooth_166 : decode cX9_smooth 166 = .ok (.iload 6, 2) := by decide +kernel
theorem dX9_smooth_168 : decode cX9_smooth 168 = .ok (.ifCond .ne 6, 3) := by decide +kernel
theorem dX9_smooth_171 : decode cX9_smooth 171 = .ok (.goto 58, 3) := by decide +kernel
theorem dX9_smooth_174 : decode cX9_smooth 174 = .ok (.iconst 0, 1) := by decide +kernel
theorem dX9_smooth_175 : decode cX9_smooth 175 = .ok (.istore 7, 2) := by decide +kernel
theorem dX9_smooth_177 : decode cX9_smooth 177 = .ok (.iload 7, 2) := by decide +kernel
theorem dX9_smooth_179 : decode cX9_smooth 179 = .ok (.iconst 3, 1) := by decide +kernel
theorem dX9_smooth_180 : decode cX9_smooth 180 = .ok (.if_icmp .ge 26, 3) := by decide +kernel
theorem dX9_smooth_183 : decode cX9_smooth 183 = .ok (.aload_n 0, 1) := by decide +kernel
theorem dX9_smooth_184 : decode cX9_smooth 184 = .ok (.getfield 11, 3) := by decide +kernel
theorem dX9_smooth_187 : decode cX9_smooth 187 = .ok (.iload_n 3, 1) := by decide +kernel
theorem dX9_smooth_188 : decode cX9_smooth 188 = .ok (.aaload, 1) := by decide +kernel
theorem dX9_smooth_189 : decode cX9_smooth 189 = .ok (.iload 7, 2) := by decide +kernel
theorem dX9_smooth_191 : decode cX9_smooth 191 = .ok (.aload 4, 2) := by decide +kernel
theorem dX9_smooth_193 : decode cX9_smooth 193 = .ok (.iload 7, 2) := by decide +kernel
theorem dX9_smooth_195 : decode cX9_smooth 195 = .ok (.iaload, 1) := by decide +kernel
theorem dX9_smooth_196 : decode cX9_smooth 196 = .ok (.iload 5, 2) := by decide +kernel
theorem dX9_smooth_198 : decode cX9_smooth 198 = .ok (.idiv, 1) := by decide +kernel
theorem dX9_smooth_199 : decode cX9_smooth 199 = .ok (.iastore, 1) := by decide +kernel
theorem dX9_smooth_200 : decode cX9_smooth 200 = .ok (.iinc 7 1, 3) := by decide +kernel
theorem dX9_smooth_203 : decode cX9_smooth 203 = .ok (.goto (-26), 3) := by decide +kernel
theorem dX9_smooth_206 : decode cX9_smooth 206 = .ok (.iload_n 2, 1) := by decide +kernel
theorem dX9_smooth_207 : decode cX9_smooth 207 = .ok (.aload_n 0, 1) := by decide +kernel
theorem dX9_smooth_208 : decode cX9_smooth 208 = .ok (.getfield 11, 3) := by decide +kernel
theorem dX9_smooth_211 : decode cX9_smooth 211 = .ok (.iload_n 3, 1) := by decide +kernel
theorem dX9_smooth_212 : decode cX9_smooth 212 = .ok (.aaload, 1) := by decide +kernel
theorem dX9_smooth_213 : decode cX9_smooth 213 = .ok (.aload_n 1, 1) := by decide +kernel
theorem dX9_smooth_214 : decode cX9_smooth 214 = .ok (.iload_n 3, 1) := by decide +kernel
theorem dX9_smooth_215 : decode cX9_smooth 215 = .ok (.aaload, 1) := by decide +kernel
theorem dX9_smooth_216 : decode cX9_smooth 216 = .ok (.invokestatic 187, 3) := by decide +kernel
theorem dX9_smooth_219 : decode cX9_smooth 219 = .ok (.ifCond .eq 7, 3) := by decide +kernel
theorem dX9_smooth_222 : decode cX9_smooth 222 = .ok (.iconst 0, 1) := by decide +kernel
theorem dX9_smooth_223 : decode cX9_smooth 223 = .ok (.goto 4, 3) := by decide +kernel
theorem dX9_smooth_226 : decode cX9_smooth 226 = .ok (.iconst 1, 1) := by decide +kernel
theorem dX9_smooth_227 : decode cX9_smooth 227 = .ok (.iadd, 1) := by decide +kernel
theorem dX9_smooth_228 : decode cX9_smooth 228 = .ok (.istore_n 2, 1) := by decide +kernel
theorem dX9_smooth_229 : decode cX9_smooth 229 = .ok (.iinc 3 1, 3) := by decide +kernel
theorem dX9_smooth_232 : decode cX9_smooth 232 = .ok (.goto (-184), 3) := by decide +kernel
theorem dX9_smooth_235 : decode cX9_smooth 235 = .ok (.iload_n 2, 1) := by decide +kernel
theorem dX9_smooth_236 : decode cX9_smooth 236 = .ok (.ireturn, 1) := by decide +kernel
set_option maxRecDepth 20000 in
theorem ggX9_turn_X9_table : GoodIn wsX9_turn wsX9_table := goodIn_r _ [14, 15, 16, 2, 17, 3, 18, 19, 20, 21, 22, 23, 24, 13, 25, 26, 27, 28, 33, 34, 35, 36, 37, 38, 39, 40, 41, 42, 43, 44, 45] (by decide +kernel) (by decide +kernel)
set_option maxRecDepth 20000 in
theorem gX9_turn_X9_table : GoodIn wsX9_turn (wsV RX9 36 RX9 yX9_table wsX9_table) := goodIn_app (goodIn_of _ (by decide +kernel)) ggX9_turn_X9_table
set_option maxRecDepth 20000 in
theorem ggX9_turn_X9_facesNow : GoodIn wsX9_turn wsX9_facesNow := goodIn_r _ [32, 2, 3, 33, 34, 35, 36, 37, 38, 39, 40, 41, 42, 43, 44, 45] (by decide +kernel) (by decide +kernel)
set_option maxRecDepth 20000 in
theorem gX9_turn_X9_facesNow : GoodIn wsX9_turn (wsV RX9 115 RX9 yX9_facesNow wsX9_facesNow) := goodIn_app (goodIn_of _ (by decide +kernel)) ggX9_turn_X9_facesNow
theorem dX9_turn_0 : decode cX9_turn 0 = .ok (.aload_n 0, 1) := by decide +kernel
theorem dX9_turn_1 : decode cX9_turn 1 = .ok (.iconst 0, 1) := by decide +kernel
theorem dX9_turn_2 : decode cX9_turn 2 = .ok (.putfield 39, 3) := by decide +kernel
theorem dX9_turn_5 : decode cX9_turn 5 = .ok (.iconst 0, 1) := by decide +kernel
theorem dX9_turn_6 : decode cX9_turn 6 = .ok (.istore_n 1, 1) := by decide +kernel
theorem dX9_turn_7 : decode cX9_turn 7 = .ok (.iload_n 1, 1) := by decide +kernel
theorem dX9_turn_8 : decode cX9_turn 8 = .ok (.aload_n 0, 1) := by decide +kernel
theorem dX9_turn_9 : decode cX9_turn 9 = .ok (.getfield 50, 3) := by decide +kernel
theorem dX9_turn_12 : decode cX9_turn 12 = .ok (.if_icmp .ge 69, 3) := by decide +kernel
theorem dX9_turn_15 : decode cX9_turn 15 = .ok (.aload_n 0, 1) := by decide +kernel
theorem dX9_turn_16 : decode cX9_turn 16 = .ok (.getfield 20, 3) := by decide +kernel
theorem dX9_turn_19 : decode cX9_turn 19 = .ok (.iload_n 1, 1) := by decide +kernel
theorem dX9_turn_20 : decode cX9_turn 20 = .ok (.aaload, 1) := by decide +kernel
theorem dX9_turn_21 : decode cX9_turn 21 = .ok (.ifnonnull 6, 3) := by decide +kernel
theorem dX9_turn_24 : decode cX9_turn 24 = .ok (.goto 51, 3) := by decide +kernel
theorem dX9_turn_27 : decode cX9_turn 27 = .ok (.aload_n 0, 1) := by decide +kernel
theorem dX9_turn_28 : decode cX9_turn 28 = .ok (.getfield 20, 3) := by decide +kernel
theorem dX9_turn_31 : decode cX9_turn 31 = .ok (.iload_n 1, 1) := by decide +kernel
theorem dX9_turn_32 : decode cX9_turn 32 = .ok (.aaload, 1) := by decide +kernel
theorem dX9_turn_33 : decode cX9_turn 33 = .ok (.invokevirtual 157, 3) := by decide +kernel
theorem dX9_turn_36 : decode cX9_turn 36 = .ok (.checkcast 18, 3) := by decide +kernel
theorem dX9_turn_39 : decode cX9_turn 39 = .ok (.astore_n 2, 1) := by decide +kernel
theorem dX9_turn_40 : decode cX9_turn 40 = .ok (.iconst 1, 1) := by decide +kernel
theorem dX9_turn_41 : decode cX9_turn 41 = .ok (.istore_n 3, 1) := by decide +kernel
theorem dX9_turn_42 : decode cX9_turn 42 = .ok (.iload_n 3, 1) := by decide +kernel
theorem dX9_turn_43 : decode cX9_turn 43 = .ok (.aload_n 2, 1) := by decide +kernel
theorem dX9_turn_44 : decode cX9_turn 44 = .ok (.arraylength, 1) := by decide +kernel
theorem dX9_turn_45 : decode cX9_turn 45 = .ok (.if_icmp .ge 23, 3) := by decide +kernel
theorem dX9_turn_48 : decode cX9_turn 48 = .ok (.aload_n 2, 1) := by decide +kernel
theorem dX9_turn_49 : decode cX9_turn 49 = .ok (.iload_n 3, 1) := by decide +kernel
theorem dX9_turn_50 : decode cX9_turn 50 = .ok (.aload_n 0, 1) := by decide +kernel
theorem dX9_turn_51 : decode cX9_turn 51 = .ok (.getfield 20, 3) := by decide +kernel
theorem dX9_turn_54 : decode cX9_turn 54 = .ok (.iload_n 1, 1) := by decide +kernel
theorem dX9_turn_55 : decode cX9_turn 55 = .ok (.aaload, 1) := by decide +kernel
theorem dX9_turn_56 : decode cX9_turn 56 = .ok (.aload_n 2, 1) := by decide +kernel
theorem dX9_turn_57 : decode cX9_turn 57 = .ok (.arraylength, 1) := by decide +kernel
theorem dX9_turn_58 : decode cX9_turn 58 = .ok (.iload_n 3, 1) := by decide +kernel
theorem dX9_turn_59 : decode cX9_turn 59 = .ok (.isub, 1) := by decide +kernel
theorem dX9_turn_60 : decode cX9_turn 60 = .ok (.iaload, 1) := by decide +kernel
theorem dX9_turn_61 : decode cX9_turn 61 = .ok (.iastore, 1) := by decide +kernel
theorem dX9_turn_62 : decode cX9_turn 62 = .ok (.iinc 3 1, 3) := by decide +kernel
theorem dX9_turn_65 : decode cX9_turn 65 = .ok (.goto (-23), 3) := by decide +kernel
theorem dX9_turn_68 : decode cX9_turn 68 = .ok (.aload_n 0, 1) := by decide +kernel
theorem dX9_turn_69 : decode cX9_turn 69 = .ok (.getfield 20, 3) := by decide +kernel
theorem dX9_turn_72 : decode cX9_turn 72 = .ok (.iload_n 1, 1) := by decide +kernel
theorem dX9_turn_73 : decode cX9_turn 73 = .ok (.aload_n 2, 1) := by decide +kernel
theorem dX9_turn_74 : decode cX9_turn 74 = .ok (.aastore, 1) := by decide +kernel
theorem dX9_turn_75 : decode cX9_turn 75 = .ok (.iinc 1 1, 3) := by decide +kernel
theorem dX9_turn_78 : decode cX9_turn 78 = .ok (.goto (-71), 3) := by decide +kernel
theorem dX9_turn_81 : decode cX9_turn 81 = .ok (.aload_n 0, 1) := by decide +kernel
theorem dX9_turn_82 : decode cX9_turn 82 = .ok (.invokevirtual 36, 3) := by decide +kernel
theorem dX9_turn_85 : decode cX9_turn 85 = .ok (.aload_n 0, 1) := by decide +kernel
theorem dX9_turn_86 : decode cX9_turn 86 = .ok (.invokevirtual 115, 3) := by decide +kernel
theorem dX9_turn_89 : decode cX9_turn 89 = .ok (.ireturn, 1) := by decide +kernel
set_option maxRecDepth 20000 in
theorem ggX9_points_X9_pointsNow : GoodIn wsX9_points wsX9_pointsNow := goodIn_r _ [6, 7, 8, 9, 10, 11, 12, 13, 14, 15, 16, 17, 18, 19, 20, 21] (by decide +kernel) (by decide +kernel)
set_option maxRecDepth 20000 in
theorem gX9_points_X9_pointsNow : GoodIn wsX9_points (wsV RX9 123 RX9 yX9_pointsNow wsX9_pointsNow) := goodIn_app (goodIn_of _ (by decide +kernel)) ggX9_points_X9_pointsNow
theorem dX9_points_0 : decode cX9_points 0 = .ok (.aload_n 0, 1) := by decide +kernel
theorem dX9_points_1 : decode cX9_points 1 = .ok (.iconst 0, 1) := by decide +kernel
theorem dX9_points_2 : decode cX9_points 2 = .ok (.putfield 39, 3) := by decide +kernel
theorem dX9_points_5 : decode cX9_points 5 = .ok (.aload_n 0, 1) := by decide +kernel
theorem dX9_points_6 : decode cX9_points 6 = .ok (.invokevirtual 123, 3) := by decide +kernel
theorem dX9_points_9 : decode cX9_points 9 = .ok (.ireturn, 1) := by decide +kernel
set_option maxRecDepth 20000 in
theorem ggX9_edgesNow_X9_isEdge : GoodIn wsX9_edgesNow wsX9_isEdge := goodIn_r _ [6, 7, 8, 9, 10, 11, 12, 13, 14, 15, 16, 17, 18, 19, 20] (by decide +kernel) (by decide +kernel)
set_option maxRecDepth 20000 in
theorem gX9_edgesNow_X9_isEdge : GoodIn wsX9_edgesNow (wsV RX9 126 RX9 yX9_isEdge wsX9_isEdge) := goodIn_app (goodIn_of _ (by decide +kernel)) ggX9_edgesNow_X9_isEdge
theorem dX9_edgesNow_0 : decode cX9_edgesNow 0 = .ok (.iconst 0, 1) := by decide +kernel
theorem dX9_edgesNow_1 : decode cX9_edgesNow 1 = .ok (.istore_n 1, 1) := by decide +kernel
theorem dX9_edgesNow_2 : decode cX9_edgesNow 2 = .ok (.iconst 0, 1) := by decide +kernel
theorem dX9_edgesNow_3 : decode cX9_edgesNow 3 = .ok (.istore_n 2, 1) := by decide +kernel
theorem dX9_edgesNow_4 : decode cX9_edgesNow 4 = .ok (.iload_n 2, 1) := by decide +kernel
theorem dX9_edgesNow_5 : decode cX9_edgesNow 5 = .ok (.aload_n 0, 1) := by decide +kernel
theorem dX9_edgesNow_6 : decode cX9_edgesNow 6 = .ok (.getfield 47, 3) := by decide +kernel
theorem dX9_edgesNow_9 : decode cX9_edgesNow 9 = .ok (.if_icmp .ge 39, 3) := by decide +kernel
theorem dX9_edgesNow_12 : decode cX9_edgesNow 12 = .ok (.iconst 0, 1) := by decide +kernel
theorem dX9_edgesNow_13 : decode cX9_edgesNow 13 = .ok (.istore_n 3, 1) := by decide +kernel
theorem dX9_edgesNow_14 : decode cX9_edgesNow 14 = .ok (.iload_n 3, 1) := by decide +kernel
theorem dX9_edgesNow_15 : decode cX9_edgesNow 15 = .ok (.iload_n 2, 1) := by decide +kernel
theorem dX9_edgesNow_16 : decode cX9_edgesNow 16 = .ok (.if_icmp .ge 26, 3) := by decide +kernel
theorem dX9_edgesNow_19 : decode cX9_edgesNow 19 = .ok (.iload_n 1, 1) := by decide +kernel
theorem dX9_edgesNow_20 : decode cX9_edgesNow 20 = .ok (.aload_n 0, 1) := by decide +kernel
theorem dX9_edgesNow_21 : decode cX9_edgesNow 21 = .ok (.iload_n 2, 1) := by decide +kernel
theorem dX9_edgesNow_22 : decode cX9_edgesNow 22 = .ok (.iload_n 3, 1) := by decide +kernel
theorem dX9_edgesNow_23 : decode cX9_edgesNow 23 = .ok (.invokevirtual 126, 3) := by decide +kernel
theorem dX9_edgesNow_26 : decode cX9_edgesNow 26 = .ok (.ifCond .eq 7, 3) := by decide +kernel
theorem dX9_edgesNow_29 : decode cX9_edgesNow 29 = .ok (.iconst 1, 1) := by decide +kernel
theorem dX9_edgesNow_30 : decode cX9_edgesNow 30 = .ok (.goto 4, 3) := by decide +kernel
theorem dX9_edgesNow_33 : decode cX9_edgesNow 33 = .ok (.iconst 0, 1) := by decide +kernel
theorem dX9_edgesNow_34 : decode cX9_edgesNow 34 = .ok (.iadd, 1) := by decide +kernel
theorem dX9_edgesNow_35 : decode cX9_edgesNow 35 = .ok (.istore_n 1, 1) := by decide +kernel
theorem dX9_edgesNow_36 : decode cX9_edgesNow 36 = .ok (.iinc 3 1, 3) := by decide +kernel
theorem dX9_edgesNow_39 : decode cX9_edgesNow 39 = .ok (.goto (-25), 3) := by decide +kernel
theorem dX9_edgesNow_42 : decode cX9_edgesNow 42 = .ok (.iinc 2 1, 3) := by decide +kernel
theorem dX9_edgesNow_45 : decode cX9_edgesNow 45 = .ok (.goto (-41), 3) := by decide +kernel
theorem dX9_edgesNow_48 : decode cX9_edgesNow 48 = .ok (.iload_n 1, 1) := by decide +kernel
theorem dX9_edgesNow_49 : decode cX9_edgesNow 49 = .ok (.ireturn, 1) := by decide +kernel
set_option maxRecDepth 20000 in
theorem ggX9_edges_X9_edgesNow : GoodIn wsX9_edges wsX9_edgesNow := goodIn_r _ [6, 7, 8, 9, 10, 5, 11, 12, 13, 14, 15, 16, 17, 18, 19, 20, 21, 22, 23, 24, 25] (by decide +kernel) (by decide +kernel)
set_option maxRecDepth 20000 in
theorem gX9_edges_X9_edgesNow : GoodIn wsX9_edges (wsV RX9 180 RX9 yX9_edgesNow wsX9_edgesNow) := goodIn_app (goodIn_of _ (by decide +kernel)) ggX9_edges_X9_edgesNow
theorem dX9_edges_0 : decode cX9_edges 0 = .ok (.aload_n 0, 1) := by decide +kernel
theorem dX9_edges_1 : decode cX9_edges 1 = .ok (.iconst 0, 1) := by decide +kernel
theorem dX9_edges_2 : decode cX9_edges 2 = .ok (.putfield 39, 3) := by decide +kernel
theorem dX9_edges_5 : decode cX9_edges 5 = .ok (.aload_n 0, 1) := by decide +kernel
theorem dX9_edges_6 : decode cX9_edges 6 = .ok (.invokevirtual 180, 3) := by decide +kernel
theorem dX9_edges_9 : decode cX9_edges 9 = .ok (.ireturn, 1) := by decide +kernel
set_option maxRecDepth 20000 in
theorem ggX9_faces_X9_facesNow : GoodIn wsX9_faces wsX9_facesNow := goodIn_r _ [6, 7, 8, 9, 10, 11, 12, 13, 14, 15, 16, 17, 18, 19, 20, 21] (by decide +kernel) (by decide +kernel)
set_option maxRecDepth 20000 in
theorem gX9_faces_X9_facesNow : GoodIn wsX9_faces (wsV RX9 115 RX9 yX9_facesNow wsX9_facesNow) := goodIn_app (goodIn_of _ (by decide +kernel)) ggX9_faces_X9_facesNow
theorem dX9_faces_0 : decode cX9_faces 0 = .ok (.aload_n 0, 1) := by decide +kernel
theorem dX9_faces_1 : decode cX9_faces 1 = .ok (.iconst 0, 1) := by decide +kernel
theorem dX9_faces_2 : decode cX9_faces 2 = .ok (.putfield 39, 3) := by decide +kernel
theorem dX9_faces_5 : decode cX9_faces 5 = .ok (.aload_n 0, 1) := by decide +kernel
theorem dX9_faces_6 : decode cX9_faces 6 = .ok (.invokevirtual 115, 3) := by decide +kernel
theorem dX9_faces_9 : decode cX9_faces 9 = .ok (.ireturn, 1) := by decide +kernel
set_option maxRecDepth 20000 in
theorem ggX9_holesNow_X9_isOpen : GoodIn wsX9_holesNow wsX9_isOpen := goodIn_r _ [8, 9, 50, 51, 52, 53, 54, 55, 56, 57, 58, 59, 60, 61, 62] (by decide +kernel) (by decide +kernel)
set_option maxRecDepth 20000 in
theorem gX9_holesNow_X9_isOpen : GoodIn wsX9_holesNow (wsV RX9 173 RX9 yX9_isOpen wsX9_isOpen) := goodIn_app (goodIn_of _ (by decide +kernel)) ggX9_holesNow_X9_isOpen
set_option maxRecDepth 20000 in
theorem ggX9_holesNow_X9_holeOf : GoodIn wsX9_holesNow wsX9_holeOf := goodIn_r _ [13, 14, 15, 16, 17, 7, 18, 9, 19, 20, 21, 22, 23, 24, 25, 26, 27, 28, 29, 30, 31, 32, 33, 34, 35, 36, 37, 38, 39, 40, 41, 42, 43, 44, 45, 46, 47, 48, 49, 50, 51, 52, 53, 54, 55, 56, 57, 58, 59, 60, 61, 62] (by decide +kernel) (by decide +kernel)
set_option maxRecDepth 20000 in
theorem gX9_holesNow_X9_holeOf : GoodIn wsX9_holesNow (wsV RX9 176 RX9 yX9_holeOf wsX9_holeOf) := goodIn_app (goodIn_of _ (by decide +kernel)) ggX9_holesNow_X9_holeOf
theorem dX9_holesNow_0 : decode cX9_holesNow 0 = .ok (.aload_n 0, 1) := by decide +kernel
theorem dX9_holesNow_1 : decode cX9_holesNow 1 = .ok (.getfield 47, 3) := by decide +kernel
theorem dX9_holesNow_4 : decode cX9_holesNow 4 = .ok (.aload_n 0, 1) := by decide +kernel
theorem dX9_holesNow_5 : decode cX9_holesNow 5 = .ok (.getfield 47, 3) := by decide +kernel
theorem dX9_holesNow_8 : decode cX9_holesNow 8 = .ok (.multianewarray 191 2, 4) := by decide +kernel
theorem dX9_holesNow_12 : decode cX9_holesNow 12 = .ok (.astore_n 1, 1) := by decide +kernel
theorem dX9_holesNow_13 : decode cX9_holesNow 13 = .ok (.iconst 0, 1) := by decide +kernel
theorem dX9_holesNow_14 : decode cX9_holesNow 14 = .ok (.istore_n 2, 1) := by decide +kernel
theorem dX9_holesNow_15 : decode cX9_holesNow 15 = .ok (.iconst 0, 1) := by decide +kernel
theorem dX9_holesNow_16 : decode cX9_holesNow 16 = .ok (.istore_n 3, 1) := by decide +kernel
theorem dX9_holesNow_17 : decode cX9_holesNow 17 = .ok (.iload_n 3, 1) := by decide +kernel
theorem dX9_holesNow_18 : decode cX9_holesNow 18 = .ok (.aload_n 0, 1) := by decide +kernel
theorem dX9_holesNow_19 : decode cX9_holesNow 19 = .ok (.getfield 47, 3) := by decide +kernel
theorem dX9_holesNow_22 : decode cX9_holesNow 22 = .ok (.if_icmp .ge 98, 3) := by decide +kernel
theorem dX9_holesNow_25 : decode cX9_holesNow 25 = .ok (.iconst 0, 1) := by decide +kernel
theorem dX9_holesNow_26 : decode cX9_holesNow 26 = .ok (.istore 4, 2) := by decide +kernel
theorem dX9_holesNow_28 : decode cX9_holesNow 28 = .ok (.iload 4, 2) := by decide +kernel
theorem dX9_holesNow_30 : decode cX9_holesNow 30 = .ok (.aload_n 0, 1) := by decide +kernel
theorem dX9_holesNow_31 : decode cX9_holesNow 31 = .ok (.getfield 47, 3) := by decide +kernel
theorem dX9_holesNow_34 : decode cX9_holesNow 34 = .ok (.if_icmp .ge 80, 3) := by decide +kernel
theorem dX9_holesNow_37 : decode cX9_holesNow 37 = .ok (.aload_n 0, 1) := by decide +kernel
theorem dX9_holesNow_38 : decode cX9_holesNow 38 = .ok (.iload_n 3, 1) := by decide +kernel
theorem dX9_holesNow_39 : decode cX9_holesNow 39 = .ok (.iload 4, 2) := by decide +kernel
theorem dX9_holesNow_41 : decode cX9_holesNow 41 = .ok (.invokevirtual 173, 3) := by decide +kernel
theorem dX9_holesNow_44 : decode cX9_holesNow 44 = .ok (.ifCond .eq 64, 3) := by decide +kernel
theorem dX9_holesNow_47 : decode cX9_holesNow 47 = .ok (.aload_n 1, 1) := by decide +kernel
theorem dX9_holesNow_48 : decode cX9_holesNow 48 = .ok (.iload_n 3, 1) := by decide +kernel
theorem dX9_holesNow_49 : decode cX9_holesNow 49 = .ok (.aaload, 1) := by decide +kernel
theorem dX9_holesNow_50 : decode cX9_holesNow 50 = .ok (.iload 4, 2) := by decide +kernel
theorem dX9_holesNow_52 : decode cX9_holesNow 52 = .ok (.baload, 1) := by decide +kernel
theorem dX9_holesNow_53 : decode cX9_holesNow 53 = .ok (.ifCond .eq 6, 3) := by decide +kernel
theorem dX9_holesNow_56 : decode cX9_holesNow 56 = .ok (.goto 52, 3) := by decide +kernel
theorem dX9_holesNow_59 : decode cX9_holesNow 59 = .ok (.iinc 2 1, 3) := by decide +kernel
theorem dX9_holesNow_62 : decode cX9_holesNow 62 = .ok (.aload_n 0, 1) := by decide +kernel
theorem dX9_holesNow_63 : decode cX9_holesNow 63 = .ok (.iload_n 3, 1) := by decide +kernel
theorem dX9_holesNow_64 : decode cX9_holesNow 64 = .ok (.iload 4, 2) := by decide +kernel
theorem dX9_holesNow_66 : decode cX9_holesNow 66 = .ok (.invokevirtual 176, 3) := by decide +kernel
theorem dX9_holesNow_69 : decode cX9_holesNow 69 = .ok (.astore 5, 2) := by decide +kernel
theorem dX9_holesNow_71 : decode cX9_holesNow 71 = .ok (.iconst 0, 1) := by decide +kernel
theorem dX9_holesNow_72 : decode cX9_holesNow 72 = .ok (.istore 6, 2) := by decide +kernel
theorem dX9_holesNow_74 : decode cX9_holesNow 74 = .ok (.iload 6, 2) := by decide +kernel
theorem dX9_holesNow_76 : decode cX9_holesNow 76 = .ok (.aload 5, 2) := by decide +kernel
theorem dX9_holesNow_78 : decode cX9_holesNow 78 = .ok (.arraylength, 1) := by decide +kernel
theorem dX9_holesNow_79 : decode cX9_holesNow 79 = .ok (.if_icmp .ge 29, 3) := by decide +kernel
theorem dX9_holesNow_82 : decode cX9_holesNow 82 = .ok (.aload_n 1, 1) := by decide +kernel
theorem dX9_holesNow_83 : decode cX9_holesNow 83 = .ok (.aload 5, 2) := by decide +kernel
theorem dX9_holesNow_85 : decode cX9_holesNow 85 = .ok (.iload 6, 2) := by decide +kernel
theorem dX9_holesNow_87 : decode cX9_holesNow 87 = .ok (.iaload, 1) := by decide +kernel
theorem dX9_holesNow_88 : decode cX9_holesNow 88 = .ok (.aaload, 1) := by decide +kernel
theorem dX9_holesNow_89 : decode cX9_holesNow 89 = .ok (.aload 5, 2) := by decide +kernel
theorem dX9_holesNow_91 : decode cX9_holesNow 91 = .ok (.iload 6, 2) := by decide +kernel
theorem dX9_holesNow_93 : decode cX9_holesNow 93 = .ok (.iconst 1, 1) := by decide +kernel
theorem dX9_holesNow_94 : decode cX9_holesNow 94 = .ok (.iadd, 1) := by decide +kernel
theorem dX9_holesNow_95 : decode cX9_holesNow 95 = .ok (.aload 5, 2) := by decide +kernel
theorem dX9_holesNow_97 : decode cX9_holesNow 97 = .ok (.arraylength, 1) := by decide +kernel
theorem dX9_holesNow_98 : decode cX9_holesNow 98 = .ok (.irem, 1) := by decide +kernel
theorem dX9_holesNow_99 : decode cX9_holesNow 99 = .ok (.iaload, 1) := by decide +kernel
theorem dX9_holesNow_100 : decode cX9_holesNow 100 = .ok (.iconst 1, 1) := by decide +kernel
theorem dX9_holesNow_101 : decode cX9_holesNow 101 = .ok (.bastore, 1) := by decide +kernel
theorem dX9_holesNow_102 : decode cX9_holesNow 102 = .ok (.iinc 6 1, 3) := by decide +kernel
theorem dX9_holesNow_105 : decode cX9_holesNow 105 = .ok (.goto (-31), 3) := by decide +kernel
theorem dX9_holesNow_108 : decode cX9_holesNow 108 = .ok (.iinc 4 1, 3) := by decide +kernel
theorem dX9_holesNow_111 : decode cX9_holesNow 111 = .ok (.goto (-83), 3) := by decide +kernel
theorem dX9_holesNow_114 : decode cX9_holesNow 114 = .ok (.iinc 3 1, 3) := by decide +kernel
theorem dX9_holesNow_117 : decode cX9_holesNow 117 = .ok (.goto (-100), 3) := by decide +kernel
theorem dX9_holesNow_120 : decode cX9_holesNow 120 = .ok (.iload_n 2, 1) := by decide +kernel
theorem dX9_holesNow_121 : decode cX9_holesNow 121 = .ok (.ireturn, 1) := by decide +kernel
set_option maxRecDepth 20000 in
theorem ggX9_holes_X9_holesNow : GoodIn wsX9_holes wsX9_holesNow := goodIn_r _ [6, 7, 8, 9, 10, 11, 12, 5, 13, 14, 15, 16, 17, 18, 19, 20, 21, 22, 23, 24, 25, 26, 27, 28, 29, 30, 31, 32, 33, 34, 35, 36, 37, 38, 39, 40, 41, 42, 43, 44, 45, 46, 47, 48, 49, 50, 51, 52, 53, 54, 55, 56, 57, 58, 59, 60, 61, 62, 63, 64, 65, 66, 67] (by decide +kernel) (by decide +kernel)
set_option maxRecDepth 20000 in
theorem gX9_holes_X9_holesNow : GoodIn wsX9_holes (wsV RX9 193 RX9 yX9_holesNow wsX9_holesNow) := goodIn_app (goodIn_of _ (by decide +kernel)) ggX9_holes_X9_holesNow
theorem dX9_holes_0 : decode cX9_holes 0 = .ok (.aload_n 0, 1) := by decide +kernel
theorem dX9_holes_1 : decode cX9_holes 1 = .ok (.iconst 0, 1) := by decide +kernel
theorem dX9_holes_2 : decode cX9_holes 2 = .ok (.putfield 39, 3) := by decide +kernel
theorem dX9_holes_5 : decode cX9_holes 5 = .ok (.aload_n 0, 1) := by decide +kernel
theorem dX9_holes_6 : decode cX9_holes 6 = .ok (.invokevirtual 193, 3) := by decide +kernel
theorem dX9_holes_9 : decode cX9_holes 9 = .ok (.ireturn, 1) := by decide +kernel
set_option maxRecDepth 20000 in
theorem ggX9_groups_X9_has : GoodIn wsX9_groups wsX9_has := goodIn_r _ [8, 9, 10, 11, 7, 12, 3, 18, 19, 20, 21, 22, 23, 24, 25, 26, 27, 28, 29, 30] (by decide +kernel) (by decide +kernel)
set_option maxRecDepth 20000 in
theorem gX9_groups_X9_has : GoodIn wsX9_groups (wsV RX9 119 RX9 yX9_has wsX9_has) := goodIn_app (goodIn_of _ (by decide +kernel)) ggX9_groups_X9_has
set_option maxRecDepth 20000 in
theorem ggX9_groups_X9_spread : GoodIn wsX9_groups wsX9_spread := goodIn_r _ [16, 3, 17, 18, 19, 20, 21, 22, 23, 24, 25, 26, 27, 28, 29, 30] (by decide +kernel) (by decide +kernel)
set_option maxRecDepth 20000 in
theorem gX9_groups_X9_spread : GoodIn wsX9_groups (wsV RX9 196 RX9 yX9_spread wsX9_spread) := goodIn_app (goodIn_of _ (by decide +kernel)) ggX9_groups_X9_spread
theorem dX9_groups_0 : decode cX9_groups 0 = .ok (.aload_n 0, 1) := by decide +kernel
theorem dX9_groups_1 : decode cX9_groups 1 = .ok (.getfield 50, 3) := by decide +kernel
theorem dX9_groups_4 : decode cX9_groups 4 = .ok (.newarray .int, 2) := by decide +kernel
theorem dX9_groups_6 : decode cX9_groups 6 = .ok (.astore_n 2, 1) := by decide +kernel
theorem dX9_groups_7 : decode cX9_groups 7 = .ok (.iconst 0, 1) := by decide +kernel
theorem dX9_groups_8 : decode cX9_groups 8 = .ok (.istore_n 3, 1) := by decide +kernel
theorem dX9_groups_9 : decode cX9_groups 9 = .ok (.iload_n 3, 1) := by decide +kernel
theorem dX9_groups_10 : decode cX9_groups 10 = .ok (.aload_n 0, 1) := by decide +kernel
theorem dX9_groups_11 : decode cX9_groups 11 = .ok (.getfield 50, 3) := by decide +kernel
theorem dX9_groups_14 : decode cX9_groups 14 = .ok (.if_icmp .ge 40, 3) := by decide +kernel
theorem dX9_groups_17 : decode cX9_groups 17 = .ok (.aload_n 2, 1) := by decide +kernel
theorem dX9_groups_18 : decode cX9_groups 18 = .ok (.iload_n 3, 1) := by decide +kernel
theorem dX9_groups_19 : decode cX9_groups 19 = .ok (.aload_n 0, 1) := by decide +kernel
theorem dX9_groups_20 : decode cX9_groups 20 = .ok (.getfield 20, 3) := by decide +kernel
theorem dX9_groups_23 : decode cX9_groups 23 = .ok (.iload_n 3, 1) := by decide +kernel
theorem dX9_groups_24 : decode cX9_groups 24 = .ok (.aaload, 1) := by decide +kernel
theorem dX9_groups_25 : decode cX9_groups 25 = .ok (.ifnull 17, 3) := by decide +kernel
theorem dX9_groups_28 : decode cX9_groups 28 = .ok (.iload_n 1, 1) := by decide +kernel
theorem dX9_groups_29 : decode cX9_groups 29 = .ok (.iconst (-1), 1) := by decide +kernel
theorem dX9_groups_30 : decode cX9_groups 30 = .ok (.if_icmp .eq 16, 3) := by decide +kernel
theorem dX9_groups_33 : decode cX9_groups 33 = .ok (.aload_n 0, 1) := by decide +kernel
theorem dX9_groups_34 : decode cX9_groups 34 = .ok (.iload_n 3, 1) := by decide +kernel
theorem dX9_groups_35 : decode cX9_groups 35 = .ok (.iload_n 1, 1) := by decide +kernel
theorem dX9_groups_36 : decode cX9_groups 36 = .ok (.invokevirtual 119, 3) := by decide +kernel
theorem dX9_groups_39 : decode cX9_groups 39 = .ok (.ifCond .ne 7, 3) := by decide +kernel
theorem dX9_groups_42 : decode cX9_groups 42 = .ok (.iconst (-1), 1) := by decide +kernel
theorem dX9_groups_43 : decode cX9_groups 43 = .ok (.goto 4, 3) := by decide +kernel
theorem dX9_groups_46 : decode cX9_groups 46 = .ok (.iload_n 3, 1) := by decide +kernel
theorem dX9_groups_47 : decode cX9_groups 47 = .ok (.iastore, 1) := by decide +kernel
theorem dX9_groups_48 : decode cX9_groups 48 = .ok (.iinc 3 1, 3) := by decide +kernel
theorem dX9_groups_51 : decode cX9_groups 51 = .ok (.goto (-42), 3) := by decide +kernel
theorem dX9_groups_54 : decode cX9_groups 54 = .ok (.iconst 1, 1) := by decide +kernel
theorem dX9_groups_55 : decode cX9_groups 55 = .ok (.istore_n 3, 1) := by decide +kernel
theorem dX9_groups_56 : decode cX9_groups 56 = .ok (.iload_n 3, 1) := by decide +kernel
theorem dX9_groups_57 : decode cX9_groups 57 = .ok (.ifCond .eq 45, 3) := by decide +kernel
theorem dX9_groups_60 : decode cX9_groups 60 = .ok (.iconst 0, 1) := by decide +kernel
theorem dX9_groups_61 : decode cX9_groups 61 = .ok (.istore_n 3, 1) := by decide +kernel
theorem dX9_groups_62 : decode cX9_groups 62 = .ok (.iconst 0, 1) := by decide +kernel
theorem dX9_groups_63 : decode cX9_groups 63 = .ok (.istore 4, 2) := by decide +kernel
theorem dX9_groups_65 : decode cX9_groups 65 = .ok (.iload 4, 2) := by decide +kernel
theorem dX9_groups_67 : decode cX9_groups 67 = .ok (.aload_n 0, 1) := by decide +kernel
theorem dX9_groups_68 : decode cX9_groups 68 = .ok (.getfield 50, 3) := by decide +kernel
theorem dX9_groups_71 : decode cX9_groups 71 = .ok (.if_icmp .ge 28, 3) := by decide +kernel
theorem dX9_groups_74 : decode cX9_groups 74 = .ok (.aload_n 2, 1) := by decide +kernel
theorem dX9_groups_75 : decode cX9_groups 75 = .ok (.iload 4, 2) := by decide +kernel
theorem dX9_groups_77 : decode cX9_groups 77 = .ok (.iaload, 1) := by decide +kernel
theorem dX9_groups_78 : decode cX9_groups 78 = .ok (.iconst (-1), 1) := by decide +kernel
theorem dX9_groups_79 : decode cX9_groups 79 = .ok (.if_icmp .eq 14, 3) := by decide +kernel
theorem dX9_groups_82 : decode cX9_groups 82 = .ok (.iload_n 3, 1) := by decide +kernel
theorem dX9_groups_83 : decode cX9_groups 83 = .ok (.aload_n 0, 1) := by decide +kernel
theorem dX9_groups_84 : decode cX9_groups 84 = .ok (.iload 4, 2) := by decide +kernel
theorem dX9_groups_86 : decode cX9_groups 86 = .ok (.aload_n 2, 1) := by decide +kernel
theorem dX9_groups_87 : decode cX9_groups 87 = .ok (.iload_n 1, 1) := by decide +kernel
theorem dX9_groups_88 : decode cX9_groups 88 = .ok (.invokevirtual 196, 3) := by decide +kernel
theorem dX9_groups_91 : decode cX9_groups 91 = .ok (.ior, 1) := by decide +kernel
theorem dX9_groups_92 : decode cX9_groups 92 = .ok (.istore_n 3, 1) := by decide +kernel
theorem dX9_groups_93 : decode cX9_groups 93 = .ok (.iinc 4 1, 3) := by decide +kernel
theorem dX9_groups_96 : decode cX9_groups 96 = .ok (.goto (-31), 3) := by decide +kernel
theorem dX9_groups_99 : decode cX9_groups 99 = .ok (.goto (-43), 3) := by decide +kernel
theorem dX9_groups_102 : decode cX9_groups 102 = .ok (.iconst 0, 1) := by decide +kernel
theorem dX9_groups_103 : decode cX9_groups 103 = .ok (.istore 4, 2) := by decide +kernel
theorem dX9_groups_105 : decode cX9_groups 105 = .ok (.iconst 0, 1) := by decide +kernel
theorem dX9_groups_106 : decode cX9_groups 106 = .ok (.istore 5, 2) := by decide +kernel
theorem dX9_groups_108 : decode cX9_groups 108 = .ok (.iload 5, 2) := by decide +kernel
theorem dX9_groups_110 : decode cX9_groups 110 = .ok (.aload_n 0, 1) := by decide +kernel
theorem dX9_groups_111 : decode cX9_groups 111 = .ok (.getfield 50, 3) := by decide +kernel
theorem dX9_groups_114 : decode cX9_groups 114 = .ok (.if_icmp .ge 28, 3) := by decide +kernel
theorem dX9_groups_117 : decode cX9_groups 117 = .ok (.iload 4, 2) := by decide +kernel
theorem dX9_groups_119 : decode cX9_groups 119 = .ok (.aload_n 2, 1) := by decide +kernel
theorem dX9_groups_120 : decode cX9_groups 120 = .ok (.iload 5, 2) := by decide +kernel
theorem dX9_groups_122 : decode cX9_groups 122 = .ok (.iaload, 1) := by decide +kernel
theorem dX9_groups_123 : decode cX9_groups 123 = .ok (.iload 5, 2) := by decide +kernel
theorem dX9_groups_125 : decode cX9_groups 125 = .ok (.if_icmp .ne 7, 3) := by decide +kernel
theorem dX9_groups_128 : decode cX9_groups 128 = .ok (.iconst 1, 1) := by decide +kernel
theorem dX9_groups_129 : decode cX9_groups 129 = .ok (.goto 4, 3) := by decide +kernel
theorem dX9_groups_132 : decode cX9_groups 132 = .ok (.iconst 0, 1) := by decide +kernel
theorem dX9_groups_133 : decode cX9_groups 133 = .ok (.iadd, 1) := by decide +kernel
theorem dX9_groups_134 : decode cX9_groups 134 = .ok (.istore 4, 2) := by decide +kernel
theorem dX9_groups_136 : decode cX9_groups 136 = .ok (.iinc 5 1, 3) := by decide +kernel
theorem dX9_groups_139 : decode cX9_groups 139 = .ok (.goto (-31), 3) := by decide +kernel
theorem dX9_groups_142 : decode cX9_groups 142 = .ok (.iload 4, 2) := by decide +kernel
theorem dX9_groups_144 : decode cX9_groups 144 = .ok (.ireturn, 1) := by decide +kernel
set_option maxRecDepth 20000 in
theorem ggX9_shells_X9_groups : GoodIn wsX9_shells wsX9_groups := goodIn_r _ [6, 7, 8, 9, 10, 11, 12, 5, 13, 14, 15, 16, 17, 18, 19, 20, 21, 22, 23, 24, 25, 26, 27, 28, 29, 30, 31, 32, 33, 34, 35] (by decide +kernel) (by decide +kernel)
set_option maxRecDepth 20000 in
theorem gX9_shells_X9_groups : GoodIn wsX9_shells (wsV RX9 200 RX9 yX9_groups wsX9_groups) := goodIn_app (goodIn_of _ (by decide +kernel)) ggX9_shells_X9_groups
theorem dX9_shells_0 : decode cX9_shells 0 = .ok (.aload_n 0, 1) := by decide +kernel
theorem dX9_shells_1 : decode cX9_shells 1 = .ok (.iconst 0, 1) := by decide +kernel
theorem dX9_shells_2 : decode cX9_shells 2 = .ok (.putfield 39, 3) := by decide +kernel
theorem dX9_shells_5 : decode cX9_shells 5 = .ok (.aload_n 0, 1) := by decide +kernel
theorem dX9_shells_6 : decode cX9_shells 6 = .ok (.iconst (-1), 1) := by decide +kernel
theorem dX9_shells_7 : decode cX9_shells 7 = .ok (.invokevirtual 200, 3) := by decide +kernel
theorem dX9_shells_10 : decode cX9_shells 10 = .ok (.ireturn, 1) := by decide +kernel
set_option maxRecDepth 20000 in
theorem ggX9_at_X9_isPoint : GoodIn wsX9_at wsX9_isPoint := goodIn_r _ [7, 8, 9, 10, 11, 6, 12, 17, 18, 19, 20, 21, 22, 23, 24, 25, 26, 27, 28, 29] (by decide +kernel) (by decide +kernel)
set_option maxRecDepth 20000 in
theorem gX9_at_X9_isPoint : GoodIn wsX9_at (wsV RX9 98 RX9 yX9_isPoint wsX9_isPoint) := goodIn_app (goodIn_of _ (by decide +kernel)) ggX9_at_X9_isPoint
set_option maxRecDepth 20000 in
theorem ggX9_at_X9_refuse : GoodIn wsX9_at wsX9_refuse := goodIn_r _ [16, 1, 17, 18, 19, 20, 21, 22, 23, 24, 25, 26, 27, 28, 29] (by decide +kernel) (by decide +kernel)
set_option maxRecDepth 20000 in
theorem gX9_at_X9_refuse : GoodIn wsX9_at (wsV RX9 94 RX9 yX9_refuse wsX9_refuse) := goodIn_app (goodIn_of _ (by decide +kernel)) ggX9_at_X9_refuse
set_option maxRecDepth 20000 in
theorem ggX9_at_X9_is : GoodIn wsX9_at wsX9_is := goodIn_r _ [12] (by decide +kernel) (by decide +kernel)
set_option maxRecDepth 20000 in
theorem gX9_at_X9_is : GoodIn wsX9_at (va_wsS RX9 43 yX9_is wsX9_is) := goodIn_app (goodIn_of _ (by decide +kernel)) ggX9_at_X9_is
theorem dX9_at_0 : decode cX9_at 0 = .ok (.aload_n 0, 1) := by decide +kernel
theorem dX9_at_1 : decode cX9_at 1 = .ok (.iconst 0, 1) := by decide +kernel
theorem dX9_at_2 : decode cX9_at 2 = .ok (.putfield 39, 3) := by decide +kernel
theorem dX9_at_5 : decode cX9_at 5 = .ok (.aload_n 0, 1) := by decide +kernel
theorem dX9_at_6 : decode cX9_at 6 = .ok (.iload_n 1, 1) := by decide +kernel
theorem dX9_at_7 : decode cX9_at 7 = .ok (.invokevirtual 98, 3) := by decide +kernel
theorem dX9_at_10 : decode cX9_at 10 = .ok (.ifCond .ne 9, 3) := by decide +kernel
theorem dX9_at_13 : decode cX9_at 13 = .ok (.aload_n 0, 1) := by decide +kernel
theorem dX9_at_14 : decode cX9_at 14 = .ok (.iconst 1, 1) := by decide +kernel
theorem dX9_at_15 : decode cX9_at 15 = .ok (.invokevirtual 94, 3) := by decide +kernel
theorem dX9_at_18 : decode cX9_at 18 = .ok (.ireturn, 1) := by decide +kernel
theorem dX9_at_19 : decode cX9_at 19 = .ok (.iload_n 2, 1) := by decide +kernel
theorem dX9_at_20 : decode cX9_at 20 = .ok (.iconst 0, 1) := by decide +kernel
theorem dX9_at_21 : decode cX9_at 21 = .ok (.iconst 2, 1) := by decide +kernel
theorem dX9_at_22 : decode cX9_at 22 = .ok (.invokestatic 43, 3) := by decide +kernel
theorem dX9_at_25 : decode cX9_at 25 = .ok (.ifCond .eq 14, 3) := by decide +kernel
theorem dX9_at_28 : decode cX9_at 28 = .ok (.aload_n 0, 1) := by decide +kernel
theorem dX9_at_29 : decode cX9_at 29 = .ok (.getfield 11, 3) := by decide +kernel
theorem dX9_at_32 : decode cX9_at 32 = .ok (.iload_n 1, 1) := by decide +kernel
theorem dX9_at_33 : decode cX9_at 33 = .ok (.aaload, 1) := by decide +kernel
theorem dX9_at_34 : decode cX9_at 34 = .ok (.iload_n 2, 1) := by decide +kernel
theorem dX9_at_35 : decode cX9_at 35 = .ok (.iaload, 1) := by decide +kernel
theorem dX9_at_36 : decode cX9_at 36 = .ok (.goto 8, 3) := by decide +kernel
theorem dX9_at_39 : decode cX9_at 39 = .ok (.aload_n 0, 1) := by decide +kernel
theorem dX9_at_40 : decode cX9_at 40 = .ok (.iconst 2, 1) := by decide +kernel
theorem dX9_at_41 : decode cX9_at 41 = .ok (.invokevirtual 94, 3) := by decide +kernel
theorem dX9_at_44 : decode cX9_at 44 = .ok (.ireturn, 1) := by decide +kernel
set_option maxRecDepth 20000 in
theorem ggX9_size__X9_isFace : GoodIn wsX9_size_ wsX9_isFace := goodIn_r _ [7, 8, 2, 9, 10, 6, 11, 20, 21, 22, 23, 24, 25, 26, 27, 28, 29, 30, 31, 32] (by decide +kernel) (by decide +kernel)
set_option maxRecDepth 20000 in
theorem gX9_size__X9_isFace : GoodIn wsX9_size_ (wsV RX9 112 RX9 yX9_isFace wsX9_isFace) := goodIn_app (goodIn_of _ (by decide +kernel)) ggX9_size__X9_isFace
set_option maxRecDepth 20000 in
theorem ggX9_size__X9_size : GoodIn wsX9_size_ wsX9_size := goodIn_r _ [15] (by decide +kernel) (by decide +kernel)
set_option maxRecDepth 20000 in
theorem gX9_size__X9_size : GoodIn wsX9_size_ (wsV RX9 203 RX9 yX9_size wsX9_size) := goodIn_app (goodIn_of _ (by decide +kernel)) ggX9_size__X9_size
set_option maxRecDepth 20000 in
theorem ggX9_size__X9_refuse : GoodIn wsX9_size_ wsX9_refuse := goodIn_r _ [19, 1, 20, 21, 22, 23, 24, 25, 26, 27, 28, 29, 30, 31, 32] (by decide +kernel) (by decide +kernel)
set_option maxRecDepth 20000 in
theorem gX9_size__X9_refuse : GoodIn wsX9_size_ (wsV RX9 94 RX9 yX9_refuse wsX9_refuse) := goodIn_app (goodIn_of _ (by decide +kernel)) ggX9_size__X9_refuse
theorem dX9_size__0 : decode cX9_size_ 0 = .ok (.aload_n 0, 1) := by decide +kernel
theorem dX9_size__1 : decode cX9_size_ 1 = .ok (.iconst 0, 1) := by decide +kernel
theorem dX9_size__2 : decode cX9_size_ 2 = .ok (.putfield 39, 3) := by decide +kernel
theorem dX9_size__5 : decode cX9_size_ 5 = .ok (.aload_n 0, 1) := by decide +kernel
theorem dX9_size__6 : decode cX9_size_ 6 = .ok (.iload_n 1, 1) := by decide +kernel
theorem dX9_size__7 : decode cX9_size_ 7 = .ok (.invokevirtual 112, 3) := by decide +kernel
theorem dX9_size__10 : decode cX9_size_ 10 = .ok (.ifCond .eq 16, 3) := by decide +kernel
theorem dX9_size__13 : decode cX9_size_ 13 = .ok (.aload_n 0, 1) := by decide +kernel
theorem dX9_size__14 : decode cX9_size_ 14 = .ok (.aload_n 0, 1) := by decide +kernel
theorem dX9_size__15 : decode cX9_size_ 15 = .ok (.getfield 20, 3) := by decide +kernel
theorem dX9_size__18 : decode cX9_size_ 18 = .ok (.iload_n 1, 1) := by decide +kernel
theorem dX9_size__19 : decode cX9_size_ 19 = .ok (.aaload, 1) := by decide +kernel
theorem dX9_size__20 : decode cX9_size_ 20 = .ok (.invokevirtual 203, 3) := by decide +kernel
theorem dX9_size__23 : decode cX9_size_ 23 = .ok (.goto 8, 3) := by decide +kernel
theorem dX9_size__26 : decode cX9_size_ 26 = .ok (.aload_n 0, 1) := by decide +kernel
theorem dX9_size__27 : decode cX9_size_ 27 = .ok (.iconst 1, 1) := by decide +kernel
theorem dX9_size__28 : decode cX9_size_ 28 = .ok (.invokevirtual 94, 3) := by decide +kernel
theorem dX9_size__31 : decode cX9_size_ 31 = .ok (.ireturn, 1) := by decide +kernel
set_option maxRecDepth 20000 in
theorem ggX9_corner_X9_isFace : GoodIn wsX9_corner wsX9_isFace := goodIn_r _ [7, 8, 2, 9, 10, 6, 11, 16, 17, 18, 19, 20, 21, 22, 23, 24, 25, 26, 27, 28] (by decide +kernel) (by decide +kernel)
set_option maxRecDepth 20000 in
theorem gX9_corner_X9_isFace : GoodIn wsX9_corner (wsV RX9 112 RX9 yX9_isFace wsX9_isFace) := goodIn_app (goodIn_of _ (by decide +kernel)) ggX9_corner_X9_isFace
set_option maxRecDepth 20000 in
theorem ggX9_corner_X9_is : GoodIn wsX9_corner wsX9_is := goodIn_r _ [11] (by decide +kernel) (by decide +kernel)
set_option maxRecDepth 20000 in
theorem gX9_corner_X9_is : GoodIn wsX9_corner (va_wsS RX9 43 yX9_is wsX9_is) := goodIn_app (goodIn_of _ (by decide +kernel)) ggX9_corner_X9_is
set_option maxRecDepth 20000 in
theorem ggX9_corner_X9_refuse : GoodIn wsX9_corner wsX9_refuse := goodIn_r _ [15, 1, 16, 17, 18, 19, 20, 21, 22, 23, 24, 25, 26, 27, 28] (by decide +kernel) (by decide +kernel)
set_option maxRecDepth 20000 in
theorem gX9_corner_X9_refuse : GoodIn wsX9_corner (wsV RX9 94 RX9 yX9_refuse wsX9_refuse) := goodIn_app (goodIn_of _ (by decide +kernel)) ggX9_corner_X9_refuse
theorem dX9_corner_0 : decode cX9_corner 0 = .ok (.aload_n 0, 1) := by decide +kernel
theorem dX9_corner_1 : decode cX9_corner 1 = .ok (.iconst 0, 1) := by decide +kernel
theorem dX9_corner_2 : decode cX9_corner 2 = .ok (.putfield 39, 3) := by decide +kernel
theorem dX9_corner_5 : decode cX9_corner 5 = .ok (.aload_n 0, 1) := by decide +kernel
theorem dX9_corner_6 : decode cX9_corner 6 = .ok (.iload_n 1, 1) := by decide +kernel
theorem dX9_corner_7 : decode cX9_corner 7 = .ok (.invokevirtual 112, 3) := by decide +kernel
theorem dX9_corner_10 : decode cX9_corner 10 = .ok (.ifCond .eq 31, 3) := by decide +kernel
theorem dX9_corner_13 : decode cX9_corner 13 = .ok (.iload_n 2, 1) := by decide +kernel
theorem dX9_corner_14 : decode cX9_corner 14 = .ok (.iconst 0, 1) := by decide +kernel
theorem dX9_corner_15 : decode cX9_corner 15 = .ok (.aload_n 0, 1) := by decide +kernel
theorem dX9_corner_16 : decode cX9_corner 16 = .ok (.getfield 20, 3) := by decide +kernel
theorem dX9_corner_19 : decode cX9_corner 19 = .ok (.iload_n 1, 1) := by decide +kernel
theorem dX9_corner_20 : decode cX9_corner 20 = .ok (.aaload, 1) := by decide +kernel
theorem dX9_corner_21 : decode cX9_corner 21 = .ok (.arraylength, 1) := by decide +kernel
theorem dX9_corner_22 : decode cX9_corner 22 = .ok (.iconst 1, 1) := by decide +kernel
theorem dX9_corner_23 : decode cX9_corner 23 = .ok (.isub, 1) := by decide +kernel
theorem dX9_corner_24 : decode cX9_corner 24 = .ok (.invokestatic 43, 3) := by decide +kernel
theorem dX9_corner_27 : decode cX9_corner 27 = .ok (.ifCond .eq 14, 3) := by decide +kernel
theorem dX9_corner_30 : decode cX9_corner 30 = .ok (.aload_n 0, 1) := by decide +kernel
theorem dX9_corner_31 : decode cX9_corner 31 = .ok (.getfield 20, 3) := by decide +kernel
theorem dX9_corner_34 : decode cX9_corner 34 = .ok (.iload_n 1, 1) := by decide +kernel
theorem dX9_corner_35 : decode cX9_corner 35 = .ok (.aaload, 1) := by decide +kernel
theorem dX9_corner_36 : decode cX9_corner 36 = .ok (.iload_n 2, 1) := by decide +kernel
theorem dX9_corner_37 : decode cX9_corner 37 = .ok (.iaload, 1) := by decide +kernel
theorem dX9_corner_38 : decode cX9_corner 38 = .ok (.goto 8, 3) := by decide +kernel
theorem dX9_corner_41 : decode cX9_corner 41 = .ok (.aload_n 0, 1) := by decide +kernel
theorem dX9_corner_42 : decode cX9_corner 42 = .ok (.iconst 1, 1) := by decide +kernel
theorem dX9_corner_43 : decode cX9_corner 43 = .ok (.invokevirtual 94, 3) := by decide +kernel
theorem dX9_corner_46 : decode cX9_corner 46 = .ok (.ireturn, 1) := by decide +kernel
set_option maxRecDepth 20000 in
theorem ggX9_faceOf_X9_isPoint : GoodIn wsX9_faceOf wsX9_isPoint := goodIn_r _ [7, 8, 9, 10, 11, 6, 12, 17, 18, 19, 20, 21, 22, 23, 24, 25, 26, 27, 28, 29] (by decide +kernel) (by decide +kernel)
set_option maxRecDepth 20000 in
theorem gX9_faceOf_X9_isPoint : GoodIn wsX9_faceOf (wsV RX9 98 RX9 yX9_isPoint wsX9_isPoint) := goodIn_app (goodIn_of _ (by decide +kernel)) ggX9_faceOf_X9_isPoint
set_option maxRecDepth 20000 in
theorem ggX9_faceOf_X9_refuse : GoodIn wsX9_faceOf wsX9_refuse := goodIn_r _ [16, 1, 17, 18, 19, 20, 21, 22, 23, 24, 25, 26, 27, 28, 29] (by decide +kernel) (by decide +kernel)
set_option maxRecDepth 20000 in
theorem gX9_faceOf_X9_refuse : GoodIn wsX9_faceOf (wsV RX9 94 RX9 yX9_refuse wsX9_refuse) := goodIn_app (goodIn_of _ (by decide +kernel)) ggX9_faceOf_X9_refuse
theorem dX9_faceOf_0 : decode cX9_faceOf 0 = .ok (.aload_n 0, 1) := by decide +kernel
theorem dX9_faceOf_1 : decode cX9_faceOf 1 = .ok (.iconst 0, 1) := by decide +kernel
theorem dX9_faceOf_2 : decode cX9_faceOf 2 = .ok (.putfield 39, 3) := by decide +kernel
theorem dX9_faceOf_5 : decode cX9_faceOf 5 = .ok (.aload_n 0, 1) := by decide +kernel
theorem dX9_faceOf_6 : decode cX9_faceOf 6 = .ok (.iload_n 1, 1) := by decide +kernel
theorem dX9_faceOf_7 : decode cX9_faceOf 7 = .ok (.invokevirtual 98, 3) := by decide +kernel
theorem dX9_faceOf_10 : decode cX9_faceOf 10 = .ok (.ifCond .eq 22, 3) := by decide +kernel
theorem dX9_faceOf_13 : decode cX9_faceOf 13 = .ok (.aload_n 0, 1) := by decide +kernel
theorem dX9_faceOf_14 : decode cX9_faceOf 14 = .ok (.iload_n 2, 1) := by decide +kernel
theorem dX9_faceOf_15 : decode cX9_faceOf 15 = .ok (.invokevirtual 98, 3) := by decide +kernel
theorem dX9_faceOf_18 : decode cX9_faceOf 18 = .ok (.ifCond .eq 14, 3) := by decide +kernel
theorem dX9_faceOf_21 : decode cX9_faceOf 21 = .ok (.aload_n 0, 1) := by decide +kernel
theorem dX9_faceOf_22 : decode cX9_faceOf 22 = .ok (.getfield 23, 3) := by decide +kernel
theorem dX9_faceOf_25 : decode cX9_faceOf 25 = .ok (.iload_n 1, 1) := by decide +kernel
theorem dX9_faceOf_26 : decode cX9_faceOf 26 = .ok (.aaload, 1) := by decide +kernel
theorem dX9_faceOf_27 : decode cX9_faceOf 27 = .ok (.iload_n 2, 1) := by decide +kernel
theorem dX9_faceOf_28 : decode cX9_faceOf 28 = .ok (.iaload, 1) := by decide +kernel
theorem dX9_faceOf_29 : decode cX9_faceOf 29 = .ok (.goto 8, 3) := by decide +kernel
theorem dX9_faceOf_32 : decode cX9_faceOf 32 = .ok (.aload_n 0, 1) := by decide +kernel
theorem dX9_faceOf_33 : decode cX9_faceOf 33 = .ok (.iconst 1, 1) := by decide +kernel
theorem dX9_faceOf_34 : decode cX9_faceOf 34 = .ok (.invokevirtual 94, 3) := by decide +kernel
theorem dX9_faceOf_37 : decode cX9_faceOf 37 = .ok (.ireturn, 1) := by decide +kernel
set_option maxRecDepth 20000 in
theorem ggX9_hole_X9_isPoint : GoodIn wsX9_hole wsX9_isPoint := goodIn_r _ [6, 7, 8, 9, 10, 5, 11, 61, 62, 63, 64, 65, 66, 67, 68, 69, 70, 71, 72, 73] (by decide +kernel) (by decide +kernel)
set_option maxRecDepth 20000 in
theorem gX9_hole_X9_isPoint : GoodIn wsX9_hole (wsV RX9 98 RX9 yX9_isPoint wsX9_isPoint) := goodIn_app (goodIn_of _ (by decide +kernel)) ggX9_hole_X9_isPoint
set_option maxRecDepth 20000 in
theorem ggX9_hole_X9_refuse : GoodIn wsX9_hole wsX9_refuse := goodIn_r _ [15, 1, 61, 62, 63, 64, 65, 66, 67, 68, 69, 70, 71, 72, 73] (by decide +kernel) (by decide +kernel)
set_option maxRecDepth 20000 in
theorem gX9_hole_X9_refuse : GoodIn wsX9_hole (wsV RX9 94 RX9 yX9_refuse wsX9_refuse) := goodIn_app (goodIn_of _ (by decide +kernel)) ggX9_hole_X9_refuse
set_option maxRecDepth 20000 in
theorem ggX9_hole_X9_isOpen : GoodIn wsX9_hole wsX9_isOpen := goodIn_r _ [19, 20, 61, 62, 63, 64, 65, 66, 67, 68, 69, 70, 71, 72, 73] (by decide +kernel) (by decide +kernel)
set_option maxRecDepth 20000 in
theorem gX9_hole_X9_isOpen : GoodIn wsX9_hole (wsV RX9 173 RX9 yX9_isOpen wsX9_isOpen) := goodIn_app (goodIn_of _ (by decide +kernel)) ggX9_hole_X9_isOpen
set_option maxRecDepth 20000 in
theorem ggX9_hole_X9_holeOf : GoodIn wsX9_hole wsX9_holeOf := goodIn_r _ [24, 25, 26, 27, 28, 5, 29, 20, 30, 31, 32, 33, 34, 35, 36, 37, 38, 39, 40, 41, 42, 43, 44, 45, 46, 47, 48, 49, 50, 51, 52, 53, 54, 55, 56, 57, 58, 59, 60, 61, 62, 63, 64, 65, 66, 67, 68, 69, 70, 71, 72, 73] (by decide +kernel) (by decide +kernel)
set_option maxRecDepth 20000 in
theorem gX9_hole_X9_holeOf : GoodIn wsX9_hole (wsV RX9 176 RX9 yX9_holeOf wsX9_holeOf) := goodIn_app (goodIn_of _ (by decide +kernel)) ggX9_hole_X9_holeOf
theorem dX9_hole_0 : decode cX9_hole 0 = .ok (.aload_n 0, 1) := by decide +kernel
theorem dX9_hole_1 : decode cX9_hole 1 = .ok (.iconst 0, 1) := by decide +kernel
theorem dX9_hole_2 : decode cX9_hole 2 = .ok (.putfield 39, 3) := by decide +kernel
theorem dX9_hole_5 : decode cX9_hole 5 = .ok (.aload_n 0, 1) := by decide +kernel
theorem dX9_hole_6 : decode cX9_hole 6 = .ok (.iload_n 1, 1) := by decide +kernel
theorem dX9_hole_7 : decode cX9_hole 7 = .ok (.invokevirtual 98, 3) := by decide +kernel
theorem dX9_hole_10 : decode cX9_hole 10 = .ok (.ifCond .eq 11, 3) := by decide +kernel
theorem dX9_hole_13 : decode cX9_hole 13 = .ok (.aload_n 0, 1) := by decide +kernel
theorem dX9_hole_14 : decode cX9_hole 14 = .ok (.iload_n 2, 1) := by decide +kernel
theorem dX9_hole_15 : decode cX9_hole 15 = .ok (.invokevirtual 98, 3) := by decide +kernel
theorem dX9_hole_18 : decode cX9_hole 18 = .ok (.ifCond .ne 9, 3) := by decide +kernel
theorem dX9_hole_21 : decode cX9_hole 21 = .ok (.aload_n 0, 1) := by decide +kernel
theorem dX9_hole_22 : decode cX9_hole 22 = .ok (.iconst 1, 1) := by decide +kernel
theorem dX9_hole_23 : decode cX9_hole 23 = .ok (.invokevirtual 94, 3) := by decide +kernel
theorem dX9_hole_26 : decode cX9_hole 26 = .ok (.ireturn, 1) := by decide +kernel
theorem dX9_hole_27 : decode cX9_hole 27 = .ok (.aload_n 0, 1) := by decide +kernel
theorem dX9_hole_28 : decode cX9_hole 28 = .ok (.iload_n 1, 1) := by decide +kernel
theorem dX9_hole_29 : decode cX9_hole 29 = .ok (.iload_n 2, 1) := by decide +kernel
theorem dX9_hole_30 : decode cX9_hole 30 = .ok (.invokevirtual 173, 3) := by decide +kernel
theorem dX9_hole_33 : decode cX9_hole 33 = .ok (.ifCond .eq 13, 3) := by decide +kernel
theorem dX9_hole_36 : decode cX9_hole 36 = .ok (.aload_n 0, 1) := by decide +kernel
theorem dX9_hole_37 : decode cX9_hole 37 = .ok (.iload_n 1, 1) := by decide +kernel
theorem dX9_hole_38 : decode cX9_hole 38 = .ok (.iload_n 2, 1) := by decide +kernel
theorem dX9_hole_39 : decode cX9_hole 39 = .ok (.invokevirtual 176, 3) := by decide +kernel
theorem dX9_hole_42 : decode cX9_hole 42 = .ok (.arraylength, 1) := by decide +kernel
theorem dX9_hole_43 : decode cX9_hole 43 = .ok (.goto 4, 3) := by decide +kernel
theorem dX9_hole_46 : decode cX9_hole 46 = .ok (.iconst 0, 1) := by decide +kernel
theorem dX9_hole_47 : decode cX9_hole 47 = .ok (.ireturn, 1) := by decide +kernel
set_option maxRecDepth 20000 in
theorem ggX9_around_X9_isPoint : GoodIn wsX9_around wsX9_isPoint := goodIn_r _ [6, 7, 8, 9, 10, 5, 11, 48, 49, 50, 51, 52, 53, 54, 55, 56, 57, 58, 59, 60] (by decide +kernel) (by decide +kernel)
set_option maxRecDepth 20000 in
theorem gX9_around_X9_isPoint : GoodIn wsX9_around (wsV RX9 98 RX9 yX9_isPoint wsX9_isPoint) := goodIn_app (goodIn_of _ (by decide +kernel)) ggX9_around_X9_isPoint
set_option maxRecDepth 20000 in
theorem ggX9_around_X9_refuse : GoodIn wsX9_around wsX9_refuse := goodIn_r _ [15, 1, 48, 49, 50, 51, 52, 53, 54, 55, 56, 57, 58, 59, 60] (by decide +kernel) (by decide +kernel)
set_option maxRecDepth 20000 in
theorem gX9_around_X9_refuse : GoodIn wsX9_around (wsV RX9 94 RX9 yX9_refuse wsX9_refuse) := goodIn_app (goodIn_of _ (by decide +kernel)) ggX9_around_X9_refuse
set_option maxRecDepth 20000 in
theorem ggX9_around_X9_is : GoodIn wsX9_around wsX9_is := goodIn_r _ [11] (by decide +kernel) (by decide +kernel)
set_option maxRecDepth 20000 in
theorem gX9_around_X9_is : GoodIn wsX9_around (va_wsS RX9 43 yX9_is wsX9_is) := goodIn_app (goodIn_of _ (by decide +kernel)) ggX9_around_X9_is
set_option maxRecDepth 20000 in
theorem ggX9_around_X9_aroundNow : GoodIn wsX9_around wsX9_aroundNow := goodIn_r _ [19, 7, 20, 21, 22, 23, 24, 5, 25, 26, 27, 28, 29, 30, 31, 32, 33, 34, 35, 36, 37, 38, 39, 40, 41, 42, 43, 44, 45, 46, 47, 48, 49, 50, 51, 52, 53, 54, 55, 56, 57, 58, 59, 60] (by decide +kernel) (by decide +kernel)
set_option maxRecDepth 20000 in
theorem gX9_around_X9_aroundNow : GoodIn wsX9_around (wsV RX9 206 RX9 yX9_aroundNow wsX9_aroundNow) := goodIn_app (goodIn_of _ (by decide +kernel)) ggX9_around_X9_aroundNow
theorem dX9_around_0 : decode cX9_around 0 = .ok (.aload_n 0, 1) := by decide +kernel
theorem dX9_around_1 : decode cX9_around 1 = .ok (.iconst 0, 1) := by decide +kernel
theorem dX9_around_2 : decode cX9_around 2 = .ok (.putfield 39, 3) := by decide +kernel
theorem dX9_around_5 : decode cX9_around 5 = .ok (.aload_n 0, 1) := by decide +kernel
theorem dX9_around_6 : decode cX9_around 6 = .ok (.iload_n 1, 1) := by decide +kernel
theorem dX9_around_7 : decode cX9_around 7 = .ok (.invokevirtual 98, 3) := by decide +kernel
theorem dX9_around_10 : decode cX9_around 10 = .ok (.ifCond .ne 9, 3) := by decide +kernel
theorem dX9_around_13 : decode cX9_around 13 = .ok (.aload_n 0, 1) := by decide +kernel
theorem dX9_around_14 : decode cX9_around 14 = .ok (.iconst 1, 1) := by decide +kernel
theorem dX9_around_15 : decode cX9_around 15 = .ok (.invokevirtual 94, 3) := by decide +kernel
theorem dX9_around_18 : decode cX9_around 18 = .ok (.ireturn, 1) := by decide +kernel
theorem dX9_around_19 : decode cX9_around 19 = .ok (.iload_n 2, 1) := by decide +kernel
theorem dX9_around_20 : decode cX9_around 20 = .ok (.iconst 0, 1) := by decide +kernel
theorem dX9_around_21 : decode cX9_around 21 = .ok (.iconst 3, 1) := by decide +kernel
theorem dX9_around_22 : decode cX9_around 22 = .ok (.invokestatic 43, 3) := by decide +kernel
theorem dX9_around_25 : decode cX9_around 25 = .ok (.ifCond .eq 12, 3) := by decide +kernel
theorem dX9_around_28 : decode cX9_around 28 = .ok (.aload_n 0, 1) := by decide +kernel
theorem dX9_around_29 : decode cX9_around 29 = .ok (.iload_n 1, 1) := by decide +kernel
theorem dX9_around_30 : decode cX9_around 30 = .ok (.iload_n 2, 1) := by decide +kernel
theorem dX9_around_31 : decode cX9_around 31 = .ok (.invokevirtual 206, 3) := by decide +kernel
theorem dX9_around_34 : decode cX9_around 34 = .ok (.goto 8, 3) := by decide +kernel
theorem dX9_around_37 : decode cX9_around 37 = .ok (.aload_n 0, 1) := by decide +kernel
theorem dX9_around_38 : decode cX9_around 38 = .ok (.iconst 2, 1) := by decide +kernel
theorem dX9_around_39 : decode cX9_around 39 = .ok (.invokevirtual 94, 3) := by decide +kernel
theorem dX9_around_42 : decode cX9_around 42 = .ok (.ireturn, 1) := by decide +kernel
set_option maxRecDepth 20000 in
theorem ggX9_normal_X9_isFace : GoodIn wsX9_normal wsX9_isFace := goodIn_r _ [6, 7, 8, 9, 10, 5, 11, 21, 22, 23, 24, 25, 26, 27, 28, 29, 30, 31, 32, 33] (by decide +kernel) (by decide +kernel)
set_option maxRecDepth 20000 in
theorem gX9_normal_X9_isFace : GoodIn wsX9_normal (wsV RX9 112 RX9 yX9_isFace wsX9_isFace) := goodIn_app (goodIn_of _ (by decide +kernel)) ggX9_normal_X9_isFace
set_option maxRecDepth 20000 in
theorem ggX9_normal_X9_refuse : GoodIn wsX9_normal wsX9_refuse := goodIn_r _ [15, 1, 21, 22, 23, 24, 25, 26, 27, 28, 29, 30, 31, 32, 33] (by decide +kernel) (by decide +kernel)
set_option maxRecDepth 20000 in
theorem gX9_normal_X9_refuse : GoodIn wsX9_normal (wsV RX9 94 RX9 yX9_refuse wsX9_refuse) := goodIn_app (goodIn_of _ (by decide +kernel)) ggX9_normal_X9_refuse
set_option maxRecDepth 20000 in
theorem ggX9_normal_X9_is : GoodIn wsX9_normal wsX9_is := goodIn_r _ [11] (by decide +kernel) (by decide +kernel)
set_option maxRecDepth 20000 in
theorem gX9_normal_X9_is : GoodIn wsX9_normal (va_wsS RX9 43 yX9_is wsX9_is) := goodIn_app (goodIn_of _ (by decide +kernel)) ggX9_normal_X9_is
set_option maxRecDepth 20000 in
theorem ggX9_normal_X9_normalNow : GoodIn wsX9_normal wsX9_normalNow := goodIn_r _ [19, 8, 20, 21, 22, 23, 24, 25, 26, 27, 28, 29, 30, 31, 32, 33] (by decide +kernel) (by decide +kernel)
set_option maxRecDepth 20000 in
theorem gX9_normal_X9_normalNow : GoodIn wsX9_normal (wsV RX9 209 RX9 yX9_normalNow wsX9_normalNow) := goodIn_app (goodIn_of _ (by decide +kernel)) ggX9_normal_X9_normalNow
theorem dX9_normal_0 : decode cX9_normal 0 = .ok (.aload_n 0, 1) := by decide +kernel
theorem dX9_normal_1 : decode cX9_normal 1 = .ok (.iconst 0, 1) := by decide +kernel
theorem dX9_normal_2 : decode cX9_normal 2 = .ok (.putfield 39, 3) := by decide +kernel
theorem dX9_normal_5 : decode cX9_normal 5 = .ok (.aload_n 0, 1) := by decide +kernel
theorem dX9_normal_6 : decode cX9_normal 6 = .ok (.iload_n 1, 1) := by decide +kernel
theorem dX9_normal_7 : decode cX9_normal 7 = .ok (.invokevirtual 112, 3) := by decide +kernel
theorem dX9_normal_10 : decode cX9_normal 10 = .ok (.ifCond .ne 9, 3) := by decide +kernel
theorem dX9_normal_13 : decode cX9_normal 13 = .ok (.aload_n 0, 1) := by decide +kernel
theorem dX9_normal_14 : decode cX9_normal 14 = .ok (.iconst 1, 1) := by decide +kernel
theorem dX9_normal_15 : decode cX9_normal 15 = .ok (.invokevirtual 94, 3) := by decide +kernel
theorem dX9_normal_18 : decode cX9_normal 18 = .ok (.ireturn, 1) := by decide +kernel
theorem dX9_normal_19 : decode cX9_normal 19 = .ok (.iload_n 2, 1) := by decide +kernel
theorem dX9_normal_20 : decode cX9_normal 20 = .ok (.iconst 0, 1) := by decide +kernel
theorem dX9_normal_21 : decode cX9_normal 21 = .ok (.iconst 2, 1) := by decide +kernel
theorem dX9_normal_22 : decode cX9_normal 22 = .ok (.invokestatic 43, 3) := by decide +kernel
theorem dX9_normal_25 : decode cX9_normal 25 = .ok (.ifCond .eq 12, 3) := by decide +kernel
theorem dX9_normal_28 : decode cX9_normal 28 = .ok (.aload_n 0, 1) := by decide +kernel
theorem dX9_normal_29 : decode cX9_normal 29 = .ok (.iload_n 1, 1) := by decide +kernel
theorem dX9_normal_30 : decode cX9_normal 30 = .ok (.iload_n 2, 1) := by decide +kernel
theorem dX9_normal_31 : decode cX9_normal 31 = .ok (.invokevirtual 209, 3) := by decide +kernel
theorem dX9_normal_34 : decode cX9_normal 34 = .ok (.goto 8, 3) := by decide +kernel
theorem dX9_normal_37 : decode cX9_normal 37 = .ok (.aload_n 0, 1) := by decide +kernel
theorem dX9_normal_38 : decode cX9_normal 38 = .ok (.iconst 2, 1) := by decide +kernel
theorem dX9_normal_39 : decode cX9_normal 39 = .ok (.invokevirtual 94, 3) := by decide +kernel
theorem dX9_normal_42 : decode cX9_normal 42 = .ok (.ireturn, 1) := by decide +kernel
theorem dX9_volumeNow_0 : decode cX9_volumeNow 0 = .ok (.lconst 0, 1) := by decide +kernel
theorem dX9_volumeNow_1 : decode cX9_volumeNow 1 = .ok (.lstore_n 1, 1) := by decide +kernel
theorem dX9_volumeNow_2 : decode cX9_volumeNow 2 = .ok (.iconst 0, 1) := by decide +kernel
theorem dX9_volumeNow_3 : decode cX9_volumeNow 3 = .ok (.istore_n 3, 1) := by decide +kernel
theorem dX9_volumeNow_4 : decode cX9_volumeNow 4 = .ok (.iload_n 3, 1) := by decide +kernel
theorem dX9_volumeNow_5 : decode cX9_volumeNow 5 = .ok (.aload_n 0, 1) := by decide +kernel
theorem dX9_volumeNow_6 : decode cX9_volumeNow 6 = .ok (.getfield 50, 3) := by decide +kernel
theorem dX9_volumeNow_9 : decode cX9_volumeNow 9 = .ok (.if_icmp .ge 158, 3) := by decide +kernel
theorem dX9_volumeNow_12 : decode cX9_volumeNow 12 = .ok (.aload_n 0, 1) := by decide +kernel
theorem dX9_volumeNow_13 : decode cX9_volumeNow 13 = .ok (.getfield 20, 3) := by decide +kernel
theorem dX9_volumeNow_16 : decode cX9_volumeNow 16 = .ok (.iload_n 3, 1) := by decide +kernel
theorem dX9_volumeNow_17 : decode cX9_volumeNow 17 = .ok (.aaload, 1) := by decide +kernel
theorem dX9_volumeNow_18 : decode cX9_volumeNow 18 = .ok (.ifnonnull 6, 3) := by decide +kernel
theorem dX9_volumeNow_21 : decode cX9_volumeNow 21 = .ok (.goto 140, 3) := by decide +kernel
theorem dX9_volumeNow_24 : decode cX9_volumeNow 24 = .ok (.aload_n 0, 1) := by decide +kernel
theorem dX9_volumeNow_25 : decode cX9_volumeNow 25 = .ok (.getfield 11, 3) := by decide +kernel
theorem dX9_volumeNow_28 : decode cX9_volumeNow 28 = .ok (.aload_n 0, 1) := by decide +kernel
theorem dX9_volumeNow_29 : decode cX9_volumeNow 29 = .ok (.getfield 20, 3) := by decide +kernel
theorem dX9_volumeNow_32 : decode cX9_volumeNow 32 = .ok (.iload_n 3, 1) := by decide +kernel
theorem dX9_volumeNow_33 : decode cX9_volumeNow 33 = .ok (.aaload, 1) := by decide +kernel
theorem dX9_volumeNow_34 : decode cX9_volumeNow 34 = .ok (.iconst 0, 1) := by decide +kernel
theorem dX9_volumeNow_35 : decode cX9_volumeNow 35 = .ok (.iaload, 1) := by decide +kernel
theorem dX9_volumeNow_36 : decode cX9_volumeNow 36 = .ok (.aaload, 1) := by decide +kernel
theorem dX9_volumeNow_37 : decode cX9_volumeNow 37 = .ok (.astore 4, 2) := by decide +kernel
theorem dX9_volumeNow_39 : decode cX9_volumeNow 39 = .ok (.iconst 1, 1) := by decide +kernel
theorem dX9_volumeNow_40 : decode cX9_volumeNow 40 = .ok (.istore 5, 2) := by decide +kernel
theorem dX9_volumeNow_42 : decode cX9_volumeNow 42 = .ok (.iload 5, 2) := by decide +kernel
theorem dX9_volumeNow_44 : decode cX9_volumeNow 44 = .ok (.iconst 1, 1) := by decide +kernel
theorem dX9_volumeNow_45 : decode cX9_volumeNow 45 = .ok (.iadd, 1) := by decide +kernel
theorem dX9_volumeNow_46 : decode cX9_volumeNow 46 = .ok (.aload_n 0, 1) := by decide +kernel
theorem dX9_volumeNow_47 : decode cX9_volumeNow 47 = .ok (.getfield 20, 3) := by decide +kernel
theorem dX9_volumeNow_50 : decode cX9_volumeNow 50 = .ok (.iload_n 3, 1) := by decide +kernel
theorem dX9_volumeNow_51 : decode cX9_volumeNow 51 = .ok (.aaload, 1) := by decide +kernel
theorem dX9_volumeNow_52 : decode cX9_volumeNow 52 = .ok (.arraylength, 1) := by decide +kernel
theorem dX9_volumeNow_53 : decode cX9_volumeNow 53 = .ok (.if_icmp .ge 108, 3) := by decide +kernel
theorem dX9_volumeNow_56 : decode cX9_volumeNow 56 = .ok (.aload_n 0, 1) := by decide +kernel
theorem dX9_volumeNow_57 : decode cX9_volumeNow 57 = .ok (.getfield 11, 3) := by decide +kernel
theorem dX9_volumeNow_60 : decode cX9_volumeNow 60 = .ok (.aload_n 0, 1) := by decide +kernel
theorem dX9_volumeNow_61 : decode cX9_volumeNow 61 = .ok (.getfield 20, 3) := by decide +kernel
theorem dX9_volumeNow_64 : decode cX9_volumeNow 64 = .ok (.iload_n 3, 1) := by decide +kernel
theorem dX9_volumeNow_65 : decode cX9_volumeNow 65 = .ok (.aaload, 1) := by decide +kernel
theorem dX9_volumeNow_66 : decode cX9_volumeNow 66 = .ok (.iload 5, 2) := by decide +kernel
theorem dX9_volumeNow_68 : decode cX9_volumeNow 68 = .ok (.iaload, 1) := by decide +kernel
theorem dX9_volumeNow_69 : decode cX9_volumeNow 69 = .ok (.aaload, 1) := by decide +kernel
theorem dX9_volumeNow_70 : decode cX9_volumeNow 70 = .ok (.astore 6, 2) := by decide +kernel
theorem dX9_volumeNow_72 : decode cX9_volumeNow 72 = .ok (.aload_n 0, 1) := by decide +kernel
theorem dX9_volumeNow_73 : decode cX9_volumeNow 73 = .ok (.getfield 11, 3) := by decide +kernel
theorem dX9_volumeNow_76 : decode cX9_volumeNow 76 = .ok (.aload_n 0, 1) := by decide +kernel
theorem dX9_volumeNow_77 : decode cX9_volumeNow 77 = .ok (.getfield 20, 3) := by decide +kernel
theorem dX9_volumeNow_80 : decode cX9_volumeNow 80 = .ok (.iload_n 3, 1) := by decide +kernel
theorem dX9_volumeNow_81 : decode cX9_volumeNow 81 = .ok (.aaload, 1) := by decide +kernel
theorem dX9_volumeNow_82 : decode cX9_volumeNow 82 = .ok (.iload 5, 2) := by decide +kernel
theorem dX9_volumeNow_84 : decode cX9_volumeNow 84 = .ok (.iconst 1, 1) := by decide +kernel
theorem dX9_volumeNow_85 : decode cX9_volumeNow 85 = .ok (.iadd, 1) := by decide +kernel
theorem dX9_volumeNow_86 : decode cX9_volumeNow 86 = .ok (.iaload, 1) := by decide +kernel
theorem dX9_volumeNow_87 : decode cX9_volumeNow 87 = .ok (.aaload, 1) := by decide +kernel
theorem dX9_volumeNow_88 : decode cX9_volumeNow 88 = .ok (.astore 7, 2) := by decide +kernel
theorem dX9_volumeNow_90 : decode cX9_volumeNow 90 = .ok (.iconst 0, 1) := by decide +kernel
theorem dX9_volumeNow_91 : decode cX9_volumeNow 91 = .ok (.istore 8, 2) := by decide +kernel
theorem dX9_volumeNow_93 : decode cX9_volumeNow 93 = .ok (.iload 8, 2) := by decide +kernel
theorem dX9_volumeNow_95 : decode cX9_volumeNow 95 = .ok (.iconst 3, 1) := by decide +kernel
theorem dX9_volumeNow_96 : decode cX9_volumeNow 96 = .ok (.if_icmp .ge 59, 3) := by decide +kernel
theorem dX9_volumeNow_99 : decode cX9_volumeNow 99 = .ok (.iload 8, 2) := by decide +kernel
theorem dX9_volumeNow_101 : decode cX9_volumeNow 101 = .ok (.iconst 1, 1) := by decide +kernel
theorem dX9_volumeNow_102 : decode cX9_volumeNow 102 = .ok (.iadd, 1) := by decide +kernel
theorem dX9_volumeNow_103 : decode cX9_volumeNow 103 = .ok (.iconst 3, 1) := by decide +kernel
theorem dX9_volumeNow_104 : decode cX9_volumeNow 104 = .ok (.irem, 1) := by decide +kernel
theorem dX9_volumeNow_105 : decode cX9_volumeNow 105 = .ok (.istore 9, 2) := by decide +kernel
theorem dX9_volumeNow_107 : decode cX9_volumeNow 107 = .ok (.iload 8, 2) := by decide +kernel
theorem dX9_volumeNow_109 : decode cX9_volumeNow 109 = .ok (.iconst 2, 1) := by decide +kernel
theorem dX9_volumeNow_110 : decode cX9_volumeNow 110 = .ok (.iadd, 1) := by decide +kernel
theorem dX9_volumeNow_111 : decode cX9_volumeNow 111 = .ok (.iconst 3, 1) := by decide +kernel
theorem dX9_volumeNow_112 : decode cX9_volumeNow 112 = .ok (.irem, 1) := by decide +kernel
theorem dX9_volumeNow_113 : decode cX9_volumeNow 113 = .ok (.istore 10, 2) := by decide +kernel
theorem dX9_volumeNow_115 : decode cX9_volumeNow 115 = .ok (.lload_n 1, 1) := by decide +kernel
theorem dX9_volumeNow_116 : decode cX9_volumeNow 116 = .ok (.aload 4, 2) := by decide +kernel
theorem dX9_volumeNow_118 : decode cX9_volumeNow 118 = .ok (.iload 8, 2) := by decide +kernel
theorem dX9_volumeNow_120 : decode cX9_volumeNow 120 = .ok (.iaload, 1) := by decide +kernel
theorem dX9_volumeNow_121 : decode cX9_volumeNow 121 = .ok (.i2l, 1) := by decide +kernel
theorem dX9_volumeNow_122 : decode cX9_volumeNow 122 = .ok (.aload 6, 2) := by decide +kernel
theorem dX9_volumeNow_124 : decode cX9_volumeNow 124 = .ok (.iload 9, 2) := by decide +kernel
theorem dX9_volumeNow_126 : decode cX9_volumeNow 126 = .ok (.iaload, 1) := by decide +kernel
theorem dX9_volumeNow_127 : decode cX9_volumeNow 127 = .ok (.aload 7, 2) := by decide +kernel
theorem dX9_volumeNow_129 : decode cX9_volumeNow 129 = .ok (.iload 10, 2) := by decide +kernel
theorem dX9_volumeNow_131 : decode cX9_volumeNow 131 = .ok (.iaload, 1) := by decide +kernel
theorem dX9_volumeNow_132 : decode cX9_volumeNow 132 = .ok (.imul, 1) := by decide +kernel
theorem dX9_volumeNow_133 : decode cX9_volumeNow 133 = .ok (.aload 6, 2) := by decide +kernel
theorem dX9_volumeNow_135 : decode cX9_volumeNow 135 = .ok (.iload 10, 2) := by decide +kernel
theorem dX9_volumeNow_137 : decode cX9_volumeNow 137 = .ok (.iaload, 1) := by decide +kernel
theorem dX9_volumeNow_138 : decode cX9_volumeNow 138 = .ok (.aload 7, 2) := by decide +kernel
theorem dX9_volumeNow_140 : decode cX9_volumeNow 140 = .ok (.iload 9, 2) := by decide +kernel
theorem dX9_volumeNow_142 : decode cX9_volumeNow 142 = .ok (.iaload, 1) := by decide +kernel
theorem dX9_volumeNow_143 : decode cX9_volumeNow 143 = .ok (.imul, 1) := by decide +kernel
theorem dX9_volumeNow_144 : decode cX9_volumeNow 144 = .ok (.isub, 1) := by decide +kernel
theorem dX9_volumeNow_145 : decode cX9_volumeNow 145 = .ok (.i2l, 1) := by decide +kernel
theorem dX9_volumeNow_146 : decode cX9_volumeNow 146 = .ok (.lmul, 1) := by decide +kernel
theorem dX9_volumeNow_147 : decode cX9_volumeNow 147 = .ok (.ladd, 1) := by decide +kernel
theorem dX9_volumeNow_148 : decode cX9_volumeNow 148 = .ok (.lstore_n 1, 1) := by decide +kernel
theorem dX9_volumeNow_149 : decode cX9_volumeNow 149 = .ok (.iinc 8 1, 3) := by decide +kernel
theorem dX9_volumeNow_152 : decode cX9_volumeNow 152 = .ok (.goto (-59), 3) := by decide +kernel
theorem dX9_volumeNow_155 : decode cX9_volumeNow 155 = .ok (.iinc 5 1, 3) := by decide +kernel
theorem dX9_volumeNow_158 : decode cX9_volumeNow 158 = .ok (.goto (-116), 3) := by decide +kernel
theorem dX9_volumeNow_161 : decode cX9_volumeNow 161 = .ok (.iinc 3 1, 3) := by decide +kernel
theorem dX9_volumeNow_164 : decode cX9_volumeNow 164 = .ok (.goto (-160), 3) := by decide +kernel
theorem dX9_volumeNow_167 : decode cX9_volumeNow 167 = .ok (.lload_n 1, 1) := by decide +kernel
theorem dX9_volumeNow_168 : decode cX9_volumeNow 168 = .ok (.lreturn, 1) := by decide +kernel
set_option maxRecDepth 20000 in
theorem ggX9_volume_X9_volumeNow : GoodIn wsX9_volume wsX9_volumeNow := goodIn_r _ [6, 7, 8, 9, 10, 11, 12, 13, 14, 15, 16, 17, 18, 19, 20, 21, 22] (by decide +kernel) (by decide +kernel)
set_option maxRecDepth 20000 in
theorem gX9_volume_X9_volumeNow : GoodIn wsX9_volume (wsV RX9 212 RX9 yX9_volumeNow wsX9_volumeNow) := goodIn_app (goodIn_of _ (by decide +kernel)) ggX9_volume_X9_volumeNow
theorem dX9_volume_0 : decode cX9_volume 0 = .ok (.aload_n 0, 1) := by decide +kernel
theorem dX9_volume_1 : decode cX9_volume 1 = .ok (.iconst 0, 1) := by decide +kernel
theorem dX9_volume_2 : decode cX9_volume 2 = .ok (.putfield 39, 3) := by decide +kernel
theorem dX9_volume_5 : decode cX9_volume 5 = .ok (.aload_n 0, 1) := by decide +kernel
theorem dX9_volume_6 : decode cX9_volume 6 = .ok (.invokevirtual 212, 3) := by decide +kernel
theorem dX9_volume_9 : decode cX9_volume 9 = .ok (.lreturn, 1) := by decide +kernel
set_option maxRecDepth 20000 in
theorem ggX9_meanEdge_X9_isEdge : GoodIn wsX9_meanEdge wsX9_isEdge := goodIn_r _ [8, 9, 10, 11, 12, 13, 14, 15, 16, 17, 18, 19, 20, 21, 22] (by decide +kernel) (by decide +kernel)
set_option maxRecDepth 20000 in
theorem gX9_meanEdge_X9_isEdge : GoodIn wsX9_meanEdge (wsV RX9 126 RX9 yX9_isEdge wsX9_isEdge) := goodIn_app (goodIn_of _ (by decide +kernel)) ggX9_meanEdge_X9_isEdge
theorem dX9_meanEdge_0 : decode cX9_meanEdge 0 = .ok (.aload_n 0, 1) := by decide +kernel
theorem dX9_meanEdge_1 : decode cX9_meanEdge 1 = .ok (.iconst 0, 1) := by decide +kernel
theorem dX9_meanEdge_2 : decode cX9_meanEdge 2 = .ok (.putfield 39, 3) := by decide +kernel
theorem dX9_meanEdge_5 : decode cX9_meanEdge 5 = .ok (.lconst 0, 1) := by decide +kernel
theorem dX9_meanEdge_6 : decode cX9_meanEdge 6 = .ok (.lstore_n 1, 1) := by decide +kernel
theorem dX9_meanEdge_7 : decode cX9_meanEdge 7 = .ok (.iconst 0, 1) := by decide +kernel
theorem dX9_meanEdge_8 : decode cX9_meanEdge 8 = .ok (.istore_n 3, 1) := by decide +kernel
theorem dX9_meanEdge_9 : decode cX9_meanEdge 9 = .ok (.iconst 0, 1) := by decide +kernel
theorem dX9_meanEdge_10 : decode cX9_meanEdge 10 = .ok (.istore 4, 2) := by decide +kernel
theorem dX9_meanEdge_12 : decode cX9_meanEdge 12 = .ok (.iload 4, 2) := by decide +kernel
theorem dX9_meanEdge_14 : decode cX9_meanEdge 14 = .ok (.aload_n 0, 1) := by decide +kernel
theorem dX9_meanEdge_15 : decode cX9_meanEdge 15 = .ok (.getfield 47, 3) := by decide +kernel
theorem dX9_meanEdge_18 : decode cX9_meanEdge 18 = .ok (.if_icmp .ge 105, 3) := by decide +kernel
theorem dX9_meanEdge_21 : decode cX9_meanEdge 21 = .ok (.iconst 0, 1) := by decide +kernel
theorem dX9_meanEdge_22 : decode cX9_meanEdge 22 = .ok (.istore 5, 2) := by decide +kernel
theorem dX9_meanEdge_24 : decode cX9_meanEdge 24 = .ok (.iload 5, 2) := by decide +kernel
theorem dX9_meanEdge_26 : decode cX9_meanEdge 26 = .ok (.iload 4, 2) := by decide +kernel
theorem dX9_meanEdge_28 : decode cX9_meanEdge 28 = .ok (.if_icmp .ge 89, 3) := by decide +kernel
theorem dX9_meanEdge_31 : decode cX9_meanEdge 31 = .ok (.aload_n 0, 1) := by decide +kernel
theorem dX9_meanEdge_32 : decode cX9_meanEdge 32 = .ok (.iload 4, 2) := by decide +kernel
theorem dX9_meanEdge_34 : decode cX9_meanEdge 34 = .ok (.iload 5, 2) := by decide +kernel
theorem dX9_meanEdge_36 : decode cX9_meanEdge 36 = .ok (.invokevirtual 126, 3) := by decide +kernel
theorem dX9_meanEdge_39 : decode cX9_meanEdge 39 = .ok (.ifCond .ne 6, 3) := by decide +kernel
theorem dX9_meanEdge_42 : decode cX9_meanEdge 42 = .ok (.goto 69, 3) := by decide +kernel
theorem dX9_meanEdge_45 : decode cX9_meanEdge 45 = .ok (.iinc 3 1, 3) := by decide +kernel
theorem dX9_meanEdge_48 : decode cX9_meanEdge 48 = .ok (.iconst 0, 1) := by decide +kernel
theorem dX9_meanEdge_49 : decode cX9_meanEdge 49 = .ok (.istore 6, 2) := by decide +kernel
theorem dX9_meanEdge_51 : decode cX9_meanEdge 51 = .ok (.iload 6, 2) := by decide +kernel
theorem dX9_meanEdge_53 : decode cX9_meanEdge 53 = .ok (.iconst 3, 1) := by decide +kernel
theorem dX9_meanEdge_54 : decode cX9_meanEdge 54 = .ok (.if_icmp .ge 57, 3) := by decide +kernel
theorem dX9_meanEdge_57 : decode cX9_meanEdge 57 = .ok (.lload_n 1, 1) := by decide +kernel
theorem dX9_meanEdge_58 : decode cX9_meanEdge 58 = .ok (.aload_n 0, 1) := by decide +kernel
theorem dX9_meanEdge_59 : decode cX9_meanEdge 59 = .ok (.getfield 11, 3) := by decide +kernel
theorem dX9_meanEdge_62 : decode cX9_meanEdge 62 = .ok (.iload 4, 2) := by decide +kernel
theorem dX9_meanEdge_64 : decode cX9_meanEdge 64 = .ok (.aaload, 1) := by decide +kernel
theorem dX9_meanEdge_65 : decode cX9_meanEdge 65 = .ok (.iload 6, 2) := by decide +kernel
theorem dX9_meanEdge_67 : decode cX9_meanEdge 67 = .ok (.iaload, 1) := by decide +kernel
theorem dX9_meanEdge_68 : decode cX9_meanEdge 68 = .ok (.aload_n 0, 1) := by decide +kernel
theorem dX9_meanEdge_69 : decode cX9_meanEdge 69 = .ok (.getfield 11, 3) := by decide +kernel
theorem dX9_meanEdge_72 : decode cX9_meanEdge 72 = .ok (.iload 5, 2) := by decide +kernel
theorem dX9_meanEdge_74 : decode cX9_meanEdge 74 = .ok (.aaload, 1) := by decide +kernel
theorem dX9_meanEdge_75 : decode cX9_meanEdge 75 = .ok (.iload 6, 2) := by decide +kernel
theorem dX9_meanEdge_77 : decode cX9_meanEdge 77 = .ok (.iaload, 1) := by decide +kernel
theorem dX9_meanEdge_78 : decode cX9_meanEdge 78 = .ok (.isub, 1) := by decide +kernel
theorem dX9_meanEdge_79 : decode cX9_meanEdge 79 = .ok (.i2l, 1) := by decide +kernel
theorem dX9_meanEdge_80 : decode cX9_meanEdge 80 = .ok (.aload_n 0, 1) := by decide +kernel
theorem dX9_meanEdge_81 : decode cX9_meanEdge 81 = .ok (.getfield 11, 3) := by decide +kernel
theorem dX9_meanEdge_84 : decode cX9_meanEdge 84 = .ok (.iload 4, 2) := by decide +kernel
theorem dX9_meanEdge_86 : decode cX9_meanEdge 86 = .ok (.aaload, 1) := by decide +kernel
theorem dX9_meanEdge_87 : decode cX9_meanEdge 87 = .ok (.iload 6, 2) := by decide +kernel
theorem dX9_meanEdge_89 : decode cX9_meanEdge 89 = .ok (.iaload, 1) := by decide +kernel
theorem dX9_meanEdge_90 : decode cX9_meanEdge 90 = .ok (.aload_n 0, 1) := by decide +kernel
theorem dX9_meanEdge_91 : decode cX9_meanEdge 91 = .ok (.getfield 11, 3) := by decide +kernel
theorem dX9_meanEdge_94 : decode cX9_meanEdge 94 = .ok (.iload 5, 2) := by decide +kernel
theorem dX9_meanEdge_96 : decode cX9_meanEdge 96 = .ok (.aaload, 1) := by decide +kernel
theorem dX9_meanEdge_97 : decode cX9_meanEdge 97 = .ok (.iload 6, 2) := by decide +kernel
theorem dX9_meanEdge_99 : decode cX9_meanEdge 99 = .ok (.iaload, 1) := by decide +kernel
theorem dX9_meanEdge_100 : decode cX9_meanEdge 100 = .ok (.isub, 1) := by decide +kernel
theorem dX9_meanEdge_101 : decode cX9_meanEdge 101 = .ok (.i2l, 1) := by decide +kernel
theorem dX9_meanEdge_102 : decode cX9_meanEdge 102 = .ok (.lmul, 1) := by decide +kernel
theorem dX9_meanEdge_103 : decode cX9_meanEdge 103 = .ok (.ladd, 1) := by decide +kernel
theorem dX9_meanEdge_104 : decode cX9_meanEdge 104 = .ok (.lstore_n 1, 1) := by decide +kernel
theorem dX9_meanEdge_105 : decode cX9_meanEdge 105 = .ok (.iinc 6 1, 3) := by decide +kernel
theorem dX9_meanEdge_108 : decode cX9_meanEdge 108 = .ok (.goto (-57), 3) := by decide +kernel
theorem dX9_meanEdge_111 : decode cX9_meanEdge 111 = .ok (.iinc 5 1, 3) := by decide +kernel
theorem dX9_meanEdge_114 : decode cX9_meanEdge 114 = .ok (.goto (-90), 3) := by decide +kernel
theorem dX9_meanEdge_117 : decode cX9_meanEdge 117 = .ok (.iinc 4 1, 3) := by decide +kernel
theorem dX9_meanEdge_120 : decode cX9_meanEdge 120 = .ok (.goto (-108), 3) := by decide +kernel
theorem dX9_meanEdge_123 : decode cX9_meanEdge 123 = .ok (.iload_n 3, 1) := by decide +kernel
theorem dX9_meanEdge_124 : decode cX9_meanEdge 124 = .ok (.ifCond .ne 7, 3) := by decide +kernel
theorem dX9_meanEdge_127 : decode cX9_meanEdge 127 = .ok (.dconst 0, 1) := by decide +kernel
theorem dX9_meanEdge_128 : decode cX9_meanEdge 128 = .ok (.goto 8, 3) := by decide +kernel
theorem dX9_meanEdge_131 : decode cX9_meanEdge 131 = .ok (.lload_n 1, 1) := by decide +kernel
theorem dX9_meanEdge_132 : decode cX9_meanEdge 132 = .ok (.l2d, 1) := by decide +kernel
theorem dX9_meanEdge_133 : decode cX9_meanEdge 133 = .ok (.iload_n 3, 1) := by decide +kernel
theorem dX9_meanEdge_134 : decode cX9_meanEdge 134 = .ok (.i2d, 1) := by decide +kernel
theorem dX9_meanEdge_135 : decode cX9_meanEdge 135 = .ok (.ddiv, 1) := by decide +kernel
theorem dX9_meanEdge_136 : decode cX9_meanEdge 136 = .ok (.dreturn, 1) := by decide +kernel
set_option maxRecDepth 20000 in
theorem ggX9_steps_X9_isPoint : GoodIn wsX9_steps wsX9_isPoint := goodIn_r _ [8, 2, 9, 10, 11, 7, 12, 26, 27, 28, 29, 30, 31, 32, 33, 34, 35, 36, 37, 38] (by decide +kernel) (by decide +kernel)
set_option maxRecDepth 20000 in
theorem gX9_steps_X9_isPoint : GoodIn wsX9_steps (wsV RX9 98 RX9 yX9_isPoint wsX9_isPoint) := goodIn_app (goodIn_of _ (by decide +kernel)) ggX9_steps_X9_isPoint
set_option maxRecDepth 20000 in
theorem ggX9_steps_X9_refuse : GoodIn wsX9_steps wsX9_refuse := goodIn_r _ [16, 1, 26, 27, 28, 29, 30, 31, 32, 33, 34, 35, 36, 37, 38] (by decide +kernel) (by decide +kernel)
set_option maxRecDepth 20000 in
theorem gX9_steps_X9_refuse : GoodIn wsX9_steps (wsV RX9 94 RX9 yX9_refuse wsX9_refuse) := goodIn_app (goodIn_of _ (by decide +kernel)) ggX9_steps_X9_refuse
set_option maxRecDepth 20000 in
theorem ggX9_steps_J7_fill_53178 : GoodIn wsX9_steps wsJ7_fill_53178 := goodIn_r _ [20] (by decide +kernel) (by decide +kernel)
set_option maxRecDepth 20000 in
theorem gX9_steps_J7_fill_53178 : GoodIn wsX9_steps (va_wsS RX9 53 yJ7_fill_53178 wsJ7_fill_53178) := goodIn_app (goodIn_of _ (by decide +kernel)) ggX9_steps_J7_fill_53178
set_option maxRecDepth 20000 in
theorem ggX9_steps_X9_isEdge : GoodIn wsX9_steps wsX9_isEdge := goodIn_r _ [24, 25, 26, 27, 28, 29, 30, 31, 32, 33, 34, 35, 36, 37, 38] (by decide +kernel) (by decide +kernel)
set_option maxRecDepth 20000 in
theorem gX9_steps_X9_isEdge : GoodIn wsX9_steps (wsV RX9 126 RX9 yX9_isEdge wsX9_isEdge) := goodIn_app (goodIn_of _ (by decide +kernel)) ggX9_steps_X9_isEdge
theorem dX9_steps_0 : decode cX9_steps 0 = .ok (.aload_n 0, 1) := by decide +kernel
theorem dX9_steps_1 : decode cX9_steps 1 = .ok (.iconst 0, 1) := by decide +kernel
theorem dX9_steps_2 : decode cX9_steps 2 = .ok (.putfield 39, 3) := by decide +kernel
theorem dX9_steps_5 : decode cX9_steps 5 = .ok (.aload_n 0, 1) := by decide +kernel
theorem dX9_steps_6 : decode cX9_steps 6 = .ok (.iload_n 1, 1) := by decide +kernel
theorem dX9_steps_7 : decode cX9_steps 7 = .ok (.invokevirtual 98, 3) := by decide +kernel
theorem dX9_steps_10 : decode cX9_steps 10 = .ok (.ifCond .eq 11, 3) := by decide +kernel
theorem dX9_steps_13 : decode cX9_steps 13 = .ok (.aload_n 0, 1) := by decide +kernel
theorem dX9_steps_14 : decode cX9_steps 14 = .ok (.iload_n 2, 1) := by decide +kernel
theorem dX9_steps_15 : decode cX9_steps 15 = .ok (.invokevirtual 98, 3) := by decide +kernel
theorem dX9_steps_18 : decode cX9_steps 18 = .ok (.ifCond .ne 9, 3) := by decide +kernel
theorem dX9_steps_21 : decode cX9_steps 21 = .ok (.aload_n 0, 1) := by decide +kernel
theorem dX9_steps_22 : decode cX9_steps 22 = .ok (.iconst 1, 1) := by decide +kernel
theorem dX9_steps_23 : decode cX9_steps 23 = .ok (.invokevirtual 94, 3) := by decide +kernel
theorem dX9_steps_26 : decode cX9_steps 26 = .ok (.ireturn, 1) := by decide +kernel
theorem dX9_steps_27 : decode cX9_steps 27 = .ok (.aload_n 0, 1) := by decide +kernel
theorem dX9_steps_28 : decode cX9_steps 28 = .ok (.getfield 47, 3) := by decide +kernel
theorem dX9_steps_31 : decode cX9_steps 31 = .ok (.newarray .int, 2) := by decide +kernel
theorem dX9_steps_33 : decode cX9_steps 33 = .ok (.astore_n 3, 1) := by decide +kernel
theorem dX9_steps_34 : decode cX9_steps 34 = .ok (.aload_n 3, 1) := by decide +kernel
theorem dX9_steps_35 : decode cX9_steps 35 = .ok (.iconst (-1), 1) := by decide +kernel
theorem dX9_steps_36 : decode cX9_steps 36 = .ok (.invokestatic 53, 3) := by decide +kernel
theorem dX9_steps_39 : decode cX9_steps 39 = .ok (.aload_n 3, 1) := by decide +kernel
theorem dX9_steps_40 : decode cX9_steps 40 = .ok (.iload_n 1, 1) := by decide +kernel
theorem dX9_steps_41 : decode cX9_steps 41 = .ok (.iconst 0, 1) := by decide +kernel
theorem dX9_steps_42 : decode cX9_steps 42 = .ok (.iastore, 1) := by decide +kernel
theorem dX9_steps_43 : decode cX9_steps 43 = .ok (.iconst 0, 1) := by decide +kernel
theorem dX9_steps_44 : decode cX9_steps 44 = .ok (.istore 4, 2) := by decide +kernel
theorem dX9_steps_46 : decode cX9_steps 46 = .ok (.iload 4, 2) := by decide +kernel
theorem dX9_steps_48 : decode cX9_steps 48 = .ok (.aload_n 0, 1) := by decide +kernel
theorem dX9_steps_49 : decode cX9_steps 49 = .ok (.getfield 47, 3) := by decide +kernel
theorem dX9_steps_52 : decode cX9_steps 52 = .ok (.if_icmp .ge 81, 3) := by decide +kernel
theorem dX9_steps_55 : decode cX9_steps 55 = .ok (.iconst 0, 1) := by decide +kernel
theorem dX9_steps_56 : decode cX9_steps 56 = .ok (.istore 5, 2) := by decide +kernel
theorem dX9_steps_58 : decode cX9_steps 58 = .ok (.iload 5, 2) := by decide +kernel
theorem dX9_steps_60 : decode cX9_steps 60 = .ok (.aload_n 0, 1) := by decide +kernel
theorem dX9_steps_61 : decode cX9_steps 61 = .ok (.getfield 47, 3) := by decide +kernel
theorem dX9_steps_64 : decode cX9_steps 64 = .ok (.if_icmp .ge 63, 3) := by decide +kernel
theorem dX9_steps_67 : decode cX9_steps 67 = .ok (.iconst 0, 1) := by decide +kernel
theorem dX9_steps_68 : decode cX9_steps 68 = .ok (.istore 6, 2) := by decide +kernel
theorem dX9_steps_70 : decode cX9_steps 70 = .ok (.iload 6, 2) := by decide +kernel
theorem dX9_steps_72 : decode cX9_steps 72 = .ok (.aload_n 0, 1) := by decide +kernel
theorem dX9_steps_73 : decode cX9_steps 73 = .ok (.getfield 47, 3) := by decide +kernel
theorem dX9_steps_76 : decode cX9_steps 76 = .ok (.if_icmp .ge 45, 3) := by decide +kernel
theorem dX9_steps_79 : decode cX9_steps 79 = .ok (.aload_n 3, 1) := by decide +kernel
theorem dX9_steps_80 : decode cX9_steps 80 = .ok (.iload 5, 2) := by decide +kernel
theorem dX9_steps_82 : decode cX9_steps 82 = .ok (.iaload, 1) := by decide +kernel
theorem dX9_steps_83 : decode cX9_steps 83 = .ok (.iload 4, 2) := by decide +kernel
theorem dX9_steps_85 : decode cX9_steps 85 = .ok (.if_icmp .ne 36, 3) := by decide +kernel
theorem dX9_steps_88 : decode cX9_steps 88 = .ok (.aload_n 3, 1) := by decide +kernel
theorem dX9_steps_89 : decode cX9_steps 89 = .ok (.iload 6, 2) := by decide +kernel
theorem dX9_steps_91 : decode cX9_steps 91 = .ok (.iaload, 1) := by decide +kernel
theorem dX9_steps_92 : decode cX9_steps 92 = .ok (.iconst (-1), 1) := by decide +kernel
theorem dX9_steps_93 : decode cX9_steps 93 = .ok (.if_icmp .ne 22, 3) := by decide +kernel
theorem dX9_steps_96 : decode cX9_steps 96 = .ok (.aload_n 0, 1) := by decide +kernel
theorem dX9_steps_97 : decode cX9_steps 97 = .ok (.iload 5, 2) := by decide +kernel
theorem dX9_steps_99 : decode cX9_steps 99 = .ok (.iload 6, 2) := by decide +kernel
theorem dX9_steps_101 : decode cX9_steps 101 = .ok (.invokevirtual 126, 3) := by decide +kernel
theorem dX9_steps_104 : decode cX9_steps 104 = .ok (.ifCond .eq 11, 3) := by decide +kernel
theorem dX9_steps_107 : decode cX9_steps 107 = .ok (.aload_n 3, 1) := by decide +kernel
theorem dX9_steps_108 : decode cX9_steps 108 = .ok (.iload 6, 2) := by decide +kernel
theorem dX9_steps_110 : decode cX9_steps 110 = .ok (.iload 4, 2) := by decide +kernel
theorem dX9_steps_112 : decode cX9_steps 112 = .ok (.iconst 1, 1) := by decide +kernel
theorem dX9_steps_113 : decode cX9_steps 113 = .ok (.iadd, 1) := by decide +kernel
theorem dX9_steps_114 : decode cX9_steps 114 = .ok (.iastore, 1) := by decide +kernel
theorem dX9_steps_115 : decode cX9_steps 115 = .ok (.iinc 6 1, 3) := by decide +kernel
theorem dX9_steps_118 : decode cX9_steps 118 = .ok (.goto (-48), 3) := by decide +kernel
theorem dX9_steps_121 : decode cX9_steps 121 = .ok (.iinc 5 1, 3) := by decide +kernel
theorem dX9_steps_124 : decode cX9_steps 124 = .ok (.goto (-66), 3) := by decide +kernel
theorem dX9_steps_127 : decode cX9_steps 127 = .ok (.iinc 4 1, 3) := by decide +kernel
theorem dX9_steps_130 : decode cX9_steps 130 = .ok (.goto (-84), 3) := by decide +kernel
theorem dX9_steps_133 : decode cX9_steps 133 = .ok (.aload_n 3, 1) := by decide +kernel
theorem dX9_steps_134 : decode cX9_steps 134 = .ok (.iload_n 2, 1) := by decide +kernel
theorem dX9_steps_135 : decode cX9_steps 135 = .ok (.iaload, 1) := by decide +kernel
theorem dX9_steps_136 : decode cX9_steps 136 = .ok (.ireturn, 1) := by decide +kernel
set_option maxRecDepth 20000 in
theorem ggX9_mayNow_X9_isEdge : GoodIn wsX9_mayNow wsX9_isEdge := goodIn_r _ [6, 7, 114, 115, 116, 117, 118, 119, 120, 121, 122, 123, 124, 125, 126] (by decide +kernel) (by decide +kernel)
set_option maxRecDepth 20000 in
theorem gX9_mayNow_X9_isEdge : GoodIn wsX9_mayNow (wsV RX9 126 RX9 yX9_isEdge wsX9_isEdge) := goodIn_app (goodIn_of _ (by decide +kernel)) ggX9_mayNow_X9_isEdge
set_option maxRecDepth 20000 in
theorem ggX9_mayNow_X9_canNow : GoodIn wsX9_mayNow wsX9_canNow := goodIn_r _ [11, 7, 2, 3, 4, 5, 6, 12, 13, 14, 15, 16, 17, 18, 19, 20, 21, 22, 23, 24, 25, 26, 27, 28, 29, 30, 31, 32, 33, 34, 1, 35, 36, 37, 38, 39, 40, 41, 42, 43, 44, 45, 46, 47, 48, 49, 50, 51, 52, 53, 54, 55, 56, 57, 58, 59, 60, 61, 62, 63, 64, 65, 66, 67, 68, 69, 70, 71, 72, 73, 74, 75, 76, 77, 78, 79, 80, 81, 82, 83, 84, 85, 86, 87, 88, 89, 90, 91, 92, 93, 94, 95, 96, 97, 98, 99, 100, 101, 102, 103, 104, 105, 106, 107, 108, 109, 110, 111, 112, 113, 114, 115, 116, 117, 118, 119, 120, 121, 122, 123, 124, 125, 126] (by decide +kernel) (by decide +kernel)
set_option maxRecDepth 20000 in
theorem gX9_mayNow_X9_canNow : GoodIn wsX9_mayNow (wsV RX9 216 RX9 yX9_canNow wsX9_canNow) := goodIn_app (goodIn_of _ (by decide +kernel)) ggX9_mayNow_X9_canNow
theorem dX9_mayNow_0 : decode cX9_mayNow 0 = .ok (.iconst 0, 1) := by decide +kernel
theorem dX9_mayNow_1 : decode cX9_mayNow 1 = .ok (.istore_n 2, 1) := by decide +kernel
theorem dX9_mayNow_2 : decode cX9_mayNow 2 = .ok (.iconst 0, 1) := by decide +kernel
theorem dX9_mayNow_3 : decode cX9_mayNow 3 = .ok (.istore_n 3, 1) := by decide +kernel
theorem dX9_mayNow_4 : decode cX9_mayNow 4 = .ok (.iload_n 3, 1) := by decide +kernel
theorem dX9_mayNow_5 : decode cX9_mayNow 5 = .ok (.aload_n 0, 1) := by decide +kernel
theorem dX9_mayNow_6 : decode cX9_mayNow 6 = .ok (.getfield 47, 3) := by decide +kernel
theorem dX9_mayNow_9 : decode cX9_mayNow 9 = .ok (.if_icmp .ge 56, 3) := by decide +kernel
theorem dX9_mayNow_12 : decode cX9_mayNow 12 = .ok (.iconst 0, 1) := by decide +kernel
theorem dX9_mayNow_13 : decode cX9_mayNow 13 = .ok (.istore 4, 2) := by decide +kernel
theorem dX9_mayNow_15 : decode cX9_mayNow 15 = .ok (.iload 4, 2) := by decide +kernel
theorem dX9_mayNow_17 : decode cX9_mayNow 17 = .ok (.aload_n 0, 1) := by decide +kernel
theorem dX9_mayNow_18 : decode cX9_mayNow 18 = .ok (.getfield 47, 3) := by decide +kernel
theorem dX9_mayNow_21 : decode cX9_mayNow 21 = .ok (.if_icmp .ge 38, 3) := by decide +kernel
theorem dX9_mayNow_24 : decode cX9_mayNow 24 = .ok (.iload_n 2, 1) := by decide +kernel
theorem dX9_mayNow_25 : decode cX9_mayNow 25 = .ok (.aload_n 0, 1) := by decide +kernel
theorem dX9_mayNow_26 : decode cX9_mayNow 26 = .ok (.iload_n 3, 1) := by decide +kernel
theorem dX9_mayNow_27 : decode cX9_mayNow 27 = .ok (.iload 4, 2) := by decide +kernel
theorem dX9_mayNow_29 : decode cX9_mayNow 29 = .ok (.invokevirtual 126, 3) := by decide +kernel
theorem dX9_mayNow_32 : decode cX9_mayNow 32 = .ok (.ifCond .eq 18, 3) := by decide +kernel
theorem dX9_mayNow_35 : decode cX9_mayNow 35 = .ok (.aload_n 0, 1) := by decide +kernel
theorem dX9_mayNow_36 : decode cX9_mayNow 36 = .ok (.iload_n 1, 1) := by decide +kernel
theorem dX9_mayNow_37 : decode cX9_mayNow 37 = .ok (.iload_n 3, 1) := by decide +kernel
theorem dX9_mayNow_38 : decode cX9_mayNow 38 = .ok (.iload 4, 2) := by decide +kernel
theorem dX9_mayNow_40 : decode cX9_mayNow 40 = .ok (.invokevirtual 216, 3) := by decide +kernel
theorem dX9_mayNow_43 : decode cX9_mayNow 43 = .ok (.ifCond .eq 7, 3) := by decide +kernel
theorem dX9_mayNow_46 : decode cX9_mayNow 46 = .ok (.iconst 1, 1) := by decide +kernel
theorem dX9_mayNow_47 : decode cX9_mayNow 47 = .ok (.goto 4, 3) := by decide +kernel
theorem dX9_mayNow_50 : decode cX9_mayNow 50 = .ok (.iconst 0, 1) := by decide +kernel
theorem dX9_mayNow_51 : decode cX9_mayNow 51 = .ok (.iadd, 1) := by decide +kernel
theorem dX9_mayNow_52 : decode cX9_mayNow 52 = .ok (.istore_n 2, 1) := by decide +kernel
theorem dX9_mayNow_53 : decode cX9_mayNow 53 = .ok (.iinc 4 1, 3) := by decide +kernel
theorem dX9_mayNow_56 : decode cX9_mayNow 56 = .ok (.goto (-41), 3) := by decide +kernel
theorem dX9_mayNow_59 : decode cX9_mayNow 59 = .ok (.iinc 3 1, 3) := by decide +kernel
theorem dX9_mayNow_62 : decode cX9_mayNow 62 = .ok (.goto (-58), 3) := by decide +kernel
theorem dX9_mayNow_65 : decode cX9_mayNow 65 = .ok (.iload_n 2, 1) := by decide +kernel
theorem dX9_mayNow_66 : decode cX9_mayNow 66 = .ok (.ireturn, 1) := by decide +kernel
set_option maxRecDepth 20000 in
theorem ggX9_may_X9_is : GoodIn wsX9_may wsX9_is := goodIn_r _ [5] (by decide +kernel) (by decide +kernel)
set_option maxRecDepth 20000 in
theorem gX9_may_X9_is : GoodIn wsX9_may (va_wsS RX9 43 yX9_is wsX9_is) := goodIn_app (goodIn_of _ (by decide +kernel)) ggX9_may_X9_is
set_option maxRecDepth 20000 in
theorem ggX9_may_X9_mayNow : GoodIn wsX9_may wsX9_mayNow := goodIn_r _ [9, 10, 11, 12, 13, 4, 14, 15, 16, 17, 18, 19, 20, 21, 22, 23, 24, 25, 26, 27, 28, 29, 30, 31, 32, 33, 34, 35, 36, 37, 38, 39, 40, 41, 42, 43, 44, 45, 46, 47, 48, 49, 50, 51, 52, 53, 54, 55, 56, 57, 58, 59, 60, 61, 62, 63, 64, 65, 66, 67, 68, 69, 70, 71, 72, 73, 74, 75, 76, 77, 78, 79, 80, 81, 82, 83, 84, 85, 86, 87, 2, 3, 5, 88, 89, 90, 91, 92, 93, 94, 95, 96, 97, 98, 99, 100, 101, 102, 103, 104, 105, 106, 107, 108, 109, 110, 111, 112, 113, 114, 115, 116, 117, 118, 123, 124, 125, 126, 127, 128, 129, 130, 131, 132, 133, 134, 135] (by decide +kernel) (by decide +kernel)
set_option maxRecDepth 20000 in
theorem gX9_may_X9_mayNow : GoodIn wsX9_may (wsV RX9 219 RX9 yX9_mayNow wsX9_mayNow) := goodIn_app (goodIn_of _ (by decide +kernel)) ggX9_may_X9_mayNow
set_option maxRecDepth 20000 in
theorem ggX9_may_X9_refuse : GoodIn wsX9_may wsX9_refuse := goodIn_r _ [122, 1, 123, 124, 125, 126, 127, 128, 129, 130, 131, 132, 133, 134, 135] (by decide +kernel) (by decide +kernel)
set_option maxRecDepth 20000 in
theorem gX9_may_X9_refuse : GoodIn wsX9_may (wsV RX9 94 RX9 yX9_refuse wsX9_refuse) := goodIn_app (goodIn_of _ (by decide +kernel)) ggX9_may_X9_refuse
theorem dX9_may_0 : decode cX9_may 0 = .ok (.aload_n 0, 1) := by decide +kernel
theorem dX9_may_1 : decode cX9_may 1 = .ok (.iconst 0, 1) := by decide +kernel
theorem dX9_may_2 : decode cX9_may 2 = .ok (.putfield 39, 3) := by decide +kernel
theorem dX9_may_5 : decode cX9_may 5 = .ok (.iload_n 1, 1) := by decide +kernel
theorem dX9_may_6 : decode cX9_may 6 = .ok (.iconst 0, 1) := by decide +kernel
theorem dX9_may_7 : decode cX9_may 7 = .ok (.iconst 2, 1) := by decide +kernel
theorem dX9_may_8 : decode cX9_may 8 = .ok (.invokestatic 43, 3) := by decide +kernel
theorem dX9_may_11 : decode cX9_may 11 = .ok (.ifCond .eq 11, 3) := by decide +kernel
theorem dX9_may_14 : decode cX9_may 14 = .ok (.aload_n 0, 1) := by decide +kernel
theorem dX9_may_15 : decode cX9_may 15 = .ok (.iload_n 1, 1) := by decide +kernel
theorem dX9_may_16 : decode cX9_may 16 = .ok (.invokevirtual 219, 3) := by decide +kernel
theorem dX9_may_19 : decode cX9_may 19 = .ok (.goto 8, 3) := by decide +kernel
theorem dX9_may_22 : decode cX9_may 22 = .ok (.aload_n 0, 1) := by decide +kernel
theorem dX9_may_23 : decode cX9_may 23 = .ok (.iconst 1, 1) := by decide +kernel
theorem dX9_may_24 : decode cX9_may 24 = .ok (.invokevirtual 94, 3) := by decide +kernel
theorem dX9_may_27 : decode cX9_may 27 = .ok (.ireturn, 1) := by decide +kernel
set_option maxRecDepth 20000 in
theorem ggX9_volumeWith_X9_isPoint : GoodIn wsX9_volumeWith wsX9_isPoint := goodIn_r _ [6, 7, 8, 9, 10, 5, 11, 97, 98, 99, 100, 101, 102, 103, 104, 105, 106, 107, 108, 109] (by decide +kernel) (by decide +kernel)
set_option maxRecDepth 20000 in
theorem gX9_volumeWith_X9_isPoint : GoodIn wsX9_volumeWith (wsV RX9 98 RX9 yX9_isPoint wsX9_isPoint) := goodIn_app (goodIn_of _ (by decide +kernel)) ggX9_volumeWith_X9_isPoint
set_option maxRecDepth 20000 in
theorem ggX9_volumeWith_X9_isEdge : GoodIn wsX9_volumeWith wsX9_isEdge := goodIn_r _ [15, 16, 97, 98, 99, 100, 101, 102, 103, 104, 105, 106, 107, 108, 109] (by decide +kernel) (by decide +kernel)
set_option maxRecDepth 20000 in
theorem gX9_volumeWith_X9_isEdge : GoodIn wsX9_volumeWith (wsV RX9 126 RX9 yX9_isEdge wsX9_isEdge) := goodIn_app (goodIn_of _ (by decide +kernel)) ggX9_volumeWith_X9_isEdge
set_option maxRecDepth 20000 in
theorem ggX9_volumeWith_X9_refuse : GoodIn wsX9_volumeWith wsX9_refuse := goodIn_r _ [20, 1, 97, 98, 99, 100, 101, 102, 103, 104, 105, 106, 107, 108, 109] (by decide +kernel) (by decide +kernel)
set_option maxRecDepth 20000 in
theorem gX9_volumeWith_X9_refuse : GoodIn wsX9_volumeWith (wsV RX9 94 RX9 yX9_refuse wsX9_refuse) := goodIn_app (goodIn_of _ (by decide +kernel)) ggX9_volumeWith_X9_refuse
set_option maxRecDepth 20000 in
theorem ggX9_volumeWith_X9_collapseNow : GoodIn wsX9_volumeWith wsX9_collapseNow := goodIn_r _ [24, 25, 26, 27, 28, 29, 30, 31, 32, 8, 33, 34, 35, 5, 36, 37, 38, 39, 40, 41, 42, 7, 43, 44, 45, 46, 47, 48, 49, 50, 51, 52, 53, 54, 55, 56, 57, 58, 59, 60, 61, 62, 63, 64, 65, 66, 67, 68, 69, 70, 71, 72, 73, 74, 75, 76, 77, 78, 79, 16, 80, 81, 82, 83, 84, 85, 86, 87, 9, 10, 11, 88, 89, 90, 91, 97, 98, 99, 100, 101, 102, 103, 104, 105, 106, 107, 108, 109] (by decide +kernel) (by decide +kernel)
set_option maxRecDepth 20000 in
theorem gX9_volumeWith_X9_collapseNow : GoodIn wsX9_volumeWith (wsV RX9 161 RX9 yX9_collapseNow wsX9_collapseNow) := goodIn_app (goodIn_of _ (by decide +kernel)) ggX9_volumeWith_X9_collapseNow
set_option maxRecDepth 20000 in
theorem ggX9_volumeWith_X9_volumeNow : GoodIn wsX9_volumeWith wsX9_volumeNow := goodIn_r _ [95, 25, 26, 96, 97, 98, 99, 100, 101, 102, 103, 104, 105, 106, 107, 108, 109] (by decide +kernel) (by decide +kernel)
set_option maxRecDepth 20000 in
theorem gX9_volumeWith_X9_volumeNow : GoodIn wsX9_volumeWith (wsV RX9 212 RX9 yX9_volumeNow wsX9_volumeNow) := goodIn_app (goodIn_of _ (by decide +kernel)) ggX9_volumeWith_X9_volumeNow
set_option maxRecDepth 20000 in
theorem ggX9_volumeWith_X9_putBack : GoodIn wsX9_volumeWith wsX9_putBack := goodIn_r _ [75, 37, 26, 38, 39, 40, 41, 42, 8, 43, 7, 44, 25, 76, 77, 78, 5, 79, 16, 80, 81, 82, 59, 83, 84, 85, 86, 87, 9, 10, 11, 97, 98, 99, 100, 101, 102, 103, 104, 105, 106, 107, 108, 109] (by decide +kernel) (by decide +kernel)
set_option maxRecDepth 20000 in
theorem gX9_volumeWith_X9_putBack : GoodIn wsX9_volumeWith (wsV RX9 75 RX9 yX9_putBack wsX9_putBack) := goodIn_app (goodIn_of _ (by decide +kernel)) ggX9_volumeWith_X9_putBack
theorem dX9_volumeWith_0 : decode cX9_volumeWith 0 = .ok (.aload_n 0, 1) := by decide +kernel
theorem dX9_volumeWith_1 : decode cX9_volumeWith 1 = .ok (.aload_n 0, 1) := by decide +kernel
theorem dX9_volumeWith_2 : decode cX9_volumeWith 2 = .ok (.iload_n 1, 1) := by decide +kernel
theorem dX9_volumeWith_3 : decode cX9_volumeWith 3 = .ok (.invokevirtual 98, 3) := by decide +kernel
theorem dX9_volumeWith_6 : decode cX9_volumeWith 6 = .ok (.ifCond .eq 15, 3) := by decide +kernel
theorem dX9_volumeWith_9 : decode cX9_volumeWith 9 = .ok (.aload_n 0, 1) := by decide +kernel
theorem dX9_volumeWith_10 : decode cX9_volumeWith 10 = .ok (.iload_n 2, 1) := by decide +kernel
theorem dX9_volumeWith_11 : decode cX9_volumeWith 11 = .ok (.invokevirtual 98, 3) := by decide +kernel
theorem dX9_volumeWith_14 : decode cX9_volumeWith 14 = .ok (.ifCond .eq 7, 3) := by decide +kernel
theorem dX9_volumeWith_17 : decode cX9_volumeWith 17 = .ok (.iconst 0, 1) := by decide +kernel
theorem dX9_volumeWith_18 : decode cX9_volumeWith 18 = .ok (.goto 4, 3) := by decide +kernel
theorem dX9_volumeWith_21 : decode cX9_volumeWith 21 = .ok (.iconst 1, 1) := by decide +kernel
theorem dX9_volumeWith_22 : decode cX9_volumeWith 22 = .ok (.putfield 39, 3) := by decide +kernel
theorem dX9_volumeWith_25 : decode cX9_volumeWith 25 = .ok (.aload_n 0, 1) := by decide +kernel
theorem dX9_volumeWith_26 : decode cX9_volumeWith 26 = .ok (.getfield 39, 3) := by decide +kernel
theorem dX9_volumeWith_29 : decode cX9_volumeWith 29 = .ok (.ifCond .le 5, 3) := by decide +kernel
theorem dX9_volumeWith_32 : decode cX9_volumeWith 32 = .ok (.lconst 0, 1) := by decide +kernel
theorem dX9_volumeWith_33 : decode cX9_volumeWith 33 = .ok (.lreturn, 1) := by decide +kernel
theorem dX9_volumeWith_34 : decode cX9_volumeWith 34 = .ok (.aload_n 0, 1) := by decide +kernel
theorem dX9_volumeWith_35 : decode cX9_volumeWith 35 = .ok (.iload_n 1, 1) := by decide +kernel
theorem dX9_volumeWith_36 : decode cX9_volumeWith 36 = .ok (.iload_n 2, 1) := by decide +kernel
theorem dX9_volumeWith_37 : decode cX9_volumeWith 37 = .ok (.invokevirtual 126, 3) := by decide +kernel
theorem dX9_volumeWith_40 : decode cX9_volumeWith 40 = .ok (.ifCond .ne 10, 3) := by decide +kernel
theorem dX9_volumeWith_43 : decode cX9_volumeWith 43 = .ok (.aload_n 0, 1) := by decide +kernel
theorem dX9_volumeWith_44 : decode cX9_volumeWith 44 = .ok (.iconst 2, 1) := by decide +kernel
theorem dX9_volumeWith_45 : decode cX9_volumeWith 45 = .ok (.invokevirtual 94, 3) := by decide +kernel
theorem dX9_volumeWith_48 : decode cX9_volumeWith 48 = .ok (.i2l, 1) := by decide +kernel
theorem dX9_volumeWith_49 : decode cX9_volumeWith 49 = .ok (.lreturn, 1) := by decide +kernel
theorem dX9_volumeWith_50 : decode cX9_volumeWith 50 = .ok (.aload_n 0, 1) := by decide +kernel
theorem dX9_volumeWith_51 : decode cX9_volumeWith 51 = .ok (.iload_n 1, 1) := by decide +kernel
theorem dX9_volumeWith_52 : decode cX9_volumeWith 52 = .ok (.iload_n 2, 1) := by decide +kernel
theorem dX9_volumeWith_53 : decode cX9_volumeWith 53 = .ok (.invokevirtual 161, 3) := by decide +kernel
theorem dX9_volumeWith_56 : decode cX9_volumeWith 56 = .ok (.ifCond .ne 10, 3) := by decide +kernel
theorem dX9_volumeWith_59 : decode cX9_volumeWith 59 = .ok (.aload_n 0, 1) := by decide +kernel
theorem dX9_volumeWith_60 : decode cX9_volumeWith 60 = .ok (.iconst 3, 1) := by decide +kernel
theorem dX9_volumeWith_61 : decode cX9_volumeWith 61 = .ok (.invokevirtual 94, 3) := by decide +kernel
theorem dX9_volumeWith_64 : decode cX9_volumeWith 64 = .ok (.i2l, 1) := by decide +kernel
theorem dX9_volumeWith_65 : decode cX9_volumeWith 65 = .ok (.lreturn, 1) := by decide +kernel
theorem dX9_volumeWith_66 : decode cX9_volumeWith 66 = .ok (.aload_n 0, 1) := by decide +kernel
theorem dX9_volumeWith_67 : decode cX9_volumeWith 67 = .ok (.invokevirtual 212, 3) := by decide +kernel
theorem dX9_volumeWith_70 : decode cX9_volumeWith 70 = .ok (.lstore_n 3, 1) := by decide +kernel
theorem dX9_volumeWith_71 : decode cX9_volumeWith 71 = .ok (.aload_n 0, 1) := by decide +kernel
theorem dX9_volumeWith_72 : decode cX9_volumeWith 72 = .ok (.invokevirtual 75, 3) := by decide +kernel
theorem dX9_volumeWith_75 : decode cX9_volumeWith 75 = .ok (.lload_n 3, 1) := by decide +kernel
theorem dX9_volumeWith_76 : decode cX9_volumeWith 76 = .ok (.lreturn, 1) := by decide +kernel
set_option maxRecDepth 20000 in
theorem ggX9_holesWithout_X9_isFace : GoodIn wsX9_holesWithout wsX9_isFace := goodIn_r _ [7, 8, 2, 9, 10, 6, 11, 79, 80, 81, 82, 83, 84, 85, 86, 87, 88, 89, 90, 91] (by decide +kernel) (by decide +kernel)
set_option maxRecDepth 20000 in
theorem gX9_holesWithout_X9_isFace : GoodIn wsX9_holesWithout (wsV RX9 112 RX9 yX9_isFace wsX9_isFace) := goodIn_app (goodIn_of _ (by decide +kernel)) ggX9_holesWithout_X9_isFace
set_option maxRecDepth 20000 in
theorem ggX9_holesWithout_X9_refuse : GoodIn wsX9_holesWithout wsX9_refuse := goodIn_r _ [15, 1, 79, 80, 81, 82, 83, 84, 85, 86, 87, 88, 89, 90, 91] (by decide +kernel) (by decide +kernel)
set_option maxRecDepth 20000 in
theorem gX9_holesWithout_X9_refuse : GoodIn wsX9_holesWithout (wsV RX9 94 RX9 yX9_refuse wsX9_refuse) := goodIn_app (goodIn_of _ (by decide +kernel)) ggX9_holesWithout_X9_refuse
set_option maxRecDepth 20000 in
theorem ggX9_holesWithout_X9_table : GoodIn wsX9_holesWithout wsX9_table := goodIn_r _ [19, 20, 21, 8, 22, 2, 23, 24, 25, 26, 27, 28, 29, 6, 30, 9, 10, 11, 79, 80, 81, 82, 83, 84, 85, 86, 87, 88, 89, 90, 91] (by decide +kernel) (by decide +kernel)
set_option maxRecDepth 20000 in
theorem gX9_holesWithout_X9_table : GoodIn wsX9_holesWithout (wsV RX9 36 RX9 yX9_table wsX9_table) := goodIn_app (goodIn_of _ (by decide +kernel)) ggX9_holesWithout_X9_table
set_option maxRecDepth 20000 in
theorem ggX9_holesWithout_X9_holesNow : GoodIn wsX9_holesWithout wsX9_holesNow := goodIn_r _ [34, 21, 35, 36, 37, 38, 39, 6, 40, 20, 41, 42, 43, 44, 45, 46, 47, 48, 49, 50, 51, 52, 53, 2, 54, 55, 56, 57, 58, 59, 60, 61, 62, 63, 64, 65, 66, 25, 67, 68, 69, 70, 71, 72, 73, 74, 75, 76, 77, 78, 79, 80, 81, 82, 83, 84, 85, 86, 87, 88, 89, 90, 91] (by decide +kernel) (by decide +kernel)
set_option maxRecDepth 20000 in
theorem gX9_holesWithout_X9_holesNow : GoodIn wsX9_holesWithout (wsV RX9 193 RX9 yX9_holesNow wsX9_holesNow) := goodIn_app (goodIn_of _ (by decide +kernel)) ggX9_holesWithout_X9_holesNow
theorem dX9_holesWithout_0 : decode cX9_holesWithout 0 = .ok (.aload_n 0, 1) := by decide +kernel
theorem dX9_holesWithout_1 : decode cX9_holesWithout 1 = .ok (.iconst 0, 1) := by decide +kernel
theorem dX9_holesWithout_2 : decode cX9_holesWithout 2 = .ok (.putfield 39, 3) := by decide +kernel
theorem dX9_holesWithout_5 : decode cX9_holesWithout 5 = .ok (.aload_n 0, 1) := by decide +kernel
theorem dX9_holesWithout_6 : decode cX9_holesWithout 6 = .ok (.iload_n 1, 1) := by decide +kernel
theorem dX9_holesWithout_7 : decode cX9_holesWithout 7 = .ok (.invokevirtual 112, 3) := by decide +kernel
theorem dX9_holesWithout_10 : decode cX9_holesWithout 10 = .ok (.ifCond .ne 9, 3) := by decide +kernel
theorem dX9_holesWithout_13 : decode cX9_holesWithout 13 = .ok (.aload_n 0, 1) := by decide +kernel
theorem dX9_holesWithout_14 : decode cX9_holesWithout 14 = .ok (.iconst 1, 1) := by decide +kernel
theorem dX9_holesWithout_15 : decode cX9_holesWithout 15 = .ok (.invokevirtual 94, 3) := by decide +kernel
theorem dX9_holesWithout_18 : decode cX9_holesWithout 18 = .ok (.ireturn, 1) := by decide +kernel
theorem dX9_holesWithout_19 : decode cX9_holesWithout 19 = .ok (.aload_n 0, 1) := by decide +kernel
theorem dX9_holesWithout_20 : decode cX9_holesWithout 20 = .ok (.getfield 20, 3) := by decide +kernel
theorem dX9_holesWithout_23 : decode cX9_holesWithout 23 = .ok (.iload_n 1, 1) := by decide +kernel
theorem dX9_holesWithout_24 : decode cX9_holesWithout 24 = .ok (.aaload, 1) := by decide +kernel
theorem dX9_holesWithout_25 : decode cX9_holesWithout 25 = .ok (.astore_n 2, 1) := by decide +kernel
theorem dX9_holesWithout_26 : decode cX9_holesWithout 26 = .ok (.aload_n 0, 1) := by decide +kernel
theorem dX9_holesWithout_27 : decode cX9_holesWithout 27 = .ok (.getfield 20, 3) := by decide +kernel
theorem dX9_holesWithout_30 : decode cX9_holesWithout 30 = .ok (.iload_n 1, 1) := by decide +kernel
theorem dX9_holesWithout_31 : decode cX9_holesWithout 31 = .ok (.aconst_null, 1) := by decide +kernel
theorem dX9_holesWithout_32 : decode cX9_holesWithout 32 = .ok (.aastore, 1) := by decide +kernel
theorem dX9_holesWithout_33 : decode cX9_holesWithout 33 = .ok (.aload_n 0, 1) := by decide +kernel
theorem dX9_holesWithout_34 : decode cX9_holesWithout 34 = .ok (.invokevirtual 36, 3) := by decide +kernel
theorem dX9_holesWithout_37 : decode cX9_holesWithout 37 = .ok (.aload_n 0, 1) := by decide +kernel
theorem dX9_holesWithout_38 : decode cX9_holesWithout 38 = .ok (.invokevirtual 193, 3) := by decide +kernel
theorem dX9_holesWithout_41 : decode cX9_holesWithout 41 = .ok (.istore_n 3, 1) := by decide +kernel
theorem dX9_holesWithout_42 : decode cX9_holesWithout 42 = .ok (.aload_n 0, 1) := by decide +kernel
theorem dX9_holesWithout_43 : decode cX9_holesWithout 43 = .ok (.getfield 20, 3) := by decide +kernel
theorem dX9_holesWithout_46 : decode cX9_holesWithout 46 = .ok (.iload_n 1, 1) := by decide +kernel
theorem dX9_holesWithout_47 : decode cX9_holesWithout 47 = .ok (.aload_n 2, 1) := by decide +kernel
theorem dX9_holesWithout_48 : decode cX9_holesWithout 48 = .ok (.aastore, 1) := by decide +kernel
theorem dX9_holesWithout_49 : decode cX9_holesWithout 49 = .ok (.aload_n 0, 1) := by decide +kernel
theorem dX9_holesWithout_50 : decode cX9_holesWithout 50 = .ok (.invokevirtual 36, 3) := by decide +kernel
theorem dX9_holesWithout_53 : decode cX9_holesWithout 53 = .ok (.iload_n 3, 1) := by decide +kernel
theorem dX9_holesWithout_54 : decode cX9_holesWithout 54 = .ok (.ireturn, 1) := by decide +kernel
theorem dX9_add_0 : decode cX9_add 0 = .ok (.aload_n 0, 1) := by decide +kernel
theorem dX9_add_1 : decode cX9_add 1 = .ok (.aload_n 0, 1) := by decide +kernel
theorem dX9_add_2 : decode cX9_add 2 = .ok (.getfield 222, 3) := by decide +kernel
theorem dX9_add_5 : decode cX9_add 5 = .ok (.ldc2_w 226, 3) := by decide +kernel
theorem dX9_add_8 : decode cX9_add 8 = .ok (.lmul, 1) := by decide +kernel
theorem dX9_add_9 : decode cX9_add 9 = .ok (.lload_n 1, 1) := by decide +kernel
theorem dX9_add_10 : decode cX9_add 10 = .ok (.ladd, 1) := by decide +kernel
theorem dX9_add_11 : decode cX9_add 11 = .ok (.putfield 222, 3) := by decide +kernel
theorem dX9_add_14 : decode cX9_add 14 = .ok (.return_, 1) := by decide +kernel
set_option maxRecDepth 20000 in
theorem ggX9_digest_X9_pointsNow : GoodIn wsX9_digest wsX9_pointsNow := goodIn_r _ [13, 4, 5, 176, 177, 178, 179, 180, 181, 182, 183, 184, 185, 186, 187, 188] (by decide +kernel) (by decide +kernel)
set_option maxRecDepth 20000 in
theorem gX9_digest_X9_pointsNow : GoodIn wsX9_digest (wsV RX9 123 RX9 yX9_pointsNow wsX9_pointsNow) := goodIn_app (goodIn_of _ (by decide +kernel)) ggX9_digest_X9_pointsNow
set_option maxRecDepth 20000 in
theorem ggX9_digest_X9_add : GoodIn wsX9_digest wsX9_add := goodIn_r _ [17, 3, 18, 176, 177, 178, 179, 180, 181, 182, 183, 184, 185, 186, 187, 188] (by decide +kernel) (by decide +kernel)
set_option maxRecDepth 20000 in
theorem gX9_digest_X9_add : GoodIn wsX9_digest (wsV RX9 230 RX9 yX9_add wsX9_add) := goodIn_app (goodIn_of _ (by decide +kernel)) ggX9_digest_X9_add
set_option maxRecDepth 20000 in
theorem ggX9_digest_X9_edgesNow : GoodIn wsX9_digest wsX9_edgesNow := goodIn_r _ [22, 4, 23, 24, 25, 12, 26, 27, 176, 177, 178, 179, 180, 181, 182, 183, 184, 185, 186, 187, 188] (by decide +kernel) (by decide +kernel)
set_option maxRecDepth 20000 in
theorem gX9_digest_X9_edgesNow : GoodIn wsX9_digest (wsV RX9 180 RX9 yX9_edgesNow wsX9_edgesNow) := goodIn_app (goodIn_of _ (by decide +kernel)) ggX9_digest_X9_edgesNow
set_option maxRecDepth 20000 in
theorem ggX9_digest_X9_facesNow : GoodIn wsX9_digest wsX9_facesNow := goodIn_r _ [31, 7, 8, 176, 177, 178, 179, 180, 181, 182, 183, 184, 185, 186, 187, 188] (by decide +kernel) (by decide +kernel)
set_option maxRecDepth 20000 in
theorem gX9_digest_X9_facesNow : GoodIn wsX9_digest (wsV RX9 115 RX9 yX9_facesNow wsX9_facesNow) := goodIn_app (goodIn_of _ (by decide +kernel)) ggX9_digest_X9_facesNow
set_option maxRecDepth 20000 in
theorem ggX9_digest_X9_holesNow : GoodIn wsX9_digest wsX9_holesNow := goodIn_r _ [35, 4, 36, 37, 38, 39, 40, 12, 41, 27, 42, 43, 44, 45, 46, 47, 48, 49, 50, 51, 52, 53, 54, 8, 55, 56, 57, 58, 59, 60, 61, 62, 63, 64, 65, 66, 67, 68, 69, 70, 71, 72, 73, 74, 75, 76, 77, 78, 79, 80, 176, 177, 178, 179, 180, 181, 182, 183, 184, 185, 186, 187, 188] (by decide +kernel) (by decide +kernel)
set_option maxRecDepth 20000 in
theorem gX9_digest_X9_holesNow : GoodIn wsX9_digest (wsV RX9 193 RX9 yX9_holesNow wsX9_holesNow) := goodIn_app (goodIn_of _ (by decide +kernel)) ggX9_digest_X9_holesNow
set_option maxRecDepth 20000 in
theorem ggX9_digest_X9_groups : GoodIn wsX9_digest wsX9_groups := goodIn_r _ [84, 7, 46, 8, 85, 86, 87, 12, 88, 55, 56, 57, 58, 89, 90, 91, 92, 27, 176, 177, 178, 179, 180, 181, 182, 183, 184, 185, 186, 187, 188] (by decide +kernel) (by decide +kernel)
set_option maxRecDepth 20000 in
theorem gX9_digest_X9_groups : GoodIn wsX9_digest (wsV RX9 200 RX9 yX9_groups wsX9_groups) := goodIn_app (goodIn_of _ (by decide +kernel)) ggX9_digest_X9_groups
set_option maxRecDepth 20000 in
theorem ggX9_digest_X9_volumeNow : GoodIn wsX9_digest wsX9_volumeNow := goodIn_r _ [96, 7, 8, 6, 176, 177, 178, 179, 180, 181, 182, 183, 184, 185, 186, 187, 188] (by decide +kernel) (by decide +kernel)
set_option maxRecDepth 20000 in
theorem gX9_digest_X9_volumeNow : GoodIn wsX9_digest (wsV RX9 212 RX9 yX9_volumeNow wsX9_volumeNow) := goodIn_app (goodIn_of _ (by decide +kernel)) ggX9_digest_X9_volumeNow
set_option maxRecDepth 20000 in
theorem ggX9_digest_X9_aroundNow : GoodIn wsX9_digest wsX9_aroundNow := goodIn_r _ [100, 4, 7, 8, 23, 24, 25, 12, 26, 27, 38, 39, 40, 41, 85, 86, 87, 88, 55, 56, 57, 58, 81, 82, 83, 84, 46, 89, 90, 91, 92, 176, 177, 178, 179, 180, 181, 182, 183, 184, 185, 186, 187, 188] (by decide +kernel) (by decide +kernel)
set_option maxRecDepth 20000 in
theorem gX9_digest_X9_aroundNow : GoodIn wsX9_digest (wsV RX9 206 RX9 yX9_aroundNow wsX9_aroundNow) := goodIn_app (goodIn_of _ (by decide +kernel)) ggX9_digest_X9_aroundNow
set_option maxRecDepth 20000 in
theorem ggX9_digest_X9_normalNow : GoodIn wsX9_digest wsX9_normalNow := goodIn_r _ [104, 8, 6, 176, 177, 178, 179, 180, 181, 182, 183, 184, 185, 186, 187, 188] (by decide +kernel) (by decide +kernel)
set_option maxRecDepth 20000 in
theorem gX9_digest_X9_normalNow : GoodIn wsX9_digest (wsV RX9 209 RX9 yX9_normalNow wsX9_normalNow) := goodIn_app (goodIn_of _ (by decide +kernel)) ggX9_digest_X9_normalNow
set_option maxRecDepth 20000 in
theorem ggX9_digest_X9_mayNow : GoodIn wsX9_digest wsX9_mayNow := goodIn_r _ [108, 4, 23, 24, 25, 12, 26, 27, 109, 110, 111, 112, 113, 114, 115, 116, 7, 8, 117, 71, 72, 73, 74, 118, 5, 119, 120, 121, 122, 123, 62, 63, 64, 65, 124, 125, 126, 85, 86, 87, 88, 55, 56, 57, 58, 127, 128, 129, 46, 66, 67, 68, 69, 70, 75, 76, 77, 78, 79, 80, 28, 29, 30, 31, 130, 131, 132, 133, 134, 135, 136, 137, 138, 139, 140, 141, 142, 143, 144, 145, 146, 147, 148, 149, 150, 151, 152, 153, 154, 155, 156, 157, 158, 159, 160, 51, 52, 53, 54, 161, 162, 163, 164, 165, 166, 167, 168, 169, 170, 171, 172, 173, 174, 175, 176, 177, 178, 179, 180, 181, 182, 183, 184, 185, 186, 187, 188] (by decide +kernel) (by decide +kernel)
set_option maxRecDepth 20000 in
theorem gX9_digest_X9_mayNow : GoodIn wsX9_digest (wsV RX9 219 RX9 yX9_mayNow wsX9_mayNow) := goodIn_app (goodIn_of _ (by decide +kernel)) ggX9_digest_X9_mayNow
theorem dX9_digest_0 : decode cX9_digest 0 = .ok (.aload_n 0, 1) := by decide +kernel
theorem dX9_digest_1 : decode cX9_digest 1 = .ok (.iconst 0, 1) := by decide +kernel
theorem dX9_digest_2 : decode cX9_digest 2 = .ok (.putfield 39, 3) := by decide +kernel
theorem dX9_digest_5 : decode cX9_digest 5 = .ok (.aload_n 0, 1) := by decide +kernel
theorem dX9_digest_6 : decode cX9_digest 6 = .ok (.ldc2_w 228, 3) := by decide +kernel
theorem dX9_digest_9 : decode cX9_digest 9 = .ok (.putfield 222, 3) := by decide +kernel
theorem dX9_digest_12 : decode cX9_digest 12 = .ok (.aload_n 0, 1) := by decide +kernel
theorem dX9_digest_13 : decode cX9_digest 13 = .ok (.aload_n 0, 1) := by decide +kernel
theorem dX9_digest_14 : decode cX9_digest 14 = .ok (.invokevirtual 123, 3) := by decide +kernel
theorem dX9_digest_17 : decode cX9_digest 17 = .ok (.i2l, 1) := by decide +kernel
theorem dX9_digest_18 : decode cX9_digest 18 = .ok (.invokevirtual 230, 3) := by decide +kernel
theorem dX9_digest_21 : decode cX9_digest 21 = .ok (.aload_n 0, 1) := by decide +kernel
theorem dX9_digest_22 : decode cX9_digest 22 = .ok (.aload_n 0, 1) := by decide +kernel
theorem dX9_digest_23 : decode cX9_digest 23 = .ok (.invokevirtual 180, 3) := by decide +kernel
theorem dX9_digest_26 : decode cX9_digest 26 = .ok (.i2l, 1) := by decide +kernel
theorem dX9_digest_27 : decode cX9_digest 27 = .ok (.invokevirtual 230, 3) := by decide +kernel
theorem dX9_digest_30 : decode cX9_digest 30 = .ok (.aload_n 0, 1) := by decide +kernel
theorem dX9_digest_31 : decode cX9_digest 31 = .ok (.aload_n 0, 1) := by decide +kernel
theorem dX9_digest_32 : decode cX9_digest 32 = .ok (.invokevirtual 115, 3) := by decide +kernel
theorem dX9_digest_35 : decode cX9_digest 35 = .ok (.i2l, 1) := by decide +kernel
theorem dX9_digest_36 : decode cX9_digest 36 = .ok (.invokevirtual 230, 3) := by decide +kernel
theorem dX9_digest_39 : decode cX9_digest 39 = .ok (.aload_n 0, 1) := by decide +kernel
theorem dX9_digest_40 : decode cX9_digest 40 = .ok (.aload_n 0, 1) := by decide +kernel
theorem dX9_digest_41 : decode cX9_digest 41 = .ok (.invokevirtual 193, 3) := by decide +kernel
theorem dX9_digest_44 : decode cX9_digest 44 = .ok (.i2l, 1) := by decide +kernel
theorem dX9_digest_45 : decode cX9_digest 45 = .ok (.invokevirtual 230, 3) := by decide +kernel
theorem dX9_digest_48 : decode cX9_digest 48 = .ok (.aload_n 0, 1) := by decide +kernel
theorem dX9_digest_49 : decode cX9_digest 49 = .ok (.aload_n 0, 1) := by decide +kernel
theorem dX9_digest_50 : decode cX9_digest 50 = .ok (.iconst (-1), 1) := by decide +kernel
theorem dX9_digest_51 : decode cX9_digest 51 = .ok (.invokevirtual 200, 3) := by decide +kernel
theorem dX9_digest_54 : decode cX9_digest 54 = .ok (.i2l, 1) := by decide +kernel
theorem dX9_digest_55 : decode cX9_digest 55 = .ok (.invokevirtual 230, 3) := by decide +kernel
theorem dX9_digest_58 : decode cX9_digest 58 = .ok (.aload_n 0, 1) := by decide +kernel
theorem dX9_digest_59 : decode cX9_digest 59 = .ok (.aload_n 0, 1) := by decide +kernel
theorem dX9_digest_60 : decode cX9_digest 60 = .ok (.invokevirtual 212, 3) := by decide +kernel
theorem dX9_digest_63 : decode cX9_digest 63 = .ok (.invokevirtual 230, 3) := by decide +kernel
theorem dX9_digest_66 : decode cX9_digest 66 = .ok (.iconst 0, 1) := by decide +kernel
theorem dX9_digest_67 : decode cX9_digest 67 = .ok (.istore_n 1, 1) := by decide +kernel
theorem dX9_digest_68 : decode cX9_digest 68 = .ok (.iload_n 1, 1) := by decide +kernel
theorem dX9_digest_69 : decode cX9_digest 69 = .ok (.aload_n 0, 1) := by decide +kernel
theorem dX9_digest_70 : decode cX9_digest 70 = .ok (.getfield 47, 3) := by decide +kernel
theorem dX9_digest_73 : decode cX9_digest 73 = .ok (.if_icmp .ge 77, 3) := by decide +kernel
theorem dX9_digest_76 : decode cX9_digest 76 = .ok (.aload_n 0, 1) := by decide +kernel
theorem dX9_digest_77 : decode cX9_digest 77 = .ok (.getfield 14, 3) := by decide +kernel
theorem dX9_digest_80 : decode cX9_digest 80 = .ok (.iload_n 1, 1) := by decide +kernel
theorem dX9_digest_81 : decode cX9_digest 81 = .ok (.baload, 1) := by decide +kernel
theorem dX9_digest_82 : decode cX9_digest 82 = .ok (.ifCond .ne 6, 3) := by decide +kernel
theorem dX9_digest_85 : decode cX9_digest 85 = .ok (.goto 59, 3) := by decide +kernel
theorem dX9_digest_88 : decode cX9_digest 88 = .ok (.aload_n 0, 1) := by decide +kernel
theorem dX9_digest_89 : decode cX9_digest 89 = .ok (.iload_n 1, 1) := by decide +kernel
theorem dX9_digest_90 : decode cX9_digest 90 = .ok (.i2l, 1) := by decide +kernel
theorem dX9_digest_91 : decode cX9_digest 91 = .ok (.invokevirtual 230, 3) := by decide +kernel
theorem dX9_digest_94 : decode cX9_digest 94 = .ok (.iconst 0, 1) := by decide +kernel
theorem dX9_digest_95 : decode cX9_digest 95 = .ok (.istore_n 2, 1) := by decide +kernel
theorem dX9_digest_96 : decode cX9_digest 96 = .ok (.iload_n 2, 1) := by decide +kernel
theorem dX9_digest_97 : decode cX9_digest 97 = .ok (.iconst 3, 1) := by decide +kernel
theorem dX9_digest_98 : decode cX9_digest 98 = .ok (.if_icmp .ge 22, 3) := by decide +kernel
theorem dX9_digest_101 : decode cX9_digest 101 = .ok (.aload_n 0, 1) := by decide +kernel
theorem dX9_digest_102 : decode cX9_digest 102 = .ok (.aload_n 0, 1) := by decide +kernel
theorem dX9_digest_103 : decode cX9_digest 103 = .ok (.getfield 11, 3) := by decide +kernel
theorem dX9_digest_106 : decode cX9_digest 106 = .ok (.iload_n 1, 1) := by decide +kernel
theorem dX9_digest_107 : decode cX9_digest 107 = .ok (.aaload, 1) := by decide +kernel
theorem dX9_digest_108 : decode cX9_digest 108 = .ok (.iload_n 2, 1) := by decide +kernel
theorem dX9_digest_109 : decode cX9_digest 109 = .ok (.iaload, 1) := by decide +kernel
theorem dX9_digest_110 : decode cX9_digest 110 = .ok (.i2l, 1) := by decide +kernel
theorem dX9_digest_111 : decode cX9_digest 111 = .ok (.invokevirtual 230, 3) := by decide +kernel
theorem dX9_digest_114 : decode cX9_digest 114 = .ok (.iinc 2 1, 3) := by decide +kernel
theorem dX9_digest_117 : decode cX9_digest 117 = .ok (.goto (-21), 3) := by decide +kernel
theorem dX9_digest_120 : decode cX9_digest 120 = .ok (.iconst 0, 1) := by decide +kernel
theorem dX9_digest_121 : decode cX9_digest 121 = .ok (.istore_n 2, 1) := by decide +kernel
theorem dX9_digest_122 : decode cX9_digest 122 = .ok (.iload_n 2, 1) := by decide +kernel
theorem dX9_digest_123 : decode cX9_digest 123 = .ok (.iconst 4, 1) := by decide +kernel
theorem dX9_digest_124 : decode cX9_digest 124 = .ok (.if_icmp .ge 20, 3) := by decide +kernel
theorem dX9_digest_127 : decode cX9_digest 127 = .ok (.aload_n 0, 1) := by decide +kernel
theorem dX9_digest_128 : decode cX9_digest 128 = .ok (.aload_n 0, 1) := by decide +kernel
theorem dX9_digest_129 : decode cX9_digest 129 = .ok (.iload_n 1, 1) := by decide +kernel
theorem dX9_digest_130 : decode cX9_digest 130 = .ok (.iload_n 2, 1) := by decide +kernel
theorem dX9_digest_131 : decode cX9_digest 131 = .ok (.invokevirtual 206, 3) := by decide +kernel
theorem dX9_digest_134 : decode cX9_digest 134 = .ok (.i2l, 1) := by decide +kernel
theorem dX9_digest_135 : decode cX9_digest 135 = .ok (.invokevirtual 230, 3) := by decide +kernel
theorem dX9_digest_138 : decode cX9_digest 138 = .ok (.iinc 2 1, 3) := by decide +kernel
theorem dX9_digest_141 : decode cX9_digest 141 = .ok (.goto (-19), 3) := by decide +kernel
theorem dX9_digest_144 : decode cX9_digest 144 = .ok (.iinc 1 1, 3) := by decide +kernel
theorem dX9_digest_147 : decode cX9_digest 147 = .ok (.goto (-79), 3) := by decide +kernel
theorem dX9_digest_150 : decode cX9_digest 150 = .ok (.iconst 0, 1) := by decide +kernel
theorem dX9_digest_151 : decode cX9_digest 151 = .ok (.istore_n 1, 1) := by decide +kernel
theorem dX9_digest_152 : decode cX9_digest 152 = .ok (.iload_n 1, 1) := by decide +kernel
theorem dX9_digest_153 : decode cX9_digest 153 = .ok (.aload_n 0, 1) := by decide +kernel
theorem dX9_digest_154 : decode cX9_digest 154 = .ok (.getfield 50, 3) := by decide +kernel
theorem dX9_digest_157 : decode cX9_digest 157 = .ok (.if_icmp .ge 101, 3) := by decide +kernel
theorem dX9_digest_160 : decode cX9_digest 160 = .ok (.aload_n 0, 1) := by decide +kernel
theorem dX9_digest_161 : decode cX9_digest 161 = .ok (.getfield 20, 3) := by decide +kernel
theorem dX9_digest_164 : decode cX9_digest 164 = .ok (.iload_n 1, 1) := by decide +kernel
theorem dX9_digest_165 : decode cX9_digest 165 = .ok (.aaload, 1) := by decide +kernel
theorem dX9_digest_166 : decode cX9_digest 166 = .ok (.ifnonnull 6, 3) := by decide +kernel
theorem dX9_digest_169 : decode cX9_digest 169 = .ok (.goto 83, 3) := by decide +kernel
theorem dX9_digest_172 : decode cX9_digest 172 = .ok (.aload_n 0, 1) := by decide +kernel
theorem dX9_digest_173 : decode cX9_digest 173 = .ok (.iload_n 1, 1) := by decide +kernel
theorem dX9_digest_174 : decode cX9_digest 174 = .ok (.i2l, 1) := by decide +kernel
theorem dX9_digest_175 : decode cX9_digest 175 = .ok (.invokevirtual 230, 3) := by decide +kernel
theorem dX9_digest_178 : decode cX9_digest 178 = .ok (.aload_n 0, 1) := by decide +kernel
theorem dX9_digest_179 : decode cX9_digest 179 = .ok (.aload_n 0, 1) := by decide +kernel
theorem dX9_digest_180 : decode cX9_digest 180 = .ok (.getfield 20, 3) := by decide +kernel
theorem dX9_digest_183 : decode cX9_digest 183 = .ok (.iload_n 1, 1) := by decide +kernel
theorem dX9_digest_184 : decode cX9_digest 184 = .ok (.aaload, 1) := by decide +kernel
theorem dX9_digest_185 : decode cX9_digest 185 = .ok (.arraylength, 1) := by decide +kernel
theorem dX9_digest_186 : decode cX9_digest 186 = .ok (.i2l, 1) := by decide +kernel
theorem dX9_digest_187 : decode cX9_digest 187 = .ok (.invokevirtual 230, 3) := by decide +kernel
theorem dX9_digest_190 : decode cX9_digest 190 = .ok (.aload_n 0, 1) := by decide +kernel
theorem dX9_digest_191 : decode cX9_digest 191 = .ok (.getfield 20, 3) := by decide +kernel
theorem dX9_digest_194 : decode cX9_digest 194 = .ok (.iload_n 1, 1) := by decide +kernel
theorem dX9_digest_195 : decode cX9_digest 195 = .ok (.aaload, 1) := by decide +kernel
theorem dX9_digest_196 : decode cX9_digest 196 = .ok (.astore_n 2, 1) := by decide +kernel
theorem dX9_digest_197 : decode cX9_digest 197 = .ok (.aload_n 2, 1) := by decide +kernel
theorem dX9_digest_198 : decode cX9_digest 198 = .ok (.arraylength, 1) := by decide +kernel
theorem dX9_digest_199 : decode cX9_digest 199 = .ok (.istore_n 3, 1) := by decide +kernel
theorem dX9_digest_200 : decode cX9_digest 200 = .ok (.iconst 0, 1) := by decide +kernel
theorem dX9_digest_201 : decode cX9_digest 201 = .ok (.istore 4, 2) := by decide +kernel
theorem dX9_digest_203 : decode cX9_digest 203 = .ok (.iload 4, 2) := by decide +kernel
theorem dX9_digest_205 : decode cX9_digest 205 = .ok (.iload_n 3, 1) := by decide +kernel
theorem dX9_digest_206 : decode cX9_digest 206 = .ok (.if_icmp .ge 22, 3) := by decide +kernel
theorem dX9_digest_209 : decode cX9_digest 209 = .ok (.aload_n 2, 1) := by decide +kernel
theorem dX9_digest_210 : decode cX9_digest 210 = .ok (.iload 4, 2) := by decide +kernel
theorem dX9_digest_212 : decode cX9_digest 212 = .ok (.iaload, 1) := by decide +kernel
theorem dX9_digest_213 : decode cX9_digest 213 = .ok (.istore 5, 2) := by decide +kernel
theorem dX9_digest_215 : decode cX9_digest 215 = .ok (.aload_n 0, 1) := by decide +kernel
theorem dX9_digest_216 : decode cX9_digest 216 = .ok (.iload 5, 2) := by decide +kernel
theorem dX9_digest_218 : decode cX9_digest 218 = .ok (.i2l, 1) := by decide +kernel
theorem dX9_digest_219 : decode cX9_digest 219 = .ok (.invokevirtual 230, 3) := by decide +kernel
theorem dX9_digest_222 : decode cX9_digest 222 = .ok (.iinc 4 1, 3) := by decide +kernel
theorem dX9_digest_225 : decode cX9_digest 225 = .ok (.goto (-22), 3) := by decide +kernel
theorem dX9_digest_228 : decode cX9_digest 228 = .ok (.iconst 0, 1) := by decide +kernel
theorem dX9_digest_229 : decode cX9_digest 229 = .ok (.istore_n 2, 1) := by decide +kernel
theorem dX9_digest_230 : decode cX9_digest 230 = .ok (.iload_n 2, 1) := by decide +kernel
theorem dX9_digest_231 : decode cX9_digest 231 = .ok (.iconst 3, 1) := by decide +kernel
theorem dX9_digest_232 : decode cX9_digest 232 = .ok (.if_icmp .ge 20, 3) := by decide +kernel
theorem dX9_digest_235 : decode cX9_digest 235 = .ok (.aload_n 0, 1) := by decide +kernel
theorem dX9_digest_236 : decode cX9_digest 236 = .ok (.aload_n 0, 1) := by decide +kernel
theorem dX9_digest_237 : decode cX9_digest 237 = .ok (.iload_n 1, 1) := by decide +kernel
theorem dX9_digest_238 : decode cX9_digest 238 = .ok (.iload_n 2, 1) := by decide +kernel
theorem dX9_digest_239 : decode cX9_digest 239 = .ok (.invokevirtual 209, 3) := by decide +kernel
theorem dX9_digest_242 : decode cX9_digest 242 = .ok (.i2l, 1) := by decide +kernel
theorem dX9_digest_243 : decode cX9_digest 243 = .ok (.invokevirtual 230, 3) := by decide +kernel
theorem dX9_digest_246 : decode cX9_digest 246 = .ok (.iinc 2 1, 3) := by decide +kernel
theorem dX9_digest_249 : decode cX9_digest 249 = .ok (.goto (-19), 3) := by decide +kernel
theorem dX9_digest_252 : decode cX9_digest 252 = .ok (.iinc 1 1, 3) := by decide +kernel
theorem dX9_digest_255 : decode cX9_digest 255 = .ok (.goto (-103), 3) := by decide +kernel
theorem dX9_digest_258 : decode cX9_digest 258 = .ok (.aload_n 0, 1) := by decide +kernel
theorem dX9_digest_259 : decode cX9_digest 259 = .ok (.aload_n 0, 1) := by decide +kernel
theorem dX9_digest_260 : decode cX9_digest 260 = .ok (.iconst 1, 1) := by decide +kernel
theorem dX9_digest_261 : decode cX9_digest 261 = .ok (.invokevirtual 219, 3) := by decide +kernel
theorem dX9_digest_264 : decode cX9_digest 264 = .ok (.i2l, 1) := by decide +kernel
theorem dX9_digest_265 : decode cX9_digest 265 = .ok (.invokevirtual 230, 3) := by decide +kernel
theorem dX9_digest_268 : decode cX9_digest 268 = .ok (.aload_n 0, 1) := by decide +kernel
theorem dX9_digest_269 : decode cX9_digest 269 = .ok (.aload_n 0, 1) := by decide +kernel
theorem dX9_digest_270 : decode cX9_digest 270 = .ok (.iconst 2, 1) := by decide +kernel
theorem dX9_digest_271 : decode cX9_digest 271 = .ok (.invokevirtual 219, 3) := by decide +kernel
theorem dX9_digest_274 : decode cX9_digest 274 = .ok (.i2l, 1) := by decide +kernel
theorem dX9_digest_275 : decode cX9_digest 275 = .ok (.invokevirtual 230, 3) := by decide +kernel
theorem dX9_digest_278 : decode cX9_digest 278 = .ok (.aload_n 0, 1) := by decide +kernel
theorem dX9_digest_279 : decode cX9_digest 279 = .ok (.getfield 222, 3) := by decide +kernel
theorem dX9_digest_282 : decode cX9_digest 282 = .ok (.lreturn, 1) := by decide +kernel
theorem dJ7_fill_53178_0 : decode cJ7_fill_53178 0 = .ok (.iconst 0, 1) := by decide +kernel
theorem dJ7_fill_53178_1 : decode cJ7_fill_53178 1 = .ok (.istore_n 2, 1) := by decide +kernel
theorem dJ7_fill_53178_2 : decode cJ7_fill_53178 2 = .ok (.aload_n 0, 1) := by decide +kernel
theorem dJ7_fill_53178_3 : decode cJ7_fill_53178 3 = .ok (.arraylength, 1) := by decide +kernel
theorem dJ7_fill_53178_4 : decode cJ7_fill_53178 4 = .ok (.istore_n 3, 1) := by decide +kernel
theorem dJ7_fill_53178_5 : decode cJ7_fill_53178 5 = .ok (.iload_n 2, 1) := by decide +kernel
theorem dJ7_fill_53178_6 : decode cJ7_fill_53178 6 = .ok (.iload_n 3, 1) := by decide +kernel
theorem dJ7_fill_53178_7 : decode cJ7_fill_53178 7 = .ok (.if_icmp .ge 13, 3) := by decide +kernel
theorem dJ7_fill_53178_10 : decode cJ7_fill_53178 10 = .ok (.aload_n 0, 1) := by decide +kernel
theorem dJ7_fill_53178_11 : decode cJ7_fill_53178 11 = .ok (.iload_n 2, 1) := by decide +kernel
theorem dJ7_fill_53178_12 : decode cJ7_fill_53178 12 = .ok (.iload_n 1, 1) := by decide +kernel
theorem dJ7_fill_53178_13 : decode cJ7_fill_53178 13 = .ok (.iastore, 1) := by decide +kernel
theorem dJ7_fill_53178_14 : decode cJ7_fill_53178 14 = .ok (.iinc 2 1, 3) := by decide +kernel
theorem dJ7_fill_53178_17 : decode cJ7_fill_53178 17 = .ok (.goto (-12), 3) := by decide +kernel
theorem dJ7_fill_53178_20 : decode cJ7_fill_53178 20 = .ok (.return_, 1) := by decide +kernel
