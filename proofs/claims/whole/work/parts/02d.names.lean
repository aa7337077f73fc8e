set_option maxRecDepth 20000 in
theorem ggX3_countNearer_X5_distanceOf : GoodIn wsX3_countNearer wsX5_distanceOf := goodIn_r _ [9, 10, 11, 12, 13, 14, 15, 16] (by decide +kernel) (by decide +kernel)
set_option maxRecDepth 20000 in
theorem gX3_countNearer_X5_distanceOf_n29 : GoodIn wsX3_countNearer (wsX5_distanceOf) := ggX3_countNearer_X5_distanceOf
theorem dX3_countNearer_0 : decode cX3_countNearer 0 = .ok (.iconst 0, 1) := by decide +kernel
theorem dX3_countNearer_1 : decode cX3_countNearer 1 = .ok (.istore_n 3, 1) := by decide +kernel
theorem dX3_countNearer_2 : decode cX3_countNearer 2 = .ok (.iconst 0, 1) := by decide +kernel
theorem dX3_countNearer_3 : decode cX3_countNearer 3 = .ok (.istore 4, 2) := by decide +kernel
theorem dX3_countNearer_5 : decode cX3_countNearer 5 = .ok (.iload 4, 2) := by decide +kernel
theorem dX3_countNearer_7 : decode cX3_countNearer 7 = .ok (.iconst 3, 1) := by decide +kernel
theorem dX3_countNearer_8 : decode cX3_countNearer 8 = .ok (.if_icmp .ge 27, 3) := by decide +kernel
theorem dX3_countNearer_11 : decode cX3_countNearer 11 = .ok (.aload_n 0, 1) := by decide +kernel
theorem dX3_countNearer_12 : decode cX3_countNearer 12 = .ok (.iload_n 1, 1) := by decide +kernel
theorem dX3_countNearer_13 : decode cX3_countNearer 13 = .ok (.iload 4, 2) := by decide +kernel
theorem dX3_countNearer_15 : decode cX3_countNearer 15 = .ok (.iadd, 1) := by decide +kernel
theorem dX3_countNearer_16 : decode cX3_countNearer 16 = .ok (.invokevirtual 18, 3) := by decide +kernel
theorem dX3_countNearer_19 : decode cX3_countNearer 19 = .ok (.invokestatic 29, 3) := by decide +kernel
theorem dX3_countNearer_22 : decode cX3_countNearer 22 = .ok (.iload_n 2, 1) := by decide +kernel
theorem dX3_countNearer_23 : decode cX3_countNearer 23 = .ok (.if_icmp .ge 6, 3) := by decide +kernel
theorem dX3_countNearer_26 : decode cX3_countNearer 26 = .ok (.iinc 3 1, 3) := by decide +kernel
theorem dX3_countNearer_29 : decode cX3_countNearer 29 = .ok (.iinc 4 1, 3) := by decide +kernel
theorem dX3_countNearer_32 : decode cX3_countNearer 32 = .ok (.goto (-27), 3) := by decide +kernel
theorem dX3_countNearer_35 : decode cX3_countNearer 35 = .ok (.iload_n 3, 1) := by decide +kernel
theorem dX3_countNearer_36 : decode cX3_countNearer 36 = .ok (.ireturn, 1) := by decide +kernel
set_option maxRecDepth 20000 in
theorem ggX3_scoreOneByOne_X3_placeOf : GoodIn wsX3_scoreOneByOne wsX3_placeOf := goodIn_r _ [5, 6, 21] (by decide +kernel) (by decide +kernel)
set_option maxRecDepth 20000 in
theorem gX3_scoreOneByOne_X3_placeOf : GoodIn wsX3_scoreOneByOne (wsV RX3 18 RX3 yX3_placeOf wsX3_placeOf) := goodIn_app (goodIn_of _ (by decide +kernel)) ggX3_scoreOneByOne_X3_placeOf
set_option maxRecDepth 20000 in
theorem ggX3_scoreOneByOne_X5_distanceOf : GoodIn wsX3_scoreOneByOne wsX5_distanceOf := goodIn_r _ [9, 10, 11, 12, 13, 14, 15, 16] (by decide +kernel) (by decide +kernel)
set_option maxRecDepth 20000 in
theorem gX3_scoreOneByOne_X5_distanceOf_n29 : GoodIn wsX3_scoreOneByOne (wsX5_distanceOf) := ggX3_scoreOneByOne_X5_distanceOf
set_option maxRecDepth 20000 in
theorem ggX3_scoreOneByOne_X3_countNearer : GoodIn wsX3_scoreOneByOne wsX3_countNearer := goodIn_r _ [20, 1, 2, 3, 4, 5, 6, 7, 8, 9, 10, 11, 12, 13, 14, 15, 16, 21] (by decide +kernel) (by decide +kernel)
set_option maxRecDepth 20000 in
theorem gX3_scoreOneByOne_X3_countNearer : GoodIn wsX3_scoreOneByOne (wsV RX3 25 RX3 yX3_countNearer wsX3_countNearer) := goodIn_app (goodIn_of _ (by decide +kernel)) ggX3_scoreOneByOne_X3_countNearer
theorem dX3_scoreOneByOne_0 : decode cX3_scoreOneByOne 0 = .ok (.iconst 0, 1) := by decide +kernel
theorem dX3_scoreOneByOne_1 : decode cX3_scoreOneByOne 1 = .ok (.istore_n 1, 1) := by decide +kernel
theorem dX3_scoreOneByOne_2 : decode cX3_scoreOneByOne 2 = .ok (.iconst 0, 1) := by decide +kernel
theorem dX3_scoreOneByOne_3 : decode cX3_scoreOneByOne 3 = .ok (.istore_n 2, 1) := by decide +kernel
theorem dX3_scoreOneByOne_4 : decode cX3_scoreOneByOne 4 = .ok (.iload_n 2, 1) := by decide +kernel
theorem dX3_scoreOneByOne_5 : decode cX3_scoreOneByOne 5 = .ok (.bipush 6, 2) := by decide +kernel
theorem dX3_scoreOneByOne_7 : decode cX3_scoreOneByOne 7 = .ok (.if_icmp .ge 73, 3) := by decide +kernel
theorem dX3_scoreOneByOne_10 : decode cX3_scoreOneByOne 10 = .ok (.iload_n 2, 1) := by decide +kernel
theorem dX3_scoreOneByOne_11 : decode cX3_scoreOneByOne 11 = .ok (.iconst 3, 1) := by decide +kernel
theorem dX3_scoreOneByOne_12 : decode cX3_scoreOneByOne 12 = .ok (.if_icmp .ge 7, 3) := by decide +kernel
theorem dX3_scoreOneByOne_15 : decode cX3_scoreOneByOne 15 = .ok (.iconst 1, 1) := by decide +kernel
theorem dX3_scoreOneByOne_16 : decode cX3_scoreOneByOne 16 = .ok (.goto 4, 3) := by decide +kernel
theorem dX3_scoreOneByOne_19 : decode cX3_scoreOneByOne 19 = .ok (.iconst 0, 1) := by decide +kernel
theorem dX3_scoreOneByOne_20 : decode cX3_scoreOneByOne 20 = .ok (.istore_n 3, 1) := by decide +kernel
theorem dX3_scoreOneByOne_21 : decode cX3_scoreOneByOne 21 = .ok (.aload_n 0, 1) := by decide +kernel
theorem dX3_scoreOneByOne_22 : decode cX3_scoreOneByOne 22 = .ok (.iload_n 2, 1) := by decide +kernel
theorem dX3_scoreOneByOne_23 : decode cX3_scoreOneByOne 23 = .ok (.invokevirtual 18, 3) := by decide +kernel
theorem dX3_scoreOneByOne_26 : decode cX3_scoreOneByOne 26 = .ok (.invokestatic 29, 3) := by decide +kernel
theorem dX3_scoreOneByOne_29 : decode cX3_scoreOneByOne 29 = .ok (.istore 4, 2) := by decide +kernel
theorem dX3_scoreOneByOne_31 : decode cX3_scoreOneByOne 31 = .ok (.aload_n 0, 1) := by decide +kernel
theorem dX3_scoreOneByOne_32 : decode cX3_scoreOneByOne 32 = .ok (.iload_n 3, 1) := by decide +kernel
theorem dX3_scoreOneByOne_33 : decode cX3_scoreOneByOne 33 = .ok (.ifCond .eq 7, 3) := by decide +kernel
theorem dX3_scoreOneByOne_36 : decode cX3_scoreOneByOne 36 = .ok (.iconst 3, 1) := by decide +kernel
theorem dX3_scoreOneByOne_37 : decode cX3_scoreOneByOne 37 = .ok (.goto 4, 3) := by decide +kernel
theorem dX3_scoreOneByOne_40 : decode cX3_scoreOneByOne 40 = .ok (.iconst 0, 1) := by decide +kernel
theorem dX3_scoreOneByOne_41 : decode cX3_scoreOneByOne 41 = .ok (.iload 4, 2) := by decide +kernel
theorem dX3_scoreOneByOne_43 : decode cX3_scoreOneByOne 43 = .ok (.iconst 1, 1) := by decide +kernel
theorem dX3_scoreOneByOne_44 : decode cX3_scoreOneByOne 44 = .ok (.iadd, 1) := by decide +kernel
theorem dX3_scoreOneByOne_45 : decode cX3_scoreOneByOne 45 = .ok (.invokevirtual 25, 3) := by decide +kernel
theorem dX3_scoreOneByOne_48 : decode cX3_scoreOneByOne 48 = .ok (.istore 5, 2) := by decide +kernel
theorem dX3_scoreOneByOne_50 : decode cX3_scoreOneByOne 50 = .ok (.iload 4, 2) := by decide +kernel
theorem dX3_scoreOneByOne_52 : decode cX3_scoreOneByOne 52 = .ok (.bipush 10, 2) := by decide +kernel
theorem dX3_scoreOneByOne_54 : decode cX3_scoreOneByOne 54 = .ok (.if_icmp .gt 20, 3) := by decide +kernel
theorem dX3_scoreOneByOne_57 : decode cX3_scoreOneByOne 57 = .ok (.iload 5, 2) := by decide +kernel
theorem dX3_scoreOneByOne_59 : decode cX3_scoreOneByOne 59 = .ok (.ifCond .ne 15, 3) := by decide +kernel
theorem dX3_scoreOneByOne_62 : decode cX3_scoreOneByOne 62 = .ok (.iload_n 1, 1) := by decide +kernel
theorem dX3_scoreOneByOne_63 : decode cX3_scoreOneByOne 63 = .ok (.iload_n 3, 1) := by decide +kernel
theorem dX3_scoreOneByOne_64 : decode cX3_scoreOneByOne 64 = .ok (.ifCond .eq 7, 3) := by decide +kernel
theorem dX3_scoreOneByOne_67 : decode cX3_scoreOneByOne 67 = .ok (.iconst 1, 1) := by decide +kernel
theorem dX3_scoreOneByOne_68 : decode cX3_scoreOneByOne 68 = .ok (.goto 4, 3) := by decide +kernel
theorem dX3_scoreOneByOne_71 : decode cX3_scoreOneByOne 71 = .ok (.iconst (-1), 1) := by decide +kernel
theorem dX3_scoreOneByOne_72 : decode cX3_scoreOneByOne 72 = .ok (.iadd, 1) := by decide +kernel
theorem dX3_scoreOneByOne_73 : decode cX3_scoreOneByOne 73 = .ok (.istore_n 1, 1) := by decide +kernel
theorem dX3_scoreOneByOne_74 : decode cX3_scoreOneByOne 74 = .ok (.iinc 2 1, 3) := by decide +kernel
theorem dX3_scoreOneByOne_77 : decode cX3_scoreOneByOne 77 = .ok (.goto (-73), 3) := by decide +kernel
theorem dX3_scoreOneByOne_80 : decode cX3_scoreOneByOne 80 = .ok (.iload_n 1, 1) := by decide +kernel
theorem dX3_scoreOneByOne_81 : decode cX3_scoreOneByOne 81 = .ok (.ireturn, 1) := by decide +kernel
theorem dX4_init_0 : decode cX4_init 0 = .ok (.aload_n 0, 1) := by decide +kernel
theorem dX4_init_1 : decode cX4_init 1 = .ok (.invokespecial 3, 3) := by decide +kernel
theorem dX4_init_4 : decode cX4_init 4 = .ok (.return_, 1) := by decide +kernel
theorem dX4_lastStonesPerGame_0 : decode cX4_lastStonesPerGame 0 = .ok (.aload_n 0, 1) := by decide +kernel
theorem dX4_lastStonesPerGame_1 : decode cX4_lastStonesPerGame 1 = .ok (.getfield 9, 3) := by decide +kernel
theorem dX4_lastStonesPerGame_4 : decode cX4_lastStonesPerGame 4 = .ok (.ifCond .le 15, 3) := by decide +kernel
theorem dX4_lastStonesPerGame_7 : decode cX4_lastStonesPerGame 7 = .ok (.aload_n 0, 1) := by decide +kernel
theorem dX4_lastStonesPerGame_8 : decode cX4_lastStonesPerGame 8 = .ok (.getfield 15, 3) := by decide +kernel
theorem dX4_lastStonesPerGame_11 : decode cX4_lastStonesPerGame 11 = .ok (.aload_n 0, 1) := by decide +kernel
theorem dX4_lastStonesPerGame_12 : decode cX4_lastStonesPerGame 12 = .ok (.getfield 9, 3) := by decide +kernel
theorem dX4_lastStonesPerGame_15 : decode cX4_lastStonesPerGame 15 = .ok (.idiv, 1) := by decide +kernel
theorem dX4_lastStonesPerGame_16 : decode cX4_lastStonesPerGame 16 = .ok (.goto 5, 3) := by decide +kernel
theorem dX4_lastStonesPerGame_19 : decode cX4_lastStonesPerGame 19 = .ok (.bipush 30, 2) := by decide +kernel
theorem dX4_lastStonesPerGame_21 : decode cX4_lastStonesPerGame 21 = .ok (.ireturn, 1) := by decide +kernel
set_option maxRecDepth 20000 in
theorem ggX5_init_X1_init : GoodIn wsX5_init wsX1_init := goodIn_r _ [21, 22, 2, 3, 23, 24, 25, 26, 56, 57, 58] (by decide +kernel) (by decide +kernel)
set_option maxRecDepth 20000 in
theorem gX5_init_X1_init_n15 : GoodIn wsX5_init (wsX1_init) := ggX5_init_X1_init
set_option maxRecDepth 20000 in
theorem ggX5_init_X4_init : GoodIn wsX5_init wsX4_init := goodIn_r _ [28, 29, 2, 3] (by decide +kernel) (by decide +kernel)
set_option maxRecDepth 20000 in
theorem gX5_init_X4_init_n22 : GoodIn wsX5_init (wsX4_init) := ggX5_init_X4_init
set_option maxRecDepth 20000 in
theorem ggX5_init_X2_init : GoodIn wsX5_init wsX2_init := goodIn_r _ [31, 32, 2, 3, 33, 34, 35, 36, 37, 38, 39, 40, 41, 23, 42, 43, 44, 45, 46, 72, 62, 63, 64, 65, 66, 67, 68, 69, 70, 71] (by decide +kernel) (by decide +kernel)
set_option maxRecDepth 20000 in
theorem gX5_init_X2_init_n31 : GoodIn wsX5_init (wsX2_init) := ggX5_init_X2_init
theorem dX5_init_0 : decode cX5_init 0 = .ok (.aload_n 0, 1) := by decide +kernel
theorem dX5_init_1 : decode cX5_init 1 = .ok (.invokespecial 3, 3) := by decide +kernel
theorem dX5_init_4 : decode cX5_init 4 = .ok (.aload_n 0, 1) := by decide +kernel
theorem dX5_init_5 : decode cX5_init 5 = .ok (.iconst 3, 1) := by decide +kernel
theorem dX5_init_6 : decode cX5_init 6 = .ok (.anewarray 9, 3) := by decide +kernel
theorem dX5_init_9 : decode cX5_init 9 = .ok (.putfield 11, 3) := by decide +kernel
theorem dX5_init_12 : decode cX5_init 12 = .ok (.iconst 0, 1) := by decide +kernel
theorem dX5_init_13 : decode cX5_init 13 = .ok (.istore_n 1, 1) := by decide +kernel
theorem dX5_init_14 : decode cX5_init 14 = .ok (.iload_n 1, 1) := by decide +kernel
theorem dX5_init_15 : decode cX5_init 15 = .ok (.aload_n 0, 1) := by decide +kernel
theorem dX5_init_16 : decode cX5_init 16 = .ok (.getfield 11, 3) := by decide +kernel
theorem dX5_init_19 : decode cX5_init 19 = .ok (.arraylength, 1) := by decide +kernel
theorem dX5_init_20 : decode cX5_init 20 = .ok (.if_icmp .ge 22, 3) := by decide +kernel
theorem dX5_init_23 : decode cX5_init 23 = .ok (.aload_n 0, 1) := by decide +kernel
theorem dX5_init_24 : decode cX5_init 24 = .ok (.getfield 11, 3) := by decide +kernel
theorem dX5_init_27 : decode cX5_init 27 = .ok (.iload_n 1, 1) := by decide +kernel
theorem dX5_init_28 : decode cX5_init 28 = .ok (.new 9, 3) := by decide +kernel
theorem dX5_init_31 : decode cX5_init 31 = .ok (.dup, 1) := by decide +kernel
theorem dX5_init_32 : decode cX5_init 32 = .ok (.invokespecial 15, 3) := by decide +kernel
theorem dX5_init_35 : decode cX5_init 35 = .ok (.aastore, 1) := by decide +kernel
theorem dX5_init_36 : decode cX5_init 36 = .ok (.iinc 1 1, 3) := by decide +kernel
theorem dX5_init_39 : decode cX5_init 39 = .ok (.goto (-25), 3) := by decide +kernel
theorem dX5_init_42 : decode cX5_init 42 = .ok (.aload_n 0, 1) := by decide +kernel
theorem dX5_init_43 : decode cX5_init 43 = .ok (.bipush 6, 2) := by decide +kernel
theorem dX5_init_45 : decode cX5_init 45 = .ok (.anewarray 16, 3) := by decide +kernel
theorem dX5_init_48 : decode cX5_init 48 = .ok (.putfield 18, 3) := by decide +kernel
theorem dX5_init_51 : decode cX5_init 51 = .ok (.iconst 0, 1) := by decide +kernel
theorem dX5_init_52 : decode cX5_init 52 = .ok (.istore_n 1, 1) := by decide +kernel
theorem dX5_init_53 : decode cX5_init 53 = .ok (.iload_n 1, 1) := by decide +kernel
theorem dX5_init_54 : decode cX5_init 54 = .ok (.aload_n 0, 1) := by decide +kernel
theorem dX5_init_55 : decode cX5_init 55 = .ok (.getfield 18, 3) := by decide +kernel
theorem dX5_init_58 : decode cX5_init 58 = .ok (.arraylength, 1) := by decide +kernel
theorem dX5_init_59 : decode cX5_init 59 = .ok (.if_icmp .ge 22, 3) := by decide +kernel
theorem dX5_init_62 : decode cX5_init 62 = .ok (.aload_n 0, 1) := by decide +kernel
theorem dX5_init_63 : decode cX5_init 63 = .ok (.getfield 18, 3) := by decide +kernel
theorem dX5_init_66 : decode cX5_init 66 = .ok (.iload_n 1, 1) := by decide +kernel
theorem dX5_init_67 : decode cX5_init 67 = .ok (.new 16, 3) := by decide +kernel
theorem dX5_init_70 : decode cX5_init 70 = .ok (.dup, 1) := by decide +kernel
theorem dX5_init_71 : decode cX5_init 71 = .ok (.invokespecial 22, 3) := by decide +kernel
theorem dX5_init_74 : decode cX5_init 74 = .ok (.aastore, 1) := by decide +kernel
theorem dX5_init_75 : decode cX5_init 75 = .ok (.iinc 1 1, 3) := by decide +kernel
theorem dX5_init_78 : decode cX5_init 78 = .ok (.goto (-25), 3) := by decide +kernel
theorem dX5_init_81 : decode cX5_init 81 = .ok (.aload_n 0, 1) := by decide +kernel
theorem dX5_init_82 : decode cX5_init 82 = .ok (.bipush 12, 2) := by decide +kernel
theorem dX5_init_84 : decode cX5_init 84 = .ok (.anewarray 23, 3) := by decide +kernel
theorem dX5_init_87 : decode cX5_init 87 = .ok (.putfield 25, 3) := by decide +kernel
theorem dX5_init_90 : decode cX5_init 90 = .ok (.aload_n 0, 1) := by decide +kernel
theorem dX5_init_91 : decode cX5_init 91 = .ok (.new 29, 3) := by decide +kernel
theorem dX5_init_94 : decode cX5_init 94 = .ok (.dup, 1) := by decide +kernel
theorem dX5_init_95 : decode cX5_init 95 = .ok (.invokespecial 31, 3) := by decide +kernel
theorem dX5_init_98 : decode cX5_init 98 = .ok (.putfield 32, 3) := by decide +kernel
theorem dX5_init_101 : decode cX5_init 101 = .ok (.aload_n 0, 1) := by decide +kernel
theorem dX5_init_102 : decode cX5_init 102 = .ok (.iconst 2, 1) := by decide +kernel
theorem dX5_init_103 : decode cX5_init 103 = .ok (.putfield 36, 3) := by decide +kernel
theorem dX5_init_106 : decode cX5_init 106 = .ok (.aload_n 0, 1) := by decide +kernel
theorem dX5_init_107 : decode cX5_init 107 = .ok (.iconst (-1), 1) := by decide +kernel
theorem dX5_init_108 : decode cX5_init 108 = .ok (.putfield 40, 3) := by decide +kernel
theorem dX5_init_111 : decode cX5_init 111 = .ok (.return_, 1) := by decide +kernel
set_option maxRecDepth 20000 in
theorem ggX5_plan_X5_isWithin : GoodIn wsX5_plan wsX5_isWithin := goodIn_r _ [16] (by decide +kernel) (by decide +kernel)
set_option maxRecDepth 20000 in
theorem gX5_plan_X5_isWithin : GoodIn wsX5_plan (va_wsS RX5 43 yX5_isWithin wsX5_isWithin) := goodIn_app (goodIn_of _ (by decide +kernel)) ggX5_plan_X5_isWithin
set_option maxRecDepth 20000 in
theorem ggX5_plan_X0_init : GoodIn wsX5_plan wsX0_init := goodIn_r _ [19, 20, 21, 22, 23, 24, 25, 26, 27, 28, 29, 30, 31, 32, 33, 34, 35, 36, 37, 38, 39, 40, 41, 42, 43, 66, 53, 54, 55, 56, 57, 58, 59, 60, 61, 62, 63, 64, 65] (by decide +kernel) (by decide +kernel)
set_option maxRecDepth 20000 in
theorem gX5_plan_X0_init : GoodIn wsX5_plan (wsX0_init) := ggX5_plan_X0_init
theorem dX5_plan_0 : decode cX5_plan 0 = .ok (.iload_n 1, 1) := by decide +kernel
theorem dX5_plan_1 : decode cX5_plan 1 = .ok (.iconst 0, 1) := by decide +kernel
theorem dX5_plan_2 : decode cX5_plan 2 = .ok (.iconst 5, 1) := by decide +kernel
theorem dX5_plan_3 : decode cX5_plan 3 = .ok (.invokestatic 43, 3) := by decide +kernel
theorem dX5_plan_6 : decode cX5_plan 6 = .ok (.ifCond .eq 22, 3) := by decide +kernel
theorem dX5_plan_9 : decode cX5_plan 9 = .ok (.iload_n 2, 1) := by decide +kernel
theorem dX5_plan_10 : decode cX5_plan 10 = .ok (.iconst 0, 1) := by decide +kernel
theorem dX5_plan_11 : decode cX5_plan 11 = .ok (.iconst 5, 1) := by decide +kernel
theorem dX5_plan_12 : decode cX5_plan 12 = .ok (.invokestatic 43, 3) := by decide +kernel
theorem dX5_plan_15 : decode cX5_plan 15 = .ok (.ifCond .eq 13, 3) := by decide +kernel
theorem dX5_plan_18 : decode cX5_plan 18 = .ok (.iload 4, 2) := by decide +kernel
theorem dX5_plan_20 : decode cX5_plan 20 = .ok (.iconst 0, 1) := by decide +kernel
theorem dX5_plan_21 : decode cX5_plan 21 = .ok (.iconst 2, 1) := by decide +kernel
theorem dX5_plan_22 : decode cX5_plan 22 = .ok (.invokestatic 43, 3) := by decide +kernel
theorem dX5_plan_25 : decode cX5_plan 25 = .ok (.ifCond .ne 13, 3) := by decide +kernel
theorem dX5_plan_28 : decode cX5_plan 28 = .ok (.new 47, 3) := by decide +kernel
theorem dX5_plan_31 : decode cX5_plan 31 = .ok (.dup, 1) := by decide +kernel
theorem dX5_plan_32 : decode cX5_plan 32 = .ok (.ldc 49, 2) := by decide +kernel
theorem dX5_plan_34 : decode cX5_plan 34 = .ok (.invokespecial 51, 3) := by decide +kernel
theorem dX5_plan_37 : decode cX5_plan 37 = .ok (.athrow, 1) := by decide +kernel
theorem dX5_plan_38 : decode cX5_plan 38 = .ok (.iload_n 1, 1) := by decide +kernel
theorem dX5_plan_39 : decode cX5_plan 39 = .ok (.iload_n 2, 1) := by decide +kernel
theorem dX5_plan_40 : decode cX5_plan 40 = .ok (.if_icmp .eq 19, 3) := by decide +kernel
theorem dX5_plan_43 : decode cX5_plan 43 = .ok (.iload_n 3, 1) := by decide +kernel
theorem dX5_plan_44 : decode cX5_plan 44 = .ok (.aload_n 0, 1) := by decide +kernel
theorem dX5_plan_45 : decode cX5_plan 45 = .ok (.getfield 54, 3) := by decide +kernel
theorem dX5_plan_48 : decode cX5_plan 48 = .ok (.iconst 1, 1) := by decide +kernel
theorem dX5_plan_49 : decode cX5_plan 49 = .ok (.iadd, 1) := by decide +kernel
theorem dX5_plan_50 : decode cX5_plan 50 = .ok (.sipush 9999, 3) := by decide +kernel
theorem dX5_plan_53 : decode cX5_plan 53 = .ok (.invokestatic 43, 3) := by decide +kernel
theorem dX5_plan_56 : decode cX5_plan 56 = .ok (.ifCond .ne 13, 3) := by decide +kernel
theorem dX5_plan_59 : decode cX5_plan 59 = .ok (.new 57, 3) := by decide +kernel
theorem dX5_plan_62 : decode cX5_plan 62 = .ok (.dup, 1) := by decide +kernel
theorem dX5_plan_63 : decode cX5_plan 63 = .ok (.ldc 59, 2) := by decide +kernel
theorem dX5_plan_65 : decode cX5_plan 65 = .ok (.invokespecial 61, 3) := by decide +kernel
theorem dX5_plan_68 : decode cX5_plan 68 = .ok (.athrow, 1) := by decide +kernel
theorem dX5_plan_69 : decode cX5_plan 69 = .ok (.aload_n 0, 1) := by decide +kernel
theorem dX5_plan_70 : decode cX5_plan 70 = .ok (.getfield 62, 3) := by decide +kernel
theorem dX5_plan_73 : decode cX5_plan 73 = .ok (.istore 5, 2) := by decide +kernel
theorem dX5_plan_75 : decode cX5_plan 75 = .ok (.iload 5, 2) := by decide +kernel
theorem dX5_plan_77 : decode cX5_plan 77 = .ok (.ifCond .lt 13, 3) := by decide +kernel
theorem dX5_plan_80 : decode cX5_plan 80 = .ok (.iload 5, 2) := by decide +kernel
theorem dX5_plan_82 : decode cX5_plan 82 = .ok (.aload_n 0, 1) := by decide +kernel
theorem dX5_plan_83 : decode cX5_plan 83 = .ok (.getfield 25, 3) := by decide +kernel
theorem dX5_plan_86 : decode cX5_plan 86 = .ok (.arraylength, 1) := by decide +kernel
theorem dX5_plan_87 : decode cX5_plan 87 = .ok (.if_icmp .lt 13, 3) := by decide +kernel
theorem dX5_plan_90 : decode cX5_plan 90 = .ok (.new 65, 3) := by decide +kernel
theorem dX5_plan_93 : decode cX5_plan 93 = .ok (.dup, 1) := by decide +kernel
theorem dX5_plan_94 : decode cX5_plan 94 = .ok (.ldc 67, 2) := by decide +kernel
theorem dX5_plan_96 : decode cX5_plan 96 = .ok (.invokespecial 69, 3) := by decide +kernel
theorem dX5_plan_99 : decode cX5_plan 99 = .ok (.athrow, 1) := by decide +kernel
theorem dX5_plan_100 : decode cX5_plan 100 = .ok (.aload_n 0, 1) := by decide +kernel
theorem dX5_plan_101 : decode cX5_plan 101 = .ok (.getfield 25, 3) := by decide +kernel
theorem dX5_plan_104 : decode cX5_plan 104 = .ok (.iload 5, 2) := by decide +kernel
theorem dX5_plan_106 : decode cX5_plan 106 = .ok (.new 23, 3) := by decide +kernel
theorem dX5_plan_109 : decode cX5_plan 109 = .ok (.dup, 1) := by decide +kernel
theorem dX5_plan_110 : decode cX5_plan 110 = .ok (.iload_n 1, 1) := by decide +kernel
theorem dX5_plan_111 : decode cX5_plan 111 = .ok (.iload_n 2, 1) := by decide +kernel
theorem dX5_plan_112 : decode cX5_plan 112 = .ok (.iload_n 3, 1) := by decide +kernel
theorem dX5_plan_113 : decode cX5_plan 113 = .ok (.iload 4, 2) := by decide +kernel
theorem dX5_plan_115 : decode cX5_plan 115 = .ok (.invokespecial 70, 3) := by decide +kernel
theorem dX5_plan_118 : decode cX5_plan 118 = .ok (.aastore, 1) := by decide +kernel
theorem dX5_plan_119 : decode cX5_plan 119 = .ok (.aload_n 0, 1) := by decide +kernel
theorem dX5_plan_120 : decode cX5_plan 120 = .ok (.iload 5, 2) := by decide +kernel
theorem dX5_plan_122 : decode cX5_plan 122 = .ok (.iconst 1, 1) := by decide +kernel
theorem dX5_plan_123 : decode cX5_plan 123 = .ok (.iadd, 1) := by decide +kernel
theorem dX5_plan_124 : decode cX5_plan 124 = .ok (.putfield 62, 3) := by decide +kernel
theorem dX5_plan_127 : decode cX5_plan 127 = .ok (.iload 5, 2) := by decide +kernel
theorem dX5_plan_129 : decode cX5_plan 129 = .ok (.ireturn, 1) := by decide +kernel
set_option maxRecDepth 20000 in
theorem ggX5_crew_X5_isWithin : GoodIn wsX5_crew wsX5_isWithin := goodIn_r _ [7] (by decide +kernel) (by decide +kernel)
set_option maxRecDepth 20000 in
theorem gX5_crew_X5_isWithin : GoodIn wsX5_crew (va_wsS RX5 43 yX5_isWithin wsX5_isWithin) := goodIn_app (goodIn_of _ (by decide +kernel)) ggX5_crew_X5_isWithin
theorem dX5_crew_0 : decode cX5_crew 0 = .ok (.iload_n 1, 1) := by decide +kernel
theorem dX5_crew_1 : decode cX5_crew 1 = .ok (.iconst 1, 1) := by decide +kernel
theorem dX5_crew_2 : decode cX5_crew 2 = .ok (.bipush 6, 2) := by decide +kernel
theorem dX5_crew_4 : decode cX5_crew 4 = .ok (.invokestatic 43, 3) := by decide +kernel
theorem dX5_crew_7 : decode cX5_crew 7 = .ok (.ifCond .ne 13, 3) := by decide +kernel
theorem dX5_crew_10 : decode cX5_crew 10 = .ok (.new 57, 3) := by decide +kernel
theorem dX5_crew_13 : decode cX5_crew 13 = .ok (.dup, 1) := by decide +kernel
theorem dX5_crew_14 : decode cX5_crew 14 = .ok (.ldc 73, 2) := by decide +kernel
theorem dX5_crew_16 : decode cX5_crew 16 = .ok (.invokespecial 61, 3) := by decide +kernel
theorem dX5_crew_19 : decode cX5_crew 19 = .ok (.athrow, 1) := by decide +kernel
theorem dX5_crew_20 : decode cX5_crew 20 = .ok (.aload_n 0, 1) := by decide +kernel
theorem dX5_crew_21 : decode cX5_crew 21 = .ok (.getfield 36, 3) := by decide +kernel
theorem dX5_crew_24 : decode cX5_crew 24 = .ok (.istore_n 2, 1) := by decide +kernel
theorem dX5_crew_25 : decode cX5_crew 25 = .ok (.aload_n 0, 1) := by decide +kernel
theorem dX5_crew_26 : decode cX5_crew 26 = .ok (.iload_n 1, 1) := by decide +kernel
theorem dX5_crew_27 : decode cX5_crew 27 = .ok (.putfield 36, 3) := by decide +kernel
theorem dX5_crew_30 : decode cX5_crew 30 = .ok (.iload_n 2, 1) := by decide +kernel
theorem dX5_crew_31 : decode cX5_crew 31 = .ok (.ireturn, 1) := by decide +kernel
set_option maxRecDepth 20000 in
theorem ggX5_shoot_X5_gameOf : GoodIn wsX5_shoot wsX5_gameOf := goodIn_ca (goodIn_r _ [14, 15, 16, 17, 191, 192, 193, 194, 195, 196, 197, 198, 199] (by decide +kernel) (by decide +kernel)) (goodIn_sub (fun _ h => List.mem_cons_of_mem _ (List.mem_append_right _ h)) (by decide +kernel))
set_option maxRecDepth 20000 in
theorem gX5_shoot_X5_gameOf : GoodIn wsX5_shoot (wsV RX5 75 RX5 yX5_gameOf wsX5_gameOf) := goodIn_app (goodIn_of _ (by decide +kernel)) ggX5_shoot_X5_gameOf
set_option maxRecDepth 20000 in
theorem ggX5_shoot_X5_isShot : GoodIn wsX5_shoot wsX5_isShot := goodIn_r _ [20, 21, 22, 13, 23] (by decide +kernel) (by decide +kernel)
set_option maxRecDepth 20000 in
theorem gX5_shoot_X5_isShot : GoodIn wsX5_shoot (va_wsS RX5 79 yX5_isShot wsX5_isShot) := goodIn_app (goodIn_of _ (by decide +kernel)) ggX5_shoot_X5_isShot
set_option maxRecDepth 20000 in
theorem ggX5_shoot_X0_isOnSheet : GoodIn wsX5_shoot wsX0_isOnSheet := goodIn_r _ [28, 29, 200, 201, 202, 203, 204, 205, 206, 207, 208, 209, 210, 211, 212] (by decide +kernel) (by decide +kernel)
set_option maxRecDepth 20000 in
theorem gX5_shoot_X0_isOnSheet : GoodIn wsX5_shoot (wsV RX5 85 RX0 yX0_isOnSheet wsX0_isOnSheet) := goodIn_app (goodIn_of _ (by decide +kernel)) ggX5_shoot_X0_isOnSheet
set_option maxRecDepth 20000 in
theorem ggX5_shoot_X2_aim : GoodIn wsX5_shoot wsX2_aim := goodIn_r _ [34, 35, 36, 37, 38, 39, 40, 213, 214, 215, 216, 217, 218, 219, 220, 221, 222] (by decide +kernel) (by decide +kernel)
set_option maxRecDepth 20000 in
theorem gX5_shoot_X2_aim : GoodIn wsX5_shoot (wsV RX5 91 RX2 yX2_aim wsX2_aim) := goodIn_app (goodIn_of _ (by decide +kernel)) ggX5_shoot_X2_aim
set_option maxRecDepth 20000 in
theorem ggX5_shoot_X5_sheetOf : GoodIn wsX5_shoot wsX5_sheetOf := goodIn_ca (goodIn_r _ [44, 15, 16, 45, 191, 192, 193, 194, 195, 196, 197, 198, 199] (by decide +kernel) (by decide +kernel)) (goodIn_sub (fun _ h => List.mem_cons_of_mem _ (List.mem_append_right _ h)) (by decide +kernel))
set_option maxRecDepth 20000 in
theorem gX5_shoot_X5_sheetOf : GoodIn wsX5_shoot (wsV RX5 98 RX5 yX5_sheetOf wsX5_sheetOf) := goodIn_app (goodIn_of _ (by decide +kernel)) ggX5_shoot_X5_sheetOf
set_option maxRecDepth 20000 in
theorem ggX5_shoot_X0_nextStone : GoodIn wsX5_shoot wsX0_nextStone := goodIn_r _ [49, 50, 51, 52, 53, 27, 54, 29, 55, 200, 201, 202, 203, 204, 205, 206, 207, 208, 209, 210, 211, 212] (by decide +kernel) (by decide +kernel)
set_option maxRecDepth 20000 in
theorem gX5_shoot_X0_nextStone : GoodIn wsX5_shoot (wsV RX5 106 RX0 yX0_nextStone wsX0_nextStone) := goodIn_app (goodIn_of _ (by decide +kernel)) ggX5_shoot_X0_nextStone
set_option maxRecDepth 20000 in
theorem ggX5_shoot_X2_run : GoodIn wsX5_shoot wsX2_run := goodIn_r _ [59, 60, 61, 62, 63, 64, 65, 66, 67, 68, 69, 70, 71, 72, 73, 74, 75, 33, 76, 77, 36, 35, 38, 78, 79, 80, 81, 37, 82, 83, 84, 85, 86, 87, 88, 89, 90, 91, 39, 40, 22, 13, 23, 92, 93, 94, 95, 96, 97, 98, 99, 100, 101, 102, 103, 104, 105, 106, 107, 108, 109, 110, 111, 112, 113, 114, 115, 116, 117, 118, 119, 120, 213, 214, 215, 216, 217, 218, 219, 220, 221, 222, 223, 224, 225, 226] (by decide +kernel) (by decide +kernel)
set_option maxRecDepth 20000 in
theorem gX5_shoot_X2_run : GoodIn wsX5_shoot (wsV RX5 110 RX2 yX2_run wsX2_run) := goodIn_app (goodIn_of _ (by decide +kernel)) ggX5_shoot_X2_run
set_option maxRecDepth 20000 in
theorem ggX5_shoot_X5_distanceOf : GoodIn wsX5_shoot wsX5_distanceOf := goodIn_r _ [123, 124, 125, 126, 127, 128, 129, 130] (by decide +kernel) (by decide +kernel)
set_option maxRecDepth 20000 in
theorem gX5_shoot_X5_distanceOf : GoodIn wsX5_shoot (va_wsS RX5 117 yX5_distanceOf wsX5_distanceOf) := goodIn_app (goodIn_of _ (by decide +kernel)) ggX5_shoot_X5_distanceOf
set_option maxRecDepth 20000 in
theorem ggX5_shoot_X5_settleDraw : GoodIn wsX5_shoot wsX5_settleDraw := goodIn_ca (goodIn_r _ [134, 135, 136, 137, 138, 139, 52, 53, 27, 54, 29, 50, 55, 140, 141, 142, 13, 143, 15, 16, 144, 145, 146, 147, 148, 149, 200, 201, 202, 203, 204, 205, 206, 207, 208, 209, 210, 211, 212, 227, 228, 229, 191, 192, 193, 194, 195, 196, 197, 198, 199] (by decide +kernel) (by decide +kernel)) (goodIn_sub (fun _ h => List.mem_cons_of_mem _ (List.mem_append_right _ h)) (by decide +kernel))
set_option maxRecDepth 20000 in
theorem gX5_shoot_X5_settleDraw : GoodIn wsX5_shoot (wsV RX5 121 RX5 yX5_settleDraw wsX5_settleDraw) := goodIn_app (goodIn_of _ (by decide +kernel)) ggX5_shoot_X5_settleDraw
set_option maxRecDepth 20000 in
theorem ggX5_shoot_X3_copyFrom : GoodIn wsX5_shoot wsX3_copyFrom := goodIn_r _ [67, 68, 69, 70, 71, 66, 72, 223] (by decide +kernel) (by decide +kernel)
set_option maxRecDepth 20000 in
theorem gX5_shoot_X3_copyFrom : GoodIn wsX5_shoot (wsV RX5 126 RX3 yX3_copyFrom wsX3_copyFrom) := goodIn_app (goodIn_of _ (by decide +kernel)) ggX5_shoot_X3_copyFrom
set_option maxRecDepth 20000 in
theorem ggX5_shoot_X5_settleStone : GoodIn wsX5_shoot wsX5_settleStone := goodIn_ca (goodIn_r _ [154, 155, 156, 157, 158, 159, 27, 160, 161, 162, 55, 163, 50, 164, 165, 166, 167, 66, 168, 169, 170, 171, 172, 173, 129, 126, 130, 69, 70, 71, 72, 68, 122, 13, 123, 124, 125, 127, 128, 174, 175, 176, 177, 178, 179, 180, 181, 182, 183, 184, 185, 8, 186, 6, 187, 188, 189, 135, 190, 136, 41, 42, 43, 44, 15, 16, 45, 140, 141, 142, 143, 144, 200, 201, 202, 203, 204, 205, 206, 207, 208, 209, 210, 211, 212, 223, 224, 225, 226, 227, 228, 229, 191, 192, 193, 194, 195, 196, 197, 198, 199] (by decide +kernel) (by decide +kernel)) (goodIn_sub (fun _ h => List.mem_cons_of_mem _ (List.mem_append_right _ h)) (by decide +kernel))
set_option maxRecDepth 20000 in
theorem gX5_shoot_X5_settleStone : GoodIn wsX5_shoot (wsV RX5 132 RX5 yX5_settleStone wsX5_settleStone) := goodIn_app (goodIn_of _ (by decide +kernel)) ggX5_shoot_X5_settleStone
theorem dX5_shoot_0 : decode cX5_shoot 0 = .ok (.aload_n 0, 1) := by decide +kernel
theorem dX5_shoot_1 : decode cX5_shoot 1 = .ok (.iload_n 1, 1) := by decide +kernel
theorem dX5_shoot_2 : decode cX5_shoot 2 = .ok (.invokevirtual 75, 3) := by decide +kernel
theorem dX5_shoot_5 : decode cX5_shoot 5 = .ok (.astore 7, 2) := by decide +kernel
theorem dX5_shoot_7 : decode cX5_shoot 7 = .ok (.iload_n 2, 1) := by decide +kernel
theorem dX5_shoot_8 : decode cX5_shoot 8 = .ok (.iload_n 3, 1) := by decide +kernel
theorem dX5_shoot_9 : decode cX5_shoot 9 = .ok (.iload 4, 2) := by decide +kernel
theorem dX5_shoot_11 : decode cX5_shoot 11 = .ok (.iload 5, 2) := by decide +kernel
theorem dX5_shoot_13 : decode cX5_shoot 13 = .ok (.iload 6, 2) := by decide +kernel
theorem dX5_shoot_15 : decode cX5_shoot 15 = .ok (.invokestatic 79, 3) := by decide +kernel
theorem dX5_shoot_18 : decode cX5_shoot 18 = .ok (.ifCond .ne 13, 3) := by decide +kernel
theorem dX5_shoot_21 : decode cX5_shoot 21 = .ok (.new 57, 3) := by decide +kernel
theorem dX5_shoot_24 : decode cX5_shoot 24 = .ok (.dup, 1) := by decide +kernel
theorem dX5_shoot_25 : decode cX5_shoot 25 = .ok (.ldc 83, 2) := by decide +kernel
theorem dX5_shoot_27 : decode cX5_shoot 27 = .ok (.invokespecial 61, 3) := by decide +kernel
theorem dX5_shoot_30 : decode cX5_shoot 30 = .ok (.athrow, 1) := by decide +kernel
theorem dX5_shoot_31 : decode cX5_shoot 31 = .ok (.aload 7, 2) := by decide +kernel
theorem dX5_shoot_33 : decode cX5_shoot 33 = .ok (.invokevirtual 85, 3) := by decide +kernel
theorem dX5_shoot_36 : decode cX5_shoot 36 = .ok (.ifCond .ne 13, 3) := by decide +kernel
theorem dX5_shoot_39 : decode cX5_shoot 39 = .ok (.new 65, 3) := by decide +kernel
theorem dX5_shoot_42 : decode cX5_shoot 42 = .ok (.dup, 1) := by decide +kernel
theorem dX5_shoot_43 : decode cX5_shoot 43 = .ok (.ldc 89, 2) := by decide +kernel
theorem dX5_shoot_45 : decode cX5_shoot 45 = .ok (.invokespecial 69, 3) := by decide +kernel
theorem dX5_shoot_48 : decode cX5_shoot 48 = .ok (.athrow, 1) := by decide +kernel
theorem dX5_shoot_49 : decode cX5_shoot 49 = .ok (.aload_n 0, 1) := by decide +kernel
theorem dX5_shoot_50 : decode cX5_shoot 50 = .ok (.getfield 32, 3) := by decide +kernel
theorem dX5_shoot_53 : decode cX5_shoot 53 = .ok (.iload_n 2, 1) := by decide +kernel
theorem dX5_shoot_54 : decode cX5_shoot 54 = .ok (.iload_n 3, 1) := by decide +kernel
theorem dX5_shoot_55 : decode cX5_shoot 55 = .ok (.iload 4, 2) := by decide +kernel
theorem dX5_shoot_57 : decode cX5_shoot 57 = .ok (.iload 5, 2) := by decide +kernel
theorem dX5_shoot_59 : decode cX5_shoot 59 = .ok (.iload 6, 2) := by decide +kernel
theorem dX5_shoot_61 : decode cX5_shoot 61 = .ok (.invokevirtual 91, 3) := by decide +kernel
theorem dX5_shoot_64 : decode cX5_shoot 64 = .ok (.aload_n 0, 1) := by decide +kernel
theorem dX5_shoot_65 : decode cX5_shoot 65 = .ok (.getfield 32, 3) := by decide +kernel
theorem dX5_shoot_68 : decode cX5_shoot 68 = .ok (.aload_n 0, 1) := by decide +kernel
theorem dX5_shoot_69 : decode cX5_shoot 69 = .ok (.aload 7, 2) := by decide +kernel
theorem dX5_shoot_71 : decode cX5_shoot 71 = .ok (.getfield 95, 3) := by decide +kernel
theorem dX5_shoot_74 : decode cX5_shoot 74 = .ok (.invokevirtual 98, 3) := by decide +kernel
theorem dX5_shoot_77 : decode cX5_shoot 77 = .ok (.aload 7, 2) := by decide +kernel
theorem dX5_shoot_79 : decode cX5_shoot 79 = .ok (.getfield 102, 3) := by decide +kernel
theorem dX5_shoot_82 : decode cX5_shoot 82 = .ok (.aload 7, 2) := by decide +kernel
theorem dX5_shoot_84 : decode cX5_shoot 84 = .ok (.invokevirtual 106, 3) := by decide +kernel
theorem dX5_shoot_87 : decode cX5_shoot 87 = .ok (.iconst 1, 1) := by decide +kernel
theorem dX5_shoot_88 : decode cX5_shoot 88 = .ok (.invokevirtual 110, 3) := by decide +kernel
theorem dX5_shoot_91 : decode cX5_shoot 91 = .ok (.istore 8, 2) := by decide +kernel
theorem dX5_shoot_93 : decode cX5_shoot 93 = .ok (.aload 7, 2) := by decide +kernel
theorem dX5_shoot_95 : decode cX5_shoot 95 = .ok (.getfield 114, 3) := by decide +kernel
theorem dX5_shoot_98 : decode cX5_shoot 98 = .ok (.iconst 1, 1) := by decide +kernel
theorem dX5_shoot_99 : decode cX5_shoot 99 = .ok (.if_icmp .ne 17, 3) := by decide +kernel
theorem dX5_shoot_102 : decode cX5_shoot 102 = .ok (.aload_n 0, 1) := by decide +kernel
theorem dX5_shoot_103 : decode cX5_shoot 103 = .ok (.aload 7, 2) := by decide +kernel
theorem dX5_shoot_105 : decode cX5_shoot 105 = .ok (.iload 8, 2) := by decide +kernel
theorem dX5_shoot_107 : decode cX5_shoot 107 = .ok (.invokestatic 117, 3) := by decide +kernel
theorem dX5_shoot_110 : decode cX5_shoot 110 = .ok (.invokevirtual 121, 3) := by decide +kernel
theorem dX5_shoot_113 : decode cX5_shoot 113 = .ok (.goto 24, 3) := by decide +kernel
theorem dX5_shoot_116 : decode cX5_shoot 116 = .ok (.aload 7, 2) := by decide +kernel
theorem dX5_shoot_118 : decode cX5_shoot 118 = .ok (.getfield 102, 3) := by decide +kernel
theorem dX5_shoot_121 : decode cX5_shoot 121 = .ok (.aload_n 0, 1) := by decide +kernel
theorem dX5_shoot_122 : decode cX5_shoot 122 = .ok (.getfield 32, 3) := by decide +kernel
theorem dX5_shoot_125 : decode cX5_shoot 125 = .ok (.getfield 125, 3) := by decide +kernel
theorem dX5_shoot_128 : decode cX5_shoot 128 = .ok (.invokevirtual 126, 3) := by decide +kernel
theorem dX5_shoot_131 : decode cX5_shoot 131 = .ok (.aload_n 0, 1) := by decide +kernel
theorem dX5_shoot_132 : decode cX5_shoot 132 = .ok (.aload 7, 2) := by decide +kernel
theorem dX5_shoot_134 : decode cX5_shoot 134 = .ok (.invokevirtual 132, 3) := by decide +kernel
theorem dX5_shoot_137 : decode cX5_shoot 137 = .ok (.iload 8, 2) := by decide +kernel
theorem dX5_shoot_139 : decode cX5_shoot 139 = .ok (.ireturn, 1) := by decide +kernel
set_option maxRecDepth 20000 in
theorem ggX5_pass_X5_isWithin : GoodIn wsX5_pass wsX5_isWithin := goodIn_r _ [9] (by decide +kernel) (by decide +kernel)
set_option maxRecDepth 20000 in
theorem gX5_pass_X5_isWithin : GoodIn wsX5_pass (va_wsS RX5 43 yX5_isWithin wsX5_isWithin) := goodIn_app (goodIn_of _ (by decide +kernel)) ggX5_pass_X5_isWithin
set_option maxRecDepth 20000 in
theorem ggX5_pass_X5_workAnHour : GoodIn wsX5_pass wsX5_workAnHour := goodIn_ca (goodIn_r _ [13, 14, 15, 16, 17, 18, 19, 8, 20, 21, 22, 23, 24, 25, 26, 27, 28, 29, 30, 31, 32, 33, 34, 35, 36, 37, 38, 39, 40, 41, 42, 43, 44, 45, 46, 47, 48, 63, 64, 65, 66, 67, 68, 69, 70, 71, 72, 73, 74, 75, 76, 77, 78, 79, 80, 81, 82, 83, 84, 85, 86, 87] (by decide +kernel) (by decide +kernel)) (goodIn_sub (fun _ h => List.mem_cons_of_mem _ (List.mem_append_right _ h)) (by decide +kernel))
set_option maxRecDepth 20000 in
theorem gX5_pass_X5_workAnHour : GoodIn wsX5_pass (wsV RX5 138 RX5 yX5_workAnHour wsX5_workAnHour) := goodIn_app (goodIn_of _ (by decide +kernel)) ggX5_pass_X5_workAnHour
set_option maxRecDepth 20000 in
theorem ggX5_pass_X5_beginGames : GoodIn wsX5_pass wsX5_beginGames := goodIn_ca (goodIn_r _ [52, 41, 42, 44, 5, 43, 35, 36, 53, 54, 55, 56, 8, 57, 17, 18, 19, 20, 21, 22, 23, 58, 59, 60, 27, 61, 29, 62, 63, 64, 65, 66, 67, 68, 69, 70, 71, 75, 76, 77, 78, 79, 80, 81, 82, 83, 84, 85, 86, 87, 72, 73, 74] (by decide +kernel) (by decide +kernel)) (goodIn_sub (fun _ h => List.mem_cons_of_mem _ (List.mem_append_right _ h)) (by decide +kernel))
set_option maxRecDepth 20000 in
theorem gX5_pass_X5_beginGames : GoodIn wsX5_pass (wsV RX5 141 RX5 yX5_beginGames wsX5_beginGames) := goodIn_app (goodIn_of _ (by decide +kernel)) ggX5_pass_X5_beginGames
theorem dX5_pass_0 : decode cX5_pass 0 = .ok (.iload_n 1, 1) := by decide +kernel
theorem dX5_pass_1 : decode cX5_pass 1 = .ok (.iconst 1, 1) := by decide +kernel
theorem dX5_pass_2 : decode cX5_pass 2 = .ok (.bipush 48, 2) := by decide +kernel
theorem dX5_pass_4 : decode cX5_pass 4 = .ok (.invokestatic 43, 3) := by decide +kernel
theorem dX5_pass_7 : decode cX5_pass 7 = .ok (.ifCond .ne 13, 3) := by decide +kernel
theorem dX5_pass_10 : decode cX5_pass 10 = .ok (.new 57, 3) := by decide +kernel
theorem dX5_pass_13 : decode cX5_pass 13 = .ok (.dup, 1) := by decide +kernel
theorem dX5_pass_14 : decode cX5_pass 14 = .ok (.ldc 73, 2) := by decide +kernel
theorem dX5_pass_16 : decode cX5_pass 16 = .ok (.invokespecial 61, 3) := by decide +kernel
theorem dX5_pass_19 : decode cX5_pass 19 = .ok (.athrow, 1) := by decide +kernel
theorem dX5_pass_20 : decode cX5_pass 20 = .ok (.aload_n 0, 1) := by decide +kernel
theorem dX5_pass_21 : decode cX5_pass 21 = .ok (.getfield 54, 3) := by decide +kernel
theorem dX5_pass_24 : decode cX5_pass 24 = .ok (.iload_n 1, 1) := by decide +kernel
theorem dX5_pass_25 : decode cX5_pass 25 = .ok (.iadd, 1) := by decide +kernel
theorem dX5_pass_26 : decode cX5_pass 26 = .ok (.sipush 9999, 3) := by decide +kernel
theorem dX5_pass_29 : decode cX5_pass 29 = .ok (.if_icmp .le 13, 3) := by decide +kernel
theorem dX5_pass_32 : decode cX5_pass 32 = .ok (.new 65, 3) := by decide +kernel
theorem dX5_pass_35 : decode cX5_pass 35 = .ok (.dup, 1) := by decide +kernel
theorem dX5_pass_36 : decode cX5_pass 36 = .ok (.ldc 136, 2) := by decide +kernel
theorem dX5_pass_38 : decode cX5_pass 38 = .ok (.invokespecial 69, 3) := by decide +kernel
theorem dX5_pass_41 : decode cX5_pass 41 = .ok (.athrow, 1) := by decide +kernel
theorem dX5_pass_42 : decode cX5_pass 42 = .ok (.iconst 0, 1) := by decide +kernel
theorem dX5_pass_43 : decode cX5_pass 43 = .ok (.istore_n 2, 1) := by decide +kernel
theorem dX5_pass_44 : decode cX5_pass 44 = .ok (.iload_n 2, 1) := by decide +kernel
theorem dX5_pass_45 : decode cX5_pass 45 = .ok (.iload_n 1, 1) := by decide +kernel
theorem dX5_pass_46 : decode cX5_pass 46 = .ok (.if_icmp .ge 27, 3) := by decide +kernel
theorem dX5_pass_49 : decode cX5_pass 49 = .ok (.aload_n 0, 1) := by decide +kernel
theorem dX5_pass_50 : decode cX5_pass 50 = .ok (.dup, 1) := by decide +kernel
theorem dX5_pass_51 : decode cX5_pass 51 = .ok (.getfield 54, 3) := by decide +kernel
theorem dX5_pass_54 : decode cX5_pass 54 = .ok (.iconst 1, 1) := by decide +kernel
theorem dX5_pass_55 : decode cX5_pass 55 = .ok (.iadd, 1) := by decide +kernel
theorem dX5_pass_56 : decode cX5_pass 56 = .ok (.putfield 54, 3) := by decide +kernel
theorem dX5_pass_59 : decode cX5_pass 59 = .ok (.aload_n 0, 1) := by decide +kernel
theorem dX5_pass_60 : decode cX5_pass 60 = .ok (.invokevirtual 138, 3) := by decide +kernel
theorem dX5_pass_63 : decode cX5_pass 63 = .ok (.aload_n 0, 1) := by decide +kernel
theorem dX5_pass_64 : decode cX5_pass 64 = .ok (.invokevirtual 141, 3) := by decide +kernel
theorem dX5_pass_67 : decode cX5_pass 67 = .ok (.iinc 2 1, 3) := by decide +kernel
theorem dX5_pass_70 : decode cX5_pass 70 = .ok (.goto (-26), 3) := by decide +kernel
theorem dX5_pass_73 : decode cX5_pass 73 = .ok (.aload_n 0, 1) := by decide +kernel
theorem dX5_pass_74 : decode cX5_pass 74 = .ok (.getfield 54, 3) := by decide +kernel
theorem dX5_pass_77 : decode cX5_pass 77 = .ok (.ireturn, 1) := by decide +kernel
theorem dX5_hour_0 : decode cX5_hour 0 = .ok (.aload_n 0, 1) := by decide +kernel
theorem dX5_hour_1 : decode cX5_hour 1 = .ok (.getfield 54, 3) := by decide +kernel
theorem dX5_hour_4 : decode cX5_hour 4 = .ok (.ireturn, 1) := by decide +kernel
set_option maxRecDepth 20000 in
theorem ggX5_ofSheet_X5_sheetOf : GoodIn wsX5_ofSheet wsX5_sheetOf := goodIn_ca (goodIn_r _ [11, 12, 13, 14, 24, 25, 26, 27, 28, 29, 30, 31, 32] (by decide +kernel) (by decide +kernel)) (goodIn_sub (fun _ h => List.mem_cons_of_mem _ (List.mem_append_right _ h)) (by decide +kernel))
set_option maxRecDepth 20000 in
theorem gX5_ofSheet_X5_sheetOf : GoodIn wsX5_ofSheet (wsV RX5 98 RX5 yX5_sheetOf wsX5_sheetOf) := goodIn_app (goodIn_of _ (by decide +kernel)) ggX5_ofSheet_X5_sheetOf
set_option maxRecDepth 20000 in
theorem ggX5_ofSheet_X1_allWorn : GoodIn wsX5_ofSheet wsX1_allWorn := goodIn_r _ [19, 20, 21, 22, 23] (by decide +kernel) (by decide +kernel)
set_option maxRecDepth 20000 in
theorem gX5_ofSheet_X1_allWorn : GoodIn wsX5_ofSheet (wsV RX5 151 RX1 yX1_allWorn wsX1_allWorn) := goodIn_app (goodIn_of _ (by decide +kernel)) ggX5_ofSheet_X1_allWorn
theorem dX5_ofSheet_0 : decode cX5_ofSheet 0 = .ok (.aload_n 0, 1) := by decide +kernel
theorem dX5_ofSheet_1 : decode cX5_ofSheet 1 = .ok (.iload_n 1, 1) := by decide +kernel
theorem dX5_ofSheet_2 : decode cX5_ofSheet 2 = .ok (.invokevirtual 98, 3) := by decide +kernel
theorem dX5_ofSheet_5 : decode cX5_ofSheet 5 = .ok (.astore_n 3, 1) := by decide +kernel
theorem dX5_ofSheet_6 : decode cX5_ofSheet 6 = .ok (.iload_n 2, 1) := by decide +kernel
theorem dX5_ofSheet_7 : decode cX5_ofSheet 7 = .ok (.tableswitch 69 0 3 #[29, 42, 47, 52], 29) := by decide +kernel
theorem dX5_ofSheet_36 : decode cX5_ofSheet 36 = .ok (.aload_n 3, 1) := by decide +kernel
theorem dX5_ofSheet_37 : decode cX5_ofSheet 37 = .ok (.getfield 144, 3) := by decide +kernel
theorem dX5_ofSheet_40 : decode cX5_ofSheet 40 = .ok (.ifCond .eq 7, 3) := by decide +kernel
theorem dX5_ofSheet_43 : decode cX5_ofSheet 43 = .ok (.iconst 1, 1) := by decide +kernel
theorem dX5_ofSheet_44 : decode cX5_ofSheet 44 = .ok (.goto 4, 3) := by decide +kernel
theorem dX5_ofSheet_47 : decode cX5_ofSheet 47 = .ok (.iconst 0, 1) := by decide +kernel
theorem dX5_ofSheet_48 : decode cX5_ofSheet 48 = .ok (.ireturn, 1) := by decide +kernel
theorem dX5_ofSheet_49 : decode cX5_ofSheet 49 = .ok (.aload_n 3, 1) := by decide +kernel
theorem dX5_ofSheet_50 : decode cX5_ofSheet 50 = .ok (.getfield 148, 3) := by decide +kernel
theorem dX5_ofSheet_53 : decode cX5_ofSheet 53 = .ok (.ireturn, 1) := by decide +kernel
theorem dX5_ofSheet_54 : decode cX5_ofSheet 54 = .ok (.aload_n 3, 1) := by decide +kernel
theorem dX5_ofSheet_55 : decode cX5_ofSheet 55 = .ok (.invokevirtual 151, 3) := by decide +kernel
theorem dX5_ofSheet_58 : decode cX5_ofSheet 58 = .ok (.ireturn, 1) := by decide +kernel
theorem dX5_ofSheet_59 : decode cX5_ofSheet 59 = .ok (.aload_n 0, 1) := by decide +kernel
theorem dX5_ofSheet_60 : decode cX5_ofSheet 60 = .ok (.getfield 40, 3) := by decide +kernel
theorem dX5_ofSheet_63 : decode cX5_ofSheet 63 = .ok (.iload_n 1, 1) := by decide +kernel
theorem dX5_ofSheet_64 : decode cX5_ofSheet 64 = .ok (.if_icmp .ne 10, 3) := by decide +kernel
theorem dX5_ofSheet_67 : decode cX5_ofSheet 67 = .ok (.aload_n 0, 1) := by decide +kernel
theorem dX5_ofSheet_68 : decode cX5_ofSheet 68 = .ok (.getfield 154, 3) := by decide +kernel
theorem dX5_ofSheet_71 : decode cX5_ofSheet 71 = .ok (.goto 4, 3) := by decide +kernel
theorem dX5_ofSheet_74 : decode cX5_ofSheet 74 = .ok (.iconst 0, 1) := by decide +kernel
theorem dX5_ofSheet_75 : decode cX5_ofSheet 75 = .ok (.ireturn, 1) := by decide +kernel
theorem dX5_ofSheet_76 : decode cX5_ofSheet 76 = .ok (.new 57, 3) := by decide +kernel
theorem dX5_ofSheet_79 : decode cX5_ofSheet 79 = .ok (.dup, 1) := by decide +kernel
theorem dX5_ofSheet_80 : decode cX5_ofSheet 80 = .ok (.ldc 157, 2) := by decide +kernel
theorem dX5_ofSheet_82 : decode cX5_ofSheet 82 = .ok (.invokespecial 61, 3) := by decide +kernel
theorem dX5_ofSheet_85 : decode cX5_ofSheet 85 = .ok (.athrow, 1) := by decide +kernel
set_option maxRecDepth 20000 in
theorem ggX5_wear_X5_sheetOf : GoodIn wsX5_wear wsX5_sheetOf := goodIn_ca (goodIn_r _ [7, 1, 2, 8, 21, 22, 23, 24, 25, 26, 27, 28, 29] (by decide +kernel) (by decide +kernel)) (goodIn_sub (fun _ h => List.mem_cons_of_mem _ (List.mem_append_right _ h)) (by decide +kernel))
set_option maxRecDepth 20000 in
theorem gX5_wear_X5_sheetOf : GoodIn wsX5_wear (wsV RX5 98 RX5 yX5_sheetOf wsX5_sheetOf) := goodIn_app (goodIn_of _ (by decide +kernel)) ggX5_wear_X5_sheetOf
set_option maxRecDepth 20000 in
theorem ggX5_wear_X5_isCell : GoodIn wsX5_wear wsX5_isCell := goodIn_r _ [11, 12, 13, 6, 14] (by decide +kernel) (by decide +kernel)
set_option maxRecDepth 20000 in
theorem gX5_wear_X5_isCell : GoodIn wsX5_wear (va_wsS RX5 159 yX5_isCell wsX5_isCell) := goodIn_app (goodIn_of _ (by decide +kernel)) ggX5_wear_X5_isCell
set_option maxRecDepth 20000 in
theorem ggX5_wear_X1_wornAt : GoodIn wsX5_wear wsX1_wornAt := goodIn_r _ [19, 20, 30, 31, 32] (by decide +kernel) (by decide +kernel)
set_option maxRecDepth 20000 in
theorem gX5_wear_X1_wornAt : GoodIn wsX5_wear (wsV RX5 165 RX1 yX1_wornAt wsX1_wornAt) := goodIn_app (goodIn_of _ (by decide +kernel)) ggX5_wear_X1_wornAt
theorem dX5_wear_0 : decode cX5_wear 0 = .ok (.aload_n 0, 1) := by decide +kernel
theorem dX5_wear_1 : decode cX5_wear 1 = .ok (.iload_n 1, 1) := by decide +kernel
theorem dX5_wear_2 : decode cX5_wear 2 = .ok (.invokevirtual 98, 3) := by decide +kernel
theorem dX5_wear_5 : decode cX5_wear 5 = .ok (.astore 4, 2) := by decide +kernel
theorem dX5_wear_7 : decode cX5_wear 7 = .ok (.iload_n 2, 1) := by decide +kernel
theorem dX5_wear_8 : decode cX5_wear 8 = .ok (.iload_n 3, 1) := by decide +kernel
theorem dX5_wear_9 : decode cX5_wear 9 = .ok (.invokestatic 159, 3) := by decide +kernel
theorem dX5_wear_12 : decode cX5_wear 12 = .ok (.ifCond .ne 13, 3) := by decide +kernel
theorem dX5_wear_15 : decode cX5_wear 15 = .ok (.new 47, 3) := by decide +kernel
theorem dX5_wear_18 : decode cX5_wear 18 = .ok (.dup, 1) := by decide +kernel
theorem dX5_wear_19 : decode cX5_wear 19 = .ok (.ldc 163, 2) := by decide +kernel
theorem dX5_wear_21 : decode cX5_wear 21 = .ok (.invokespecial 51, 3) := by decide +kernel
theorem dX5_wear_24 : decode cX5_wear 24 = .ok (.athrow, 1) := by decide +kernel
theorem dX5_wear_25 : decode cX5_wear 25 = .ok (.aload 4, 2) := by decide +kernel
theorem dX5_wear_27 : decode cX5_wear 27 = .ok (.iload_n 2, 1) := by decide +kernel
theorem dX5_wear_28 : decode cX5_wear 28 = .ok (.iload_n 3, 1) := by decide +kernel
theorem dX5_wear_29 : decode cX5_wear 29 = .ok (.invokevirtual 165, 3) := by decide +kernel
theorem dX5_wear_32 : decode cX5_wear 32 = .ok (.ireturn, 1) := by decide +kernel
set_option maxRecDepth 20000 in
theorem ggX5_ofGame_X5_gameOf : GoodIn wsX5_ofGame wsX5_gameOf := goodIn_ca (goodIn_r _ [14, 15, 16, 17, 39, 40, 41, 42, 43, 44, 45, 46, 47] (by decide +kernel) (by decide +kernel)) (goodIn_sub (fun _ h => List.mem_cons_of_mem _ (List.mem_append_right _ h)) (by decide +kernel))
set_option maxRecDepth 20000 in
theorem gX5_ofGame_X5_gameOf : GoodIn wsX5_ofGame (wsV RX5 75 RX5 yX5_gameOf wsX5_gameOf) := goodIn_app (goodIn_of _ (by decide +kernel)) ggX5_ofGame_X5_gameOf
set_option maxRecDepth 20000 in
theorem ggX5_ofGame_X0_nextSide : GoodIn wsX5_ofGame wsX0_nextSide := goodIn_r _ [22, 23, 24, 25, 26, 27, 28, 29, 30, 31, 32, 33, 34, 35, 36, 37, 38] (by decide +kernel) (by decide +kernel)
set_option maxRecDepth 20000 in
theorem gX5_ofGame_X0_nextSide : GoodIn wsX5_ofGame (wsV RX5 181 RX0 yX0_nextSide wsX0_nextSide) := goodIn_app (goodIn_of _ (by decide +kernel)) ggX5_ofGame_X0_nextSide
theorem dX5_ofGame_0 : decode cX5_ofGame 0 = .ok (.aload_n 0, 1) := by decide +kernel
theorem dX5_ofGame_1 : decode cX5_ofGame 1 = .ok (.iload_n 1, 1) := by decide +kernel
theorem dX5_ofGame_2 : decode cX5_ofGame 2 = .ok (.invokevirtual 75, 3) := by decide +kernel
theorem dX5_ofGame_5 : decode cX5_ofGame 5 = .ok (.astore_n 3, 1) := by decide +kernel
theorem dX5_ofGame_6 : decode cX5_ofGame 6 = .ok (.iload_n 2, 1) := by decide +kernel
theorem dX5_ofGame_7 : decode cX5_ofGame 7 = .ok (.tableswitch 85 0 7 #[45, 50, 55, 60, 65, 70, 75, 80], 45) := by decide +kernel
theorem dX5_ofGame_52 : decode cX5_ofGame 52 = .ok (.aload_n 3, 1) := by decide +kernel
theorem dX5_ofGame_53 : decode cX5_ofGame 53 = .ok (.getfield 114, 3) := by decide +kernel
theorem dX5_ofGame_56 : decode cX5_ofGame 56 = .ok (.ireturn, 1) := by decide +kernel
theorem dX5_ofGame_57 : decode cX5_ofGame 57 = .ok (.aload_n 3, 1) := by decide +kernel
theorem dX5_ofGame_58 : decode cX5_ofGame 58 = .ok (.getfield 169, 3) := by decide +kernel
theorem dX5_ofGame_61 : decode cX5_ofGame 61 = .ok (.ireturn, 1) := by decide +kernel
theorem dX5_ofGame_62 : decode cX5_ofGame 62 = .ok (.aload_n 3, 1) := by decide +kernel
theorem dX5_ofGame_63 : decode cX5_ofGame 63 = .ok (.getfield 95, 3) := by decide +kernel
theorem dX5_ofGame_66 : decode cX5_ofGame 66 = .ok (.ireturn, 1) := by decide +kernel
theorem dX5_ofGame_67 : decode cX5_ofGame 67 = .ok (.aload_n 3, 1) := by decide +kernel
theorem dX5_ofGame_68 : decode cX5_ofGame 68 = .ok (.getfield 172, 3) := by decide +kernel
theorem dX5_ofGame_71 : decode cX5_ofGame 71 = .ok (.ireturn, 1) := by decide +kernel
theorem dX5_ofGame_72 : decode cX5_ofGame 72 = .ok (.aload_n 3, 1) := by decide +kernel
theorem dX5_ofGame_73 : decode cX5_ofGame 73 = .ok (.getfield 175, 3) := by decide +kernel
theorem dX5_ofGame_76 : decode cX5_ofGame 76 = .ok (.ireturn, 1) := by decide +kernel
theorem dX5_ofGame_77 : decode cX5_ofGame 77 = .ok (.aload_n 3, 1) := by decide +kernel
theorem dX5_ofGame_78 : decode cX5_ofGame 78 = .ok (.getfield 178, 3) := by decide +kernel
theorem dX5_ofGame_81 : decode cX5_ofGame 81 = .ok (.ireturn, 1) := by decide +kernel
theorem dX5_ofGame_82 : decode cX5_ofGame 82 = .ok (.aload_n 3, 1) := by decide +kernel
theorem dX5_ofGame_83 : decode cX5_ofGame 83 = .ok (.invokevirtual 181, 3) := by decide +kernel
theorem dX5_ofGame_86 : decode cX5_ofGame 86 = .ok (.ireturn, 1) := by decide +kernel
theorem dX5_ofGame_87 : decode cX5_ofGame 87 = .ok (.aload_n 3, 1) := by decide +kernel
theorem dX5_ofGame_88 : decode cX5_ofGame 88 = .ok (.getfield 184, 3) := by decide +kernel
theorem dX5_ofGame_91 : decode cX5_ofGame 91 = .ok (.ireturn, 1) := by decide +kernel
theorem dX5_ofGame_92 : decode cX5_ofGame 92 = .ok (.new 57, 3) := by decide +kernel
theorem dX5_ofGame_95 : decode cX5_ofGame 95 = .ok (.dup, 1) := by decide +kernel
theorem dX5_ofGame_96 : decode cX5_ofGame 96 = .ok (.ldc 157, 2) := by decide +kernel
theorem dX5_ofGame_98 : decode cX5_ofGame 98 = .ok (.invokespecial 61, 3) := by decide +kernel
theorem dX5_ofGame_101 : decode cX5_ofGame 101 = .ok (.athrow, 1) := by decide +kernel
set_option maxRecDepth 20000 in
theorem ggX5_stone_X5_gameOf : GoodIn wsX5_stone wsX5_gameOf := goodIn_ca (goodIn_r _ [8, 1, 2, 9, 32, 33, 34, 35, 36, 37, 38, 39, 40] (by decide +kernel) (by decide +kernel)) (goodIn_sub (fun _ h => List.mem_cons_of_mem _ (List.mem_append_right _ h)) (by decide +kernel))
set_option maxRecDepth 20000 in
theorem gX5_stone_X5_gameOf : GoodIn wsX5_stone (wsV RX5 75 RX5 yX5_gameOf wsX5_gameOf) := goodIn_app (goodIn_of _ (by decide +kernel)) ggX5_stone_X5_gameOf
set_option maxRecDepth 20000 in
theorem ggX5_stone_X5_isWithin : GoodIn wsX5_stone wsX5_isWithin := goodIn_r _ [12] (by decide +kernel) (by decide +kernel)
set_option maxRecDepth 20000 in
theorem gX5_stone_X5_isWithin : GoodIn wsX5_stone (va_wsS RX5 43 yX5_isWithin wsX5_isWithin) := goodIn_app (goodIn_of _ (by decide +kernel)) ggX5_stone_X5_isWithin
set_option maxRecDepth 20000 in
theorem ggX5_stone_X3_placeOf : GoodIn wsX5_stone wsX3_placeOf := goodIn_r _ [17, 18, 41] (by decide +kernel) (by decide +kernel)
set_option maxRecDepth 20000 in
theorem gX5_stone_X3_placeOf : GoodIn wsX5_stone (wsV RX5 189 RX3 yX3_placeOf wsX3_placeOf) := goodIn_app (goodIn_of _ (by decide +kernel)) ggX5_stone_X3_placeOf
theorem dX5_stone_0 : decode cX5_stone 0 = .ok (.aload_n 0, 1) := by decide +kernel
theorem dX5_stone_1 : decode cX5_stone 1 = .ok (.iload_n 1, 1) := by decide +kernel
theorem dX5_stone_2 : decode cX5_stone 2 = .ok (.invokevirtual 75, 3) := by decide +kernel
theorem dX5_stone_5 : decode cX5_stone 5 = .ok (.astore 4, 2) := by decide +kernel
theorem dX5_stone_7 : decode cX5_stone 7 = .ok (.iload_n 2, 1) := by decide +kernel
theorem dX5_stone_8 : decode cX5_stone 8 = .ok (.iconst 0, 1) := by decide +kernel
theorem dX5_stone_9 : decode cX5_stone 9 = .ok (.iconst 1, 1) := by decide +kernel
theorem dX5_stone_10 : decode cX5_stone 10 = .ok (.invokestatic 43, 3) := by decide +kernel
theorem dX5_stone_13 : decode cX5_stone 13 = .ok (.ifCond .eq 12, 3) := by decide +kernel
theorem dX5_stone_16 : decode cX5_stone 16 = .ok (.iload_n 3, 1) := by decide +kernel
theorem dX5_stone_17 : decode cX5_stone 17 = .ok (.iconst 0, 1) := by decide +kernel
theorem dX5_stone_18 : decode cX5_stone 18 = .ok (.iconst 2, 1) := by decide +kernel
theorem dX5_stone_19 : decode cX5_stone 19 = .ok (.invokestatic 43, 3) := by decide +kernel
theorem dX5_stone_22 : decode cX5_stone 22 = .ok (.ifCond .ne 13, 3) := by decide +kernel
theorem dX5_stone_25 : decode cX5_stone 25 = .ok (.new 47, 3) := by decide +kernel
theorem dX5_stone_28 : decode cX5_stone 28 = .ok (.dup, 1) := by decide +kernel
theorem dX5_stone_29 : decode cX5_stone 29 = .ok (.ldc 187, 2) := by decide +kernel
theorem dX5_stone_31 : decode cX5_stone 31 = .ok (.invokespecial 51, 3) := by decide +kernel
theorem dX5_stone_34 : decode cX5_stone 34 = .ok (.athrow, 1) := by decide +kernel
theorem dX5_stone_35 : decode cX5_stone 35 = .ok (.aload 4, 2) := by decide +kernel
theorem dX5_stone_37 : decode cX5_stone 37 = .ok (.getfield 102, 3) := by decide +kernel
theorem dX5_stone_40 : decode cX5_stone 40 = .ok (.iload_n 2, 1) := by decide +kernel
theorem dX5_stone_41 : decode cX5_stone 41 = .ok (.iconst 3, 1) := by decide +kernel
theorem dX5_stone_42 : decode cX5_stone 42 = .ok (.imul, 1) := by decide +kernel
theorem dX5_stone_43 : decode cX5_stone 43 = .ok (.iload_n 3, 1) := by decide +kernel
theorem dX5_stone_44 : decode cX5_stone 44 = .ok (.iadd, 1) := by decide +kernel
theorem dX5_stone_45 : decode cX5_stone 45 = .ok (.invokevirtual 189, 3) := by decide +kernel
theorem dX5_stone_48 : decode cX5_stone 48 = .ok (.ireturn, 1) := by decide +kernel
set_option maxRecDepth 20000 in
theorem ggX5_wouldScore_X5_gameOf : GoodIn wsX5_wouldScore wsX5_gameOf := goodIn_ca (goodIn_r _ [6, 7, 8, 9, 51, 52, 53, 54, 55, 56, 57, 58, 59] (by decide +kernel) (by decide +kernel)) (goodIn_sub (fun _ h => List.mem_cons_of_mem _ (List.mem_append_right _ h)) (by decide +kernel))
set_option maxRecDepth 20000 in
theorem gX5_wouldScore_X5_gameOf : GoodIn wsX5_wouldScore (wsV RX5 75 RX5 yX5_gameOf wsX5_gameOf) := goodIn_app (goodIn_of _ (by decide +kernel)) ggX5_wouldScore_X5_gameOf
set_option maxRecDepth 20000 in
theorem ggX5_wouldScore_X3_score : GoodIn wsX5_wouldScore wsX3_score := goodIn_r _ [14, 15, 16, 17, 13, 18, 19, 20, 21, 22, 23, 24, 25, 26, 27, 28, 5, 29, 30, 31, 32, 33, 34, 35, 36, 37, 60] (by decide +kernel) (by decide +kernel)
set_option maxRecDepth 20000 in
theorem gX5_wouldScore_X3_score : GoodIn wsX5_wouldScore (wsV RX5 192 RX3 yX3_score wsX3_score) := goodIn_app (goodIn_of _ (by decide +kernel)) ggX5_wouldScore_X3_score
theorem dX5_wouldScore_0 : decode cX5_wouldScore 0 = .ok (.aload_n 0, 1) := by decide +kernel
theorem dX5_wouldScore_1 : decode cX5_wouldScore 1 = .ok (.iload_n 1, 1) := by decide +kernel
theorem dX5_wouldScore_2 : decode cX5_wouldScore 2 = .ok (.invokevirtual 75, 3) := by decide +kernel
theorem dX5_wouldScore_5 : decode cX5_wouldScore 5 = .ok (.getfield 102, 3) := by decide +kernel
theorem dX5_wouldScore_8 : decode cX5_wouldScore 8 = .ok (.invokevirtual 192, 3) := by decide +kernel
theorem dX5_wouldScore_11 : decode cX5_wouldScore 11 = .ok (.ireturn, 1) := by decide +kernel
set_option maxRecDepth 20000 in
theorem ggX5_wouldScoreAnew_X5_gameOf : GoodIn wsX5_wouldScoreAnew wsX5_gameOf := goodIn_ca (goodIn_r _ [6, 7, 8, 9, 46, 47, 48, 49, 50, 51, 52, 53, 54] (by decide +kernel) (by decide +kernel)) (goodIn_sub (fun _ h => List.mem_cons_of_mem _ (List.mem_append_right _ h)) (by decide +kernel))
set_option maxRecDepth 20000 in
theorem gX5_wouldScoreAnew_X5_gameOf : GoodIn wsX5_wouldScoreAnew (wsV RX5 75 RX5 yX5_gameOf wsX5_gameOf) := goodIn_app (goodIn_of _ (by decide +kernel)) ggX5_wouldScoreAnew_X5_gameOf
set_option maxRecDepth 20000 in
theorem ggX5_wouldScoreAnew_X3_scoreOneByOne : GoodIn wsX5_wouldScoreAnew wsX3_scoreOneByOne := goodIn_r _ [14, 15, 16, 17, 13, 18, 19, 20, 5, 21, 22, 23, 24, 25, 26, 27, 28, 29, 30, 31, 32, 55] (by decide +kernel) (by decide +kernel)
set_option maxRecDepth 20000 in
theorem gX5_wouldScoreAnew_X3_scoreOneByOne : GoodIn wsX5_wouldScoreAnew (wsV RX5 195 RX3 yX3_scoreOneByOne wsX3_scoreOneByOne) := goodIn_app (goodIn_of _ (by decide +kernel)) ggX5_wouldScoreAnew_X3_scoreOneByOne
theorem dX5_wouldScoreAnew_0 : decode cX5_wouldScoreAnew 0 = .ok (.aload_n 0, 1) := by decide +kernel
theorem dX5_wouldScoreAnew_1 : decode cX5_wouldScoreAnew 1 = .ok (.iload_n 1, 1) := by decide +kernel
theorem dX5_wouldScoreAnew_2 : decode cX5_wouldScoreAnew 2 = .ok (.invokevirtual 75, 3) := by decide +kernel
theorem dX5_wouldScoreAnew_5 : decode cX5_wouldScoreAnew 5 = .ok (.getfield 102, 3) := by decide +kernel
theorem dX5_wouldScoreAnew_8 : decode cX5_wouldScoreAnew 8 = .ok (.invokevirtual 195, 3) := by decide +kernel
theorem dX5_wouldScoreAnew_11 : decode cX5_wouldScoreAnew 11 = .ok (.ireturn, 1) := by decide +kernel
set_option maxRecDepth 20000 in
theorem ggX5_tries_X5_gameOf : GoodIn wsX5_tries wsX5_gameOf := goodIn_ca (goodIn_r _ [12, 13, 14, 15, 119, 120, 121, 122, 123, 124, 125, 126, 127] (by decide +kernel) (by decide +kernel)) (goodIn_sub (fun _ h => List.mem_cons_of_mem _ (List.mem_append_right _ h)) (by decide +kernel))
set_option maxRecDepth 20000 in
theorem gX5_tries_X5_gameOf : GoodIn wsX5_tries (wsV RX5 75 RX5 yX5_gameOf wsX5_gameOf) := goodIn_app (goodIn_of _ (by decide +kernel)) ggX5_tries_X5_gameOf
set_option maxRecDepth 20000 in
theorem ggX5_tries_X5_isShot : GoodIn wsX5_tries wsX5_isShot := goodIn_r _ [18, 19, 20, 11, 21] (by decide +kernel) (by decide +kernel)
set_option maxRecDepth 20000 in
theorem gX5_tries_X5_isShot : GoodIn wsX5_tries (va_wsS RX5 79 yX5_isShot wsX5_isShot) := goodIn_app (goodIn_of _ (by decide +kernel)) ggX5_tries_X5_isShot
set_option maxRecDepth 20000 in
theorem ggX5_tries_X0_isOnSheet : GoodIn wsX5_tries wsX0_isOnSheet := goodIn_r _ [26, 27, 128, 129, 130, 131, 132, 133, 134, 135, 136, 137, 138, 139, 140] (by decide +kernel) (by decide +kernel)
set_option maxRecDepth 20000 in
theorem gX5_tries_X0_isOnSheet : GoodIn wsX5_tries (wsV RX5 85 RX0 yX0_isOnSheet wsX0_isOnSheet) := goodIn_app (goodIn_of _ (by decide +kernel)) ggX5_tries_X0_isOnSheet
set_option maxRecDepth 20000 in
theorem ggX5_tries_X2_aim : GoodIn wsX5_tries wsX2_aim := goodIn_r _ [32, 33, 34, 35, 36, 37, 38, 141, 142, 143, 144, 145, 146, 147, 148, 149, 150] (by decide +kernel) (by decide +kernel)
set_option maxRecDepth 20000 in
theorem gX5_tries_X2_aim : GoodIn wsX5_tries (wsV RX5 91 RX2 yX2_aim wsX2_aim) := goodIn_app (goodIn_of _ (by decide +kernel)) ggX5_tries_X2_aim
set_option maxRecDepth 20000 in
theorem ggX5_tries_X5_sheetOf : GoodIn wsX5_tries wsX5_sheetOf := goodIn_ca (goodIn_r _ [42, 13, 14, 43, 119, 120, 121, 122, 123, 124, 125, 126, 127] (by decide +kernel) (by decide +kernel)) (goodIn_sub (fun _ h => List.mem_cons_of_mem _ (List.mem_append_right _ h)) (by decide +kernel))
set_option maxRecDepth 20000 in
theorem gX5_tries_X5_sheetOf : GoodIn wsX5_tries (wsV RX5 98 RX5 yX5_sheetOf wsX5_sheetOf) := goodIn_app (goodIn_of _ (by decide +kernel)) ggX5_tries_X5_sheetOf
set_option maxRecDepth 20000 in
theorem ggX5_tries_X0_nextStone : GoodIn wsX5_tries wsX0_nextStone := goodIn_r _ [47, 48, 49, 50, 51, 25, 52, 27, 53, 128, 129, 130, 131, 132, 133, 134, 135, 136, 137, 138, 139, 140] (by decide +kernel) (by decide +kernel)
set_option maxRecDepth 20000 in
theorem gX5_tries_X0_nextStone : GoodIn wsX5_tries (wsV RX5 106 RX0 yX0_nextStone wsX0_nextStone) := goodIn_app (goodIn_of _ (by decide +kernel)) ggX5_tries_X0_nextStone
set_option maxRecDepth 20000 in
theorem ggX5_tries_X2_run : GoodIn wsX5_tries wsX2_run := goodIn_r _ [57, 58, 59, 60, 61, 62, 63, 64, 65, 66, 67, 68, 69, 70, 71, 72, 73, 31, 74, 75, 34, 33, 36, 76, 77, 78, 79, 35, 80, 81, 82, 83, 84, 85, 86, 87, 88, 89, 37, 38, 20, 11, 21, 90, 91, 92, 93, 94, 95, 96, 97, 98, 99, 100, 101, 102, 103, 104, 105, 106, 107, 108, 109, 110, 111, 112, 113, 114, 115, 116, 117, 118, 141, 142, 143, 144, 145, 146, 147, 148, 149, 150, 151, 152, 153, 154] (by decide +kernel) (by decide +kernel)
set_option maxRecDepth 20000 in
theorem gX5_tries_X2_run : GoodIn wsX5_tries (wsV RX5 110 RX2 yX2_run wsX2_run) := goodIn_app (goodIn_of _ (by decide +kernel)) ggX5_tries_X2_run
theorem dX5_tries_0 : decode cX5_tries 0 = .ok (.aload_n 0, 1) := by decide +kernel
theorem dX5_tries_1 : decode cX5_tries 1 = .ok (.iload_n 1, 1) := by decide +kernel
theorem dX5_tries_2 : decode cX5_tries 2 = .ok (.invokevirtual 75, 3) := by decide +kernel
theorem dX5_tries_5 : decode cX5_tries 5 = .ok (.astore 7, 2) := by decide +kernel
theorem dX5_tries_7 : decode cX5_tries 7 = .ok (.iload_n 2, 1) := by decide +kernel
theorem dX5_tries_8 : decode cX5_tries 8 = .ok (.iload_n 3, 1) := by decide +kernel
theorem dX5_tries_9 : decode cX5_tries 9 = .ok (.iload 4, 2) := by decide +kernel
theorem dX5_tries_11 : decode cX5_tries 11 = .ok (.iload 5, 2) := by decide +kernel
theorem dX5_tries_13 : decode cX5_tries 13 = .ok (.iload 6, 2) := by decide +kernel
theorem dX5_tries_15 : decode cX5_tries 15 = .ok (.invokestatic 79, 3) := by decide +kernel
theorem dX5_tries_18 : decode cX5_tries 18 = .ok (.ifCond .ne 13, 3) := by decide +kernel
theorem dX5_tries_21 : decode cX5_tries 21 = .ok (.new 57, 3) := by decide +kernel
theorem dX5_tries_24 : decode cX5_tries 24 = .ok (.dup, 1) := by decide +kernel
theorem dX5_tries_25 : decode cX5_tries 25 = .ok (.ldc 83, 2) := by decide +kernel
theorem dX5_tries_27 : decode cX5_tries 27 = .ok (.invokespecial 61, 3) := by decide +kernel
theorem dX5_tries_30 : decode cX5_tries 30 = .ok (.athrow, 1) := by decide +kernel
theorem dX5_tries_31 : decode cX5_tries 31 = .ok (.aload 7, 2) := by decide +kernel
theorem dX5_tries_33 : decode cX5_tries 33 = .ok (.invokevirtual 85, 3) := by decide +kernel
theorem dX5_tries_36 : decode cX5_tries 36 = .ok (.ifCond .ne 13, 3) := by decide +kernel
theorem dX5_tries_39 : decode cX5_tries 39 = .ok (.new 65, 3) := by decide +kernel
theorem dX5_tries_42 : decode cX5_tries 42 = .ok (.dup, 1) := by decide +kernel
theorem dX5_tries_43 : decode cX5_tries 43 = .ok (.ldc 89, 2) := by decide +kernel
theorem dX5_tries_45 : decode cX5_tries 45 = .ok (.invokespecial 69, 3) := by decide +kernel
theorem dX5_tries_48 : decode cX5_tries 48 = .ok (.athrow, 1) := by decide +kernel
theorem dX5_tries_49 : decode cX5_tries 49 = .ok (.aload_n 0, 1) := by decide +kernel
theorem dX5_tries_50 : decode cX5_tries 50 = .ok (.getfield 32, 3) := by decide +kernel
theorem dX5_tries_53 : decode cX5_tries 53 = .ok (.iload_n 2, 1) := by decide +kernel
theorem dX5_tries_54 : decode cX5_tries 54 = .ok (.iload_n 3, 1) := by decide +kernel
theorem dX5_tries_55 : decode cX5_tries 55 = .ok (.iload 4, 2) := by decide +kernel
theorem dX5_tries_57 : decode cX5_tries 57 = .ok (.iload 5, 2) := by decide +kernel
theorem dX5_tries_59 : decode cX5_tries 59 = .ok (.iload 6, 2) := by decide +kernel
theorem dX5_tries_61 : decode cX5_tries 61 = .ok (.invokevirtual 91, 3) := by decide +kernel
theorem dX5_tries_64 : decode cX5_tries 64 = .ok (.aload_n 0, 1) := by decide +kernel
theorem dX5_tries_65 : decode cX5_tries 65 = .ok (.getfield 32, 3) := by decide +kernel
theorem dX5_tries_68 : decode cX5_tries 68 = .ok (.aload_n 0, 1) := by decide +kernel
theorem dX5_tries_69 : decode cX5_tries 69 = .ok (.aload 7, 2) := by decide +kernel
theorem dX5_tries_71 : decode cX5_tries 71 = .ok (.getfield 95, 3) := by decide +kernel
theorem dX5_tries_74 : decode cX5_tries 74 = .ok (.invokevirtual 98, 3) := by decide +kernel
theorem dX5_tries_77 : decode cX5_tries 77 = .ok (.aload 7, 2) := by decide +kernel
theorem dX5_tries_79 : decode cX5_tries 79 = .ok (.getfield 102, 3) := by decide +kernel
theorem dX5_tries_82 : decode cX5_tries 82 = .ok (.aload 7, 2) := by decide +kernel
theorem dX5_tries_84 : decode cX5_tries 84 = .ok (.invokevirtual 106, 3) := by decide +kernel
theorem dX5_tries_87 : decode cX5_tries 87 = .ok (.iconst 0, 1) := by decide +kernel
theorem dX5_tries_88 : decode cX5_tries 88 = .ok (.invokevirtual 110, 3) := by decide +kernel
theorem dX5_tries_91 : decode cX5_tries 91 = .ok (.ireturn, 1) := by decide +kernel
set_option maxRecDepth 20000 in
theorem ggX5_advice_X5_gameOf : GoodIn wsX5_advice wsX5_gameOf := goodIn_ca (goodIn_r _ [8, 9, 10, 11, 155, 156, 157, 158, 159, 160, 161, 162, 163] (by decide +kernel) (by decide +kernel)) (goodIn_sub (fun _ h => List.mem_cons_of_mem _ (List.mem_append_right _ h)) (by decide +kernel))
set_option maxRecDepth 20000 in
theorem gX5_advice_X5_gameOf : GoodIn wsX5_advice (wsV RX5 75 RX5 yX5_gameOf wsX5_gameOf) := goodIn_app (goodIn_of _ (by decide +kernel)) ggX5_advice_X5_gameOf
set_option maxRecDepth 20000 in
theorem ggX5_advice_X5_worthOfShot : GoodIn wsX5_advice wsX5_worthOfShot := goodIn_ca (goodIn_r _ [15, 16, 17, 18, 19, 20, 21, 22, 7, 23, 24, 25, 26, 27, 28, 29, 30, 31, 32, 33, 34, 35, 36, 37, 38, 39, 40, 41, 42, 9, 10, 43, 44, 45, 46, 47, 48, 49, 50, 51, 52, 53, 54, 55, 56, 57, 58, 59, 60, 61, 62, 63, 64, 65, 66, 67, 68, 69, 70, 71, 72, 73, 74, 75, 76, 77, 78, 79, 80, 81, 82, 83, 84, 85, 86, 87, 88, 89, 90, 91, 92, 93, 94, 95, 96, 97, 98, 99, 100, 101, 102, 103, 104, 105, 106, 107, 108, 109, 110, 111, 112, 113, 114, 115, 116, 117, 118, 119, 120, 121, 122, 123, 124, 125, 126, 127, 128, 129, 130, 131, 132, 133, 134, 135, 136, 137, 138, 139, 140, 141, 155, 156, 157, 158, 159, 160, 161, 162, 163, 142, 143, 144, 145, 146, 147, 148, 149, 150, 151, 152, 153, 154, 164, 165, 166, 167, 168, 169, 170, 171, 172, 173, 174, 175, 176, 177] (by decide +kernel) (by decide +kernel)) (goodIn_sub (fun _ h => List.mem_cons_of_mem _ (List.mem_append_right _ h)) (by decide +kernel))
set_option maxRecDepth 20000 in
theorem gX5_advice_X5_worthOfShot : GoodIn wsX5_advice (wsV RX5 200 RX5 yX5_worthOfShot wsX5_worthOfShot) := goodIn_app (goodIn_of _ (by decide +kernel)) ggX5_advice_X5_worthOfShot
theorem dX5_advice_0 : decode cX5_advice 0 = .ok (.aload_n 0, 1) := by decide +kernel
theorem dX5_advice_1 : decode cX5_advice 1 = .ok (.iload_n 1, 1) := by decide +kernel
theorem dX5_advice_2 : decode cX5_advice 2 = .ok (.invokevirtual 75, 3) := by decide +kernel
theorem dX5_advice_5 : decode cX5_advice 5 = .ok (.astore_n 2, 1) := by decide +kernel
theorem dX5_advice_6 : decode cX5_advice 6 = .ok (.aload_n 2, 1) := by decide +kernel
