set_option maxRecDepth 20000 in
theorem gX0_closeEnd_X3_takeAway : GoodIn wsX0_closeEnd (wsV RX0 59 RX3 yX3_takeAway wsX3_takeAway) := goodIn_app (goodIn_of _ (by decide +kernel)) ggX0_closeEnd_X3_takeAway
theorem dX0_closeEnd_0 : decode cX0_closeEnd 0 = .ok (.aload_n 0, 1) := by decide +kernel
theorem dX0_closeEnd_1 : decode cX0_closeEnd 1 = .ok (.getfield 12, 3) := by decide +kernel
theorem dX0_closeEnd_4 : decode cX0_closeEnd 4 = .ok (.invokevirtual 50, 3) := by decide +kernel
theorem dX0_closeEnd_7 : decode cX0_closeEnd 7 = .ok (.istore_n 1, 1) := by decide +kernel
theorem dX0_closeEnd_8 : decode cX0_closeEnd 8 = .ok (.iload_n 1, 1) := by decide +kernel
theorem dX0_closeEnd_9 : decode cX0_closeEnd 9 = .ok (.ifCond .le 21, 3) := by decide +kernel
theorem dX0_closeEnd_12 : decode cX0_closeEnd 12 = .ok (.aload_n 0, 1) := by decide +kernel
theorem dX0_closeEnd_13 : decode cX0_closeEnd 13 = .ok (.dup, 1) := by decide +kernel
theorem dX0_closeEnd_14 : decode cX0_closeEnd 14 = .ok (.getfield 53, 3) := by decide +kernel
theorem dX0_closeEnd_17 : decode cX0_closeEnd 17 = .ok (.iload_n 1, 1) := by decide +kernel
theorem dX0_closeEnd_18 : decode cX0_closeEnd 18 = .ok (.iadd, 1) := by decide +kernel
theorem dX0_closeEnd_19 : decode cX0_closeEnd 19 = .ok (.putfield 53, 3) := by decide +kernel
theorem dX0_closeEnd_22 : decode cX0_closeEnd 22 = .ok (.aload_n 0, 1) := by decide +kernel
theorem dX0_closeEnd_23 : decode cX0_closeEnd 23 = .ok (.iconst 1, 1) := by decide +kernel
theorem dX0_closeEnd_24 : decode cX0_closeEnd 24 = .ok (.putfield 25, 3) := by decide +kernel
theorem dX0_closeEnd_27 : decode cX0_closeEnd 27 = .ok (.goto 22, 3) := by decide +kernel
theorem dX0_closeEnd_30 : decode cX0_closeEnd 30 = .ok (.iload_n 1, 1) := by decide +kernel
theorem dX0_closeEnd_31 : decode cX0_closeEnd 31 = .ok (.ifCond .ge 18, 3) := by decide +kernel
theorem dX0_closeEnd_34 : decode cX0_closeEnd 34 = .ok (.aload_n 0, 1) := by decide +kernel
theorem dX0_closeEnd_35 : decode cX0_closeEnd 35 = .ok (.dup, 1) := by decide +kernel
theorem dX0_closeEnd_36 : decode cX0_closeEnd 36 = .ok (.getfield 56, 3) := by decide +kernel
theorem dX0_closeEnd_39 : decode cX0_closeEnd 39 = .ok (.iload_n 1, 1) := by decide +kernel
theorem dX0_closeEnd_40 : decode cX0_closeEnd 40 = .ok (.isub, 1) := by decide +kernel
theorem dX0_closeEnd_41 : decode cX0_closeEnd 41 = .ok (.putfield 56, 3) := by decide +kernel
theorem dX0_closeEnd_44 : decode cX0_closeEnd 44 = .ok (.aload_n 0, 1) := by decide +kernel
theorem dX0_closeEnd_45 : decode cX0_closeEnd 45 = .ok (.iconst 0, 1) := by decide +kernel
theorem dX0_closeEnd_46 : decode cX0_closeEnd 46 = .ok (.putfield 25, 3) := by decide +kernel
theorem dX0_closeEnd_49 : decode cX0_closeEnd 49 = .ok (.aload_n 0, 1) := by decide +kernel
theorem dX0_closeEnd_50 : decode cX0_closeEnd 50 = .ok (.getfield 12, 3) := by decide +kernel
theorem dX0_closeEnd_53 : decode cX0_closeEnd 53 = .ok (.invokevirtual 59, 3) := by decide +kernel
theorem dX0_closeEnd_56 : decode cX0_closeEnd 56 = .ok (.aload_n 0, 1) := by decide +kernel
theorem dX0_closeEnd_57 : decode cX0_closeEnd 57 = .ok (.iconst 0, 1) := by decide +kernel
theorem dX0_closeEnd_58 : decode cX0_closeEnd 58 = .ok (.putfield 40, 3) := by decide +kernel
theorem dX0_closeEnd_61 : decode cX0_closeEnd 61 = .ok (.aload_n 0, 1) := by decide +kernel
theorem dX0_closeEnd_62 : decode cX0_closeEnd 62 = .ok (.dup, 1) := by decide +kernel
theorem dX0_closeEnd_63 : decode cX0_closeEnd 63 = .ok (.getfield 62, 3) := by decide +kernel
theorem dX0_closeEnd_66 : decode cX0_closeEnd 66 = .ok (.iconst 1, 1) := by decide +kernel
theorem dX0_closeEnd_67 : decode cX0_closeEnd 67 = .ok (.iadd, 1) := by decide +kernel
theorem dX0_closeEnd_68 : decode cX0_closeEnd 68 = .ok (.putfield 62, 3) := by decide +kernel
theorem dX0_closeEnd_71 : decode cX0_closeEnd 71 = .ok (.return_, 1) := by decide +kernel
theorem dX1_init_0 : decode cX1_init 0 = .ok (.aload_n 0, 1) := by decide +kernel
theorem dX1_init_1 : decode cX1_init 1 = .ok (.invokespecial 3, 3) := by decide +kernel
theorem dX1_init_4 : decode cX1_init 4 = .ok (.aload_n 0, 1) := by decide +kernel
theorem dX1_init_5 : decode cX1_init 5 = .ok (.sipush 549, 3) := by decide +kernel
theorem dX1_init_8 : decode cX1_init 8 = .ok (.newarray .int, 2) := by decide +kernel
theorem dX1_init_10 : decode cX1_init 10 = .ok (.putfield 9, 3) := by decide +kernel
theorem dX1_init_13 : decode cX1_init 13 = .ok (.aload_n 0, 1) := by decide +kernel
theorem dX1_init_14 : decode cX1_init 14 = .ok (.iconst 1, 1) := by decide +kernel
theorem dX1_init_15 : decode cX1_init 15 = .ok (.putfield 15, 3) := by decide +kernel
theorem dX1_init_18 : decode cX1_init 18 = .ok (.aload_n 0, 1) := by decide +kernel
theorem dX1_init_19 : decode cX1_init 19 = .ok (.iconst (-1), 1) := by decide +kernel
theorem dX1_init_20 : decode cX1_init 20 = .ok (.putfield 19, 3) := by decide +kernel
theorem dX1_init_23 : decode cX1_init 23 = .ok (.return_, 1) := by decide +kernel
theorem dX1_isReady_0 : decode cX1_isReady 0 = .ok (.aload_n 0, 1) := by decide +kernel
theorem dX1_isReady_1 : decode cX1_isReady 1 = .ok (.getfield 15, 3) := by decide +kernel
theorem dX1_isReady_4 : decode cX1_isReady 4 = .ok (.ifCond .eq 15, 3) := by decide +kernel
theorem dX1_isReady_7 : decode cX1_isReady 7 = .ok (.aload_n 0, 1) := by decide +kernel
theorem dX1_isReady_8 : decode cX1_isReady 8 = .ok (.getfield 19, 3) := by decide +kernel
theorem dX1_isReady_11 : decode cX1_isReady 11 = .ok (.iconst (-1), 1) := by decide +kernel
theorem dX1_isReady_12 : decode cX1_isReady 12 = .ok (.if_icmp .ne 7, 3) := by decide +kernel
theorem dX1_isReady_15 : decode cX1_isReady 15 = .ok (.iconst 1, 1) := by decide +kernel
theorem dX1_isReady_16 : decode cX1_isReady 16 = .ok (.goto 4, 3) := by decide +kernel
theorem dX1_isReady_19 : decode cX1_isReady 19 = .ok (.iconst 0, 1) := by decide +kernel
theorem dX1_isReady_20 : decode cX1_isReady 20 = .ok (.ireturn, 1) := by decide +kernel
theorem dX1_wornAt_0 : decode cX1_wornAt 0 = .ok (.iload_n 1, 1) := by decide +kernel
theorem dX1_wornAt_1 : decode cX1_wornAt 1 = .ok (.bipush 61, 2) := by decide +kernel
theorem dX1_wornAt_3 : decode cX1_wornAt 3 = .ok (.imul, 1) := by decide +kernel
theorem dX1_wornAt_4 : decode cX1_wornAt 4 = .ok (.iload_n 2, 1) := by decide +kernel
theorem dX1_wornAt_5 : decode cX1_wornAt 5 = .ok (.iadd, 1) := by decide +kernel
theorem dX1_wornAt_6 : decode cX1_wornAt 6 = .ok (.istore_n 3, 1) := by decide +kernel
theorem dX1_wornAt_7 : decode cX1_wornAt 7 = .ok (.iload_n 3, 1) := by decide +kernel
theorem dX1_wornAt_8 : decode cX1_wornAt 8 = .ok (.ifCond .lt 21, 3) := by decide +kernel
theorem dX1_wornAt_11 : decode cX1_wornAt 11 = .ok (.iload_n 3, 1) := by decide +kernel
theorem dX1_wornAt_12 : decode cX1_wornAt 12 = .ok (.aload_n 0, 1) := by decide +kernel
theorem dX1_wornAt_13 : decode cX1_wornAt 13 = .ok (.getfield 9, 3) := by decide +kernel
theorem dX1_wornAt_16 : decode cX1_wornAt 16 = .ok (.arraylength, 1) := by decide +kernel
theorem dX1_wornAt_17 : decode cX1_wornAt 17 = .ok (.if_icmp .ge 12, 3) := by decide +kernel
theorem dX1_wornAt_20 : decode cX1_wornAt 20 = .ok (.aload_n 0, 1) := by decide +kernel
theorem dX1_wornAt_21 : decode cX1_wornAt 21 = .ok (.getfield 9, 3) := by decide +kernel
theorem dX1_wornAt_24 : decode cX1_wornAt 24 = .ok (.iload_n 3, 1) := by decide +kernel
theorem dX1_wornAt_25 : decode cX1_wornAt 25 = .ok (.iaload, 1) := by decide +kernel
theorem dX1_wornAt_26 : decode cX1_wornAt 26 = .ok (.goto 4, 3) := by decide +kernel
theorem dX1_wornAt_29 : decode cX1_wornAt 29 = .ok (.iconst 0, 1) := by decide +kernel
theorem dX1_wornAt_30 : decode cX1_wornAt 30 = .ok (.ireturn, 1) := by decide +kernel
theorem dX1_wearDown_0 : decode cX1_wearDown 0 = .ok (.iload_n 1, 1) := by decide +kernel
theorem dX1_wearDown_1 : decode cX1_wearDown 1 = .ok (.bipush 61, 2) := by decide +kernel
theorem dX1_wearDown_3 : decode cX1_wearDown 3 = .ok (.imul, 1) := by decide +kernel
theorem dX1_wearDown_4 : decode cX1_wearDown 4 = .ok (.iload_n 2, 1) := by decide +kernel
theorem dX1_wearDown_5 : decode cX1_wearDown 5 = .ok (.iadd, 1) := by decide +kernel
theorem dX1_wearDown_6 : decode cX1_wearDown 6 = .ok (.istore_n 3, 1) := by decide +kernel
theorem dX1_wearDown_7 : decode cX1_wearDown 7 = .ok (.iload_n 3, 1) := by decide +kernel
theorem dX1_wearDown_8 : decode cX1_wearDown 8 = .ok (.ifCond .lt 33, 3) := by decide +kernel
theorem dX1_wearDown_11 : decode cX1_wearDown 11 = .ok (.iload_n 3, 1) := by decide +kernel
theorem dX1_wearDown_12 : decode cX1_wearDown 12 = .ok (.aload_n 0, 1) := by decide +kernel
theorem dX1_wearDown_13 : decode cX1_wearDown 13 = .ok (.getfield 9, 3) := by decide +kernel
theorem dX1_wearDown_16 : decode cX1_wearDown 16 = .ok (.arraylength, 1) := by decide +kernel
theorem dX1_wearDown_17 : decode cX1_wearDown 17 = .ok (.if_icmp .ge 24, 3) := by decide +kernel
theorem dX1_wearDown_20 : decode cX1_wearDown 20 = .ok (.aload_n 0, 1) := by decide +kernel
theorem dX1_wearDown_21 : decode cX1_wearDown 21 = .ok (.getfield 9, 3) := by decide +kernel
theorem dX1_wearDown_24 : decode cX1_wearDown 24 = .ok (.iload_n 3, 1) := by decide +kernel
theorem dX1_wearDown_25 : decode cX1_wearDown 25 = .ok (.iaload, 1) := by decide +kernel
theorem dX1_wearDown_26 : decode cX1_wearDown 26 = .ok (.bipush 9, 2) := by decide +kernel
theorem dX1_wearDown_28 : decode cX1_wearDown 28 = .ok (.if_icmp .ge 13, 3) := by decide +kernel
theorem dX1_wearDown_31 : decode cX1_wearDown 31 = .ok (.aload_n 0, 1) := by decide +kernel
theorem dX1_wearDown_32 : decode cX1_wearDown 32 = .ok (.getfield 9, 3) := by decide +kernel
theorem dX1_wearDown_35 : decode cX1_wearDown 35 = .ok (.iload_n 3, 1) := by decide +kernel
theorem dX1_wearDown_36 : decode cX1_wearDown 36 = .ok (.dup2, 1) := by decide +kernel
theorem dX1_wearDown_37 : decode cX1_wearDown 37 = .ok (.iaload, 1) := by decide +kernel
theorem dX1_wearDown_38 : decode cX1_wearDown 38 = .ok (.iconst 1, 1) := by decide +kernel
theorem dX1_wearDown_39 : decode cX1_wearDown 39 = .ok (.iadd, 1) := by decide +kernel
theorem dX1_wearDown_40 : decode cX1_wearDown 40 = .ok (.iastore, 1) := by decide +kernel
theorem dX1_wearDown_41 : decode cX1_wearDown 41 = .ok (.return_, 1) := by decide +kernel
theorem dX1_allWorn_0 : decode cX1_allWorn 0 = .ok (.iconst 0, 1) := by decide +kernel
theorem dX1_allWorn_1 : decode cX1_allWorn 1 = .ok (.istore_n 1, 1) := by decide +kernel
theorem dX1_allWorn_2 : decode cX1_allWorn 2 = .ok (.iconst 0, 1) := by decide +kernel
theorem dX1_allWorn_3 : decode cX1_allWorn 3 = .ok (.istore_n 2, 1) := by decide +kernel
theorem dX1_allWorn_4 : decode cX1_allWorn 4 = .ok (.iload_n 2, 1) := by decide +kernel
theorem dX1_allWorn_5 : decode cX1_allWorn 5 = .ok (.aload_n 0, 1) := by decide +kernel
theorem dX1_allWorn_6 : decode cX1_allWorn 6 = .ok (.getfield 9, 3) := by decide +kernel
theorem dX1_allWorn_9 : decode cX1_allWorn 9 = .ok (.arraylength, 1) := by decide +kernel
theorem dX1_allWorn_10 : decode cX1_allWorn 10 = .ok (.if_icmp .ge 18, 3) := by decide +kernel
theorem dX1_allWorn_13 : decode cX1_allWorn 13 = .ok (.iload_n 1, 1) := by decide +kernel
theorem dX1_allWorn_14 : decode cX1_allWorn 14 = .ok (.aload_n 0, 1) := by decide +kernel
theorem dX1_allWorn_15 : decode cX1_allWorn 15 = .ok (.getfield 9, 3) := by decide +kernel
theorem dX1_allWorn_18 : decode cX1_allWorn 18 = .ok (.iload_n 2, 1) := by decide +kernel
theorem dX1_allWorn_19 : decode cX1_allWorn 19 = .ok (.iaload, 1) := by decide +kernel
theorem dX1_allWorn_20 : decode cX1_allWorn 20 = .ok (.iadd, 1) := by decide +kernel
theorem dX1_allWorn_21 : decode cX1_allWorn 21 = .ok (.istore_n 1, 1) := by decide +kernel
theorem dX1_allWorn_22 : decode cX1_allWorn 22 = .ok (.iinc 2 1, 3) := by decide +kernel
theorem dX1_allWorn_25 : decode cX1_allWorn 25 = .ok (.goto (-21), 3) := by decide +kernel
theorem dX1_allWorn_28 : decode cX1_allWorn 28 = .ok (.iload_n 1, 1) := by decide +kernel
theorem dX1_allWorn_29 : decode cX1_allWorn 29 = .ok (.ireturn, 1) := by decide +kernel
theorem dX1_renew_0 : decode cX1_renew 0 = .ok (.aload_n 0, 1) := by decide +kernel
theorem dX1_renew_1 : decode cX1_renew 1 = .ok (.iconst 1, 1) := by decide +kernel
theorem dX1_renew_2 : decode cX1_renew 2 = .ok (.putfield 15, 3) := by decide +kernel
theorem dX1_renew_5 : decode cX1_renew 5 = .ok (.iconst 0, 1) := by decide +kernel
theorem dX1_renew_6 : decode cX1_renew 6 = .ok (.istore_n 1, 1) := by decide +kernel
theorem dX1_renew_7 : decode cX1_renew 7 = .ok (.iload_n 1, 1) := by decide +kernel
theorem dX1_renew_8 : decode cX1_renew 8 = .ok (.aload_n 0, 1) := by decide +kernel
theorem dX1_renew_9 : decode cX1_renew 9 = .ok (.getfield 9, 3) := by decide +kernel
theorem dX1_renew_12 : decode cX1_renew 12 = .ok (.arraylength, 1) := by decide +kernel
theorem dX1_renew_13 : decode cX1_renew 13 = .ok (.if_icmp .ge 16, 3) := by decide +kernel
theorem dX1_renew_16 : decode cX1_renew 16 = .ok (.aload_n 0, 1) := by decide +kernel
theorem dX1_renew_17 : decode cX1_renew 17 = .ok (.getfield 9, 3) := by decide +kernel
theorem dX1_renew_20 : decode cX1_renew 20 = .ok (.iload_n 1, 1) := by decide +kernel
theorem dX1_renew_21 : decode cX1_renew 21 = .ok (.iconst 0, 1) := by decide +kernel
theorem dX1_renew_22 : decode cX1_renew 22 = .ok (.iastore, 1) := by decide +kernel
theorem dX1_renew_23 : decode cX1_renew 23 = .ok (.iinc 1 1, 3) := by decide +kernel
theorem dX1_renew_26 : decode cX1_renew 26 = .ok (.goto (-19), 3) := by decide +kernel
theorem dX1_renew_29 : decode cX1_renew 29 = .ok (.return_, 1) := by decide +kernel
set_option maxRecDepth 20000 in
theorem ggX2_init_X3_init : GoodIn wsX2_init wsX3_init := goodIn_r _ [11, 12, 2, 3, 13, 14, 15, 16, 17, 6, 18, 19] (by decide +kernel) (by decide +kernel)
set_option maxRecDepth 20000 in
theorem gX2_init_X3_init : GoodIn wsX2_init (wsX3_init) := ggX2_init_X3_init
theorem dX2_init_0 : decode cX2_init 0 = .ok (.aload_n 0, 1) := by decide +kernel
theorem dX2_init_1 : decode cX2_init 1 = .ok (.invokespecial 3, 3) := by decide +kernel
theorem dX2_init_4 : decode cX2_init 4 = .ok (.aload_n 0, 1) := by decide +kernel
theorem dX2_init_5 : decode cX2_init 5 = .ok (.new 9, 3) := by decide +kernel
theorem dX2_init_8 : decode cX2_init 8 = .ok (.dup, 1) := by decide +kernel
theorem dX2_init_9 : decode cX2_init 9 = .ok (.invokespecial 11, 3) := by decide +kernel
theorem dX2_init_12 : decode cX2_init 12 = .ok (.putfield 12, 3) := by decide +kernel
theorem dX2_init_15 : decode cX2_init 15 = .ok (.aload_n 0, 1) := by decide +kernel
theorem dX2_init_16 : decode cX2_init 16 = .ok (.iconst (-1), 1) := by decide +kernel
theorem dX2_init_17 : decode cX2_init 17 = .ok (.putfield 18, 3) := by decide +kernel
theorem dX2_init_20 : decode cX2_init 20 = .ok (.return_, 1) := by decide +kernel
theorem dX2_aim_0 : decode cX2_aim 0 = .ok (.aload_n 0, 1) := by decide +kernel
theorem dX2_aim_1 : decode cX2_aim 1 = .ok (.iload_n 1, 1) := by decide +kernel
theorem dX2_aim_2 : decode cX2_aim 2 = .ok (.putfield 22, 3) := by decide +kernel
theorem dX2_aim_5 : decode cX2_aim 5 = .ok (.aload_n 0, 1) := by decide +kernel
theorem dX2_aim_6 : decode cX2_aim 6 = .ok (.iconst 0, 1) := by decide +kernel
theorem dX2_aim_7 : decode cX2_aim 7 = .ok (.putfield 25, 3) := by decide +kernel
theorem dX2_aim_10 : decode cX2_aim 10 = .ok (.aload_n 0, 1) := by decide +kernel
theorem dX2_aim_11 : decode cX2_aim 11 = .ok (.bipush 10, 2) := by decide +kernel
theorem dX2_aim_13 : decode cX2_aim 13 = .ok (.iload_n 2, 1) := by decide +kernel
theorem dX2_aim_14 : decode cX2_aim 14 = .ok (.imul, 1) := by decide +kernel
theorem dX2_aim_15 : decode cX2_aim 15 = .ok (.putfield 28, 3) := by decide +kernel
theorem dX2_aim_18 : decode cX2_aim 18 = .ok (.aload_n 0, 1) := by decide +kernel
theorem dX2_aim_19 : decode cX2_aim 19 = .ok (.iload_n 3, 1) := by decide +kernel
theorem dX2_aim_20 : decode cX2_aim 20 = .ok (.putfield 31, 3) := by decide +kernel
theorem dX2_aim_23 : decode cX2_aim 23 = .ok (.aload_n 0, 1) := by decide +kernel
theorem dX2_aim_24 : decode cX2_aim 24 = .ok (.iload 4, 2) := by decide +kernel
theorem dX2_aim_26 : decode cX2_aim 26 = .ok (.putfield 34, 3) := by decide +kernel
theorem dX2_aim_29 : decode cX2_aim 29 = .ok (.aload_n 0, 1) := by decide +kernel
theorem dX2_aim_30 : decode cX2_aim 30 = .ok (.iload 5, 2) := by decide +kernel
theorem dX2_aim_32 : decode cX2_aim 32 = .ok (.putfield 37, 3) := by decide +kernel
theorem dX2_aim_35 : decode cX2_aim 35 = .ok (.return_, 1) := by decide +kernel
set_option maxRecDepth 20000 in
theorem ggX2_run_X3_copyFrom : GoodIn wsX2_run wsX3_copyFrom := goodIn_r _ [8, 9, 10, 11, 12, 7, 13, 82] (by decide +kernel) (by decide +kernel)
set_option maxRecDepth 20000 in
theorem gX2_run_X3_copyFrom : GoodIn wsX2_run (wsV RX2 40 RX3 yX3_copyFrom wsX3_copyFrom) := goodIn_app (goodIn_of _ (by decide +kernel)) ggX2_run_X3_copyFrom
set_option maxRecDepth 20000 in
theorem ggX2_run_X2_glide : GoodIn wsX2_run wsX2_glide := goodIn_r _ [18, 3, 19, 20, 21, 22, 23, 24, 25, 17, 26, 27, 1, 2, 28, 29, 30, 31, 32, 33, 34, 35, 36, 37, 38, 39, 40, 41, 42, 43, 44, 45, 7, 46, 9, 47, 48, 49, 50, 51, 52, 53, 54, 55, 56, 57, 58, 59, 60, 61, 62, 72, 73, 74, 75, 76, 77, 78, 79, 80, 81, 83, 84, 85, 82] (by decide +kernel) (by decide +kernel)
set_option maxRecDepth 20000 in
theorem gX2_run_X2_glide : GoodIn wsX2_run (wsV RX2 48 RX2 yX2_glide wsX2_glide) := goodIn_app (goodIn_of _ (by decide +kernel)) ggX2_run_X2_glide
set_option maxRecDepth 20000 in
theorem ggX2_run_X3_put : GoodIn wsX2_run wsX3_put := goodIn_r _ [66, 9, 82] (by decide +kernel) (by decide +kernel)
set_option maxRecDepth 20000 in
theorem gX2_run_X3_put : GoodIn wsX2_run (wsV RX2 52 RX3 yX3_put wsX3_put) := goodIn_app (goodIn_of _ (by decide +kernel)) ggX2_run_X3_put
set_option maxRecDepth 20000 in
theorem ggX2_run_X3_placeOf : GoodIn wsX2_run wsX3_placeOf := goodIn_r _ [13, 9, 82] (by decide +kernel) (by decide +kernel)
set_option maxRecDepth 20000 in
theorem gX2_run_X3_placeOf : GoodIn wsX2_run (wsV RX2 56 RX3 yX3_placeOf wsX3_placeOf) := goodIn_app (goodIn_of _ (by decide +kernel)) ggX2_run_X3_placeOf
set_option maxRecDepth 20000 in
theorem ggX2_run_X2_aimPushed : GoodIn wsX2_run wsX2_aimPushed := goodIn_r _ [71, 21, 20, 22, 38, 39, 72, 73, 74, 75, 76, 77, 78, 79, 80, 81] (by decide +kernel) (by decide +kernel)
set_option maxRecDepth 20000 in
theorem gX2_run_X2_aimPushed : GoodIn wsX2_run (wsV RX2 60 RX2 yX2_aimPushed wsX2_aimPushed) := goodIn_app (goodIn_of _ (by decide +kernel)) ggX2_run_X2_aimPushed
theorem dX2_run_0 : decode cX2_run 0 = .ok (.aload_n 0, 1) := by decide +kernel
theorem dX2_run_1 : decode cX2_run 1 = .ok (.getfield 12, 3) := by decide +kernel
theorem dX2_run_4 : decode cX2_run 4 = .ok (.aload_n 2, 1) := by decide +kernel
theorem dX2_run_5 : decode cX2_run 5 = .ok (.invokevirtual 40, 3) := by decide +kernel
theorem dX2_run_8 : decode cX2_run 8 = .ok (.aload_n 0, 1) := by decide +kernel
theorem dX2_run_9 : decode cX2_run 9 = .ok (.iload 4, 2) := by decide +kernel
theorem dX2_run_11 : decode cX2_run 11 = .ok (.putfield 44, 3) := by decide +kernel
theorem dX2_run_14 : decode cX2_run 14 = .ok (.aload_n 0, 1) := by decide +kernel
theorem dX2_run_15 : decode cX2_run 15 = .ok (.aload_n 1, 1) := by decide +kernel
theorem dX2_run_16 : decode cX2_run 16 = .ok (.invokevirtual 48, 3) := by decide +kernel
theorem dX2_run_19 : decode cX2_run 19 = .ok (.istore 5, 2) := by decide +kernel
theorem dX2_run_21 : decode cX2_run 21 = .ok (.aload_n 0, 1) := by decide +kernel
theorem dX2_run_22 : decode cX2_run 22 = .ok (.getfield 12, 3) := by decide +kernel
theorem dX2_run_25 : decode cX2_run 25 = .ok (.iload_n 3, 1) := by decide +kernel
theorem dX2_run_26 : decode cX2_run 26 = .ok (.iload 5, 2) := by decide +kernel
theorem dX2_run_28 : decode cX2_run 28 = .ok (.invokevirtual 52, 3) := by decide +kernel
theorem dX2_run_31 : decode cX2_run 31 = .ok (.iconst 0, 1) := by decide +kernel
theorem dX2_run_32 : decode cX2_run 32 = .ok (.istore 6, 2) := by decide +kernel
theorem dX2_run_34 : decode cX2_run 34 = .ok (.iload 6, 2) := by decide +kernel
theorem dX2_run_36 : decode cX2_run 36 = .ok (.bipush 6, 2) := by decide +kernel
theorem dX2_run_38 : decode cX2_run 38 = .ok (.if_icmp .ge 50, 3) := by decide +kernel
theorem dX2_run_41 : decode cX2_run 41 = .ok (.aload_n 0, 1) := by decide +kernel
theorem dX2_run_42 : decode cX2_run 42 = .ok (.getfield 18, 3) := by decide +kernel
theorem dX2_run_45 : decode cX2_run 45 = .ok (.iconst (-1), 1) := by decide +kernel
theorem dX2_run_46 : decode cX2_run 46 = .ok (.if_icmp .eq 42, 3) := by decide +kernel
theorem dX2_run_49 : decode cX2_run 49 = .ok (.aload_n 0, 1) := by decide +kernel
theorem dX2_run_50 : decode cX2_run 50 = .ok (.getfield 18, 3) := by decide +kernel
theorem dX2_run_53 : decode cX2_run 53 = .ok (.istore 7, 2) := by decide +kernel
theorem dX2_run_55 : decode cX2_run 55 = .ok (.aload_n 0, 1) := by decide +kernel
theorem dX2_run_56 : decode cX2_run 56 = .ok (.aload_n 0, 1) := by decide +kernel
theorem dX2_run_57 : decode cX2_run 57 = .ok (.getfield 12, 3) := by decide +kernel
theorem dX2_run_60 : decode cX2_run 60 = .ok (.iload 7, 2) := by decide +kernel
theorem dX2_run_62 : decode cX2_run 62 = .ok (.invokevirtual 56, 3) := by decide +kernel
theorem dX2_run_65 : decode cX2_run 65 = .ok (.invokevirtual 60, 3) := by decide +kernel
theorem dX2_run_68 : decode cX2_run 68 = .ok (.aload_n 0, 1) := by decide +kernel
theorem dX2_run_69 : decode cX2_run 69 = .ok (.getfield 12, 3) := by decide +kernel
theorem dX2_run_72 : decode cX2_run 72 = .ok (.iload 7, 2) := by decide +kernel
theorem dX2_run_74 : decode cX2_run 74 = .ok (.aload_n 0, 1) := by decide +kernel
theorem dX2_run_75 : decode cX2_run 75 = .ok (.aload_n 1, 1) := by decide +kernel
theorem dX2_run_76 : decode cX2_run 76 = .ok (.invokevirtual 48, 3) := by decide +kernel
theorem dX2_run_79 : decode cX2_run 79 = .ok (.invokevirtual 52, 3) := by decide +kernel
theorem dX2_run_82 : decode cX2_run 82 = .ok (.iinc 6 1, 3) := by decide +kernel
theorem dX2_run_85 : decode cX2_run 85 = .ok (.goto (-51), 3) := by decide +kernel
theorem dX2_run_88 : decode cX2_run 88 = .ok (.iload 5, 2) := by decide +kernel
theorem dX2_run_90 : decode cX2_run 90 = .ok (.ireturn, 1) := by decide +kernel
theorem dX2_aimPushed_0 : decode cX2_aimPushed 0 = .ok (.aload_n 0, 1) := by decide +kernel
theorem dX2_aimPushed_1 : decode cX2_aimPushed 1 = .ok (.iload_n 1, 1) := by decide +kernel
theorem dX2_aimPushed_2 : decode cX2_aimPushed 2 = .ok (.bipush 100, 2) := by decide +kernel
theorem dX2_aimPushed_4 : decode cX2_aimPushed 4 = .ok (.idiv, 1) := by decide +kernel
theorem dX2_aimPushed_5 : decode cX2_aimPushed 5 = .ok (.putfield 22, 3) := by decide +kernel
theorem dX2_aimPushed_8 : decode cX2_aimPushed 8 = .ok (.aload_n 0, 1) := by decide +kernel
theorem dX2_aimPushed_9 : decode cX2_aimPushed 9 = .ok (.iload_n 1, 1) := by decide +kernel
theorem dX2_aimPushed_10 : decode cX2_aimPushed 10 = .ok (.bipush 100, 2) := by decide +kernel
theorem dX2_aimPushed_12 : decode cX2_aimPushed 12 = .ok (.irem, 1) := by decide +kernel
theorem dX2_aimPushed_13 : decode cX2_aimPushed 13 = .ok (.putfield 25, 3) := by decide +kernel
theorem dX2_aimPushed_16 : decode cX2_aimPushed 16 = .ok (.aload_n 0, 1) := by decide +kernel
theorem dX2_aimPushed_17 : decode cX2_aimPushed 17 = .ok (.iconst 0, 1) := by decide +kernel
theorem dX2_aimPushed_18 : decode cX2_aimPushed 18 = .ok (.putfield 31, 3) := by decide +kernel
theorem dX2_aimPushed_21 : decode cX2_aimPushed 21 = .ok (.aload_n 0, 1) := by decide +kernel
theorem dX2_aimPushed_22 : decode cX2_aimPushed 22 = .ok (.iconst 1, 1) := by decide +kernel
theorem dX2_aimPushed_23 : decode cX2_aimPushed 23 = .ok (.putfield 34, 3) := by decide +kernel
theorem dX2_aimPushed_26 : decode cX2_aimPushed 26 = .ok (.aload_n 0, 1) := by decide +kernel
theorem dX2_aimPushed_27 : decode cX2_aimPushed 27 = .ok (.iconst 0, 1) := by decide +kernel
theorem dX2_aimPushed_28 : decode cX2_aimPushed 28 = .ok (.putfield 37, 3) := by decide +kernel
theorem dX2_aimPushed_31 : decode cX2_aimPushed 31 = .ok (.return_, 1) := by decide +kernel
set_option maxRecDepth 20000 in
theorem ggX2_glide_X2_stepsForward : GoodIn wsX2_glide wsX2_stepsForward := goodIn_r _ [10, 3, 4, 11, 12, 1, 13, 14, 15, 16, 17, 18, 19, 20, 21, 22, 9, 23, 24, 25, 26, 27, 28, 29, 30, 31, 32, 33, 34, 35, 36, 37, 38, 51, 52, 53, 54, 55, 56, 57, 58, 59, 60, 61, 62, 63, 64] (by decide +kernel) (by decide +kernel)
set_option maxRecDepth 20000 in
theorem gX2_glide_X2_stepsForward : GoodIn wsX2_glide (wsV RX2 67 RX2 yX2_stepsForward wsX2_stepsForward) := goodIn_app (goodIn_of _ (by decide +kernel)) ggX2_glide_X2_stepsForward
set_option maxRecDepth 20000 in
theorem ggX2_glide_X2_restingPlace : GoodIn wsX2_glide wsX2_restingPlace := goodIn_r _ [42, 3, 4, 51, 52, 53, 54, 55, 56, 57, 58, 59, 60] (by decide +kernel) (by decide +kernel)
set_option maxRecDepth 20000 in
theorem gX2_glide_X2_restingPlace : GoodIn wsX2_glide (wsV RX2 71 RX2 yX2_restingPlace wsX2_restingPlace) := goodIn_app (goodIn_of _ (by decide +kernel)) ggX2_glide_X2_restingPlace
set_option maxRecDepth 20000 in
theorem ggX2_glide_X2_mustMoveAside : GoodIn wsX2_glide wsX2_mustMoveAside := goodIn_r _ [46, 5, 3, 2, 11, 20, 21, 22, 9, 23, 24, 25, 26, 27, 28, 51, 52, 53, 54, 55, 56, 57, 58, 59, 60] (by decide +kernel) (by decide +kernel)
set_option maxRecDepth 20000 in
theorem gX2_glide_X2_mustMoveAside : GoodIn wsX2_glide (wsV RX2 75 RX2 yX2_mustMoveAside wsX2_mustMoveAside) := goodIn_app (goodIn_of _ (by decide +kernel)) ggX2_glide_X2_mustMoveAside
set_option maxRecDepth 20000 in
theorem ggX2_glide_X5_isWithin : GoodIn wsX2_glide wsX5_isWithin := goodIn_r _ [28] (by decide +kernel) (by decide +kernel)
set_option maxRecDepth 20000 in
theorem gX2_glide_X5_isWithin_n79 : GoodIn wsX2_glide (wsX5_isWithin) := ggX2_glide_X5_isWithin
set_option maxRecDepth 20000 in
theorem ggX2_glide_X2_movesAside : GoodIn wsX2_glide wsX2_movesAside := goodIn_r _ [50, 12, 4, 5, 3, 1, 11, 2, 29, 30, 31, 32, 33, 34, 51, 52, 53, 54, 55, 56, 57, 58, 59, 60, 64] (by decide +kernel) (by decide +kernel)
set_option maxRecDepth 20000 in
theorem gX2_glide_X2_movesAside : GoodIn wsX2_glide (wsV RX2 83 RX2 yX2_movesAside wsX2_movesAside) := goodIn_app (goodIn_of _ (by decide +kernel)) ggX2_glide_X2_movesAside
theorem dX2_glide_0 : decode cX2_glide 0 = .ok (.aload_n 0, 1) := by decide +kernel
theorem dX2_glide_1 : decode cX2_glide 1 = .ok (.iconst (-1), 1) := by decide +kernel
theorem dX2_glide_2 : decode cX2_glide 2 = .ok (.putfield 18, 3) := by decide +kernel
theorem dX2_glide_5 : decode cX2_glide 5 = .ok (.aload_n 0, 1) := by decide +kernel
theorem dX2_glide_6 : decode cX2_glide 6 = .ok (.iconst 0, 1) := by decide +kernel
theorem dX2_glide_7 : decode cX2_glide 7 = .ok (.putfield 64, 3) := by decide +kernel
theorem dX2_glide_10 : decode cX2_glide 10 = .ok (.iconst 0, 1) := by decide +kernel
theorem dX2_glide_11 : decode cX2_glide 11 = .ok (.istore_n 2, 1) := by decide +kernel
theorem dX2_glide_12 : decode cX2_glide 12 = .ok (.iload_n 2, 1) := by decide +kernel
theorem dX2_glide_13 : decode cX2_glide 13 = .ok (.bipush 60, 2) := by decide +kernel
theorem dX2_glide_15 : decode cX2_glide 15 = .ok (.if_icmp .ge 75, 3) := by decide +kernel
theorem dX2_glide_18 : decode cX2_glide 18 = .ok (.aload_n 0, 1) := by decide +kernel
theorem dX2_glide_19 : decode cX2_glide 19 = .ok (.aload_n 1, 1) := by decide +kernel
theorem dX2_glide_20 : decode cX2_glide 20 = .ok (.invokevirtual 67, 3) := by decide +kernel
theorem dX2_glide_23 : decode cX2_glide 23 = .ok (.ifCond .ne 8, 3) := by decide +kernel
theorem dX2_glide_26 : decode cX2_glide 26 = .ok (.aload_n 0, 1) := by decide +kernel
theorem dX2_glide_27 : decode cX2_glide 27 = .ok (.invokevirtual 71, 3) := by decide +kernel
theorem dX2_glide_30 : decode cX2_glide 30 = .ok (.ireturn, 1) := by decide +kernel
theorem dX2_glide_31 : decode cX2_glide 31 = .ok (.aload_n 0, 1) := by decide +kernel
theorem dX2_glide_32 : decode cX2_glide 32 = .ok (.getfield 25, 3) := by decide +kernel
theorem dX2_glide_35 : decode cX2_glide 35 = .ok (.bipush 60, 2) := by decide +kernel
theorem dX2_glide_37 : decode cX2_glide 37 = .ok (.if_icmp .lt 5, 3) := by decide +kernel
theorem dX2_glide_40 : decode cX2_glide 40 = .ok (.iconst (-1), 1) := by decide +kernel
theorem dX2_glide_41 : decode cX2_glide 41 = .ok (.ireturn, 1) := by decide +kernel
theorem dX2_glide_42 : decode cX2_glide 42 = .ok (.aload_n 0, 1) := by decide +kernel
theorem dX2_glide_43 : decode cX2_glide 43 = .ok (.invokevirtual 75, 3) := by decide +kernel
theorem dX2_glide_46 : decode cX2_glide 46 = .ok (.ifCond .ne 6, 3) := by decide +kernel
theorem dX2_glide_49 : decode cX2_glide 49 = .ok (.goto 35, 3) := by decide +kernel
theorem dX2_glide_52 : decode cX2_glide 52 = .ok (.aload_n 0, 1) := by decide +kernel
theorem dX2_glide_53 : decode cX2_glide 53 = .ok (.getfield 22, 3) := by decide +kernel
theorem dX2_glide_56 : decode cX2_glide 56 = .ok (.aload_n 0, 1) := by decide +kernel
theorem dX2_glide_57 : decode cX2_glide 57 = .ok (.getfield 31, 3) := by decide +kernel
theorem dX2_glide_60 : decode cX2_glide 60 = .ok (.iadd, 1) := by decide +kernel
theorem dX2_glide_61 : decode cX2_glide 61 = .ok (.iconst 0, 1) := by decide +kernel
theorem dX2_glide_62 : decode cX2_glide 62 = .ok (.bipush 8, 2) := by decide +kernel
theorem dX2_glide_64 : decode cX2_glide 64 = .ok (.invokestatic 79, 3) := by decide +kernel
theorem dX2_glide_67 : decode cX2_glide 67 = .ok (.ifCond .ne 5, 3) := by decide +kernel
theorem dX2_glide_70 : decode cX2_glide 70 = .ok (.iconst (-1), 1) := by decide +kernel
theorem dX2_glide_71 : decode cX2_glide 71 = .ok (.ireturn, 1) := by decide +kernel
theorem dX2_glide_72 : decode cX2_glide 72 = .ok (.aload_n 0, 1) := by decide +kernel
theorem dX2_glide_73 : decode cX2_glide 73 = .ok (.invokevirtual 83, 3) := by decide +kernel
theorem dX2_glide_76 : decode cX2_glide 76 = .ok (.ifCond .ne 8, 3) := by decide +kernel
theorem dX2_glide_79 : decode cX2_glide 79 = .ok (.aload_n 0, 1) := by decide +kernel
theorem dX2_glide_80 : decode cX2_glide 80 = .ok (.invokevirtual 71, 3) := by decide +kernel
theorem dX2_glide_83 : decode cX2_glide 83 = .ok (.ireturn, 1) := by decide +kernel
theorem dX2_glide_84 : decode cX2_glide 84 = .ok (.iinc 2 1, 3) := by decide +kernel
theorem dX2_glide_87 : decode cX2_glide 87 = .ok (.goto (-75), 3) := by decide +kernel
theorem dX2_glide_90 : decode cX2_glide 90 = .ok (.iconst (-1), 1) := by decide +kernel
theorem dX2_glide_91 : decode cX2_glide 91 = .ok (.ireturn, 1) := by decide +kernel
set_option maxRecDepth 20000 in
theorem ggX2_isSwept_X5_isWithin : GoodIn wsX2_isSwept wsX5_isWithin := goodIn_r _ [5] (by decide +kernel) (by decide +kernel)
set_option maxRecDepth 20000 in
theorem gX2_isSwept_X5_isWithin_n79 : GoodIn wsX2_isSwept (wsX5_isWithin) := ggX2_isSwept_X5_isWithin
theorem dX2_isSwept_0 : decode cX2_isSwept 0 = .ok (.iload_n 1, 1) := by decide +kernel
theorem dX2_isSwept_1 : decode cX2_isSwept 1 = .ok (.aload_n 0, 1) := by decide +kernel
theorem dX2_isSwept_2 : decode cX2_isSwept 2 = .ok (.getfield 34, 3) := by decide +kernel
theorem dX2_isSwept_5 : decode cX2_isSwept 5 = .ok (.aload_n 0, 1) := by decide +kernel
theorem dX2_isSwept_6 : decode cX2_isSwept 6 = .ok (.getfield 37, 3) := by decide +kernel
theorem dX2_isSwept_9 : decode cX2_isSwept 9 = .ok (.invokestatic 79, 3) := by decide +kernel
theorem dX2_isSwept_12 : decode cX2_isSwept 12 = .ok (.ireturn, 1) := by decide +kernel
theorem dX2_restingPlace_0 : decode cX2_restingPlace 0 = .ok (.aload_n 0, 1) := by decide +kernel
theorem dX2_restingPlace_1 : decode cX2_restingPlace 1 = .ok (.getfield 25, 3) := by decide +kernel
theorem dX2_restingPlace_4 : decode cX2_restingPlace 4 = .ok (.bipush 30, 2) := by decide +kernel
theorem dX2_restingPlace_6 : decode cX2_restingPlace 6 = .ok (.if_icmp .ge 7, 3) := by decide +kernel
theorem dX2_restingPlace_9 : decode cX2_restingPlace 9 = .ok (.iconst (-1), 1) := by decide +kernel
theorem dX2_restingPlace_10 : decode cX2_restingPlace 10 = .ok (.goto 15, 3) := by decide +kernel
theorem dX2_restingPlace_13 : decode cX2_restingPlace 13 = .ok (.bipush 100, 2) := by decide +kernel
theorem dX2_restingPlace_15 : decode cX2_restingPlace 15 = .ok (.aload_n 0, 1) := by decide +kernel
theorem dX2_restingPlace_16 : decode cX2_restingPlace 16 = .ok (.getfield 22, 3) := by decide +kernel
theorem dX2_restingPlace_19 : decode cX2_restingPlace 19 = .ok (.imul, 1) := by decide +kernel
theorem dX2_restingPlace_20 : decode cX2_restingPlace 20 = .ok (.aload_n 0, 1) := by decide +kernel
theorem dX2_restingPlace_21 : decode cX2_restingPlace 21 = .ok (.getfield 25, 3) := by decide +kernel
theorem dX2_restingPlace_24 : decode cX2_restingPlace 24 = .ok (.iadd, 1) := by decide +kernel
theorem dX2_restingPlace_25 : decode cX2_restingPlace 25 = .ok (.ireturn, 1) := by decide +kernel
set_option maxRecDepth 20000 in
theorem ggX2_stepsForward_X1_wornAt : GoodIn wsX2_stepsForward wsX1_wornAt := goodIn_r _ [11, 12, 43, 44, 45] (by decide +kernel) (by decide +kernel)
set_option maxRecDepth 20000 in
theorem gX2_stepsForward_X1_wornAt : GoodIn wsX2_stepsForward (wsV RX2 86 RX1 yX1_wornAt wsX1_wornAt) := goodIn_app (goodIn_of _ (by decide +kernel)) ggX2_stepsForward_X1_wornAt
set_option maxRecDepth 20000 in
theorem ggX2_stepsForward_X2_isSwept : GoodIn wsX2_stepsForward wsX2_isSwept := goodIn_r _ [17, 18, 19, 20, 21, 22, 33, 34, 35, 36, 37, 38, 39, 40, 41, 42] (by decide +kernel) (by decide +kernel)
set_option maxRecDepth 20000 in
theorem gX2_stepsForward_X2_isSwept : GoodIn wsX2_stepsForward (wsV RX2 92 RX2 yX2_isSwept wsX2_isSwept) := goodIn_app (goodIn_of _ (by decide +kernel)) ggX2_stepsForward_X2_isSwept
set_option maxRecDepth 20000 in
theorem ggX2_stepsForward_X3_lyingAt : GoodIn wsX2_stepsForward wsX3_lyingAt := goodIn_r _ [27, 28, 46] (by decide +kernel) (by decide +kernel)
set_option maxRecDepth 20000 in
theorem gX2_stepsForward_X3_lyingAt : GoodIn wsX2_stepsForward (wsV RX2 96 RX3 yX3_lyingAt wsX3_lyingAt) := goodIn_app (goodIn_of _ (by decide +kernel)) ggX2_stepsForward_X3_lyingAt
set_option maxRecDepth 20000 in
theorem ggX2_stepsForward_X1_wearDown : GoodIn wsX2_stepsForward wsX1_wearDown := goodIn_r _ [32, 12, 43, 44, 45] (by decide +kernel) (by decide +kernel)
set_option maxRecDepth 20000 in
theorem gX2_stepsForward_X1_wearDown : GoodIn wsX2_stepsForward (wsV RX2 99 RX1 yX1_wearDown wsX1_wearDown) := goodIn_app (goodIn_of _ (by decide +kernel)) ggX2_stepsForward_X1_wearDown
theorem dX2_stepsForward_0 : decode cX2_stepsForward 0 = .ok (.aload_n 0, 1) := by decide +kernel
theorem dX2_stepsForward_1 : decode cX2_stepsForward 1 = .ok (.getfield 25, 3) := by decide +kernel
theorem dX2_stepsForward_4 : decode cX2_stepsForward 4 = .ok (.iconst 1, 1) := by decide +kernel
theorem dX2_stepsForward_5 : decode cX2_stepsForward 5 = .ok (.iadd, 1) := by decide +kernel
theorem dX2_stepsForward_6 : decode cX2_stepsForward 6 = .ok (.istore_n 2, 1) := by decide +kernel
theorem dX2_stepsForward_7 : decode cX2_stepsForward 7 = .ok (.bipush 10, 2) := by decide +kernel
theorem dX2_stepsForward_9 : decode cX2_stepsForward 9 = .ok (.aload_n 1, 1) := by decide +kernel
theorem dX2_stepsForward_10 : decode cX2_stepsForward 10 = .ok (.aload_n 0, 1) := by decide +kernel
theorem dX2_stepsForward_11 : decode cX2_stepsForward 11 = .ok (.getfield 22, 3) := by decide +kernel
theorem dX2_stepsForward_14 : decode cX2_stepsForward 14 = .ok (.iload_n 2, 1) := by decide +kernel
theorem dX2_stepsForward_15 : decode cX2_stepsForward 15 = .ok (.invokevirtual 86, 3) := by decide +kernel
theorem dX2_stepsForward_18 : decode cX2_stepsForward 18 = .ok (.iadd, 1) := by decide +kernel
theorem dX2_stepsForward_19 : decode cX2_stepsForward 19 = .ok (.aload_n 0, 1) := by decide +kernel
theorem dX2_stepsForward_20 : decode cX2_stepsForward 20 = .ok (.iload_n 2, 1) := by decide +kernel
theorem dX2_stepsForward_21 : decode cX2_stepsForward 21 = .ok (.invokevirtual 92, 3) := by decide +kernel
theorem dX2_stepsForward_24 : decode cX2_stepsForward 24 = .ok (.ifCond .eq 7, 3) := by decide +kernel
theorem dX2_stepsForward_27 : decode cX2_stepsForward 27 = .ok (.iconst 3, 1) := by decide +kernel
theorem dX2_stepsForward_28 : decode cX2_stepsForward 28 = .ok (.goto 4, 3) := by decide +kernel
theorem dX2_stepsForward_31 : decode cX2_stepsForward 31 = .ok (.iconst 0, 1) := by decide +kernel
theorem dX2_stepsForward_32 : decode cX2_stepsForward 32 = .ok (.isub, 1) := by decide +kernel
theorem dX2_stepsForward_33 : decode cX2_stepsForward 33 = .ok (.istore_n 3, 1) := by decide +kernel
theorem dX2_stepsForward_34 : decode cX2_stepsForward 34 = .ok (.aload_n 0, 1) := by decide +kernel
theorem dX2_stepsForward_35 : decode cX2_stepsForward 35 = .ok (.getfield 28, 3) := by decide +kernel
theorem dX2_stepsForward_38 : decode cX2_stepsForward 38 = .ok (.iload_n 3, 1) := by decide +kernel
theorem dX2_stepsForward_39 : decode cX2_stepsForward 39 = .ok (.if_icmp .ge 5, 3) := by decide +kernel
theorem dX2_stepsForward_42 : decode cX2_stepsForward 42 = .ok (.iconst 0, 1) := by decide +kernel
theorem dX2_stepsForward_43 : decode cX2_stepsForward 43 = .ok (.ireturn, 1) := by decide +kernel
theorem dX2_stepsForward_44 : decode cX2_stepsForward 44 = .ok (.aload_n 0, 1) := by decide +kernel
theorem dX2_stepsForward_45 : decode cX2_stepsForward 45 = .ok (.aload_n 0, 1) := by decide +kernel
theorem dX2_stepsForward_46 : decode cX2_stepsForward 46 = .ok (.getfield 12, 3) := by decide +kernel
theorem dX2_stepsForward_49 : decode cX2_stepsForward 49 = .ok (.aload_n 0, 1) := by decide +kernel
theorem dX2_stepsForward_50 : decode cX2_stepsForward 50 = .ok (.getfield 22, 3) := by decide +kernel
theorem dX2_stepsForward_53 : decode cX2_stepsForward 53 = .ok (.iload_n 2, 1) := by decide +kernel
theorem dX2_stepsForward_54 : decode cX2_stepsForward 54 = .ok (.invokevirtual 96, 3) := by decide +kernel
theorem dX2_stepsForward_57 : decode cX2_stepsForward 57 = .ok (.putfield 18, 3) := by decide +kernel
theorem dX2_stepsForward_60 : decode cX2_stepsForward 60 = .ok (.aload_n 0, 1) := by decide +kernel
theorem dX2_stepsForward_61 : decode cX2_stepsForward 61 = .ok (.getfield 18, 3) := by decide +kernel
theorem dX2_stepsForward_64 : decode cX2_stepsForward 64 = .ok (.iconst (-1), 1) := by decide +kernel
theorem dX2_stepsForward_65 : decode cX2_stepsForward 65 = .ok (.if_icmp .eq 17, 3) := by decide +kernel
theorem dX2_stepsForward_68 : decode cX2_stepsForward 68 = .ok (.aload_n 0, 1) := by decide +kernel
theorem dX2_stepsForward_69 : decode cX2_stepsForward 69 = .ok (.aload_n 0, 1) := by decide +kernel
theorem dX2_stepsForward_70 : decode cX2_stepsForward 70 = .ok (.getfield 28, 3) := by decide +kernel
theorem dX2_stepsForward_73 : decode cX2_stepsForward 73 = .ok (.iconst 3, 1) := by decide +kernel
theorem dX2_stepsForward_74 : decode cX2_stepsForward 74 = .ok (.imul, 1) := by decide +kernel
theorem dX2_stepsForward_75 : decode cX2_stepsForward 75 = .ok (.iconst 4, 1) := by decide +kernel
theorem dX2_stepsForward_76 : decode cX2_stepsForward 76 = .ok (.idiv, 1) := by decide +kernel
theorem dX2_stepsForward_77 : decode cX2_stepsForward 77 = .ok (.putfield 28, 3) := by decide +kernel
theorem dX2_stepsForward_80 : decode cX2_stepsForward 80 = .ok (.iconst 0, 1) := by decide +kernel
theorem dX2_stepsForward_81 : decode cX2_stepsForward 81 = .ok (.ireturn, 1) := by decide +kernel
theorem dX2_stepsForward_82 : decode cX2_stepsForward 82 = .ok (.aload_n 0, 1) := by decide +kernel
theorem dX2_stepsForward_83 : decode cX2_stepsForward 83 = .ok (.iload_n 2, 1) := by decide +kernel
theorem dX2_stepsForward_84 : decode cX2_stepsForward 84 = .ok (.putfield 25, 3) := by decide +kernel
theorem dX2_stepsForward_87 : decode cX2_stepsForward 87 = .ok (.aload_n 0, 1) := by decide +kernel
theorem dX2_stepsForward_88 : decode cX2_stepsForward 88 = .ok (.dup, 1) := by decide +kernel
theorem dX2_stepsForward_89 : decode cX2_stepsForward 89 = .ok (.getfield 28, 3) := by decide +kernel
theorem dX2_stepsForward_92 : decode cX2_stepsForward 92 = .ok (.iload_n 3, 1) := by decide +kernel
theorem dX2_stepsForward_93 : decode cX2_stepsForward 93 = .ok (.isub, 1) := by decide +kernel
theorem dX2_stepsForward_94 : decode cX2_stepsForward 94 = .ok (.putfield 28, 3) := by decide +kernel
theorem dX2_stepsForward_97 : decode cX2_stepsForward 97 = .ok (.aload_n 0, 1) := by decide +kernel
theorem dX2_stepsForward_98 : decode cX2_stepsForward 98 = .ok (.getfield 44, 3) := by decide +kernel
theorem dX2_stepsForward_101 : decode cX2_stepsForward 101 = .ok (.ifCond .eq 12, 3) := by decide +kernel
theorem dX2_stepsForward_104 : decode cX2_stepsForward 104 = .ok (.aload_n 1, 1) := by decide +kernel
theorem dX2_stepsForward_105 : decode cX2_stepsForward 105 = .ok (.aload_n 0, 1) := by decide +kernel
theorem dX2_stepsForward_106 : decode cX2_stepsForward 106 = .ok (.getfield 22, 3) := by decide +kernel
theorem dX2_stepsForward_109 : decode cX2_stepsForward 109 = .ok (.iload_n 2, 1) := by decide +kernel
theorem dX2_stepsForward_110 : decode cX2_stepsForward 110 = .ok (.invokevirtual 99, 3) := by decide +kernel
theorem dX2_stepsForward_113 : decode cX2_stepsForward 113 = .ok (.iconst 1, 1) := by decide +kernel
theorem dX2_stepsForward_114 : decode cX2_stepsForward 114 = .ok (.ireturn, 1) := by decide +kernel
set_option maxRecDepth 20000 in
theorem ggX2_mustMoveAside_X2_isSwept : GoodIn wsX2_mustMoveAside wsX2_isSwept := goodIn_r _ [9, 10, 11, 12, 13, 14, 15, 16, 17, 18, 19, 20, 21, 22, 23, 24] (by decide +kernel) (by decide +kernel)
set_option maxRecDepth 20000 in
theorem gX2_mustMoveAside_X2_isSwept : GoodIn wsX2_mustMoveAside (wsV RX2 92 RX2 yX2_isSwept wsX2_isSwept) := goodIn_app (goodIn_of _ (by decide +kernel)) ggX2_mustMoveAside_X2_isSwept
theorem dX2_mustMoveAside_0 : decode cX2_mustMoveAside 0 = .ok (.aload_n 0, 1) := by decide +kernel
theorem dX2_mustMoveAside_1 : decode cX2_mustMoveAside 1 = .ok (.getfield 31, 3) := by decide +kernel
theorem dX2_mustMoveAside_4 : decode cX2_mustMoveAside 4 = .ok (.ifCond .eq 14, 3) := by decide +kernel
theorem dX2_mustMoveAside_7 : decode cX2_mustMoveAside 7 = .ok (.aload_n 0, 1) := by decide +kernel
theorem dX2_mustMoveAside_8 : decode cX2_mustMoveAside 8 = .ok (.aload_n 0, 1) := by decide +kernel
theorem dX2_mustMoveAside_9 : decode cX2_mustMoveAside 9 = .ok (.getfield 25, 3) := by decide +kernel
theorem dX2_mustMoveAside_12 : decode cX2_mustMoveAside 12 = .ok (.invokevirtual 92, 3) := by decide +kernel
theorem dX2_mustMoveAside_15 : decode cX2_mustMoveAside 15 = .ok (.ifCond .eq 5, 3) := by decide +kernel
theorem dX2_mustMoveAside_18 : decode cX2_mustMoveAside 18 = .ok (.iconst 0, 1) := by decide +kernel
theorem dX2_mustMoveAside_19 : decode cX2_mustMoveAside 19 = .ok (.ireturn, 1) := by decide +kernel
theorem dX2_mustMoveAside_20 : decode cX2_mustMoveAside 20 = .ok (.aload_n 0, 1) := by decide +kernel
theorem dX2_mustMoveAside_21 : decode cX2_mustMoveAside 21 = .ok (.dup, 1) := by decide +kernel
theorem dX2_mustMoveAside_22 : decode cX2_mustMoveAside 22 = .ok (.getfield 64, 3) := by decide +kernel
theorem dX2_mustMoveAside_25 : decode cX2_mustMoveAside 25 = .ok (.iconst 1, 1) := by decide +kernel
theorem dX2_mustMoveAside_26 : decode cX2_mustMoveAside 26 = .ok (.iadd, 1) := by decide +kernel
theorem dX2_mustMoveAside_27 : decode cX2_mustMoveAside 27 = .ok (.putfield 64, 3) := by decide +kernel
theorem dX2_mustMoveAside_30 : decode cX2_mustMoveAside 30 = .ok (.aload_n 0, 1) := by decide +kernel
theorem dX2_mustMoveAside_31 : decode cX2_mustMoveAside 31 = .ok (.getfield 64, 3) := by decide +kernel
theorem dX2_mustMoveAside_34 : decode cX2_mustMoveAside 34 = .ok (.bipush 12, 2) := by decide +kernel
theorem dX2_mustMoveAside_36 : decode cX2_mustMoveAside 36 = .ok (.if_icmp .ge 22, 3) := by decide +kernel
theorem dX2_mustMoveAside_39 : decode cX2_mustMoveAside 39 = .ok (.aload_n 0, 1) := by decide +kernel
theorem dX2_mustMoveAside_40 : decode cX2_mustMoveAside 40 = .ok (.getfield 28, 3) := by decide +kernel
theorem dX2_mustMoveAside_43 : decode cX2_mustMoveAside 43 = .ok (.sipush 300, 3) := by decide +kernel
theorem dX2_mustMoveAside_46 : decode cX2_mustMoveAside 46 = .ok (.if_icmp .ge 16, 3) := by decide +kernel
theorem dX2_mustMoveAside_49 : decode cX2_mustMoveAside 49 = .ok (.aload_n 0, 1) := by decide +kernel
theorem dX2_mustMoveAside_50 : decode cX2_mustMoveAside 50 = .ok (.getfield 64, 3) := by decide +kernel
theorem dX2_mustMoveAside_53 : decode cX2_mustMoveAside 53 = .ok (.bipush 6, 2) := by decide +kernel
theorem dX2_mustMoveAside_55 : decode cX2_mustMoveAside 55 = .ok (.if_icmp .lt 7, 3) := by decide +kernel
theorem dX2_mustMoveAside_58 : decode cX2_mustMoveAside 58 = .ok (.iconst 1, 1) := by decide +kernel
theorem dX2_mustMoveAside_59 : decode cX2_mustMoveAside 59 = .ok (.goto 4, 3) := by decide +kernel
theorem dX2_mustMoveAside_62 : decode cX2_mustMoveAside 62 = .ok (.iconst 0, 1) := by decide +kernel
theorem dX2_mustMoveAside_63 : decode cX2_mustMoveAside 63 = .ok (.ireturn, 1) := by decide +kernel
set_option maxRecDepth 20000 in
theorem ggX2_movesAside_X3_lyingAt : GoodIn wsX2_movesAside wsX3_lyingAt := goodIn_r _ [12, 13, 24] (by decide +kernel) (by decide +kernel)
set_option maxRecDepth 20000 in
theorem gX2_movesAside_X3_lyingAt : GoodIn wsX2_movesAside (wsV RX2 96 RX3 yX3_lyingAt wsX3_lyingAt) := goodIn_app (goodIn_of _ (by decide +kernel)) ggX2_movesAside_X3_lyingAt
theorem dX2_movesAside_0 : decode cX2_movesAside 0 = .ok (.aload_n 0, 1) := by decide +kernel
theorem dX2_movesAside_1 : decode cX2_movesAside 1 = .ok (.aload_n 0, 1) := by decide +kernel
theorem dX2_movesAside_2 : decode cX2_movesAside 2 = .ok (.getfield 12, 3) := by decide +kernel
theorem dX2_movesAside_5 : decode cX2_movesAside 5 = .ok (.aload_n 0, 1) := by decide +kernel
theorem dX2_movesAside_6 : decode cX2_movesAside 6 = .ok (.getfield 22, 3) := by decide +kernel
theorem dX2_movesAside_9 : decode cX2_movesAside 9 = .ok (.aload_n 0, 1) := by decide +kernel
theorem dX2_movesAside_10 : decode cX2_movesAside 10 = .ok (.getfield 31, 3) := by decide +kernel
theorem dX2_movesAside_13 : decode cX2_movesAside 13 = .ok (.iadd, 1) := by decide +kernel
theorem dX2_movesAside_14 : decode cX2_movesAside 14 = .ok (.aload_n 0, 1) := by decide +kernel
theorem dX2_movesAside_15 : decode cX2_movesAside 15 = .ok (.getfield 25, 3) := by decide +kernel
theorem dX2_movesAside_18 : decode cX2_movesAside 18 = .ok (.invokevirtual 96, 3) := by decide +kernel
theorem dX2_movesAside_21 : decode cX2_movesAside 21 = .ok (.putfield 18, 3) := by decide +kernel
theorem dX2_movesAside_24 : decode cX2_movesAside 24 = .ok (.aload_n 0, 1) := by decide +kernel
theorem dX2_movesAside_25 : decode cX2_movesAside 25 = .ok (.getfield 18, 3) := by decide +kernel
theorem dX2_movesAside_28 : decode cX2_movesAside 28 = .ok (.iconst (-1), 1) := by decide +kernel
theorem dX2_movesAside_29 : decode cX2_movesAside 29 = .ok (.if_icmp .eq 15, 3) := by decide +kernel
theorem dX2_movesAside_32 : decode cX2_movesAside 32 = .ok (.aload_n 0, 1) := by decide +kernel
theorem dX2_movesAside_33 : decode cX2_movesAside 33 = .ok (.dup, 1) := by decide +kernel
theorem dX2_movesAside_34 : decode cX2_movesAside 34 = .ok (.getfield 28, 3) := by decide +kernel
theorem dX2_movesAside_37 : decode cX2_movesAside 37 = .ok (.iconst 2, 1) := by decide +kernel
theorem dX2_movesAside_38 : decode cX2_movesAside 38 = .ok (.idiv, 1) := by decide +kernel
theorem dX2_movesAside_39 : decode cX2_movesAside 39 = .ok (.putfield 28, 3) := by decide +kernel
theorem dX2_movesAside_42 : decode cX2_movesAside 42 = .ok (.iconst 0, 1) := by decide +kernel
theorem dX2_movesAside_43 : decode cX2_movesAside 43 = .ok (.ireturn, 1) := by decide +kernel
theorem dX2_movesAside_44 : decode cX2_movesAside 44 = .ok (.aload_n 0, 1) := by decide +kernel
theorem dX2_movesAside_45 : decode cX2_movesAside 45 = .ok (.dup, 1) := by decide +kernel
theorem dX2_movesAside_46 : decode cX2_movesAside 46 = .ok (.getfield 22, 3) := by decide +kernel
theorem dX2_movesAside_49 : decode cX2_movesAside 49 = .ok (.aload_n 0, 1) := by decide +kernel
theorem dX2_movesAside_50 : decode cX2_movesAside 50 = .ok (.getfield 31, 3) := by decide +kernel
theorem dX2_movesAside_53 : decode cX2_movesAside 53 = .ok (.iadd, 1) := by decide +kernel
theorem dX2_movesAside_54 : decode cX2_movesAside 54 = .ok (.putfield 22, 3) := by decide +kernel
theorem dX2_movesAside_57 : decode cX2_movesAside 57 = .ok (.aload_n 0, 1) := by decide +kernel
theorem dX2_movesAside_58 : decode cX2_movesAside 58 = .ok (.iconst 0, 1) := by decide +kernel
theorem dX2_movesAside_59 : decode cX2_movesAside 59 = .ok (.putfield 64, 3) := by decide +kernel
theorem dX2_movesAside_62 : decode cX2_movesAside 62 = .ok (.iconst 1, 1) := by decide +kernel
theorem dX2_movesAside_63 : decode cX2_movesAside 63 = .ok (.ireturn, 1) := by decide +kernel
set_option maxRecDepth 20000 in
theorem ggX3_init_X3_takeAway : GoodIn wsX3_init wsX3_takeAway := goodIn_r _ [10, 5, 11] (by decide +kernel) (by decide +kernel)
set_option maxRecDepth 20000 in
theorem gX3_init_X3_takeAway : GoodIn wsX3_init (wsV RX3 15 RX3 yX3_takeAway wsX3_takeAway) := goodIn_app (goodIn_of _ (by decide +kernel)) ggX3_init_X3_takeAway
theorem dX3_init_0 : decode cX3_init 0 = .ok (.aload_n 0, 1) := by decide +kernel
theorem dX3_init_1 : decode cX3_init 1 = .ok (.invokespecial 3, 3) := by decide +kernel
theorem dX3_init_4 : decode cX3_init 4 = .ok (.aload_n 0, 1) := by decide +kernel
theorem dX3_init_5 : decode cX3_init 5 = .ok (.bipush 6, 2) := by decide +kernel
theorem dX3_init_7 : decode cX3_init 7 = .ok (.newarray .int, 2) := by decide +kernel
theorem dX3_init_9 : decode cX3_init 9 = .ok (.putfield 9, 3) := by decide +kernel
theorem dX3_init_12 : decode cX3_init 12 = .ok (.aload_n 0, 1) := by decide +kernel
theorem dX3_init_13 : decode cX3_init 13 = .ok (.invokevirtual 15, 3) := by decide +kernel
theorem dX3_init_16 : decode cX3_init 16 = .ok (.return_, 1) := by decide +kernel
theorem dX3_takeAway_0 : decode cX3_takeAway 0 = .ok (.iconst 0, 1) := by decide +kernel
theorem dX3_takeAway_1 : decode cX3_takeAway 1 = .ok (.istore_n 1, 1) := by decide +kernel
theorem dX3_takeAway_2 : decode cX3_takeAway 2 = .ok (.iload_n 1, 1) := by decide +kernel
theorem dX3_takeAway_3 : decode cX3_takeAway 3 = .ok (.aload_n 0, 1) := by decide +kernel
theorem dX3_takeAway_4 : decode cX3_takeAway 4 = .ok (.getfield 9, 3) := by decide +kernel
theorem dX3_takeAway_7 : decode cX3_takeAway 7 = .ok (.arraylength, 1) := by decide +kernel
theorem dX3_takeAway_8 : decode cX3_takeAway 8 = .ok (.if_icmp .ge 16, 3) := by decide +kernel
theorem dX3_takeAway_11 : decode cX3_takeAway 11 = .ok (.aload_n 0, 1) := by decide +kernel
theorem dX3_takeAway_12 : decode cX3_takeAway 12 = .ok (.getfield 9, 3) := by decide +kernel
theorem dX3_takeAway_15 : decode cX3_takeAway 15 = .ok (.iload_n 1, 1) := by decide +kernel
theorem dX3_takeAway_16 : decode cX3_takeAway 16 = .ok (.iconst (-1), 1) := by decide +kernel
theorem dX3_takeAway_17 : decode cX3_takeAway 17 = .ok (.iastore, 1) := by decide +kernel
theorem dX3_takeAway_18 : decode cX3_takeAway 18 = .ok (.iinc 1 1, 3) := by decide +kernel
theorem dX3_takeAway_21 : decode cX3_takeAway 21 = .ok (.goto (-19), 3) := by decide +kernel
theorem dX3_takeAway_24 : decode cX3_takeAway 24 = .ok (.return_, 1) := by decide +kernel
set_option maxRecDepth 20000 in
theorem ggX3_copyFrom_X3_placeOf : GoodIn wsX3_copyFrom wsX3_placeOf := goodIn_r _ [6, 1, 7] (by decide +kernel) (by decide +kernel)
set_option maxRecDepth 20000 in
theorem gX3_copyFrom_X3_placeOf : GoodIn wsX3_copyFrom (wsV RX3 18 RX3 yX3_placeOf wsX3_placeOf) := goodIn_app (goodIn_of _ (by decide +kernel)) ggX3_copyFrom_X3_placeOf
theorem dX3_copyFrom_0 : decode cX3_copyFrom 0 = .ok (.iconst 0, 1) := by decide +kernel
theorem dX3_copyFrom_1 : decode cX3_copyFrom 1 = .ok (.istore_n 2, 1) := by decide +kernel
theorem dX3_copyFrom_2 : decode cX3_copyFrom 2 = .ok (.iload_n 2, 1) := by decide +kernel
theorem dX3_copyFrom_3 : decode cX3_copyFrom 3 = .ok (.aload_n 0, 1) := by decide +kernel
theorem dX3_copyFrom_4 : decode cX3_copyFrom 4 = .ok (.getfield 9, 3) := by decide +kernel
theorem dX3_copyFrom_7 : decode cX3_copyFrom 7 = .ok (.arraylength, 1) := by decide +kernel
theorem dX3_copyFrom_8 : decode cX3_copyFrom 8 = .ok (.if_icmp .ge 20, 3) := by decide +kernel
theorem dX3_copyFrom_11 : decode cX3_copyFrom 11 = .ok (.aload_n 0, 1) := by decide +kernel
theorem dX3_copyFrom_12 : decode cX3_copyFrom 12 = .ok (.getfield 9, 3) := by decide +kernel
theorem dX3_copyFrom_15 : decode cX3_copyFrom 15 = .ok (.iload_n 2, 1) := by decide +kernel
theorem dX3_copyFrom_16 : decode cX3_copyFrom 16 = .ok (.aload_n 1, 1) := by decide +kernel
theorem dX3_copyFrom_17 : decode cX3_copyFrom 17 = .ok (.iload_n 2, 1) := by decide +kernel
theorem dX3_copyFrom_18 : decode cX3_copyFrom 18 = .ok (.invokevirtual 18, 3) := by decide +kernel
theorem dX3_copyFrom_21 : decode cX3_copyFrom 21 = .ok (.iastore, 1) := by decide +kernel
theorem dX3_copyFrom_22 : decode cX3_copyFrom 22 = .ok (.iinc 2 1, 3) := by decide +kernel
theorem dX3_copyFrom_25 : decode cX3_copyFrom 25 = .ok (.goto (-23), 3) := by decide +kernel
theorem dX3_copyFrom_28 : decode cX3_copyFrom 28 = .ok (.return_, 1) := by decide +kernel
theorem dX3_placeOf_0 : decode cX3_placeOf 0 = .ok (.iload_n 1, 1) := by decide +kernel
theorem dX3_placeOf_1 : decode cX3_placeOf 1 = .ok (.ifCond .lt 21, 3) := by decide +kernel
theorem dX3_placeOf_4 : decode cX3_placeOf 4 = .ok (.iload_n 1, 1) := by decide +kernel
theorem dX3_placeOf_5 : decode cX3_placeOf 5 = .ok (.aload_n 0, 1) := by decide +kernel
theorem dX3_placeOf_6 : decode cX3_placeOf 6 = .ok (.getfield 9, 3) := by decide +kernel
theorem dX3_placeOf_9 : decode cX3_placeOf 9 = .ok (.arraylength, 1) := by decide +kernel
theorem dX3_placeOf_10 : decode cX3_placeOf 10 = .ok (.if_icmp .ge 12, 3) := by decide +kernel
theorem dX3_placeOf_13 : decode cX3_placeOf 13 = .ok (.aload_n 0, 1) := by decide +kernel
theorem dX3_placeOf_14 : decode cX3_placeOf 14 = .ok (.getfield 9, 3) := by decide +kernel
theorem dX3_placeOf_17 : decode cX3_placeOf 17 = .ok (.iload_n 1, 1) := by decide +kernel
theorem dX3_placeOf_18 : decode cX3_placeOf 18 = .ok (.iaload, 1) := by decide +kernel
theorem dX3_placeOf_19 : decode cX3_placeOf 19 = .ok (.goto 4, 3) := by decide +kernel
theorem dX3_placeOf_22 : decode cX3_placeOf 22 = .ok (.iconst (-1), 1) := by decide +kernel
theorem dX3_placeOf_23 : decode cX3_placeOf 23 = .ok (.ireturn, 1) := by decide +kernel
theorem dX3_put_0 : decode cX3_put 0 = .ok (.iload_n 1, 1) := by decide +kernel
theorem dX3_put_1 : decode cX3_put 1 = .ok (.ifCond .lt 19, 3) := by decide +kernel
theorem dX3_put_4 : decode cX3_put 4 = .ok (.iload_n 1, 1) := by decide +kernel
theorem dX3_put_5 : decode cX3_put 5 = .ok (.aload_n 0, 1) := by decide +kernel
theorem dX3_put_6 : decode cX3_put 6 = .ok (.getfield 9, 3) := by decide +kernel
theorem dX3_put_9 : decode cX3_put 9 = .ok (.arraylength, 1) := by decide +kernel
theorem dX3_put_10 : decode cX3_put 10 = .ok (.if_icmp .ge 10, 3) := by decide +kernel
theorem dX3_put_13 : decode cX3_put 13 = .ok (.aload_n 0, 1) := by decide +kernel
theorem dX3_put_14 : decode cX3_put 14 = .ok (.getfield 9, 3) := by decide +kernel
theorem dX3_put_17 : decode cX3_put 17 = .ok (.iload_n 1, 1) := by decide +kernel
theorem dX3_put_18 : decode cX3_put 18 = .ok (.iload_n 2, 1) := by decide +kernel
theorem dX3_put_19 : decode cX3_put 19 = .ok (.iastore, 1) := by decide +kernel
theorem dX3_put_20 : decode cX3_put 20 = .ok (.return_, 1) := by decide +kernel
theorem dX3_lyingAt_0 : decode cX3_lyingAt 0 = .ok (.iload_n 2, 1) := by decide +kernel
theorem dX3_lyingAt_1 : decode cX3_lyingAt 1 = .ok (.bipush 30, 2) := by decide +kernel
theorem dX3_lyingAt_3 : decode cX3_lyingAt 3 = .ok (.if_icmp .ge 5, 3) := by decide +kernel
theorem dX3_lyingAt_6 : decode cX3_lyingAt 6 = .ok (.iconst (-1), 1) := by decide +kernel
theorem dX3_lyingAt_7 : decode cX3_lyingAt 7 = .ok (.ireturn, 1) := by decide +kernel
theorem dX3_lyingAt_8 : decode cX3_lyingAt 8 = .ok (.bipush 100, 2) := by decide +kernel
theorem dX3_lyingAt_10 : decode cX3_lyingAt 10 = .ok (.iload_n 1, 1) := by decide +kernel
theorem dX3_lyingAt_11 : decode cX3_lyingAt 11 = .ok (.imul, 1) := by decide +kernel
theorem dX3_lyingAt_12 : decode cX3_lyingAt 12 = .ok (.iload_n 2, 1) := by decide +kernel
theorem dX3_lyingAt_13 : decode cX3_lyingAt 13 = .ok (.iadd, 1) := by decide +kernel
theorem dX3_lyingAt_14 : decode cX3_lyingAt 14 = .ok (.istore_n 3, 1) := by decide +kernel
theorem dX3_lyingAt_15 : decode cX3_lyingAt 15 = .ok (.iconst 0, 1) := by decide +kernel
theorem dX3_lyingAt_16 : decode cX3_lyingAt 16 = .ok (.istore 4, 2) := by decide +kernel
theorem dX3_lyingAt_18 : decode cX3_lyingAt 18 = .ok (.iload 4, 2) := by decide +kernel
theorem dX3_lyingAt_20 : decode cX3_lyingAt 20 = .ok (.aload_n 0, 1) := by decide +kernel
theorem dX3_lyingAt_21 : decode cX3_lyingAt 21 = .ok (.getfield 9, 3) := by decide +kernel
theorem dX3_lyingAt_24 : decode cX3_lyingAt 24 = .ok (.arraylength, 1) := by decide +kernel
theorem dX3_lyingAt_25 : decode cX3_lyingAt 25 = .ok (.if_icmp .ge 23, 3) := by decide +kernel
theorem dX3_lyingAt_28 : decode cX3_lyingAt 28 = .ok (.aload_n 0, 1) := by decide +kernel
theorem dX3_lyingAt_29 : decode cX3_lyingAt 29 = .ok (.getfield 9, 3) := by decide +kernel
theorem dX3_lyingAt_32 : decode cX3_lyingAt 32 = .ok (.iload 4, 2) := by decide +kernel
theorem dX3_lyingAt_34 : decode cX3_lyingAt 34 = .ok (.iaload, 1) := by decide +kernel
theorem dX3_lyingAt_35 : decode cX3_lyingAt 35 = .ok (.iload_n 3, 1) := by decide +kernel
theorem dX3_lyingAt_36 : decode cX3_lyingAt 36 = .ok (.if_icmp .ne 6, 3) := by decide +kernel
theorem dX3_lyingAt_39 : decode cX3_lyingAt 39 = .ok (.iload 4, 2) := by decide +kernel
theorem dX3_lyingAt_41 : decode cX3_lyingAt 41 = .ok (.ireturn, 1) := by decide +kernel
theorem dX3_lyingAt_42 : decode cX3_lyingAt 42 = .ok (.iinc 4 1, 3) := by decide +kernel
theorem dX3_lyingAt_45 : decode cX3_lyingAt 45 = .ok (.goto (-27), 3) := by decide +kernel
theorem dX3_lyingAt_48 : decode cX3_lyingAt 48 = .ok (.iconst (-1), 1) := by decide +kernel
theorem dX3_lyingAt_49 : decode cX3_lyingAt 49 = .ok (.ireturn, 1) := by decide +kernel
set_option maxRecDepth 20000 in
theorem ggX3_score_X3_nearest : GoodIn wsX3_score wsX3_nearest := goodIn_r _ [5, 6, 7, 8, 9, 10, 11, 12, 4, 13, 14, 15, 16, 17, 18, 19, 20, 21, 26] (by decide +kernel) (by decide +kernel)
set_option maxRecDepth 20000 in
theorem gX3_score_X3_nearest : GoodIn wsX3_score (wsV RX3 22 RX3 yX3_nearest wsX3_nearest) := goodIn_app (goodIn_of _ (by decide +kernel)) ggX3_score_X3_nearest
set_option maxRecDepth 20000 in
theorem ggX3_score_X3_countNearer : GoodIn wsX3_score wsX3_countNearer := goodIn_r _ [25, 10, 11, 12, 4, 13, 14, 15, 16, 17, 18, 19, 8, 20, 21, 7, 9, 26] (by decide +kernel) (by decide +kernel)
set_option maxRecDepth 20000 in
theorem gX3_score_X3_countNearer : GoodIn wsX3_score (wsV RX3 25 RX3 yX3_countNearer wsX3_countNearer) := goodIn_app (goodIn_of _ (by decide +kernel)) ggX3_score_X3_countNearer
theorem dX3_score_0 : decode cX3_score 0 = .ok (.aload_n 0, 1) := by decide +kernel
theorem dX3_score_1 : decode cX3_score 1 = .ok (.iconst 0, 1) := by decide +kernel
theorem dX3_score_2 : decode cX3_score 2 = .ok (.invokevirtual 22, 3) := by decide +kernel
theorem dX3_score_5 : decode cX3_score 5 = .ok (.istore_n 1, 1) := by decide +kernel
theorem dX3_score_6 : decode cX3_score 6 = .ok (.aload_n 0, 1) := by decide +kernel
theorem dX3_score_7 : decode cX3_score 7 = .ok (.iconst 3, 1) := by decide +kernel
theorem dX3_score_8 : decode cX3_score 8 = .ok (.invokevirtual 22, 3) := by decide +kernel
theorem dX3_score_11 : decode cX3_score 11 = .ok (.istore_n 2, 1) := by decide +kernel
theorem dX3_score_12 : decode cX3_score 12 = .ok (.iload_n 1, 1) := by decide +kernel
theorem dX3_score_13 : decode cX3_score 13 = .ok (.iload_n 2, 1) := by decide +kernel
theorem dX3_score_14 : decode cX3_score 14 = .ok (.if_icmp .ge 10, 3) := by decide +kernel
theorem dX3_score_17 : decode cX3_score 17 = .ok (.aload_n 0, 1) := by decide +kernel
theorem dX3_score_18 : decode cX3_score 18 = .ok (.iconst 0, 1) := by decide +kernel
theorem dX3_score_19 : decode cX3_score 19 = .ok (.iload_n 2, 1) := by decide +kernel
theorem dX3_score_20 : decode cX3_score 20 = .ok (.invokevirtual 25, 3) := by decide +kernel
theorem dX3_score_23 : decode cX3_score 23 = .ok (.ireturn, 1) := by decide +kernel
theorem dX3_score_24 : decode cX3_score 24 = .ok (.iload_n 2, 1) := by decide +kernel
theorem dX3_score_25 : decode cX3_score 25 = .ok (.iload_n 1, 1) := by decide +kernel
theorem dX3_score_26 : decode cX3_score 26 = .ok (.if_icmp .ge 13, 3) := by decide +kernel
theorem dX3_score_29 : decode cX3_score 29 = .ok (.aload_n 0, 1) := by decide +kernel
theorem dX3_score_30 : decode cX3_score 30 = .ok (.iconst 3, 1) := by decide +kernel
theorem dX3_score_31 : decode cX3_score 31 = .ok (.iload_n 1, 1) := by decide +kernel
theorem dX3_score_32 : decode cX3_score 32 = .ok (.invokevirtual 25, 3) := by decide +kernel
theorem dX3_score_35 : decode cX3_score 35 = .ok (.ineg, 1) := by decide +kernel
theorem dX3_score_36 : decode cX3_score 36 = .ok (.goto 4, 3) := by decide +kernel
theorem dX3_score_39 : decode cX3_score 39 = .ok (.iconst 0, 1) := by decide +kernel
theorem dX3_score_40 : decode cX3_score 40 = .ok (.ireturn, 1) := by decide +kernel
set_option maxRecDepth 20000 in
theorem ggX3_nearest_X3_placeOf : GoodIn wsX3_nearest wsX3_placeOf := goodIn_r _ [9, 10, 18] (by decide +kernel) (by decide +kernel)
set_option maxRecDepth 20000 in
theorem gX3_nearest_X3_placeOf : GoodIn wsX3_nearest (wsV RX3 18 RX3 yX3_placeOf wsX3_placeOf) := goodIn_app (goodIn_of _ (by decide +kernel)) ggX3_nearest_X3_placeOf
set_option maxRecDepth 20000 in
theorem ggX3_nearest_X5_distanceOf : GoodIn wsX3_nearest wsX5_distanceOf := goodIn_r _ [13, 14, 15, 3, 16, 17, 2, 4] (by decide +kernel) (by decide +kernel)
set_option maxRecDepth 20000 in
theorem gX3_nearest_X5_distanceOf_n29 : GoodIn wsX3_nearest (wsX5_distanceOf) := ggX3_nearest_X5_distanceOf
theorem dX3_nearest_0 : decode cX3_nearest 0 = .ok (.bipush 11, 2) := by decide +kernel
theorem dX3_nearest_2 : decode cX3_nearest 2 = .ok (.istore_n 2, 1) := by decide +kernel
theorem dX3_nearest_3 : decode cX3_nearest 3 = .ok (.iconst 0, 1) := by decide +kernel
theorem dX3_nearest_4 : decode cX3_nearest 4 = .ok (.istore_n 3, 1) := by decide +kernel
theorem dX3_nearest_5 : decode cX3_nearest 5 = .ok (.iload_n 3, 1) := by decide +kernel
theorem dX3_nearest_6 : decode cX3_nearest 6 = .ok (.iconst 3, 1) := by decide +kernel
theorem dX3_nearest_7 : decode cX3_nearest 7 = .ok (.if_icmp .ge 24, 3) := by decide +kernel
theorem dX3_nearest_10 : decode cX3_nearest 10 = .ok (.iload_n 2, 1) := by decide +kernel
theorem dX3_nearest_11 : decode cX3_nearest 11 = .ok (.aload_n 0, 1) := by decide +kernel
theorem dX3_nearest_12 : decode cX3_nearest 12 = .ok (.iload_n 1, 1) := by decide +kernel
theorem dX3_nearest_13 : decode cX3_nearest 13 = .ok (.iload_n 3, 1) := by decide +kernel
theorem dX3_nearest_14 : decode cX3_nearest 14 = .ok (.iadd, 1) := by decide +kernel
theorem dX3_nearest_15 : decode cX3_nearest 15 = .ok (.invokevirtual 18, 3) := by decide +kernel
theorem dX3_nearest_18 : decode cX3_nearest 18 = .ok (.invokestatic 29, 3) := by decide +kernel
theorem dX3_nearest_21 : decode cX3_nearest 21 = .ok (.invokestatic 32, 3) := by decide +kernel
theorem dX3_nearest_24 : decode cX3_nearest 24 = .ok (.istore_n 2, 1) := by decide +kernel
theorem dX3_nearest_25 : decode cX3_nearest 25 = .ok (.iinc 3 1, 3) := by decide +kernel
theorem dX3_nearest_28 : decode cX3_nearest 28 = .ok (.goto (-23), 3) := by decide +kernel
theorem dX3_nearest_31 : decode cX3_nearest 31 = .ok (.iload_n 2, 1) := by decide +kernel
theorem dX3_nearest_32 : decode cX3_nearest 32 = .ok (.ireturn, 1) := by decide +kernel
set_option maxRecDepth 20000 in
theorem ggX3_countNearer_X3_placeOf : GoodIn wsX3_countNearer wsX3_placeOf := goodIn_r _ [5, 6, 17] (by decide +kernel) (by decide +kernel)
set_option maxRecDepth 20000 in
theorem gX3_countNearer_X3_placeOf : GoodIn wsX3_countNearer (wsV RX3 18 RX3 yX3_placeOf wsX3_placeOf) := goodIn_app (goodIn_of _ (by decide +kernel)) ggX3_countNearer_X3_placeOf
