theorem dX0_init_0 : decode cX0_init 0 = .ok (.aload_n 0, 1) := by decide +kernel
theorem dX0_init_1 : decode cX0_init 1 = .ok (.invokespecial 3, 3) := by decide +kernel
theorem dX0_init_4 : decode cX0_init 4 = .ok (.aload_n 0, 1) := by decide +kernel
theorem dX0_init_5 : decode cX0_init 5 = .ok (.new 9, 3) := by decide +kernel
theorem dX0_init_8 : decode cX0_init 8 = .ok (.dup, 1) := by decide +kernel
theorem dX0_init_9 : decode cX0_init 9 = .ok (.invokespecial 11, 3) := by decide +kernel
theorem dX0_init_12 : decode cX0_init 12 = .ok (.putfield 12, 3) := by decide +kernel
theorem dX0_init_15 : decode cX0_init 15 = .ok (.aload_n 0, 1) := by decide +kernel
theorem dX0_init_16 : decode cX0_init 16 = .ok (.iconst 0, 1) := by decide +kernel
theorem dX0_init_17 : decode cX0_init 17 = .ok (.putfield 18, 3) := by decide +kernel
theorem dX0_init_20 : decode cX0_init 20 = .ok (.aload_n 0, 1) := by decide +kernel
theorem dX0_init_21 : decode cX0_init 21 = .ok (.iconst (-1), 1) := by decide +kernel
theorem dX0_init_22 : decode cX0_init 22 = .ok (.putfield 22, 3) := by decide +kernel
theorem dX0_init_25 : decode cX0_init 25 = .ok (.aload_n 0, 1) := by decide +kernel
theorem dX0_init_26 : decode cX0_init 26 = .ok (.iconst (-1), 1) := by decide +kernel
theorem dX0_init_27 : decode cX0_init 27 = .ok (.putfield 25, 3) := by decide +kernel
theorem dX0_init_30 : decode cX0_init 30 = .ok (.aload_n 0, 1) := by decide +kernel
theorem dX0_init_31 : decode cX0_init 31 = .ok (.iload_n 1, 1) := by decide +kernel
theorem dX0_init_32 : decode cX0_init 32 = .ok (.putfield 28, 3) := by decide +kernel
theorem dX0_init_35 : decode cX0_init 35 = .ok (.aload_n 0, 1) := by decide +kernel
theorem dX0_init_36 : decode cX0_init 36 = .ok (.iload_n 2, 1) := by decide +kernel
theorem dX0_init_37 : decode cX0_init 37 = .ok (.putfield 31, 3) := by decide +kernel
theorem dX0_init_40 : decode cX0_init 40 = .ok (.aload_n 0, 1) := by decide +kernel
theorem dX0_init_41 : decode cX0_init 41 = .ok (.iload_n 3, 1) := by decide +kernel
theorem dX0_init_42 : decode cX0_init 42 = .ok (.putfield 34, 3) := by decide +kernel
theorem dX0_init_45 : decode cX0_init 45 = .ok (.aload_n 0, 1) := by decide +kernel
theorem dX0_init_46 : decode cX0_init 46 = .ok (.iload 4, 2) := by decide +kernel
theorem dX0_init_48 : decode cX0_init 48 = .ok (.putfield 37, 3) := by decide +kernel
theorem dX0_init_51 : decode cX0_init 51 = .ok (.return_, 1) := by decide +kernel
theorem dX0_isOnSheet_0 : decode cX0_isOnSheet 0 = .ok (.aload_n 0, 1) := by decide +kernel
theorem dX0_isOnSheet_1 : decode cX0_isOnSheet 1 = .ok (.getfield 18, 3) := by decide +kernel
theorem dX0_isOnSheet_4 : decode cX0_isOnSheet 4 = .ok (.iconst 1, 1) := by decide +kernel
theorem dX0_isOnSheet_5 : decode cX0_isOnSheet 5 = .ok (.if_icmp .eq 11, 3) := by decide +kernel
theorem dX0_isOnSheet_8 : decode cX0_isOnSheet 8 = .ok (.aload_n 0, 1) := by decide +kernel
theorem dX0_isOnSheet_9 : decode cX0_isOnSheet 9 = .ok (.getfield 18, 3) := by decide +kernel
theorem dX0_isOnSheet_12 : decode cX0_isOnSheet 12 = .ok (.iconst 2, 1) := by decide +kernel
theorem dX0_isOnSheet_13 : decode cX0_isOnSheet 13 = .ok (.if_icmp .ne 7, 3) := by decide +kernel
theorem dX0_isOnSheet_16 : decode cX0_isOnSheet 16 = .ok (.iconst 1, 1) := by decide +kernel
theorem dX0_isOnSheet_17 : decode cX0_isOnSheet 17 = .ok (.goto 4, 3) := by decide +kernel
theorem dX0_isOnSheet_20 : decode cX0_isOnSheet 20 = .ok (.iconst 0, 1) := by decide +kernel
theorem dX0_isOnSheet_21 : decode cX0_isOnSheet 21 = .ok (.ireturn, 1) := by decide +kernel
theorem dX0_nextSide_0 : decode cX0_nextSide 0 = .ok (.aload_n 0, 1) := by decide +kernel
theorem dX0_nextSide_1 : decode cX0_nextSide 1 = .ok (.getfield 18, 3) := by decide +kernel
theorem dX0_nextSide_4 : decode cX0_nextSide 4 = .ok (.iconst 1, 1) := by decide +kernel
theorem dX0_nextSide_5 : decode cX0_nextSide 5 = .ok (.if_icmp .ne 8, 3) := by decide +kernel
theorem dX0_nextSide_8 : decode cX0_nextSide 8 = .ok (.aload_n 0, 1) := by decide +kernel
theorem dX0_nextSide_9 : decode cX0_nextSide 9 = .ok (.getfield 40, 3) := by decide +kernel
theorem dX0_nextSide_12 : decode cX0_nextSide 12 = .ok (.ireturn, 1) := by decide +kernel
theorem dX0_nextSide_13 : decode cX0_nextSide 13 = .ok (.aload_n 0, 1) := by decide +kernel
theorem dX0_nextSide_14 : decode cX0_nextSide 14 = .ok (.getfield 18, 3) := by decide +kernel
theorem dX0_nextSide_17 : decode cX0_nextSide 17 = .ok (.iconst 2, 1) := by decide +kernel
theorem dX0_nextSide_18 : decode cX0_nextSide 18 = .ok (.if_icmp .ne 26, 3) := by decide +kernel
theorem dX0_nextSide_21 : decode cX0_nextSide 21 = .ok (.aload_n 0, 1) := by decide +kernel
theorem dX0_nextSide_22 : decode cX0_nextSide 22 = .ok (.getfield 40, 3) := by decide +kernel
theorem dX0_nextSide_25 : decode cX0_nextSide 25 = .ok (.iconst 2, 1) := by decide +kernel
theorem dX0_nextSide_26 : decode cX0_nextSide 26 = .ok (.irem, 1) := by decide +kernel
theorem dX0_nextSide_27 : decode cX0_nextSide 27 = .ok (.ifCond .ne 12, 3) := by decide +kernel
theorem dX0_nextSide_30 : decode cX0_nextSide 30 = .ok (.iconst 1, 1) := by decide +kernel
theorem dX0_nextSide_31 : decode cX0_nextSide 31 = .ok (.aload_n 0, 1) := by decide +kernel
theorem dX0_nextSide_32 : decode cX0_nextSide 32 = .ok (.getfield 25, 3) := by decide +kernel
theorem dX0_nextSide_35 : decode cX0_nextSide 35 = .ok (.isub, 1) := by decide +kernel
theorem dX0_nextSide_36 : decode cX0_nextSide 36 = .ok (.goto 7, 3) := by decide +kernel
theorem dX0_nextSide_39 : decode cX0_nextSide 39 = .ok (.aload_n 0, 1) := by decide +kernel
theorem dX0_nextSide_40 : decode cX0_nextSide 40 = .ok (.getfield 25, 3) := by decide +kernel
theorem dX0_nextSide_43 : decode cX0_nextSide 43 = .ok (.ireturn, 1) := by decide +kernel
theorem dX0_nextSide_44 : decode cX0_nextSide 44 = .ok (.iconst (-1), 1) := by decide +kernel
theorem dX0_nextSide_45 : decode cX0_nextSide 45 = .ok (.ireturn, 1) := by decide +kernel
theorem dX0_nextStone_0 : decode cX0_nextStone 0 = .ok (.aload_n 0, 1) := by decide +kernel
theorem dX0_nextStone_1 : decode cX0_nextStone 1 = .ok (.invokevirtual 43, 3) := by decide +kernel
theorem dX0_nextStone_4 : decode cX0_nextStone 4 = .ok (.iconst 3, 1) := by decide +kernel
theorem dX0_nextStone_5 : decode cX0_nextStone 5 = .ok (.imul, 1) := by decide +kernel
theorem dX0_nextStone_6 : decode cX0_nextStone 6 = .ok (.aload_n 0, 1) := by decide +kernel
theorem dX0_nextStone_7 : decode cX0_nextStone 7 = .ok (.getfield 40, 3) := by decide +kernel
theorem dX0_nextStone_10 : decode cX0_nextStone 10 = .ok (.iconst 2, 1) := by decide +kernel
theorem dX0_nextStone_11 : decode cX0_nextStone 11 = .ok (.idiv, 1) := by decide +kernel
theorem dX0_nextStone_12 : decode cX0_nextStone 12 = .ok (.iadd, 1) := by decide +kernel
theorem dX0_nextStone_13 : decode cX0_nextStone 13 = .ok (.ireturn, 1) := by decide +kernel
theorem dX0_takeDraw_0 : decode cX0_takeDraw 0 = .ok (.aload_n 0, 1) := by decide +kernel
theorem dX0_takeDraw_1 : decode cX0_takeDraw 1 = .ok (.getfield 40, 3) := by decide +kernel
theorem dX0_takeDraw_4 : decode cX0_takeDraw 4 = .ok (.ifCond .ne 14, 3) := by decide +kernel
theorem dX0_takeDraw_7 : decode cX0_takeDraw 7 = .ok (.aload_n 0, 1) := by decide +kernel
theorem dX0_takeDraw_8 : decode cX0_takeDraw 8 = .ok (.iload_n 1, 1) := by decide +kernel
theorem dX0_takeDraw_9 : decode cX0_takeDraw 9 = .ok (.putfield 47, 3) := by decide +kernel
theorem dX0_takeDraw_12 : decode cX0_takeDraw 12 = .ok (.aload_n 0, 1) := by decide +kernel
theorem dX0_takeDraw_13 : decode cX0_takeDraw 13 = .ok (.iconst 1, 1) := by decide +kernel
theorem dX0_takeDraw_14 : decode cX0_takeDraw 14 = .ok (.putfield 40, 3) := by decide +kernel
theorem dX0_takeDraw_17 : decode cX0_takeDraw 17 = .ok (.return_, 1) := by decide +kernel
theorem dX0_takeDraw_18 : decode cX0_takeDraw 18 = .ok (.aload_n 0, 1) := by decide +kernel
theorem dX0_takeDraw_19 : decode cX0_takeDraw 19 = .ok (.aload_n 0, 1) := by decide +kernel
theorem dX0_takeDraw_20 : decode cX0_takeDraw 20 = .ok (.getfield 47, 3) := by decide +kernel
theorem dX0_takeDraw_23 : decode cX0_takeDraw 23 = .ok (.iload_n 1, 1) := by decide +kernel
theorem dX0_takeDraw_24 : decode cX0_takeDraw 24 = .ok (.if_icmp .ge 7, 3) := by decide +kernel
theorem dX0_takeDraw_27 : decode cX0_takeDraw 27 = .ok (.iconst 0, 1) := by decide +kernel
theorem dX0_takeDraw_28 : decode cX0_takeDraw 28 = .ok (.goto 4, 3) := by decide +kernel
theorem dX0_takeDraw_31 : decode cX0_takeDraw 31 = .ok (.iconst 1, 1) := by decide +kernel
theorem dX0_takeDraw_32 : decode cX0_takeDraw 32 = .ok (.putfield 25, 3) := by decide +kernel
theorem dX0_takeDraw_35 : decode cX0_takeDraw 35 = .ok (.aload_n 0, 1) := by decide +kernel
theorem dX0_takeDraw_36 : decode cX0_takeDraw 36 = .ok (.iconst 0, 1) := by decide +kernel
theorem dX0_takeDraw_37 : decode cX0_takeDraw 37 = .ok (.putfield 40, 3) := by decide +kernel
theorem dX0_takeDraw_40 : decode cX0_takeDraw 40 = .ok (.aload_n 0, 1) := by decide +kernel
theorem dX0_takeDraw_41 : decode cX0_takeDraw 41 = .ok (.iconst 2, 1) := by decide +kernel
theorem dX0_takeDraw_42 : decode cX0_takeDraw 42 = .ok (.putfield 18, 3) := by decide +kernel
theorem dX0_takeDraw_45 : decode cX0_takeDraw 45 = .ok (.return_, 1) := by decide +kernel
theorem dX0_closeEnd_0 : decode cX0_closeEnd 0 = .ok (.aload_n 0, 1) := by decide +kernel
theorem dX0_closeEnd_1 : decode cX0_closeEnd 1 = .ok (.getfield 12, 3) := by decide +kernel
theorem dX0_closeEnd_4 : decode cX0_closeEnd 4 = .ok (.invokevirtual 50, 3) := by decide +kernel
theorem dX0_closeEnd_7 : decode cX0_closeEnd 7 = .ok (.istore_n 1, 1) := by decide +kernel
theorem dX0_closeEnd_8 : decode cX0_closeEnd 8 = .ok (.iload_n 1, 1) := by decide +kernel
theorem dX0_closeEnd_9 : decode cX0_closeEnd 9 = .ok (.ifCond .le 21, 3) := by decide +kernel
theorem dX0_closeEnd_12 : decode cX0_closeEnd 12 = .ok (.aload_n 0, 1) := by decide +kernel
theorem dX0_closeEnd_13 : decode cX0_closeEnd 13 = .ok (.dup, 1) := by decide +kernel
theorem dX0_closeEnd_14 : decode cX0_closeEnd 14 = .ok (.getfield 53, 3) := by decide +kernel
theorem dX0_closeEnd_17 : decode cX0_closeEnd 17 = .ok (.iload_n 1, 1) := by decide +kernel
theorem dX0_closeEnd_18 : decode cX0_closeEnd 18 = .ok (.iadd, 1) := by decide +kernel
theorem dX0_closeEnd_19 : decode cX0_closeEnd 19 = .ok (.putfield 53, 3) := by decide +kernel
theorem dX0_closeEnd_22 : decode cX0_closeEnd 22 = .ok (.aload_n 0, 1) := by decide +kernel
theorem dX0_closeEnd_23 : decode cX0_closeEnd 23 = .ok (.iconst 1, 1) := by decide +kernel
theorem dX0_closeEnd_24 : decode cX0_closeEnd 24 = .ok (.putfield 25, 3) := by decide +kernel
theorem dX0_closeEnd_27 : decode cX0_closeEnd 27 = .ok (.goto 22, 3) := by decide +kernel
theorem dX0_closeEnd_30 : decode cX0_closeEnd 30 = .ok (.iload_n 1, 1) := by decide +kernel
theorem dX0_closeEnd_31 : decode cX0_closeEnd 31 = .ok (.ifCond .ge 18, 3) := by decide +kernel
theorem dX0_closeEnd_34 : decode cX0_closeEnd 34 = .ok (.aload_n 0, 1) := by decide +kernel
theorem dX0_closeEnd_35 : decode cX0_closeEnd 35 = .ok (.dup, 1) := by decide +kernel
theorem dX0_closeEnd_36 : decode cX0_closeEnd 36 = .ok (.getfield 56, 3) := by decide +kernel
theorem dX0_closeEnd_39 : decode cX0_closeEnd 39 = .ok (.iload_n 1, 1) := by decide +kernel
theorem dX0_closeEnd_40 : decode cX0_closeEnd 40 = .ok (.isub, 1) := by decide +kernel
theorem dX0_closeEnd_41 : decode cX0_closeEnd 41 = .ok (.putfield 56, 3) := by decide +kernel
theorem dX0_closeEnd_44 : decode cX0_closeEnd 44 = .ok (.aload_n 0, 1) := by decide +kernel
theorem dX0_closeEnd_45 : decode cX0_closeEnd 45 = .ok (.iconst 0, 1) := by decide +kernel
theorem dX0_closeEnd_46 : decode cX0_closeEnd 46 = .ok (.putfield 25, 3) := by decide +kernel
theorem dX0_closeEnd_49 : decode cX0_closeEnd 49 = .ok (.aload_n 0, 1) := by decide +kernel
theorem dX0_closeEnd_50 : decode cX0_closeEnd 50 = .ok (.getfield 12, 3) := by decide +kernel
theorem dX0_closeEnd_53 : decode cX0_closeEnd 53 = .ok (.invokevirtual 59, 3) := by decide +kernel
theorem dX0_closeEnd_56 : decode cX0_closeEnd 56 = .ok (.aload_n 0, 1) := by decide +kernel
theorem dX0_closeEnd_57 : decode cX0_closeEnd 57 = .ok (.iconst 0, 1) := by decide +kernel
theorem dX0_closeEnd_58 : decode cX0_closeEnd 58 = .ok (.putfield 40, 3) := by decide +kernel
theorem dX0_closeEnd_61 : decode cX0_closeEnd 61 = .ok (.aload_n 0, 1) := by decide +kernel
theorem dX0_closeEnd_62 : decode cX0_closeEnd 62 = .ok (.dup, 1) := by decide +kernel
theorem dX0_closeEnd_63 : decode cX0_closeEnd 63 = .ok (.getfield 62, 3) := by decide +kernel
theorem dX0_closeEnd_66 : decode cX0_closeEnd 66 = .ok (.iconst 1, 1) := by decide +kernel
theorem dX0_closeEnd_67 : decode cX0_closeEnd 67 = .ok (.iadd, 1) := by decide +kernel
theorem dX0_closeEnd_68 : decode cX0_closeEnd 68 = .ok (.putfield 62, 3) := by decide +kernel
theorem dX0_closeEnd_71 : decode cX0_closeEnd 71 = .ok (.return_, 1) := by decide +kernel
theorem dX1_init_0 : decode cX1_init 0 = .ok (.aload_n 0, 1) := by decide +kernel
theorem dX1_init_1 : decode cX1_init 1 = .ok (.invokespecial 3, 3) := by decide +kernel
theorem dX1_init_4 : decode cX1_init 4 = .ok (.aload_n 0, 1) := by decide +kernel
theorem dX1_init_5 : decode cX1_init 5 = .ok (.sipush 549, 3) := by decide +kernel
theorem dX1_init_8 : decode cX1_init 8 = .ok (.newarray .int, 2) := by decide +kernel
theorem dX1_init_10 : decode cX1_init 10 = .ok (.putfield 9, 3) := by decide +kernel
theorem dX1_init_13 : decode cX1_init 13 = .ok (.aload_n 0, 1) := by decide +kernel
theorem dX1_init_14 : decode cX1_init 14 = .ok (.iconst 1, 1) := by decide +kernel
theorem dX1_init_15 : decode cX1_init 15 = .ok (.putfield 15, 3) := by decide +kernel
theorem dX1_init_18 : decode cX1_init 18 = .ok (.aload_n 0, 1) := by decide +kernel
theorem dX1_init_19 : decode cX1_init 19 = .ok (.iconst (-1), 1) := by decide +kernel
theorem dX1_init_20 : decode cX1_init 20 = .ok (.putfield 19, 3) := by decide +kernel
theorem dX1_init_23 : decode cX1_init 23 = .ok (.return_, 1) := by decide +kernel
theorem dX1_isReady_0 : decode cX1_isReady 0 = .ok (.aload_n 0, 1) := by decide +kernel
theorem dX1_isReady_1 : decode cX1_isReady 1 = .ok (.getfield 15, 3) := by decide +kernel
theorem dX1_isReady_4 : decode cX1_isReady 4 = .ok (.ifCond .eq 15, 3) := by decide +kernel
theorem dX1_isReady_7 : decode cX1_isReady 7 = .ok (.aload_n 0, 1) := by decide +kernel
theorem dX1_isReady_8 : decode cX1_isReady 8 = .ok (.getfield 19, 3) := by decide +kernel
theorem dX1_isReady_11 : decode cX1_isReady 11 = .ok (.iconst (-1), 1) := by decide +kernel
theorem dX1_isReady_12 : decode cX1_isReady 12 = .ok (.if_icmp .ne 7, 3) := by decide +kernel
theorem dX1_isReady_15 : decode cX1_isReady 15 = .ok (.iconst 1, 1) := by decide +kernel
theorem dX1_isReady_16 : decode cX1_isReady 16 = .ok (.goto 4, 3) := by decide +kernel
theorem dX1_isReady_19 : decode cX1_isReady 19 = .ok (.iconst 0, 1) := by decide +kernel
theorem dX1_isReady_20 : decode cX1_isReady 20 = .ok (.ireturn, 1) := by decide +kernel
theorem dX1_wornAt_0 : decode cX1_wornAt 0 = .ok (.iload_n 1, 1) := by decide +kernel
theorem dX1_wornAt_1 : decode cX1_wornAt 1 = .ok (.bipush 61, 2) := by decide +kernel
theorem dX1_wornAt_3 : decode cX1_wornAt 3 = .ok (.imul, 1) := by decide +kernel
theorem dX1_wornAt_4 : decode cX1_wornAt 4 = .ok (.iload_n 2, 1) := by decide +kernel
theorem dX1_wornAt_5 : decode cX1_wornAt 5 = .ok (.iadd, 1) := by decide +kernel
theorem dX1_wornAt_6 : decode cX1_wornAt 6 = .ok (.istore_n 3, 1) := by decide +kernel
theorem dX1_wornAt_7 : decode cX1_wornAt 7 = .ok (.iload_n 3, 1) := by decide +kernel
theorem dX1_wornAt_8 : decode cX1_wornAt 8 = .ok (.ifCond .lt 21, 3) := by decide +kernel
theorem dX1_wornAt_11 : decode cX1_wornAt 11 = .ok (.iload_n 3, 1) := by decide +kernel
theorem dX1_wornAt_12 : decode cX1_wornAt 12 = .ok (.aload_n 0, 1) := by decide +kernel
theorem dX1_wornAt_13 : decode cX1_wornAt 13 = .ok (.getfield 9, 3) := by decide +kernel
theorem dX1_wornAt_16 : decode cX1_wornAt 16 = .ok (.arraylength, 1) := by decide +kernel
theorem dX1_wornAt_17 : decode cX1_wornAt 17 = .ok (.if_icmp .ge 12, 3) := by decide +kernel
theorem dX1_wornAt_20 : decode cX1_wornAt 20 = .ok (.aload_n 0, 1) := by decide +kernel
theorem dX1_wornAt_21 : decode cX1_wornAt 21 = .ok (.getfield 9, 3) := by decide +kernel
theorem dX1_wornAt_24 : decode cX1_wornAt 24 = .ok (.iload_n 3, 1) := by decide +kernel
theorem dX1_wornAt_25 : decode cX1_wornAt 25 = .ok (.iaload, 1) := by decide +kernel
theorem dX1_wornAt_26 : decode cX1_wornAt 26 = .ok (.goto 4, 3) := by decide +kernel
theorem dX1_wornAt_29 : decode cX1_wornAt 29 = .ok (.iconst 0, 1) := by decide +kernel
theorem dX1_wornAt_30 : decode cX1_wornAt 30 = .ok (.ireturn, 1) := by decide +kernel
theorem dX1_wearDown_0 : decode cX1_wearDown 0 = .ok (.iload_n 1, 1) := by decide +kernel
theorem dX1_wearDown_1 : decode cX1_wearDown 1 = .ok (.bipush 61, 2) := by decide +kernel
theorem dX1_wearDown_3 : decode cX1_wearDown 3 = .ok (.imul, 1) := by decide +kernel
theorem dX1_wearDown_4 : decode cX1_wearDown 4 = .ok (.iload_n 2, 1) := by decide +kernel
theorem dX1_wearDown_5 : decode cX1_wearDown 5 = .ok (.iadd, 1) := by decide +kernel
theorem dX1_wearDown_6 : decode cX1_wearDown 6 = .ok (.istore_n 3, 1) := by decide +kernel
theorem dX1_wearDown_7 : decode cX1_wearDown 7 = .ok (.iload_n 3, 1) := by decide +kernel
theorem dX1_wearDown_8 : decode cX1_wearDown 8 = .ok (.ifCond .lt 33, 3) := by decide +kernel
theorem dX1_wearDown_11 : decode cX1_wearDown 11 = .ok (.iload_n 3, 1) := by decide +kernel
theorem dX1_wearDown_12 : decode cX1_wearDown 12 = .ok (.aload_n 0, 1) := by decide +kernel
theorem dX1_wearDown_13 : decode cX1_wearDown 13 = .ok (.getfield 9, 3) := by decide +kernel
theorem dX1_wearDown_16 : decode cX1_wearDown 16 = .ok (.arraylength, 1) := by decide +kernel
theorem dX1_wearDown_17 : decode cX1_wearDown 17 = .ok (.if_icmp .ge 24, 3) := by decide +kernel
theorem dX1_wearDown_20 : decode cX1_wearDown 20 = .ok (.aload_n 0, 1) := by decide +kernel
theorem dX1_wearDown_21 : decode cX1_wearDown 21 = .ok (.getfield 9, 3) := by decide +kernel
theorem dX1_wearDown_24 : decode cX1_wearDown 24 = .ok (.iload_n 3, 1) := by decide +kernel
theorem dX1_wearDown_25 : decode cX1_wearDown 25 = .ok (.iaload, 1) := by decide +kernel
theorem dX1_wearDown_26 : decode cX1_wearDown 26 = .ok (.bipush 9, 2) := by decide +kernel
theorem dX1_wearDown_28 : decode cX1_wearDown 28 = .ok (.if_icmp .ge 13, 3) := by decide +kernel
theorem dX1_wearDown_31 : decode cX1_wearDown 31 = .ok (.aload_n 0, 1) := by decide +kernel
theorem dX1_wearDown_32 : decode cX1_wearDown 32 = .ok (.getfield 9, 3) := by decide +kernel
theorem dX1_wearDown_35 : decode cX1_wearDown 35 = .ok (.iload_n 3, 1) := by decide +kernel
theorem dX1_wearDown_36 : decode cX1_wearDown 36 = .ok (.dup2, 1) := by decide +kernel
theorem dX1_wearDown_37 : decode cX1_wearDown 37 = .ok (.iaload, 1) := by decide +kernel
theorem dX1_wearDown_38 : decode cX1_wearDown 38 = .ok (.iconst 1, 1) := by decide +kernel
theorem dX1_wearDown_39 : decode cX1_wearDown 39 = .ok (.iadd, 1) := by decide +kernel
theorem dX1_wearDown_40 : decode cX1_wearDown 40 = .ok (.iastore, 1) := by decide +kernel
theorem dX1_wearDown_41 : decode cX1_wearDown 41 = .ok (.return_, 1) := by decide +kernel
theorem dX1_allWorn_0 : decode cX1_allWorn 0 = .ok (.iconst 0, 1) := by decide +kernel
theorem dX1_allWorn_1 : decode cX1_allWorn 1 = .ok (.istore_n 1, 1) := by decide +kernel
theorem dX1_allWorn_2 : decode cX1_allWorn 2 = .ok (.iconst 0, 1) := by decide +kernel
theorem dX1_allWorn_3 : decode cX1_allWorn 3 = .ok (.istore_n 2, 1) := by decide +kernel
theorem dX1_allWorn_4 : decode cX1_allWorn 4 = .ok (.iload_n 2, 1) := by decide +kernel
theorem dX1_allWorn_5 : decode cX1_allWorn 5 = .ok (.aload_n 0, 1) := by decide +kernel
theorem dX1_allWorn_6 : decode cX1_allWorn 6 = .ok (.getfield 9, 3) := by decide +kernel
theorem dX1_allWorn_9 : decode cX1_allWorn 9 = .ok (.arraylength, 1) := by decide +kernel
theorem dX1_allWorn_10 : decode cX1_allWorn 10 = .ok (.if_icmp .ge 18, 3) := by decide +kernel
theorem dX1_allWorn_13 : decode cX1_allWorn 13 = .ok (.iload_n 1, 1) := by decide +kernel
theorem dX1_allWorn_14 : decode cX1_allWorn 14 = .ok (.aload_n 0, 1) := by decide +kernel
theorem dX1_allWorn_15 : decode cX1_allWorn 15 = .ok (.getfield 9, 3) := by decide +kernel
theorem dX1_allWorn_18 : decode cX1_allWorn 18 = .ok (.iload_n 2, 1) := by decide +kernel
theorem dX1_allWorn_19 : decode cX1_allWorn 19 = .ok (.iaload, 1) := by decide +kernel
theorem dX1_allWorn_20 : decode cX1_allWorn 20 = .ok (.iadd, 1) := by decide +kernel
theorem dX1_allWorn_21 : decode cX1_allWorn 21 = .ok (.istore_n 1, 1) := by decide +kernel
theorem dX1_allWorn_22 : decode cX1_allWorn 22 = .ok (.iinc 2 1, 3) := by decide +kernel
theorem dX1_allWorn_25 : decode cX1_allWorn 25 = .ok (.goto (-21), 3) := by decide +kernel
theorem dX1_allWorn_28 : decode cX1_allWorn 28 = .ok (.iload_n 1, 1) := by decide +kernel
theorem dX1_allWorn_29 : decode cX1_allWorn 29 = .ok (.ireturn, 1) := by decide +kernel
theorem dX1_renew_0 : decode cX1_renew 0 = .ok (.aload_n 0, 1) := by decide +kernel
theorem dX1_renew_1 : decode cX1_renew 1 = .ok (.iconst 1, 1) := by decide +kernel
theorem dX1_renew_2 : decode cX1_renew 2 = .ok (.putfield 15, 3) := by decide +kernel
theorem dX1_renew_5 : decode cX1_renew 5 = .ok (.iconst 0, 1) := by decide +kernel
theorem dX1_renew_6 : decode cX1_renew 6 = .ok (.istore_n 1, 1) := by decide +kernel
theorem dX1_renew_7 : decode cX1_renew 7 = .ok (.iload_n 1, 1) := by decide +kernel
theorem dX1_renew_8 : decode cX1_renew 8 = .ok (.aload_n 0, 1) := by decide +kernel
theorem dX1_renew_9 : decode cX1_renew 9 = .ok (.getfield 9, 3) := by decide +kernel
theorem dX1_renew_12 : decode cX1_renew 12 = .ok (.arraylength, 1) := by decide +kernel
theorem dX1_renew_13 : decode cX1_renew 13 = .ok (.if_icmp .ge 16, 3) := by decide +kernel
theorem dX1_renew_16 : decode cX1_renew 16 = .ok (.aload_n 0, 1) := by decide +kernel
theorem dX1_renew_17 : decode cX1_renew 17 = .ok (.getfield 9, 3) := by decide +kernel
theorem dX1_renew_20 : decode cX1_renew 20 = .ok (.iload_n 1, 1) := by decide +kernel
theorem dX1_renew_21 : decode cX1_renew 21 = .ok (.iconst 0, 1) := by decide +kernel
theorem dX1_renew_22 : decode cX1_renew 22 = .ok (.iastore, 1) := by decide +kernel
theorem dX1_renew_23 : decode cX1_renew 23 = .ok (.iinc 1 1, 3) := by decide +kernel
theorem dX1_renew_26 : decode cX1_renew 26 = .ok (.goto (-19), 3) := by decide +kernel
theorem dX1_renew_29 : decode cX1_renew 29 = .ok (.return_, 1) := by decide +kernel
theorem dX2_init_0 : decode cX2_init 0 = .ok (.aload_n 0, 1) := by decide +kernel
theorem dX2_init_1 : decode cX2_init 1 = .ok (.invokespecial 3, 3) := by decide +kernel
theorem dX2_init_4 : decode cX2_init 4 = .ok (.aload_n 0, 1) := by decide +kernel
theorem dX2_init_5 : decode cX2_init 5 = .ok (.new 9, 3) := by decide +kernel
theorem dX2_init_8 : decode cX2_init 8 = .ok (.dup, 1) := by decide +kernel
theorem dX2_init_9 : decode cX2_init 9 = .ok (.invokespecial 11, 3) := by decide +kernel
theorem dX2_init_12 : decode cX2_init 12 = .ok (.putfield 12, 3) := by decide +kernel
theorem dX2_init_15 : decode cX2_init 15 = .ok (.aload_n 0, 1) := by decide +kernel
theorem dX2_init_16 : decode cX2_init 16 = .ok (.iconst (-1), 1) := by decide +kernel
theorem dX2_init_17 : decode cX2_init 17 = .ok (.putfield 18, 3) := by decide +kernel
theorem dX2_init_20 : decode cX2_init 20 = .ok (.return_, 1) := by decide +kernel
theorem dX2_aim_0 : decode cX2_aim 0 = .ok (.aload_n 0, 1) := by decide +kernel
theorem dX2_aim_1 : decode cX2_aim 1 = .ok (.iload_n 1, 1) := by decide +kernel
theorem dX2_aim_2 : decode cX2_aim 2 = .ok (.putfield 22, 3) := by decide +kernel
theorem dX2_aim_5 : decode cX2_aim 5 = .ok (.aload_n 0, 1) := by decide +kernel
theorem dX2_aim_6 : decode cX2_aim 6 = .ok (.iconst 0, 1) := by decide +kernel
theorem dX2_aim_7 : decode cX2_aim 7 = .ok (.putfield 25, 3) := by decide +kernel
theorem dX2_aim_10 : decode cX2_aim 10 = .ok (.aload_n 0, 1) := by decide +kernel
theorem dX2_aim_11 : decode cX2_aim 11 = .ok (.bipush 10, 2) := by decide +kernel
theorem dX2_aim_13 : decode cX2_aim 13 = .ok (.iload_n 2, 1) := by decide +kernel
theorem dX2_aim_14 : decode cX2_aim 14 = .ok (.imul, 1) := by decide +kernel
theorem dX2_aim_15 : decode cX2_aim 15 = .ok (.putfield 28, 3) := by decide +kernel
theorem dX2_aim_18 : decode cX2_aim 18 = .ok (.aload_n 0, 1) := by decide +kernel
theorem dX2_aim_19 : decode cX2_aim 19 = .ok (.iload_n 3, 1) := by decide +kernel
theorem dX2_aim_20 : decode cX2_aim 20 = .ok (.putfield 31, 3) := by decide +kernel
theorem dX2_aim_23 : decode cX2_aim 23 = .ok (.aload_n 0, 1) := by decide +kernel
theorem dX2_aim_24 : decode cX2_aim 24 = .ok (.iload 4, 2) := by decide +kernel
theorem dX2_aim_26 : decode cX2_aim 26 = .ok (.putfield 34, 3) := by decide +kernel
theorem dX2_aim_29 : decode cX2_aim 29 = .ok (.aload_n 0, 1) := by decide +kernel
theorem dX2_aim_30 : decode cX2_aim 30 = .ok (.iload 5, 2) := by decide +kernel
theorem dX2_aim_32 : decode cX2_aim 32 = .ok (.putfield 37, 3) := by decide +kernel
theorem dX2_aim_35 : decode cX2_aim 35 = .ok (.return_, 1) := by decide +kernel
theorem dX2_run_0 : decode cX2_run 0 = .ok (.aload_n 0, 1) := by decide +kernel
theorem dX2_run_1 : decode cX2_run 1 = .ok (.getfield 12, 3) := by decide +kernel
theorem dX2_run_4 : decode cX2_run 4 = .ok (.aload_n 2, 1) := by decide +kernel
theorem dX2_run_5 : decode cX2_run 5 = .ok (.invokevirtual 40, 3) := by decide +kernel
theorem dX2_run_8 : decode cX2_run 8 = .ok (.aload_n 0, 1) := by decide +kernel
theorem dX2_run_9 : decode cX2_run 9 = .ok (.iload 4, 2) := by decide +kernel
theorem dX2_run_11 : decode cX2_run 11 = .ok (.putfield 44, 3) := by decide +kernel
theorem dX2_run_14 : decode cX2_run 14 = .ok (.aload_n 0, 1) := by decide +kernel
theorem dX2_run_15 : decode cX2_run 15 = .ok (.aload_n 1, 1) := by decide +kernel
theorem dX2_run_16 : decode cX2_run 16 = .ok (.invokevirtual 48, 3) := by decide +kernel
theorem dX2_run_19 : decode cX2_run 19 = .ok (.istore 5, 2) := by decide +kernel
theorem dX2_run_21 : decode cX2_run 21 = .ok (.aload_n 0, 1) := by decide +kernel
theorem dX2_run_22 : decode cX2_run 22 = .ok (.getfield 12, 3) := by decide +kernel
theorem dX2_run_25 : decode cX2_run 25 = .ok (.iload_n 3, 1) := by decide +kernel
theorem dX2_run_26 : decode cX2_run 26 = .ok (.iload 5, 2) := by decide +kernel
theorem dX2_run_28 : decode cX2_run 28 = .ok (.invokevirtual 52, 3) := by decide +kernel
theorem dX2_run_31 : decode cX2_run 31 = .ok (.iconst 0, 1) := by decide +kernel
theorem dX2_run_32 : decode cX2_run 32 = .ok (.istore 6, 2) := by decide +kernel
theorem dX2_run_34 : decode cX2_run 34 = .ok (.iload 6, 2) := by decide +kernel
theorem dX2_run_36 : decode cX2_run 36 = .ok (.bipush 6, 2) := by decide +kernel
theorem dX2_run_38 : decode cX2_run 38 = .ok (.if_icmp .ge 50, 3) := by decide +kernel
theorem dX2_run_41 : decode cX2_run 41 = .ok (.aload_n 0, 1) := by decide +kernel
theorem dX2_run_42 : decode cX2_run 42 = .ok (.getfield 18, 3) := by decide +kernel
theorem dX2_run_45 : decode cX2_run 45 = .ok (.iconst (-1), 1) := by decide +kernel
theorem dX2_run_46 : decode cX2_run 46 = .ok (.if_icmp .eq 42, 3) := by decide +kernel
theorem dX2_run_49 : decode cX2_run 49 = .ok (.aload_n 0, 1) := by decide +kernel
theorem dX2_run_50 : decode cX2_run 50 = .ok (.getfield 18, 3) := by decide +kernel
theorem dX2_run_53 : decode cX2_run 53 = .ok (.istore 7, 2) := by decide +kernel
theorem dX2_run_55 : decode cX2_run 55 = .ok (.aload_n 0, 1) := by decide +kernel
theorem dX2_run_56 : decode cX2_run 56 = .ok (.aload_n 0, 1) := by decide +kernel
theorem dX2_run_57 : decode cX2_run 57 = .ok (.getfield 12, 3) := by decide +kernel
theorem dX2_run_60 : decode cX2_run 60 = .ok (.iload 7, 2) := by decide +kernel
theorem dX2_run_62 : decode cX2_run 62 = .ok (.invokevirtual 56, 3) := by decide +kernel
theorem dX2_run_65 : decode cX2_run 65 = .ok (.invokevirtual 60, 3) := by decide +kernel
theorem dX2_run_68 : decode cX2_run 68 = .ok (.aload_n 0, 1) := by decide +kernel
theorem dX2_run_69 : decode cX2_run 69 = .ok (.getfield 12, 3) := by decide +kernel
theorem dX2_run_72 : decode cX2_run 72 = .ok (.iload 7, 2) := by decide +kernel
theorem dX2_run_74 : decode cX2_run 74 = .ok (.aload_n 0, 1) := by decide +kernel
theorem dX2_run_75 : decode cX2_run 75 = .ok (.aload_n 1, 1) := by decide +kernel
theorem dX2_run_76 : decode cX2_run 76 = .ok (.invokevirtual 48, 3) := by decide +kernel
theorem dX2_run_79 : decode cX2_run 79 = .ok (.invokevirtual 52, 3) := by decide +kernel
theorem dX2_run_82 : decode cX2_run 82 = .ok (.iinc 6 1, 3) := by decide +kernel
theorem dX2_run_85 : decode cX2_run 85 = .ok (.goto (-51), 3) := by decide +kernel
theorem dX2_run_88 : decode cX2_run 88 = .ok (.iload 5, 2) := by decide +kernel
theorem dX2_run_90 : decode cX2_run 90 = .ok (.ireturn, 1) := by decide +kernel
theorem dX2_aimPushed_0 : decode cX2_aimPushed 0 = .ok (.aload_n 0, 1) := by decide +kernel
theorem dX2_aimPushed_1 : decode cX2_aimPushed 1 = .ok (.iload_n 1, 1) := by decide +kernel
theorem dX2_aimPushed_2 : decode cX2_aimPushed 2 = .ok (.bipush 100, 2) := by decide +kernel
theorem dX2_aimPushed_4 : decode cX2_aimPushed 4 = .ok (.idiv, 1) := by decide +kernel
theorem dX2_aimPushed_5 : decode cX2_aimPushed 5 = .ok (.putfield 22, 3) := by decide +kernel
theorem dX2_aimPushed_8 : decode cX2_aimPushed 8 = .ok (.aload_n 0, 1) := by decide +kernel
theorem dX2_aimPushed_9 : decode cX2_aimPushed 9 = .ok (.iload_n 1, 1) := by decide +kernel
theorem dX2_aimPushed_10 : decode cX2_aimPushed 10 = .ok (.bipush 100, 2) := by decide +kernel
theorem dX2_aimPushed_12 : decode cX2_aimPushed 12 = .ok (.irem, 1) := by decide +kernel
theorem dX2_aimPushed_13 : decode cX2_aimPushed 13 = .ok (.putfield 25, 3) := by decide +kernel
theorem dX2_aimPushed_16 : decode cX2_aimPushed 16 = .ok (.aload_n 0, 1) := by decide +kernel
theorem dX2_aimPushed_17 : decode cX2_aimPushed 17 = .ok (.iconst 0, 1) := by decide +kernel
theorem dX2_aimPushed_18 : decode cX2_aimPushed 18 = .ok (.putfield 31, 3) := by decide +kernel
theorem dX2_aimPushed_21 : decode cX2_aimPushed 21 = .ok (.aload_n 0, 1) := by decide +kernel
theorem dX2_aimPushed_22 : decode cX2_aimPushed 22 = .ok (.iconst 1, 1) := by decide +kernel
theorem dX2_aimPushed_23 : decode cX2_aimPushed 23 = .ok (.putfield 34, 3) := by decide +kernel
theorem dX2_aimPushed_26 : decode cX2_aimPushed 26 = .ok (.aload_n 0, 1) := by decide +kernel
theorem dX2_aimPushed_27 : decode cX2_aimPushed 27 = .ok (.iconst 0, 1) := by decide +kernel
theorem dX2_aimPushed_28 : decode cX2_aimPushed 28 = .ok (.putfield 37, 3) := by decide +kernel
theorem dX2_aimPushed_31 : decode cX2_aimPushed 31 = .ok (.return_, 1) := by decide +kernel
theorem dX2_glide_0 : decode cX2_glide 0 = .ok (.aload_n 0, 1) := by decide +kernel
theorem dX2_glide_1 : decode cX2_glide 1 = .ok (.iconst (-1), 1) := by decide +kernel
theorem dX2_glide_2 : decode cX2_glide 2 = .ok (.putfield 18, 3) := by decide +kernel
theorem dX2_glide_5 : decode cX2_glide 5 = .ok (.aload_n 0, 1) := by decide +kernel
theorem dX2_glide_6 : decode cX2_glide 6 = .ok (.iconst 0, 1) := by decide +kernel
theorem dX2_glide_7 : decode cX2_glide 7 = .ok (.putfield 64, 3) := by decide +kernel
theorem dX2_glide_10 : decode cX2_glide 10 = .ok (.iconst 0, 1) := by decide +kernel
theorem dX2_glide_11 : decode cX2_glide 11 = .ok (.istore_n 2, 1) := by decide +kernel
theorem dX2_glide_12 : decode cX2_glide 12 = .ok (.iload_n 2, 1) := by decide +kernel
theorem dX2_glide_13 : decode cX2_glide 13 = .ok (.bipush 60, 2) := by decide +kernel
theorem dX2_glide_15 : decode cX2_glide 15 = .ok (.if_icmp .ge 75, 3) := by decide +kernel
theorem dX2_glide_18 : decode cX2_glide 18 = .ok (.aload_n 0, 1) := by decide +kernel
theorem dX2_glide_19 : decode cX2_glide 19 = .ok (.aload_n 1, 1) := by decide +kernel
theorem dX2_glide_20 : decode cX2_glide 20 = .ok (.invokevirtual 67, 3) := by decide +kernel
theorem dX2_glide_23 : decode cX2_glide 23 = .ok (.ifCond .ne 8, 3) := by decide +kernel
theorem dX2_glide_26 : decode cX2_glide 26 = .ok (.aload_n 0, 1) := by decide +kernel
theorem dX2_glide_27 : decode cX2_glide 27 = .ok (.invokevirtual 71, 3) := by decide +kernel
theorem dX2_glide_30 : decode cX2_glide 30 = .ok (.ireturn, 1) := by decide +kernel
theorem dX2_glide_31 : decode cX2_glide 31 = .ok (.aload_n 0, 1) := by decide +kernel
theorem dX2_glide_32 : decode cX2_glide 32 = .ok (.getfield 25, 3) := by decide +kernel
theorem dX2_glide_35 : decode cX2_glide 35 = .ok (.bipush 60, 2) := by decide +kernel
theorem dX2_glide_37 : decode cX2_glide 37 = .ok (.if_icmp .lt 5, 3) := by decide +kernel
theorem dX2_glide_40 : decode cX2_glide 40 = .ok (.iconst (-1), 1) := by decide +kernel
theorem dX2_glide_41 : decode cX2_glide 41 = .ok (.ireturn, 1) := by decide +kernel
theorem dX2_glide_42 : decode cX2_glide 42 = .ok (.aload_n 0, 1) := by decide +kernel
theorem dX2_glide_43 : decode cX2_glide 43 = .ok (.invokevirtual 75, 3) := by decide +kernel
theorem dX2_glide_46 : decode cX2_glide 46 = .ok (.ifCond .ne 6, 3) := by decide +kernel
theorem dX2_glide_49 : decode cX2_glide 49 = .ok (.goto 35, 3) := by decide +kernel
theorem dX2_glide_52 : decode cX2_glide 52 = .ok (.aload_n 0, 1) := by decide +kernel
theorem dX2_glide_53 : decode cX2_glide 53 = .ok (.getfield 22, 3) := by decide +kernel
theorem dX2_glide_56 : decode cX2_glide 56 = .ok (.aload_n 0, 1) := by decide +kernel
theorem dX2_glide_57 : decode cX2_glide 57 = .ok (.getfield 31, 3) := by decide +kernel
theorem dX2_glide_60 : decode cX2_glide 60 = .ok (.iadd, 1) := by decide +kernel
theorem dX2_glide_61 : decode cX2_glide 61 = .ok (.iconst 0, 1) := by decide +kernel
theorem dX2_glide_62 : decode cX2_glide 62 = .ok (.bipush 8, 2) := by decide +kernel
theorem dX2_glide_64 : decode cX2_glide 64 = .ok (.invokestatic 79, 3) := by decide +kernel
theorem dX2_glide_67 : decode cX2_glide 67 = .ok (.ifCond .ne 5, 3) := by decide +kernel
theorem dX2_glide_70 : decode cX2_glide 70 = .ok (.iconst (-1), 1) := by decide +kernel
theorem dX2_glide_71 : decode cX2_glide 71 = .ok (.ireturn, 1) := by decide +kernel
theorem dX2_glide_72 : decode cX2_glide 72 = .ok (.aload_n 0, 1) := by decide +kernel
theorem dX2_glide_73 : decode cX2_glide 73 = .ok (.invokevirtual 83, 3) := by decide +kernel
theorem dX2_glide_76 : decode cX2_glide 76 = .ok (.ifCond .ne 8, 3) := by decide +kernel
theorem dX2_glide_79 : decode cX2_glide 79 = .ok (.aload_n 0, 1) := by decide +kernel
theorem dX2_glide_80 : decode cX2_glide 80 = .ok (.invokevirtual 71, 3) := by decide +kernel
theorem dX2_glide_83 : decode cX2_glide 83 = .ok (.ireturn, 1) := by decide +kernel
theorem dX2_glide_84 : decode cX2_glide 84 = .ok (.iinc 2 1, 3) := by decide +kernel
theorem dX2_glide_87 : decode cX2_glide 87 = .ok (.goto (-75), 3) := by decide +kernel
theorem dX2_glide_90 : decode cX2_glide 90 = .ok (.iconst (-1), 1) := by decide +kernel
theorem dX2_glide_91 : decode cX2_glide 91 = .ok (.ireturn, 1) := by decide +kernel
theorem dX2_isSwept_0 : decode cX2_isSwept 0 = .ok (.iload_n 1, 1) := by decide +kernel
theorem dX2_isSwept_1 : decode cX2_isSwept 1 = .ok (.aload_n 0, 1) := by decide +kernel
theorem dX2_isSwept_2 : decode cX2_isSwept 2 = .ok (.getfield 34, 3) := by decide +kernel
theorem dX2_isSwept_5 : decode cX2_isSwept 5 = .ok (.if_icmp .lt 15, 3) := by decide +kernel
theorem dX2_isSwept_8 : decode cX2_isSwept 8 = .ok (.iload_n 1, 1) := by decide +kernel
theorem dX2_isSwept_9 : decode cX2_isSwept 9 = .ok (.aload_n 0, 1) := by decide +kernel
theorem dX2_isSwept_10 : decode cX2_isSwept 10 = .ok (.getfield 37, 3) := by decide +kernel
theorem dX2_isSwept_13 : decode cX2_isSwept 13 = .ok (.if_icmp .gt 7, 3) := by decide +kernel
theorem dX2_isSwept_16 : decode cX2_isSwept 16 = .ok (.iconst 1, 1) := by decide +kernel
theorem dX2_isSwept_17 : decode cX2_isSwept 17 = .ok (.goto 4, 3) := by decide +kernel
theorem dX2_isSwept_20 : decode cX2_isSwept 20 = .ok (.iconst 0, 1) := by decide +kernel
theorem dX2_isSwept_21 : decode cX2_isSwept 21 = .ok (.ireturn, 1) := by decide +kernel
theorem dX2_restingPlace_0 : decode cX2_restingPlace 0 = .ok (.aload_n 0, 1) := by decide +kernel
theorem dX2_restingPlace_1 : decode cX2_restingPlace 1 = .ok (.getfield 25, 3) := by decide +kernel
theorem dX2_restingPlace_4 : decode cX2_restingPlace 4 = .ok (.bipush 30, 2) := by decide +kernel
theorem dX2_restingPlace_6 : decode cX2_restingPlace 6 = .ok (.if_icmp .ge 7, 3) := by decide +kernel
theorem dX2_restingPlace_9 : decode cX2_restingPlace 9 = .ok (.iconst (-1), 1) := by decide +kernel
theorem dX2_restingPlace_10 : decode cX2_restingPlace 10 = .ok (.goto 15, 3) := by decide +kernel
theorem dX2_restingPlace_13 : decode cX2_restingPlace 13 = .ok (.bipush 100, 2) := by decide +kernel
theorem dX2_restingPlace_15 : decode cX2_restingPlace 15 = .ok (.aload_n 0, 1) := by decide +kernel
theorem dX2_restingPlace_16 : decode cX2_restingPlace 16 = .ok (.getfield 22, 3) := by decide +kernel
theorem dX2_restingPlace_19 : decode cX2_restingPlace 19 = .ok (.imul, 1) := by decide +kernel
theorem dX2_restingPlace_20 : decode cX2_restingPlace 20 = .ok (.aload_n 0, 1) := by decide +kernel
theorem dX2_restingPlace_21 : decode cX2_restingPlace 21 = .ok (.getfield 25, 3) := by decide +kernel
theorem dX2_restingPlace_24 : decode cX2_restingPlace 24 = .ok (.iadd, 1) := by decide +kernel
theorem dX2_restingPlace_25 : decode cX2_restingPlace 25 = .ok (.ireturn, 1) := by decide +kernel
theorem dX2_stepsForward_0 : decode cX2_stepsForward 0 = .ok (.aload_n 0, 1) := by decide +kernel
theorem dX2_stepsForward_1 : decode cX2_stepsForward 1 = .ok (.getfield 25, 3) := by decide +kernel
theorem dX2_stepsForward_4 : decode cX2_stepsForward 4 = .ok (.iconst 1, 1) := by decide +kernel
theorem dX2_stepsForward_5 : decode cX2_stepsForward 5 = .ok (.iadd, 1) := by decide +kernel
theorem dX2_stepsForward_6 : decode cX2_stepsForward 6 = .ok (.istore_n 2, 1) := by decide +kernel
theorem dX2_stepsForward_7 : decode cX2_stepsForward 7 = .ok (.bipush 10, 2) := by decide +kernel
theorem dX2_stepsForward_9 : decode cX2_stepsForward 9 = .ok (.aload_n 1, 1) := by decide +kernel
theorem dX2_stepsForward_10 : decode cX2_stepsForward 10 = .ok (.aload_n 0, 1) := by decide +kernel
theorem dX2_stepsForward_11 : decode cX2_stepsForward 11 = .ok (.getfield 22, 3) := by decide +kernel
theorem dX2_stepsForward_14 : decode cX2_stepsForward 14 = .ok (.iload_n 2, 1) := by decide +kernel
theorem dX2_stepsForward_15 : decode cX2_stepsForward 15 = .ok (.invokevirtual 86, 3) := by decide +kernel
theorem dX2_stepsForward_18 : decode cX2_stepsForward 18 = .ok (.iadd, 1) := by decide +kernel
theorem dX2_stepsForward_19 : decode cX2_stepsForward 19 = .ok (.aload_n 0, 1) := by decide +kernel
theorem dX2_stepsForward_20 : decode cX2_stepsForward 20 = .ok (.iload_n 2, 1) := by decide +kernel
theorem dX2_stepsForward_21 : decode cX2_stepsForward 21 = .ok (.invokevirtual 92, 3) := by decide +kernel
theorem dX2_stepsForward_24 : decode cX2_stepsForward 24 = .ok (.ifCond .eq 7, 3) := by decide +kernel
theorem dX2_stepsForward_27 : decode cX2_stepsForward 27 = .ok (.iconst 3, 1) := by decide +kernel
theorem dX2_stepsForward_28 : decode cX2_stepsForward 28 = .ok (.goto 4, 3) := by decide +kernel
theorem dX2_stepsForward_31 : decode cX2_stepsForward 31 = .ok (.iconst 0, 1) := by decide +kernel
theorem dX2_stepsForward_32 : decode cX2_stepsForward 32 = .ok (.isub, 1) := by decide +kernel
theorem dX2_stepsForward_33 : decode cX2_stepsForward 33 = .ok (.istore_n 3, 1) := by decide +kernel
theorem dX2_stepsForward_34 : decode cX2_stepsForward 34 = .ok (.aload_n 0, 1) := by decide +kernel
theorem dX2_stepsForward_35 : decode cX2_stepsForward 35 = .ok (.getfield 28, 3) := by decide +kernel
theorem dX2_stepsForward_38 : decode cX2_stepsForward 38 = .ok (.iload_n 3, 1) := by decide +kernel
theorem dX2_stepsForward_39 : decode cX2_stepsForward 39 = .ok (.if_icmp .ge 5, 3) := by decide +kernel
theorem dX2_stepsForward_42 : decode cX2_stepsForward 42 = .ok (.iconst 0, 1) := by decide +kernel
theorem dX2_stepsForward_43 : decode cX2_stepsForward 43 = .ok (.ireturn, 1) := by decide +kernel
theorem dX2_stepsForward_44 : decode cX2_stepsForward 44 = .ok (.aload_n 0, 1) := by decide +kernel
theorem dX2_stepsForward_45 : decode cX2_stepsForward 45 = .ok (.aload_n 0, 1) := by decide +kernel
theorem dX2_stepsForward_46 : decode cX2_stepsForward 46 = .ok (.getfield 12, 3) := by decide +kernel
theorem dX2_stepsForward_49 : decode cX2_stepsForward 49 = .ok (.aload_n 0, 1) := by decide +kernel
theorem dX2_stepsForward_50 : decode cX2_stepsForward 50 = .ok (.getfield 22, 3) := by decide +kernel
theorem dX2_stepsForward_53 : decode cX2_stepsForward 53 = .ok (.iload_n 2, 1) := by decide +kernel
theorem dX2_stepsForward_54 : decode cX2_stepsForward 54 = .ok (.invokevirtual 96, 3) := by decide +kernel
theorem dX2_stepsForward_57 : decode cX2_stepsForward 57 = .ok (.putfield 18, 3) := by decide +kernel
theorem dX2_stepsForward_60 : decode cX2_stepsForward 60 = .ok (.aload_n 0, 1) := by decide +kernel
theorem dX2_stepsForward_61 : decode cX2_stepsForward 61 = .ok (.getfield 18, 3) := by decide +kernel
theorem dX2_stepsForward_64 : decode cX2_stepsForward 64 = .ok (.iconst (-1), 1) := by decide +kernel
theorem dX2_stepsForward_65 : decode cX2_stepsForward 65 = .ok (.if_icmp .eq 17, 3) := by decide +kernel
theorem dX2_stepsForward_68 : decode cX2_stepsForward 68 = .ok (.aload_n 0, 1) := by decide +kernel
theorem dX2_stepsForward_69 : decode cX2_stepsForward 69 = .ok (.aload_n 0, 1) := by decide +kernel
theorem dX2_stepsForward_70 : decode cX2_stepsForward 70 = .ok (.getfield 28, 3) := by decide +kernel
theorem dX2_stepsForward_73 : decode cX2_stepsForward 73 = .ok (.iconst 3, 1) := by decide +kernel
theorem dX2_stepsForward_74 : decode cX2_stepsForward 74 = .ok (.imul, 1) := by decide +kernel
theorem dX2_stepsForward_75 : decode cX2_stepsForward 75 = .ok (.iconst 4, 1) := by decide +kernel
theorem dX2_stepsForward_76 : decode cX2_stepsForward 76 = .ok (.idiv, 1) := by decide +kernel
theorem dX2_stepsForward_77 : decode cX2_stepsForward 77 = .ok (.putfield 28, 3) := by decide +kernel
theorem dX2_stepsForward_80 : decode cX2_stepsForward 80 = .ok (.iconst 0, 1) := by decide +kernel
theorem dX2_stepsForward_81 : decode cX2_stepsForward 81 = .ok (.ireturn, 1) := by decide +kernel
theorem dX2_stepsForward_82 : decode cX2_stepsForward 82 = .ok (.aload_n 0, 1) := by decide +kernel
theorem dX2_stepsForward_83 : decode cX2_stepsForward 83 = .ok (.iload_n 2, 1) := by decide +kernel
theorem dX2_stepsForward_84 : decode cX2_stepsForward 84 = .ok (.putfield 25, 3) := by decide +kernel
theorem dX2_stepsForward_87 : decode cX2_stepsForward 87 = .ok (.aload_n 0, 1) := by decide +kernel
theorem dX2_stepsForward_88 : decode cX2_stepsForward 88 = .ok (.dup, 1) := by decide +kernel
theorem dX2_stepsForward_89 : decode cX2_stepsForward 89 = .ok (.getfield 28, 3) := by decide +kernel
theorem dX2_stepsForward_92 : decode cX2_stepsForward 92 = .ok (.iload_n 3, 1) := by decide +kernel
theorem dX2_stepsForward_93 : decode cX2_stepsForward 93 = .ok (.isub, 1) := by decide +kernel
theorem dX2_stepsForward_94 : decode cX2_stepsForward 94 = .ok (.putfield 28, 3) := by decide +kernel
theorem dX2_stepsForward_97 : decode cX2_stepsForward 97 = .ok (.aload_n 0, 1) := by decide +kernel
theorem dX2_stepsForward_98 : decode cX2_stepsForward 98 = .ok (.getfield 44, 3) := by decide +kernel
theorem dX2_stepsForward_101 : decode cX2_stepsForward 101 = .ok (.ifCond .eq 12, 3) := by decide +kernel
theorem dX2_stepsForward_104 : decode cX2_stepsForward 104 = .ok (.aload_n 1, 1) := by decide +kernel
theorem dX2_stepsForward_105 : decode cX2_stepsForward 105 = .ok (.aload_n 0, 1) := by decide +kernel
theorem dX2_stepsForward_106 : decode cX2_stepsForward 106 = .ok (.getfield 22, 3) := by decide +kernel
theorem dX2_stepsForward_109 : decode cX2_stepsForward 109 = .ok (.iload_n 2, 1) := by decide +kernel
theorem dX2_stepsForward_110 : decode cX2_stepsForward 110 = .ok (.invokevirtual 99, 3) := by decide +kernel
theorem dX2_stepsForward_113 : decode cX2_stepsForward 113 = .ok (.iconst 1, 1) := by decide +kernel
theorem dX2_stepsForward_114 : decode cX2_stepsForward 114 = .ok (.ireturn, 1) := by decide +kernel
theorem dX2_mustMoveAside_0 : decode cX2_mustMoveAside 0 = .ok (.aload_n 0, 1) := by decide +kernel
theorem dX2_mustMoveAside_1 : decode cX2_mustMoveAside 1 = .ok (.getfield 31, 3) := by decide +kernel
theorem dX2_mustMoveAside_4 : decode cX2_mustMoveAside 4 = .ok (.ifCond .eq 14, 3) := by decide +kernel
theorem dX2_mustMoveAside_7 : decode cX2_mustMoveAside 7 = .ok (.aload_n 0, 1) := by decide +kernel
theorem dX2_mustMoveAside_8 : decode cX2_mustMoveAside 8 = .ok (.aload_n 0, 1) := by decide +kernel
theorem dX2_mustMoveAside_9 : decode cX2_mustMoveAside 9 = .ok (.getfield 25, 3) := by decide +kernel
theorem dX2_mustMoveAside_12 : decode cX2_mustMoveAside 12 = .ok (.invokevirtual 92, 3) := by decide +kernel
theorem dX2_mustMoveAside_15 : decode cX2_mustMoveAside 15 = .ok (.ifCond .eq 5, 3) := by decide +kernel
theorem dX2_mustMoveAside_18 : decode cX2_mustMoveAside 18 = .ok (.iconst 0, 1) := by decide +kernel
theorem dX2_mustMoveAside_19 : decode cX2_mustMoveAside 19 = .ok (.ireturn, 1) := by decide +kernel
theorem dX2_mustMoveAside_20 : decode cX2_mustMoveAside 20 = .ok (.aload_n 0, 1) := by decide +kernel
theorem dX2_mustMoveAside_21 : decode cX2_mustMoveAside 21 = .ok (.dup, 1) := by decide +kernel
theorem dX2_mustMoveAside_22 : decode cX2_mustMoveAside 22 = .ok (.getfield 64, 3) := by decide +kernel
theorem dX2_mustMoveAside_25 : decode cX2_mustMoveAside 25 = .ok (.iconst 1, 1) := by decide +kernel
theorem dX2_mustMoveAside_26 : decode cX2_mustMoveAside 26 = .ok (.iadd, 1) := by decide +kernel
theorem dX2_mustMoveAside_27 : decode cX2_mustMoveAside 27 = .ok (.putfield 64, 3) := by decide +kernel
theorem dX2_mustMoveAside_30 : decode cX2_mustMoveAside 30 = .ok (.aload_n 0, 1) := by decide +kernel
theorem dX2_mustMoveAside_31 : decode cX2_mustMoveAside 31 = .ok (.getfield 64, 3) := by decide +kernel
theorem dX2_mustMoveAside_34 : decode cX2_mustMoveAside 34 = .ok (.bipush 12, 2) := by decide +kernel
theorem dX2_mustMoveAside_36 : decode cX2_mustMoveAside 36 = .ok (.if_icmp .ge 22, 3) := by decide +kernel
theorem dX2_mustMoveAside_39 : decode cX2_mustMoveAside 39 = .ok (.aload_n 0, 1) := by decide +kernel
theorem dX2_mustMoveAside_40 : decode cX2_mustMoveAside 40 = .ok (.getfield 28, 3) := by decide +kernel
theorem dX2_mustMoveAside_43 : decode cX2_mustMoveAside 43 = .ok (.sipush 300, 3) := by decide +kernel
theorem dX2_mustMoveAside_46 : decode cX2_mustMoveAside 46 = .ok (.if_icmp .ge 16, 3) := by decide +kernel
theorem dX2_mustMoveAside_49 : decode cX2_mustMoveAside 49 = .ok (.aload_n 0, 1) := by decide +kernel
theorem dX2_mustMoveAside_50 : decode cX2_mustMoveAside 50 = .ok (.getfield 64, 3) := by decide +kernel
theorem dX2_mustMoveAside_53 : decode cX2_mustMoveAside 53 = .ok (.bipush 6, 2) := by decide +kernel
theorem dX2_mustMoveAside_55 : decode cX2_mustMoveAside 55 = .ok (.if_icmp .lt 7, 3) := by decide +kernel
theorem dX2_mustMoveAside_58 : decode cX2_mustMoveAside 58 = .ok (.iconst 1, 1) := by decide +kernel
theorem dX2_mustMoveAside_59 : decode cX2_mustMoveAside 59 = .ok (.goto 4, 3) := by decide +kernel
theorem dX2_mustMoveAside_62 : decode cX2_mustMoveAside 62 = .ok (.iconst 0, 1) := by decide +kernel
theorem dX2_mustMoveAside_63 : decode cX2_mustMoveAside 63 = .ok (.ireturn, 1) := by decide +kernel
theorem dX2_movesAside_0 : decode cX2_movesAside 0 = .ok (.aload_n 0, 1) := by decide +kernel
theorem dX2_movesAside_1 : decode cX2_movesAside 1 = .ok (.aload_n 0, 1) := by decide +kernel
theorem dX2_movesAside_2 : decode cX2_movesAside 2 = .ok (.getfield 12, 3) := by decide +kernel
theorem dX2_movesAside_5 : decode cX2_movesAside 5 = .ok (.aload_n 0, 1) := by decide +kernel
theorem dX2_movesAside_6 : decode cX2_movesAside 6 = .ok (.getfield 22, 3) := by decide +kernel
theorem dX2_movesAside_9 : decode cX2_movesAside 9 = .ok (.aload_n 0, 1) := by decide +kernel
theorem dX2_movesAside_10 : decode cX2_movesAside 10 = .ok (.getfield 31, 3) := by decide +kernel
theorem dX2_movesAside_13 : decode cX2_movesAside 13 = .ok (.iadd, 1) := by decide +kernel
theorem dX2_movesAside_14 : decode cX2_movesAside 14 = .ok (.aload_n 0, 1) := by decide +kernel
theorem dX2_movesAside_15 : decode cX2_movesAside 15 = .ok (.getfield 25, 3) := by decide +kernel
theorem dX2_movesAside_18 : decode cX2_movesAside 18 = .ok (.invokevirtual 96, 3) := by decide +kernel
theorem dX2_movesAside_21 : decode cX2_movesAside 21 = .ok (.putfield 18, 3) := by decide +kernel
theorem dX2_movesAside_24 : decode cX2_movesAside 24 = .ok (.aload_n 0, 1) := by decide +kernel
theorem dX2_movesAside_25 : decode cX2_movesAside 25 = .ok (.getfield 18, 3) := by decide +kernel
theorem dX2_movesAside_28 : decode cX2_movesAside 28 = .ok (.iconst (-1), 1) := by decide +kernel
theorem dX2_movesAside_29 : decode cX2_movesAside 29 = .ok (.if_icmp .eq 15, 3) := by decide +kernel
theorem dX2_movesAside_32 : decode cX2_movesAside 32 = .ok (.aload_n 0, 1) := by decide +kernel
theorem dX2_movesAside_33 : decode cX2_movesAside 33 = .ok (.dup, 1) := by decide +kernel
theorem dX2_movesAside_34 : decode cX2_movesAside 34 = .ok (.getfield 28, 3) := by decide +kernel
theorem dX2_movesAside_37 : decode cX2_movesAside 37 = .ok (.iconst 2, 1) := by decide +kernel
theorem dX2_movesAside_38 : decode cX2_movesAside 38 = .ok (.idiv, 1) := by decide +kernel
theorem dX2_movesAside_39 : decode cX2_movesAside 39 = .ok (.putfield 28, 3) := by decide +kernel
theorem dX2_movesAside_42 : decode cX2_movesAside 42 = .ok (.iconst 0, 1) := by decide +kernel
theorem dX2_movesAside_43 : decode cX2_movesAside 43 = .ok (.ireturn, 1) := by decide +kernel
theorem dX2_movesAside_44 : decode cX2_movesAside 44 = .ok (.aload_n 0, 1) := by decide +kernel
theorem dX2_movesAside_45 : decode cX2_movesAside 45 = .ok (.dup, 1) := by decide +kernel
theorem dX2_movesAside_46 : decode cX2_movesAside 46 = .ok (.getfield 22, 3) := by decide +kernel
theorem dX2_movesAside_49 : decode cX2_movesAside 49 = .ok (.aload_n 0, 1) := by decide +kernel
theorem dX2_movesAside_50 : decode cX2_movesAside 50 = .ok (.getfield 31, 3) := by decide +kernel
theorem dX2_movesAside_53 : decode cX2_movesAside 53 = .ok (.iadd, 1) := by decide +kernel
theorem dX2_movesAside_54 : decode cX2_movesAside 54 = .ok (.putfield 22, 3) := by decide +kernel
theorem dX2_movesAside_57 : decode cX2_movesAside 57 = .ok (.aload_n 0, 1) := by decide +kernel
theorem dX2_movesAside_58 : decode cX2_movesAside 58 = .ok (.iconst 0, 1) := by decide +kernel
theorem dX2_movesAside_59 : decode cX2_movesAside 59 = .ok (.putfield 64, 3) := by decide +kernel
theorem dX2_movesAside_62 : decode cX2_movesAside 62 = .ok (.iconst 1, 1) := by decide +kernel
theorem dX2_movesAside_63 : decode cX2_movesAside 63 = .ok (.ireturn, 1) := by decide +kernel
theorem dX3_init_0 : decode cX3_init 0 = .ok (.aload_n 0, 1) := by decide +kernel
theorem dX3_init_1 : decode cX3_init 1 = .ok (.invokespecial 3, 3) := by decide +kernel
theorem dX3_init_4 : decode cX3_init 4 = .ok (.aload_n 0, 1) := by decide +kernel
theorem dX3_init_5 : decode cX3_init 5 = .ok (.bipush 6, 2) := by decide +kernel
theorem dX3_init_7 : decode cX3_init 7 = .ok (.newarray .int, 2) := by decide +kernel
theorem dX3_init_9 : decode cX3_init 9 = .ok (.putfield 9, 3) := by decide +kernel
theorem dX3_init_12 : decode cX3_init 12 = .ok (.aload_n 0, 1) := by decide +kernel
theorem dX3_init_13 : decode cX3_init 13 = .ok (.invokevirtual 15, 3) := by decide +kernel
theorem dX3_init_16 : decode cX3_init 16 = .ok (.return_, 1) := by decide +kernel
theorem dX3_takeAway_0 : decode cX3_takeAway 0 = .ok (.iconst 0, 1) := by decide +kernel
theorem dX3_takeAway_1 : decode cX3_takeAway 1 = .ok (.istore_n 1, 1) := by decide +kernel
theorem dX3_takeAway_2 : decode cX3_takeAway 2 = .ok (.iload_n 1, 1) := by decide +kernel
theorem dX3_takeAway_3 : decode cX3_takeAway 3 = .ok (.aload_n 0, 1) := by decide +kernel
theorem dX3_takeAway_4 : decode cX3_takeAway 4 = .ok (.getfield 9, 3) := by decide +kernel
theorem dX3_takeAway_7 : decode cX3_takeAway 7 = .ok (.arraylength, 1) := by decide +kernel
theorem dX3_takeAway_8 : decode cX3_takeAway 8 = .ok (.if_icmp .ge 16, 3) := by decide +kernel
theorem dX3_takeAway_11 : decode cX3_takeAway 11 = .ok (.aload_n 0, 1) := by decide +kernel
theorem dX3_takeAway_12 : decode cX3_takeAway 12 = .ok (.getfield 9, 3) := by decide +kernel
theorem dX3_takeAway_15 : decode cX3_takeAway 15 = .ok (.iload_n 1, 1) := by decide +kernel
theorem dX3_takeAway_16 : decode cX3_takeAway 16 = .ok (.iconst (-1), 1) := by decide +kernel
theorem dX3_takeAway_17 : decode cX3_takeAway 17 = .ok (.iastore, 1) := by decide +kernel
theorem dX3_takeAway_18 : decode cX3_takeAway 18 = .ok (.iinc 1 1, 3) := by decide +kernel
theorem dX3_takeAway_21 : decode cX3_takeAway 21 = .ok (.goto (-19), 3) := by decide +kernel
theorem dX3_takeAway_24 : decode cX3_takeAway 24 = .ok (.return_, 1) := by decide +kernel
theorem dX3_copyFrom_0 : decode cX3_copyFrom 0 = .ok (.iconst 0, 1) := by decide +kernel
theorem dX3_copyFrom_1 : decode cX3_copyFrom 1 = .ok (.istore_n 2, 1) := by decide +kernel
theorem dX3_copyFrom_2 : decode cX3_copyFrom 2 = .ok (.iload_n 2, 1) := by decide +kernel
theorem dX3_copyFrom_3 : decode cX3_copyFrom 3 = .ok (.aload_n 0, 1) := by decide +kernel
theorem dX3_copyFrom_4 : decode cX3_copyFrom 4 = .ok (.getfield 9, 3) := by decide +kernel
theorem dX3_copyFrom_7 : decode cX3_copyFrom 7 = .ok (.arraylength, 1) := by decide +kernel
theorem dX3_copyFrom_8 : decode cX3_copyFrom 8 = .ok (.if_icmp .ge 20, 3) := by decide +kernel
theorem dX3_copyFrom_11 : decode cX3_copyFrom 11 = .ok (.aload_n 0, 1) := by decide +kernel
theorem dX3_copyFrom_12 : decode cX3_copyFrom 12 = .ok (.getfield 9, 3) := by decide +kernel
theorem dX3_copyFrom_15 : decode cX3_copyFrom 15 = .ok (.iload_n 2, 1) := by decide +kernel
theorem dX3_copyFrom_16 : decode cX3_copyFrom 16 = .ok (.aload_n 1, 1) := by decide +kernel
theorem dX3_copyFrom_17 : decode cX3_copyFrom 17 = .ok (.iload_n 2, 1) := by decide +kernel
theorem dX3_copyFrom_18 : decode cX3_copyFrom 18 = .ok (.invokevirtual 18, 3) := by decide +kernel
theorem dX3_copyFrom_21 : decode cX3_copyFrom 21 = .ok (.iastore, 1) := by decide +kernel
theorem dX3_copyFrom_22 : decode cX3_copyFrom 22 = .ok (.iinc 2 1, 3) := by decide +kernel
theorem dX3_copyFrom_25 : decode cX3_copyFrom 25 = .ok (.goto (-23), 3) := by decide +kernel
theorem dX3_copyFrom_28 : decode cX3_copyFrom 28 = .ok (.return_, 1) := by decide +kernel
theorem dX3_placeOf_0 : decode cX3_placeOf 0 = .ok (.iload_n 1, 1) := by decide +kernel
theorem dX3_placeOf_1 : decode cX3_placeOf 1 = .ok (.ifCond .lt 21, 3) := by decide +kernel
theorem dX3_placeOf_4 : decode cX3_placeOf 4 = .ok (.iload_n 1, 1) := by decide +kernel
theorem dX3_placeOf_5 : decode cX3_placeOf 5 = .ok (.aload_n 0, 1) := by decide +kernel
theorem dX3_placeOf_6 : decode cX3_placeOf 6 = .ok (.getfield 9, 3) := by decide +kernel
theorem dX3_placeOf_9 : decode cX3_placeOf 9 = .ok (.arraylength, 1) := by decide +kernel
theorem dX3_placeOf_10 : decode cX3_placeOf 10 = .ok (.if_icmp .ge 12, 3) := by decide +kernel
theorem dX3_placeOf_13 : decode cX3_placeOf 13 = .ok (.aload_n 0, 1) := by decide +kernel
theorem dX3_placeOf_14 : decode cX3_placeOf 14 = .ok (.getfield 9, 3) := by decide +kernel
theorem dX3_placeOf_17 : decode cX3_placeOf 17 = .ok (.iload_n 1, 1) := by decide +kernel
theorem dX3_placeOf_18 : decode cX3_placeOf 18 = .ok (.iaload, 1) := by decide +kernel
theorem dX3_placeOf_19 : decode cX3_placeOf 19 = .ok (.goto 4, 3) := by decide +kernel
theorem dX3_placeOf_22 : decode cX3_placeOf 22 = .ok (.iconst (-1), 1) := by decide +kernel
theorem dX3_placeOf_23 : decode cX3_placeOf 23 = .ok (.ireturn, 1) := by decide +kernel
theorem dX3_put_0 : decode cX3_put 0 = .ok (.iload_n 1, 1) := by decide +kernel
theorem dX3_put_1 : decode cX3_put 1 = .ok (.ifCond .lt 19, 3) := by decide +kernel
theorem dX3_put_4 : decode cX3_put 4 = .ok (.iload_n 1, 1) := by decide +kernel
theorem dX3_put_5 : decode cX3_put 5 = .ok (.aload_n 0, 1) := by decide +kernel
theorem dX3_put_6 : decode cX3_put 6 = .ok (.getfield 9, 3) := by decide +kernel
theorem dX3_put_9 : decode cX3_put 9 = .ok (.arraylength, 1) := by decide +kernel
theorem dX3_put_10 : decode cX3_put 10 = .ok (.if_icmp .ge 10, 3) := by decide +kernel
theorem dX3_put_13 : decode cX3_put 13 = .ok (.aload_n 0, 1) := by decide +kernel
theorem dX3_put_14 : decode cX3_put 14 = .ok (.getfield 9, 3) := by decide +kernel
theorem dX3_put_17 : decode cX3_put 17 = .ok (.iload_n 1, 1) := by decide +kernel
theorem dX3_put_18 : decode cX3_put 18 = .ok (.iload_n 2, 1) := by decide +kernel
theorem dX3_put_19 : decode cX3_put 19 = .ok (.iastore, 1) := by decide +kernel
theorem dX3_put_20 : decode cX3_put 20 = .ok (.return_, 1) := by decide +kernel
theorem dX3_lyingAt_0 : decode cX3_lyingAt 0 = .ok (.iload_n 2, 1) := by decide +kernel
theorem dX3_lyingAt_1 : decode cX3_lyingAt 1 = .ok (.bipush 30, 2) := by decide +kernel
theorem dX3_lyingAt_3 : decode cX3_lyingAt 3 = .ok (.if_icmp .ge 5, 3) := by decide +kernel
theorem dX3_lyingAt_6 : decode cX3_lyingAt 6 = .ok (.iconst (-1), 1) := by decide +kernel
theorem dX3_lyingAt_7 : decode cX3_lyingAt 7 = .ok (.ireturn, 1) := by decide +kernel
theorem dX3_lyingAt_8 : decode cX3_lyingAt 8 = .ok (.bipush 100, 2) := by decide +kernel
theorem dX3_lyingAt_10 : decode cX3_lyingAt 10 = .ok (.iload_n 1, 1) := by decide +kernel
theorem dX3_lyingAt_11 : decode cX3_lyingAt 11 = .ok (.imul, 1) := by decide +kernel
theorem dX3_lyingAt_12 : decode cX3_lyingAt 12 = .ok (.iload_n 2, 1) := by decide +kernel
theorem dX3_lyingAt_13 : decode cX3_lyingAt 13 = .ok (.iadd, 1) := by decide +kernel
theorem dX3_lyingAt_14 : decode cX3_lyingAt 14 = .ok (.istore_n 3, 1) := by decide +kernel
theorem dX3_lyingAt_15 : decode cX3_lyingAt 15 = .ok (.iconst 0, 1) := by decide +kernel
theorem dX3_lyingAt_16 : decode cX3_lyingAt 16 = .ok (.istore 4, 2) := by decide +kernel
theorem dX3_lyingAt_18 : decode cX3_lyingAt 18 = .ok (.iload 4, 2) := by decide +kernel
theorem dX3_lyingAt_20 : decode cX3_lyingAt 20 = .ok (.aload_n 0, 1) := by decide +kernel
theorem dX3_lyingAt_21 : decode cX3_lyingAt 21 = .ok (.getfield 9, 3) := by decide +kernel
theorem dX3_lyingAt_24 : decode cX3_lyingAt 24 = .ok (.arraylength, 1) := by decide +kernel
theorem dX3_lyingAt_25 : decode cX3_lyingAt 25 = .ok (.if_icmp .ge 23, 3) := by decide +kernel
theorem dX3_lyingAt_28 : decode cX3_lyingAt 28 = .ok (.aload_n 0, 1) := by decide +kernel
theorem dX3_lyingAt_29 : decode cX3_lyingAt 29 = .ok (.getfield 9, 3) := by decide +kernel
theorem dX3_lyingAt_32 : decode cX3_lyingAt 32 = .ok (.iload 4, 2) := by decide +kernel
theorem dX3_lyingAt_34 : decode cX3_lyingAt 34 = .ok (.iaload, 1) := by decide +kernel
theorem dX3_lyingAt_35 : decode cX3_lyingAt 35 = .ok (.iload_n 3, 1) := by decide +kernel
theorem dX3_lyingAt_36 : decode cX3_lyingAt 36 = .ok (.if_icmp .ne 6, 3) := by decide +kernel
theorem dX3_lyingAt_39 : decode cX3_lyingAt 39 = .ok (.iload 4, 2) := by decide +kernel
theorem dX3_lyingAt_41 : decode cX3_lyingAt 41 = .ok (.ireturn, 1) := by decide +kernel
theorem dX3_lyingAt_42 : decode cX3_lyingAt 42 = .ok (.iinc 4 1, 3) := by decide +kernel
theorem dX3_lyingAt_45 : decode cX3_lyingAt 45 = .ok (.goto (-27), 3) := by decide +kernel
theorem dX3_lyingAt_48 : decode cX3_lyingAt 48 = .ok (.iconst (-1), 1) := by decide +kernel
theorem dX3_lyingAt_49 : decode cX3_lyingAt 49 = .ok (.ireturn, 1) := by decide +kernel
theorem dX3_score_0 : decode cX3_score 0 = .ok (.aload_n 0, 1) := by decide +kernel
theorem dX3_score_1 : decode cX3_score 1 = .ok (.iconst 0, 1) := by decide +kernel
theorem dX3_score_2 : decode cX3_score 2 = .ok (.invokevirtual 22, 3) := by decide +kernel
theorem dX3_score_5 : decode cX3_score 5 = .ok (.istore_n 1, 1) := by decide +kernel
theorem dX3_score_6 : decode cX3_score 6 = .ok (.aload_n 0, 1) := by decide +kernel
theorem dX3_score_7 : decode cX3_score 7 = .ok (.iconst 3, 1) := by decide +kernel
theorem dX3_score_8 : decode cX3_score 8 = .ok (.invokevirtual 22, 3) := by decide +kernel
theorem dX3_score_11 : decode cX3_score 11 = .ok (.istore_n 2, 1) := by decide +kernel
theorem dX3_score_12 : decode cX3_score 12 = .ok (.iload_n 1, 1) := by decide +kernel
theorem dX3_score_13 : decode cX3_score 13 = .ok (.iload_n 2, 1) := by decide +kernel
theorem dX3_score_14 : decode cX3_score 14 = .ok (.if_icmp .ge 10, 3) := by decide +kernel
theorem dX3_score_17 : decode cX3_score 17 = .ok (.aload_n 0, 1) := by decide +kernel
theorem dX3_score_18 : decode cX3_score 18 = .ok (.iconst 0, 1) := by decide +kernel
theorem dX3_score_19 : decode cX3_score 19 = .ok (.iload_n 2, 1) := by decide +kernel
theorem dX3_score_20 : decode cX3_score 20 = .ok (.invokevirtual 25, 3) := by decide +kernel
theorem dX3_score_23 : decode cX3_score 23 = .ok (.ireturn, 1) := by decide +kernel
theorem dX3_score_24 : decode cX3_score 24 = .ok (.iload_n 2, 1) := by decide +kernel
theorem dX3_score_25 : decode cX3_score 25 = .ok (.iload_n 1, 1) := by decide +kernel
theorem dX3_score_26 : decode cX3_score 26 = .ok (.if_icmp .ge 13, 3) := by decide +kernel
theorem dX3_score_29 : decode cX3_score 29 = .ok (.aload_n 0, 1) := by decide +kernel
theorem dX3_score_30 : decode cX3_score 30 = .ok (.iconst 3, 1) := by decide +kernel
theorem dX3_score_31 : decode cX3_score 31 = .ok (.iload_n 1, 1) := by decide +kernel
theorem dX3_score_32 : decode cX3_score 32 = .ok (.invokevirtual 25, 3) := by decide +kernel
theorem dX3_score_35 : decode cX3_score 35 = .ok (.ineg, 1) := by decide +kernel
theorem dX3_score_36 : decode cX3_score 36 = .ok (.goto 4, 3) := by decide +kernel
theorem dX3_score_39 : decode cX3_score 39 = .ok (.iconst 0, 1) := by decide +kernel
theorem dX3_score_40 : decode cX3_score 40 = .ok (.ireturn, 1) := by decide +kernel
theorem dX3_nearest_0 : decode cX3_nearest 0 = .ok (.bipush 11, 2) := by decide +kernel
theorem dX3_nearest_2 : decode cX3_nearest 2 = .ok (.istore_n 2, 1) := by decide +kernel
theorem dX3_nearest_3 : decode cX3_nearest 3 = .ok (.iconst 0, 1) := by decide +kernel
theorem dX3_nearest_4 : decode cX3_nearest 4 = .ok (.istore_n 3, 1) := by decide +kernel
theorem dX3_nearest_5 : decode cX3_nearest 5 = .ok (.iload_n 3, 1) := by decide +kernel
theorem dX3_nearest_6 : decode cX3_nearest 6 = .ok (.iconst 3, 1) := by decide +kernel
theorem dX3_nearest_7 : decode cX3_nearest 7 = .ok (.if_icmp .ge 24, 3) := by decide +kernel
theorem dX3_nearest_10 : decode cX3_nearest 10 = .ok (.iload_n 2, 1) := by decide +kernel
theorem dX3_nearest_11 : decode cX3_nearest 11 = .ok (.aload_n 0, 1) := by decide +kernel
theorem dX3_nearest_12 : decode cX3_nearest 12 = .ok (.iload_n 1, 1) := by decide +kernel
theorem dX3_nearest_13 : decode cX3_nearest 13 = .ok (.iload_n 3, 1) := by decide +kernel
theorem dX3_nearest_14 : decode cX3_nearest 14 = .ok (.iadd, 1) := by decide +kernel
theorem dX3_nearest_15 : decode cX3_nearest 15 = .ok (.invokevirtual 18, 3) := by decide +kernel
theorem dX3_nearest_18 : decode cX3_nearest 18 = .ok (.invokestatic 29, 3) := by decide +kernel
theorem dX3_nearest_21 : decode cX3_nearest 21 = .ok (.invokestatic 32, 3) := by decide +kernel
theorem dX3_nearest_24 : decode cX3_nearest 24 = .ok (.istore_n 2, 1) := by decide +kernel
theorem dX3_nearest_25 : decode cX3_nearest 25 = .ok (.iinc 3 1, 3) := by decide +kernel
theorem dX3_nearest_28 : decode cX3_nearest 28 = .ok (.goto (-23), 3) := by decide +kernel
theorem dX3_nearest_31 : decode cX3_nearest 31 = .ok (.iload_n 2, 1) := by decide +kernel
theorem dX3_nearest_32 : decode cX3_nearest 32 = .ok (.ireturn, 1) := by decide +kernel
theorem dX3_countNearer_0 : decode cX3_countNearer 0 = .ok (.iconst 0, 1) := by decide +kernel
theorem dX3_countNearer_1 : decode cX3_countNearer 1 = .ok (.istore_n 3, 1) := by decide +kernel
theorem dX3_countNearer_2 : decode cX3_countNearer 2 = .ok (.iconst 0, 1) := by decide +kernel
theorem dX3_countNearer_3 : decode cX3_countNearer 3 = .ok (.istore 4, 2) := by decide +kernel
theorem dX3_countNearer_5 : decode cX3_countNearer 5 = .ok (.iload 4, 2) := by decide +kernel
theorem dX3_countNearer_7 : decode cX3_countNearer 7 = .ok (.iconst 3, 1) := by decide +kernel
theorem dX3_countNearer_8 : decode cX3_countNearer 8 = .ok (.if_icmp .ge 27, 3) := by decide +kernel
theorem dX3_countNearer_11 : decode cX3_countNearer 11 = .ok (.aload_n 0, 1) := by decide +kernel
theorem dX3_countNearer_12 : decode cX3_countNearer 12 = .ok (.iload_n 1, 1) := by decide +kernel
theorem dX3_countNearer_13 : decode cX3_countNearer 13 = .ok (.iload 4, 2) := by decide +kernel
theorem dX3_countNearer_15 : decode cX3_countNearer 15 = .ok (.iadd, 1) := by decide +kernel
theorem dX3_countNearer_16 : decode cX3_countNearer 16 = .ok (.invokevirtual 18, 3) := by decide +kernel
theorem dX3_countNearer_19 : decode cX3_countNearer 19 = .ok (.invokestatic 29, 3) := by decide +kernel
theorem dX3_countNearer_22 : decode cX3_countNearer 22 = .ok (.iload_n 2, 1) := by decide +kernel
theorem dX3_countNearer_23 : decode cX3_countNearer 23 = .ok (.if_icmp .ge 6, 3) := by decide +kernel
theorem dX3_countNearer_26 : decode cX3_countNearer 26 = .ok (.iinc 3 1, 3) := by decide +kernel
theorem dX3_countNearer_29 : decode cX3_countNearer 29 = .ok (.iinc 4 1, 3) := by decide +kernel
theorem dX3_countNearer_32 : decode cX3_countNearer 32 = .ok (.goto (-27), 3) := by decide +kernel
theorem dX3_countNearer_35 : decode cX3_countNearer 35 = .ok (.iload_n 3, 1) := by decide +kernel
theorem dX3_countNearer_36 : decode cX3_countNearer 36 = .ok (.ireturn, 1) := by decide +kernel
theorem dX3_scoreOneByOne_0 : decode cX3_scoreOneByOne 0 = .ok (.iconst 0, 1) := by decide +kernel
theorem dX3_scoreOneByOne_1 : decode cX3_scoreOneByOne 1 = .ok (.istore_n 1, 1) := by decide +kernel
theorem dX3_scoreOneByOne_2 : decode cX3_scoreOneByOne 2 = .ok (.iconst 0, 1) := by decide +kernel
theorem dX3_scoreOneByOne_3 : decode cX3_scoreOneByOne 3 = .ok (.istore_n 2, 1) := by decide +kernel
theorem dX3_scoreOneByOne_4 : decode cX3_scoreOneByOne 4 = .ok (.iload_n 2, 1) := by decide +kernel
theorem dX3_scoreOneByOne_5 : decode cX3_scoreOneByOne 5 = .ok (.bipush 6, 2) := by decide +kernel
theorem dX3_scoreOneByOne_7 : decode cX3_scoreOneByOne 7 = .ok (.if_icmp .ge 73, 3) := by decide +kernel
theorem dX3_scoreOneByOne_10 : decode cX3_scoreOneByOne 10 = .ok (.iload_n 2, 1) := by decide +kernel
theorem dX3_scoreOneByOne_11 : decode cX3_scoreOneByOne 11 = .ok (.iconst 3, 1) := by decide +kernel
theorem dX3_scoreOneByOne_12 : decode cX3_scoreOneByOne 12 = .ok (.if_icmp .ge 7, 3) := by decide +kernel
theorem dX3_scoreOneByOne_15 : decode cX3_scoreOneByOne 15 = .ok (.iconst 1, 1) := by decide +kernel
theorem dX3_scoreOneByOne_16 : decode cX3_scoreOneByOne 16 = .ok (.goto 4, 3) := by decide +kernel
theorem dX3_scoreOneByOne_19 : decode cX3_scoreOneByOne 19 = .ok (.iconst 0, 1) := by decide +kernel
theorem dX3_scoreOneByOne_20 : decode cX3_scoreOneByOne 20 = .ok (.istore_n 3, 1) := by decide +kernel
theorem dX3_scoreOneByOne_21 : decode cX3_scoreOneByOne 21 = .ok (.aload_n 0, 1) := by decide +kernel
theorem dX3_scoreOneByOne_22 : decode cX3_scoreOneByOne 22 = .ok (.iload_n 2, 1) := by decide +kernel
theorem dX3_scoreOneByOne_23 : decode cX3_scoreOneByOne 23 = .ok (.invokevirtual 18, 3) := by decide +kernel
theorem dX3_scoreOneByOne_26 : decode cX3_scoreOneByOne 26 = .ok (.invokestatic 29, 3) := by decide +kernel
theorem dX3_scoreOneByOne_29 : decode cX3_scoreOneByOne 29 = .ok (.istore 4, 2) := by decide +kernel
theorem dX3_scoreOneByOne_31 : decode cX3_scoreOneByOne 31 = .ok (.aload_n 0, 1) := by decide +kernel
theorem dX3_scoreOneByOne_32 : decode cX3_scoreOneByOne 32 = .ok (.iload_n 3, 1) := by decide +kernel
theorem dX3_scoreOneByOne_33 : decode cX3_scoreOneByOne 33 = .ok (.ifCond .eq 7, 3) := by decide +kernel
theorem dX3_scoreOneByOne_36 : decode cX3_scoreOneByOne 36 = .ok (.iconst 3, 1) := by decide +kernel
theorem dX3_scoreOneByOne_37 : decode cX3_scoreOneByOne 37 = .ok (.goto 4, 3) := by decide +kernel
theorem dX3_scoreOneByOne_40 : decode cX3_scoreOneByOne 40 = .ok (.iconst 0, 1) := by decide +kernel
theorem dX3_scoreOneByOne_41 : decode cX3_scoreOneByOne 41 = .ok (.iload 4, 2) := by decide +kernel
theorem dX3_scoreOneByOne_43 : decode cX3_scoreOneByOne 43 = .ok (.iconst 1, 1) := by decide +kernel
theorem dX3_scoreOneByOne_44 : decode cX3_scoreOneByOne 44 = .ok (.iadd, 1) := by decide +kernel
theorem dX3_scoreOneByOne_45 : decode cX3_scoreOneByOne 45 = .ok (.invokevirtual 25, 3) := by decide +kernel
theorem dX3_scoreOneByOne_48 : decode cX3_scoreOneByOne 48 = .ok (.istore 5, 2) := by decide +kernel
theorem dX3_scoreOneByOne_50 : decode cX3_scoreOneByOne 50 = .ok (.iload 4, 2) := by decide +kernel
theorem dX3_scoreOneByOne_52 : decode cX3_scoreOneByOne 52 = .ok (.bipush 10, 2) := by decide +kernel
theorem dX3_scoreOneByOne_54 : decode cX3_scoreOneByOne 54 = .ok (.if_icmp .gt 20, 3) := by decide +kernel
theorem dX3_scoreOneByOne_57 : decode cX3_scoreOneByOne 57 = .ok (.iload 5, 2) := by decide +kernel
theorem dX3_scoreOneByOne_59 : decode cX3_scoreOneByOne 59 = .ok (.ifCond .ne 15, 3) := by decide +kernel
theorem dX3_scoreOneByOne_62 : decode cX3_scoreOneByOne 62 = .ok (.iload_n 1, 1) := by decide +kernel
theorem dX3_scoreOneByOne_63 : decode cX3_scoreOneByOne 63 = .ok (.iload_n 3, 1) := by decide +kernel
theorem dX3_scoreOneByOne_64 : decode cX3_scoreOneByOne 64 = .ok (.ifCond .eq 7, 3) := by decide +kernel
theorem dX3_scoreOneByOne_67 : decode cX3_scoreOneByOne 67 = .ok (.iconst 1, 1) := by decide +kernel
theorem dX3_scoreOneByOne_68 : decode cX3_scoreOneByOne 68 = .ok (.goto 4, 3) := by decide +kernel
theorem dX3_scoreOneByOne_71 : decode cX3_scoreOneByOne 71 = .ok (.iconst (-1), 1) := by decide +kernel
theorem dX3_scoreOneByOne_72 : decode cX3_scoreOneByOne 72 = .ok (.iadd, 1) := by decide +kernel
theorem dX3_scoreOneByOne_73 : decode cX3_scoreOneByOne 73 = .ok (.istore_n 1, 1) := by decide +kernel
theorem dX3_scoreOneByOne_74 : decode cX3_scoreOneByOne 74 = .ok (.iinc 2 1, 3) := by decide +kernel
theorem dX3_scoreOneByOne_77 : decode cX3_scoreOneByOne 77 = .ok (.goto (-73), 3) := by decide +kernel
theorem dX3_scoreOneByOne_80 : decode cX3_scoreOneByOne 80 = .ok (.iload_n 1, 1) := by decide +kernel
theorem dX3_scoreOneByOne_81 : decode cX3_scoreOneByOne 81 = .ok (.ireturn, 1) := by decide +kernel
theorem dX4_init_0 : decode cX4_init 0 = .ok (.aload_n 0, 1) := by decide +kernel
theorem dX4_init_1 : decode cX4_init 1 = .ok (.invokespecial 3, 3) := by decide +kernel
theorem dX4_init_4 : decode cX4_init 4 = .ok (.return_, 1) := by decide +kernel
theorem dX4_lastStonesPerGame_0 : decode cX4_lastStonesPerGame 0 = .ok (.aload_n 0, 1) := by decide +kernel
theorem dX4_lastStonesPerGame_1 : decode cX4_lastStonesPerGame 1 = .ok (.getfield 9, 3) := by decide +kernel
theorem dX4_lastStonesPerGame_4 : decode cX4_lastStonesPerGame 4 = .ok (.ifCond .le 15, 3) := by decide +kernel
theorem dX4_lastStonesPerGame_7 : decode cX4_lastStonesPerGame 7 = .ok (.aload_n 0, 1) := by decide +kernel
theorem dX4_lastStonesPerGame_8 : decode cX4_lastStonesPerGame 8 = .ok (.getfield 15, 3) := by decide +kernel
theorem dX4_lastStonesPerGame_11 : decode cX4_lastStonesPerGame 11 = .ok (.aload_n 0, 1) := by decide +kernel
theorem dX4_lastStonesPerGame_12 : decode cX4_lastStonesPerGame 12 = .ok (.getfield 9, 3) := by decide +kernel
theorem dX4_lastStonesPerGame_15 : decode cX4_lastStonesPerGame 15 = .ok (.idiv, 1) := by decide +kernel
theorem dX4_lastStonesPerGame_16 : decode cX4_lastStonesPerGame 16 = .ok (.goto 5, 3) := by decide +kernel
theorem dX4_lastStonesPerGame_19 : decode cX4_lastStonesPerGame 19 = .ok (.bipush 30, 2) := by decide +kernel
theorem dX4_lastStonesPerGame_21 : decode cX4_lastStonesPerGame 21 = .ok (.ireturn, 1) := by decide +kernel
theorem dX5_init_0 : decode cX5_init 0 = .ok (.aload_n 0, 1) := by decide +kernel
theorem dX5_init_1 : decode cX5_init 1 = .ok (.invokespecial 3, 3) := by decide +kernel
theorem dX5_init_4 : decode cX5_init 4 = .ok (.aload_n 0, 1) := by decide +kernel
theorem dX5_init_5 : decode cX5_init 5 = .ok (.iconst 3, 1) := by decide +kernel
theorem dX5_init_6 : decode cX5_init 6 = .ok (.anewarray 9, 3) := by decide +kernel
theorem dX5_init_9 : decode cX5_init 9 = .ok (.putfield 11, 3) := by decide +kernel
theorem dX5_init_12 : decode cX5_init 12 = .ok (.iconst 0, 1) := by decide +kernel
theorem dX5_init_13 : decode cX5_init 13 = .ok (.istore_n 1, 1) := by decide +kernel
theorem dX5_init_14 : decode cX5_init 14 = .ok (.iload_n 1, 1) := by decide +kernel
theorem dX5_init_15 : decode cX5_init 15 = .ok (.aload_n 0, 1) := by decide +kernel
theorem dX5_init_16 : decode cX5_init 16 = .ok (.getfield 11, 3) := by decide +kernel
theorem dX5_init_19 : decode cX5_init 19 = .ok (.arraylength, 1) := by decide +kernel
theorem dX5_init_20 : decode cX5_init 20 = .ok (.if_icmp .ge 22, 3) := by decide +kernel
theorem dX5_init_23 : decode cX5_init 23 = .ok (.aload_n 0, 1) := by decide +kernel
theorem dX5_init_24 : decode cX5_init 24 = .ok (.getfield 11, 3) := by decide +kernel
theorem dX5_init_27 : decode cX5_init 27 = .ok (.iload_n 1, 1) := by decide +kernel
theorem dX5_init_28 : decode cX5_init 28 = .ok (.new 9, 3) := by decide +kernel
theorem dX5_init_31 : decode cX5_init 31 = .ok (.dup, 1) := by decide +kernel
theorem dX5_init_32 : decode cX5_init 32 = .ok (.invokespecial 15, 3) := by decide +kernel
theorem dX5_init_35 : decode cX5_init 35 = .ok (.aastore, 1) := by decide +kernel
theorem dX5_init_36 : decode cX5_init 36 = .ok (.iinc 1 1, 3) := by decide +kernel
theorem dX5_init_39 : decode cX5_init 39 = .ok (.goto (-25), 3) := by decide +kernel
theorem dX5_init_42 : decode cX5_init 42 = .ok (.aload_n 0, 1) := by decide +kernel
theorem dX5_init_43 : decode cX5_init 43 = .ok (.bipush 6, 2) := by decide +kernel
theorem dX5_init_45 : decode cX5_init 45 = .ok (.anewarray 16, 3) := by decide +kernel
theorem dX5_init_48 : decode cX5_init 48 = .ok (.putfield 18, 3) := by decide +kernel
theorem dX5_init_51 : decode cX5_init 51 = .ok (.iconst 0, 1) := by decide +kernel
theorem dX5_init_52 : decode cX5_init 52 = .ok (.istore_n 1, 1) := by decide +kernel
theorem dX5_init_53 : decode cX5_init 53 = .ok (.iload_n 1, 1) := by decide +kernel
theorem dX5_init_54 : decode cX5_init 54 = .ok (.aload_n 0, 1) := by decide +kernel
theorem dX5_init_55 : decode cX5_init 55 = .ok (.getfield 18, 3) := by decide +kernel
theorem dX5_init_58 : decode cX5_init 58 = .ok (.arraylength, 1) := by decide +kernel
theorem dX5_init_59 : decode cX5_init 59 = .ok (.if_icmp .ge 22, 3) := by decide +kernel
theorem dX5_init_62 : decode cX5_init 62 = .ok (.aload_n 0, 1) := by decide +kernel
theorem dX5_init_63 : decode cX5_init 63 = .ok (.getfield 18, 3) := by decide +kernel
theorem dX5_init_66 : decode cX5_init 66 = .ok (.iload_n 1, 1) := by decide +kernel
theorem dX5_init_67 : decode cX5_init 67 = .ok (.new 16, 3) := by decide +kernel
theorem dX5_init_70 : decode cX5_init 70 = .ok (.dup, 1) := by decide +kernel
theorem dX5_init_71 : decode cX5_init 71 = .ok (.invokespecial 22, 3) := by decide +kernel
theorem dX5_init_74 : decode cX5_init 74 = .ok (.aastore, 1) := by decide +kernel
theorem dX5_init_75 : decode cX5_init 75 = .ok (.iinc 1 1, 3) := by decide +kernel
theorem dX5_init_78 : decode cX5_init 78 = .ok (.goto (-25), 3) := by decide +kernel
theorem dX5_init_81 : decode cX5_init 81 = .ok (.aload_n 0, 1) := by decide +kernel
theorem dX5_init_82 : decode cX5_init 82 = .ok (.bipush 12, 2) := by decide +kernel
theorem dX5_init_84 : decode cX5_init 84 = .ok (.anewarray 23, 3) := by decide +kernel
theorem dX5_init_87 : decode cX5_init 87 = .ok (.putfield 25, 3) := by decide +kernel
theorem dX5_init_90 : decode cX5_init 90 = .ok (.aload_n 0, 1) := by decide +kernel
theorem dX5_init_91 : decode cX5_init 91 = .ok (.new 29, 3) := by decide +kernel
theorem dX5_init_94 : decode cX5_init 94 = .ok (.dup, 1) := by decide +kernel
theorem dX5_init_95 : decode cX5_init 95 = .ok (.invokespecial 31, 3) := by decide +kernel
theorem dX5_init_98 : decode cX5_init 98 = .ok (.putfield 32, 3) := by decide +kernel
theorem dX5_init_101 : decode cX5_init 101 = .ok (.aload_n 0, 1) := by decide +kernel
theorem dX5_init_102 : decode cX5_init 102 = .ok (.iconst 2, 1) := by decide +kernel
theorem dX5_init_103 : decode cX5_init 103 = .ok (.putfield 36, 3) := by decide +kernel
theorem dX5_init_106 : decode cX5_init 106 = .ok (.aload_n 0, 1) := by decide +kernel
theorem dX5_init_107 : decode cX5_init 107 = .ok (.iconst (-1), 1) := by decide +kernel
theorem dX5_init_108 : decode cX5_init 108 = .ok (.putfield 40, 3) := by decide +kernel
theorem dX5_init_111 : decode cX5_init 111 = .ok (.return_, 1) := by decide +kernel
theorem dX5_plan_0 : decode cX5_plan 0 = .ok (.iload_n 1, 1) := by decide +kernel
theorem dX5_plan_1 : decode cX5_plan 1 = .ok (.iconst 0, 1) := by decide +kernel
theorem dX5_plan_2 : decode cX5_plan 2 = .ok (.iconst 5, 1) := by decide +kernel
theorem dX5_plan_3 : decode cX5_plan 3 = .ok (.invokestatic 43, 3) := by decide +kernel
theorem dX5_plan_6 : decode cX5_plan 6 = .ok (.ifCond .eq 22, 3) := by decide +kernel
theorem dX5_plan_9 : decode cX5_plan 9 = .ok (.iload_n 2, 1) := by decide +kernel
theorem dX5_plan_10 : decode cX5_plan 10 = .ok (.iconst 0, 1) := by decide +kernel
theorem dX5_plan_11 : decode cX5_plan 11 = .ok (.iconst 5, 1) := by decide +kernel
theorem dX5_plan_12 : decode cX5_plan 12 = .ok (.invokestatic 43, 3) := by decide +kernel
theorem dX5_plan_15 : decode cX5_plan 15 = .ok (.ifCond .eq 13, 3) := by decide +kernel
theorem dX5_plan_18 : decode cX5_plan 18 = .ok (.iload 4, 2) := by decide +kernel
theorem dX5_plan_20 : decode cX5_plan 20 = .ok (.iconst 0, 1) := by decide +kernel
theorem dX5_plan_21 : decode cX5_plan 21 = .ok (.iconst 2, 1) := by decide +kernel
theorem dX5_plan_22 : decode cX5_plan 22 = .ok (.invokestatic 43, 3) := by decide +kernel
theorem dX5_plan_25 : decode cX5_plan 25 = .ok (.ifCond .ne 13, 3) := by decide +kernel
theorem dX5_plan_28 : decode cX5_plan 28 = .ok (.new 47, 3) := by decide +kernel
theorem dX5_plan_31 : decode cX5_plan 31 = .ok (.dup, 1) := by decide +kernel
theorem dX5_plan_32 : decode cX5_plan 32 = .ok (.ldc 49, 2) := by decide +kernel
theorem dX5_plan_34 : decode cX5_plan 34 = .ok (.invokespecial 51, 3) := by decide +kernel
theorem dX5_plan_37 : decode cX5_plan 37 = .ok (.athrow, 1) := by decide +kernel
theorem dX5_plan_38 : decode cX5_plan 38 = .ok (.iload_n 1, 1) := by decide +kernel
theorem dX5_plan_39 : decode cX5_plan 39 = .ok (.iload_n 2, 1) := by decide +kernel
theorem dX5_plan_40 : decode cX5_plan 40 = .ok (.if_icmp .eq 19, 3) := by decide +kernel
theorem dX5_plan_43 : decode cX5_plan 43 = .ok (.iload_n 3, 1) := by decide +kernel
theorem dX5_plan_44 : decode cX5_plan 44 = .ok (.aload_n 0, 1) := by decide +kernel
theorem dX5_plan_45 : decode cX5_plan 45 = .ok (.getfield 54, 3) := by decide +kernel
theorem dX5_plan_48 : decode cX5_plan 48 = .ok (.iconst 1, 1) := by decide +kernel
theorem dX5_plan_49 : decode cX5_plan 49 = .ok (.iadd, 1) := by decide +kernel
theorem dX5_plan_50 : decode cX5_plan 50 = .ok (.sipush 9999, 3) := by decide +kernel
theorem dX5_plan_53 : decode cX5_plan 53 = .ok (.invokestatic 43, 3) := by decide +kernel
theorem dX5_plan_56 : decode cX5_plan 56 = .ok (.ifCond .ne 13, 3) := by decide +kernel
theorem dX5_plan_59 : decode cX5_plan 59 = .ok (.new 57, 3) := by decide +kernel
theorem dX5_plan_62 : decode cX5_plan 62 = .ok (.dup, 1) := by decide +kernel
theorem dX5_plan_63 : decode cX5_plan 63 = .ok (.ldc 59, 2) := by decide +kernel
theorem dX5_plan_65 : decode cX5_plan 65 = .ok (.invokespecial 61, 3) := by decide +kernel
theorem dX5_plan_68 : decode cX5_plan 68 = .ok (.athrow, 1) := by decide +kernel
theorem dX5_plan_69 : decode cX5_plan 69 = .ok (.aload_n 0, 1) := by decide +kernel
theorem dX5_plan_70 : decode cX5_plan 70 = .ok (.getfield 62, 3) := by decide +kernel
theorem dX5_plan_73 : decode cX5_plan 73 = .ok (.istore 5, 2) := by decide +kernel
theorem dX5_plan_75 : decode cX5_plan 75 = .ok (.iload 5, 2) := by decide +kernel
theorem dX5_plan_77 : decode cX5_plan 77 = .ok (.ifCond .lt 13, 3) := by decide +kernel
theorem dX5_plan_80 : decode cX5_plan 80 = .ok (.iload 5, 2) := by decide +kernel
theorem dX5_plan_82 : decode cX5_plan 82 = .ok (.aload_n 0, 1) := by decide +kernel
theorem dX5_plan_83 : decode cX5_plan 83 = .ok (.getfield 25, 3) := by decide +kernel
theorem dX5_plan_86 : decode cX5_plan 86 = .ok (.arraylength, 1) := by decide +kernel
theorem dX5_plan_87 : decode cX5_plan 87 = .ok (.if_icmp .lt 13, 3) := by decide +kernel
theorem dX5_plan_90 : decode cX5_plan 90 = .ok (.new 65, 3) := by decide +kernel
theorem dX5_plan_93 : decode cX5_plan 93 = .ok (.dup, 1) := by decide +kernel
theorem dX5_plan_94 : decode cX5_plan 94 = .ok (.ldc 67, 2) := by decide +kernel
theorem dX5_plan_96 : decode cX5_plan 96 = .ok (.invokespecial 69, 3) := by decide +kernel
theorem dX5_plan_99 : decode cX5_plan 99 = .ok (.athrow, 1) := by decide +kernel
theorem dX5_plan_100 : decode cX5_plan 100 = .ok (.aload_n 0, 1) := by decide +kernel
theorem dX5_plan_101 : decode cX5_plan 101 = .ok (.getfield 25, 3) := by decide +kernel
theorem dX5_plan_104 : decode cX5_plan 104 = .ok (.iload 5, 2) := by decide +kernel
theorem dX5_plan_106 : decode cX5_plan 106 = .ok (.new 23, 3) := by decide +kernel
theorem dX5_plan_109 : decode cX5_plan 109 = .ok (.dup, 1) := by decide +kernel
theorem dX5_plan_110 : decode cX5_plan 110 = .ok (.iload_n 1, 1) := by decide +kernel
theorem dX5_plan_111 : decode cX5_plan 111 = .ok (.iload_n 2, 1) := by decide +kernel
theorem dX5_plan_112 : decode cX5_plan 112 = .ok (.iload_n 3, 1) := by decide +kernel
theorem dX5_plan_113 : decode cX5_plan 113 = .ok (.iload 4, 2) := by decide +kernel
theorem dX5_plan_115 : decode cX5_plan 115 = .ok (.invokespecial 70, 3) := by decide +kernel
theorem dX5_plan_118 : decode cX5_plan 118 = .ok (.aastore, 1) := by decide +kernel
theorem dX5_plan_119 : decode cX5_plan 119 = .ok (.aload_n 0, 1) := by decide +kernel
theorem dX5_plan_120 : decode cX5_plan 120 = .ok (.iload 5, 2) := by decide +kernel
theorem dX5_plan_122 : decode cX5_plan 122 = .ok (.iconst 1, 1) := by decide +kernel
theorem dX5_plan_123 : decode cX5_plan 123 = .ok (.iadd, 1) := by decide +kernel
theorem dX5_plan_124 : decode cX5_plan 124 = .ok (.putfield 62, 3) := by decide +kernel
theorem dX5_plan_127 : decode cX5_plan 127 = .ok (.iload 5, 2) := by decide +kernel
theorem dX5_plan_129 : decode cX5_plan 129 = .ok (.ireturn, 1) := by decide +kernel
theorem dX5_crew_0 : decode cX5_crew 0 = .ok (.iload_n 1, 1) := by decide +kernel
theorem dX5_crew_1 : decode cX5_crew 1 = .ok (.iconst 1, 1) := by decide +kernel
theorem dX5_crew_2 : decode cX5_crew 2 = .ok (.bipush 6, 2) := by decide +kernel
theorem dX5_crew_4 : decode cX5_crew 4 = .ok (.invokestatic 43, 3) := by decide +kernel
theorem dX5_crew_7 : decode cX5_crew 7 = .ok (.ifCond .ne 13, 3) := by decide +kernel
theorem dX5_crew_10 : decode cX5_crew 10 = .ok (.new 57, 3) := by decide +kernel
theorem dX5_crew_13 : decode cX5_crew 13 = .ok (.dup, 1) := by decide +kernel
theorem dX5_crew_14 : decode cX5_crew 14 = .ok (.ldc 73, 2) := by decide +kernel
theorem dX5_crew_16 : decode cX5_crew 16 = .ok (.invokespecial 61, 3) := by decide +kernel
theorem dX5_crew_19 : decode cX5_crew 19 = .ok (.athrow, 1) := by decide +kernel
theorem dX5_crew_20 : decode cX5_crew 20 = .ok (.aload_n 0, 1) := by decide +kernel
theorem dX5_crew_21 : decode cX5_crew 21 = .ok (.getfield 36, 3) := by decide +kernel
theorem dX5_crew_24 : decode cX5_crew 24 = .ok (.istore_n 2, 1) := by decide +kernel
theorem dX5_crew_25 : decode cX5_crew 25 = .ok (.aload_n 0, 1) := by decide +kernel
theorem dX5_crew_26 : decode cX5_crew 26 = .ok (.iload_n 1, 1) := by decide +kernel
theorem dX5_crew_27 : decode cX5_crew 27 = .ok (.putfield 36, 3) := by decide +kernel
theorem dX5_crew_30 : decode cX5_crew 30 = .ok (.iload_n 2, 1) := by decide +kernel
theorem dX5_crew_31 : decode cX5_crew 31 = .ok (.ireturn, 1) := by decide +kernel
theorem dX5_shoot_0 : decode cX5_shoot 0 = .ok (.aload_n 0, 1) := by decide +kernel
theorem dX5_shoot_1 : decode cX5_shoot 1 = .ok (.iload_n 1, 1) := by decide +kernel
theorem dX5_shoot_2 : decode cX5_shoot 2 = .ok (.invokevirtual 75, 3) := by decide +kernel
theorem dX5_shoot_5 : decode cX5_shoot 5 = .ok (.astore 7, 2) := by decide +kernel
theorem dX5_shoot_7 : decode cX5_shoot 7 = .ok (.iload_n 2, 1) := by decide +kernel
theorem dX5_shoot_8 : decode cX5_shoot 8 = .ok (.iload_n 3, 1) := by decide +kernel
theorem dX5_shoot_9 : decode cX5_shoot 9 = .ok (.iload 4, 2) := by decide +kernel
theorem dX5_shoot_11 : decode cX5_shoot 11 = .ok (.iload 5, 2) := by decide +kernel
theorem dX5_shoot_13 : decode cX5_shoot 13 = .ok (.iload 6, 2) := by decide +kernel
theorem dX5_shoot_15 : decode cX5_shoot 15 = .ok (.invokestatic 79, 3) := by decide +kernel
theorem dX5_shoot_18 : decode cX5_shoot 18 = .ok (.ifCond .ne 13, 3) := by decide +kernel
theorem dX5_shoot_21 : decode cX5_shoot 21 = .ok (.new 57, 3) := by decide +kernel
theorem dX5_shoot_24 : decode cX5_shoot 24 = .ok (.dup, 1) := by decide +kernel
theorem dX5_shoot_25 : decode cX5_shoot 25 = .ok (.ldc 83, 2) := by decide +kernel
theorem dX5_shoot_27 : decode cX5_shoot 27 = .ok (.invokespecial 61, 3) := by decide +kernel
theorem dX5_shoot_30 : decode cX5_shoot 30 = .ok (.athrow, 1) := by decide +kernel
theorem dX5_shoot_31 : decode cX5_shoot 31 = .ok (.aload 7, 2) := by decide +kernel
theorem dX5_shoot_33 : decode cX5_shoot 33 = .ok (.invokevirtual 85, 3) := by decide +kernel
theorem dX5_shoot_36 : decode cX5_shoot 36 = .ok (.ifCond .ne 13, 3) := by decide +kernel
theorem dX5_shoot_39 : decode cX5_shoot 39 = .ok (.new 65, 3) := by decide +kernel
theorem dX5_shoot_42 : decode cX5_shoot 42 = .ok (.dup, 1) := by decide +kernel
theorem dX5_shoot_43 : decode cX5_shoot 43 = .ok (.ldc 89, 2) := by decide +kernel
theorem dX5_shoot_45 : decode cX5_shoot 45 = .ok (.invokespecial 69, 3) := by decide +kernel
theorem dX5_shoot_48 : decode cX5_shoot 48 = .ok (.athrow, 1) := by decide +kernel
theorem dX5_shoot_49 : decode cX5_shoot 49 = .ok (.aload_n 0, 1) := by decide +kernel
theorem dX5_shoot_50 : decode cX5_shoot 50 = .ok (.getfield 32, 3) := by decide +kernel
theorem dX5_shoot_53 : decode cX5_shoot 53 = .ok (.iload_n 2, 1) := by decide +kernel
theorem dX5_shoot_54 : decode cX5_shoot 54 = .ok (.iload_n 3, 1) := by decide +kernel
theorem dX5_shoot_55 : decode cX5_shoot 55 = .ok (.iload 4, 2) := by decide +kernel
theorem dX5_shoot_57 : decode cX5_shoot 57 = .ok (.iload 5, 2) := by decide +kernel
theorem dX5_shoot_59 : decode cX5_shoot 59 = .ok (.iload 6, 2) := by decide +kernel
theorem dX5_shoot_61 : decode cX5_shoot 61 = .ok (.invokevirtual 91, 3) := by decide +kernel
theorem dX5_shoot_64 : decode cX5_shoot 64 = .ok (.aload_n 0, 1) := by decide +kernel
theorem dX5_shoot_65 : decode cX5_shoot 65 = .ok (.getfield 32, 3) := by decide +kernel
theorem dX5_shoot_68 : decode cX5_shoot 68 = .ok (.aload_n 0, 1) := by decide +kernel
theorem dX5_shoot_69 : decode cX5_shoot 69 = .ok (.aload 7, 2) := by decide +kernel
theorem dX5_shoot_71 : decode cX5_shoot 71 = .ok (.getfield 95, 3) := by decide +kernel
theorem dX5_shoot_74 : decode cX5_shoot 74 = .ok (.invokevirtual 98, 3) := by decide +kernel
theorem dX5_shoot_77 : decode cX5_shoot 77 = .ok (.aload 7, 2) := by decide +kernel
theorem dX5_shoot_79 : decode cX5_shoot 79 = .ok (.getfield 102, 3) := by decide +kernel
theorem dX5_shoot_82 : decode cX5_shoot 82 = .ok (.aload 7, 2) := by decide +kernel
theorem dX5_shoot_84 : decode cX5_shoot 84 = .ok (.invokevirtual 106, 3) := by decide +kernel
theorem dX5_shoot_87 : decode cX5_shoot 87 = .ok (.iconst 1, 1) := by decide +kernel
theorem dX5_shoot_88 : decode cX5_shoot 88 = .ok (.invokevirtual 110, 3) := by decide +kernel
theorem dX5_shoot_91 : decode cX5_shoot 91 = .ok (.istore 8, 2) := by decide +kernel
theorem dX5_shoot_93 : decode cX5_shoot 93 = .ok (.aload 7, 2) := by decide +kernel
theorem dX5_shoot_95 : decode cX5_shoot 95 = .ok (.getfield 114, 3) := by decide +kernel
theorem dX5_shoot_98 : decode cX5_shoot 98 = .ok (.iconst 1, 1) := by decide +kernel
theorem dX5_shoot_99 : decode cX5_shoot 99 = .ok (.if_icmp .ne 17, 3) := by decide +kernel
theorem dX5_shoot_102 : decode cX5_shoot 102 = .ok (.aload_n 0, 1) := by decide +kernel
theorem dX5_shoot_103 : decode cX5_shoot 103 = .ok (.aload 7, 2) := by decide +kernel
theorem dX5_shoot_105 : decode cX5_shoot 105 = .ok (.iload 8, 2) := by decide +kernel
theorem dX5_shoot_107 : decode cX5_shoot 107 = .ok (.invokestatic 117, 3) := by decide +kernel
theorem dX5_shoot_110 : decode cX5_shoot 110 = .ok (.invokevirtual 121, 3) := by decide +kernel
theorem dX5_shoot_113 : decode cX5_shoot 113 = .ok (.goto 24, 3) := by decide +kernel
theorem dX5_shoot_116 : decode cX5_shoot 116 = .ok (.aload 7, 2) := by decide +kernel
theorem dX5_shoot_118 : decode cX5_shoot 118 = .ok (.getfield 102, 3) := by decide +kernel
theorem dX5_shoot_121 : decode cX5_shoot 121 = .ok (.aload_n 0, 1) := by decide +kernel
theorem dX5_shoot_122 : decode cX5_shoot 122 = .ok (.getfield 32, 3) := by decide +kernel
theorem dX5_shoot_125 : decode cX5_shoot 125 = .ok (.getfield 125, 3) := by decide +kernel
theorem dX5_shoot_128 : decode cX5_shoot 128 = .ok (.invokevirtual 126, 3) := by decide +kernel
theorem dX5_shoot_131 : decode cX5_shoot 131 = .ok (.aload_n 0, 1) := by decide +kernel
theorem dX5_shoot_132 : decode cX5_shoot 132 = .ok (.aload 7, 2) := by decide +kernel
theorem dX5_shoot_134 : decode cX5_shoot 134 = .ok (.invokevirtual 132, 3) := by decide +kernel
theorem dX5_shoot_137 : decode cX5_shoot 137 = .ok (.iload 8, 2) := by decide +kernel
theorem dX5_shoot_139 : decode cX5_shoot 139 = .ok (.ireturn, 1) := by decide +kernel
theorem dX5_pass_0 : decode cX5_pass 0 = .ok (.iload_n 1, 1) := by decide +kernel
theorem dX5_pass_1 : decode cX5_pass 1 = .ok (.iconst 1, 1) := by decide +kernel
theorem dX5_pass_2 : decode cX5_pass 2 = .ok (.bipush 48, 2) := by decide +kernel
theorem dX5_pass_4 : decode cX5_pass 4 = .ok (.invokestatic 43, 3) := by decide +kernel
theorem dX5_pass_7 : decode cX5_pass 7 = .ok (.ifCond .ne 13, 3) := by decide +kernel
theorem dX5_pass_10 : decode cX5_pass 10 = .ok (.new 57, 3) := by decide +kernel
theorem dX5_pass_13 : decode cX5_pass 13 = .ok (.dup, 1) := by decide +kernel
theorem dX5_pass_14 : decode cX5_pass 14 = .ok (.ldc 73, 2) := by decide +kernel
theorem dX5_pass_16 : decode cX5_pass 16 = .ok (.invokespecial 61, 3) := by decide +kernel
theorem dX5_pass_19 : decode cX5_pass 19 = .ok (.athrow, 1) := by decide +kernel
theorem dX5_pass_20 : decode cX5_pass 20 = .ok (.aload_n 0, 1) := by decide +kernel
theorem dX5_pass_21 : decode cX5_pass 21 = .ok (.getfield 54, 3) := by decide +kernel
theorem dX5_pass_24 : decode cX5_pass 24 = .ok (.iload_n 1, 1) := by decide +kernel
theorem dX5_pass_25 : decode cX5_pass 25 = .ok (.iadd, 1) := by decide +kernel
theorem dX5_pass_26 : decode cX5_pass 26 = .ok (.sipush 9999, 3) := by decide +kernel
theorem dX5_pass_29 : decode cX5_pass 29 = .ok (.if_icmp .le 13, 3) := by decide +kernel
theorem dX5_pass_32 : decode cX5_pass 32 = .ok (.new 65, 3) := by decide +kernel
theorem dX5_pass_35 : decode cX5_pass 35 = .ok (.dup, 1) := by decide +kernel
theorem dX5_pass_36 : decode cX5_pass 36 = .ok (.ldc 136, 2) := by decide +kernel
theorem dX5_pass_38 : decode cX5_pass 38 = .ok (.invokespecial 69, 3) := by decide +kernel
theorem dX5_pass_41 : decode cX5_pass 41 = .ok (.athrow, 1) := by decide +kernel
theorem dX5_pass_42 : decode cX5_pass 42 = .ok (.iconst 0, 1) := by decide +kernel
theorem dX5_pass_43 : decode cX5_pass 43 = .ok (.istore_n 2, 1) := by decide +kernel
theorem dX5_pass_44 : decode cX5_pass 44 = .ok (.iload_n 2, 1) := by decide +kernel
theorem dX5_pass_45 : decode cX5_pass 45 = .ok (.iload_n 1, 1) := by decide +kernel
theorem dX5_pass_46 : decode cX5_pass 46 = .ok (.if_icmp .ge 27, 3) := by decide +kernel
theorem dX5_pass_49 : decode cX5_pass 49 = .ok (.aload_n 0, 1) := by decide +kernel
theorem dX5_pass_50 : decode cX5_pass 50 = .ok (.dup, 1) := by decide +kernel
theorem dX5_pass_51 : decode cX5_pass 51 = .ok (.getfield 54, 3) := by decide +kernel
theorem dX5_pass_54 : decode cX5_pass 54 = .ok (.iconst 1, 1) := by decide +kernel
theorem dX5_pass_55 : decode cX5_pass 55 = .ok (.iadd, 1) := by decide +kernel
theorem dX5_pass_56 : decode cX5_pass 56 = .ok (.putfield 54, 3) := by decide +kernel
theorem dX5_pass_59 : decode cX5_pass 59 = .ok (.aload_n 0, 1) := by decide +kernel
theorem dX5_pass_60 : decode cX5_pass 60 = .ok (.invokevirtual 138, 3) := by decide +kernel
theorem dX5_pass_63 : decode cX5_pass 63 = .ok (.aload_n 0, 1) := by decide +kernel
theorem dX5_pass_64 : decode cX5_pass 64 = .ok (.invokevirtual 141, 3) := by decide +kernel
theorem dX5_pass_67 : decode cX5_pass 67 = .ok (.iinc 2 1, 3) := by decide +kernel
theorem dX5_pass_70 : decode cX5_pass 70 = .ok (.goto (-26), 3) := by decide +kernel
theorem dX5_pass_73 : decode cX5_pass 73 = .ok (.aload_n 0, 1) := by decide +kernel
theorem dX5_pass_74 : decode cX5_pass 74 = .ok (.getfield 54, 3) := by decide +kernel
theorem dX5_pass_77 : decode cX5_pass 77 = .ok (.ireturn, 1) := by decide +kernel
theorem dX5_hour_0 : decode cX5_hour 0 = .ok (.aload_n 0, 1) := by decide +kernel
theorem dX5_hour_1 : decode cX5_hour 1 = .ok (.getfield 54, 3) := by decide +kernel
theorem dX5_hour_4 : decode cX5_hour 4 = .ok (.ireturn, 1) := by decide +kernel
theorem dX5_ofSheet_0 : decode cX5_ofSheet 0 = .ok (.aload_n 0, 1) := by decide +kernel
theorem dX5_ofSheet_1 : decode cX5_ofSheet 1 = .ok (.iload_n 1, 1) := by decide +kernel
theorem dX5_ofSheet_2 : decode cX5_ofSheet 2 = .ok (.invokevirtual 98, 3) := by decide +kernel
theorem dX5_ofSheet_5 : decode cX5_ofSheet 5 = .ok (.astore_n 3, 1) := by decide +kernel
theorem dX5_ofSheet_6 : decode cX5_ofSheet 6 = .ok (.iload_n 2, 1) := by decide +kernel
theorem dX5_ofSheet_7 : decode cX5_ofSheet 7 = .ok (.tableswitch 69 0 3 #[29, 42, 47, 52], 29) := by decide +kernel
theorem dX5_ofSheet_36 : decode cX5_ofSheet 36 = .ok (.aload_n 3, 1) := by decide +kernel
theorem dX5_ofSheet_37 : decode cX5_ofSheet 37 = .ok (.getfield 144, 3) := by decide +kernel
theorem dX5_ofSheet_40 : decode cX5_ofSheet 40 = .ok (.ifCond .eq 7, 3) := by decide +kernel
theorem dX5_ofSheet_43 : decode cX5_ofSheet 43 = .ok (.iconst 1, 1) := by decide +kernel
theorem dX5_ofSheet_44 : decode cX5_ofSheet 44 = .ok (.goto 4, 3) := by decide +kernel
theorem dX5_ofSheet_47 : decode cX5_ofSheet 47 = .ok (.iconst 0, 1) := by decide +kernel
theorem dX5_ofSheet_48 : decode cX5_ofSheet 48 = .ok (.ireturn, 1) := by decide +kernel
theorem dX5_ofSheet_49 : decode cX5_ofSheet 49 = .ok (.aload_n 3, 1) := by decide +kernel
theorem dX5_ofSheet_50 : decode cX5_ofSheet 50 = .ok (.getfield 148, 3) := by decide +kernel
theorem dX5_ofSheet_53 : decode cX5_ofSheet 53 = .ok (.ireturn, 1) := by decide +kernel
theorem dX5_ofSheet_54 : decode cX5_ofSheet 54 = .ok (.aload_n 3, 1) := by decide +kernel
theorem dX5_ofSheet_55 : decode cX5_ofSheet 55 = .ok (.invokevirtual 151, 3) := by decide +kernel
theorem dX5_ofSheet_58 : decode cX5_ofSheet 58 = .ok (.ireturn, 1) := by decide +kernel
theorem dX5_ofSheet_59 : decode cX5_ofSheet 59 = .ok (.aload_n 0, 1) := by decide +kernel
theorem dX5_ofSheet_60 : decode cX5_ofSheet 60 = .ok (.getfield 40, 3) := by decide +kernel
theorem dX5_ofSheet_63 : decode cX5_ofSheet 63 = .ok (.iload_n 1, 1) := by decide +kernel
theorem dX5_ofSheet_64 : decode cX5_ofSheet 64 = .ok (.if_icmp .ne 10, 3) := by decide +kernel
theorem dX5_ofSheet_67 : decode cX5_ofSheet 67 = .ok (.aload_n 0, 1) := by decide +kernel
theorem dX5_ofSheet_68 : decode cX5_ofSheet 68 = .ok (.getfield 154, 3) := by decide +kernel
theorem dX5_ofSheet_71 : decode cX5_ofSheet 71 = .ok (.goto 4, 3) := by decide +kernel
theorem dX5_ofSheet_74 : decode cX5_ofSheet 74 = .ok (.iconst 0, 1) := by decide +kernel
theorem dX5_ofSheet_75 : decode cX5_ofSheet 75 = .ok (.ireturn, 1) := by decide +kernel
theorem dX5_ofSheet_76 : decode cX5_ofSheet 76 = .ok (.new 57, 3) := by decide +kernel
theorem dX5_ofSheet_79 : decode cX5_ofSheet 79 = .ok (.dup, 1) := by decide +kernel
theorem dX5_ofSheet_80 : decode cX5_ofSheet 80 = .ok (.ldc 157, 2) := by decide +kernel
theorem dX5_ofSheet_82 : decode cX5_ofSheet 82 = .ok (.invokespecial 61, 3) := by decide +kernel
theorem dX5_ofSheet_85 : decode cX5_ofSheet 85 = .ok (.athrow, 1) := by decide +kernel
theorem dX5_wear_0 : decode cX5_wear 0 = .ok (.aload_n 0, 1) := by decide +kernel
theorem dX5_wear_1 : decode cX5_wear 1 = .ok (.iload_n 1, 1) := by decide +kernel
theorem dX5_wear_2 : decode cX5_wear 2 = .ok (.invokevirtual 98, 3) := by decide +kernel
theorem dX5_wear_5 : decode cX5_wear 5 = .ok (.astore 4, 2) := by decide +kernel
theorem dX5_wear_7 : decode cX5_wear 7 = .ok (.iload_n 2, 1) := by decide +kernel
theorem dX5_wear_8 : decode cX5_wear 8 = .ok (.iload_n 3, 1) := by decide +kernel
theorem dX5_wear_9 : decode cX5_wear 9 = .ok (.invokestatic 159, 3) := by decide +kernel
theorem dX5_wear_12 : decode cX5_wear 12 = .ok (.ifCond .ne 13, 3) := by decide +kernel
theorem dX5_wear_15 : decode cX5_wear 15 = .ok (.new 47, 3) := by decide +kernel
theorem dX5_wear_18 : decode cX5_wear 18 = .ok (.dup, 1) := by decide +kernel
theorem dX5_wear_19 : decode cX5_wear 19 = .ok (.ldc 163, 2) := by decide +kernel
theorem dX5_wear_21 : decode cX5_wear 21 = .ok (.invokespecial 51, 3) := by decide +kernel
theorem dX5_wear_24 : decode cX5_wear 24 = .ok (.athrow, 1) := by decide +kernel
theorem dX5_wear_25 : decode cX5_wear 25 = .ok (.aload 4, 2) := by decide +kernel
theorem dX5_wear_27 : decode cX5_wear 27 = .ok (.iload_n 2, 1) := by decide +kernel
theorem dX5_wear_28 : decode cX5_wear 28 = .ok (.iload_n 3, 1) := by decide +kernel
theorem dX5_wear_29 : decode cX5_wear 29 = .ok (.invokevirtual 165, 3) := by decide +kernel
theorem dX5_wear_32 : decode cX5_wear 32 = .ok (.ireturn, 1) := by decide +kernel
theorem dX5_ofGame_0 : decode cX5_ofGame 0 = .ok (.aload_n 0, 1) := by decide +kernel
theorem dX5_ofGame_1 : decode cX5_ofGame 1 = .ok (.iload_n 1, 1) := by decide +kernel
theorem dX5_ofGame_2 : decode cX5_ofGame 2 = .ok (.invokevirtual 75, 3) := by decide +kernel
theorem dX5_ofGame_5 : decode cX5_ofGame 5 = .ok (.astore_n 3, 1) := by decide +kernel
theorem dX5_ofGame_6 : decode cX5_ofGame 6 = .ok (.iload_n 2, 1) := by decide +kernel
theorem dX5_ofGame_7 : decode cX5_ofGame 7 = .ok (.tableswitch 85 0 7 #[45, 50, 55, 60, 65, 70, 75, 80], 45) := by decide +kernel
theorem dX5_ofGame_52 : decode cX5_ofGame 52 = .ok (.aload_n 3, 1) := by decide +kernel
theorem dX5_ofGame_53 : decode cX5_ofGame 53 = .ok (.getfield 114, 3) := by decide +kernel
theorem dX5_ofGame_56 : decode cX5_ofGame 56 = .ok (.ireturn, 1) := by decide +kernel
theorem dX5_ofGame_57 : decode cX5_ofGame 57 = .ok (.aload_n 3, 1) := by decide +kernel
theorem dX5_ofGame_58 : decode cX5_ofGame 58 = .ok (.getfield 169, 3) := by decide +kernel
theorem dX5_ofGame_61 : decode cX5_ofGame 61 = .ok (.ireturn, 1) := by decide +kernel
theorem dX5_ofGame_62 : decode cX5_ofGame 62 = .ok (.aload_n 3, 1) := by decide +kernel
theorem dX5_ofGame_63 : decode cX5_ofGame 63 = .ok (.getfield 95, 3) := by decide +kernel
theorem dX5_ofGame_66 : decode cX5_ofGame 66 = .ok (.ireturn, 1) := by decide +kernel
theorem dX5_ofGame_67 : decode cX5_ofGame 67 = .ok (.aload_n 3, 1) := by decide +kernel
theorem dX5_ofGame_68 : decode cX5_ofGame 68 = .ok (.getfield 172, 3) := by decide +kernel
theorem dX5_ofGame_71 : decode cX5_ofGame 71 = .ok (.ireturn, 1) := by decide +kernel
theorem dX5_ofGame_72 : decode cX5_ofGame 72 = .ok (.aload_n 3, 1) := by decide +kernel
theorem dX5_ofGame_73 : decode cX5_ofGame 73 = .ok (.getfield 175, 3) := by decide +kernel
theorem dX5_ofGame_76 : decode cX5_ofGame 76 = .ok (.ireturn, 1) := by decide +kernel
theorem dX5_ofGame_77 : decode cX5_ofGame 77 = .ok (.aload_n 3, 1) := by decide +kernel
theorem dX5_ofGame_78 : decode cX5_ofGame 78 = .ok (.getfield 178, 3) := by decide +kernel
theorem dX5_ofGame_81 : decode cX5_ofGame 81 = .ok (.ireturn, 1) := by decide +kernel
theorem dX5_ofGame_82 : decode cX5_ofGame 82 = .ok (.aload_n 3, 1) := by decide +kernel
theorem dX5_ofGame_83 : decode cX5_ofGame 83 = .ok (.invokevirtual 181, 3) := by decide +kernel
theorem dX5_ofGame_86 : decode cX5_ofGame 86 = .ok (.ireturn, 1) := by decide +kernel
theorem dX5_ofGame_87 : decode cX5_ofGame 87 = .ok (.aload_n 3, 1) := by decide +kernel
theorem dX5_ofGame_88 : decode cX5_ofGame 88 = .ok (.getfield 184, 3) := by decide +kernel
theorem dX5_ofGame_91 : decode cX5_ofGame 91 = .ok (.ireturn, 1) := by decide +kernel
theorem dX5_ofGame_92 : decode cX5_ofGame 92 = .ok (.new 57, 3) := by decide +kernel
theorem dX5_ofGame_95 : decode cX5_ofGame 95 = .ok (.dup, 1) := by decide +kernel
theorem dX5_ofGame_96 : decode cX5_ofGame 96 = .ok (.ldc 157, 2) := by decide +kernel
theorem dX5_ofGame_98 : decode cX5_ofGame 98 = .ok (.invokespecial 61, 3) := by decide +kernel
theorem dX5_ofGame_101 : decode cX5_ofGame 101 = .ok (.athrow, 1) := by decide +kernel
theorem dX5_stone_0 : decode cX5_stone 0 = .ok (.aload_n 0, 1) := by decide +kernel
theorem dX5_stone_1 : decode cX5_stone 1 = .ok (.iload_n 1, 1) := by decide +kernel
theorem dX5_stone_2 : decode cX5_stone 2 = .ok (.invokevirtual 75, 3) := by decide +kernel
theorem dX5_stone_5 : decode cX5_stone 5 = .ok (.astore 4, 2) := by decide +kernel
theorem dX5_stone_7 : decode cX5_stone 7 = .ok (.iload_n 2, 1) := by decide +kernel
theorem dX5_stone_8 : decode cX5_stone 8 = .ok (.iconst 0, 1) := by decide +kernel
theorem dX5_stone_9 : decode cX5_stone 9 = .ok (.iconst 1, 1) := by decide +kernel
theorem dX5_stone_10 : decode cX5_stone 10 = .ok (.invokestatic 43, 3) := by decide +kernel
theorem dX5_stone_13 : decode cX5_stone 13 = .ok (.ifCond .eq 12, 3) := by decide +kernel
theorem dX5_stone_16 : decode cX5_stone 16 = .ok (.iload_n 3, 1) := by decide +kernel
theorem dX5_stone_17 : decode cX5_stone 17 = .ok (.iconst 0, 1) := by decide +kernel
theorem dX5_stone_18 : decode cX5_stone 18 = .ok (.iconst 2, 1) := by decide +kernel
theorem dX5_stone_19 : decode cX5_stone 19 = .ok (.invokestatic 43, 3) := by decide +kernel
theorem dX5_stone_22 : decode cX5_stone 22 = .ok (.ifCond .ne 13, 3) := by decide +kernel
theorem dX5_stone_25 : decode cX5_stone 25 = .ok (.new 47, 3) := by decide +kernel
theorem dX5_stone_28 : decode cX5_stone 28 = .ok (.dup, 1) := by decide +kernel
theorem dX5_stone_29 : decode cX5_stone 29 = .ok (.ldc 187, 2) := by decide +kernel
theorem dX5_stone_31 : decode cX5_stone 31 = .ok (.invokespecial 51, 3) := by decide +kernel
theorem dX5_stone_34 : decode cX5_stone 34 = .ok (.athrow, 1) := by decide +kernel
theorem dX5_stone_35 : decode cX5_stone 35 = .ok (.aload 4, 2) := by decide +kernel
theorem dX5_stone_37 : decode cX5_stone 37 = .ok (.getfield 102, 3) := by decide +kernel
theorem dX5_stone_40 : decode cX5_stone 40 = .ok (.iload_n 2, 1) := by decide +kernel
theorem dX5_stone_41 : decode cX5_stone 41 = .ok (.iconst 3, 1) := by decide +kernel
theorem dX5_stone_42 : decode cX5_stone 42 = .ok (.imul, 1) := by decide +kernel
theorem dX5_stone_43 : decode cX5_stone 43 = .ok (.iload_n 3, 1) := by decide +kernel
theorem dX5_stone_44 : decode cX5_stone 44 = .ok (.iadd, 1) := by decide +kernel
theorem dX5_stone_45 : decode cX5_stone 45 = .ok (.invokevirtual 189, 3) := by decide +kernel
theorem dX5_stone_48 : decode cX5_stone 48 = .ok (.ireturn, 1) := by decide +kernel
theorem dX5_wouldScore_0 : decode cX5_wouldScore 0 = .ok (.aload_n 0, 1) := by decide +kernel
theorem dX5_wouldScore_1 : decode cX5_wouldScore 1 = .ok (.iload_n 1, 1) := by decide +kernel
theorem dX5_wouldScore_2 : decode cX5_wouldScore 2 = .ok (.invokevirtual 75, 3) := by decide +kernel
theorem dX5_wouldScore_5 : decode cX5_wouldScore 5 = .ok (.getfield 102, 3) := by decide +kernel
theorem dX5_wouldScore_8 : decode cX5_wouldScore 8 = .ok (.invokevirtual 192, 3) := by decide +kernel
theorem dX5_wouldScore_11 : decode cX5_wouldScore 11 = .ok (.ireturn, 1) := by decide +kernel
theorem dX5_wouldScoreAnew_0 : decode cX5_wouldScoreAnew 0 = .ok (.aload_n 0, 1) := by decide +kernel
theorem dX5_wouldScoreAnew_1 : decode cX5_wouldScoreAnew 1 = .ok (.iload_n 1, 1) := by decide +kernel
theorem dX5_wouldScoreAnew_2 : decode cX5_wouldScoreAnew 2 = .ok (.invokevirtual 75, 3) := by decide +kernel
theorem dX5_wouldScoreAnew_5 : decode cX5_wouldScoreAnew 5 = .ok (.getfield 102, 3) := by decide +kernel
theorem dX5_wouldScoreAnew_8 : decode cX5_wouldScoreAnew 8 = .ok (.invokevirtual 195, 3) := by decide +kernel
theorem dX5_wouldScoreAnew_11 : decode cX5_wouldScoreAnew 11 = .ok (.ireturn, 1) := by decide +kernel
theorem dX5_tries_0 : decode cX5_tries 0 = .ok (.aload_n 0, 1) := by decide +kernel
theorem dX5_tries_1 : decode cX5_tries 1 = .ok (.iload_n 1, 1) := by decide +kernel
theorem dX5_tries_2 : decode cX5_tries 2 = .ok (.invokevirtual 75, 3) := by decide +kernel
theorem dX5_tries_5 : decode cX5_tries 5 = .ok (.astore 7, 2) := by decide +kernel
theorem dX5_tries_7 : decode cX5_tries 7 = .ok (.iload_n 2, 1) := by decide +kernel
theorem dX5_tries_8 : decode cX5_tries 8 = .ok (.iload_n 3, 1) := by decide +kernel
theorem dX5_tries_9 : decode cX5_tries 9 = .ok (.iload 4, 2) := by decide +kernel
theorem dX5_tries_11 : decode cX5_tries 11 = .ok (.iload 5, 2) := by decide +kernel
theorem dX5_tries_13 : decode cX5_tries 13 = .ok (.iload 6, 2) := by decide +kernel
theorem dX5_tries_15 : decode cX5_tries 15 = .ok (.invokestatic 79, 3) := by decide +kernel
theorem dX5_tries_18 : decode cX5_tries 18 = .ok (.ifCond .ne 13, 3) := by decide +kernel
theorem dX5_tries_21 : decode cX5_tries 21 = .ok (.new 57, 3) := by decide +kernel
theorem dX5_tries_24 : decode cX5_tries 24 = .ok (.dup, 1) := by decide +kernel
theorem dX5_tries_25 : decode cX5_tries 25 = .ok (.ldc 83, 2) := by decide +kernel
theorem dX5_tries_27 : decode cX5_tries 27 = .ok (.invokespecial 61, 3) := by decide +kernel
theorem dX5_tries_30 : decode cX5_tries 30 = .ok (.athrow, 1) := by decide +kernel
theorem dX5_tries_31 : decode cX5_tries 31 = .ok (.aload 7, 2) := by decide +kernel
theorem dX5_tries_33 : decode cX5_tries 33 = .ok (.invokevirtual 85, 3) := by decide +kernel
theorem dX5_tries_36 : decode cX5_tries 36 = .ok (.ifCond .ne 13, 3) := by decide +kernel
theorem dX5_tries_39 : decode cX5_tries 39 = .ok (.new 65, 3) := by decide +kernel
theorem dX5_tries_42 : decode cX5_tries 42 = .ok (.dup, 1) := by decide +kernel
theorem dX5_tries_43 : decode cX5_tries 43 = .ok (.ldc 89, 2) := by decide +kernel
theorem dX5_tries_45 : decode cX5_tries 45 = .ok (.invokespecial 69, 3) := by decide +kernel
theorem dX5_tries_48 : decode cX5_tries 48 = .ok (.athrow, 1) := by decide +kernel
theorem dX5_tries_49 : decode cX5_tries 49 = .ok (.aload_n 0, 1) := by decide +kernel
theorem dX5_tries_50 : decode cX5_tries 50 = .ok (.getfield 32, 3) := by decide +kernel
theorem dX5_tries_53 : decode cX5_tries 53 = .ok (.iload_n 2, 1) := by decide +kernel
theorem dX5_tries_54 : decode cX5_tries 54 = .ok (.iload_n 3, 1) := by decide +kernel
theorem dX5_tries_55 : decode cX5_tries 55 = .ok (.iload 4, 2) := by decide +kernel
theorem dX5_tries_57 : decode cX5_tries 57 = .ok (.iload 5, 2) := by decide +kernel
theorem dX5_tries_59 : decode cX5_tries 59 = .ok (.iload 6, 2) := by decide +kernel
theorem dX5_tries_61 : decode cX5_tries 61 = .ok (.invokevirtual 91, 3) := by decide +kernel
theorem dX5_tries_64 : decode cX5_tries 64 = .ok (.aload_n 0, 1) := by decide +kernel
theorem dX5_tries_65 : decode cX5_tries 65 = .ok (.getfield 32, 3) := by decide +kernel
theorem dX5_tries_68 : decode cX5_tries 68 = .ok (.aload_n 0, 1) := by decide +kernel
theorem dX5_tries_69 : decode cX5_tries 69 = .ok (.aload 7, 2) := by decide +kernel
theorem dX5_tries_71 : decode cX5_tries 71 = .ok (.getfield 95, 3) := by decide +kernel
theorem dX5_tries_74 : decode cX5_tries 74 = .ok (.invokevirtual 98, 3) := by decide +kernel
theorem dX5_tries_77 : decode cX5_tries 77 = .ok (.aload 7, 2) := by decide +kernel
theorem dX5_tries_79 : decode cX5_tries 79 = .ok (.getfield 102, 3) := by decide +kernel
theorem dX5_tries_82 : decode cX5_tries 82 = .ok (.aload 7, 2) := by decide +kernel
theorem dX5_tries_84 : decode cX5_tries 84 = .ok (.invokevirtual 106, 3) := by decide +kernel
theorem dX5_tries_87 : decode cX5_tries 87 = .ok (.iconst 0, 1) := by decide +kernel
theorem dX5_tries_88 : decode cX5_tries 88 = .ok (.invokevirtual 110, 3) := by decide +kernel
theorem dX5_tries_91 : decode cX5_tries 91 = .ok (.ireturn, 1) := by decide +kernel
theorem dX5_advice_0 : decode cX5_advice 0 = .ok (.aload_n 0, 1) := by decide +kernel
theorem dX5_advice_1 : decode cX5_advice 1 = .ok (.iload_n 1, 1) := by decide +kernel
theorem dX5_advice_2 : decode cX5_advice 2 = .ok (.invokevirtual 75, 3) := by decide +kernel
theorem dX5_advice_5 : decode cX5_advice 5 = .ok (.astore_n 2, 1) := by decide +kernel
theorem dX5_advice_6 : decode cX5_advice 6 = .ok (.aload_n 2, 1) := by decide +kernel
theorem dX5_advice_7 : decode cX5_advice 7 = .ok (.getfield 114, 3) := by decide +kernel
theorem dX5_advice_10 : decode cX5_advice 10 = .ok (.iconst 2, 1) := by decide +kernel
theorem dX5_advice_11 : decode cX5_advice 11 = .ok (.if_icmp .eq 13, 3) := by decide +kernel
theorem dX5_advice_14 : decode cX5_advice 14 = .ok (.new 65, 3) := by decide +kernel
theorem dX5_advice_17 : decode cX5_advice 17 = .ok (.dup, 1) := by decide +kernel
theorem dX5_advice_18 : decode cX5_advice 18 = .ok (.ldc 198, 2) := by decide +kernel
theorem dX5_advice_20 : decode cX5_advice 20 = .ok (.invokespecial 69, 3) := by decide +kernel
theorem dX5_advice_23 : decode cX5_advice 23 = .ok (.athrow, 1) := by decide +kernel
theorem dX5_advice_24 : decode cX5_advice 24 = .ok (.iconst (-1), 1) := by decide +kernel
theorem dX5_advice_25 : decode cX5_advice 25 = .ok (.istore_n 3, 1) := by decide +kernel
theorem dX5_advice_26 : decode cX5_advice 26 = .ok (.iconst 0, 1) := by decide +kernel
theorem dX5_advice_27 : decode cX5_advice 27 = .ok (.istore 4, 2) := by decide +kernel
theorem dX5_advice_29 : decode cX5_advice 29 = .ok (.iconst 0, 1) := by decide +kernel
theorem dX5_advice_30 : decode cX5_advice 30 = .ok (.istore 5, 2) := by decide +kernel
theorem dX5_advice_32 : decode cX5_advice 32 = .ok (.iload 5, 2) := by decide +kernel
theorem dX5_advice_34 : decode cX5_advice 34 = .ok (.bipush 9, 2) := by decide +kernel
theorem dX5_advice_36 : decode cX5_advice 36 = .ok (.if_icmp .ge 95, 3) := by decide +kernel
theorem dX5_advice_39 : decode cX5_advice 39 = .ok (.bipush 40, 2) := by decide +kernel
theorem dX5_advice_41 : decode cX5_advice 41 = .ok (.istore 6, 2) := by decide +kernel
theorem dX5_advice_43 : decode cX5_advice 43 = .ok (.iload 6, 2) := by decide +kernel
theorem dX5_advice_45 : decode cX5_advice 45 = .ok (.bipush 80, 2) := by decide +kernel
theorem dX5_advice_47 : decode cX5_advice 47 = .ok (.if_icmp .gt 78, 3) := by decide +kernel
theorem dX5_advice_50 : decode cX5_advice 50 = .ok (.iconst (-1), 1) := by decide +kernel
theorem dX5_advice_51 : decode cX5_advice 51 = .ok (.istore 7, 2) := by decide +kernel
theorem dX5_advice_53 : decode cX5_advice 53 = .ok (.iload 7, 2) := by decide +kernel
theorem dX5_advice_55 : decode cX5_advice 55 = .ok (.iconst 1, 1) := by decide +kernel
theorem dX5_advice_56 : decode cX5_advice 56 = .ok (.if_icmp .gt 63, 3) := by decide +kernel
theorem dX5_advice_59 : decode cX5_advice 59 = .ok (.aload_n 0, 1) := by decide +kernel
theorem dX5_advice_60 : decode cX5_advice 60 = .ok (.aload_n 2, 1) := by decide +kernel
theorem dX5_advice_61 : decode cX5_advice 61 = .ok (.iload 5, 2) := by decide +kernel
theorem dX5_advice_63 : decode cX5_advice 63 = .ok (.iload 6, 2) := by decide +kernel
theorem dX5_advice_65 : decode cX5_advice 65 = .ok (.iload 7, 2) := by decide +kernel
theorem dX5_advice_67 : decode cX5_advice 67 = .ok (.invokevirtual 200, 3) := by decide +kernel
theorem dX5_advice_70 : decode cX5_advice 70 = .ok (.istore 8, 2) := by decide +kernel
theorem dX5_advice_72 : decode cX5_advice 72 = .ok (.iload_n 3, 1) := by decide +kernel
theorem dX5_advice_73 : decode cX5_advice 73 = .ok (.iconst (-1), 1) := by decide +kernel
theorem dX5_advice_74 : decode cX5_advice 74 = .ok (.if_icmp .eq 10, 3) := by decide +kernel
theorem dX5_advice_77 : decode cX5_advice 77 = .ok (.iload 8, 2) := by decide +kernel
theorem dX5_advice_79 : decode cX5_advice 79 = .ok (.iload 4, 2) := by decide +kernel
theorem dX5_advice_81 : decode cX5_advice 81 = .ok (.if_icmp .le 32, 3) := by decide +kernel
theorem dX5_advice_84 : decode cX5_advice 84 = .ok (.sipush 1000, 3) := by decide +kernel
theorem dX5_advice_87 : decode cX5_advice 87 = .ok (.iload 5, 2) := by decide +kernel
theorem dX5_advice_89 : decode cX5_advice 89 = .ok (.imul, 1) := by decide +kernel
theorem dX5_advice_90 : decode cX5_advice 90 = .ok (.bipush 10, 2) := by decide +kernel
theorem dX5_advice_92 : decode cX5_advice 92 = .ok (.iload 6, 2) := by decide +kernel
theorem dX5_advice_94 : decode cX5_advice 94 = .ok (.imul, 1) := by decide +kernel
theorem dX5_advice_95 : decode cX5_advice 95 = .ok (.iadd, 1) := by decide +kernel
theorem dX5_advice_96 : decode cX5_advice 96 = .ok (.iload 7, 2) := by decide +kernel
theorem dX5_advice_98 : decode cX5_advice 98 = .ok (.iconst 1, 1) := by decide +kernel
theorem dX5_advice_99 : decode cX5_advice 99 = .ok (.if_icmp .ne 7, 3) := by decide +kernel
theorem dX5_advice_102 : decode cX5_advice 102 = .ok (.iconst 1, 1) := by decide +kernel
theorem dX5_advice_103 : decode cX5_advice 103 = .ok (.goto 4, 3) := by decide +kernel
theorem dX5_advice_106 : decode cX5_advice 106 = .ok (.iconst 0, 1) := by decide +kernel
theorem dX5_advice_107 : decode cX5_advice 107 = .ok (.iadd, 1) := by decide +kernel
theorem dX5_advice_108 : decode cX5_advice 108 = .ok (.istore_n 3, 1) := by decide +kernel
theorem dX5_advice_109 : decode cX5_advice 109 = .ok (.iload 8, 2) := by decide +kernel
theorem dX5_advice_111 : decode cX5_advice 111 = .ok (.istore 4, 2) := by decide +kernel
theorem dX5_advice_113 : decode cX5_advice 113 = .ok (.iinc 7 2, 3) := by decide +kernel
theorem dX5_advice_116 : decode cX5_advice 116 = .ok (.goto (-63), 3) := by decide +kernel
theorem dX5_advice_119 : decode cX5_advice 119 = .ok (.iinc 6 10, 3) := by decide +kernel
theorem dX5_advice_122 : decode cX5_advice 122 = .ok (.goto (-79), 3) := by decide +kernel
theorem dX5_advice_125 : decode cX5_advice 125 = .ok (.iinc 5 1, 3) := by decide +kernel
theorem dX5_advice_128 : decode cX5_advice 128 = .ok (.goto (-96), 3) := by decide +kernel
theorem dX5_advice_131 : decode cX5_advice 131 = .ok (.iload_n 3, 1) := by decide +kernel
theorem dX5_advice_132 : decode cX5_advice 132 = .ok (.ireturn, 1) := by decide +kernel
theorem dX5_standing_0 : decode cX5_standing 0 = .ok (.iload_n 1, 1) := by decide +kernel
theorem dX5_standing_1 : decode cX5_standing 1 = .ok (.iconst 0, 1) := by decide +kernel
theorem dX5_standing_2 : decode cX5_standing 2 = .ok (.iconst 5, 1) := by decide +kernel
theorem dX5_standing_3 : decode cX5_standing 3 = .ok (.invokestatic 43, 3) := by decide +kernel
theorem dX5_standing_6 : decode cX5_standing 6 = .ok (.ifCond .ne 13, 3) := by decide +kernel
theorem dX5_standing_9 : decode cX5_standing 9 = .ok (.new 47, 3) := by decide +kernel
theorem dX5_standing_12 : decode cX5_standing 12 = .ok (.dup, 1) := by decide +kernel
theorem dX5_standing_13 : decode cX5_standing 13 = .ok (.ldc 204, 2) := by decide +kernel
theorem dX5_standing_15 : decode cX5_standing 15 = .ok (.invokespecial 51, 3) := by decide +kernel
theorem dX5_standing_18 : decode cX5_standing 18 = .ok (.athrow, 1) := by decide +kernel
theorem dX5_standing_19 : decode cX5_standing 19 = .ok (.iconst (-1), 1) := by decide +kernel
theorem dX5_standing_20 : decode cX5_standing 20 = .ok (.istore_n 2, 1) := by decide +kernel
theorem dX5_standing_21 : decode cX5_standing 21 = .ok (.iconst 0, 1) := by decide +kernel
theorem dX5_standing_22 : decode cX5_standing 22 = .ok (.istore_n 3, 1) := by decide +kernel
theorem dX5_standing_23 : decode cX5_standing 23 = .ok (.iload_n 3, 1) := by decide +kernel
theorem dX5_standing_24 : decode cX5_standing 24 = .ok (.bipush 6, 2) := by decide +kernel
theorem dX5_standing_26 : decode cX5_standing 26 = .ok (.if_icmp .ge 20, 3) := by decide +kernel
