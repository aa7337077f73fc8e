theorem dX5_standing_29 : decode cX5_standing 29 = .ok (.aload_n 0, 1) := by decide +kernel
theorem dX5_standing_30 : decode cX5_standing 30 = .ok (.iload_n 3, 1) := by decide +kernel
theorem dX5_standing_31 : decode cX5_standing 31 = .ok (.invokevirtual 206, 3) := by decide +kernel
theorem dX5_standing_34 : decode cX5_standing 34 = .ok (.iload_n 1, 1) := by decide +kernel
theorem dX5_standing_35 : decode cX5_standing 35 = .ok (.if_icmp .ne 5, 3) := by decide +kernel
theorem dX5_standing_38 : decode cX5_standing 38 = .ok (.iload_n 3, 1) := by decide +kernel
theorem dX5_standing_39 : decode cX5_standing 39 = .ok (.istore_n 2, 1) := by decide +kernel
theorem dX5_standing_40 : decode cX5_standing 40 = .ok (.iinc 3 1, 3) := by decide +kernel
theorem dX5_standing_43 : decode cX5_standing 43 = .ok (.goto (-20), 3) := by decide +kernel
theorem dX5_standing_46 : decode cX5_standing 46 = .ok (.iload_n 2, 1) := by decide +kernel
theorem dX5_standing_47 : decode cX5_standing 47 = .ok (.ireturn, 1) := by decide +kernel
theorem dX5_ofTeam_0 : decode cX5_ofTeam 0 = .ok (.aload_n 0, 1) := by decide +kernel
theorem dX5_ofTeam_1 : decode cX5_ofTeam 1 = .ok (.iload_n 1, 1) := by decide +kernel
theorem dX5_ofTeam_2 : decode cX5_ofTeam 2 = .ok (.invokevirtual 209, 3) := by decide +kernel
theorem dX5_ofTeam_5 : decode cX5_ofTeam 5 = .ok (.astore_n 3, 1) := by decide +kernel
theorem dX5_ofTeam_6 : decode cX5_ofTeam 6 = .ok (.iload_n 2, 1) := by decide +kernel
theorem dX5_ofTeam_7 : decode cX5_ofTeam 7 = .ok (.tableswitch 40 0 2 #[25, 30, 35], 25) := by decide +kernel
theorem dX5_ofTeam_32 : decode cX5_ofTeam 32 = .ok (.aload_n 3, 1) := by decide +kernel
theorem dX5_ofTeam_33 : decode cX5_ofTeam 33 = .ok (.getfield 213, 3) := by decide +kernel
theorem dX5_ofTeam_36 : decode cX5_ofTeam 36 = .ok (.ireturn, 1) := by decide +kernel
theorem dX5_ofTeam_37 : decode cX5_ofTeam 37 = .ok (.aload_n 3, 1) := by decide +kernel
theorem dX5_ofTeam_38 : decode cX5_ofTeam 38 = .ok (.getfield 216, 3) := by decide +kernel
theorem dX5_ofTeam_41 : decode cX5_ofTeam 41 = .ok (.ireturn, 1) := by decide +kernel
theorem dX5_ofTeam_42 : decode cX5_ofTeam 42 = .ok (.aload_n 3, 1) := by decide +kernel
theorem dX5_ofTeam_43 : decode cX5_ofTeam 43 = .ok (.getfield 219, 3) := by decide +kernel
theorem dX5_ofTeam_46 : decode cX5_ofTeam 46 = .ok (.ireturn, 1) := by decide +kernel
theorem dX5_ofTeam_47 : decode cX5_ofTeam 47 = .ok (.new 57, 3) := by decide +kernel
theorem dX5_ofTeam_50 : decode cX5_ofTeam 50 = .ok (.dup, 1) := by decide +kernel
theorem dX5_ofTeam_51 : decode cX5_ofTeam 51 = .ok (.ldc 157, 2) := by decide +kernel
theorem dX5_ofTeam_53 : decode cX5_ofTeam 53 = .ok (.invokespecial 61, 3) := by decide +kernel
theorem dX5_ofTeam_56 : decode cX5_ofTeam 56 = .ok (.athrow, 1) := by decide +kernel
theorem dX5_isWithin_0 : decode cX5_isWithin 0 = .ok (.iload_n 0, 1) := by decide +kernel
theorem dX5_isWithin_1 : decode cX5_isWithin 1 = .ok (.iload_n 1, 1) := by decide +kernel
theorem dX5_isWithin_2 : decode cX5_isWithin 2 = .ok (.if_icmp .lt 12, 3) := by decide +kernel
theorem dX5_isWithin_5 : decode cX5_isWithin 5 = .ok (.iload_n 0, 1) := by decide +kernel
theorem dX5_isWithin_6 : decode cX5_isWithin 6 = .ok (.iload_n 2, 1) := by decide +kernel
theorem dX5_isWithin_7 : decode cX5_isWithin 7 = .ok (.if_icmp .gt 7, 3) := by decide +kernel
theorem dX5_isWithin_10 : decode cX5_isWithin 10 = .ok (.iconst 1, 1) := by decide +kernel
theorem dX5_isWithin_11 : decode cX5_isWithin 11 = .ok (.goto 4, 3) := by decide +kernel
theorem dX5_isWithin_14 : decode cX5_isWithin 14 = .ok (.iconst 0, 1) := by decide +kernel
theorem dX5_isWithin_15 : decode cX5_isWithin 15 = .ok (.ireturn, 1) := by decide +kernel
theorem dX5_isCell_0 : decode cX5_isCell 0 = .ok (.iload_n 0, 1) := by decide +kernel
theorem dX5_isCell_1 : decode cX5_isCell 1 = .ok (.iconst 0, 1) := by decide +kernel
theorem dX5_isCell_2 : decode cX5_isCell 2 = .ok (.bipush 8, 2) := by decide +kernel
theorem dX5_isCell_4 : decode cX5_isCell 4 = .ok (.invokestatic 43, 3) := by decide +kernel
theorem dX5_isCell_7 : decode cX5_isCell 7 = .ok (.ifCond .eq 17, 3) := by decide +kernel
theorem dX5_isCell_10 : decode cX5_isCell 10 = .ok (.iload_n 1, 1) := by decide +kernel
theorem dX5_isCell_11 : decode cX5_isCell 11 = .ok (.iconst 0, 1) := by decide +kernel
theorem dX5_isCell_12 : decode cX5_isCell 12 = .ok (.bipush 60, 2) := by decide +kernel
theorem dX5_isCell_14 : decode cX5_isCell 14 = .ok (.invokestatic 43, 3) := by decide +kernel
theorem dX5_isCell_17 : decode cX5_isCell 17 = .ok (.ifCond .eq 7, 3) := by decide +kernel
theorem dX5_isCell_20 : decode cX5_isCell 20 = .ok (.iconst 1, 1) := by decide +kernel
theorem dX5_isCell_21 : decode cX5_isCell 21 = .ok (.goto 4, 3) := by decide +kernel
theorem dX5_isCell_24 : decode cX5_isCell 24 = .ok (.iconst 0, 1) := by decide +kernel
theorem dX5_isCell_25 : decode cX5_isCell 25 = .ok (.ireturn, 1) := by decide +kernel
theorem dX5_isShot_0 : decode cX5_isShot 0 = .ok (.iload_n 0, 1) := by decide +kernel
theorem dX5_isShot_1 : decode cX5_isShot 1 = .ok (.iconst 0, 1) := by decide +kernel
theorem dX5_isShot_2 : decode cX5_isShot 2 = .ok (.bipush 8, 2) := by decide +kernel
theorem dX5_isShot_4 : decode cX5_isShot 4 = .ok (.invokestatic 43, 3) := by decide +kernel
theorem dX5_isShot_7 : decode cX5_isShot 7 = .ok (.ifCond .eq 48, 3) := by decide +kernel
theorem dX5_isShot_10 : decode cX5_isShot 10 = .ok (.iload_n 1, 1) := by decide +kernel
theorem dX5_isShot_11 : decode cX5_isShot 11 = .ok (.iconst 1, 1) := by decide +kernel
theorem dX5_isShot_12 : decode cX5_isShot 12 = .ok (.bipush 100, 2) := by decide +kernel
theorem dX5_isShot_14 : decode cX5_isShot 14 = .ok (.invokestatic 43, 3) := by decide +kernel
theorem dX5_isShot_17 : decode cX5_isShot 17 = .ok (.ifCond .eq 38, 3) := by decide +kernel
theorem dX5_isShot_20 : decode cX5_isShot 20 = .ok (.iload_n 2, 1) := by decide +kernel
theorem dX5_isShot_21 : decode cX5_isShot 21 = .ok (.iconst (-1), 1) := by decide +kernel
theorem dX5_isShot_22 : decode cX5_isShot 22 = .ok (.if_icmp .eq 8, 3) := by decide +kernel
theorem dX5_isShot_25 : decode cX5_isShot 25 = .ok (.iload_n 2, 1) := by decide +kernel
theorem dX5_isShot_26 : decode cX5_isShot 26 = .ok (.iconst 1, 1) := by decide +kernel
theorem dX5_isShot_27 : decode cX5_isShot 27 = .ok (.if_icmp .ne 28, 3) := by decide +kernel
theorem dX5_isShot_30 : decode cX5_isShot 30 = .ok (.iload_n 3, 1) := by decide +kernel
theorem dX5_isShot_31 : decode cX5_isShot 31 = .ok (.iconst 0, 1) := by decide +kernel
theorem dX5_isShot_32 : decode cX5_isShot 32 = .ok (.bipush 60, 2) := by decide +kernel
theorem dX5_isShot_34 : decode cX5_isShot 34 = .ok (.invokestatic 43, 3) := by decide +kernel
theorem dX5_isShot_37 : decode cX5_isShot 37 = .ok (.ifCond .eq 18, 3) := by decide +kernel
theorem dX5_isShot_40 : decode cX5_isShot 40 = .ok (.iload 4, 2) := by decide +kernel
theorem dX5_isShot_42 : decode cX5_isShot 42 = .ok (.iconst 0, 1) := by decide +kernel
theorem dX5_isShot_43 : decode cX5_isShot 43 = .ok (.bipush 60, 2) := by decide +kernel
theorem dX5_isShot_45 : decode cX5_isShot 45 = .ok (.invokestatic 43, 3) := by decide +kernel
theorem dX5_isShot_48 : decode cX5_isShot 48 = .ok (.ifCond .eq 7, 3) := by decide +kernel
theorem dX5_isShot_51 : decode cX5_isShot 51 = .ok (.iconst 1, 1) := by decide +kernel
theorem dX5_isShot_52 : decode cX5_isShot 52 = .ok (.goto 4, 3) := by decide +kernel
theorem dX5_isShot_55 : decode cX5_isShot 55 = .ok (.iconst 0, 1) := by decide +kernel
theorem dX5_isShot_56 : decode cX5_isShot 56 = .ok (.ireturn, 1) := by decide +kernel
theorem dX5_distanceOf_0 : decode cX5_distanceOf 0 = .ok (.iload_n 0, 1) := by decide +kernel
theorem dX5_distanceOf_1 : decode cX5_distanceOf 1 = .ok (.ifCond .ge 6, 3) := by decide +kernel
theorem dX5_distanceOf_4 : decode cX5_distanceOf 4 = .ok (.bipush 30, 2) := by decide +kernel
theorem dX5_distanceOf_6 : decode cX5_distanceOf 6 = .ok (.ireturn, 1) := by decide +kernel
theorem dX5_distanceOf_7 : decode cX5_distanceOf 7 = .ok (.iconst 2, 1) := by decide +kernel
theorem dX5_distanceOf_8 : decode cX5_distanceOf 8 = .ok (.iload_n 0, 1) := by decide +kernel
theorem dX5_distanceOf_9 : decode cX5_distanceOf 9 = .ok (.bipush 100, 2) := by decide +kernel
theorem dX5_distanceOf_11 : decode cX5_distanceOf 11 = .ok (.idiv, 1) := by decide +kernel
theorem dX5_distanceOf_12 : decode cX5_distanceOf 12 = .ok (.iconst 4, 1) := by decide +kernel
theorem dX5_distanceOf_13 : decode cX5_distanceOf 13 = .ok (.isub, 1) := by decide +kernel
theorem dX5_distanceOf_14 : decode cX5_distanceOf 14 = .ok (.invokestatic 222, 3) := by decide +kernel
theorem dX5_distanceOf_17 : decode cX5_distanceOf 17 = .ok (.imul, 1) := by decide +kernel
theorem dX5_distanceOf_18 : decode cX5_distanceOf 18 = .ok (.istore_n 1, 1) := by decide +kernel
theorem dX5_distanceOf_19 : decode cX5_distanceOf 19 = .ok (.iload_n 0, 1) := by decide +kernel
theorem dX5_distanceOf_20 : decode cX5_distanceOf 20 = .ok (.bipush 100, 2) := by decide +kernel
theorem dX5_distanceOf_22 : decode cX5_distanceOf 22 = .ok (.irem, 1) := by decide +kernel
theorem dX5_distanceOf_23 : decode cX5_distanceOf 23 = .ok (.bipush 50, 2) := by decide +kernel
theorem dX5_distanceOf_25 : decode cX5_distanceOf 25 = .ok (.isub, 1) := by decide +kernel
theorem dX5_distanceOf_26 : decode cX5_distanceOf 26 = .ok (.invokestatic 222, 3) := by decide +kernel
theorem dX5_distanceOf_29 : decode cX5_distanceOf 29 = .ok (.istore_n 2, 1) := by decide +kernel
theorem dX5_distanceOf_30 : decode cX5_distanceOf 30 = .ok (.iload_n 1, 1) := by decide +kernel
theorem dX5_distanceOf_31 : decode cX5_distanceOf 31 = .ok (.iload_n 2, 1) := by decide +kernel
theorem dX5_distanceOf_32 : decode cX5_distanceOf 32 = .ok (.iadd, 1) := by decide +kernel
theorem dX5_distanceOf_33 : decode cX5_distanceOf 33 = .ok (.bipush 30, 2) := by decide +kernel
theorem dX5_distanceOf_35 : decode cX5_distanceOf 35 = .ok (.invokestatic 227, 3) := by decide +kernel
theorem dX5_distanceOf_38 : decode cX5_distanceOf 38 = .ok (.ireturn, 1) := by decide +kernel
theorem dX5_gameOf_0 : decode cX5_gameOf 0 = .ok (.iload_n 1, 1) := by decide +kernel
theorem dX5_gameOf_1 : decode cX5_gameOf 1 = .ok (.ifCond .lt 21, 3) := by decide +kernel
theorem dX5_gameOf_4 : decode cX5_gameOf 4 = .ok (.iload_n 1, 1) := by decide +kernel
theorem dX5_gameOf_5 : decode cX5_gameOf 5 = .ok (.aload_n 0, 1) := by decide +kernel
theorem dX5_gameOf_6 : decode cX5_gameOf 6 = .ok (.getfield 25, 3) := by decide +kernel
theorem dX5_gameOf_9 : decode cX5_gameOf 9 = .ok (.arraylength, 1) := by decide +kernel
theorem dX5_gameOf_10 : decode cX5_gameOf 10 = .ok (.if_icmp .ge 12, 3) := by decide +kernel
theorem dX5_gameOf_13 : decode cX5_gameOf 13 = .ok (.aload_n 0, 1) := by decide +kernel
theorem dX5_gameOf_14 : decode cX5_gameOf 14 = .ok (.getfield 25, 3) := by decide +kernel
theorem dX5_gameOf_17 : decode cX5_gameOf 17 = .ok (.iload_n 1, 1) := by decide +kernel
theorem dX5_gameOf_18 : decode cX5_gameOf 18 = .ok (.aaload, 1) := by decide +kernel
theorem dX5_gameOf_19 : decode cX5_gameOf 19 = .ok (.goto 4, 3) := by decide +kernel
theorem dX5_gameOf_22 : decode cX5_gameOf 22 = .ok (.aconst_null, 1) := by decide +kernel
theorem dX5_gameOf_23 : decode cX5_gameOf 23 = .ok (.astore_n 2, 1) := by decide +kernel
theorem dX5_gameOf_24 : decode cX5_gameOf 24 = .ok (.aload_n 2, 1) := by decide +kernel
theorem dX5_gameOf_25 : decode cX5_gameOf 25 = .ok (.ifnonnull 13, 3) := by decide +kernel
theorem dX5_gameOf_28 : decode cX5_gameOf 28 = .ok (.new 47, 3) := by decide +kernel
theorem dX5_gameOf_31 : decode cX5_gameOf 31 = .ok (.dup, 1) := by decide +kernel
theorem dX5_gameOf_32 : decode cX5_gameOf 32 = .ok (.ldc 230, 2) := by decide +kernel
theorem dX5_gameOf_34 : decode cX5_gameOf 34 = .ok (.invokespecial 51, 3) := by decide +kernel
theorem dX5_gameOf_37 : decode cX5_gameOf 37 = .ok (.athrow, 1) := by decide +kernel
theorem dX5_gameOf_38 : decode cX5_gameOf 38 = .ok (.aload_n 2, 1) := by decide +kernel
theorem dX5_gameOf_39 : decode cX5_gameOf 39 = .ok (.areturn, 1) := by decide +kernel
theorem dX5_sheetOf_0 : decode cX5_sheetOf 0 = .ok (.iload_n 1, 1) := by decide +kernel
theorem dX5_sheetOf_1 : decode cX5_sheetOf 1 = .ok (.ifCond .lt 21, 3) := by decide +kernel
theorem dX5_sheetOf_4 : decode cX5_sheetOf 4 = .ok (.iload_n 1, 1) := by decide +kernel
theorem dX5_sheetOf_5 : decode cX5_sheetOf 5 = .ok (.aload_n 0, 1) := by decide +kernel
theorem dX5_sheetOf_6 : decode cX5_sheetOf 6 = .ok (.getfield 11, 3) := by decide +kernel
theorem dX5_sheetOf_9 : decode cX5_sheetOf 9 = .ok (.arraylength, 1) := by decide +kernel
theorem dX5_sheetOf_10 : decode cX5_sheetOf 10 = .ok (.if_icmp .ge 12, 3) := by decide +kernel
theorem dX5_sheetOf_13 : decode cX5_sheetOf 13 = .ok (.aload_n 0, 1) := by decide +kernel
theorem dX5_sheetOf_14 : decode cX5_sheetOf 14 = .ok (.getfield 11, 3) := by decide +kernel
theorem dX5_sheetOf_17 : decode cX5_sheetOf 17 = .ok (.iload_n 1, 1) := by decide +kernel
theorem dX5_sheetOf_18 : decode cX5_sheetOf 18 = .ok (.aaload, 1) := by decide +kernel
theorem dX5_sheetOf_19 : decode cX5_sheetOf 19 = .ok (.goto 4, 3) := by decide +kernel
theorem dX5_sheetOf_22 : decode cX5_sheetOf 22 = .ok (.aconst_null, 1) := by decide +kernel
theorem dX5_sheetOf_23 : decode cX5_sheetOf 23 = .ok (.astore_n 2, 1) := by decide +kernel
theorem dX5_sheetOf_24 : decode cX5_sheetOf 24 = .ok (.aload_n 2, 1) := by decide +kernel
theorem dX5_sheetOf_25 : decode cX5_sheetOf 25 = .ok (.ifnonnull 13, 3) := by decide +kernel
theorem dX5_sheetOf_28 : decode cX5_sheetOf 28 = .ok (.new 47, 3) := by decide +kernel
theorem dX5_sheetOf_31 : decode cX5_sheetOf 31 = .ok (.dup, 1) := by decide +kernel
theorem dX5_sheetOf_32 : decode cX5_sheetOf 32 = .ok (.ldc 232, 2) := by decide +kernel
theorem dX5_sheetOf_34 : decode cX5_sheetOf 34 = .ok (.invokespecial 51, 3) := by decide +kernel
theorem dX5_sheetOf_37 : decode cX5_sheetOf 37 = .ok (.athrow, 1) := by decide +kernel
theorem dX5_sheetOf_38 : decode cX5_sheetOf 38 = .ok (.aload_n 2, 1) := by decide +kernel
theorem dX5_sheetOf_39 : decode cX5_sheetOf 39 = .ok (.areturn, 1) := by decide +kernel
theorem dX5_teamOf_0 : decode cX5_teamOf 0 = .ok (.iload_n 1, 1) := by decide +kernel
theorem dX5_teamOf_1 : decode cX5_teamOf 1 = .ok (.ifCond .lt 21, 3) := by decide +kernel
theorem dX5_teamOf_4 : decode cX5_teamOf 4 = .ok (.iload_n 1, 1) := by decide +kernel
theorem dX5_teamOf_5 : decode cX5_teamOf 5 = .ok (.aload_n 0, 1) := by decide +kernel
theorem dX5_teamOf_6 : decode cX5_teamOf 6 = .ok (.getfield 18, 3) := by decide +kernel
theorem dX5_teamOf_9 : decode cX5_teamOf 9 = .ok (.arraylength, 1) := by decide +kernel
theorem dX5_teamOf_10 : decode cX5_teamOf 10 = .ok (.if_icmp .ge 12, 3) := by decide +kernel
theorem dX5_teamOf_13 : decode cX5_teamOf 13 = .ok (.aload_n 0, 1) := by decide +kernel
theorem dX5_teamOf_14 : decode cX5_teamOf 14 = .ok (.getfield 18, 3) := by decide +kernel
theorem dX5_teamOf_17 : decode cX5_teamOf 17 = .ok (.iload_n 1, 1) := by decide +kernel
theorem dX5_teamOf_18 : decode cX5_teamOf 18 = .ok (.aaload, 1) := by decide +kernel
theorem dX5_teamOf_19 : decode cX5_teamOf 19 = .ok (.goto 4, 3) := by decide +kernel
theorem dX5_teamOf_22 : decode cX5_teamOf 22 = .ok (.aconst_null, 1) := by decide +kernel
theorem dX5_teamOf_23 : decode cX5_teamOf 23 = .ok (.astore_n 2, 1) := by decide +kernel
theorem dX5_teamOf_24 : decode cX5_teamOf 24 = .ok (.aload_n 2, 1) := by decide +kernel
theorem dX5_teamOf_25 : decode cX5_teamOf 25 = .ok (.ifnonnull 13, 3) := by decide +kernel
theorem dX5_teamOf_28 : decode cX5_teamOf 28 = .ok (.new 47, 3) := by decide +kernel
theorem dX5_teamOf_31 : decode cX5_teamOf 31 = .ok (.dup, 1) := by decide +kernel
theorem dX5_teamOf_32 : decode cX5_teamOf 32 = .ok (.ldc 234, 2) := by decide +kernel
theorem dX5_teamOf_34 : decode cX5_teamOf 34 = .ok (.invokespecial 51, 3) := by decide +kernel
theorem dX5_teamOf_37 : decode cX5_teamOf 37 = .ok (.athrow, 1) := by decide +kernel
theorem dX5_teamOf_38 : decode cX5_teamOf 38 = .ok (.aload_n 2, 1) := by decide +kernel
theorem dX5_teamOf_39 : decode cX5_teamOf 39 = .ok (.areturn, 1) := by decide +kernel
theorem dX5_settleDraw_0 : decode cX5_settleDraw 0 = .ok (.aload_n 0, 1) := by decide +kernel
theorem dX5_settleDraw_1 : decode cX5_settleDraw 1 = .ok (.aload_n 1, 1) := by decide +kernel
theorem dX5_settleDraw_2 : decode cX5_settleDraw 2 = .ok (.invokevirtual 181, 3) := by decide +kernel
theorem dX5_settleDraw_5 : decode cX5_settleDraw 5 = .ok (.ifCond .ne 10, 3) := by decide +kernel
theorem dX5_settleDraw_8 : decode cX5_settleDraw 8 = .ok (.aload_n 1, 1) := by decide +kernel
theorem dX5_settleDraw_9 : decode cX5_settleDraw 9 = .ok (.getfield 236, 3) := by decide +kernel
theorem dX5_settleDraw_12 : decode cX5_settleDraw 12 = .ok (.goto 7, 3) := by decide +kernel
theorem dX5_settleDraw_15 : decode cX5_settleDraw 15 = .ok (.aload_n 1, 1) := by decide +kernel
theorem dX5_settleDraw_16 : decode cX5_settleDraw 16 = .ok (.getfield 239, 3) := by decide +kernel
theorem dX5_settleDraw_19 : decode cX5_settleDraw 19 = .ok (.invokevirtual 209, 3) := by decide +kernel
theorem dX5_settleDraw_22 : decode cX5_settleDraw 22 = .ok (.astore_n 3, 1) := by decide +kernel
theorem dX5_settleDraw_23 : decode cX5_settleDraw 23 = .ok (.aload_n 3, 1) := by decide +kernel
theorem dX5_settleDraw_24 : decode cX5_settleDraw 24 = .ok (.dup, 1) := by decide +kernel
theorem dX5_settleDraw_25 : decode cX5_settleDraw 25 = .ok (.getfield 216, 3) := by decide +kernel
theorem dX5_settleDraw_28 : decode cX5_settleDraw 28 = .ok (.iconst 1, 1) := by decide +kernel
theorem dX5_settleDraw_29 : decode cX5_settleDraw 29 = .ok (.iadd, 1) := by decide +kernel
theorem dX5_settleDraw_30 : decode cX5_settleDraw 30 = .ok (.putfield 216, 3) := by decide +kernel
theorem dX5_settleDraw_33 : decode cX5_settleDraw 33 = .ok (.aload_n 3, 1) := by decide +kernel
theorem dX5_settleDraw_34 : decode cX5_settleDraw 34 = .ok (.dup, 1) := by decide +kernel
theorem dX5_settleDraw_35 : decode cX5_settleDraw 35 = .ok (.getfield 219, 3) := by decide +kernel
theorem dX5_settleDraw_38 : decode cX5_settleDraw 38 = .ok (.iload_n 2, 1) := by decide +kernel
theorem dX5_settleDraw_39 : decode cX5_settleDraw 39 = .ok (.iadd, 1) := by decide +kernel
theorem dX5_settleDraw_40 : decode cX5_settleDraw 40 = .ok (.putfield 219, 3) := by decide +kernel
theorem dX5_settleDraw_43 : decode cX5_settleDraw 43 = .ok (.aload_n 1, 1) := by decide +kernel
theorem dX5_settleDraw_44 : decode cX5_settleDraw 44 = .ok (.iload_n 2, 1) := by decide +kernel
theorem dX5_settleDraw_45 : decode cX5_settleDraw 45 = .ok (.invokevirtual 242, 3) := by decide +kernel
theorem dX5_settleDraw_48 : decode cX5_settleDraw 48 = .ok (.return_, 1) := by decide +kernel
theorem dX5_settleStone_0 : decode cX5_settleStone 0 = .ok (.aload_n 1, 1) := by decide +kernel
theorem dX5_settleStone_1 : decode cX5_settleStone 1 = .ok (.dup, 1) := by decide +kernel
theorem dX5_settleStone_2 : decode cX5_settleStone 2 = .ok (.getfield 246, 3) := by decide +kernel
theorem dX5_settleStone_5 : decode cX5_settleStone 5 = .ok (.iconst 1, 1) := by decide +kernel
theorem dX5_settleStone_6 : decode cX5_settleStone 6 = .ok (.iadd, 1) := by decide +kernel
theorem dX5_settleStone_7 : decode cX5_settleStone 7 = .ok (.putfield 246, 3) := by decide +kernel
theorem dX5_settleStone_10 : decode cX5_settleStone 10 = .ok (.aload_n 1, 1) := by decide +kernel
theorem dX5_settleStone_11 : decode cX5_settleStone 11 = .ok (.getfield 246, 3) := by decide +kernel
theorem dX5_settleStone_14 : decode cX5_settleStone 14 = .ok (.bipush 6, 2) := by decide +kernel
theorem dX5_settleStone_16 : decode cX5_settleStone 16 = .ok (.if_icmp .ge 4, 3) := by decide +kernel
theorem dX5_settleStone_19 : decode cX5_settleStone 19 = .ok (.return_, 1) := by decide +kernel
theorem dX5_settleStone_20 : decode cX5_settleStone 20 = .ok (.aload_n 1, 1) := by decide +kernel
theorem dX5_settleStone_21 : decode cX5_settleStone 21 = .ok (.invokevirtual 249, 3) := by decide +kernel
theorem dX5_settleStone_24 : decode cX5_settleStone 24 = .ok (.aload_n 1, 1) := by decide +kernel
theorem dX5_settleStone_25 : decode cX5_settleStone 25 = .ok (.getfield 178, 3) := by decide +kernel
theorem dX5_settleStone_28 : decode cX5_settleStone 28 = .ok (.iconst 4, 1) := by decide +kernel
theorem dX5_settleStone_29 : decode cX5_settleStone 29 = .ok (.if_icmp .ne 8, 3) := by decide +kernel
theorem dX5_settleStone_32 : decode cX5_settleStone 32 = .ok (.aload_n 0, 1) := by decide +kernel
theorem dX5_settleStone_33 : decode cX5_settleStone 33 = .ok (.aload_n 1, 1) := by decide +kernel
theorem dX5_settleStone_34 : decode cX5_settleStone 34 = .ok (.invokevirtual 252, 3) := by decide +kernel
theorem dX5_settleStone_37 : decode cX5_settleStone 37 = .ok (.return_, 1) := by decide +kernel
theorem dX5_closeGame_0 : decode cX5_closeGame 0 = .ok (.aload_n 1, 1) := by decide +kernel
theorem dX5_closeGame_1 : decode cX5_closeGame 1 = .ok (.iconst 3, 1) := by decide +kernel
theorem dX5_closeGame_2 : decode cX5_closeGame 2 = .ok (.putfield 114, 3) := by decide +kernel
theorem dX5_closeGame_5 : decode cX5_closeGame 5 = .ok (.aload_n 1, 1) := by decide +kernel
theorem dX5_closeGame_6 : decode cX5_closeGame 6 = .ok (.iconst (-1), 1) := by decide +kernel
theorem dX5_closeGame_7 : decode cX5_closeGame 7 = .ok (.putfield 184, 3) := by decide +kernel
theorem dX5_closeGame_10 : decode cX5_closeGame 10 = .ok (.aload_n 0, 1) := by decide +kernel
theorem dX5_closeGame_11 : decode cX5_closeGame 11 = .ok (.aload_n 1, 1) := by decide +kernel
theorem dX5_closeGame_12 : decode cX5_closeGame 12 = .ok (.getfield 95, 3) := by decide +kernel
theorem dX5_closeGame_15 : decode cX5_closeGame 15 = .ok (.invokevirtual 98, 3) := by decide +kernel
theorem dX5_closeGame_18 : decode cX5_closeGame 18 = .ok (.iconst (-1), 1) := by decide +kernel
theorem dX5_closeGame_19 : decode cX5_closeGame 19 = .ok (.putfield 148, 3) := by decide +kernel
theorem dX5_closeGame_22 : decode cX5_closeGame 22 = .ok (.aload_n 1, 1) := by decide +kernel
theorem dX5_closeGame_23 : decode cX5_closeGame 23 = .ok (.getfield 172, 3) := by decide +kernel
theorem dX5_closeGame_26 : decode cX5_closeGame 26 = .ok (.aload_n 1, 1) := by decide +kernel
theorem dX5_closeGame_27 : decode cX5_closeGame 27 = .ok (.getfield 175, 3) := by decide +kernel
theorem dX5_closeGame_30 : decode cX5_closeGame 30 = .ok (.if_icmp .le 23, 3) := by decide +kernel
theorem dX5_closeGame_33 : decode cX5_closeGame 33 = .ok (.aload_n 0, 1) := by decide +kernel
theorem dX5_closeGame_34 : decode cX5_closeGame 34 = .ok (.aload_n 1, 1) := by decide +kernel
theorem dX5_closeGame_35 : decode cX5_closeGame 35 = .ok (.getfield 236, 3) := by decide +kernel
theorem dX5_closeGame_38 : decode cX5_closeGame 38 = .ok (.invokevirtual 209, 3) := by decide +kernel
theorem dX5_closeGame_41 : decode cX5_closeGame 41 = .ok (.dup, 1) := by decide +kernel
theorem dX5_closeGame_42 : decode cX5_closeGame 42 = .ok (.getfield 213, 3) := by decide +kernel
theorem dX5_closeGame_45 : decode cX5_closeGame 45 = .ok (.iconst 1, 1) := by decide +kernel
theorem dX5_closeGame_46 : decode cX5_closeGame 46 = .ok (.iadd, 1) := by decide +kernel
theorem dX5_closeGame_47 : decode cX5_closeGame 47 = .ok (.putfield 213, 3) := by decide +kernel
theorem dX5_closeGame_50 : decode cX5_closeGame 50 = .ok (.goto 31, 3) := by decide +kernel
theorem dX5_closeGame_53 : decode cX5_closeGame 53 = .ok (.aload_n 1, 1) := by decide +kernel
theorem dX5_closeGame_54 : decode cX5_closeGame 54 = .ok (.getfield 175, 3) := by decide +kernel
theorem dX5_closeGame_57 : decode cX5_closeGame 57 = .ok (.aload_n 1, 1) := by decide +kernel
theorem dX5_closeGame_58 : decode cX5_closeGame 58 = .ok (.getfield 172, 3) := by decide +kernel
theorem dX5_closeGame_61 : decode cX5_closeGame 61 = .ok (.if_icmp .le 20, 3) := by decide +kernel
theorem dX5_closeGame_64 : decode cX5_closeGame 64 = .ok (.aload_n 0, 1) := by decide +kernel
theorem dX5_closeGame_65 : decode cX5_closeGame 65 = .ok (.aload_n 1, 1) := by decide +kernel
theorem dX5_closeGame_66 : decode cX5_closeGame 66 = .ok (.getfield 239, 3) := by decide +kernel
theorem dX5_closeGame_69 : decode cX5_closeGame 69 = .ok (.invokevirtual 209, 3) := by decide +kernel
theorem dX5_closeGame_72 : decode cX5_closeGame 72 = .ok (.dup, 1) := by decide +kernel
theorem dX5_closeGame_73 : decode cX5_closeGame 73 = .ok (.getfield 213, 3) := by decide +kernel
theorem dX5_closeGame_76 : decode cX5_closeGame 76 = .ok (.iconst 1, 1) := by decide +kernel
theorem dX5_closeGame_77 : decode cX5_closeGame 77 = .ok (.iadd, 1) := by decide +kernel
theorem dX5_closeGame_78 : decode cX5_closeGame 78 = .ok (.putfield 213, 3) := by decide +kernel
theorem dX5_closeGame_81 : decode cX5_closeGame 81 = .ok (.return_, 1) := by decide +kernel
theorem dX5_workAnHour_0 : decode cX5_workAnHour 0 = .ok (.aload_n 0, 1) := by decide +kernel
theorem dX5_workAnHour_1 : decode cX5_workAnHour 1 = .ok (.getfield 154, 3) := by decide +kernel
theorem dX5_workAnHour_4 : decode cX5_workAnHour 4 = .ok (.ifCond .le 13, 3) := by decide +kernel
theorem dX5_workAnHour_7 : decode cX5_workAnHour 7 = .ok (.aload_n 0, 1) := by decide +kernel
theorem dX5_workAnHour_8 : decode cX5_workAnHour 8 = .ok (.dup, 1) := by decide +kernel
theorem dX5_workAnHour_9 : decode cX5_workAnHour 9 = .ok (.getfield 154, 3) := by decide +kernel
theorem dX5_workAnHour_12 : decode cX5_workAnHour 12 = .ok (.iconst 1, 1) := by decide +kernel
theorem dX5_workAnHour_13 : decode cX5_workAnHour 13 = .ok (.isub, 1) := by decide +kernel
theorem dX5_workAnHour_14 : decode cX5_workAnHour 14 = .ok (.putfield 154, 3) := by decide +kernel
theorem dX5_workAnHour_17 : decode cX5_workAnHour 17 = .ok (.aload_n 0, 1) := by decide +kernel
theorem dX5_workAnHour_18 : decode cX5_workAnHour 18 = .ok (.getfield 154, 3) := by decide +kernel
theorem dX5_workAnHour_21 : decode cX5_workAnHour 21 = .ok (.ifCond .le 4, 3) := by decide +kernel
theorem dX5_workAnHour_24 : decode cX5_workAnHour 24 = .ok (.return_, 1) := by decide +kernel
theorem dX5_workAnHour_25 : decode cX5_workAnHour 25 = .ok (.aload_n 0, 1) := by decide +kernel
theorem dX5_workAnHour_26 : decode cX5_workAnHour 26 = .ok (.getfield 40, 3) := by decide +kernel
theorem dX5_workAnHour_29 : decode cX5_workAnHour 29 = .ok (.iconst (-1), 1) := by decide +kernel
theorem dX5_workAnHour_30 : decode cX5_workAnHour 30 = .ok (.if_icmp .eq 14, 3) := by decide +kernel
theorem dX5_workAnHour_33 : decode cX5_workAnHour 33 = .ok (.aload_n 0, 1) := by decide +kernel
theorem dX5_workAnHour_34 : decode cX5_workAnHour 34 = .ok (.aload_n 0, 1) := by decide +kernel
theorem dX5_workAnHour_35 : decode cX5_workAnHour 35 = .ok (.getfield 40, 3) := by decide +kernel
theorem dX5_workAnHour_38 : decode cX5_workAnHour 38 = .ok (.invokevirtual 98, 3) := by decide +kernel
theorem dX5_workAnHour_41 : decode cX5_workAnHour 41 = .ok (.invokevirtual 255, 3) := by decide +kernel
theorem dX5_workAnHour_44 : decode cX5_workAnHour 44 = .ok (.aload_n 0, 1) := by decide +kernel
theorem dX5_workAnHour_45 : decode cX5_workAnHour 45 = .ok (.aload_n 0, 1) := by decide +kernel
theorem dX5_workAnHour_46 : decode cX5_workAnHour 46 = .ok (.invokevirtual 258, 3) := by decide +kernel
theorem dX5_workAnHour_49 : decode cX5_workAnHour 49 = .ok (.putfield 40, 3) := by decide +kernel
theorem dX5_workAnHour_52 : decode cX5_workAnHour 52 = .ok (.aload_n 0, 1) := by decide +kernel
theorem dX5_workAnHour_53 : decode cX5_workAnHour 53 = .ok (.getfield 40, 3) := by decide +kernel
theorem dX5_workAnHour_56 : decode cX5_workAnHour 56 = .ok (.iconst (-1), 1) := by decide +kernel
theorem dX5_workAnHour_57 : decode cX5_workAnHour 57 = .ok (.if_icmp .eq 11, 3) := by decide +kernel
theorem dX5_workAnHour_60 : decode cX5_workAnHour 60 = .ok (.aload_n 0, 1) := by decide +kernel
theorem dX5_workAnHour_61 : decode cX5_workAnHour 61 = .ok (.aload_n 0, 1) := by decide +kernel
theorem dX5_workAnHour_62 : decode cX5_workAnHour 62 = .ok (.getfield 36, 3) := by decide +kernel
theorem dX5_workAnHour_65 : decode cX5_workAnHour 65 = .ok (.putfield 154, 3) := by decide +kernel
theorem dX5_workAnHour_68 : decode cX5_workAnHour 68 = .ok (.return_, 1) := by decide +kernel
theorem dX5_sheetToMake_0 : decode cX5_sheetToMake 0 = .ok (.iconst (-1), 1) := by decide +kernel
theorem dX5_sheetToMake_1 : decode cX5_sheetToMake 1 = .ok (.istore_n 1, 1) := by decide +kernel
theorem dX5_sheetToMake_2 : decode cX5_sheetToMake 2 = .ok (.iconst 0, 1) := by decide +kernel
theorem dX5_sheetToMake_3 : decode cX5_sheetToMake 3 = .ok (.istore_n 2, 1) := by decide +kernel
theorem dX5_sheetToMake_4 : decode cX5_sheetToMake 4 = .ok (.iconst 0, 1) := by decide +kernel
theorem dX5_sheetToMake_5 : decode cX5_sheetToMake 5 = .ok (.istore_n 3, 1) := by decide +kernel
theorem dX5_sheetToMake_6 : decode cX5_sheetToMake 6 = .ok (.iload_n 3, 1) := by decide +kernel
theorem dX5_sheetToMake_7 : decode cX5_sheetToMake 7 = .ok (.iconst 3, 1) := by decide +kernel
theorem dX5_sheetToMake_8 : decode cX5_sheetToMake 8 = .ok (.if_icmp .ge 59, 3) := by decide +kernel
theorem dX5_sheetToMake_11 : decode cX5_sheetToMake 11 = .ok (.aload_n 0, 1) := by decide +kernel
theorem dX5_sheetToMake_12 : decode cX5_sheetToMake 12 = .ok (.iload_n 3, 1) := by decide +kernel
theorem dX5_sheetToMake_13 : decode cX5_sheetToMake 13 = .ok (.invokevirtual 98, 3) := by decide +kernel
theorem dX5_sheetToMake_16 : decode cX5_sheetToMake 16 = .ok (.astore 4, 2) := by decide +kernel
theorem dX5_sheetToMake_18 : decode cX5_sheetToMake 18 = .ok (.aload 4, 2) := by decide +kernel
theorem dX5_sheetToMake_20 : decode cX5_sheetToMake 20 = .ok (.getfield 144, 3) := by decide +kernel
theorem dX5_sheetToMake_23 : decode cX5_sheetToMake 23 = .ok (.ifCond .ne 38, 3) := by decide +kernel
theorem dX5_sheetToMake_26 : decode cX5_sheetToMake 26 = .ok (.aload 4, 2) := by decide +kernel
theorem dX5_sheetToMake_28 : decode cX5_sheetToMake 28 = .ok (.getfield 148, 3) := by decide +kernel
theorem dX5_sheetToMake_31 : decode cX5_sheetToMake 31 = .ok (.iconst (-1), 1) := by decide +kernel
theorem dX5_sheetToMake_32 : decode cX5_sheetToMake 32 = .ok (.if_icmp .eq 6, 3) := by decide +kernel
theorem dX5_sheetToMake_35 : decode cX5_sheetToMake 35 = .ok (.goto 26, 3) := by decide +kernel
theorem dX5_sheetToMake_38 : decode cX5_sheetToMake 38 = .ok (.aload_n 0, 1) := by decide +kernel
theorem dX5_sheetToMake_39 : decode cX5_sheetToMake 39 = .ok (.iload_n 3, 1) := by decide +kernel
theorem dX5_sheetToMake_40 : decode cX5_sheetToMake 40 = .ok (.invokevirtual 261, 3) := by decide +kernel
theorem dX5_sheetToMake_43 : decode cX5_sheetToMake 43 = .ok (.istore 5, 2) := by decide +kernel
theorem dX5_sheetToMake_45 : decode cX5_sheetToMake 45 = .ok (.iload_n 1, 1) := by decide +kernel
theorem dX5_sheetToMake_46 : decode cX5_sheetToMake 46 = .ok (.iconst (-1), 1) := by decide +kernel
theorem dX5_sheetToMake_47 : decode cX5_sheetToMake 47 = .ok (.if_icmp .eq 9, 3) := by decide +kernel
theorem dX5_sheetToMake_50 : decode cX5_sheetToMake 50 = .ok (.iload 5, 2) := by decide +kernel
theorem dX5_sheetToMake_52 : decode cX5_sheetToMake 52 = .ok (.iload_n 2, 1) := by decide +kernel
theorem dX5_sheetToMake_53 : decode cX5_sheetToMake 53 = .ok (.if_icmp .ge 8, 3) := by decide +kernel
theorem dX5_sheetToMake_56 : decode cX5_sheetToMake 56 = .ok (.iload_n 3, 1) := by decide +kernel
theorem dX5_sheetToMake_57 : decode cX5_sheetToMake 57 = .ok (.istore_n 1, 1) := by decide +kernel
theorem dX5_sheetToMake_58 : decode cX5_sheetToMake 58 = .ok (.iload 5, 2) := by decide +kernel
theorem dX5_sheetToMake_60 : decode cX5_sheetToMake 60 = .ok (.istore_n 2, 1) := by decide +kernel
theorem dX5_sheetToMake_61 : decode cX5_sheetToMake 61 = .ok (.iinc 3 1, 3) := by decide +kernel
theorem dX5_sheetToMake_64 : decode cX5_sheetToMake 64 = .ok (.goto (-58), 3) := by decide +kernel
theorem dX5_sheetToMake_67 : decode cX5_sheetToMake 67 = .ok (.iload_n 1, 1) := by decide +kernel
theorem dX5_sheetToMake_68 : decode cX5_sheetToMake 68 = .ok (.ireturn, 1) := by decide +kernel
theorem dX5_leastHourWished_0 : decode cX5_leastHourWished 0 = .ok (.sipush 19998, 3) := by decide +kernel
theorem dX5_leastHourWished_3 : decode cX5_leastHourWished 3 = .ok (.istore_n 2, 1) := by decide +kernel
theorem dX5_leastHourWished_4 : decode cX5_leastHourWished 4 = .ok (.iconst 0, 1) := by decide +kernel
theorem dX5_leastHourWished_5 : decode cX5_leastHourWished 5 = .ok (.istore_n 3, 1) := by decide +kernel
theorem dX5_leastHourWished_6 : decode cX5_leastHourWished 6 = .ok (.iload_n 3, 1) := by decide +kernel
theorem dX5_leastHourWished_7 : decode cX5_leastHourWished 7 = .ok (.aload_n 0, 1) := by decide +kernel
theorem dX5_leastHourWished_8 : decode cX5_leastHourWished 8 = .ok (.getfield 25, 3) := by decide +kernel
theorem dX5_leastHourWished_11 : decode cX5_leastHourWished 11 = .ok (.arraylength, 1) := by decide +kernel
theorem dX5_leastHourWished_12 : decode cX5_leastHourWished 12 = .ok (.if_icmp .ge 49, 3) := by decide +kernel
theorem dX5_leastHourWished_15 : decode cX5_leastHourWished 15 = .ok (.aload_n 0, 1) := by decide +kernel
theorem dX5_leastHourWished_16 : decode cX5_leastHourWished 16 = .ok (.getfield 25, 3) := by decide +kernel
theorem dX5_leastHourWished_19 : decode cX5_leastHourWished 19 = .ok (.iload_n 3, 1) := by decide +kernel
theorem dX5_leastHourWished_20 : decode cX5_leastHourWished 20 = .ok (.aaload, 1) := by decide +kernel
theorem dX5_leastHourWished_21 : decode cX5_leastHourWished 21 = .ok (.astore 4, 2) := by decide +kernel
theorem dX5_leastHourWished_23 : decode cX5_leastHourWished 23 = .ok (.aload 4, 2) := by decide +kernel
theorem dX5_leastHourWished_25 : decode cX5_leastHourWished 25 = .ok (.ifnull 30, 3) := by decide +kernel
theorem dX5_leastHourWished_28 : decode cX5_leastHourWished 28 = .ok (.aload 4, 2) := by decide +kernel
theorem dX5_leastHourWished_30 : decode cX5_leastHourWished 30 = .ok (.getfield 114, 3) := by decide +kernel
theorem dX5_leastHourWished_33 : decode cX5_leastHourWished 33 = .ok (.ifCond .ne 22, 3) := by decide +kernel
theorem dX5_leastHourWished_36 : decode cX5_leastHourWished 36 = .ok (.aload 4, 2) := by decide +kernel
theorem dX5_leastHourWished_38 : decode cX5_leastHourWished 38 = .ok (.getfield 264, 3) := by decide +kernel
theorem dX5_leastHourWished_41 : decode cX5_leastHourWished 41 = .ok (.iload_n 1, 1) := by decide +kernel
theorem dX5_leastHourWished_42 : decode cX5_leastHourWished 42 = .ok (.if_icmp .ne 13, 3) := by decide +kernel
theorem dX5_leastHourWished_45 : decode cX5_leastHourWished 45 = .ok (.iload_n 2, 1) := by decide +kernel
theorem dX5_leastHourWished_46 : decode cX5_leastHourWished 46 = .ok (.aload 4, 2) := by decide +kernel
theorem dX5_leastHourWished_48 : decode cX5_leastHourWished 48 = .ok (.getfield 169, 3) := by decide +kernel
theorem dX5_leastHourWished_51 : decode cX5_leastHourWished 51 = .ok (.invokestatic 227, 3) := by decide +kernel
theorem dX5_leastHourWished_54 : decode cX5_leastHourWished 54 = .ok (.istore_n 2, 1) := by decide +kernel
theorem dX5_leastHourWished_55 : decode cX5_leastHourWished 55 = .ok (.iinc 3 1, 3) := by decide +kernel
theorem dX5_leastHourWished_58 : decode cX5_leastHourWished 58 = .ok (.goto (-52), 3) := by decide +kernel
theorem dX5_leastHourWished_61 : decode cX5_leastHourWished 61 = .ok (.iload_n 2, 1) := by decide +kernel
theorem dX5_leastHourWished_62 : decode cX5_leastHourWished 62 = .ok (.ireturn, 1) := by decide +kernel
theorem dX5_beginGames_0 : decode cX5_beginGames 0 = .ok (.iconst 0, 1) := by decide +kernel
theorem dX5_beginGames_1 : decode cX5_beginGames 1 = .ok (.istore_n 1, 1) := by decide +kernel
theorem dX5_beginGames_2 : decode cX5_beginGames 2 = .ok (.iload_n 1, 1) := by decide +kernel
theorem dX5_beginGames_3 : decode cX5_beginGames 3 = .ok (.aload_n 0, 1) := by decide +kernel
theorem dX5_beginGames_4 : decode cX5_beginGames 4 = .ok (.getfield 25, 3) := by decide +kernel
theorem dX5_beginGames_7 : decode cX5_beginGames 7 = .ok (.arraylength, 1) := by decide +kernel
theorem dX5_beginGames_8 : decode cX5_beginGames 8 = .ok (.if_icmp .ge 97, 3) := by decide +kernel
theorem dX5_beginGames_11 : decode cX5_beginGames 11 = .ok (.aload_n 0, 1) := by decide +kernel
theorem dX5_beginGames_12 : decode cX5_beginGames 12 = .ok (.getfield 25, 3) := by decide +kernel
theorem dX5_beginGames_15 : decode cX5_beginGames 15 = .ok (.iload_n 1, 1) := by decide +kernel
theorem dX5_beginGames_16 : decode cX5_beginGames 16 = .ok (.aaload, 1) := by decide +kernel
theorem dX5_beginGames_17 : decode cX5_beginGames 17 = .ok (.astore_n 2, 1) := by decide +kernel
theorem dX5_beginGames_18 : decode cX5_beginGames 18 = .ok (.aload_n 2, 1) := by decide +kernel
theorem dX5_beginGames_19 : decode cX5_beginGames 19 = .ok (.ifnull 80, 3) := by decide +kernel
theorem dX5_beginGames_22 : decode cX5_beginGames 22 = .ok (.aload_n 2, 1) := by decide +kernel
theorem dX5_beginGames_23 : decode cX5_beginGames 23 = .ok (.getfield 114, 3) := by decide +kernel
theorem dX5_beginGames_26 : decode cX5_beginGames 26 = .ok (.ifCond .ne 73, 3) := by decide +kernel
theorem dX5_beginGames_29 : decode cX5_beginGames 29 = .ok (.aload_n 2, 1) := by decide +kernel
theorem dX5_beginGames_30 : decode cX5_beginGames 30 = .ok (.getfield 169, 3) := by decide +kernel
theorem dX5_beginGames_33 : decode cX5_beginGames 33 = .ok (.aload_n 0, 1) := by decide +kernel
theorem dX5_beginGames_34 : decode cX5_beginGames 34 = .ok (.getfield 54, 3) := by decide +kernel
theorem dX5_beginGames_37 : decode cX5_beginGames 37 = .ok (.if_icmp .le 6, 3) := by decide +kernel
theorem dX5_beginGames_40 : decode cX5_beginGames 40 = .ok (.goto 59, 3) := by decide +kernel
theorem dX5_beginGames_43 : decode cX5_beginGames 43 = .ok (.aload_n 0, 1) := by decide +kernel
theorem dX5_beginGames_44 : decode cX5_beginGames 44 = .ok (.aload_n 2, 1) := by decide +kernel
theorem dX5_beginGames_45 : decode cX5_beginGames 45 = .ok (.getfield 264, 3) := by decide +kernel
theorem dX5_beginGames_48 : decode cX5_beginGames 48 = .ok (.invokevirtual 267, 3) := by decide +kernel
theorem dX5_beginGames_51 : decode cX5_beginGames 51 = .ok (.istore_n 3, 1) := by decide +kernel
theorem dX5_beginGames_52 : decode cX5_beginGames 52 = .ok (.iload_n 3, 1) := by decide +kernel
theorem dX5_beginGames_53 : decode cX5_beginGames 53 = .ok (.iconst (-1), 1) := by decide +kernel
theorem dX5_beginGames_54 : decode cX5_beginGames 54 = .ok (.if_icmp .ne 16, 3) := by decide +kernel
theorem dX5_beginGames_57 : decode cX5_beginGames 57 = .ok (.aload_n 2, 1) := by decide +kernel
theorem dX5_beginGames_58 : decode cX5_beginGames 58 = .ok (.dup, 1) := by decide +kernel
theorem dX5_beginGames_59 : decode cX5_beginGames 59 = .ok (.getfield 169, 3) := by decide +kernel
theorem dX5_beginGames_62 : decode cX5_beginGames 62 = .ok (.iconst 1, 1) := by decide +kernel
theorem dX5_beginGames_63 : decode cX5_beginGames 63 = .ok (.iadd, 1) := by decide +kernel
theorem dX5_beginGames_64 : decode cX5_beginGames 64 = .ok (.putfield 169, 3) := by decide +kernel
theorem dX5_beginGames_67 : decode cX5_beginGames 67 = .ok (.goto 32, 3) := by decide +kernel
theorem dX5_beginGames_70 : decode cX5_beginGames 70 = .ok (.aload_n 0, 1) := by decide +kernel
theorem dX5_beginGames_71 : decode cX5_beginGames 71 = .ok (.iload_n 3, 1) := by decide +kernel
theorem dX5_beginGames_72 : decode cX5_beginGames 72 = .ok (.invokevirtual 98, 3) := by decide +kernel
theorem dX5_beginGames_75 : decode cX5_beginGames 75 = .ok (.astore 4, 2) := by decide +kernel
theorem dX5_beginGames_77 : decode cX5_beginGames 77 = .ok (.aload 4, 2) := by decide +kernel
theorem dX5_beginGames_79 : decode cX5_beginGames 79 = .ok (.iconst 0, 1) := by decide +kernel
theorem dX5_beginGames_80 : decode cX5_beginGames 80 = .ok (.putfield 144, 3) := by decide +kernel
theorem dX5_beginGames_83 : decode cX5_beginGames 83 = .ok (.aload 4, 2) := by decide +kernel
theorem dX5_beginGames_85 : decode cX5_beginGames 85 = .ok (.iload_n 1, 1) := by decide +kernel
theorem dX5_beginGames_86 : decode cX5_beginGames 86 = .ok (.putfield 148, 3) := by decide +kernel
theorem dX5_beginGames_89 : decode cX5_beginGames 89 = .ok (.aload_n 2, 1) := by decide +kernel
theorem dX5_beginGames_90 : decode cX5_beginGames 90 = .ok (.iload_n 3, 1) := by decide +kernel
theorem dX5_beginGames_91 : decode cX5_beginGames 91 = .ok (.putfield 95, 3) := by decide +kernel
theorem dX5_beginGames_94 : decode cX5_beginGames 94 = .ok (.aload_n 2, 1) := by decide +kernel
theorem dX5_beginGames_95 : decode cX5_beginGames 95 = .ok (.iconst 1, 1) := by decide +kernel
theorem dX5_beginGames_96 : decode cX5_beginGames 96 = .ok (.putfield 114, 3) := by decide +kernel
theorem dX5_beginGames_99 : decode cX5_beginGames 99 = .ok (.iinc 1 1, 3) := by decide +kernel
theorem dX5_beginGames_102 : decode cX5_beginGames 102 = .ok (.goto (-100), 3) := by decide +kernel
theorem dX5_beginGames_105 : decode cX5_beginGames 105 = .ok (.return_, 1) := by decide +kernel
theorem dX5_sheetToPlay_0 : decode cX5_sheetToPlay 0 = .ok (.aload_n 0, 1) := by decide +kernel
theorem dX5_sheetToPlay_1 : decode cX5_sheetToPlay 1 = .ok (.iload_n 1, 1) := by decide +kernel
theorem dX5_sheetToPlay_2 : decode cX5_sheetToPlay 2 = .ok (.invokevirtual 98, 3) := by decide +kernel
theorem dX5_sheetToPlay_5 : decode cX5_sheetToPlay 5 = .ok (.invokevirtual 270, 3) := by decide +kernel
theorem dX5_sheetToPlay_8 : decode cX5_sheetToPlay 8 = .ok (.ifCond .eq 5, 3) := by decide +kernel
theorem dX5_sheetToPlay_11 : decode cX5_sheetToPlay 11 = .ok (.iload_n 1, 1) := by decide +kernel
theorem dX5_sheetToPlay_12 : decode cX5_sheetToPlay 12 = .ok (.ireturn, 1) := by decide +kernel
theorem dX5_sheetToPlay_13 : decode cX5_sheetToPlay 13 = .ok (.iconst 0, 1) := by decide +kernel
theorem dX5_sheetToPlay_14 : decode cX5_sheetToPlay 14 = .ok (.istore_n 2, 1) := by decide +kernel
theorem dX5_sheetToPlay_15 : decode cX5_sheetToPlay 15 = .ok (.iload_n 2, 1) := by decide +kernel
theorem dX5_sheetToPlay_16 : decode cX5_sheetToPlay 16 = .ok (.iconst 3, 1) := by decide +kernel
theorem dX5_sheetToPlay_17 : decode cX5_sheetToPlay 17 = .ok (.if_icmp .ge 22, 3) := by decide +kernel
theorem dX5_sheetToPlay_20 : decode cX5_sheetToPlay 20 = .ok (.aload_n 0, 1) := by decide +kernel
theorem dX5_sheetToPlay_21 : decode cX5_sheetToPlay 21 = .ok (.iload_n 2, 1) := by decide +kernel
theorem dX5_sheetToPlay_22 : decode cX5_sheetToPlay 22 = .ok (.invokevirtual 98, 3) := by decide +kernel
theorem dX5_sheetToPlay_25 : decode cX5_sheetToPlay 25 = .ok (.invokevirtual 270, 3) := by decide +kernel
theorem dX5_sheetToPlay_28 : decode cX5_sheetToPlay 28 = .ok (.ifCond .eq 5, 3) := by decide +kernel
theorem dX5_sheetToPlay_31 : decode cX5_sheetToPlay 31 = .ok (.iload_n 2, 1) := by decide +kernel
theorem dX5_sheetToPlay_32 : decode cX5_sheetToPlay 32 = .ok (.ireturn, 1) := by decide +kernel
theorem dX5_sheetToPlay_33 : decode cX5_sheetToPlay 33 = .ok (.iinc 2 1, 3) := by decide +kernel
theorem dX5_sheetToPlay_36 : decode cX5_sheetToPlay 36 = .ok (.goto (-21), 3) := by decide +kernel
theorem dX5_sheetToPlay_39 : decode cX5_sheetToPlay 39 = .ok (.iconst (-1), 1) := by decide +kernel
theorem dX5_sheetToPlay_40 : decode cX5_sheetToPlay 40 = .ok (.ireturn, 1) := by decide +kernel
theorem dX5_worthOfShot_0 : decode cX5_worthOfShot 0 = .ok (.aload_n 0, 1) := by decide +kernel
theorem dX5_worthOfShot_1 : decode cX5_worthOfShot 1 = .ok (.aload_n 1, 1) := by decide +kernel
theorem dX5_worthOfShot_2 : decode cX5_worthOfShot 2 = .ok (.iload_n 2, 1) := by decide +kernel
theorem dX5_worthOfShot_3 : decode cX5_worthOfShot 3 = .ok (.iload_n 3, 1) := by decide +kernel
theorem dX5_worthOfShot_4 : decode cX5_worthOfShot 4 = .ok (.iload 4, 2) := by decide +kernel
theorem dX5_worthOfShot_6 : decode cX5_worthOfShot 6 = .ok (.invokevirtual 273, 3) := by decide +kernel
theorem dX5_worthOfShot_9 : decode cX5_worthOfShot 9 = .ok (.istore 5, 2) := by decide +kernel
theorem dX5_worthOfShot_11 : decode cX5_worthOfShot 11 = .ok (.iload 5, 2) := by decide +kernel
theorem dX5_worthOfShot_13 : decode cX5_worthOfShot 13 = .ok (.aload_n 0, 1) := by decide +kernel
theorem dX5_worthOfShot_14 : decode cX5_worthOfShot 14 = .ok (.aload_n 1, 1) := by decide +kernel
theorem dX5_worthOfShot_15 : decode cX5_worthOfShot 15 = .ok (.iload_n 2, 1) := by decide +kernel
theorem dX5_worthOfShot_16 : decode cX5_worthOfShot 16 = .ok (.iload_n 3, 1) := by decide +kernel
theorem dX5_worthOfShot_17 : decode cX5_worthOfShot 17 = .ok (.iconst 5, 1) := by decide +kernel
theorem dX5_worthOfShot_18 : decode cX5_worthOfShot 18 = .ok (.isub, 1) := by decide +kernel
theorem dX5_worthOfShot_19 : decode cX5_worthOfShot 19 = .ok (.iload 4, 2) := by decide +kernel
theorem dX5_worthOfShot_21 : decode cX5_worthOfShot 21 = .ok (.invokevirtual 273, 3) := by decide +kernel
theorem dX5_worthOfShot_24 : decode cX5_worthOfShot 24 = .ok (.invokestatic 227, 3) := by decide +kernel
theorem dX5_worthOfShot_27 : decode cX5_worthOfShot 27 = .ok (.istore 5, 2) := by decide +kernel
theorem dX5_worthOfShot_29 : decode cX5_worthOfShot 29 = .ok (.iload 5, 2) := by decide +kernel
theorem dX5_worthOfShot_31 : decode cX5_worthOfShot 31 = .ok (.aload_n 0, 1) := by decide +kernel
theorem dX5_worthOfShot_32 : decode cX5_worthOfShot 32 = .ok (.aload_n 1, 1) := by decide +kernel
theorem dX5_worthOfShot_33 : decode cX5_worthOfShot 33 = .ok (.iload_n 2, 1) := by decide +kernel
theorem dX5_worthOfShot_34 : decode cX5_worthOfShot 34 = .ok (.iload_n 3, 1) := by decide +kernel
theorem dX5_worthOfShot_35 : decode cX5_worthOfShot 35 = .ok (.iconst 5, 1) := by decide +kernel
theorem dX5_worthOfShot_36 : decode cX5_worthOfShot 36 = .ok (.iadd, 1) := by decide +kernel
theorem dX5_worthOfShot_37 : decode cX5_worthOfShot 37 = .ok (.iload 4, 2) := by decide +kernel
theorem dX5_worthOfShot_39 : decode cX5_worthOfShot 39 = .ok (.invokevirtual 273, 3) := by decide +kernel
theorem dX5_worthOfShot_42 : decode cX5_worthOfShot 42 = .ok (.invokestatic 227, 3) := by decide +kernel
theorem dX5_worthOfShot_45 : decode cX5_worthOfShot 45 = .ok (.ireturn, 1) := by decide +kernel
theorem dX5_worthOfTry_0 : decode cX5_worthOfTry 0 = .ok (.aload_n 0, 1) := by decide +kernel
theorem dX5_worthOfTry_1 : decode cX5_worthOfTry 1 = .ok (.getfield 32, 3) := by decide +kernel
theorem dX5_worthOfTry_4 : decode cX5_worthOfTry 4 = .ok (.iload_n 2, 1) := by decide +kernel
theorem dX5_worthOfTry_5 : decode cX5_worthOfTry 5 = .ok (.iload_n 3, 1) := by decide +kernel
theorem dX5_worthOfTry_6 : decode cX5_worthOfTry 6 = .ok (.iload 4, 2) := by decide +kernel
theorem dX5_worthOfTry_8 : decode cX5_worthOfTry 8 = .ok (.iconst 1, 1) := by decide +kernel
theorem dX5_worthOfTry_9 : decode cX5_worthOfTry 9 = .ok (.iconst 0, 1) := by decide +kernel
theorem dX5_worthOfTry_10 : decode cX5_worthOfTry 10 = .ok (.invokevirtual 91, 3) := by decide +kernel
theorem dX5_worthOfTry_13 : decode cX5_worthOfTry 13 = .ok (.aload_n 0, 1) := by decide +kernel
theorem dX5_worthOfTry_14 : decode cX5_worthOfTry 14 = .ok (.getfield 32, 3) := by decide +kernel
theorem dX5_worthOfTry_17 : decode cX5_worthOfTry 17 = .ok (.aload_n 0, 1) := by decide +kernel
theorem dX5_worthOfTry_18 : decode cX5_worthOfTry 18 = .ok (.aload_n 1, 1) := by decide +kernel
theorem dX5_worthOfTry_19 : decode cX5_worthOfTry 19 = .ok (.getfield 95, 3) := by decide +kernel
theorem dX5_worthOfTry_22 : decode cX5_worthOfTry 22 = .ok (.invokevirtual 98, 3) := by decide +kernel
theorem dX5_worthOfTry_25 : decode cX5_worthOfTry 25 = .ok (.aload_n 1, 1) := by decide +kernel
theorem dX5_worthOfTry_26 : decode cX5_worthOfTry 26 = .ok (.getfield 102, 3) := by decide +kernel
theorem dX5_worthOfTry_29 : decode cX5_worthOfTry 29 = .ok (.aload_n 1, 1) := by decide +kernel
theorem dX5_worthOfTry_30 : decode cX5_worthOfTry 30 = .ok (.invokevirtual 106, 3) := by decide +kernel
theorem dX5_worthOfTry_33 : decode cX5_worthOfTry 33 = .ok (.iconst 0, 1) := by decide +kernel
theorem dX5_worthOfTry_34 : decode cX5_worthOfTry 34 = .ok (.invokevirtual 110, 3) := by decide +kernel
theorem dX5_worthOfTry_37 : decode cX5_worthOfTry 37 = .ok (.pop, 1) := by decide +kernel
theorem dX5_worthOfTry_38 : decode cX5_worthOfTry 38 = .ok (.aload_n 0, 1) := by decide +kernel
theorem dX5_worthOfTry_39 : decode cX5_worthOfTry 39 = .ok (.getfield 32, 3) := by decide +kernel
theorem dX5_worthOfTry_42 : decode cX5_worthOfTry 42 = .ok (.getfield 125, 3) := by decide +kernel
theorem dX5_worthOfTry_45 : decode cX5_worthOfTry 45 = .ok (.invokevirtual 192, 3) := by decide +kernel
theorem dX5_worthOfTry_48 : decode cX5_worthOfTry 48 = .ok (.istore 5, 2) := by decide +kernel
theorem dX5_worthOfTry_50 : decode cX5_worthOfTry 50 = .ok (.aload_n 1, 1) := by decide +kernel
theorem dX5_worthOfTry_51 : decode cX5_worthOfTry 51 = .ok (.invokevirtual 181, 3) := by decide +kernel
theorem dX5_worthOfTry_54 : decode cX5_worthOfTry 54 = .ok (.ifCond .ne 8, 3) := by decide +kernel
theorem dX5_worthOfTry_57 : decode cX5_worthOfTry 57 = .ok (.iload 5, 2) := by decide +kernel
theorem dX5_worthOfTry_59 : decode cX5_worthOfTry 59 = .ok (.goto 6, 3) := by decide +kernel
theorem dX5_worthOfTry_62 : decode cX5_worthOfTry 62 = .ok (.iload 5, 2) := by decide +kernel
theorem dX5_worthOfTry_64 : decode cX5_worthOfTry 64 = .ok (.ineg, 1) := by decide +kernel
theorem dX5_worthOfTry_65 : decode cX5_worthOfTry 65 = .ok (.ireturn, 1) := by decide +kernel
theorem dX5_teamsAheadOf_0 : decode cX5_teamsAheadOf 0 = .ok (.iconst 0, 1) := by decide +kernel
theorem dX5_teamsAheadOf_1 : decode cX5_teamsAheadOf 1 = .ok (.istore_n 2, 1) := by decide +kernel
theorem dX5_teamsAheadOf_2 : decode cX5_teamsAheadOf 2 = .ok (.iconst 0, 1) := by decide +kernel
theorem dX5_teamsAheadOf_3 : decode cX5_teamsAheadOf 3 = .ok (.istore_n 3, 1) := by decide +kernel
theorem dX5_teamsAheadOf_4 : decode cX5_teamsAheadOf 4 = .ok (.iload_n 3, 1) := by decide +kernel
theorem dX5_teamsAheadOf_5 : decode cX5_teamsAheadOf 5 = .ok (.bipush 6, 2) := by decide +kernel
theorem dX5_teamsAheadOf_7 : decode cX5_teamsAheadOf 7 = .ok (.if_icmp .ge 26, 3) := by decide +kernel
theorem dX5_teamsAheadOf_10 : decode cX5_teamsAheadOf 10 = .ok (.iload_n 3, 1) := by decide +kernel
theorem dX5_teamsAheadOf_11 : decode cX5_teamsAheadOf 11 = .ok (.iload_n 1, 1) := by decide +kernel
theorem dX5_teamsAheadOf_12 : decode cX5_teamsAheadOf 12 = .ok (.if_icmp .eq 15, 3) := by decide +kernel
theorem dX5_teamsAheadOf_15 : decode cX5_teamsAheadOf 15 = .ok (.aload_n 0, 1) := by decide +kernel
theorem dX5_teamsAheadOf_16 : decode cX5_teamsAheadOf 16 = .ok (.iload_n 3, 1) := by decide +kernel
theorem dX5_teamsAheadOf_17 : decode cX5_teamsAheadOf 17 = .ok (.iload_n 1, 1) := by decide +kernel
theorem dX5_teamsAheadOf_18 : decode cX5_teamsAheadOf 18 = .ok (.invokevirtual 276, 3) := by decide +kernel
theorem dX5_teamsAheadOf_21 : decode cX5_teamsAheadOf 21 = .ok (.ifCond .eq 6, 3) := by decide +kernel
theorem dX5_teamsAheadOf_24 : decode cX5_teamsAheadOf 24 = .ok (.iinc 2 1, 3) := by decide +kernel
theorem dX5_teamsAheadOf_27 : decode cX5_teamsAheadOf 27 = .ok (.iinc 3 1, 3) := by decide +kernel
theorem dX5_teamsAheadOf_30 : decode cX5_teamsAheadOf 30 = .ok (.goto (-26), 3) := by decide +kernel
theorem dX5_teamsAheadOf_33 : decode cX5_teamsAheadOf 33 = .ok (.iload_n 2, 1) := by decide +kernel
theorem dX5_teamsAheadOf_34 : decode cX5_teamsAheadOf 34 = .ok (.ireturn, 1) := by decide +kernel
theorem dX5_isAhead_0 : decode cX5_isAhead 0 = .ok (.aload_n 0, 1) := by decide +kernel
theorem dX5_isAhead_1 : decode cX5_isAhead 1 = .ok (.iload_n 1, 1) := by decide +kernel
theorem dX5_isAhead_2 : decode cX5_isAhead 2 = .ok (.invokevirtual 209, 3) := by decide +kernel
theorem dX5_isAhead_5 : decode cX5_isAhead 5 = .ok (.astore_n 3, 1) := by decide +kernel
theorem dX5_isAhead_6 : decode cX5_isAhead 6 = .ok (.aload_n 0, 1) := by decide +kernel
theorem dX5_isAhead_7 : decode cX5_isAhead 7 = .ok (.iload_n 2, 1) := by decide +kernel
theorem dX5_isAhead_8 : decode cX5_isAhead 8 = .ok (.invokevirtual 209, 3) := by decide +kernel
theorem dX5_isAhead_11 : decode cX5_isAhead 11 = .ok (.astore 4, 2) := by decide +kernel
theorem dX5_isAhead_13 : decode cX5_isAhead 13 = .ok (.aload_n 3, 1) := by decide +kernel
theorem dX5_isAhead_14 : decode cX5_isAhead 14 = .ok (.getfield 213, 3) := by decide +kernel
theorem dX5_isAhead_17 : decode cX5_isAhead 17 = .ok (.aload 4, 2) := by decide +kernel
theorem dX5_isAhead_19 : decode cX5_isAhead 19 = .ok (.getfield 213, 3) := by decide +kernel
theorem dX5_isAhead_22 : decode cX5_isAhead 22 = .ok (.if_icmp .eq 21, 3) := by decide +kernel
theorem dX5_isAhead_25 : decode cX5_isAhead 25 = .ok (.aload_n 3, 1) := by decide +kernel
theorem dX5_isAhead_26 : decode cX5_isAhead 26 = .ok (.getfield 213, 3) := by decide +kernel
theorem dX5_isAhead_29 : decode cX5_isAhead 29 = .ok (.aload 4, 2) := by decide +kernel
theorem dX5_isAhead_31 : decode cX5_isAhead 31 = .ok (.getfield 213, 3) := by decide +kernel
theorem dX5_isAhead_34 : decode cX5_isAhead 34 = .ok (.if_icmp .le 7, 3) := by decide +kernel
theorem dX5_isAhead_37 : decode cX5_isAhead 37 = .ok (.iconst 1, 1) := by decide +kernel
theorem dX5_isAhead_38 : decode cX5_isAhead 38 = .ok (.goto 4, 3) := by decide +kernel
theorem dX5_isAhead_41 : decode cX5_isAhead 41 = .ok (.iconst 0, 1) := by decide +kernel
theorem dX5_isAhead_42 : decode cX5_isAhead 42 = .ok (.ireturn, 1) := by decide +kernel
theorem dX5_isAhead_43 : decode cX5_isAhead 43 = .ok (.aload_n 3, 1) := by decide +kernel
theorem dX5_isAhead_44 : decode cX5_isAhead 44 = .ok (.invokevirtual 279, 3) := by decide +kernel
theorem dX5_isAhead_47 : decode cX5_isAhead 47 = .ok (.aload 4, 2) := by decide +kernel
theorem dX5_isAhead_49 : decode cX5_isAhead 49 = .ok (.invokevirtual 279, 3) := by decide +kernel
theorem dX5_isAhead_52 : decode cX5_isAhead 52 = .ok (.if_icmp .eq 21, 3) := by decide +kernel
theorem dX5_isAhead_55 : decode cX5_isAhead 55 = .ok (.aload_n 3, 1) := by decide +kernel
theorem dX5_isAhead_56 : decode cX5_isAhead 56 = .ok (.invokevirtual 279, 3) := by decide +kernel
theorem dX5_isAhead_59 : decode cX5_isAhead 59 = .ok (.aload 4, 2) := by decide +kernel
theorem dX5_isAhead_61 : decode cX5_isAhead 61 = .ok (.invokevirtual 279, 3) := by decide +kernel
theorem dX5_isAhead_64 : decode cX5_isAhead 64 = .ok (.if_icmp .ge 7, 3) := by decide +kernel
theorem dX5_isAhead_67 : decode cX5_isAhead 67 = .ok (.iconst 1, 1) := by decide +kernel
theorem dX5_isAhead_68 : decode cX5_isAhead 68 = .ok (.goto 4, 3) := by decide +kernel
theorem dX5_isAhead_71 : decode cX5_isAhead 71 = .ok (.iconst 0, 1) := by decide +kernel
theorem dX5_isAhead_72 : decode cX5_isAhead 72 = .ok (.ireturn, 1) := by decide +kernel
theorem dX5_isAhead_73 : decode cX5_isAhead 73 = .ok (.iload_n 1, 1) := by decide +kernel
theorem dX5_isAhead_74 : decode cX5_isAhead 74 = .ok (.iload_n 2, 1) := by decide +kernel
theorem dX5_isAhead_75 : decode cX5_isAhead 75 = .ok (.if_icmp .ge 7, 3) := by decide +kernel
theorem dX5_isAhead_78 : decode cX5_isAhead 78 = .ok (.iconst 1, 1) := by decide +kernel
theorem dX5_isAhead_79 : decode cX5_isAhead 79 = .ok (.goto 4, 3) := by decide +kernel
theorem dX5_isAhead_82 : decode cX5_isAhead 82 = .ok (.iconst 0, 1) := by decide +kernel
theorem dX5_isAhead_83 : decode cX5_isAhead 83 = .ok (.ireturn, 1) := by decide +kernel
theorem dJ9_abs_0f7a4_0 : decode cJ9_abs_0f7a4 0 = .ok (.iload_n 0, 1) := by decide +kernel
theorem dJ9_abs_0f7a4_1 : decode cJ9_abs_0f7a4 1 = .ok (.ifCond .ge 8, 3) := by decide +kernel
theorem dJ9_abs_0f7a4_4 : decode cJ9_abs_0f7a4 4 = .ok (.iload_n 0, 1) := by decide +kernel
theorem dJ9_abs_0f7a4_5 : decode cJ9_abs_0f7a4 5 = .ok (.ineg, 1) := by decide +kernel
theorem dJ9_abs_0f7a4_6 : decode cJ9_abs_0f7a4 6 = .ok (.goto 4, 3) := by decide +kernel
theorem dJ9_abs_0f7a4_9 : decode cJ9_abs_0f7a4 9 = .ok (.iload_n 0, 1) := by decide +kernel
theorem dJ9_abs_0f7a4_10 : decode cJ9_abs_0f7a4 10 = .ok (.ireturn, 1) := by decide +kernel
theorem dJ9_min_7cf53_0 : decode cJ9_min_7cf53 0 = .ok (.iload_n 0, 1) := by decide +kernel
theorem dJ9_min_7cf53_1 : decode cJ9_min_7cf53 1 = .ok (.iload_n 1, 1) := by decide +kernel
theorem dJ9_min_7cf53_2 : decode cJ9_min_7cf53 2 = .ok (.if_icmp .gt 7, 3) := by decide +kernel
theorem dJ9_min_7cf53_5 : decode cJ9_min_7cf53 5 = .ok (.iload_n 0, 1) := by decide +kernel
theorem dJ9_min_7cf53_6 : decode cJ9_min_7cf53 6 = .ok (.goto 4, 3) := by decide +kernel
theorem dJ9_min_7cf53_9 : decode cJ9_min_7cf53 9 = .ok (.iload_n 1, 1) := by decide +kernel
theorem dJ9_min_7cf53_10 : decode cJ9_min_7cf53 10 = .ok (.ireturn, 1) := by decide +kernel
theorem dL_drawn_0 : decode cL_drawn 0 = .ok (.iload_n 1, 1) := by decide +kernel
theorem dL_drawn_1 : decode cL_drawn 1 = .ok (.aload_n 0, 1) := by decide +kernel
theorem dL_drawn_2 : decode cL_drawn 2 = .ok (.arraylength, 1) := by decide +kernel
theorem dL_drawn_3 : decode cL_drawn 3 = .ok (.if_icmp .ge 9, 3) := by decide +kernel
theorem dL_drawn_6 : decode cL_drawn 6 = .ok (.aload_n 0, 1) := by decide +kernel
theorem dL_drawn_7 : decode cL_drawn 7 = .ok (.iload_n 1, 1) := by decide +kernel
theorem dL_drawn_8 : decode cL_drawn 8 = .ok (.iaload, 1) := by decide +kernel
theorem dL_drawn_9 : decode cL_drawn 9 = .ok (.goto 12, 3) := by decide +kernel
theorem dL_drawn_12 : decode cL_drawn 12 = .ok (.sipush 14593, 3) := by decide +kernel
theorem dL_drawn_15 : decode cL_drawn 15 = .ok (.iload_n 1, 1) := by decide +kernel
theorem dL_drawn_16 : decode cL_drawn 16 = .ok (.imul, 1) := by decide +kernel
theorem dL_drawn_17 : decode cL_drawn 17 = .ok (.sipush 10937, 3) := by decide +kernel
theorem dL_drawn_20 : decode cL_drawn 20 = .ok (.iadd, 1) := by decide +kernel
theorem dL_drawn_21 : decode cL_drawn 21 = .ok (.istore_n 2, 1) := by decide +kernel
theorem dL_drawn_22 : decode cL_drawn 22 = .ok (.iload_n 2, 1) := by decide +kernel
theorem dL_drawn_23 : decode cL_drawn 23 = .ok (.ldc 7, 2) := by decide +kernel
theorem dL_drawn_25 : decode cL_drawn 25 = .ok (.iand, 1) := by decide +kernel
theorem dL_drawn_26 : decode cL_drawn 26 = .ok (.ireturn, 1) := by decide +kernel
theorem dL_does_0 : decode cL_does 0 = .ok (.iload_n 1, 1) := by decide +kernel
theorem dL_does_1 : decode cL_does 1 = .ok (.ifCond .ne 11, 3) := by decide +kernel
theorem dL_does_4 : decode cL_does 4 = .ok (.aload_n 0, 1) := by decide +kernel
theorem dL_does_5 : decode cL_does 5 = .ok (.iload_n 2, 1) := by decide +kernel
theorem dL_does_6 : decode cL_does 6 = .ok (.invokevirtual 8, 3) := by decide +kernel
theorem dL_does_9 : decode cL_does 9 = .ok (.goto 104, 3) := by decide +kernel
theorem dL_does_12 : decode cL_does 12 = .ok (.iload_n 1, 1) := by decide +kernel
theorem dL_does_13 : decode cL_does 13 = .ok (.iconst 1, 1) := by decide +kernel
theorem dL_does_14 : decode cL_does 14 = .ok (.if_icmp .ne 11, 3) := by decide +kernel
theorem dL_does_17 : decode cL_does 17 = .ok (.aload_n 0, 1) := by decide +kernel
theorem dL_does_18 : decode cL_does 18 = .ok (.iload_n 2, 1) := by decide +kernel
theorem dL_does_19 : decode cL_does 19 = .ok (.invokevirtual 14, 3) := by decide +kernel
theorem dL_does_22 : decode cL_does 22 = .ok (.goto 91, 3) := by decide +kernel
theorem dL_does_25 : decode cL_does 25 = .ok (.iload_n 1, 1) := by decide +kernel
theorem dL_does_26 : decode cL_does 26 = .ok (.iconst 2, 1) := by decide +kernel
theorem dL_does_27 : decode cL_does 27 = .ok (.if_icmp .ne 12, 3) := by decide +kernel
theorem dL_does_30 : decode cL_does 30 = .ok (.aload_n 0, 1) := by decide +kernel
theorem dL_does_31 : decode cL_does 31 = .ok (.iload_n 2, 1) := by decide +kernel
theorem dL_does_32 : decode cL_does 32 = .ok (.iload_n 3, 1) := by decide +kernel
theorem dL_does_33 : decode cL_does 33 = .ok (.invokevirtual 17, 3) := by decide +kernel
theorem dL_does_36 : decode cL_does 36 = .ok (.goto 77, 3) := by decide +kernel
theorem dL_does_39 : decode cL_does 39 = .ok (.iload_n 1, 1) := by decide +kernel
theorem dL_does_40 : decode cL_does 40 = .ok (.iconst 3, 1) := by decide +kernel
theorem dL_does_41 : decode cL_does 41 = .ok (.if_icmp .ne 12, 3) := by decide +kernel
theorem dL_does_44 : decode cL_does 44 = .ok (.aload_n 0, 1) := by decide +kernel
theorem dL_does_45 : decode cL_does 45 = .ok (.iload_n 2, 1) := by decide +kernel
theorem dL_does_46 : decode cL_does 46 = .ok (.iload_n 3, 1) := by decide +kernel
theorem dL_does_47 : decode cL_does 47 = .ok (.invokevirtual 21, 3) := by decide +kernel
theorem dL_does_50 : decode cL_does 50 = .ok (.goto 63, 3) := by decide +kernel
theorem dL_does_53 : decode cL_does 53 = .ok (.iload_n 1, 1) := by decide +kernel
theorem dL_does_54 : decode cL_does 54 = .ok (.iconst 4, 1) := by decide +kernel
theorem dL_does_55 : decode cL_does 55 = .ok (.if_icmp .ne 11, 3) := by decide +kernel
theorem dL_does_58 : decode cL_does 58 = .ok (.aload_n 0, 1) := by decide +kernel
theorem dL_does_59 : decode cL_does 59 = .ok (.iload_n 2, 1) := by decide +kernel
theorem dL_does_60 : decode cL_does 60 = .ok (.invokevirtual 24, 3) := by decide +kernel
theorem dL_does_63 : decode cL_does 63 = .ok (.goto 50, 3) := by decide +kernel
theorem dL_does_66 : decode cL_does 66 = .ok (.iload_n 1, 1) := by decide +kernel
theorem dL_does_67 : decode cL_does 67 = .ok (.iconst 5, 1) := by decide +kernel
theorem dL_does_68 : decode cL_does 68 = .ok (.if_icmp .ne 11, 3) := by decide +kernel
theorem dL_does_71 : decode cL_does 71 = .ok (.aload_n 0, 1) := by decide +kernel
theorem dL_does_72 : decode cL_does 72 = .ok (.iload_n 2, 1) := by decide +kernel
theorem dL_does_73 : decode cL_does 73 = .ok (.invokevirtual 27, 3) := by decide +kernel
theorem dL_does_76 : decode cL_does 76 = .ok (.goto 37, 3) := by decide +kernel
theorem dL_does_79 : decode cL_does 79 = .ok (.iload_n 1, 1) := by decide +kernel
theorem dL_does_80 : decode cL_does 80 = .ok (.bipush 6, 2) := by decide +kernel
theorem dL_does_82 : decode cL_does 82 = .ok (.if_icmp .ne 11, 3) := by decide +kernel
theorem dL_does_85 : decode cL_does 85 = .ok (.aload_n 0, 1) := by decide +kernel
theorem dL_does_86 : decode cL_does 86 = .ok (.iload_n 2, 1) := by decide +kernel
theorem dL_does_87 : decode cL_does 87 = .ok (.invokevirtual 30, 3) := by decide +kernel
theorem dL_does_90 : decode cL_does 90 = .ok (.goto 23, 3) := by decide +kernel
theorem dL_does_93 : decode cL_does 93 = .ok (.iload_n 1, 1) := by decide +kernel
theorem dL_does_94 : decode cL_does 94 = .ok (.bipush 7, 2) := by decide +kernel
theorem dL_does_96 : decode cL_does 96 = .ok (.if_icmp .ne 11, 3) := by decide +kernel
theorem dL_does_99 : decode cL_does 99 = .ok (.aload_n 0, 1) := by decide +kernel
theorem dL_does_100 : decode cL_does 100 = .ok (.iload_n 2, 1) := by decide +kernel
theorem dL_does_101 : decode cL_does 101 = .ok (.invokevirtual 33, 3) := by decide +kernel
theorem dL_does_104 : decode cL_does 104 = .ok (.goto 9, 3) := by decide +kernel
theorem dL_does_107 : decode cL_does 107 = .ok (.aload_n 0, 1) := by decide +kernel
theorem dL_does_108 : decode cL_does 108 = .ok (.iload_n 2, 1) := by decide +kernel
theorem dL_does_109 : decode cL_does 109 = .ok (.iload_n 3, 1) := by decide +kernel
theorem dL_does_110 : decode cL_does 110 = .ok (.invokevirtual 36, 3) := by decide +kernel
theorem dL_does_113 : decode cL_does 113 = .ok (.ireturn, 1) := by decide +kernel
theorem dL_does_114 : decode cL_does 114 = .ok (.astore 4, 2) := by decide +kernel
theorem dL_does_116 : decode cL_does 116 = .ok (.sipush (-700), 3) := by decide +kernel
theorem dL_does_119 : decode cL_does 119 = .ok (.ireturn, 1) := by decide +kernel
theorem dL_does_120 : decode cL_does 120 = .ok (.astore 4, 2) := by decide +kernel
theorem dL_does_122 : decode cL_does 122 = .ok (.sipush (-700), 3) := by decide +kernel
theorem dL_does_125 : decode cL_does 125 = .ok (.ireturn, 1) := by decide +kernel
theorem dL_does_126 : decode cL_does 126 = .ok (.astore 4, 2) := by decide +kernel
theorem dL_does_128 : decode cL_does 128 = .ok (.sipush (-700), 3) := by decide +kernel
theorem dL_does_131 : decode cL_does 131 = .ok (.ireturn, 1) := by decide +kernel
theorem dL_plans_0 : decode cL_plans 0 = .ok (.aload_n 0, 1) := by decide +kernel
theorem dL_plans_1 : decode cL_plans 1 = .ok (.iload_n 1, 1) := by decide +kernel
theorem dL_plans_2 : decode cL_plans 2 = .ok (.iload_n 2, 1) := by decide +kernel
theorem dL_plans_3 : decode cL_plans 3 = .ok (.iload_n 3, 1) := by decide +kernel
theorem dL_plans_4 : decode cL_plans 4 = .ok (.iload 4, 2) := by decide +kernel
theorem dL_plans_6 : decode cL_plans 6 = .ok (.invokevirtual 45, 3) := by decide +kernel
theorem dL_plans_9 : decode cL_plans 9 = .ok (.ireturn, 1) := by decide +kernel
theorem dL_plans_10 : decode cL_plans 10 = .ok (.astore 5, 2) := by decide +kernel
theorem dL_plans_12 : decode cL_plans 12 = .ok (.sipush (-700), 3) := by decide +kernel
theorem dL_plans_15 : decode cL_plans 15 = .ok (.ireturn, 1) := by decide +kernel
theorem dL_plans_16 : decode cL_plans 16 = .ok (.astore 5, 2) := by decide +kernel
theorem dL_plans_18 : decode cL_plans 18 = .ok (.sipush (-700), 3) := by decide +kernel
theorem dL_plans_21 : decode cL_plans 21 = .ok (.ireturn, 1) := by decide +kernel
theorem dL_plans_22 : decode cL_plans 22 = .ok (.astore 5, 2) := by decide +kernel
theorem dL_plans_24 : decode cL_plans 24 = .ok (.sipush (-700), 3) := by decide +kernel
theorem dL_plans_27 : decode cL_plans 27 = .ok (.ireturn, 1) := by decide +kernel
theorem dL_shoots_0 : decode cL_shoots 0 = .ok (.aload_n 0, 1) := by decide +kernel
theorem dL_shoots_1 : decode cL_shoots 1 = .ok (.iload_n 1, 1) := by decide +kernel
theorem dL_shoots_2 : decode cL_shoots 2 = .ok (.iload_n 2, 1) := by decide +kernel
theorem dL_shoots_3 : decode cL_shoots 3 = .ok (.iload_n 3, 1) := by decide +kernel
theorem dL_shoots_4 : decode cL_shoots 4 = .ok (.iload 4, 2) := by decide +kernel
theorem dL_shoots_6 : decode cL_shoots 6 = .ok (.iload 5, 2) := by decide +kernel
theorem dL_shoots_8 : decode cL_shoots 8 = .ok (.iload 6, 2) := by decide +kernel
theorem dL_shoots_10 : decode cL_shoots 10 = .ok (.invokevirtual 49, 3) := by decide +kernel
theorem dL_shoots_13 : decode cL_shoots 13 = .ok (.ireturn, 1) := by decide +kernel
theorem dL_shoots_14 : decode cL_shoots 14 = .ok (.astore 7, 2) := by decide +kernel
theorem dL_shoots_16 : decode cL_shoots 16 = .ok (.sipush (-700), 3) := by decide +kernel
theorem dL_shoots_19 : decode cL_shoots 19 = .ok (.ireturn, 1) := by decide +kernel
theorem dL_shoots_20 : decode cL_shoots 20 = .ok (.astore 7, 2) := by decide +kernel
theorem dL_shoots_22 : decode cL_shoots 22 = .ok (.sipush (-700), 3) := by decide +kernel
theorem dL_shoots_25 : decode cL_shoots 25 = .ok (.ireturn, 1) := by decide +kernel
theorem dL_shoots_26 : decode cL_shoots 26 = .ok (.astore 7, 2) := by decide +kernel
theorem dL_shoots_28 : decode cL_shoots 28 = .ok (.sipush (-700), 3) := by decide +kernel
theorem dL_shoots_31 : decode cL_shoots 31 = .ok (.ireturn, 1) := by decide +kernel
theorem dL_tries_0 : decode cL_tries 0 = .ok (.aload_n 0, 1) := by decide +kernel
theorem dL_tries_1 : decode cL_tries 1 = .ok (.iload_n 1, 1) := by decide +kernel
theorem dL_tries_2 : decode cL_tries 2 = .ok (.iload_n 2, 1) := by decide +kernel
theorem dL_tries_3 : decode cL_tries 3 = .ok (.iload_n 3, 1) := by decide +kernel
theorem dL_tries_4 : decode cL_tries 4 = .ok (.iload 4, 2) := by decide +kernel
theorem dL_tries_6 : decode cL_tries 6 = .ok (.iload 5, 2) := by decide +kernel
theorem dL_tries_8 : decode cL_tries 8 = .ok (.iload 6, 2) := by decide +kernel
theorem dL_tries_10 : decode cL_tries 10 = .ok (.invokevirtual 53, 3) := by decide +kernel
theorem dL_tries_13 : decode cL_tries 13 = .ok (.ireturn, 1) := by decide +kernel
theorem dL_tries_14 : decode cL_tries 14 = .ok (.astore 7, 2) := by decide +kernel
theorem dL_tries_16 : decode cL_tries 16 = .ok (.sipush (-700), 3) := by decide +kernel
theorem dL_tries_19 : decode cL_tries 19 = .ok (.ireturn, 1) := by decide +kernel
theorem dL_tries_20 : decode cL_tries 20 = .ok (.astore 7, 2) := by decide +kernel
theorem dL_tries_22 : decode cL_tries 22 = .ok (.sipush (-700), 3) := by decide +kernel
theorem dL_tries_25 : decode cL_tries 25 = .ok (.ireturn, 1) := by decide +kernel
theorem dL_tries_26 : decode cL_tries 26 = .ok (.astore 7, 2) := by decide +kernel
theorem dL_tries_28 : decode cL_tries 28 = .ok (.sipush (-700), 3) := by decide +kernel
theorem dL_tries_31 : decode cL_tries 31 = .ok (.ireturn, 1) := by decide +kernel
theorem dL_wear_0 : decode cL_wear 0 = .ok (.aload_n 0, 1) := by decide +kernel
theorem dL_wear_1 : decode cL_wear 1 = .ok (.iload_n 1, 1) := by decide +kernel
theorem dL_wear_2 : decode cL_wear 2 = .ok (.iload_n 2, 1) := by decide +kernel
theorem dL_wear_3 : decode cL_wear 3 = .ok (.iload_n 3, 1) := by decide +kernel
theorem dL_wear_4 : decode cL_wear 4 = .ok (.invokevirtual 56, 3) := by decide +kernel
theorem dL_wear_7 : decode cL_wear 7 = .ok (.ireturn, 1) := by decide +kernel
theorem dL_wear_8 : decode cL_wear 8 = .ok (.astore 4, 2) := by decide +kernel
theorem dL_wear_10 : decode cL_wear 10 = .ok (.sipush (-700), 3) := by decide +kernel
theorem dL_wear_13 : decode cL_wear 13 = .ok (.ireturn, 1) := by decide +kernel
theorem dL_stone_0 : decode cL_stone 0 = .ok (.aload_n 0, 1) := by decide +kernel
theorem dL_stone_1 : decode cL_stone 1 = .ok (.iload_n 1, 1) := by decide +kernel
theorem dL_stone_2 : decode cL_stone 2 = .ok (.iload_n 2, 1) := by decide +kernel
theorem dL_stone_3 : decode cL_stone 3 = .ok (.iload_n 3, 1) := by decide +kernel
theorem dL_stone_4 : decode cL_stone 4 = .ok (.invokevirtual 60, 3) := by decide +kernel
theorem dL_stone_7 : decode cL_stone 7 = .ok (.ireturn, 1) := by decide +kernel
theorem dL_stone_8 : decode cL_stone 8 = .ok (.astore 4, 2) := by decide +kernel
theorem dL_stone_10 : decode cL_stone 10 = .ok (.sipush (-700), 3) := by decide +kernel
theorem dL_stone_13 : decode cL_stone 13 = .ok (.ireturn, 1) := by decide +kernel
theorem dL_mirrored_0 : decode cL_mirrored 0 = .ok (.iload_n 0, 1) := by decide +kernel
theorem dL_mirrored_1 : decode cL_mirrored 1 = .ok (.ifCond .ge 7, 3) := by decide +kernel
theorem dL_mirrored_4 : decode cL_mirrored 4 = .ok (.iload_n 0, 1) := by decide +kernel
theorem dL_mirrored_5 : decode cL_mirrored 5 = .ok (.goto 19, 3) := by decide +kernel
theorem dL_mirrored_8 : decode cL_mirrored 8 = .ok (.sipush 800, 3) := by decide +kernel
theorem dL_mirrored_11 : decode cL_mirrored 11 = .ok (.iload_n 0, 1) := by decide +kernel
theorem dL_mirrored_12 : decode cL_mirrored 12 = .ok (.bipush 100, 2) := by decide +kernel
theorem dL_mirrored_14 : decode cL_mirrored 14 = .ok (.idiv, 1) := by decide +kernel
theorem dL_mirrored_15 : decode cL_mirrored 15 = .ok (.bipush 100, 2) := by decide +kernel
theorem dL_mirrored_17 : decode cL_mirrored 17 = .ok (.imul, 1) := by decide +kernel
theorem dL_mirrored_18 : decode cL_mirrored 18 = .ok (.isub, 1) := by decide +kernel
theorem dL_mirrored_19 : decode cL_mirrored 19 = .ok (.iload_n 0, 1) := by decide +kernel
theorem dL_mirrored_20 : decode cL_mirrored 20 = .ok (.bipush 100, 2) := by decide +kernel
theorem dL_mirrored_22 : decode cL_mirrored 22 = .ok (.irem, 1) := by decide +kernel
theorem dL_mirrored_23 : decode cL_mirrored 23 = .ok (.iadd, 1) := by decide +kernel
theorem dL_mirrored_24 : decode cL_mirrored 24 = .ok (.ireturn, 1) := by decide +kernel
theorem dL_areAlike_0 : decode cL_areAlike 0 = .ok (.aload_n 0, 1) := by decide +kernel
theorem dL_areAlike_1 : decode cL_areAlike 1 = .ok (.invokevirtual 63, 3) := by decide +kernel
theorem dL_areAlike_4 : decode cL_areAlike 4 = .ok (.aload_n 1, 1) := by decide +kernel
theorem dL_areAlike_5 : decode cL_areAlike 5 = .ok (.invokevirtual 63, 3) := by decide +kernel
theorem dL_areAlike_8 : decode cL_areAlike 8 = .ok (.if_icmp .ne 7, 3) := by decide +kernel
theorem dL_areAlike_11 : decode cL_areAlike 11 = .ok (.iconst 1, 1) := by decide +kernel
theorem dL_areAlike_12 : decode cL_areAlike 12 = .ok (.goto 4, 3) := by decide +kernel
theorem dL_areAlike_15 : decode cL_areAlike 15 = .ok (.iconst 0, 1) := by decide +kernel
theorem dL_areAlike_16 : decode cL_areAlike 16 = .ok (.istore 4, 2) := by decide +kernel
theorem dL_areAlike_18 : decode cL_areAlike 18 = .ok (.iconst 0, 1) := by decide +kernel
theorem dL_areAlike_19 : decode cL_areAlike 19 = .ok (.istore 5, 2) := by decide +kernel
theorem dL_areAlike_21 : decode cL_areAlike 21 = .ok (.iload 5, 2) := by decide +kernel
theorem dL_areAlike_23 : decode cL_areAlike 23 = .ok (.iload_n 2, 1) := by decide +kernel
theorem dL_areAlike_24 : decode cL_areAlike 24 = .ok (.if_icmp .ge 175, 3) := by decide +kernel
theorem dL_areAlike_27 : decode cL_areAlike 27 = .ok (.iload 4, 2) := by decide +kernel
theorem dL_areAlike_29 : decode cL_areAlike 29 = .ok (.ifCond .eq 170, 3) := by decide +kernel
theorem dL_areAlike_32 : decode cL_areAlike 32 = .ok (.iconst 0, 1) := by decide +kernel
theorem dL_areAlike_33 : decode cL_areAlike 33 = .ok (.istore 6, 2) := by decide +kernel
theorem dL_areAlike_35 : decode cL_areAlike 35 = .ok (.iload 6, 2) := by decide +kernel
theorem dL_areAlike_37 : decode cL_areAlike 37 = .ok (.bipush 8, 2) := by decide +kernel
theorem dL_areAlike_39 : decode cL_areAlike 39 = .ok (.if_icmp .ge 42, 3) := by decide +kernel
theorem dL_areAlike_42 : decode cL_areAlike 42 = .ok (.iload 4, 2) := by decide +kernel
theorem dL_areAlike_44 : decode cL_areAlike 44 = .ok (.ifCond .eq 37, 3) := by decide +kernel
theorem dL_areAlike_47 : decode cL_areAlike 47 = .ok (.aload_n 0, 1) := by decide +kernel
theorem dL_areAlike_48 : decode cL_areAlike 48 = .ok (.iconst 3, 1) := by decide +kernel
theorem dL_areAlike_49 : decode cL_areAlike 49 = .ok (.iload 5, 2) := by decide +kernel
theorem dL_areAlike_51 : decode cL_areAlike 51 = .ok (.iload 6, 2) := by decide +kernel
theorem dL_areAlike_53 : decode cL_areAlike 53 = .ok (.invokestatic 67, 3) := by decide +kernel
theorem dL_areAlike_56 : decode cL_areAlike 56 = .ok (.aload_n 1, 1) := by decide +kernel
theorem dL_areAlike_57 : decode cL_areAlike 57 = .ok (.iconst 3, 1) := by decide +kernel
theorem dL_areAlike_58 : decode cL_areAlike 58 = .ok (.iload 5, 2) := by decide +kernel
theorem dL_areAlike_60 : decode cL_areAlike 60 = .ok (.iload 6, 2) := by decide +kernel
theorem dL_areAlike_62 : decode cL_areAlike 62 = .ok (.invokestatic 67, 3) := by decide +kernel
theorem dL_areAlike_65 : decode cL_areAlike 65 = .ok (.if_icmp .ne 7, 3) := by decide +kernel
theorem dL_areAlike_68 : decode cL_areAlike 68 = .ok (.iconst 1, 1) := by decide +kernel
theorem dL_areAlike_69 : decode cL_areAlike 69 = .ok (.goto 4, 3) := by decide +kernel
theorem dL_areAlike_72 : decode cL_areAlike 72 = .ok (.iconst 0, 1) := by decide +kernel
theorem dL_areAlike_73 : decode cL_areAlike 73 = .ok (.istore 4, 2) := by decide +kernel
theorem dL_areAlike_75 : decode cL_areAlike 75 = .ok (.iinc 6 1, 3) := by decide +kernel
theorem dL_areAlike_78 : decode cL_areAlike 78 = .ok (.goto (-43), 3) := by decide +kernel
theorem dL_areAlike_81 : decode cL_areAlike 81 = .ok (.iconst 0, 1) := by decide +kernel
theorem dL_areAlike_82 : decode cL_areAlike 82 = .ok (.istore 6, 2) := by decide +kernel
theorem dL_areAlike_84 : decode cL_areAlike 84 = .ok (.iload 6, 2) := by decide +kernel
theorem dL_areAlike_86 : decode cL_areAlike 86 = .ok (.bipush 6, 2) := by decide +kernel
theorem dL_areAlike_88 : decode cL_areAlike 88 = .ok (.if_icmp .ge 55, 3) := by decide +kernel
theorem dL_areAlike_91 : decode cL_areAlike 91 = .ok (.iload 4, 2) := by decide +kernel
theorem dL_areAlike_93 : decode cL_areAlike 93 = .ok (.ifCond .eq 50, 3) := by decide +kernel
theorem dL_areAlike_96 : decode cL_areAlike 96 = .ok (.aload_n 0, 1) := by decide +kernel
theorem dL_areAlike_97 : decode cL_areAlike 97 = .ok (.iload 5, 2) := by decide +kernel
theorem dL_areAlike_99 : decode cL_areAlike 99 = .ok (.iload 6, 2) := by decide +kernel
theorem dL_areAlike_101 : decode cL_areAlike 101 = .ok (.iconst 3, 1) := by decide +kernel
theorem dL_areAlike_102 : decode cL_areAlike 102 = .ok (.idiv, 1) := by decide +kernel
theorem dL_areAlike_103 : decode cL_areAlike 103 = .ok (.iload 6, 2) := by decide +kernel
theorem dL_areAlike_105 : decode cL_areAlike 105 = .ok (.iconst 3, 1) := by decide +kernel
theorem dL_areAlike_106 : decode cL_areAlike 106 = .ok (.irem, 1) := by decide +kernel
theorem dL_areAlike_107 : decode cL_areAlike 107 = .ok (.invokestatic 73, 3) := by decide +kernel
theorem dL_areAlike_110 : decode cL_areAlike 110 = .ok (.invokestatic 75, 3) := by decide +kernel
theorem dL_areAlike_113 : decode cL_areAlike 113 = .ok (.aload_n 1, 1) := by decide +kernel
theorem dL_areAlike_114 : decode cL_areAlike 114 = .ok (.iload 5, 2) := by decide +kernel
theorem dL_areAlike_116 : decode cL_areAlike 116 = .ok (.iload 6, 2) := by decide +kernel
theorem dL_areAlike_118 : decode cL_areAlike 118 = .ok (.iconst 3, 1) := by decide +kernel
theorem dL_areAlike_119 : decode cL_areAlike 119 = .ok (.idiv, 1) := by decide +kernel
theorem dL_areAlike_120 : decode cL_areAlike 120 = .ok (.iload 6, 2) := by decide +kernel
theorem dL_areAlike_122 : decode cL_areAlike 122 = .ok (.iconst 3, 1) := by decide +kernel
theorem dL_areAlike_123 : decode cL_areAlike 123 = .ok (.irem, 1) := by decide +kernel
theorem dL_areAlike_124 : decode cL_areAlike 124 = .ok (.invokestatic 73, 3) := by decide +kernel
theorem dL_areAlike_127 : decode cL_areAlike 127 = .ok (.if_icmp .ne 7, 3) := by decide +kernel
theorem dL_areAlike_130 : decode cL_areAlike 130 = .ok (.iconst 1, 1) := by decide +kernel
theorem dL_areAlike_131 : decode cL_areAlike 131 = .ok (.goto 4, 3) := by decide +kernel
theorem dL_areAlike_134 : decode cL_areAlike 134 = .ok (.iconst 0, 1) := by decide +kernel
theorem dL_areAlike_135 : decode cL_areAlike 135 = .ok (.istore 4, 2) := by decide +kernel
theorem dL_areAlike_137 : decode cL_areAlike 137 = .ok (.iinc 6 1, 3) := by decide +kernel
theorem dL_areAlike_140 : decode cL_areAlike 140 = .ok (.goto (-56), 3) := by decide +kernel
theorem dL_areAlike_143 : decode cL_areAlike 143 = .ok (.iload 4, 2) := by decide +kernel
theorem dL_areAlike_145 : decode cL_areAlike 145 = .ok (.ifCond .eq 45, 3) := by decide +kernel
theorem dL_areAlike_148 : decode cL_areAlike 148 = .ok (.aload_n 0, 1) := by decide +kernel
theorem dL_areAlike_149 : decode cL_areAlike 149 = .ok (.iconst 4, 1) := by decide +kernel
theorem dL_areAlike_150 : decode cL_areAlike 150 = .ok (.iload 5, 2) := by decide +kernel
theorem dL_areAlike_152 : decode cL_areAlike 152 = .ok (.iconst 0, 1) := by decide +kernel
theorem dL_areAlike_153 : decode cL_areAlike 153 = .ok (.invokestatic 67, 3) := by decide +kernel
theorem dL_areAlike_156 : decode cL_areAlike 156 = .ok (.aload_n 1, 1) := by decide +kernel
theorem dL_areAlike_157 : decode cL_areAlike 157 = .ok (.iconst 4, 1) := by decide +kernel
theorem dL_areAlike_158 : decode cL_areAlike 158 = .ok (.iload 5, 2) := by decide +kernel
theorem dL_areAlike_160 : decode cL_areAlike 160 = .ok (.iconst 0, 1) := by decide +kernel
theorem dL_areAlike_161 : decode cL_areAlike 161 = .ok (.invokestatic 67, 3) := by decide +kernel
theorem dL_areAlike_164 : decode cL_areAlike 164 = .ok (.if_icmp .ne 26, 3) := by decide +kernel
theorem dL_areAlike_167 : decode cL_areAlike 167 = .ok (.aload_n 0, 1) := by decide +kernel
theorem dL_areAlike_168 : decode cL_areAlike 168 = .ok (.iconst 5, 1) := by decide +kernel
theorem dL_areAlike_169 : decode cL_areAlike 169 = .ok (.iload 5, 2) := by decide +kernel
theorem dL_areAlike_171 : decode cL_areAlike 171 = .ok (.iconst 0, 1) := by decide +kernel
theorem dL_areAlike_172 : decode cL_areAlike 172 = .ok (.invokestatic 67, 3) := by decide +kernel
theorem dL_areAlike_175 : decode cL_areAlike 175 = .ok (.aload_n 1, 1) := by decide +kernel
theorem dL_areAlike_176 : decode cL_areAlike 176 = .ok (.iconst 5, 1) := by decide +kernel
theorem dL_areAlike_177 : decode cL_areAlike 177 = .ok (.iload 5, 2) := by decide +kernel
theorem dL_areAlike_179 : decode cL_areAlike 179 = .ok (.iconst 0, 1) := by decide +kernel
theorem dL_areAlike_180 : decode cL_areAlike 180 = .ok (.invokestatic 67, 3) := by decide +kernel
theorem dL_areAlike_183 : decode cL_areAlike 183 = .ok (.if_icmp .ne 7, 3) := by decide +kernel
theorem dL_areAlike_186 : decode cL_areAlike 186 = .ok (.iconst 1, 1) := by decide +kernel
theorem dL_areAlike_187 : decode cL_areAlike 187 = .ok (.goto 4, 3) := by decide +kernel
theorem dL_areAlike_190 : decode cL_areAlike 190 = .ok (.iconst 0, 1) := by decide +kernel
theorem dL_areAlike_191 : decode cL_areAlike 191 = .ok (.istore 4, 2) := by decide +kernel
theorem dL_areAlike_193 : decode cL_areAlike 193 = .ok (.iinc 5 1, 3) := by decide +kernel
theorem dL_areAlike_196 : decode cL_areAlike 196 = .ok (.goto (-175), 3) := by decide +kernel
theorem dL_areAlike_199 : decode cL_areAlike 199 = .ok (.iconst 0, 1) := by decide +kernel
theorem dL_areAlike_200 : decode cL_areAlike 200 = .ok (.istore 5, 2) := by decide +kernel
theorem dL_areAlike_202 : decode cL_areAlike 202 = .ok (.iload 5, 2) := by decide +kernel
theorem dL_areAlike_204 : decode cL_areAlike 204 = .ok (.bipush 12, 2) := by decide +kernel
theorem dL_areAlike_206 : decode cL_areAlike 206 = .ok (.if_icmp .ge 100, 3) := by decide +kernel
theorem dL_areAlike_209 : decode cL_areAlike 209 = .ok (.iload 4, 2) := by decide +kernel
theorem dL_areAlike_211 : decode cL_areAlike 211 = .ok (.ifCond .eq 95, 3) := by decide +kernel
theorem dL_areAlike_214 : decode cL_areAlike 214 = .ok (.aload_n 0, 1) := by decide +kernel
theorem dL_areAlike_215 : decode cL_areAlike 215 = .ok (.iconst 2, 1) := by decide +kernel
theorem dL_areAlike_216 : decode cL_areAlike 216 = .ok (.iload 5, 2) := by decide +kernel
theorem dL_areAlike_218 : decode cL_areAlike 218 = .ok (.iconst 4, 1) := by decide +kernel
theorem dL_areAlike_219 : decode cL_areAlike 219 = .ok (.idiv, 1) := by decide +kernel
theorem dL_areAlike_220 : decode cL_areAlike 220 = .ok (.iload 5, 2) := by decide +kernel
theorem dL_areAlike_222 : decode cL_areAlike 222 = .ok (.iconst 4, 1) := by decide +kernel
theorem dL_areAlike_223 : decode cL_areAlike 223 = .ok (.irem, 1) := by decide +kernel
theorem dL_areAlike_224 : decode cL_areAlike 224 = .ok (.invokestatic 67, 3) := by decide +kernel
theorem dL_areAlike_227 : decode cL_areAlike 227 = .ok (.aload_n 1, 1) := by decide +kernel
theorem dL_areAlike_228 : decode cL_areAlike 228 = .ok (.iconst 2, 1) := by decide +kernel
theorem dL_areAlike_229 : decode cL_areAlike 229 = .ok (.iload 5, 2) := by decide +kernel
theorem dL_areAlike_231 : decode cL_areAlike 231 = .ok (.iconst 4, 1) := by decide +kernel
theorem dL_areAlike_232 : decode cL_areAlike 232 = .ok (.idiv, 1) := by decide +kernel
theorem dL_areAlike_233 : decode cL_areAlike 233 = .ok (.iload 5, 2) := by decide +kernel
theorem dL_areAlike_235 : decode cL_areAlike 235 = .ok (.iconst 4, 1) := by decide +kernel
theorem dL_areAlike_236 : decode cL_areAlike 236 = .ok (.irem, 1) := by decide +kernel
theorem dL_areAlike_237 : decode cL_areAlike 237 = .ok (.invokestatic 67, 3) := by decide +kernel
theorem dL_areAlike_240 : decode cL_areAlike 240 = .ok (.if_icmp .ne 57, 3) := by decide +kernel
theorem dL_areAlike_243 : decode cL_areAlike 243 = .ok (.aload_n 0, 1) := by decide +kernel
theorem dL_areAlike_244 : decode cL_areAlike 244 = .ok (.iload 5, 2) := by decide +kernel
theorem dL_areAlike_246 : decode cL_areAlike 246 = .ok (.iconst 3, 1) := by decide +kernel
theorem dL_areAlike_247 : decode cL_areAlike 247 = .ok (.irem, 1) := by decide +kernel
theorem dL_areAlike_248 : decode cL_areAlike 248 = .ok (.iload_n 3, 1) := by decide +kernel
theorem dL_areAlike_249 : decode cL_areAlike 249 = .ok (.bipush 9, 2) := by decide +kernel
theorem dL_areAlike_251 : decode cL_areAlike 251 = .ok (.irem, 1) := by decide +kernel
theorem dL_areAlike_252 : decode cL_areAlike 252 = .ok (.iload_n 3, 1) := by decide +kernel
theorem dL_areAlike_253 : decode cL_areAlike 253 = .ok (.bipush 9, 2) := by decide +kernel
theorem dL_areAlike_255 : decode cL_areAlike 255 = .ok (.idiv, 1) := by decide +kernel
theorem dL_areAlike_256 : decode cL_areAlike 256 = .ok (.bipush 50, 2) := by decide +kernel
theorem dL_areAlike_258 : decode cL_areAlike 258 = .ok (.irem, 1) := by decide +kernel
theorem dL_areAlike_259 : decode cL_areAlike 259 = .ok (.iload 5, 2) := by decide +kernel
theorem dL_areAlike_261 : decode cL_areAlike 261 = .ok (.iadd, 1) := by decide +kernel
theorem dL_areAlike_262 : decode cL_areAlike 262 = .ok (.invokestatic 78, 3) := by decide +kernel
theorem dL_areAlike_265 : decode cL_areAlike 265 = .ok (.aload_n 1, 1) := by decide +kernel
theorem dL_areAlike_266 : decode cL_areAlike 266 = .ok (.iload 5, 2) := by decide +kernel
theorem dL_areAlike_268 : decode cL_areAlike 268 = .ok (.iconst 3, 1) := by decide +kernel
theorem dL_areAlike_269 : decode cL_areAlike 269 = .ok (.irem, 1) := by decide +kernel
theorem dL_areAlike_270 : decode cL_areAlike 270 = .ok (.bipush 8, 2) := by decide +kernel
theorem dL_areAlike_272 : decode cL_areAlike 272 = .ok (.iload_n 3, 1) := by decide +kernel
theorem dL_areAlike_273 : decode cL_areAlike 273 = .ok (.bipush 9, 2) := by decide +kernel
theorem dL_areAlike_275 : decode cL_areAlike 275 = .ok (.irem, 1) := by decide +kernel
theorem dL_areAlike_276 : decode cL_areAlike 276 = .ok (.isub, 1) := by decide +kernel
theorem dL_areAlike_277 : decode cL_areAlike 277 = .ok (.iload_n 3, 1) := by decide +kernel
theorem dL_areAlike_278 : decode cL_areAlike 278 = .ok (.bipush 9, 2) := by decide +kernel
theorem dL_areAlike_280 : decode cL_areAlike 280 = .ok (.idiv, 1) := by decide +kernel
theorem dL_areAlike_281 : decode cL_areAlike 281 = .ok (.bipush 50, 2) := by decide +kernel
theorem dL_areAlike_283 : decode cL_areAlike 283 = .ok (.irem, 1) := by decide +kernel
theorem dL_areAlike_284 : decode cL_areAlike 284 = .ok (.iload 5, 2) := by decide +kernel
theorem dL_areAlike_286 : decode cL_areAlike 286 = .ok (.iadd, 1) := by decide +kernel
theorem dL_areAlike_287 : decode cL_areAlike 287 = .ok (.invokestatic 78, 3) := by decide +kernel
theorem dL_areAlike_290 : decode cL_areAlike 290 = .ok (.if_icmp .ne 7, 3) := by decide +kernel
theorem dL_areAlike_293 : decode cL_areAlike 293 = .ok (.iconst 1, 1) := by decide +kernel
theorem dL_areAlike_294 : decode cL_areAlike 294 = .ok (.goto 4, 3) := by decide +kernel
theorem dL_areAlike_297 : decode cL_areAlike 297 = .ok (.iconst 0, 1) := by decide +kernel
theorem dL_areAlike_298 : decode cL_areAlike 298 = .ok (.istore 4, 2) := by decide +kernel
theorem dL_areAlike_300 : decode cL_areAlike 300 = .ok (.iinc 5 1, 3) := by decide +kernel
theorem dL_areAlike_303 : decode cL_areAlike 303 = .ok (.goto (-101), 3) := by decide +kernel
theorem dL_areAlike_306 : decode cL_areAlike 306 = .ok (.iconst 0, 1) := by decide +kernel
theorem dL_areAlike_307 : decode cL_areAlike 307 = .ok (.istore 5, 2) := by decide +kernel
theorem dL_areAlike_309 : decode cL_areAlike 309 = .ok (.iload 5, 2) := by decide +kernel
theorem dL_areAlike_311 : decode cL_areAlike 311 = .ok (.bipush 6, 2) := by decide +kernel
theorem dL_areAlike_313 : decode cL_areAlike 313 = .ok (.if_icmp .ge 84, 3) := by decide +kernel
theorem dL_areAlike_316 : decode cL_areAlike 316 = .ok (.iload 4, 2) := by decide +kernel
theorem dL_areAlike_318 : decode cL_areAlike 318 = .ok (.ifCond .eq 79, 3) := by decide +kernel
theorem dL_areAlike_321 : decode cL_areAlike 321 = .ok (.aload_n 0, 1) := by decide +kernel
theorem dL_areAlike_322 : decode cL_areAlike 322 = .ok (.bipush 7, 2) := by decide +kernel
theorem dL_areAlike_324 : decode cL_areAlike 324 = .ok (.iload 5, 2) := by decide +kernel
theorem dL_areAlike_326 : decode cL_areAlike 326 = .ok (.iconst 0, 1) := by decide +kernel
theorem dL_areAlike_327 : decode cL_areAlike 327 = .ok (.invokestatic 67, 3) := by decide +kernel
theorem dL_areAlike_330 : decode cL_areAlike 330 = .ok (.aload_n 1, 1) := by decide +kernel
theorem dL_areAlike_331 : decode cL_areAlike 331 = .ok (.bipush 7, 2) := by decide +kernel
theorem dL_areAlike_333 : decode cL_areAlike 333 = .ok (.iload 5, 2) := by decide +kernel
theorem dL_areAlike_335 : decode cL_areAlike 335 = .ok (.iconst 0, 1) := by decide +kernel
theorem dL_areAlike_336 : decode cL_areAlike 336 = .ok (.invokestatic 67, 3) := by decide +kernel
theorem dL_areAlike_339 : decode cL_areAlike 339 = .ok (.if_icmp .ne 49, 3) := by decide +kernel
theorem dL_areAlike_342 : decode cL_areAlike 342 = .ok (.aload_n 0, 1) := by decide +kernel
theorem dL_areAlike_343 : decode cL_areAlike 343 = .ok (.bipush 8, 2) := by decide +kernel
theorem dL_areAlike_345 : decode cL_areAlike 345 = .ok (.iload 5, 2) := by decide +kernel
theorem dL_areAlike_347 : decode cL_areAlike 347 = .ok (.iconst 0, 1) := by decide +kernel
theorem dL_areAlike_348 : decode cL_areAlike 348 = .ok (.invokestatic 67, 3) := by decide +kernel
theorem dL_areAlike_351 : decode cL_areAlike 351 = .ok (.aload_n 1, 1) := by decide +kernel
theorem dL_areAlike_352 : decode cL_areAlike 352 = .ok (.bipush 8, 2) := by decide +kernel
theorem dL_areAlike_354 : decode cL_areAlike 354 = .ok (.iload 5, 2) := by decide +kernel
theorem dL_areAlike_356 : decode cL_areAlike 356 = .ok (.iconst 0, 1) := by decide +kernel
theorem dL_areAlike_357 : decode cL_areAlike 357 = .ok (.invokestatic 67, 3) := by decide +kernel
theorem dL_areAlike_360 : decode cL_areAlike 360 = .ok (.if_icmp .ne 28, 3) := by decide +kernel
theorem dL_areAlike_363 : decode cL_areAlike 363 = .ok (.aload_n 0, 1) := by decide +kernel
theorem dL_areAlike_364 : decode cL_areAlike 364 = .ok (.bipush 8, 2) := by decide +kernel
theorem dL_areAlike_366 : decode cL_areAlike 366 = .ok (.iload 5, 2) := by decide +kernel
theorem dL_areAlike_368 : decode cL_areAlike 368 = .ok (.iconst 2, 1) := by decide +kernel
theorem dL_areAlike_369 : decode cL_areAlike 369 = .ok (.invokestatic 67, 3) := by decide +kernel
theorem dL_areAlike_372 : decode cL_areAlike 372 = .ok (.aload_n 1, 1) := by decide +kernel
theorem dL_areAlike_373 : decode cL_areAlike 373 = .ok (.bipush 8, 2) := by decide +kernel
theorem dL_areAlike_375 : decode cL_areAlike 375 = .ok (.iload 5, 2) := by decide +kernel
theorem dL_areAlike_377 : decode cL_areAlike 377 = .ok (.iconst 2, 1) := by decide +kernel
theorem dL_areAlike_378 : decode cL_areAlike 378 = .ok (.invokestatic 67, 3) := by decide +kernel
theorem dL_areAlike_381 : decode cL_areAlike 381 = .ok (.if_icmp .ne 7, 3) := by decide +kernel
theorem dL_areAlike_384 : decode cL_areAlike 384 = .ok (.iconst 1, 1) := by decide +kernel
theorem dL_areAlike_385 : decode cL_areAlike 385 = .ok (.goto 4, 3) := by decide +kernel
theorem dL_areAlike_388 : decode cL_areAlike 388 = .ok (.iconst 0, 1) := by decide +kernel
theorem dL_areAlike_389 : decode cL_areAlike 389 = .ok (.istore 4, 2) := by decide +kernel
theorem dL_areAlike_391 : decode cL_areAlike 391 = .ok (.iinc 5 1, 3) := by decide +kernel
theorem dL_areAlike_394 : decode cL_areAlike 394 = .ok (.goto (-85), 3) := by decide +kernel
theorem dL_areAlike_397 : decode cL_areAlike 397 = .ok (.iload 4, 2) := by decide +kernel
theorem dL_areAlike_399 : decode cL_areAlike 399 = .ok (.ireturn, 1) := by decide +kernel
theorem dL_law_0 : decode cL_law 0 = .ok (.new 9, 3) := by decide +kernel
theorem dL_law_3 : decode cL_law 3 = .ok (.dup, 1) := by decide +kernel
theorem dL_law_4 : decode cL_law 4 = .ok (.invokespecial 80, 3) := by decide +kernel
theorem dL_law_7 : decode cL_law 7 = .ok (.astore_n 1, 1) := by decide +kernel
theorem dL_law_8 : decode cL_law 8 = .ok (.new 9, 3) := by decide +kernel
theorem dL_law_11 : decode cL_law 11 = .ok (.dup, 1) := by decide +kernel
theorem dL_law_12 : decode cL_law 12 = .ok (.invokespecial 80, 3) := by decide +kernel
theorem dL_law_15 : decode cL_law 15 = .ok (.astore_n 2, 1) := by decide +kernel
theorem dL_law_16 : decode cL_law 16 = .ok (.iconst 0, 1) := by decide +kernel
theorem dL_law_17 : decode cL_law 17 = .ok (.istore_n 3, 1) := by decide +kernel
theorem dL_law_18 : decode cL_law 18 = .ok (.iconst 1, 1) := by decide +kernel
theorem dL_law_19 : decode cL_law 19 = .ok (.istore 4, 2) := by decide +kernel
theorem dL_law_21 : decode cL_law 21 = .ok (.iconst 0, 1) := by decide +kernel
theorem dL_law_22 : decode cL_law 22 = .ok (.istore 5, 2) := by decide +kernel
theorem dL_law_24 : decode cL_law 24 = .ok (.iload 5, 2) := by decide +kernel
theorem dL_law_26 : decode cL_law 26 = .ok (.bipush 56, 2) := by decide +kernel
theorem dL_law_28 : decode cL_law 28 = .ok (.if_icmp .ge 457, 3) := by decide +kernel
theorem dL_law_31 : decode cL_law 31 = .ok (.iload 4, 2) := by decide +kernel
theorem dL_law_33 : decode cL_law 33 = .ok (.ifCond .eq 452, 3) := by decide +kernel
theorem dL_law_36 : decode cL_law 36 = .ok (.aload_n 0, 1) := by decide +kernel
theorem dL_law_37 : decode cL_law 37 = .ok (.iload 5, 2) := by decide +kernel
theorem dL_law_39 : decode cL_law 39 = .ok (.invokestatic 81, 3) := by decide +kernel
theorem dL_law_42 : decode cL_law 42 = .ok (.istore 6, 2) := by decide +kernel
theorem dL_law_44 : decode cL_law 44 = .ok (.iload 6, 2) := by decide +kernel
theorem dL_law_46 : decode cL_law 46 = .ok (.bipush 12, 2) := by decide +kernel
theorem dL_law_48 : decode cL_law 48 = .ok (.idiv, 1) := by decide +kernel
theorem dL_law_49 : decode cL_law 49 = .ok (.istore 7, 2) := by decide +kernel
theorem dL_law_51 : decode cL_law 51 = .ok (.iload 5, 2) := by decide +kernel
theorem dL_law_53 : decode cL_law 53 = .ok (.ifCond .ne 7, 3) := by decide +kernel
theorem dL_law_56 : decode cL_law 56 = .ok (.iconst 0, 1) := by decide +kernel
theorem dL_law_57 : decode cL_law 57 = .ok (.goto 18, 3) := by decide +kernel
theorem dL_law_60 : decode cL_law 60 = .ok (.iload 5, 2) := by decide +kernel
theorem dL_law_62 : decode cL_law 62 = .ok (.iconst 1, 1) := by decide +kernel
theorem dL_law_63 : decode cL_law 63 = .ok (.if_icmp .ne 7, 3) := by decide +kernel
theorem dL_law_66 : decode cL_law 66 = .ok (.iconst 1, 1) := by decide +kernel
theorem dL_law_67 : decode cL_law 67 = .ok (.goto 8, 3) := by decide +kernel
theorem dL_law_70 : decode cL_law 70 = .ok (.iload 6, 2) := by decide +kernel
theorem dL_law_72 : decode cL_law 72 = .ok (.bipush 12, 2) := by decide +kernel
theorem dL_law_74 : decode cL_law 74 = .ok (.irem, 1) := by decide +kernel
theorem dL_law_75 : decode cL_law 75 = .ok (.istore 8, 2) := by decide +kernel
theorem dL_law_77 : decode cL_law 77 = .ok (.iload 8, 2) := by decide +kernel
theorem dL_law_79 : decode cL_law 79 = .ok (.ifCond .ne 117, 3) := by decide +kernel
theorem dL_law_82 : decode cL_law 82 = .ok (.iload_n 3, 1) := by decide +kernel
theorem dL_law_83 : decode cL_law 83 = .ok (.iconst 4, 1) := by decide +kernel
theorem dL_law_84 : decode cL_law 84 = .ok (.if_icmp .ge 112, 3) := by decide +kernel
theorem dL_law_87 : decode cL_law 87 = .ok (.aload_n 1, 1) := by decide +kernel
theorem dL_law_88 : decode cL_law 88 = .ok (.invokevirtual 63, 3) := by decide +kernel
theorem dL_law_91 : decode cL_law 91 = .ok (.iconst 1, 1) := by decide +kernel
theorem dL_law_92 : decode cL_law 92 = .ok (.iadd, 1) := by decide +kernel
theorem dL_law_93 : decode cL_law 93 = .ok (.iload 7, 2) := by decide +kernel
theorem dL_law_95 : decode cL_law 95 = .ok (.bipush 30, 2) := by decide +kernel
theorem dL_law_97 : decode cL_law 97 = .ok (.idiv, 1) := by decide +kernel
theorem dL_law_98 : decode cL_law 98 = .ok (.iconst 2, 1) := by decide +kernel
theorem dL_law_99 : decode cL_law 99 = .ok (.irem, 1) := by decide +kernel
theorem dL_law_100 : decode cL_law 100 = .ok (.iadd, 1) := by decide +kernel
theorem dL_law_101 : decode cL_law 101 = .ok (.istore 9, 2) := by decide +kernel
theorem dL_law_103 : decode cL_law 103 = .ok (.aload_n 1, 1) := by decide +kernel
theorem dL_law_104 : decode cL_law 104 = .ok (.iload 7, 2) := by decide +kernel
theorem dL_law_106 : decode cL_law 106 = .ok (.bipush 6, 2) := by decide +kernel
theorem dL_law_108 : decode cL_law 108 = .ok (.irem, 1) := by decide +kernel
theorem dL_law_109 : decode cL_law 109 = .ok (.iload 7, 2) := by decide +kernel
theorem dL_law_111 : decode cL_law 111 = .ok (.bipush 6, 2) := by decide +kernel
theorem dL_law_113 : decode cL_law 113 = .ok (.irem, 1) := by decide +kernel
theorem dL_law_114 : decode cL_law 114 = .ok (.iconst 1, 1) := by decide +kernel
theorem dL_law_115 : decode cL_law 115 = .ok (.iadd, 1) := by decide +kernel
theorem dL_law_116 : decode cL_law 116 = .ok (.iload 7, 2) := by decide +kernel
theorem dL_law_118 : decode cL_law 118 = .ok (.bipush 6, 2) := by decide +kernel
theorem dL_law_120 : decode cL_law 120 = .ok (.idiv, 1) := by decide +kernel
theorem dL_law_121 : decode cL_law 121 = .ok (.iconst 5, 1) := by decide +kernel
theorem dL_law_122 : decode cL_law 122 = .ok (.irem, 1) := by decide +kernel
theorem dL_law_123 : decode cL_law 123 = .ok (.iadd, 1) := by decide +kernel
theorem dL_law_124 : decode cL_law 124 = .ok (.bipush 6, 2) := by decide +kernel
theorem dL_law_126 : decode cL_law 126 = .ok (.irem, 1) := by decide +kernel
theorem dL_law_127 : decode cL_law 127 = .ok (.iload 9, 2) := by decide +kernel
theorem dL_law_129 : decode cL_law 129 = .ok (.iload 7, 2) := by decide +kernel
theorem dL_law_131 : decode cL_law 131 = .ok (.bipush 60, 2) := by decide +kernel
theorem dL_law_133 : decode cL_law 133 = .ok (.idiv, 1) := by decide +kernel
theorem dL_law_134 : decode cL_law 134 = .ok (.iconst 3, 1) := by decide +kernel
theorem dL_law_135 : decode cL_law 135 = .ok (.irem, 1) := by decide +kernel
theorem dL_law_136 : decode cL_law 136 = .ok (.invokestatic 85, 3) := by decide +kernel
theorem dL_law_139 : decode cL_law 139 = .ok (.iload_n 3, 1) := by decide +kernel
theorem dL_law_140 : decode cL_law 140 = .ok (.if_icmp .ne 47, 3) := by decide +kernel
theorem dL_law_143 : decode cL_law 143 = .ok (.aload_n 2, 1) := by decide +kernel
theorem dL_law_144 : decode cL_law 144 = .ok (.iload 7, 2) := by decide +kernel
theorem dL_law_146 : decode cL_law 146 = .ok (.bipush 6, 2) := by decide +kernel
theorem dL_law_148 : decode cL_law 148 = .ok (.irem, 1) := by decide +kernel
theorem dL_law_149 : decode cL_law 149 = .ok (.iload 7, 2) := by decide +kernel
theorem dL_law_151 : decode cL_law 151 = .ok (.bipush 6, 2) := by decide +kernel
theorem dL_law_153 : decode cL_law 153 = .ok (.irem, 1) := by decide +kernel
theorem dL_law_154 : decode cL_law 154 = .ok (.iconst 1, 1) := by decide +kernel
theorem dL_law_155 : decode cL_law 155 = .ok (.iadd, 1) := by decide +kernel
theorem dL_law_156 : decode cL_law 156 = .ok (.iload 7, 2) := by decide +kernel
theorem dL_law_158 : decode cL_law 158 = .ok (.bipush 6, 2) := by decide +kernel
theorem dL_law_160 : decode cL_law 160 = .ok (.idiv, 1) := by decide +kernel
theorem dL_law_161 : decode cL_law 161 = .ok (.iconst 5, 1) := by decide +kernel
theorem dL_law_162 : decode cL_law 162 = .ok (.irem, 1) := by decide +kernel
theorem dL_law_163 : decode cL_law 163 = .ok (.iadd, 1) := by decide +kernel
theorem dL_law_164 : decode cL_law 164 = .ok (.bipush 6, 2) := by decide +kernel
theorem dL_law_166 : decode cL_law 166 = .ok (.irem, 1) := by decide +kernel
theorem dL_law_167 : decode cL_law 167 = .ok (.iload 9, 2) := by decide +kernel
theorem dL_law_169 : decode cL_law 169 = .ok (.iload 7, 2) := by decide +kernel
theorem dL_law_171 : decode cL_law 171 = .ok (.bipush 60, 2) := by decide +kernel
theorem dL_law_173 : decode cL_law 173 = .ok (.idiv, 1) := by decide +kernel
theorem dL_law_174 : decode cL_law 174 = .ok (.iconst 3, 1) := by decide +kernel
theorem dL_law_175 : decode cL_law 175 = .ok (.irem, 1) := by decide +kernel
theorem dL_law_176 : decode cL_law 176 = .ok (.invokestatic 85, 3) := by decide +kernel
theorem dL_law_179 : decode cL_law 179 = .ok (.iload_n 3, 1) := by decide +kernel
theorem dL_law_180 : decode cL_law 180 = .ok (.if_icmp .ne 7, 3) := by decide +kernel
theorem dL_law_183 : decode cL_law 183 = .ok (.iconst 1, 1) := by decide +kernel
theorem dL_law_184 : decode cL_law 184 = .ok (.goto 4, 3) := by decide +kernel
theorem dL_law_187 : decode cL_law 187 = .ok (.iconst 0, 1) := by decide +kernel
theorem dL_law_188 : decode cL_law 188 = .ok (.istore 4, 2) := by decide +kernel
theorem dL_law_190 : decode cL_law 190 = .ok (.iinc 3 1, 3) := by decide +kernel
theorem dL_law_193 : decode cL_law 193 = .ok (.goto 263, 3) := by decide +kernel
theorem dL_law_196 : decode cL_law 196 = .ok (.iload 8, 2) := by decide +kernel
theorem dL_law_198 : decode cL_law 198 = .ok (.iconst 3, 1) := by decide +kernel
theorem dL_law_199 : decode cL_law 199 = .ok (.if_icmp .ge 40, 3) := by decide +kernel
theorem dL_law_202 : decode cL_law 202 = .ok (.aload_n 1, 1) := by decide +kernel
theorem dL_law_203 : decode cL_law 203 = .ok (.iconst 1, 1) := by decide +kernel
theorem dL_law_204 : decode cL_law 204 = .ok (.iconst 2, 1) := by decide +kernel
theorem dL_law_205 : decode cL_law 205 = .ok (.iload 7, 2) := by decide +kernel
theorem dL_law_207 : decode cL_law 207 = .ok (.iconst 2, 1) := by decide +kernel
theorem dL_law_208 : decode cL_law 208 = .ok (.irem, 1) := by decide +kernel
theorem dL_law_209 : decode cL_law 209 = .ok (.iadd, 1) := by decide +kernel
theorem dL_law_210 : decode cL_law 210 = .ok (.iconst 0, 1) := by decide +kernel
theorem dL_law_211 : decode cL_law 211 = .ok (.invokestatic 67, 3) := by decide +kernel
theorem dL_law_214 : decode cL_law 214 = .ok (.aload_n 2, 1) := by decide +kernel
theorem dL_law_215 : decode cL_law 215 = .ok (.iconst 1, 1) := by decide +kernel
theorem dL_law_216 : decode cL_law 216 = .ok (.iconst 2, 1) := by decide +kernel
theorem dL_law_217 : decode cL_law 217 = .ok (.iload 7, 2) := by decide +kernel
theorem dL_law_219 : decode cL_law 219 = .ok (.iconst 2, 1) := by decide +kernel
theorem dL_law_220 : decode cL_law 220 = .ok (.irem, 1) := by decide +kernel
theorem dL_law_221 : decode cL_law 221 = .ok (.iadd, 1) := by decide +kernel
theorem dL_law_222 : decode cL_law 222 = .ok (.iconst 0, 1) := by decide +kernel
theorem dL_law_223 : decode cL_law 223 = .ok (.invokestatic 67, 3) := by decide +kernel
theorem dL_law_226 : decode cL_law 226 = .ok (.if_icmp .ne 7, 3) := by decide +kernel
theorem dL_law_229 : decode cL_law 229 = .ok (.iconst 1, 1) := by decide +kernel
theorem dL_law_230 : decode cL_law 230 = .ok (.goto 4, 3) := by decide +kernel
theorem dL_law_233 : decode cL_law 233 = .ok (.iconst 0, 1) := by decide +kernel
theorem dL_law_234 : decode cL_law 234 = .ok (.istore 4, 2) := by decide +kernel
theorem dL_law_236 : decode cL_law 236 = .ok (.goto 220, 3) := by decide +kernel
theorem dL_law_239 : decode cL_law 239 = .ok (.iload 7, 2) := by decide +kernel
theorem dL_law_241 : decode cL_law 241 = .ok (.iload_n 3, 1) := by decide +kernel
theorem dL_law_242 : decode cL_law 242 = .ok (.irem, 1) := by decide +kernel
theorem dL_law_243 : decode cL_law 243 = .ok (.istore 9, 2) := by decide +kernel
theorem dL_law_245 : decode cL_law 245 = .ok (.iconst 0, 1) := by decide +kernel
theorem dL_law_246 : decode cL_law 246 = .ok (.istore 10, 2) := by decide +kernel
theorem dL_law_248 : decode cL_law 248 = .ok (.iload 10, 2) := by decide +kernel
theorem dL_law_250 : decode cL_law 250 = .ok (.iload_n 3, 1) := by decide +kernel
theorem dL_law_251 : decode cL_law 251 = .ok (.if_icmp .ge 42, 3) := by decide +kernel
theorem dL_law_254 : decode cL_law 254 = .ok (.aload_n 1, 1) := by decide +kernel
theorem dL_law_255 : decode cL_law 255 = .ok (.iconst 3, 1) := by decide +kernel
theorem dL_law_256 : decode cL_law 256 = .ok (.iload 10, 2) := by decide +kernel
theorem dL_law_258 : decode cL_law 258 = .ok (.iconst 0, 1) := by decide +kernel
theorem dL_law_259 : decode cL_law 259 = .ok (.invokestatic 67, 3) := by decide +kernel
theorem dL_law_262 : decode cL_law 262 = .ok (.iconst 1, 1) := by decide +kernel
theorem dL_law_263 : decode cL_law 263 = .ok (.if_icmp .eq 15, 3) := by decide +kernel
theorem dL_law_266 : decode cL_law 266 = .ok (.aload_n 1, 1) := by decide +kernel
theorem dL_law_267 : decode cL_law 267 = .ok (.iconst 3, 1) := by decide +kernel
theorem dL_law_268 : decode cL_law 268 = .ok (.iload 10, 2) := by decide +kernel
theorem dL_law_270 : decode cL_law 270 = .ok (.iconst 0, 1) := by decide +kernel
theorem dL_law_271 : decode cL_law 271 = .ok (.invokestatic 67, 3) := by decide +kernel
theorem dL_law_274 : decode cL_law 274 = .ok (.iconst 2, 1) := by decide +kernel
theorem dL_law_275 : decode cL_law 275 = .ok (.if_icmp .ne 8, 3) := by decide +kernel
theorem dL_law_278 : decode cL_law 278 = .ok (.iload 10, 2) := by decide +kernel
theorem dL_law_280 : decode cL_law 280 = .ok (.goto 5, 3) := by decide +kernel
theorem dL_law_283 : decode cL_law 283 = .ok (.iload 9, 2) := by decide +kernel
theorem dL_law_285 : decode cL_law 285 = .ok (.istore 9, 2) := by decide +kernel
theorem dL_law_287 : decode cL_law 287 = .ok (.iinc 10 1, 3) := by decide +kernel
theorem dL_law_290 : decode cL_law 290 = .ok (.goto (-42), 3) := by decide +kernel
theorem dL_law_293 : decode cL_law 293 = .ok (.iload 7, 2) := by decide +kernel
theorem dL_law_295 : decode cL_law 295 = .ok (.iconst 4, 1) := by decide +kernel
theorem dL_law_296 : decode cL_law 296 = .ok (.idiv, 1) := by decide +kernel
theorem dL_law_297 : decode cL_law 297 = .ok (.bipush 9, 2) := by decide +kernel
theorem dL_law_299 : decode cL_law 299 = .ok (.irem, 1) := by decide +kernel
theorem dL_law_300 : decode cL_law 300 = .ok (.istore 10, 2) := by decide +kernel
theorem dL_law_302 : decode cL_law 302 = .ok (.bipush 44, 2) := by decide +kernel
theorem dL_law_304 : decode cL_law 304 = .ok (.iload 7, 2) := by decide +kernel
theorem dL_law_306 : decode cL_law 306 = .ok (.bipush 36, 2) := by decide +kernel
theorem dL_law_308 : decode cL_law 308 = .ok (.idiv, 1) := by decide +kernel
theorem dL_law_309 : decode cL_law 309 = .ok (.bipush 26, 2) := by decide +kernel
theorem dL_law_311 : decode cL_law 311 = .ok (.irem, 1) := by decide +kernel
theorem dL_law_312 : decode cL_law 312 = .ok (.iadd, 1) := by decide +kernel
theorem dL_law_313 : decode cL_law 313 = .ok (.istore 11, 2) := by decide +kernel
theorem dL_law_315 : decode cL_law 315 = .ok (.iload 7, 2) := by decide +kernel
theorem dL_law_317 : decode cL_law 317 = .ok (.iconst 3, 1) := by decide +kernel
theorem dL_law_318 : decode cL_law 318 = .ok (.idiv, 1) := by decide +kernel
theorem dL_law_319 : decode cL_law 319 = .ok (.iconst 2, 1) := by decide +kernel
theorem dL_law_320 : decode cL_law 320 = .ok (.irem, 1) := by decide +kernel
theorem dL_law_321 : decode cL_law 321 = .ok (.ifCond .ne 7, 3) := by decide +kernel
theorem dL_law_324 : decode cL_law 324 = .ok (.iconst 1, 1) := by decide +kernel
theorem dL_law_325 : decode cL_law 325 = .ok (.goto 4, 3) := by decide +kernel
theorem dL_law_328 : decode cL_law 328 = .ok (.iconst (-1), 1) := by decide +kernel
theorem dL_law_329 : decode cL_law 329 = .ok (.istore 12, 2) := by decide +kernel
theorem dL_law_331 : decode cL_law 331 = .ok (.aload_n 1, 1) := by decide +kernel
theorem dL_law_332 : decode cL_law 332 = .ok (.iload 9, 2) := by decide +kernel
theorem dL_law_334 : decode cL_law 334 = .ok (.iload 10, 2) := by decide +kernel
theorem dL_law_336 : decode cL_law 336 = .ok (.iload 11, 2) := by decide +kernel
theorem dL_law_338 : decode cL_law 338 = .ok (.iconst 1, 1) := by decide +kernel
theorem dL_law_339 : decode cL_law 339 = .ok (.iadd, 1) := by decide +kernel
theorem dL_law_340 : decode cL_law 340 = .ok (.iload 12, 2) := by decide +kernel
theorem dL_law_342 : decode cL_law 342 = .ok (.bipush 30, 2) := by decide +kernel
theorem dL_law_344 : decode cL_law 344 = .ok (.iload 7, 2) := by decide +kernel
theorem dL_law_346 : decode cL_law 346 = .ok (.bipush 61, 2) := by decide +kernel
theorem dL_law_348 : decode cL_law 348 = .ok (.irem, 1) := by decide +kernel
theorem dL_law_349 : decode cL_law 349 = .ok (.invokestatic 89, 3) := by decide +kernel
theorem dL_law_352 : decode cL_law 352 = .ok (.invokestatic 75, 3) := by decide +kernel
theorem dL_law_355 : decode cL_law 355 = .ok (.aload_n 2, 1) := by decide +kernel
theorem dL_law_356 : decode cL_law 356 = .ok (.iload 9, 2) := by decide +kernel
theorem dL_law_358 : decode cL_law 358 = .ok (.bipush 8, 2) := by decide +kernel
theorem dL_law_360 : decode cL_law 360 = .ok (.iload 10, 2) := by decide +kernel
theorem dL_law_362 : decode cL_law 362 = .ok (.isub, 1) := by decide +kernel
theorem dL_law_363 : decode cL_law 363 = .ok (.iload 11, 2) := by decide +kernel
theorem dL_law_365 : decode cL_law 365 = .ok (.iconst 1, 1) := by decide +kernel
theorem dL_law_366 : decode cL_law 366 = .ok (.iadd, 1) := by decide +kernel
theorem dL_law_367 : decode cL_law 367 = .ok (.iload 12, 2) := by decide +kernel
theorem dL_law_369 : decode cL_law 369 = .ok (.ineg, 1) := by decide +kernel
theorem dL_law_370 : decode cL_law 370 = .ok (.bipush 30, 2) := by decide +kernel
theorem dL_law_372 : decode cL_law 372 = .ok (.iload 7, 2) := by decide +kernel
theorem dL_law_374 : decode cL_law 374 = .ok (.bipush 61, 2) := by decide +kernel
theorem dL_law_376 : decode cL_law 376 = .ok (.irem, 1) := by decide +kernel
theorem dL_law_377 : decode cL_law 377 = .ok (.invokestatic 89, 3) := by decide +kernel
theorem dL_law_380 : decode cL_law 380 = .ok (.if_icmp .ne 73, 3) := by decide +kernel
theorem dL_law_383 : decode cL_law 383 = .ok (.aload_n 1, 1) := by decide +kernel
theorem dL_law_384 : decode cL_law 384 = .ok (.iload 9, 2) := by decide +kernel
theorem dL_law_386 : decode cL_law 386 = .ok (.iload 10, 2) := by decide +kernel
theorem dL_law_388 : decode cL_law 388 = .ok (.iload 11, 2) := by decide +kernel
theorem dL_law_390 : decode cL_law 390 = .ok (.iload 12, 2) := by decide +kernel
theorem dL_law_392 : decode cL_law 392 = .ok (.iload 7, 2) := by decide +kernel
theorem dL_law_394 : decode cL_law 394 = .ok (.bipush 7, 2) := by decide +kernel
theorem dL_law_396 : decode cL_law 396 = .ok (.idiv, 1) := by decide +kernel
theorem dL_law_397 : decode cL_law 397 = .ok (.bipush 61, 2) := by decide +kernel
theorem dL_law_399 : decode cL_law 399 = .ok (.irem, 1) := by decide +kernel
theorem dL_law_400 : decode cL_law 400 = .ok (.iload 7, 2) := by decide +kernel
theorem dL_law_402 : decode cL_law 402 = .ok (.bipush 11, 2) := by decide +kernel
theorem dL_law_404 : decode cL_law 404 = .ok (.idiv, 1) := by decide +kernel
theorem dL_law_405 : decode cL_law 405 = .ok (.bipush 61, 2) := by decide +kernel
theorem dL_law_407 : decode cL_law 407 = .ok (.irem, 1) := by decide +kernel
theorem dL_law_408 : decode cL_law 408 = .ok (.invokestatic 92, 3) := by decide +kernel
theorem dL_law_411 : decode cL_law 411 = .ok (.invokestatic 75, 3) := by decide +kernel
theorem dL_law_414 : decode cL_law 414 = .ok (.aload_n 2, 1) := by decide +kernel
theorem dL_law_415 : decode cL_law 415 = .ok (.iload 9, 2) := by decide +kernel
theorem dL_law_417 : decode cL_law 417 = .ok (.bipush 8, 2) := by decide +kernel
theorem dL_law_419 : decode cL_law 419 = .ok (.iload 10, 2) := by decide +kernel
theorem dL_law_421 : decode cL_law 421 = .ok (.isub, 1) := by decide +kernel
theorem dL_law_422 : decode cL_law 422 = .ok (.iload 11, 2) := by decide +kernel
theorem dL_law_424 : decode cL_law 424 = .ok (.iload 12, 2) := by decide +kernel
theorem dL_law_426 : decode cL_law 426 = .ok (.ineg, 1) := by decide +kernel
theorem dL_law_427 : decode cL_law 427 = .ok (.iload 7, 2) := by decide +kernel
theorem dL_law_429 : decode cL_law 429 = .ok (.bipush 7, 2) := by decide +kernel
theorem dL_law_431 : decode cL_law 431 = .ok (.idiv, 1) := by decide +kernel
theorem dL_law_432 : decode cL_law 432 = .ok (.bipush 61, 2) := by decide +kernel
theorem dL_law_434 : decode cL_law 434 = .ok (.irem, 1) := by decide +kernel
theorem dL_law_435 : decode cL_law 435 = .ok (.iload 7, 2) := by decide +kernel
theorem dL_law_437 : decode cL_law 437 = .ok (.bipush 11, 2) := by decide +kernel
theorem dL_law_439 : decode cL_law 439 = .ok (.idiv, 1) := by decide +kernel
theorem dL_law_440 : decode cL_law 440 = .ok (.bipush 61, 2) := by decide +kernel
theorem dL_law_442 : decode cL_law 442 = .ok (.irem, 1) := by decide +kernel
theorem dL_law_443 : decode cL_law 443 = .ok (.invokestatic 92, 3) := by decide +kernel
theorem dL_law_446 : decode cL_law 446 = .ok (.if_icmp .ne 7, 3) := by decide +kernel
theorem dL_law_449 : decode cL_law 449 = .ok (.iconst 1, 1) := by decide +kernel
theorem dL_law_450 : decode cL_law 450 = .ok (.goto 4, 3) := by decide +kernel
theorem dL_law_453 : decode cL_law 453 = .ok (.iconst 0, 1) := by decide +kernel
theorem dL_law_454 : decode cL_law 454 = .ok (.istore 4, 2) := by decide +kernel
theorem dL_law_456 : decode cL_law 456 = .ok (.iload 4, 2) := by decide +kernel
theorem dL_law_458 : decode cL_law 458 = .ok (.ifCond .eq 18, 3) := by decide +kernel
theorem dL_law_461 : decode cL_law 461 = .ok (.aload_n 1, 1) := by decide +kernel
theorem dL_law_462 : decode cL_law 462 = .ok (.aload_n 2, 1) := by decide +kernel
theorem dL_law_463 : decode cL_law 463 = .ok (.iload_n 3, 1) := by decide +kernel
theorem dL_law_464 : decode cL_law 464 = .ok (.iload 7, 2) := by decide +kernel
theorem dL_law_466 : decode cL_law 466 = .ok (.invokestatic 95, 3) := by decide +kernel
theorem dL_law_469 : decode cL_law 469 = .ok (.ifCond .eq 7, 3) := by decide +kernel
theorem dL_law_472 : decode cL_law 472 = .ok (.iconst 1, 1) := by decide +kernel
theorem dL_law_473 : decode cL_law 473 = .ok (.goto 4, 3) := by decide +kernel
theorem dL_law_476 : decode cL_law 476 = .ok (.iconst 0, 1) := by decide +kernel
theorem dL_law_477 : decode cL_law 477 = .ok (.istore 4, 2) := by decide +kernel
theorem dL_law_479 : decode cL_law 479 = .ok (.iinc 5 1, 3) := by decide +kernel
theorem dL_law_482 : decode cL_law 482 = .ok (.goto (-458), 3) := by decide +kernel
theorem dL_law_485 : decode cL_law 485 = .ok (.iload 4, 2) := by decide +kernel
theorem dL_law_487 : decode cL_law 487 = .ok (.ireturn, 1) := by decide +kernel
