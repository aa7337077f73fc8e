theorem dX5_standing_29 : decode cX5_standing 29 = .ok (.aload_n 0, 1) := by decide +kernel
theorem dX5_standing_30 : decode cX5_standing 30 = .ok (.iload_n 3, 1) := by decide +kernel
theorem dX5_standing_31 : decode cX5_standing 31 = .ok (.invokevirtual 206, 3) := by decide +kernel
theorem dX5_standing_34 : decode cX5_standing 34 = .ok (.iload_n 1, 1) := by decide +kernel
theorem dX5_standing_35 : decode cX5_standing 35 = .ok (.if_icmp .ne 5, 3) := by decide +kernel
theorem dX5_standing_38 : decode cX5_standing 38 = .ok (.iload_n 3, 1) := by decide +kernel
theorem dX5_standing_39 : decode cX5_standing 39 = .ok (.istore_n 2, 1) := by decide +kernel
theorem dX5_standing_40 : decode cX5_standing 40 = .ok (.iinc 3 1, 3) := by decide +kernel
theorem dX5_standing_43 : decode cX5_standing 43 = .ok (.goto (-20), 3) := by decide +kernel
theorem dX5_standing_46 : decode cX5_standing 46 = .ok (.iload_n 2, 1) := by decide +kernel
theorem dX5_standing_47 : decode cX5_standing 47 = .ok (.ireturn, 1) := by decide +kernel
theorem dX5_ofTeam_0 : decode cX5_ofTeam 0 = .ok (.aload_n 0, 1) := by decide +kernel
theorem dX5_ofTeam_1 : decode cX5_ofTeam 1 = .ok (.iload_n 1, 1) := by decide +kernel
theorem dX5_ofTeam_2 : decode cX5_ofTeam 2 = .ok (.invokevirtual 209, 3) := by decide +kernel
theorem dX5_ofTeam_5 : decode cX5_ofTeam 5 = .ok (.astore_n 3, 1) := by decide +kernel
theorem dX5_ofTeam_6 : decode cX5_ofTeam 6 = .ok (.iload_n 2, 1) := by decide +kernel
theorem dX5_ofTeam_7 : decode cX5_ofTeam 7 = .ok (.tableswitch 40 0 2 #[25, 30, 35], 25) := by decide +kernel
theorem dX5_ofTeam_32 : decode cX5_ofTeam 32 = .ok (.aload_n 3, 1) := by decide +kernel
theorem dX5_ofTeam_33 : decode cX5_ofTeam 33 = .ok (.getfield 213, 3) := by decide +kernel
theorem dX5_ofTeam_36 : decode cX5_ofTeam 36 = .ok (.ireturn, 1) := by decide +kernel
theorem dX5_ofTeam_37 : decode cX5_ofTeam 37 = .ok (.aload_n 3, 1) := by decide +kernel
theorem dX5_ofTeam_38 : decode cX5_ofTeam 38 = .ok (.getfield 216, 3) := by decide +kernel
theorem dX5_ofTeam_41 : decode cX5_ofTeam 41 = .ok (.ireturn, 1) := by decide +kernel
theorem dX5_ofTeam_42 : decode cX5_ofTeam 42 = .ok (.aload_n 3, 1) := by decide +kernel
theorem dX5_ofTeam_43 : decode cX5_ofTeam 43 = .ok (.getfield 219, 3) := by decide +kernel
theorem dX5_ofTeam_46 : decode cX5_ofTeam 46 = .ok (.ireturn, 1) := by decide +kernel
theorem dX5_ofTeam_47 : decode cX5_ofTeam 47 = .ok (.new 57, 3) := by decide +kernel
theorem dX5_ofTeam_50 : decode cX5_ofTeam 50 = .ok (.dup, 1) := by decide +kernel
theorem dX5_ofTeam_51 : decode cX5_ofTeam 51 = .ok (.ldc 157, 2) := by decide +kernel
theorem dX5_ofTeam_53 : decode cX5_ofTeam 53 = .ok (.invokespecial 61, 3) := by decide +kernel
theorem dX5_ofTeam_56 : decode cX5_ofTeam 56 = .ok (.athrow, 1) := by decide +kernel
theorem dX5_isWithin_0 : decode cX5_isWithin 0 = .ok (.iload_n 0, 1) := by decide +kernel
theorem dX5_isWithin_1 : decode cX5_isWithin 1 = .ok (.iload_n 1, 1) := by decide +kernel
theorem dX5_isWithin_2 : decode cX5_isWithin 2 = .ok (.if_icmp .lt 12, 3) := by decide +kernel
theorem dX5_isWithin_5 : decode cX5_isWithin 5 = .ok (.iload_n 0, 1) := by decide +kernel
theorem dX5_isWithin_6 : decode cX5_isWithin 6 = .ok (.iload_n 2, 1) := by decide +kernel
theorem dX5_isWithin_7 : decode cX5_isWithin 7 = .ok (.if_icmp .gt 7, 3) := by decide +kernel
theorem dX5_isWithin_10 : decode cX5_isWithin 10 = .ok (.iconst 1, 1) := by decide +kernel
theorem dX5_isWithin_11 : decode cX5_isWithin 11 = .ok (.goto 4, 3) := by decide +kernel
theorem dX5_isWithin_14 : decode cX5_isWithin 14 = .ok (.iconst 0, 1) := by decide +kernel
theorem dX5_isWithin_15 : decode cX5_isWithin 15 = .ok (.ireturn, 1) := by decide +kernel
theorem dX5_isCell_0 : decode cX5_isCell 0 = .ok (.iload_n 0, 1) := by decide +kernel
theorem dX5_isCell_1 : decode cX5_isCell 1 = .ok (.iconst 0, 1) := by decide +kernel
theorem dX5_isCell_2 : decode cX5_isCell 2 = .ok (.bipush 8, 2) := by decide +kernel
theorem dX5_isCell_4 : decode cX5_isCell 4 = .ok (.invokestatic 43, 3) := by decide +kernel
theorem dX5_isCell_7 : decode cX5_isCell 7 = .ok (.ifCond .eq 17, 3) := by decide +kernel
theorem dX5_isCell_10 : decode cX5_isCell 10 = .ok (.iload_n 1, 1) := by decide +kernel
theorem dX5_isCell_11 : decode cX5_isCell 11 = .ok (.iconst 0, 1) := by decide +kernel
theorem dX5_isCell_12 : decode cX5_isCell 12 = .ok (.bipush 60, 2) := by decide +kernel
theorem dX5_isCell_14 : decode cX5_isCell 14 = .ok (.invokestatic 43, 3) := by decide +kernel
theorem dX5_isCell_17 : decode cX5_isCell 17 = .ok (.ifCond .eq 7, 3) := by decide +kernel
theorem dX5_isCell_20 : decode cX5_isCell 20 = .ok (.iconst 1, 1) := by decide +kernel
theorem dX5_isCell_21 : decode cX5_isCell 21 = .ok (.goto 4, 3) := by decide +kernel
theorem dX5_isCell_24 : decode cX5_isCell 24 = .ok (.iconst 0, 1) := by decide +kernel
theorem dX5_isCell_25 : decode cX5_isCell 25 = .ok (.ireturn, 1) := by decide +kernel
theorem dX5_isShot_0 : decode cX5_isShot 0 = .ok (.iload_n 0, 1) := by decide +kernel
theorem dX5_isShot_1 : decode cX5_isShot 1 = .ok (.iconst 0, 1) := by decide +kernel
theorem dX5_isShot_2 : decode cX5_isShot 2 = .ok (.bipush 8, 2) := by decide +kernel
theorem dX5_isShot_4 : decode cX5_isShot 4 = .ok (.invokestatic 43, 3) := by decide +kernel
theorem dX5_isShot_7 : decode cX5_isShot 7 = .ok (.ifCond .eq 48, 3) := by decide +kernel
theorem dX5_isShot_10 : decode cX5_isShot 10 = .ok (.iload_n 1, 1) := by decide +kernel
theorem dX5_isShot_11 : decode cX5_isShot 11 = .ok (.iconst 1, 1) := by decide +kernel
theorem dX5_isShot_12 : decode cX5_isShot 12 = .ok (.bipush 100, 2) := by decide +kernel
theorem dX5_isShot_14 : decode cX5_isShot 14 = .ok (.invokestatic 43, 3) := by decide +kernel
theorem dX5_isShot_17 : decode cX5_isShot 17 = .ok (.ifCond .eq 38, 3) := by decide +kernel
theorem dX5_isShot_20 : decode cX5_isShot 20 = .ok (.iload_n 2, 1) := by decide +kernel
theorem dX5_isShot_21 : decode cX5_isShot 21 = .ok (.iconst (-1), 1) := by decide +kernel
theorem dX5_isShot_22 : decode cX5_isShot 22 = .ok (.if_icmp .eq 8, 3) := by decide +kernel
theorem dX5_isShot_25 : decode cX5_isShot 25 = .ok (.iload_n 2, 1) := by decide +kernel
theorem dX5_isShot_26 : decode cX5_isShot 26 = .ok (.iconst 1, 1) := by decide +kernel
theorem dX5_isShot_27 : decode cX5_isShot 27 = .ok (.if_icmp .ne 28, 3) := by decide +kernel
theorem dX5_isShot_30 : decode cX5_isShot 30 = .ok (.iload_n 3, 1) := by decide +kernel
theorem dX5_isShot_31 : decode cX5_isShot 31 = .ok (.iconst 0, 1) := by decide +kernel
theorem dX5_isShot_32 : decode cX5_isShot 32 = .ok (.bipush 60, 2) := by decide +kernel
theorem dX5_isShot_34 : decode cX5_isShot 34 = .ok (.invokestatic 43, 3) := by decide +kernel
theorem dX5_isShot_37 : decode cX5_isShot 37 = .ok (.ifCond .eq 18, 3) := by decide +kernel
theorem dX5_isShot_40 : decode cX5_isShot 40 = .ok (.iload 4, 2) := by decide +kernel
theorem dX5_isShot_42 : decode cX5_isShot 42 = .ok (.iconst 0, 1) := by decide +kernel
theorem dX5_isShot_43 : decode cX5_isShot 43 = .ok (.bipush 60, 2) := by decide +kernel
theorem dX5_isShot_45 : decode cX5_isShot 45 = .ok (.invokestatic 43, 3) := by decide +kernel
theorem dX5_isShot_48 : decode cX5_isShot 48 = .ok (.ifCond .eq 7, 3) := by decide +kernel
theorem dX5_isShot_51 : decode cX5_isShot 51 = .ok (.iconst 1, 1) := by decide +kernel
theorem dX5_isShot_52 : decode cX5_isShot 52 = .ok (.goto 4, 3) := by decide +kernel
theorem dX5_isShot_55 : decode cX5_isShot 55 = .ok (.iconst 0, 1) := by decide +kernel
theorem dX5_isShot_56 : decode cX5_isShot 56 = .ok (.ireturn, 1) := by decide +kernel
theorem dX5_distanceOf_0 : decode cX5_distanceOf 0 = .ok (.iload_n 0, 1) := by decide +kernel
theorem dX5_distanceOf_1 : decode cX5_distanceOf 1 = .ok (.ifCond .ge 6, 3) := by decide +kernel
theorem dX5_distanceOf_4 : decode cX5_distanceOf 4 = .ok (.bipush 30, 2) := by decide +kernel
theorem dX5_distanceOf_6 : decode cX5_distanceOf 6 = .ok (.ireturn, 1) := by decide +kernel
theorem dX5_distanceOf_7 : decode cX5_distanceOf 7 = .ok (.iconst 2, 1) := by decide +kernel
theorem dX5_distanceOf_8 : decode cX5_distanceOf 8 = .ok (.iload_n 0, 1) := by decide +kernel
theorem dX5_distanceOf_9 : decode cX5_distanceOf 9 = .ok (.bipush 100, 2) := by decide +kernel
theorem dX5_distanceOf_11 : decode cX5_distanceOf 11 = .ok (.idiv, 1) := by decide +kernel
theorem dX5_distanceOf_12 : decode cX5_distanceOf 12 = .ok (.iconst 4, 1) := by decide +kernel
theorem dX5_distanceOf_13 : decode cX5_distanceOf 13 = .ok (.isub, 1) := by decide +kernel
theorem dX5_distanceOf_14 : decode cX5_distanceOf 14 = .ok (.invokestatic 222, 3) := by decide +kernel
theorem dX5_distanceOf_17 : decode cX5_distanceOf 17 = .ok (.imul, 1) := by decide +kernel
theorem dX5_distanceOf_18 : decode cX5_distanceOf 18 = .ok (.istore_n 1, 1) := by decide +kernel
theorem dX5_distanceOf_19 : decode cX5_distanceOf 19 = .ok (.iload_n 0, 1) := by decide +kernel
theorem dX5_distanceOf_20 : decode cX5_distanceOf 20 = .ok (.bipush 100, 2) := by decide +kernel
theorem dX5_distanceOf_22 : decode cX5_distanceOf 22 = .ok (.irem, 1) := by decide +kernel
theorem dX5_distanceOf_23 : decode cX5_distanceOf 23 = .ok (.bipush 50, 2) := by decide +kernel
theorem dX5_distanceOf_25 : decode cX5_distanceOf 25 = .ok (.isub, 1) := by decide +kernel
theorem dX5_distanceOf_26 : decode cX5_distanceOf 26 = .ok (.invokestatic 222, 3) := by decide +kernel
theorem dX5_distanceOf_29 : decode cX5_distanceOf 29 = .ok (.istore_n 2, 1) := by decide +kernel
theorem dX5_distanceOf_30 : decode cX5_distanceOf 30 = .ok (.iload_n 1, 1) := by decide +kernel
theorem dX5_distanceOf_31 : decode cX5_distanceOf 31 = .ok (.iload_n 2, 1) := by decide +kernel
theorem dX5_distanceOf_32 : decode cX5_distanceOf 32 = .ok (.iadd, 1) := by decide +kernel
theorem dX5_distanceOf_33 : decode cX5_distanceOf 33 = .ok (.bipush 30, 2) := by decide +kernel
theorem dX5_distanceOf_35 : decode cX5_distanceOf 35 = .ok (.invokestatic 227, 3) := by decide +kernel
theorem dX5_distanceOf_38 : decode cX5_distanceOf 38 = .ok (.ireturn, 1) := by decide +kernel
theorem dX5_gameOf_0 : decode cX5_gameOf 0 = .ok (.iload_n 1, 1) := by decide +kernel
theorem dX5_gameOf_1 : decode cX5_gameOf 1 = .ok (.ifCond .lt 21, 3) := by decide +kernel
theorem dX5_gameOf_4 : decode cX5_gameOf 4 = .ok (.iload_n 1, 1) := by decide +kernel
theorem dX5_gameOf_5 : decode cX5_gameOf 5 = .ok (.aload_n 0, 1) := by decide +kernel
theorem dX5_gameOf_6 : decode cX5_gameOf 6 = .ok (.getfield 25, 3) := by decide +kernel
theorem dX5_gameOf_9 : decode cX5_gameOf 9 = .ok (.arraylength, 1) := by decide +kernel
theorem dX5_gameOf_10 : decode cX5_gameOf 10 = .ok (.if_icmp .ge 12, 3) := by decide +kernel
theorem dX5_gameOf_13 : decode cX5_gameOf 13 = .ok (.aload_n 0, 1) := by decide +kernel
theorem dX5_gameOf_14 : decode cX5_gameOf 14 = .ok (.getfield 25, 3) := by decide +kernel
theorem dX5_gameOf_17 : decode cX5_gameOf 17 = .ok (.iload_n 1, 1) := by decide +kernel
theorem dX5_gameOf_18 : decode cX5_gameOf 18 = .ok (.aaload, 1) := by decide +kernel
theorem dX5_gameOf_19 : decode cX5_gameOf 19 = .ok (.goto 4, 3) := by decide +kernel
theorem dX5_gameOf_22 : decode cX5_gameOf 22 = .ok (.aconst_null, 1) := by decide +kernel
theorem dX5_gameOf_23 : decode cX5_gameOf 23 = .ok (.astore_n 2, 1) := by decide +kernel
theorem dX5_gameOf_24 : decode cX5_gameOf 24 = .ok (.aload_n 2, 1) := by decide +kernel
theorem dX5_gameOf_25 : decode cX5_gameOf 25 = .ok (.ifnonnull 13, 3) := by decide +kernel
theorem dX5_gameOf_28 : decode cX5_gameOf 28 = .ok (.new 47, 3) := by decide +kernel
theorem dX5_gameOf_31 : decode cX5_gameOf 31 = .ok (.dup, 1) := by decide +kernel
theorem dX5_gameOf_32 : decode cX5_gameOf 32 = .ok (.ldc 230, 2) := by decide +kernel
theorem dX5_gameOf_34 : decode cX5_gameOf 34 = .ok (.invokespecial 51, 3) := by decide +kernel
theorem dX5_gameOf_37 : decode cX5_gameOf 37 = .ok (.athrow, 1) := by decide +kernel
theorem dX5_gameOf_38 : decode cX5_gameOf 38 = .ok (.aload_n 2, 1) := by decide +kernel
theorem dX5_gameOf_39 : decode cX5_gameOf 39 = .ok (.areturn, 1) := by decide +kernel
theorem dX5_sheetOf_0 : decode cX5_sheetOf 0 = .ok (.iload_n 1, 1) := by decide +kernel
theorem dX5_sheetOf_1 : decode cX5_sheetOf 1 = .ok (.ifCond .lt 21, 3) := by decide +kernel
theorem dX5_sheetOf_4 : decode cX5_sheetOf 4 = .ok (.iload_n 1, 1) := by decide +kernel
theorem dX5_sheetOf_5 : decode cX5_sheetOf 5 = .ok (.aload_n 0, 1) := by decide +kernel
theorem dX5_sheetOf_6 : decode cX5_sheetOf 6 = .ok (.getfield 11, 3) := by decide +kernel
theorem dX5_sheetOf_9 : decode cX5_sheetOf 9 = .ok (.arraylength, 1) := by decide +kernel
theorem dX5_sheetOf_10 : decode cX5_sheetOf 10 = .ok (.if_icmp .ge 12, 3) := by decide +kernel
theorem dX5_sheetOf_13 : decode cX5_sheetOf 13 = .ok (.aload_n 0, 1) := by decide +kernel
theorem dX5_sheetOf_14 : decode cX5_sheetOf 14 = .ok (.getfield 11, 3) := by decide +kernel
theorem dX5_sheetOf_17 : decode cX5_sheetOf 17 = .ok (.iload_n 1, 1) := by decide +kernel
theorem dX5_sheetOf_18 : decode cX5_sheetOf 18 = .ok (.aaload, 1) := by decide +kernel
theorem dX5_sheetOf_19 : decode cX5_sheetOf 19 = .ok (.goto 4, 3) := by decide +kernel
theorem dX5_sheetOf_22 : decode cX5_sheetOf 22 = .ok (.aconst_null, 1) := by decide +kernel
theorem dX5_sheetOf_23 : decode cX5_sheetOf 23 = .ok (.astore_n 2, 1) := by decide +kernel
theorem dX5_sheetOf_24 : decode cX5_sheetOf 24 = .ok (.aload_n 2, 1) := by decide +kernel
theorem dX5_sheetOf_25 : decode cX5_sheetOf 25 = .ok (.ifnonnull 13, 3) := by decide +kernel
theorem dX5_sheetOf_28 : decode cX5_sheetOf 28 = .ok (.new 47, 3) := by decide +kernel
theorem dX5_sheetOf_31 : decode cX5_sheetOf 31 = .ok (.dup, 1) := by decide +kernel
theorem dX5_sheetOf_32 : decode cX5_sheetOf 32 = .ok (.ldc 232, 2) := by decide +kernel
theorem dX5_sheetOf_34 : decode cX5_sheetOf 34 = .ok (.invokespecial 51, 3) := by decide +kernel
theorem dX5_sheetOf_37 : decode cX5_sheetOf 37 = .ok (.athrow, 1) := by decide +kernel
theorem dX5_sheetOf_38 : decode cX5_sheetOf 38 = .ok (.aload_n 2, 1) := by decide +kernel
theorem dX5_sheetOf_39 : decode cX5_sheetOf 39 = .ok (.areturn, 1) := by decide +kernel
theorem dX5_teamOf_0 : decode cX5_teamOf 0 = .ok (.iload_n 1, 1) := by decide +kernel
theorem dX5_teamOf_1 : decode cX5_teamOf 1 = .ok (.ifCond .lt 21, 3) := by decide +kernel
theorem dX5_teamOf_4 : decode cX5_teamOf 4 = .ok (.iload_n 1, 1) := by decide +kernel
theorem dX5_teamOf_5 : decode cX5_teamOf 5 = .ok (.aload_n 0, 1) := by decide +kernel
theorem dX5_teamOf_6 : decode cX5_teamOf 6 = .ok (.getfield 18, 3) := by decide +kernel
theorem dX5_teamOf_9 : decode cX5_teamOf 9 = .ok (.arraylength, 1) := by decide +kernel
theorem dX5_teamOf_10 : decode cX5_teamOf 10 = .ok (.if_icmp .ge 12, 3) := by decide +kernel
theorem dX5_teamOf_13 : decode cX5_teamOf 13 = .ok (.aload_n 0, 1) := by decide +kernel
theorem dX5_teamOf_14 : decode cX5_teamOf 14 = .ok (.getfield 18, 3) := by decide +kernel
theorem dX5_teamOf_17 : decode cX5_teamOf 17 = .ok (.iload_n 1, 1) := by decide +kernel
theorem dX5_teamOf_18 : decode cX5_teamOf 18 = .ok (.aaload, 1) := by decide +kernel
theorem dX5_teamOf_19 : decode cX5_teamOf 19 = .ok (.goto 4, 3) := by decide +kernel
theorem dX5_teamOf_22 : decode cX5_teamOf 22 = .ok (.aconst_null, 1) := by decide +kernel
theorem dX5_teamOf_23 : decode cX5_teamOf 23 = .ok (.astore_n 2, 1) := by decide +kernel
theorem dX5_teamOf_24 : decode cX5_teamOf 24 = .ok (.aload_n 2, 1) := by decide +kernel
theorem dX5_teamOf_25 : decode cX5_teamOf 25 = .ok (.ifnonnull 13, 3) := by decide +kernel
theorem dX5_teamOf_28 : decode cX5_teamOf 28 = .ok (.new 47, 3) := by decide +kernel
theorem dX5_teamOf_31 : decode cX5_teamOf 31 = .ok (.dup, 1) := by decide +kernel
theorem dX5_teamOf_32 : decode cX5_teamOf 32 = .ok (.ldc 234, 2) := by decide +kernel
theorem dX5_teamOf_34 : decode cX5_teamOf 34 = .ok (.invokespecial 51, 3) := by decide +kernel
theorem dX5_teamOf_37 : decode cX5_teamOf 37 = .ok (.athrow, 1) := by decide +kernel
theorem dX5_teamOf_38 : decode cX5_teamOf 38 = .ok (.aload_n 2, 1) := by decide +kernel
theorem dX5_teamOf_39 : decode cX5_teamOf 39 = .ok (.areturn, 1) := by decide +kernel
theorem dX5_settleDraw_0 : decode cX5_settleDraw 0 = .ok (.aload_n 0, 1) := by decide +kernel
theorem dX5_settleDraw_1 : decode cX5_settleDraw 1 = .ok (.aload_n 1, 1) := by decide +kernel
theorem dX5_settleDraw_2 : decode cX5_settleDraw 2 = .ok (.invokevirtual 181, 3) := by decide +kernel
theorem dX5_settleDraw_5 : decode cX5_settleDraw 5 = .ok (.ifCond .ne 10, 3) := by decide +kernel
theorem dX5_settleDraw_8 : decode cX5_settleDraw 8 = .ok (.aload_n 1, 1) := by decide +kernel
theorem dX5_settleDraw_9 : decode cX5_settleDraw 9 = .ok (.getfield 236, 3) := by decide +kernel
theorem dX5_settleDraw_12 : decode cX5_settleDraw 12 = .ok (.goto 7, 3) := by decide +kernel
theorem dX5_settleDraw_15 : decode cX5_settleDraw 15 = .ok (.aload_n 1, 1) := by decide +kernel
theorem dX5_settleDraw_16 : decode cX5_settleDraw 16 = .ok (.getfield 239, 3) := by decide +kernel
theorem dX5_settleDraw_19 : decode cX5_settleDraw 19 = .ok (.invokevirtual 209, 3) := by decide +kernel
theorem dX5_settleDraw_22 : decode cX5_settleDraw 22 = .ok (.astore_n 3, 1) := by decide +kernel
theorem dX5_settleDraw_23 : decode cX5_settleDraw 23 = .ok (.aload_n 3, 1) := by decide +kernel
theorem dX5_settleDraw_24 : decode cX5_settleDraw 24 = .ok (.dup, 1) := by decide +kernel
theorem dX5_settleDraw_25 : decode cX5_settleDraw 25 = .ok (.getfield 216, 3) := by decide +kernel
theorem dX5_settleDraw_28 : decode cX5_settleDraw 28 = .ok (.iconst 1, 1) := by decide +kernel
theorem dX5_settleDraw_29 : decode cX5_settleDraw 29 = .ok (.iadd, 1) := by decide +kernel
theorem dX5_settleDraw_30 : decode cX5_settleDraw 30 = .ok (.putfield 216, 3) := by decide +kernel
theorem dX5_settleDraw_33 : decode cX5_settleDraw 33 = .ok (.aload_n 3, 1) := by decide +kernel
theorem dX5_settleDraw_34 : decode cX5_settleDraw 34 = .ok (.dup, 1) := by decide +kernel
theorem dX5_settleDraw_35 : decode cX5_settleDraw 35 = .ok (.getfield 219, 3) := by decide +kernel
theorem dX5_settleDraw_38 : decode cX5_settleDraw 38 = .ok (.iload_n 2, 1) := by decide +kernel
theorem dX5_settleDraw_39 : decode cX5_settleDraw 39 = .ok (.iadd, 1) := by decide +kernel
theorem dX5_settleDraw_40 : decode cX5_settleDraw 40 = .ok (.putfield 219, 3) := by decide +kernel
theorem dX5_settleDraw_43 : decode cX5_settleDraw 43 = .ok (.aload_n 1, 1) := by decide +kernel
theorem dX5_settleDraw_44 : decode cX5_settleDraw 44 = .ok (.iload_n 2, 1) := by decide +kernel
theorem dX5_settleDraw_45 : decode cX5_settleDraw 45 = .ok (.invokevirtual 242, 3) := by decide +kernel
theorem dX5_settleDraw_48 : decode cX5_settleDraw 48 = .ok (.return_, 1) := by decide +kernel
theorem dX5_settleStone_0 : decode cX5_settleStone 0 = .ok (.aload_n 1, 1) := by decide +kernel
theorem dX5_settleStone_1 : decode cX5_settleStone 1 = .ok (.dup, 1) := by decide +kernel
theorem dX5_settleStone_2 : decode cX5_settleStone 2 = .ok (.getfield 246, 3) := by decide +kernel
theorem dX5_settleStone_5 : decode cX5_settleStone 5 = .ok (.iconst 1, 1) := by decide +kernel
theorem dX5_settleStone_6 : decode cX5_settleStone 6 = .ok (.iadd, 1) := by decide +kernel
theorem dX5_settleStone_7 : decode cX5_settleStone 7 = .ok (.putfield 246, 3) := by decide +kernel
theorem dX5_settleStone_10 : decode cX5_settleStone 10 = .ok (.aload_n 1, 1) := by decide +kernel
theorem dX5_settleStone_11 : decode cX5_settleStone 11 = .ok (.getfield 246, 3) := by decide +kernel
theorem dX5_settleStone_14 : decode cX5_settleStone 14 = .ok (.bipush 6, 2) := by decide +kernel
theorem dX5_settleStone_16 : decode cX5_settleStone 16 = .ok (.if_icmp .ge 4, 3) := by decide +kernel
theorem dX5_settleStone_19 : decode cX5_settleStone 19 = .ok (.return_, 1) := by decide +kernel
theorem dX5_settleStone_20 : decode cX5_settleStone 20 = .ok (.aload_n 1, 1) := by decide +kernel
theorem dX5_settleStone_21 : decode cX5_settleStone 21 = .ok (.invokevirtual 249, 3) := by decide +kernel
theorem dX5_settleStone_24 : decode cX5_settleStone 24 = .ok (.aload_n 1, 1) := by decide +kernel
theorem dX5_settleStone_25 : decode cX5_settleStone 25 = .ok (.getfield 178, 3) := by decide +kernel
theorem dX5_settleStone_28 : decode cX5_settleStone 28 = .ok (.iconst 4, 1) := by decide +kernel
theorem dX5_settleStone_29 : decode cX5_settleStone 29 = .ok (.if_icmp .ne 8, 3) := by decide +kernel
theorem dX5_settleStone_32 : decode cX5_settleStone 32 = .ok (.aload_n 0, 1) := by decide +kernel
theorem dX5_settleStone_33 : decode cX5_settleStone 33 = .ok (.aload_n 1, 1) := by decide +kernel
theorem dX5_settleStone_34 : decode cX5_settleStone 34 = .ok (.invokevirtual 252, 3) := by decide +kernel
theorem dX5_settleStone_37 : decode cX5_settleStone 37 = .ok (.return_, 1) := by decide +kernel
theorem dX5_closeGame_0 : decode cX5_closeGame 0 = .ok (.aload_n 1, 1) := by decide +kernel
theorem dX5_closeGame_1 : decode cX5_closeGame 1 = .ok (.iconst 3, 1) := by decide +kernel
theorem dX5_closeGame_2 : decode cX5_closeGame 2 = .ok (.putfield 114, 3) := by decide +kernel
theorem dX5_closeGame_5 : decode cX5_closeGame 5 = .ok (.aload_n 1, 1) := by decide +kernel
theorem dX5_closeGame_6 : decode cX5_closeGame 6 = .ok (.iconst (-1), 1) := by decide +kernel
theorem dX5_closeGame_7 : decode cX5_closeGame 7 = .ok (.putfield 184, 3) := by decide +kernel
theorem dX5_closeGame_10 : decode cX5_closeGame 10 = .ok (.aload_n 0, 1) := by decide +kernel
theorem dX5_closeGame_11 : decode cX5_closeGame 11 = .ok (.aload_n 1, 1) := by decide +kernel
theorem dX5_closeGame_12 : decode cX5_closeGame 12 = .ok (.getfield 95, 3) := by decide +kernel
theorem dX5_closeGame_15 : decode cX5_closeGame 15 = .ok (.invokevirtual 98, 3) := by decide +kernel
theorem dX5_closeGame_18 : decode cX5_closeGame 18 = .ok (.iconst (-1), 1) := by decide +kernel
theorem dX5_closeGame_19 : decode cX5_closeGame 19 = .ok (.putfield 148, 3) := by decide +kernel
theorem dX5_closeGame_22 : decode cX5_closeGame 22 = .ok (.aload_n 1, 1) := by decide +kernel
theorem dX5_closeGame_23 : decode cX5_closeGame 23 = .ok (.getfield 172, 3) := by decide +kernel
theorem dX5_closeGame_26 : decode cX5_closeGame 26 = .ok (.aload_n 1, 1) := by decide +kernel
theorem dX5_closeGame_27 : decode cX5_closeGame 27 = .ok (.getfield 175, 3) := by decide +kernel
theorem dX5_closeGame_30 : decode cX5_closeGame 30 = .ok (.if_icmp .le 23, 3) := by decide +kernel
theorem dX5_closeGame_33 : decode cX5_closeGame 33 = .ok (.aload_n 0, 1) := by decide +kernel
theorem dX5_closeGame_34 : decode cX5_closeGame 34 = .ok (.aload_n 1, 1) := by decide +kernel
theorem dX5_closeGame_35 : decode cX5_closeGame 35 = .ok (.getfield 236, 3) := by decide +kernel
theorem dX5_closeGame_38 : decode cX5_closeGame 38 = .ok (.invokevirtual 209, 3) := by decide +kernel
theorem dX5_closeGame_41 : decode cX5_closeGame 41 = .ok (.dup, 1) := by decide +kernel
theorem dX5_closeGame_42 : decode cX5_closeGame 42 = .ok (.getfield 213, 3) := by decide +kernel
theorem dX5_closeGame_45 : decode cX5_closeGame 45 = .ok (.iconst 1, 1) := by decide +kernel
theorem dX5_closeGame_46 : decode cX5_closeGame 46 = .ok (.iadd, 1) := by decide +kernel
theorem dX5_closeGame_47 : decode cX5_closeGame 47 = .ok (.putfield 213, 3) := by decide +kernel
theorem dX5_closeGame_50 : decode cX5_closeGame 50 = .ok (.goto 31, 3) := by decide +kernel
theorem dX5_closeGame_53 : decode cX5_closeGame 53 = .ok (.aload_n 1, 1) := by decide +kernel
theorem dX5_closeGame_54 : decode cX5_closeGame 54 = .ok (.getfield 175, 3) := by decide +kernel
theorem dX5_closeGame_57 : decode cX5_closeGame 57 = .ok (.aload_n 1, 1) := by decide +kernel
theorem dX5_closeGame_58 : decode cX5_closeGame 58 = .ok (.getfield 172, 3) := by decide +kernel
theorem dX5_closeGame_61 : decode cX5_closeGame 61 = .ok (.if_icmp .le 20, 3) := by decide +kernel
theorem dX5_closeGame_64 : decode cX5_closeGame 64 = .ok (.aload_n 0, 1) := by decide +kernel
theorem dX5_closeGame_65 : decode cX5_closeGame 65 = .ok (.aload_n 1, 1) := by decide +kernel
theorem dX5_closeGame_66 : decode cX5_closeGame 66 = .ok (.getfield 239, 3) := by decide +kernel
theorem dX5_closeGame_69 : decode cX5_closeGame 69 = .ok (.invokevirtual 209, 3) := by decide +kernel
theorem dX5_closeGame_72 : decode cX5_closeGame 72 = .ok (.dup, 1) := by decide +kernel
theorem dX5_closeGame_73 : decode cX5_closeGame 73 = .ok (.getfield 213, 3) := by decide +kernel
theorem dX5_closeGame_76 : decode cX5_closeGame 76 = .ok (.iconst 1, 1) := by decide +kernel
theorem dX5_closeGame_77 : decode cX5_closeGame 77 = .ok (.iadd, 1) := by decide +kernel
theorem dX5_closeGame_78 : decode cX5_closeGame 78 = .ok (.putfield 213, 3) := by decide +kernel
theorem dX5_closeGame_81 : decode cX5_closeGame 81 = .ok (.return_, 1) := by decide +kernel
theorem dX5_workAnHour_0 : decode cX5_workAnHour 0 = .ok (.aload_n 0, 1) := by decide +kernel
theorem dX5_workAnHour_1 : decode cX5_workAnHour 1 = .ok (.getfield 154, 3) := by decide +kernel
theorem dX5_workAnHour_4 : decode cX5_workAnHour 4 = .ok (.ifCond .le 13, 3) := by decide +kernel
theorem dX5_workAnHour_7 : decode cX5_workAnHour 7 = .ok (.aload_n 0, 1) := by decide +kernel
theorem dX5_workAnHour_8 : decode cX5_workAnHour 8 = .ok (.dup, 1) := by decide +kernel
theorem dX5_workAnHour_9 : decode cX5_workAnHour 9 = .ok (.getfield 154, 3) := by decide +kernel
theorem dX5_workAnHour_12 : decode cX5_workAnHour 12 = .ok (.iconst 1, 1) := by decide +kernel
theorem dX5_workAnHour_13 : decode cX5_workAnHour 13 = .ok (.isub, 1) := by decide +kernel
theorem dX5_workAnHour_14 : decode cX5_workAnHour 14 = .ok (.putfield 154, 3) := by decide +kernel
theorem dX5_workAnHour_17 : decode cX5_workAnHour 17 = .ok (.aload_n 0, 1) := by decide +kernel
theorem dX5_workAnHour_18 : decode cX5_workAnHour 18 = .ok (.getfield 154, 3) := by decide +kernel
theorem dX5_workAnHour_21 : decode cX5_workAnHour 21 = .ok (.ifCond .le 4, 3) := by decide +kernel
theorem dX5_workAnHour_24 : decode cX5_workAnHour 24 = .ok (.return_, 1) := by decide +kernel
theorem dX5_workAnHour_25 : decode cX5_workAnHour 25 = .ok (.aload_n 0, 1) := by decide +kernel
theorem dX5_workAnHour_26 : decode cX5_workAnHour 26 = .ok (.getfield 40, 3) := by decide +kernel
theorem dX5_workAnHour_29 : decode cX5_workAnHour 29 = .ok (.iconst (-1), 1) := by decide +kernel
theorem dX5_workAnHour_30 : decode cX5_workAnHour 30 = .ok (.if_icmp .eq 14, 3) := by decide +kernel
theorem dX5_workAnHour_33 : decode cX5_workAnHour 33 = .ok (.aload_n 0, 1) := by decide +kernel
theorem dX5_workAnHour_34 : decode cX5_workAnHour 34 = .ok (.aload_n 0, 1) := by decide +kernel
theorem dX5_workAnHour_35 : decode cX5_workAnHour 35 = .ok (.getfield 40, 3) := by decide +kernel
theorem dX5_workAnHour_38 : decode cX5_workAnHour 38 = .ok (.invokevirtual 98, 3) := by decide +kernel
theorem dX5_workAnHour_41 : decode cX5_workAnHour 41 = .ok (.invokevirtual 255, 3) := by decide +kernel
theorem dX5_workAnHour_44 : decode cX5_workAnHour 44 = .ok (.aload_n 0, 1) := by decide +kernel
theorem dX5_workAnHour_45 : decode cX5_workAnHour 45 = .ok (.aload_n 0, 1) := by decide +kernel
theorem dX5_workAnHour_46 : decode cX5_workAnHour 46 = .ok (.invokevirtual 258, 3) := by decide +kernel
theorem dX5_workAnHour_49 : decode cX5_workAnHour 49 = .ok (.putfield 40, 3) := by decide +kernel
theorem dX5_workAnHour_52 : decode cX5_workAnHour 52 = .ok (.aload_n 0, 1) := by decide +kernel
theorem dX5_workAnHour_53 : decode cX5_workAnHour 53 = .ok (.getfield 40, 3) := by decide +kernel
theorem dX5_workAnHour_56 : decode cX5_workAnHour 56 = .ok (.iconst (-1), 1) := by decide +kernel
theorem dX5_workAnHour_57 : decode cX5_workAnHour 57 = .ok (.if_icmp .eq 11, 3) := by decide +kernel
theorem dX5_workAnHour_60 : decode cX5_workAnHour 60 = .ok (.aload_n 0, 1) := by decide +kernel
theorem dX5_workAnHour_61 : decode cX5_workAnHour 61 = .ok (.aload_n 0, 1) := by decide +kernel
theorem dX5_workAnHour_62 : decode cX5_workAnHour 62 = .ok (.getfield 36, 3) := by decide +kernel
theorem dX5_workAnHour_65 : decode cX5_workAnHour 65 = .ok (.putfield 154, 3) := by decide +kernel
theorem dX5_workAnHour_68 : decode cX5_workAnHour 68 = .ok (.return_, 1) := by decide +kernel
theorem dX5_sheetToMake_0 : decode cX5_sheetToMake 0 = .ok (.iconst (-1), 1) := by decide +kernel
theorem dX5_sheetToMake_1 : decode cX5_sheetToMake 1 = .ok (.istore_n 1, 1) := by decide +kernel
theorem dX5_sheetToMake_2 : decode cX5_sheetToMake 2 = .ok (.iconst 0, 1) := by decide +kernel
theorem dX5_sheetToMake_3 : decode cX5_sheetToMake 3 = .ok (.istore_n 2, 1) := by decide +kernel
theorem dX5_sheetToMake_4 : decode cX5_sheetToMake 4 = .ok (.iconst 0, 1) := by decide +kernel
theorem dX5_sheetToMake_5 : decode cX5_sheetToMake 5 = .ok (.istore_n 3, 1) := by decide +kernel
theorem dX5_sheetToMake_6 : decode cX5_sheetToMake 6 = .ok (.iload_n 3, 1) := by decide +kernel
theorem dX5_sheetToMake_7 : decode cX5_sheetToMake 7 = .ok (.iconst 3, 1) := by decide +kernel
theorem dX5_sheetToMake_8 : decode cX5_sheetToMake 8 = .ok (.if_icmp .ge 59, 3) := by decide +kernel
theorem dX5_sheetToMake_11 : decode cX5_sheetToMake 11 = .ok (.aload_n 0, 1) := by decide +kernel
theorem dX5_sheetToMake_12 : decode cX5_sheetToMake 12 = .ok (.iload_n 3, 1) := by decide +kernel
theorem dX5_sheetToMake_13 : decode cX5_sheetToMake 13 = .ok (.invokevirtual 98, 3) := by decide +kernel
theorem dX5_sheetToMake_16 : decode cX5_sheetToMake 16 = .ok (.astore 4, 2) := by decide +kernel
theorem dX5_sheetToMake_18 : decode cX5_sheetToMake 18 = .ok (.aload 4, 2) := by decide +kernel
theorem dX5_sheetToMake_20 : decode cX5_sheetToMake 20 = .ok (.getfield 144, 3) := by decide +kernel
theorem dX5_sheetToMake_23 : decode cX5_sheetToMake 23 = .ok (.ifCond .ne 38, 3) := by decide +kernel
theorem dX5_sheetToMake_26 : decode cX5_sheetToMake 26 = .ok (.aload 4, 2) := by decide +kernel
theorem dX5_sheetToMake_28 : decode cX5_sheetToMake 28 = .ok (.getfield 148, 3) := by decide +kernel
theorem dX5_sheetToMake_31 : decode cX5_sheetToMake 31 = .ok (.iconst (-1), 1) := by decide +kernel
theorem dX5_sheetToMake_32 : decode cX5_sheetToMake 32 = .ok (.if_icmp .eq 6, 3) := by decide +kernel
theorem dX5_sheetToMake_35 : decode cX5_sheetToMake 35 = .ok (.goto 26, 3) := by decide +kernel
theorem dX5_sheetToMake_38 : decode cX5_sheetToMake 38 = .ok (.aload_n 0, 1) := by decide +kernel
theorem dX5_sheetToMake_39 : decode cX5_sheetToMake 39 = .ok (.iload_n 3, 1) := by decide +kernel
theorem dX5_sheetToMake_40 : decode cX5_sheetToMake 40 = .ok (.invokevirtual 261, 3) := by decide +kernel
theorem dX5_sheetToMake_43 : decode cX5_sheetToMake 43 = .ok (.istore 5, 2) := by decide +kernel
theorem dX5_sheetToMake_45 : decode cX5_sheetToMake 45 = .ok (.iload_n 1, 1) := by decide +kernel
theorem dX5_sheetToMake_46 : decode cX5_sheetToMake 46 = .ok (.iconst (-1), 1) := by decide +kernel
theorem dX5_sheetToMake_47 : decode cX5_sheetToMake 47 = .ok (.if_icmp .eq 9, 3) := by decide +kernel
theorem dX5_sheetToMake_50 : decode cX5_sheetToMake 50 = .ok (.iload 5, 2) := by decide +kernel
theorem dX5_sheetToMake_52 : decode cX5_sheetToMake 52 = .ok (.iload_n 2, 1) := by decide +kernel
theorem dX5_sheetToMake_53 : decode cX5_sheetToMake 53 = .ok (.if_icmp .ge 8, 3) := by decide +kernel
theorem dX5_sheetToMake_56 : decode cX5_sheetToMake 56 = .ok (.iload_n 3, 1) := by decide +kernel
theorem dX5_sheetToMake_57 : decode cX5_sheetToMake 57 = .ok (.istore_n 1, 1) := by decide +kernel
theorem dX5_sheetToMake_58 : decode cX5_sheetToMake 58 = .ok (.iload 5, 2) := by decide +kernel
theorem dX5_sheetToMake_60 : decode cX5_sheetToMake 60 = .ok (.istore_n 2, 1) := by decide +kernel
theorem dX5_sheetToMake_61 : decode cX5_sheetToMake 61 = .ok (.iinc 3 1, 3) := by decide +kernel
theorem dX5_sheetToMake_64 : decode cX5_sheetToMake 64 = .ok (.goto (-58), 3) := by decide +kernel
theorem dX5_sheetToMake_67 : decode cX5_sheetToMake 67 = .ok (.iload_n 1, 1) := by decide +kernel
theorem dX5_sheetToMake_68 : decode cX5_sheetToMake 68 = .ok (.ireturn, 1) := by decide +kernel
theorem dX5_leastHourWished_0 : decode cX5_leastHourWished 0 = .ok (.sipush 19998, 3) := by decide +kernel
theorem dX5_leastHourWished_3 : decode cX5_leastHourWished 3 = .ok (.istore_n 2, 1) := by decide +kernel
theorem dX5_leastHourWished_4 : decode cX5_leastHourWished 4 = .ok (.iconst 0, 1) := by decide +kernel
theorem dX5_leastHourWished_5 : decode cX5_leastHourWished 5 = .ok (.istore_n 3, 1) := by decide +kernel
theorem dX5_leastHourWished_6 : decode cX5_leastHourWished 6 = .ok (.iload_n 3, 1) := by decide +kernel
theorem dX5_leastHourWished_7 : decode cX5_leastHourWished 7 = .ok (.aload_n 0, 1) := by decide +kernel
theorem dX5_leastHourWished_8 : decode cX5_leastHourWished 8 = .ok (.getfield 25, 3) := by decide +kernel
theorem dX5_leastHourWished_11 : decode cX5_leastHourWished 11 = .ok (.arraylength, 1) := by decide +kernel
theorem dX5_leastHourWished_12 : decode cX5_leastHourWished 12 = .ok (.if_icmp .ge 49, 3) := by decide +kernel
theorem dX5_leastHourWished_15 : decode cX5_leastHourWished 15 = .ok (.aload_n 0, 1) := by decide +kernel
theorem dX5_leastHourWished_16 : decode cX5_leastHourWished 16 = .ok (.getfield 25, 3) := by decide +kernel
theorem dX5_leastHourWished_19 : decode cX5_leastHourWished 19 = .ok (.iload_n 3, 1) := by decide +kernel
theorem dX5_leastHourWished_20 : decode cX5_leastHourWished 20 = .ok (.aaload, 1) := by decide +kernel
theorem dX5_leastHourWished_21 : decode cX5_leastHourWished 21 = .ok (.astore 4, 2) := by decide +kernel
theorem dX5_leastHourWished_23 : decode cX5_leastHourWished 23 = .ok (.aload 4, 2) := by decide +kernel
theorem dX5_leastHourWished_25 : decode cX5_leastHourWished 25 = .ok (.ifnull 30, 3) := by decide +kernel
theorem dX5_leastHourWished_28 : decode cX5_leastHourWished 28 = .ok (.aload 4, 2) := by decide +kernel
theorem dX5_leastHourWished_30 : decode cX5_leastHourWished 30 = .ok (.getfield 114, 3) := by decide +kernel
theorem dX5_leastHourWished_33 : decode cX5_leastHourWished 33 = .ok (.ifCond .ne 22, 3) := by decide +kernel
theorem dX5_leastHourWished_36 : decode cX5_leastHourWished 36 = .ok (.aload 4, 2) := by decide +kernel
theorem dX5_leastHourWished_38 : decode cX5_leastHourWished 38 = .ok (.getfield 264, 3) := by decide +kernel
theorem dX5_leastHourWished_41 : decode cX5_leastHourWished 41 = .ok (.iload_n 1, 1) := by decide +kernel
theorem dX5_leastHourWished_42 : decode cX5_leastHourWished 42 = .ok (.if_icmp .ne 13, 3) := by decide +kernel
theorem dX5_leastHourWished_45 : decode cX5_leastHourWished 45 = .ok (.iload_n 2, 1) := by decide +kernel
theorem dX5_leastHourWished_46 : decode cX5_leastHourWished 46 = .ok (.aload 4, 2) := by decide +kernel
theorem dX5_leastHourWished_48 : decode cX5_leastHourWished 48 = .ok (.getfield 169, 3) := by decide +kernel
theorem dX5_leastHourWished_51 : decode cX5_leastHourWished 51 = .ok (.invokestatic 227, 3) := by decide +kernel
theorem dX5_leastHourWished_54 : decode cX5_leastHourWished 54 = .ok (.istore_n 2, 1) := by decide +kernel
theorem dX5_leastHourWished_55 : decode cX5_leastHourWished 55 = .ok (.iinc 3 1, 3) := by decide +kernel
theorem dX5_leastHourWished_58 : decode cX5_leastHourWished 58 = .ok (.goto (-52), 3) := by decide +kernel
theorem dX5_leastHourWished_61 : decode cX5_leastHourWished 61 = .ok (.iload_n 2, 1) := by decide +kernel
theorem dX5_leastHourWished_62 : decode cX5_leastHourWished 62 = .ok (.ireturn, 1) := by decide +kernel
theorem dX5_beginGames_0 : decode cX5_beginGames 0 = .ok (.iconst 0, 1) := by decide +kernel
theorem dX5_beginGames_1 : decode cX5_beginGames 1 = .ok (.istore_n 1, 1) := by decide +kernel
theorem dX5_beginGames_2 : decode cX5_beginGames 2 = .ok (.iload_n 1, 1) := by decide +kernel
theorem dX5_beginGames_3 : decode cX5_beginGames 3 = .ok (.aload_n 0, 1) := by decide +kernel
theorem dX5_beginGames_4 : decode cX5_beginGames 4 = .ok (.getfield 25, 3) := by decide +kernel
theorem dX5_beginGames_7 : decode cX5_beginGames 7 = .ok (.arraylength, 1) := by decide +kernel
theorem dX5_beginGames_8 : decode cX5_beginGames 8 = .ok (.if_icmp .ge 97, 3) := by decide +kernel
theorem dX5_beginGames_11 : decode cX5_beginGames 11 = .ok (.aload_n 0, 1) := by decide +kernel
theorem dX5_beginGames_12 : decode cX5_beginGames 12 = .ok (.getfield 25, 3) := by decide +kernel
theorem dX5_beginGames_15 : decode cX5_beginGames 15 = .ok (.iload_n 1, 1) := by decide +kernel
theorem dX5_beginGames_16 : decode cX5_beginGames 16 = .ok (.aaload, 1) := by decide +kernel
theorem dX5_beginGames_17 : decode cX5_beginGames 17 = .ok (.astore_n 2, 1) := by decide +kernel
theorem dX5_beginGames_18 : decode cX5_beginGames 18 = .ok (.aload_n 2, 1) := by decide +kernel
theorem dX5_beginGames_19 : decode cX5_beginGames 19 = .ok (.ifnull 80, 3) := by decide +kernel
theorem dX5_beginGames_22 : decode cX5_beginGames 22 = .ok (.aload_n 2, 1) := by decide +kernel
theorem dX5_beginGames_23 : decode cX5_beginGames 23 = .ok (.getfield 114, 3) := by decide +kernel
theorem dX5_beginGames_26 : decode cX5_beginGames 26 = .ok (.ifCond .ne 73, 3) := by decide +kernel
theorem dX5_beginGames_29 : decode cX5_beginGames 29 = .ok (.aload_n 2, 1) := by decide +kernel
theorem dX5_beginGames_30 : decode cX5_beginGames 30 = .ok (.getfield 169, 3) := by decide +kernel
theorem dX5_beginGames_33 : decode cX5_beginGames 33 = .ok (.aload_n 0, 1) := by decide +kernel
theorem dX5_beginGames_34 : decode cX5_beginGames 34 = .ok (.getfield 54, 3) := by decide +kernel
theorem dX5_beginGames_37 : decode cX5_beginGames 37 = .ok (.if_icmp .le 6, 3) := by decide +kernel
theorem dX5_beginGames_40 : decode cX5_beginGames 40 = .ok (.goto 59, 3) := by decide +kernel
theorem dX5_beginGames_43 : decode cX5_beginGames 43 = .ok (.aload_n 0, 1) := by decide +kernel
theorem dX5_beginGames_44 : decode cX5_beginGames 44 = .ok (.aload_n 2, 1) := by decide +kernel
theorem dX5_beginGames_45 : decode cX5_beginGames 45 = .ok (.getfield 264, 3) := by decide +kernel
theorem dX5_beginGames_48 : decode cX5_beginGames 48 = .ok (.invokevirtual 267, 3) := by decide +kernel
theorem dX5_beginGames_51 : decode cX5_beginGames 51 = .ok (.istore_n 3, 1) := by decide +kernel
theorem dX5_beginGames_52 : decode cX5_beginGames 52 = .ok (.iload_n 3, 1) := by decide +kernel
theorem dX5_beginGames_53 : decode cX5_beginGames 53 = .ok (.iconst (-1), 1) := by decide +kernel
theorem dX5_beginGames_54 : decode cX5_beginGames 54 = .ok (.if_icmp .ne 16, 3) := by decide +kernel
theorem dX5_beginGames_57 : decode cX5_beginGames 57 = .ok (.aload_n 2, 1) := by decide +kernel
theorem dX5_beginGames_58 : decode cX5_beginGames 58 = .ok (.dup, 1) := by decide +kernel
theorem dX5_beginGames_59 : decode cX5_beginGames 59 = .ok (.getfield 169, 3) := by decide +kernel
theorem dX5_beginGames_62 : decode cX5_beginGames 62 = .ok (.iconst 1, 1) := by decide +kernel
theorem dX5_beginGames_63 : decode cX5_beginGames 63 = .ok (.iadd, 1) := by decide +kernel
theorem dX5_beginGames_64 : decode cX5_beginGames 64 = .ok (.putfield 169, 3) := by decide +kernel
theorem dX5_beginGames_67 : decode cX5_beginGames 67 = .ok (.goto 32, 3) := by decide +kernel
theorem dX5_beginGames_70 : decode cX5_beginGames 70 = .ok (.aload_n 0, 1) := by decide +kernel
theorem dX5_beginGames_71 : decode cX5_beginGames 71 = .ok (.iload_n 3, 1) := by decide +kernel
theorem dX5_beginGames_72 : decode cX5_beginGames 72 = .ok (.invokevirtual 98, 3) := by decide +kernel
theorem dX5_beginGames_75 : decode cX5_beginGames 75 = .ok (.astore 4, 2) := by decide +kernel
theorem dX5_beginGames_77 : decode cX5_beginGames 77 = .ok (.aload 4, 2) := by decide +kernel
theorem dX5_beginGames_79 : decode cX5_beginGames 79 = .ok (.iconst 0, 1) := by decide +kernel
theorem dX5_beginGames_80 : decode cX5_beginGames 80 = .ok (.putfield 144, 3) := by decide +kernel
theorem dX5_beginGames_83 : decode cX5_beginGames 83 = .ok (.aload 4, 2) := by decide +kernel
theorem dX5_beginGames_85 : decode cX5_beginGames 85 = .ok (.iload_n 1, 1) := by decide +kernel
theorem dX5_beginGames_86 : decode cX5_beginGames 86 = .ok (.putfield 148, 3) := by decide +kernel
theorem dX5_beginGames_89 : decode cX5_beginGames 89 = .ok (.aload_n 2, 1) := by decide +kernel
theorem dX5_beginGames_90 : decode cX5_beginGames 90 = .ok (.iload_n 3, 1) := by decide +kernel
theorem dX5_beginGames_91 : decode cX5_beginGames 91 = .ok (.putfield 95, 3) := by decide +kernel
theorem dX5_beginGames_94 : decode cX5_beginGames 94 = .ok (.aload_n 2, 1) := by decide +kernel
theorem dX5_beginGames_95 : decode cX5_beginGames 95 = .ok (.iconst 1, 1) := by decide +kernel
theorem dX5_beginGames_96 : decode cX5_beginGames 96 = .ok (.putfield 114, 3) := by decide +kernel
theorem dX5_beginGames_99 : decode cX5_beginGames 99 = .ok (.iinc 1 1, 3) := by decide +kernel
theorem dX5_beginGames_102 : decode cX5_beginGames 102 = .ok (.goto (-100), 3) := by decide +kernel
theorem dX5_beginGames_105 : decode cX5_beginGames 105 = .ok (.return_, 1) := by decide +kernel
theorem dX5_sheetToPlay_0 : decode cX5_sheetToPlay 0 = .ok (.aload_n 0, 1) := by decide +kernel
theorem dX5_sheetToPlay_1 : decode cX5_sheetToPlay 1 = .ok (.iload_n 1, 1) := by decide +kernel
theorem dX5_sheetToPlay_2 : decode cX5_sheetToPlay 2 = .ok (.invokevirtual 98, 3) := by decide +kernel
theorem dX5_sheetToPlay_5 : decode cX5_sheetToPlay 5 = .ok (.invokevirtual 270, 3) := by decide +kernel
theorem dX5_sheetToPlay_8 : decode cX5_sheetToPlay 8 = .ok (.ifCond .eq 5, 3) := by decide +kernel
theorem dX5_sheetToPlay_11 : decode cX5_sheetToPlay 11 = .ok (.iload_n 1, 1) := by decide +kernel
theorem dX5_sheetToPlay_12 : decode cX5_sheetToPlay 12 = .ok (.ireturn, 1) := by decide +kernel
theorem dX5_sheetToPlay_13 : decode cX5_sheetToPlay 13 = .ok (.iconst 0, 1) := by decide +kernel
theorem dX5_sheetToPlay_14 : decode cX5_sheetToPlay 14 = .ok (.istore_n 2, 1) := by decide +kernel
theorem dX5_sheetToPlay_15 : decode cX5_sheetToPlay 15 = .ok (.iload_n 2, 1) := by decide +kernel
theorem dX5_sheetToPlay_16 : decode cX5_sheetToPlay 16 = .ok (.iconst 3, 1) := by decide +kernel
theorem dX5_sheetToPlay_17 : decode cX5_sheetToPlay 17 = .ok (.if_icmp .ge 22, 3) := by decide +kernel
theorem dX5_sheetToPlay_20 : decode cX5_sheetToPlay 20 = .ok (.aload_n 0, 1) := by decide +kernel
theorem dX5_sheetToPlay_21 : decode cX5_sheetToPlay 21 = .ok (.iload_n 2, 1) := by decide +kernel
theorem dX5_sheetToPlay_22 : decode cX5_sheetToPlay 22 = .ok (.invokevirtual 98, 3) := by decide +kernel
theorem dX5_sheetToPlay_25 : decode cX5_sheetToPlay 25 = .ok (.invokevirtual 270, 3) := by decide +kernel
theorem dX5_sheetToPlay_28 : decode cX5_sheetToPlay 28 = .ok (.ifCond .eq 5, 3) := by decide +kernel
theorem dX5_sheetToPlay_31 : decode cX5_sheetToPlay 31 = .ok (.iload_n 2, 1) := by decide +kernel
theorem dX5_sheetToPlay_32 : decode cX5_sheetToPlay 32 = .ok (.ireturn, 1) := by decide +kernel
theorem dX5_sheetToPlay_33 : decode cX5_sheetToPlay 33 = .ok (.iinc 2 1, 3) := by decide +kernel
theorem dX5_sheetToPlay_36 : decode cX5_sheetToPlay 36 = .ok (.goto (-21), 3) := by decide +kernel
theorem dX5_sheetToPlay_39 : decode cX5_sheetToPlay 39 = .ok (.iconst (-1), 1) := by decide +kernel
theorem dX5_sheetToPlay_40 : decode cX5_sheetToPlay 40 = .ok (.ireturn, 1) := by decide +kernel
theorem dX5_worthOfShot_0 : decode cX5_worthOfShot 0 = .ok (.aload_n 0, 1) := by decide +kernel
theorem dX5_worthOfShot_1 : decode cX5_worthOfShot 1 = .ok (.aload_n 1, 1) := by decide +kernel
theorem dX5_worthOfShot_2 : decode cX5_worthOfShot 2 = .ok (.iload_n 2, 1) := by decide +kernel
theorem dX5_worthOfShot_3 : decode cX5_worthOfShot 3 = .ok (.iload_n 3, 1) := by decide +kernel
theorem dX5_worthOfShot_4 : decode cX5_worthOfShot 4 = .ok (.iload 4, 2) := by decide +kernel
theorem dX5_worthOfShot_6 : decode cX5_worthOfShot 6 = .ok (.invokevirtual 273, 3) := by decide +kernel
theorem dX5_worthOfShot_9 : decode cX5_worthOfShot 9 = .ok (.istore 5, 2) := by decide +kernel
theorem dX5_worthOfShot_11 : decode cX5_worthOfShot 11 = .ok (.iload 5, 2) := by decide +kernel
theorem dX5_worthOfShot_13 : decode cX5_worthOfShot 13 = .ok (.aload_n 0, 1) := by decide +kernel
theorem dX5_worthOfShot_14 : decode cX5_worthOfShot 14 = .ok (.aload_n 1, 1) := by decide +kernel
theorem dX5_worthOfShot_15 : decode cX5_worthOfShot 15 = .ok (.iload_n 2, 1) := by decide +kernel
theorem dX5_worthOfShot_16 : decode cX5_worthOfShot 16 = .ok (.iload_n 3, 1) := by decide +kernel
theorem dX5_worthOfShot_17 : decode cX5_worthOfShot 17 = .ok (.iconst 5, 1) := by decide +kernel
theorem dX5_worthOfShot_18 : decode cX5_worthOfShot 18 = .ok (.isub, 1) := by decide +kernel
theorem dX5_worthOfShot_19 : decode cX5_worthOfShot 19 = .ok (.iload 4, 2) := by decide +kernel
theorem dX5_worthOfShot_21 : decode cX5_worthOfShot 21 = .ok (.invokevirtual 273, 3) := by decide +kernel
theorem dX5_worthOfShot_24 : decode cX5_worthOfShot 24 = .ok (.invokestatic 227, 3) := by decide +kernel
theorem dX5_worthOfShot_27 : decode cX5_worthOfShot 27 = .ok (.istore 5, 2) := by decide +kernel
theorem dX5_worthOfShot_29 : decode cX5_worthOfShot 29 = .ok (.iload 5, 2) := by decide +kernel
theorem dX5_worthOfShot_31 : decode cX5_worthOfShot 31 = .ok (.aload_n 0, 1) := by decide +kernel
theorem dX5_worthOfShot_32 : decode cX5_worthOfShot 32 = .ok (.aload_n 1, 1) := by decide +kernel
theorem dX5_worthOfShot_33 : decode cX5_worthOfShot 33 = .ok (.iload_n 2, 1) := by decide +kernel
theorem dX5_worthOfShot_34 : decode cX5_worthOfShot 34 = .ok (.iload_n 3, 1) := by decide +kernel
theorem dX5_worthOfShot_35 : decode cX5_worthOfShot 35 = .ok (.iconst 5, 1) := by decide +kernel
theorem dX5_worthOfShot_36 : decode cX5_worthOfShot 36 = .ok (.iadd, 1) := by decide +kernel
theorem dX5_worthOfShot_37 : decode cX5_worthOfShot 37 = .ok (.iload 4, 2) := by decide +kernel
theorem dX5_worthOfShot_39 : decode cX5_worthOfShot 39 = .ok (.invokevirtual 273, 3) := by decide +kernel
theorem dX5_worthOfShot_42 : decode cX5_worthOfShot 42 = .ok (.invokestatic 227, 3) := by decide +kernel
theorem dX5_worthOfShot_45 : decode cX5_worthOfShot 45 = .ok (.ireturn, 1) := by decide +kernel
theorem dX5_worthOfTry_0 : decode cX5_worthOfTry 0 = .ok (.aload_n 0, 1) := by decide +kernel
theorem dX5_worthOfTry_1 : decode cX5_worthOfTry 1 = .ok (.getfield 32, 3) := by decide +kernel
theorem dX5_worthOfTry_4 : decode cX5_worthOfTry 4 = .ok (.iload_n 2, 1) := by decide +kernel
theorem dX5_worthOfTry_5 : decode cX5_worthOfTry 5 = .ok (.iload_n 3, 1) := by decide +kernel
theorem dX5_worthOfTry_6 : decode cX5_worthOfTry 6 = .ok (.iload 4, 2) := by decide +kernel
theorem dX5_worthOfTry_8 : decode cX5_worthOfTry 8 = .ok (.iconst 1, 1) := by decide +kernel
theorem dX5_worthOfTry_9 : decode cX5_worthOfTry 9 = .ok (.iconst 0, 1) := by decide +kernel
theorem dX5_worthOfTry_10 : decode cX5_worthOfTry 10 = .ok (.invokevirtual 91, 3) := by decide +kernel
theorem dX5_worthOfTry_13 : decode cX5_worthOfTry 13 = .ok (.aload_n 0, 1) := by decide +kernel
theorem dX5_worthOfTry_14 : decode cX5_worthOfTry 14 = .ok (.getfield 32, 3) := by decide +kernel
theorem dX5_worthOfTry_17 : decode cX5_worthOfTry 17 = .ok (.aload_n 0, 1) := by decide +kernel
theorem dX5_worthOfTry_18 : decode cX5_worthOfTry 18 = .ok (.aload_n 1, 1) := by decide +kernel
theorem dX5_worthOfTry_19 : decode cX5_worthOfTry 19 = .ok (.getfield 95, 3) := by decide +kernel
theorem dX5_worthOfTry_22 : decode cX5_worthOfTry 22 = .ok (.invokevirtual 98, 3) := by decide +kernel
theorem dX5_worthOfTry_25 : decode cX5_worthOfTry 25 = .ok (.aload_n 1, 1) := by decide +kernel
theorem dX5_worthOfTry_26 : decode cX5_worthOfTry 26 = .ok (.getfield 102, 3) := by decide +kernel
theorem dX5_worthOfTry_29 : decode cX5_worthOfTry 29 = .ok (.aload_n 1, 1) := by decide +kernel
theorem dX5_worthOfTry_30 : decode cX5_worthOfTry 30 = .ok (.invokevirtual 106, 3) := by decide +kernel
theorem dX5_worthOfTry_33 : decode cX5_worthOfTry 33 = .ok (.iconst 0, 1) := by decide +kernel
theorem dX5_worthOfTry_34 : decode cX5_worthOfTry 34 = .ok (.invokevirtual 110, 3) := by decide +kernel
theorem dX5_worthOfTry_37 : decode cX5_worthOfTry 37 = .ok (.pop, 1) := by decide +kernel
theorem dX5_worthOfTry_38 : decode cX5_worthOfTry 38 = .ok (.aload_n 0, 1) := by decide +kernel
theorem dX5_worthOfTry_39 : decode cX5_worthOfTry 39 = .ok (.getfield 32, 3) := by decide +kernel
theorem dX5_worthOfTry_42 : decode cX5_worthOfTry 42 = .ok (.getfield 125, 3) := by decide +kernel
theorem dX5_worthOfTry_45 : decode cX5_worthOfTry 45 = .ok (.invokevirtual 192, 3) := by decide +kernel
theorem dX5_worthOfTry_48 : decode cX5_worthOfTry 48 = .ok (.istore 5, 2) := by decide +kernel
theorem dX5_worthOfTry_50 : decode cX5_worthOfTry 50 = .ok (.aload_n 1, 1) := by decide +kernel
theorem dX5_worthOfTry_51 : decode cX5_worthOfTry 51 = .ok (.invokevirtual 181, 3) := by decide +kernel
theorem dX5_worthOfTry_54 : decode cX5_worthOfTry 54 = .ok (.ifCond .ne 8, 3) := by decide +kernel
theorem dX5_worthOfTry_57 : decode cX5_worthOfTry 57 = .ok (.iload 5, 2) := by decide +kernel
theorem dX5_worthOfTry_59 : decode cX5_worthOfTry 59 = .ok (.goto 6, 3) := by decide +kernel
theorem dX5_worthOfTry_62 : decode cX5_worthOfTry 62 = .ok (.iload 5, 2) := by decide +kernel
theorem dX5_worthOfTry_64 : decode cX5_worthOfTry 64 = .ok (.ineg, 1) := by decide +kernel
theorem dX5_worthOfTry_65 : decode cX5_worthOfTry 65 = .ok (.ireturn, 1) := by decide +kernel
theorem dX5_teamsAheadOf_0 : decode cX5_teamsAheadOf 0 = .ok (.iconst 0, 1) := by decide +kernel
theorem dX5_teamsAheadOf_1 : decode cX5_teamsAheadOf 1 = .ok (.istore_n 2, 1) := by decide +kernel
theorem dX5_teamsAheadOf_2 : decode cX5_teamsAheadOf 2 = .ok (.iconst 0, 1) := by decide +kernel
theorem dX5_teamsAheadOf_3 : decode cX5_teamsAheadOf 3 = .ok (.istore_n 3, 1) := by decide +kernel
theorem dX5_teamsAheadOf_4 : decode cX5_teamsAheadOf 4 = .ok (.iload_n 3, 1) := by decide +kernel
theorem dX5_teamsAheadOf_5 : decode cX5_teamsAheadOf 5 = .ok (.bipush 6, 2) := by decide +kernel
theorem dX5_teamsAheadOf_7 : decode cX5_teamsAheadOf 7 = .ok (.if_icmp .ge 26, 3) := by decide +kernel
theorem dX5_teamsAheadOf_10 : decode cX5_teamsAheadOf 10 = .ok (.iload_n 3, 1) := by decide +kernel
theorem dX5_teamsAheadOf_11 : decode cX5_teamsAheadOf 11 = .ok (.iload_n 1, 1) := by decide +kernel
theorem dX5_teamsAheadOf_12 : decode cX5_teamsAheadOf 12 = .ok (.if_icmp .eq 15, 3) := by decide +kernel
theorem dX5_teamsAheadOf_15 : decode cX5_teamsAheadOf 15 = .ok (.aload_n 0, 1) := by decide +kernel
theorem dX5_teamsAheadOf_16 : decode cX5_teamsAheadOf 16 = .ok (.iload_n 3, 1) := by decide +kernel
theorem dX5_teamsAheadOf_17 : decode cX5_teamsAheadOf 17 = .ok (.iload_n 1, 1) := by decide +kernel
theorem dX5_teamsAheadOf_18 : decode cX5_teamsAheadOf 18 = .ok (.invokevirtual 276, 3) := by decide +kernel
theorem dX5_teamsAheadOf_21 : decode cX5_teamsAheadOf 21 = .ok (.ifCond .eq 6, 3) := by decide +kernel
theorem dX5_teamsAheadOf_24 : decode cX5_teamsAheadOf 24 = .ok (.iinc 2 1, 3) := by decide +kernel
theorem dX5_teamsAheadOf_27 : decode cX5_teamsAheadOf 27 = .ok (.iinc 3 1, 3) := by decide +kernel
theorem dX5_teamsAheadOf_30 : decode cX5_teamsAheadOf 30 = .ok (.goto (-26), 3) := by decide +kernel
theorem dX5_teamsAheadOf_33 : decode cX5_teamsAheadOf 33 = .ok (.iload_n 2, 1) := by decide +kernel
theorem dX5_teamsAheadOf_34 : decode cX5_teamsAheadOf 34 = .ok (.ireturn, 1) := by decide +kernel
theorem dX5_isAhead_0 : decode cX5_isAhead 0 = .ok (.aload_n 0, 1) := by decide +kernel
theorem dX5_isAhead_1 : decode cX5_isAhead 1 = .ok (.iload_n 1, 1) := by decide +kernel
theorem dX5_isAhead_2 : decode cX5_isAhead 2 = .ok (.invokevirtual 209, 3) := by decide +kernel
theorem dX5_isAhead_5 : decode cX5_isAhead 5 = .ok (.astore_n 3, 1) := by decide +kernel
theorem dX5_isAhead_6 : decode cX5_isAhead 6 = .ok (.aload_n 0, 1) := by decide +kernel
theorem dX5_isAhead_7 : decode cX5_isAhead 7 = .ok (.iload_n 2, 1) := by decide +kernel
theorem dX5_isAhead_8 : decode cX5_isAhead 8 = .ok (.invokevirtual 209, 3) := by decide +kernel
theorem dX5_isAhead_11 : decode cX5_isAhead 11 = .ok (.astore 4, 2) := by decide +kernel
theorem dX5_isAhead_13 : decode cX5_isAhead 13 = .ok (.aload_n 3, 1) := by decide +kernel
theorem dX5_isAhead_14 : decode cX5_isAhead 14 = .ok (.getfield 213, 3) := by decide +kernel
theorem dX5_isAhead_17 : decode cX5_isAhead 17 = .ok (.aload 4, 2) := by decide +kernel
theorem dX5_isAhead_19 : decode cX5_isAhead 19 = .ok (.getfield 213, 3) := by decide +kernel
theorem dX5_isAhead_22 : decode cX5_isAhead 22 = .ok (.if_icmp .eq 21, 3) := by decide +kernel
theorem dX5_isAhead_25 : decode cX5_isAhead 25 = .ok (.aload_n 3, 1) := by decide +kernel
theorem dX5_isAhead_26 : decode cX5_isAhead 26 = .ok (.getfield 213, 3) := by decide +kernel
theorem dX5_isAhead_29 : decode cX5_isAhead 29 = .ok (.aload 4, 2) := by decide +kernel
theorem dX5_isAhead_31 : decode cX5_isAhead 31 = .ok (.getfield 213, 3) := by decide +kernel
theorem dX5_isAhead_34 : decode cX5_isAhead 34 = .ok (.if_icmp .le 7, 3) := by decide +kernel
theorem dX5_isAhead_37 : decode cX5_isAhead 37 = .ok (.iconst 1, 1) := by decide +kernel
theorem dX5_isAhead_38 : decode cX5_isAhead 38 = .ok (.goto 4, 3) := by decide +kernel
theorem dX5_isAhead_41 : decode cX5_isAhead 41 = .ok (.iconst 0, 1) := by decide +kernel
theorem dX5_isAhead_42 : decode cX5_isAhead 42 = .ok (.ireturn, 1) := by decide +kernel
theorem dX5_isAhead_43 : decode cX5_isAhead 43 = .ok (.aload_n 3, 1) := by decide +kernel
theorem dX5_isAhead_44 : decode cX5_isAhead 44 = .ok (.invokevirtual 279, 3) := by decide +kernel
theorem dX5_isAhead_47 : decode cX5_isAhead 47 = .ok (.aload 4, 2) := by decide +kernel
theorem dX5_isAhead_49 : decode cX5_isAhead 49 = .ok (.invokevirtual 279, 3) := by decide +kernel
theorem dX5_isAhead_52 : decode cX5_isAhead 52 = .ok (.if_icmp .eq 21, 3) := by decide +kernel
theorem dX5_isAhead_55 : decode cX5_isAhead 55 = .ok (.aload_n 3, 1) := by decide +kernel
theorem dX5_isAhead_56 : decode cX5_isAhead 56 = .ok (.invokevirtual 279, 3) := by decide +kernel
theorem dX5_isAhead_59 : decode cX5_isAhead 59 = .ok (.aload 4, 2) := by decide +kernel
theorem dX5_isAhead_61 : decode cX5_isAhead 61 = .ok (.invokevirtual 279, 3) := by decide +kernel
theorem dX5_isAhead_64 : decode cX5_isAhead 64 = .ok (.if_icmp .ge 7, 3) := by decide +kernel
theorem dX5_isAhead_67 : decode cX5_isAhead 67 = .ok (.iconst 1, 1) := by decide +kernel
theorem dX5_isAhead_68 : decode cX5_isAhead 68 = .ok (.goto 4, 3) := by decide +kernel
theorem dX5_isAhead_71 : decode cX5_isAhead 71 = .ok (.iconst 0, 1) := by decide +kernel
theorem dX5_isAhead_72 : decode cX5_isAhead 72 = .ok (.ireturn, 1) := by decide +kernel
theorem dX5_isAhead_73 : decode cX5_isAhead 73 = .ok (.iload_n 1, 1) := by decide +kernel
theorem dX5_isAhead_74 : decode cX5_isAhead 74 = .ok (.iload_n 2, 1) := by decide +kernel
theorem dX5_isAhead_75 : decode cX5_isAhead 75 = .ok (.if_icmp .ge 7, 3) := by decide +kernel
theorem dX5_isAhead_78 : decode cX5_isAhead 78 = .ok (.iconst 1, 1) := by decide +kernel
theorem dX5_isAhead_79 : decode cX5_isAhead 79 = .ok (.goto 4, 3) := by decide +kernel
theorem dX5_isAhead_82 : decode cX5_isAhead 82 = .ok (.iconst 0, 1) := by decide +kernel
theorem dX5_isAhead_83 : decode cX5_isAhead 83 = .ok (.ireturn, 1) := by decide +kernel
theorem dX6_init_0 : decode cX6_init 0 = .ok (.aload_n 0, 1) := by decide +kernel
theorem dX6_init_1 : decode cX6_init 1 = .ok (.invokespecial 1, 3) := by decide +kernel
theorem dX6_init_4 : decode cX6_init 4 = .ok (.aload_n 0, 1) := by decide +kernel
theorem dX6_init_5 : decode cX6_init 5 = .ok (.iconst 2, 1) := by decide +kernel
theorem dX6_init_6 : decode cX6_init 6 = .ok (.putfield 7, 3) := by decide +kernel
theorem dX6_init_9 : decode cX6_init 9 = .ok (.aload_n 0, 1) := by decide +kernel
theorem dX6_init_10 : decode cX6_init 10 = .ok (.iconst (-1), 1) := by decide +kernel
theorem dX6_init_11 : decode cX6_init 11 = .ok (.putfield 13, 3) := by decide +kernel
theorem dX6_init_14 : decode cX6_init 14 = .ok (.aload_n 0, 1) := by decide +kernel
theorem dX6_init_15 : decode cX6_init 15 = .ok (.sipush 1647, 3) := by decide +kernel
theorem dX6_init_18 : decode cX6_init 18 = .ok (.newarray .int, 2) := by decide +kernel
theorem dX6_init_20 : decode cX6_init 20 = .ok (.putfield 16, 3) := by decide +kernel
theorem dX6_init_23 : decode cX6_init 23 = .ok (.aload_n 0, 1) := by decide +kernel
theorem dX6_init_24 : decode cX6_init 24 = .ok (.iconst 3, 1) := by decide +kernel
theorem dX6_init_25 : decode cX6_init 25 = .ok (.newarray .boolean, 2) := by decide +kernel
theorem dX6_init_27 : decode cX6_init 27 = .ok (.putfield 20, 3) := by decide +kernel
theorem dX6_init_30 : decode cX6_init 30 = .ok (.aload_n 0, 1) := by decide +kernel
theorem dX6_init_31 : decode cX6_init 31 = .ok (.iconst 3, 1) := by decide +kernel
theorem dX6_init_32 : decode cX6_init 32 = .ok (.newarray .int, 2) := by decide +kernel
theorem dX6_init_34 : decode cX6_init 34 = .ok (.putfield 24, 3) := by decide +kernel
theorem dX6_init_37 : decode cX6_init 37 = .ok (.aload_n 0, 1) := by decide +kernel
theorem dX6_init_38 : decode cX6_init 38 = .ok (.bipush 12, 2) := by decide +kernel
theorem dX6_init_40 : decode cX6_init 40 = .ok (.newarray .int, 2) := by decide +kernel
theorem dX6_init_42 : decode cX6_init 42 = .ok (.putfield 27, 3) := by decide +kernel
theorem dX6_init_45 : decode cX6_init 45 = .ok (.aload_n 0, 1) := by decide +kernel
theorem dX6_init_46 : decode cX6_init 46 = .ok (.bipush 12, 2) := by decide +kernel
theorem dX6_init_48 : decode cX6_init 48 = .ok (.newarray .int, 2) := by decide +kernel
theorem dX6_init_50 : decode cX6_init 50 = .ok (.putfield 30, 3) := by decide +kernel
theorem dX6_init_53 : decode cX6_init 53 = .ok (.aload_n 0, 1) := by decide +kernel
theorem dX6_init_54 : decode cX6_init 54 = .ok (.bipush 12, 2) := by decide +kernel
theorem dX6_init_56 : decode cX6_init 56 = .ok (.newarray .int, 2) := by decide +kernel
theorem dX6_init_58 : decode cX6_init 58 = .ok (.putfield 33, 3) := by decide +kernel
theorem dX6_init_61 : decode cX6_init 61 = .ok (.aload_n 0, 1) := by decide +kernel
theorem dX6_init_62 : decode cX6_init 62 = .ok (.bipush 12, 2) := by decide +kernel
theorem dX6_init_64 : decode cX6_init 64 = .ok (.newarray .int, 2) := by decide +kernel
theorem dX6_init_66 : decode cX6_init 66 = .ok (.putfield 36, 3) := by decide +kernel
theorem dX6_init_69 : decode cX6_init 69 = .ok (.aload_n 0, 1) := by decide +kernel
theorem dX6_init_70 : decode cX6_init 70 = .ok (.bipush 12, 2) := by decide +kernel
theorem dX6_init_72 : decode cX6_init 72 = .ok (.newarray .int, 2) := by decide +kernel
theorem dX6_init_74 : decode cX6_init 74 = .ok (.putfield 39, 3) := by decide +kernel
theorem dX6_init_77 : decode cX6_init 77 = .ok (.aload_n 0, 1) := by decide +kernel
theorem dX6_init_78 : decode cX6_init 78 = .ok (.bipush 12, 2) := by decide +kernel
theorem dX6_init_80 : decode cX6_init 80 = .ok (.newarray .int, 2) := by decide +kernel
theorem dX6_init_82 : decode cX6_init 82 = .ok (.putfield 42, 3) := by decide +kernel
theorem dX6_init_85 : decode cX6_init 85 = .ok (.aload_n 0, 1) := by decide +kernel
theorem dX6_init_86 : decode cX6_init 86 = .ok (.bipush 24, 2) := by decide +kernel
theorem dX6_init_88 : decode cX6_init 88 = .ok (.newarray .int, 2) := by decide +kernel
theorem dX6_init_90 : decode cX6_init 90 = .ok (.putfield 45, 3) := by decide +kernel
theorem dX6_init_93 : decode cX6_init 93 = .ok (.aload_n 0, 1) := by decide +kernel
theorem dX6_init_94 : decode cX6_init 94 = .ok (.bipush 12, 2) := by decide +kernel
theorem dX6_init_96 : decode cX6_init 96 = .ok (.newarray .int, 2) := by decide +kernel
theorem dX6_init_98 : decode cX6_init 98 = .ok (.putfield 48, 3) := by decide +kernel
theorem dX6_init_101 : decode cX6_init 101 = .ok (.aload_n 0, 1) := by decide +kernel
theorem dX6_init_102 : decode cX6_init 102 = .ok (.bipush 12, 2) := by decide +kernel
theorem dX6_init_104 : decode cX6_init 104 = .ok (.newarray .int, 2) := by decide +kernel
theorem dX6_init_106 : decode cX6_init 106 = .ok (.putfield 51, 3) := by decide +kernel
theorem dX6_init_109 : decode cX6_init 109 = .ok (.aload_n 0, 1) := by decide +kernel
theorem dX6_init_110 : decode cX6_init 110 = .ok (.bipush 12, 2) := by decide +kernel
theorem dX6_init_112 : decode cX6_init 112 = .ok (.newarray .int, 2) := by decide +kernel
theorem dX6_init_114 : decode cX6_init 114 = .ok (.putfield 54, 3) := by decide +kernel
theorem dX6_init_117 : decode cX6_init 117 = .ok (.aload_n 0, 1) := by decide +kernel
theorem dX6_init_118 : decode cX6_init 118 = .ok (.bipush 12, 2) := by decide +kernel
theorem dX6_init_120 : decode cX6_init 120 = .ok (.newarray .int, 2) := by decide +kernel
theorem dX6_init_122 : decode cX6_init 122 = .ok (.putfield 57, 3) := by decide +kernel
theorem dX6_init_125 : decode cX6_init 125 = .ok (.aload_n 0, 1) := by decide +kernel
theorem dX6_init_126 : decode cX6_init 126 = .ok (.bipush 72, 2) := by decide +kernel
theorem dX6_init_128 : decode cX6_init 128 = .ok (.newarray .int, 2) := by decide +kernel
theorem dX6_init_130 : decode cX6_init 130 = .ok (.putfield 60, 3) := by decide +kernel
theorem dX6_init_133 : decode cX6_init 133 = .ok (.aload_n 0, 1) := by decide +kernel
theorem dX6_init_134 : decode cX6_init 134 = .ok (.bipush 6, 2) := by decide +kernel
theorem dX6_init_136 : decode cX6_init 136 = .ok (.newarray .int, 2) := by decide +kernel
theorem dX6_init_138 : decode cX6_init 138 = .ok (.putfield 63, 3) := by decide +kernel
theorem dX6_init_141 : decode cX6_init 141 = .ok (.aload_n 0, 1) := by decide +kernel
theorem dX6_init_142 : decode cX6_init 142 = .ok (.bipush 6, 2) := by decide +kernel
theorem dX6_init_144 : decode cX6_init 144 = .ok (.newarray .int, 2) := by decide +kernel
theorem dX6_init_146 : decode cX6_init 146 = .ok (.putfield 66, 3) := by decide +kernel
theorem dX6_init_149 : decode cX6_init 149 = .ok (.aload_n 0, 1) := by decide +kernel
theorem dX6_init_150 : decode cX6_init 150 = .ok (.bipush 6, 2) := by decide +kernel
theorem dX6_init_152 : decode cX6_init 152 = .ok (.newarray .int, 2) := by decide +kernel
theorem dX6_init_154 : decode cX6_init 154 = .ok (.putfield 69, 3) := by decide +kernel
theorem dX6_init_157 : decode cX6_init 157 = .ok (.aload_n 0, 1) := by decide +kernel
theorem dX6_init_158 : decode cX6_init 158 = .ok (.sipush 549, 3) := by decide +kernel
theorem dX6_init_161 : decode cX6_init 161 = .ok (.newarray .int, 2) := by decide +kernel
theorem dX6_init_163 : decode cX6_init 163 = .ok (.putfield 72, 3) := by decide +kernel
theorem dX6_init_166 : decode cX6_init 166 = .ok (.aload_n 0, 1) := by decide +kernel
theorem dX6_init_167 : decode cX6_init 167 = .ok (.bipush 6, 2) := by decide +kernel
theorem dX6_init_169 : decode cX6_init 169 = .ok (.newarray .int, 2) := by decide +kernel
theorem dX6_init_171 : decode cX6_init 171 = .ok (.putfield 75, 3) := by decide +kernel
theorem dX6_init_174 : decode cX6_init 174 = .ok (.aload_n 0, 1) := by decide +kernel
theorem dX6_init_175 : decode cX6_init 175 = .ok (.bipush 6, 2) := by decide +kernel
theorem dX6_init_177 : decode cX6_init 177 = .ok (.newarray .int, 2) := by decide +kernel
theorem dX6_init_179 : decode cX6_init 179 = .ok (.putfield 78, 3) := by decide +kernel
theorem dX6_init_182 : decode cX6_init 182 = .ok (.aload_n 0, 1) := by decide +kernel
theorem dX6_init_183 : decode cX6_init 183 = .ok (.bipush 12, 2) := by decide +kernel
theorem dX6_init_185 : decode cX6_init 185 = .ok (.newarray .boolean, 2) := by decide +kernel
theorem dX6_init_187 : decode cX6_init 187 = .ok (.putfield 81, 3) := by decide +kernel
theorem dX6_init_190 : decode cX6_init 190 = .ok (.iconst 0, 1) := by decide +kernel
theorem dX6_init_191 : decode cX6_init 191 = .ok (.istore_n 1, 1) := by decide +kernel
theorem dX6_init_192 : decode cX6_init 192 = .ok (.iload_n 1, 1) := by decide +kernel
theorem dX6_init_193 : decode cX6_init 193 = .ok (.iconst 3, 1) := by decide +kernel
theorem dX6_init_194 : decode cX6_init 194 = .ok (.if_icmp .ge 16, 3) := by decide +kernel
theorem dX6_init_197 : decode cX6_init 197 = .ok (.aload_n 0, 1) := by decide +kernel
theorem dX6_init_198 : decode cX6_init 198 = .ok (.getfield 24, 3) := by decide +kernel
theorem dX6_init_201 : decode cX6_init 201 = .ok (.iload_n 1, 1) := by decide +kernel
theorem dX6_init_202 : decode cX6_init 202 = .ok (.iconst (-1), 1) := by decide +kernel
theorem dX6_init_203 : decode cX6_init 203 = .ok (.iastore, 1) := by decide +kernel
theorem dX6_init_204 : decode cX6_init 204 = .ok (.iinc 1 1, 3) := by decide +kernel
theorem dX6_init_207 : decode cX6_init 207 = .ok (.goto (-15), 3) := by decide +kernel
theorem dX6_init_210 : decode cX6_init 210 = .ok (.return_, 1) := by decide +kernel
theorem dX6_thrown_0 : decode cX6_thrown 0 = .ok (.aload_n 0, 1) := by decide +kernel
theorem dX6_thrown_1 : decode cX6_thrown 1 = .ok (.getfield 84, 3) := by decide +kernel
theorem dX6_thrown_4 : decode cX6_thrown 4 = .ok (.ireturn, 1) := by decide +kernel
theorem dX6_asked_0 : decode cX6_asked 0 = .ok (.aload_n 0, 1) := by decide +kernel
theorem dX6_asked_1 : decode cX6_asked 1 = .ok (.iload_n 1, 1) := by decide +kernel
theorem dX6_asked_2 : decode cX6_asked 2 = .ok (.ifCond .eq 7, 3) := by decide +kernel
theorem dX6_asked_5 : decode cX6_asked 5 = .ok (.iconst 0, 1) := by decide +kernel
theorem dX6_asked_6 : decode cX6_asked 6 = .ok (.goto 4, 3) := by decide +kernel
theorem dX6_asked_9 : decode cX6_asked 9 = .ok (.iconst 1, 1) := by decide +kernel
theorem dX6_asked_10 : decode cX6_asked 10 = .ok (.putfield 84, 3) := by decide +kernel
theorem dX6_asked_13 : decode cX6_asked 13 = .ok (.iload_n 1, 1) := by decide +kernel
theorem dX6_asked_14 : decode cX6_asked 14 = .ok (.ireturn, 1) := by decide +kernel
theorem dX6_asked__0 : decode cX6_asked_ 0 = .ok (.aload_n 0, 1) := by decide +kernel
theorem dX6_asked__1 : decode cX6_asked_ 1 = .ok (.iload_n 1, 1) := by decide +kernel
theorem dX6_asked__2 : decode cX6_asked_ 2 = .ok (.ifCond .ne 7, 3) := by decide +kernel
theorem dX6_asked__5 : decode cX6_asked_ 5 = .ok (.iconst 1, 1) := by decide +kernel
theorem dX6_asked__6 : decode cX6_asked_ 6 = .ok (.goto 12, 3) := by decide +kernel
theorem dX6_asked__9 : decode cX6_asked_ 9 = .ok (.iload_n 2, 1) := by decide +kernel
theorem dX6_asked__10 : decode cX6_asked_ 10 = .ok (.ifCond .eq 7, 3) := by decide +kernel
theorem dX6_asked__13 : decode cX6_asked_ 13 = .ok (.iconst 0, 1) := by decide +kernel
theorem dX6_asked__14 : decode cX6_asked_ 14 = .ok (.goto 4, 3) := by decide +kernel
theorem dX6_asked__17 : decode cX6_asked_ 17 = .ok (.iconst 2, 1) := by decide +kernel
theorem dX6_asked__18 : decode cX6_asked_ 18 = .ok (.putfield 84, 3) := by decide +kernel
theorem dX6_asked__21 : decode cX6_asked_ 21 = .ok (.aload_n 0, 1) := by decide +kernel
theorem dX6_asked__22 : decode cX6_asked_ 22 = .ok (.getfield 84, 3) := by decide +kernel
theorem dX6_asked__25 : decode cX6_asked_ 25 = .ok (.ifCond .ne 7, 3) := by decide +kernel
theorem dX6_asked__28 : decode cX6_asked_ 28 = .ok (.iconst 1, 1) := by decide +kernel
theorem dX6_asked__29 : decode cX6_asked_ 29 = .ok (.goto 4, 3) := by decide +kernel
theorem dX6_asked__32 : decode cX6_asked_ 32 = .ok (.iconst 0, 1) := by decide +kernel
theorem dX6_asked__33 : decode cX6_asked_ 33 = .ok (.ireturn, 1) := by decide +kernel
theorem dX6_asked___0 : decode cX6_asked__ 0 = .ok (.aload_n 0, 1) := by decide +kernel
theorem dX6_asked___1 : decode cX6_asked__ 1 = .ok (.iload_n 1, 1) := by decide +kernel
theorem dX6_asked___2 : decode cX6_asked__ 2 = .ok (.ifCond .ne 7, 3) := by decide +kernel
theorem dX6_asked___5 : decode cX6_asked__ 5 = .ok (.iconst 1, 1) := by decide +kernel
theorem dX6_asked___6 : decode cX6_asked__ 6 = .ok (.goto 20, 3) := by decide +kernel
theorem dX6_asked___9 : decode cX6_asked__ 9 = .ok (.iload_n 2, 1) := by decide +kernel
theorem dX6_asked___10 : decode cX6_asked__ 10 = .ok (.ifCond .ne 7, 3) := by decide +kernel
theorem dX6_asked___13 : decode cX6_asked__ 13 = .ok (.iconst 2, 1) := by decide +kernel
theorem dX6_asked___14 : decode cX6_asked__ 14 = .ok (.goto 12, 3) := by decide +kernel
theorem dX6_asked___17 : decode cX6_asked__ 17 = .ok (.iload_n 3, 1) := by decide +kernel
theorem dX6_asked___18 : decode cX6_asked__ 18 = .ok (.ifCond .eq 7, 3) := by decide +kernel
theorem dX6_asked___21 : decode cX6_asked__ 21 = .ok (.iconst 0, 1) := by decide +kernel
theorem dX6_asked___22 : decode cX6_asked__ 22 = .ok (.goto 4, 3) := by decide +kernel
theorem dX6_asked___25 : decode cX6_asked__ 25 = .ok (.iconst 3, 1) := by decide +kernel
theorem dX6_asked___26 : decode cX6_asked__ 26 = .ok (.putfield 84, 3) := by decide +kernel
theorem dX6_asked___29 : decode cX6_asked__ 29 = .ok (.aload_n 0, 1) := by decide +kernel
theorem dX6_asked___30 : decode cX6_asked__ 30 = .ok (.getfield 84, 3) := by decide +kernel
theorem dX6_asked___33 : decode cX6_asked__ 33 = .ok (.ifCond .ne 7, 3) := by decide +kernel
theorem dX6_asked___36 : decode cX6_asked__ 36 = .ok (.iconst 1, 1) := by decide +kernel
theorem dX6_asked___37 : decode cX6_asked__ 37 = .ok (.goto 4, 3) := by decide +kernel
theorem dX6_asked___40 : decode cX6_asked__ 40 = .ok (.iconst 0, 1) := by decide +kernel
theorem dX6_asked___41 : decode cX6_asked__ 41 = .ok (.ireturn, 1) := by decide +kernel
theorem dX6_in_0 : decode cX6_in 0 = .ok (.iload_n 0, 1) := by decide +kernel
theorem dX6_in_1 : decode cX6_in 1 = .ok (.iload_n 1, 1) := by decide +kernel
theorem dX6_in_2 : decode cX6_in 2 = .ok (.if_icmp .lt 12, 3) := by decide +kernel
theorem dX6_in_5 : decode cX6_in 5 = .ok (.iload_n 0, 1) := by decide +kernel
theorem dX6_in_6 : decode cX6_in 6 = .ok (.iload_n 2, 1) := by decide +kernel
theorem dX6_in_7 : decode cX6_in 7 = .ok (.if_icmp .gt 7, 3) := by decide +kernel
theorem dX6_in_10 : decode cX6_in 10 = .ok (.iconst 1, 1) := by decide +kernel
theorem dX6_in_11 : decode cX6_in 11 = .ok (.goto 4, 3) := by decide +kernel
theorem dX6_in_14 : decode cX6_in 14 = .ok (.iconst 0, 1) := by decide +kernel
theorem dX6_in_15 : decode cX6_in 15 = .ok (.ireturn, 1) := by decide +kernel
theorem dX6_isGame_0 : decode cX6_isGame 0 = .ok (.iload_n 1, 1) := by decide +kernel
theorem dX6_isGame_1 : decode cX6_isGame 1 = .ok (.iconst 0, 1) := by decide +kernel
theorem dX6_isGame_2 : decode cX6_isGame 2 = .ok (.aload_n 0, 1) := by decide +kernel
theorem dX6_isGame_3 : decode cX6_isGame 3 = .ok (.getfield 87, 3) := by decide +kernel
theorem dX6_isGame_6 : decode cX6_isGame 6 = .ok (.iconst 1, 1) := by decide +kernel
theorem dX6_isGame_7 : decode cX6_isGame 7 = .ok (.isub, 1) := by decide +kernel
theorem dX6_isGame_8 : decode cX6_isGame 8 = .ok (.invokestatic 90, 3) := by decide +kernel
theorem dX6_isGame_11 : decode cX6_isGame 11 = .ok (.ireturn, 1) := by decide +kernel
theorem dX6_isTeam_0 : decode cX6_isTeam 0 = .ok (.iload_n 0, 1) := by decide +kernel
theorem dX6_isTeam_1 : decode cX6_isTeam 1 = .ok (.iconst 0, 1) := by decide +kernel
theorem dX6_isTeam_2 : decode cX6_isTeam 2 = .ok (.iconst 5, 1) := by decide +kernel
theorem dX6_isTeam_3 : decode cX6_isTeam 3 = .ok (.invokestatic 90, 3) := by decide +kernel
theorem dX6_isTeam_6 : decode cX6_isTeam 6 = .ok (.ireturn, 1) := by decide +kernel
theorem dX6_isSheet_0 : decode cX6_isSheet 0 = .ok (.iload_n 0, 1) := by decide +kernel
theorem dX6_isSheet_1 : decode cX6_isSheet 1 = .ok (.iconst 0, 1) := by decide +kernel
theorem dX6_isSheet_2 : decode cX6_isSheet 2 = .ok (.iconst 2, 1) := by decide +kernel
theorem dX6_isSheet_3 : decode cX6_isSheet 3 = .ok (.invokestatic 90, 3) := by decide +kernel
theorem dX6_isSheet_6 : decode cX6_isSheet 6 = .ok (.ireturn, 1) := by decide +kernel
theorem dX6_plan_0 : decode cX6_plan 0 = .ok (.aload_n 0, 1) := by decide +kernel
theorem dX6_plan_1 : decode cX6_plan 1 = .ok (.iload_n 1, 1) := by decide +kernel
theorem dX6_plan_2 : decode cX6_plan 2 = .ok (.invokestatic 94, 3) := by decide +kernel
theorem dX6_plan_5 : decode cX6_plan 5 = .ok (.ifCond .eq 22, 3) := by decide +kernel
theorem dX6_plan_8 : decode cX6_plan 8 = .ok (.iload_n 2, 1) := by decide +kernel
theorem dX6_plan_9 : decode cX6_plan 9 = .ok (.invokestatic 94, 3) := by decide +kernel
theorem dX6_plan_12 : decode cX6_plan 12 = .ok (.ifCond .eq 15, 3) := by decide +kernel
theorem dX6_plan_15 : decode cX6_plan 15 = .ok (.iload 4, 2) := by decide +kernel
theorem dX6_plan_17 : decode cX6_plan 17 = .ok (.invokestatic 98, 3) := by decide +kernel
theorem dX6_plan_20 : decode cX6_plan 20 = .ok (.ifCond .eq 7, 3) := by decide +kernel
theorem dX6_plan_23 : decode cX6_plan 23 = .ok (.iconst 1, 1) := by decide +kernel
theorem dX6_plan_24 : decode cX6_plan 24 = .ok (.goto 4, 3) := by decide +kernel
theorem dX6_plan_27 : decode cX6_plan 27 = .ok (.iconst 0, 1) := by decide +kernel
theorem dX6_plan_28 : decode cX6_plan 28 = .ok (.iload_n 1, 1) := by decide +kernel
theorem dX6_plan_29 : decode cX6_plan 29 = .ok (.iload_n 2, 1) := by decide +kernel
theorem dX6_plan_30 : decode cX6_plan 30 = .ok (.if_icmp .eq 23, 3) := by decide +kernel
theorem dX6_plan_33 : decode cX6_plan 33 = .ok (.iload_n 3, 1) := by decide +kernel
theorem dX6_plan_34 : decode cX6_plan 34 = .ok (.aload_n 0, 1) := by decide +kernel
theorem dX6_plan_35 : decode cX6_plan 35 = .ok (.getfield 101, 3) := by decide +kernel
theorem dX6_plan_38 : decode cX6_plan 38 = .ok (.iconst 1, 1) := by decide +kernel
theorem dX6_plan_39 : decode cX6_plan 39 = .ok (.iadd, 1) := by decide +kernel
theorem dX6_plan_40 : decode cX6_plan 40 = .ok (.sipush 9999, 3) := by decide +kernel
theorem dX6_plan_43 : decode cX6_plan 43 = .ok (.invokestatic 90, 3) := by decide +kernel
theorem dX6_plan_46 : decode cX6_plan 46 = .ok (.ifCond .eq 7, 3) := by decide +kernel
theorem dX6_plan_49 : decode cX6_plan 49 = .ok (.iconst 1, 1) := by decide +kernel
theorem dX6_plan_50 : decode cX6_plan 50 = .ok (.goto 4, 3) := by decide +kernel
theorem dX6_plan_53 : decode cX6_plan 53 = .ok (.iconst 0, 1) := by decide +kernel
theorem dX6_plan_54 : decode cX6_plan 54 = .ok (.aload_n 0, 1) := by decide +kernel
theorem dX6_plan_55 : decode cX6_plan 55 = .ok (.getfield 87, 3) := by decide +kernel
theorem dX6_plan_58 : decode cX6_plan 58 = .ok (.bipush 12, 2) := by decide +kernel
theorem dX6_plan_60 : decode cX6_plan 60 = .ok (.if_icmp .ge 7, 3) := by decide +kernel
theorem dX6_plan_63 : decode cX6_plan 63 = .ok (.iconst 1, 1) := by decide +kernel
theorem dX6_plan_64 : decode cX6_plan 64 = .ok (.goto 4, 3) := by decide +kernel
theorem dX6_plan_67 : decode cX6_plan 67 = .ok (.iconst 0, 1) := by decide +kernel
theorem dX6_plan_68 : decode cX6_plan 68 = .ok (.invokevirtual 104, 3) := by decide +kernel
theorem dX6_plan_71 : decode cX6_plan 71 = .ok (.ifCond .ne 5, 3) := by decide +kernel
theorem dX6_plan_74 : decode cX6_plan 74 = .ok (.iconst 0, 1) := by decide +kernel
theorem dX6_plan_75 : decode cX6_plan 75 = .ok (.ireturn, 1) := by decide +kernel
theorem dX6_plan_76 : decode cX6_plan 76 = .ok (.aload_n 0, 1) := by decide +kernel
theorem dX6_plan_77 : decode cX6_plan 77 = .ok (.getfield 30, 3) := by decide +kernel
theorem dX6_plan_80 : decode cX6_plan 80 = .ok (.aload_n 0, 1) := by decide +kernel
theorem dX6_plan_81 : decode cX6_plan 81 = .ok (.getfield 87, 3) := by decide +kernel
theorem dX6_plan_84 : decode cX6_plan 84 = .ok (.iload_n 1, 1) := by decide +kernel
theorem dX6_plan_85 : decode cX6_plan 85 = .ok (.iastore, 1) := by decide +kernel
theorem dX6_plan_86 : decode cX6_plan 86 = .ok (.aload_n 0, 1) := by decide +kernel
theorem dX6_plan_87 : decode cX6_plan 87 = .ok (.getfield 33, 3) := by decide +kernel
theorem dX6_plan_90 : decode cX6_plan 90 = .ok (.aload_n 0, 1) := by decide +kernel
theorem dX6_plan_91 : decode cX6_plan 91 = .ok (.getfield 87, 3) := by decide +kernel
theorem dX6_plan_94 : decode cX6_plan 94 = .ok (.iload_n 2, 1) := by decide +kernel
theorem dX6_plan_95 : decode cX6_plan 95 = .ok (.iastore, 1) := by decide +kernel
theorem dX6_plan_96 : decode cX6_plan 96 = .ok (.aload_n 0, 1) := by decide +kernel
theorem dX6_plan_97 : decode cX6_plan 97 = .ok (.getfield 36, 3) := by decide +kernel
theorem dX6_plan_100 : decode cX6_plan 100 = .ok (.aload_n 0, 1) := by decide +kernel
theorem dX6_plan_101 : decode cX6_plan 101 = .ok (.getfield 87, 3) := by decide +kernel
theorem dX6_plan_104 : decode cX6_plan 104 = .ok (.iload_n 3, 1) := by decide +kernel
theorem dX6_plan_105 : decode cX6_plan 105 = .ok (.iastore, 1) := by decide +kernel
theorem dX6_plan_106 : decode cX6_plan 106 = .ok (.aload_n 0, 1) := by decide +kernel
theorem dX6_plan_107 : decode cX6_plan 107 = .ok (.getfield 39, 3) := by decide +kernel
theorem dX6_plan_110 : decode cX6_plan 110 = .ok (.aload_n 0, 1) := by decide +kernel
theorem dX6_plan_111 : decode cX6_plan 111 = .ok (.getfield 87, 3) := by decide +kernel
theorem dX6_plan_114 : decode cX6_plan 114 = .ok (.iload 4, 2) := by decide +kernel
theorem dX6_plan_116 : decode cX6_plan 116 = .ok (.iastore, 1) := by decide +kernel
theorem dX6_plan_117 : decode cX6_plan 117 = .ok (.aload_n 0, 1) := by decide +kernel
theorem dX6_plan_118 : decode cX6_plan 118 = .ok (.getfield 42, 3) := by decide +kernel
theorem dX6_plan_121 : decode cX6_plan 121 = .ok (.aload_n 0, 1) := by decide +kernel
theorem dX6_plan_122 : decode cX6_plan 122 = .ok (.getfield 87, 3) := by decide +kernel
theorem dX6_plan_125 : decode cX6_plan 125 = .ok (.iconst (-1), 1) := by decide +kernel
theorem dX6_plan_126 : decode cX6_plan 126 = .ok (.iastore, 1) := by decide +kernel
theorem dX6_plan_127 : decode cX6_plan 127 = .ok (.iconst 0, 1) := by decide +kernel
theorem dX6_plan_128 : decode cX6_plan 128 = .ok (.istore 5, 2) := by decide +kernel
theorem dX6_plan_130 : decode cX6_plan 130 = .ok (.iload 5, 2) := by decide +kernel
theorem dX6_plan_132 : decode cX6_plan 132 = .ok (.bipush 6, 2) := by decide +kernel
theorem dX6_plan_134 : decode cX6_plan 134 = .ok (.if_icmp .ge 25, 3) := by decide +kernel
theorem dX6_plan_137 : decode cX6_plan 137 = .ok (.aload_n 0, 1) := by decide +kernel
theorem dX6_plan_138 : decode cX6_plan 138 = .ok (.getfield 60, 3) := by decide +kernel
theorem dX6_plan_141 : decode cX6_plan 141 = .ok (.bipush 6, 2) := by decide +kernel
theorem dX6_plan_143 : decode cX6_plan 143 = .ok (.aload_n 0, 1) := by decide +kernel
theorem dX6_plan_144 : decode cX6_plan 144 = .ok (.getfield 87, 3) := by decide +kernel
theorem dX6_plan_147 : decode cX6_plan 147 = .ok (.imul, 1) := by decide +kernel
theorem dX6_plan_148 : decode cX6_plan 148 = .ok (.iload 5, 2) := by decide +kernel
theorem dX6_plan_150 : decode cX6_plan 150 = .ok (.iadd, 1) := by decide +kernel
theorem dX6_plan_151 : decode cX6_plan 151 = .ok (.iconst (-1), 1) := by decide +kernel
theorem dX6_plan_152 : decode cX6_plan 152 = .ok (.iastore, 1) := by decide +kernel
theorem dX6_plan_153 : decode cX6_plan 153 = .ok (.iinc 5 1, 3) := by decide +kernel
theorem dX6_plan_156 : decode cX6_plan 156 = .ok (.goto (-26), 3) := by decide +kernel
theorem dX6_plan_159 : decode cX6_plan 159 = .ok (.aload_n 0, 1) := by decide +kernel
theorem dX6_plan_160 : decode cX6_plan 160 = .ok (.dup, 1) := by decide +kernel
theorem dX6_plan_161 : decode cX6_plan 161 = .ok (.getfield 87, 3) := by decide +kernel
theorem dX6_plan_164 : decode cX6_plan 164 = .ok (.iconst 1, 1) := by decide +kernel
theorem dX6_plan_165 : decode cX6_plan 165 = .ok (.iadd, 1) := by decide +kernel
theorem dX6_plan_166 : decode cX6_plan 166 = .ok (.putfield 87, 3) := by decide +kernel
theorem dX6_plan_169 : decode cX6_plan 169 = .ok (.aload_n 0, 1) := by decide +kernel
theorem dX6_plan_170 : decode cX6_plan 170 = .ok (.getfield 87, 3) := by decide +kernel
theorem dX6_plan_173 : decode cX6_plan 173 = .ok (.iconst 1, 1) := by decide +kernel
theorem dX6_plan_174 : decode cX6_plan 174 = .ok (.isub, 1) := by decide +kernel
theorem dX6_plan_175 : decode cX6_plan 175 = .ok (.ireturn, 1) := by decide +kernel
theorem dX6_crew_0 : decode cX6_crew 0 = .ok (.aload_n 0, 1) := by decide +kernel
theorem dX6_crew_1 : decode cX6_crew 1 = .ok (.iload_n 1, 1) := by decide +kernel
theorem dX6_crew_2 : decode cX6_crew 2 = .ok (.iconst 1, 1) := by decide +kernel
theorem dX6_crew_3 : decode cX6_crew 3 = .ok (.bipush 6, 2) := by decide +kernel
theorem dX6_crew_5 : decode cX6_crew 5 = .ok (.invokestatic 90, 3) := by decide +kernel
theorem dX6_crew_8 : decode cX6_crew 8 = .ok (.invokevirtual 108, 3) := by decide +kernel
theorem dX6_crew_11 : decode cX6_crew 11 = .ok (.ifCond .ne 5, 3) := by decide +kernel
theorem dX6_crew_14 : decode cX6_crew 14 = .ok (.iconst 0, 1) := by decide +kernel
theorem dX6_crew_15 : decode cX6_crew 15 = .ok (.ireturn, 1) := by decide +kernel
theorem dX6_crew_16 : decode cX6_crew 16 = .ok (.aload_n 0, 1) := by decide +kernel
theorem dX6_crew_17 : decode cX6_crew 17 = .ok (.getfield 7, 3) := by decide +kernel
theorem dX6_crew_20 : decode cX6_crew 20 = .ok (.istore_n 2, 1) := by decide +kernel
theorem dX6_crew_21 : decode cX6_crew 21 = .ok (.aload_n 0, 1) := by decide +kernel
theorem dX6_crew_22 : decode cX6_crew 22 = .ok (.iload_n 1, 1) := by decide +kernel
theorem dX6_crew_23 : decode cX6_crew 23 = .ok (.putfield 7, 3) := by decide +kernel
theorem dX6_crew_26 : decode cX6_crew 26 = .ok (.iload_n 2, 1) := by decide +kernel
theorem dX6_crew_27 : decode cX6_crew 27 = .ok (.ireturn, 1) := by decide +kernel
theorem dX6_takesUp_0 : decode cX6_takesUp 0 = .ok (.iconst 0, 1) := by decide +kernel
theorem dX6_takesUp_1 : decode cX6_takesUp 1 = .ok (.istore_n 2, 1) := by decide +kernel
theorem dX6_takesUp_2 : decode cX6_takesUp 2 = .ok (.iload_n 2, 1) := by decide +kernel
theorem dX6_takesUp_3 : decode cX6_takesUp 3 = .ok (.sipush 549, 3) := by decide +kernel
theorem dX6_takesUp_6 : decode cX6_takesUp 6 = .ok (.if_icmp .ge 32, 3) := by decide +kernel
theorem dX6_takesUp_9 : decode cX6_takesUp 9 = .ok (.aload_n 0, 1) := by decide +kernel
theorem dX6_takesUp_10 : decode cX6_takesUp 10 = .ok (.getfield 72, 3) := by decide +kernel
theorem dX6_takesUp_13 : decode cX6_takesUp 13 = .ok (.iload_n 2, 1) := by decide +kernel
theorem dX6_takesUp_14 : decode cX6_takesUp 14 = .ok (.aload_n 0, 1) := by decide +kernel
theorem dX6_takesUp_15 : decode cX6_takesUp 15 = .ok (.getfield 16, 3) := by decide +kernel
theorem dX6_takesUp_18 : decode cX6_takesUp 18 = .ok (.sipush 549, 3) := by decide +kernel
theorem dX6_takesUp_21 : decode cX6_takesUp 21 = .ok (.aload_n 0, 1) := by decide +kernel
theorem dX6_takesUp_22 : decode cX6_takesUp 22 = .ok (.getfield 42, 3) := by decide +kernel
theorem dX6_takesUp_25 : decode cX6_takesUp 25 = .ok (.iload_n 1, 1) := by decide +kernel
theorem dX6_takesUp_26 : decode cX6_takesUp 26 = .ok (.iaload, 1) := by decide +kernel
theorem dX6_takesUp_27 : decode cX6_takesUp 27 = .ok (.imul, 1) := by decide +kernel
theorem dX6_takesUp_28 : decode cX6_takesUp 28 = .ok (.iload_n 2, 1) := by decide +kernel
theorem dX6_takesUp_29 : decode cX6_takesUp 29 = .ok (.iadd, 1) := by decide +kernel
theorem dX6_takesUp_30 : decode cX6_takesUp 30 = .ok (.iaload, 1) := by decide +kernel
theorem dX6_takesUp_31 : decode cX6_takesUp 31 = .ok (.iastore, 1) := by decide +kernel
theorem dX6_takesUp_32 : decode cX6_takesUp 32 = .ok (.iinc 2 1, 3) := by decide +kernel
theorem dX6_takesUp_35 : decode cX6_takesUp 35 = .ok (.goto (-33), 3) := by decide +kernel
theorem dX6_takesUp_38 : decode cX6_takesUp 38 = .ok (.iconst 0, 1) := by decide +kernel
theorem dX6_takesUp_39 : decode cX6_takesUp 39 = .ok (.istore_n 2, 1) := by decide +kernel
theorem dX6_takesUp_40 : decode cX6_takesUp 40 = .ok (.iload_n 2, 1) := by decide +kernel
theorem dX6_takesUp_41 : decode cX6_takesUp 41 = .ok (.bipush 6, 2) := by decide +kernel
theorem dX6_takesUp_43 : decode cX6_takesUp 43 = .ok (.if_icmp .ge 26, 3) := by decide +kernel
theorem dX6_takesUp_46 : decode cX6_takesUp 46 = .ok (.aload_n 0, 1) := by decide +kernel
theorem dX6_takesUp_47 : decode cX6_takesUp 47 = .ok (.getfield 75, 3) := by decide +kernel
theorem dX6_takesUp_50 : decode cX6_takesUp 50 = .ok (.iload_n 2, 1) := by decide +kernel
theorem dX6_takesUp_51 : decode cX6_takesUp 51 = .ok (.aload_n 0, 1) := by decide +kernel
theorem dX6_takesUp_52 : decode cX6_takesUp 52 = .ok (.getfield 60, 3) := by decide +kernel
theorem dX6_takesUp_55 : decode cX6_takesUp 55 = .ok (.bipush 6, 2) := by decide +kernel
theorem dX6_takesUp_57 : decode cX6_takesUp 57 = .ok (.iload_n 1, 1) := by decide +kernel
theorem dX6_takesUp_58 : decode cX6_takesUp 58 = .ok (.imul, 1) := by decide +kernel
theorem dX6_takesUp_59 : decode cX6_takesUp 59 = .ok (.iload_n 2, 1) := by decide +kernel
theorem dX6_takesUp_60 : decode cX6_takesUp 60 = .ok (.iadd, 1) := by decide +kernel
theorem dX6_takesUp_61 : decode cX6_takesUp 61 = .ok (.iaload, 1) := by decide +kernel
theorem dX6_takesUp_62 : decode cX6_takesUp 62 = .ok (.iastore, 1) := by decide +kernel
theorem dX6_takesUp_63 : decode cX6_takesUp 63 = .ok (.iinc 2 1, 3) := by decide +kernel
theorem dX6_takesUp_66 : decode cX6_takesUp 66 = .ok (.goto (-26), 3) := by decide +kernel
theorem dX6_takesUp_69 : decode cX6_takesUp 69 = .ok (.return_, 1) := by decide +kernel
theorem dX6_stoneAt_0 : decode cX6_stoneAt 0 = .ok (.iconst (-1), 1) := by decide +kernel
theorem dX6_stoneAt_1 : decode cX6_stoneAt 1 = .ok (.istore_n 3, 1) := by decide +kernel
theorem dX6_stoneAt_2 : decode cX6_stoneAt 2 = .ok (.iconst 0, 1) := by decide +kernel
theorem dX6_stoneAt_3 : decode cX6_stoneAt 3 = .ok (.istore 4, 2) := by decide +kernel
theorem dX6_stoneAt_5 : decode cX6_stoneAt 5 = .ok (.iload 4, 2) := by decide +kernel
theorem dX6_stoneAt_7 : decode cX6_stoneAt 7 = .ok (.bipush 6, 2) := by decide +kernel
theorem dX6_stoneAt_9 : decode cX6_stoneAt 9 = .ok (.if_icmp .ge 32, 3) := by decide +kernel
theorem dX6_stoneAt_12 : decode cX6_stoneAt 12 = .ok (.aload_n 0, 1) := by decide +kernel
theorem dX6_stoneAt_13 : decode cX6_stoneAt 13 = .ok (.getfield 75, 3) := by decide +kernel
theorem dX6_stoneAt_16 : decode cX6_stoneAt 16 = .ok (.iload 4, 2) := by decide +kernel
theorem dX6_stoneAt_18 : decode cX6_stoneAt 18 = .ok (.iaload, 1) := by decide +kernel
theorem dX6_stoneAt_19 : decode cX6_stoneAt 19 = .ok (.bipush 100, 2) := by decide +kernel
theorem dX6_stoneAt_21 : decode cX6_stoneAt 21 = .ok (.iload_n 1, 1) := by decide +kernel
theorem dX6_stoneAt_22 : decode cX6_stoneAt 22 = .ok (.imul, 1) := by decide +kernel
theorem dX6_stoneAt_23 : decode cX6_stoneAt 23 = .ok (.iload_n 2, 1) := by decide +kernel
theorem dX6_stoneAt_24 : decode cX6_stoneAt 24 = .ok (.iadd, 1) := by decide +kernel
theorem dX6_stoneAt_25 : decode cX6_stoneAt 25 = .ok (.if_icmp .ne 8, 3) := by decide +kernel
theorem dX6_stoneAt_28 : decode cX6_stoneAt 28 = .ok (.iload 4, 2) := by decide +kernel
theorem dX6_stoneAt_30 : decode cX6_stoneAt 30 = .ok (.goto 4, 3) := by decide +kernel
theorem dX6_stoneAt_33 : decode cX6_stoneAt 33 = .ok (.iload_n 3, 1) := by decide +kernel
theorem dX6_stoneAt_34 : decode cX6_stoneAt 34 = .ok (.istore_n 3, 1) := by decide +kernel
theorem dX6_stoneAt_35 : decode cX6_stoneAt 35 = .ok (.iinc 4 1, 3) := by decide +kernel
theorem dX6_stoneAt_38 : decode cX6_stoneAt 38 = .ok (.goto (-33), 3) := by decide +kernel
theorem dX6_stoneAt_41 : decode cX6_stoneAt 41 = .ok (.iload_n 3, 1) := by decide +kernel
theorem dX6_stoneAt_42 : decode cX6_stoneAt 42 = .ok (.ireturn, 1) := by decide +kernel
theorem dX6_goes_0 : decode cX6_goes 0 = .ok (.iload_n 1, 1) := by decide +kernel
theorem dX6_goes_1 : decode cX6_goes 1 = .ok (.istore 7, 2) := by decide +kernel
theorem dX6_goes_3 : decode cX6_goes 3 = .ok (.iload_n 2, 1) := by decide +kernel
theorem dX6_goes_4 : decode cX6_goes 4 = .ok (.istore 8, 2) := by decide +kernel
theorem dX6_goes_6 : decode cX6_goes 6 = .ok (.iconst 0, 1) := by decide +kernel
theorem dX6_goes_7 : decode cX6_goes 7 = .ok (.istore 9, 2) := by decide +kernel
theorem dX6_goes_9 : decode cX6_goes 9 = .ok (.bipush 10, 2) := by decide +kernel
theorem dX6_goes_11 : decode cX6_goes 11 = .ok (.iload_n 3, 1) := by decide +kernel
theorem dX6_goes_12 : decode cX6_goes 12 = .ok (.imul, 1) := by decide +kernel
theorem dX6_goes_13 : decode cX6_goes 13 = .ok (.istore 10, 2) := by decide +kernel
theorem dX6_goes_15 : decode cX6_goes 15 = .ok (.iload 4, 2) := by decide +kernel
theorem dX6_goes_17 : decode cX6_goes 17 = .ok (.istore 11, 2) := by decide +kernel
theorem dX6_goes_19 : decode cX6_goes 19 = .ok (.iload 5, 2) := by decide +kernel
theorem dX6_goes_21 : decode cX6_goes 21 = .ok (.istore 12, 2) := by decide +kernel
theorem dX6_goes_23 : decode cX6_goes 23 = .ok (.iload 6, 2) := by decide +kernel
theorem dX6_goes_25 : decode cX6_goes 25 = .ok (.istore 13, 2) := by decide +kernel
theorem dX6_goes_27 : decode cX6_goes 27 = .ok (.iload 7, 2) := by decide +kernel
theorem dX6_goes_29 : decode cX6_goes 29 = .ok (.iconst (-1), 1) := by decide +kernel
theorem dX6_goes_30 : decode cX6_goes 30 = .ok (.if_icmp .eq 444, 3) := by decide +kernel
theorem dX6_goes_33 : decode cX6_goes 33 = .ok (.iconst (-1), 1) := by decide +kernel
theorem dX6_goes_34 : decode cX6_goes 34 = .ok (.istore 14, 2) := by decide +kernel
theorem dX6_goes_36 : decode cX6_goes 36 = .ok (.iconst 0, 1) := by decide +kernel
theorem dX6_goes_37 : decode cX6_goes 37 = .ok (.istore 15, 2) := by decide +kernel
theorem dX6_goes_39 : decode cX6_goes 39 = .ok (.iconst 0, 1) := by decide +kernel
theorem dX6_goes_40 : decode cX6_goes 40 = .ok (.istore 16, 2) := by decide +kernel
theorem dX6_goes_42 : decode cX6_goes 42 = .ok (.iconst 0, 1) := by decide +kernel
theorem dX6_goes_43 : decode cX6_goes 43 = .ok (.istore 17, 2) := by decide +kernel
theorem dX6_goes_45 : decode cX6_goes 45 = .ok (.iconst 1, 1) := by decide +kernel
theorem dX6_goes_46 : decode cX6_goes 46 = .ok (.istore 18, 2) := by decide +kernel
theorem dX6_goes_48 : decode cX6_goes 48 = .ok (.aload_n 0, 1) := by decide +kernel
theorem dX6_goes_49 : decode cX6_goes 49 = .ok (.getfield 75, 3) := by decide +kernel
theorem dX6_goes_52 : decode cX6_goes 52 = .ok (.iload 7, 2) := by decide +kernel
theorem dX6_goes_54 : decode cX6_goes 54 = .ok (.iconst (-1), 1) := by decide +kernel
theorem dX6_goes_55 : decode cX6_goes 55 = .ok (.iastore, 1) := by decide +kernel
theorem dX6_goes_56 : decode cX6_goes 56 = .ok (.iload 18, 2) := by decide +kernel
theorem dX6_goes_58 : decode cX6_goes 58 = .ok (.ifCond .eq 335, 3) := by decide +kernel
theorem dX6_goes_61 : decode cX6_goes 61 = .ok (.bipush 61, 2) := by decide +kernel
theorem dX6_goes_63 : decode cX6_goes 63 = .ok (.iload 8, 2) := by decide +kernel
theorem dX6_goes_65 : decode cX6_goes 65 = .ok (.imul, 1) := by decide +kernel
theorem dX6_goes_66 : decode cX6_goes 66 = .ok (.iload 9, 2) := by decide +kernel
theorem dX6_goes_68 : decode cX6_goes 68 = .ok (.iadd, 1) := by decide +kernel
theorem dX6_goes_69 : decode cX6_goes 69 = .ok (.iconst 1, 1) := by decide +kernel
theorem dX6_goes_70 : decode cX6_goes 70 = .ok (.iadd, 1) := by decide +kernel
theorem dX6_goes_71 : decode cX6_goes 71 = .ok (.istore 19, 2) := by decide +kernel
theorem dX6_goes_73 : decode cX6_goes 73 = .ok (.bipush 10, 2) := by decide +kernel
theorem dX6_goes_75 : decode cX6_goes 75 = .ok (.aload_n 0, 1) := by decide +kernel
theorem dX6_goes_76 : decode cX6_goes 76 = .ok (.getfield 72, 3) := by decide +kernel
theorem dX6_goes_79 : decode cX6_goes 79 = .ok (.iload 19, 2) := by decide +kernel
theorem dX6_goes_81 : decode cX6_goes 81 = .ok (.iaload, 1) := by decide +kernel
theorem dX6_goes_82 : decode cX6_goes 82 = .ok (.iadd, 1) := by decide +kernel
theorem dX6_goes_83 : decode cX6_goes 83 = .ok (.iload 9, 2) := by decide +kernel
theorem dX6_goes_85 : decode cX6_goes 85 = .ok (.iconst 1, 1) := by decide +kernel
theorem dX6_goes_86 : decode cX6_goes 86 = .ok (.iadd, 1) := by decide +kernel
theorem dX6_goes_87 : decode cX6_goes 87 = .ok (.iload 12, 2) := by decide +kernel
theorem dX6_goes_89 : decode cX6_goes 89 = .ok (.iload 13, 2) := by decide +kernel
theorem dX6_goes_91 : decode cX6_goes 91 = .ok (.invokestatic 90, 3) := by decide +kernel
theorem dX6_goes_94 : decode cX6_goes 94 = .ok (.ifCond .eq 7, 3) := by decide +kernel
theorem dX6_goes_97 : decode cX6_goes 97 = .ok (.iconst 3, 1) := by decide +kernel
theorem dX6_goes_98 : decode cX6_goes 98 = .ok (.goto 4, 3) := by decide +kernel
theorem dX6_goes_101 : decode cX6_goes 101 = .ok (.iconst 0, 1) := by decide +kernel
theorem dX6_goes_102 : decode cX6_goes 102 = .ok (.isub, 1) := by decide +kernel
theorem dX6_goes_103 : decode cX6_goes 103 = .ok (.istore 20, 2) := by decide +kernel
theorem dX6_goes_105 : decode cX6_goes 105 = .ok (.aload_n 0, 1) := by decide +kernel
theorem dX6_goes_106 : decode cX6_goes 106 = .ok (.iload 8, 2) := by decide +kernel
theorem dX6_goes_108 : decode cX6_goes 108 = .ok (.iload 9, 2) := by decide +kernel
theorem dX6_goes_110 : decode cX6_goes 110 = .ok (.iconst 1, 1) := by decide +kernel
theorem dX6_goes_111 : decode cX6_goes 111 = .ok (.iadd, 1) := by decide +kernel
theorem dX6_goes_112 : decode cX6_goes 112 = .ok (.invokevirtual 111, 3) := by decide +kernel
theorem dX6_goes_115 : decode cX6_goes 115 = .ok (.istore 21, 2) := by decide +kernel
theorem dX6_goes_117 : decode cX6_goes 117 = .ok (.iload 10, 2) := by decide +kernel
theorem dX6_goes_119 : decode cX6_goes 119 = .ok (.iload 20, 2) := by decide +kernel
theorem dX6_goes_121 : decode cX6_goes 121 = .ok (.if_icmp .ge 9, 3) := by decide +kernel
theorem dX6_goes_124 : decode cX6_goes 124 = .ok (.iconst 0, 1) := by decide +kernel
theorem dX6_goes_125 : decode cX6_goes 125 = .ok (.istore 18, 2) := by decide +kernel
theorem dX6_goes_127 : decode cX6_goes 127 = .ok (.goto 263, 3) := by decide +kernel
theorem dX6_goes_130 : decode cX6_goes 130 = .ok (.iload 21, 2) := by decide +kernel
theorem dX6_goes_132 : decode cX6_goes 132 = .ok (.iconst (-1), 1) := by decide +kernel
theorem dX6_goes_133 : decode cX6_goes 133 = .ok (.if_icmp .eq 21, 3) := by decide +kernel
theorem dX6_goes_136 : decode cX6_goes 136 = .ok (.iload 21, 2) := by decide +kernel
theorem dX6_goes_138 : decode cX6_goes 138 = .ok (.istore 14, 2) := by decide +kernel
theorem dX6_goes_140 : decode cX6_goes 140 = .ok (.iload 10, 2) := by decide +kernel
theorem dX6_goes_142 : decode cX6_goes 142 = .ok (.iconst 3, 1) := by decide +kernel
theorem dX6_goes_143 : decode cX6_goes 143 = .ok (.imul, 1) := by decide +kernel
theorem dX6_goes_144 : decode cX6_goes 144 = .ok (.iconst 4, 1) := by decide +kernel
theorem dX6_goes_145 : decode cX6_goes 145 = .ok (.idiv, 1) := by decide +kernel
theorem dX6_goes_146 : decode cX6_goes 146 = .ok (.istore 15, 2) := by decide +kernel
theorem dX6_goes_148 : decode cX6_goes 148 = .ok (.iconst 0, 1) := by decide +kernel
theorem dX6_goes_149 : decode cX6_goes 149 = .ok (.istore 18, 2) := by decide +kernel
theorem dX6_goes_151 : decode cX6_goes 151 = .ok (.goto 239, 3) := by decide +kernel
theorem dX6_goes_154 : decode cX6_goes 154 = .ok (.iinc 9 1, 3) := by decide +kernel
theorem dX6_goes_157 : decode cX6_goes 157 = .ok (.iload 10, 2) := by decide +kernel
theorem dX6_goes_159 : decode cX6_goes 159 = .ok (.iload 20, 2) := by decide +kernel
theorem dX6_goes_161 : decode cX6_goes 161 = .ok (.isub, 1) := by decide +kernel
theorem dX6_goes_162 : decode cX6_goes 162 = .ok (.istore 10, 2) := by decide +kernel
theorem dX6_goes_164 : decode cX6_goes 164 = .ok (.aload_n 0, 1) := by decide +kernel
theorem dX6_goes_165 : decode cX6_goes 165 = .ok (.getfield 72, 3) := by decide +kernel
theorem dX6_goes_168 : decode cX6_goes 168 = .ok (.iload 19, 2) := by decide +kernel
theorem dX6_goes_170 : decode cX6_goes 170 = .ok (.dup2, 1) := by decide +kernel
theorem dX6_goes_171 : decode cX6_goes 171 = .ok (.iaload, 1) := by decide +kernel
theorem dX6_goes_172 : decode cX6_goes 172 = .ok (.aload_n 0, 1) := by decide +kernel
theorem dX6_goes_173 : decode cX6_goes 173 = .ok (.getfield 72, 3) := by decide +kernel
theorem dX6_goes_176 : decode cX6_goes 176 = .ok (.iload 19, 2) := by decide +kernel
theorem dX6_goes_178 : decode cX6_goes 178 = .ok (.iaload, 1) := by decide +kernel
theorem dX6_goes_179 : decode cX6_goes 179 = .ok (.bipush 9, 2) := by decide +kernel
theorem dX6_goes_181 : decode cX6_goes 181 = .ok (.if_icmp .ge 7, 3) := by decide +kernel
theorem dX6_goes_184 : decode cX6_goes 184 = .ok (.iconst 1, 1) := by decide +kernel
theorem dX6_goes_185 : decode cX6_goes 185 = .ok (.goto 4, 3) := by decide +kernel
theorem dX6_goes_188 : decode cX6_goes 188 = .ok (.iconst 0, 1) := by decide +kernel
theorem dX6_goes_189 : decode cX6_goes 189 = .ok (.iadd, 1) := by decide +kernel
theorem dX6_goes_190 : decode cX6_goes 190 = .ok (.iastore, 1) := by decide +kernel
theorem dX6_goes_191 : decode cX6_goes 191 = .ok (.iload 9, 2) := by decide +kernel
theorem dX6_goes_193 : decode cX6_goes 193 = .ok (.iload 12, 2) := by decide +kernel
theorem dX6_goes_195 : decode cX6_goes 195 = .ok (.iload 13, 2) := by decide +kernel
theorem dX6_goes_197 : decode cX6_goes 197 = .ok (.invokestatic 90, 3) := by decide +kernel
theorem dX6_goes_200 : decode cX6_goes 200 = .ok (.istore 22, 2) := by decide +kernel
theorem dX6_goes_202 : decode cX6_goes 202 = .ok (.iload 16, 2) := by decide +kernel
theorem dX6_goes_204 : decode cX6_goes 204 = .ok (.iload 22, 2) := by decide +kernel
theorem dX6_goes_206 : decode cX6_goes 206 = .ok (.ifCond .eq 7, 3) := by decide +kernel
theorem dX6_goes_209 : decode cX6_goes 209 = .ok (.iconst 0, 1) := by decide +kernel
theorem dX6_goes_210 : decode cX6_goes 210 = .ok (.goto 4, 3) := by decide +kernel
theorem dX6_goes_213 : decode cX6_goes 213 = .ok (.iconst 1, 1) := by decide +kernel
theorem dX6_goes_214 : decode cX6_goes 214 = .ok (.iadd, 1) := by decide +kernel
theorem dX6_goes_215 : decode cX6_goes 215 = .ok (.istore 16, 2) := by decide +kernel
theorem dX6_goes_217 : decode cX6_goes 217 = .ok (.iload 9, 2) := by decide +kernel
theorem dX6_goes_219 : decode cX6_goes 219 = .ok (.bipush 60, 2) := by decide +kernel
theorem dX6_goes_221 : decode cX6_goes 221 = .ok (.if_icmp .ne 7, 3) := by decide +kernel
theorem dX6_goes_224 : decode cX6_goes 224 = .ok (.iconst 1, 1) := by decide +kernel
theorem dX6_goes_225 : decode cX6_goes 225 = .ok (.goto 4, 3) := by decide +kernel
theorem dX6_goes_228 : decode cX6_goes 228 = .ok (.iconst 0, 1) := by decide +kernel
theorem dX6_goes_229 : decode cX6_goes 229 = .ok (.istore 17, 2) := by decide +kernel
theorem dX6_goes_231 : decode cX6_goes 231 = .ok (.iload 17, 2) := by decide +kernel
theorem dX6_goes_233 : decode cX6_goes 233 = .ok (.ifCond .ne 7, 3) := by decide +kernel
theorem dX6_goes_236 : decode cX6_goes 236 = .ok (.iconst 1, 1) := by decide +kernel
theorem dX6_goes_237 : decode cX6_goes 237 = .ok (.goto 4, 3) := by decide +kernel
theorem dX6_goes_240 : decode cX6_goes 240 = .ok (.iconst 0, 1) := by decide +kernel
theorem dX6_goes_241 : decode cX6_goes 241 = .ok (.istore 18, 2) := by decide +kernel
theorem dX6_goes_243 : decode cX6_goes 243 = .ok (.iload 18, 2) := by decide +kernel
theorem dX6_goes_245 : decode cX6_goes 245 = .ok (.ifCond .eq 145, 3) := by decide +kernel
theorem dX6_goes_248 : decode cX6_goes 248 = .ok (.iload 11, 2) := by decide +kernel
theorem dX6_goes_250 : decode cX6_goes 250 = .ok (.ifCond .eq 140, 3) := by decide +kernel
theorem dX6_goes_253 : decode cX6_goes 253 = .ok (.iload 22, 2) := by decide +kernel
theorem dX6_goes_255 : decode cX6_goes 255 = .ok (.ifCond .ne 135, 3) := by decide +kernel
theorem dX6_goes_258 : decode cX6_goes 258 = .ok (.iload 16, 2) := by decide +kernel
theorem dX6_goes_260 : decode cX6_goes 260 = .ok (.bipush 12, 2) := by decide +kernel
theorem dX6_goes_262 : decode cX6_goes 262 = .ok (.if_icmp .ge 18, 3) := by decide +kernel
theorem dX6_goes_265 : decode cX6_goes 265 = .ok (.iload 10, 2) := by decide +kernel
theorem dX6_goes_267 : decode cX6_goes 267 = .ok (.sipush 300, 3) := by decide +kernel
theorem dX6_goes_270 : decode cX6_goes 270 = .ok (.if_icmp .ge 120, 3) := by decide +kernel
theorem dX6_goes_273 : decode cX6_goes 273 = .ok (.iload 16, 2) := by decide +kernel
theorem dX6_goes_275 : decode cX6_goes 275 = .ok (.bipush 6, 2) := by decide +kernel
theorem dX6_goes_277 : decode cX6_goes 277 = .ok (.if_icmp .lt 113, 3) := by decide +kernel
theorem dX6_goes_280 : decode cX6_goes 280 = .ok (.iload 8, 2) := by decide +kernel
theorem dX6_goes_282 : decode cX6_goes 282 = .ok (.iload 11, 2) := by decide +kernel
theorem dX6_goes_284 : decode cX6_goes 284 = .ok (.iadd, 1) := by decide +kernel
theorem dX6_goes_285 : decode cX6_goes 285 = .ok (.iconst 0, 1) := by decide +kernel
theorem dX6_goes_286 : decode cX6_goes 286 = .ok (.bipush 8, 2) := by decide +kernel
theorem dX6_goes_288 : decode cX6_goes 288 = .ok (.invokestatic 90, 3) := by decide +kernel
theorem dX6_goes_291 : decode cX6_goes 291 = .ok (.ifCond .eq 17, 3) := by decide +kernel
theorem dX6_goes_294 : decode cX6_goes 294 = .ok (.aload_n 0, 1) := by decide +kernel
theorem dX6_goes_295 : decode cX6_goes 295 = .ok (.iload 8, 2) := by decide +kernel
theorem dX6_goes_297 : decode cX6_goes 297 = .ok (.iload 11, 2) := by decide +kernel
theorem dX6_goes_299 : decode cX6_goes 299 = .ok (.iadd, 1) := by decide +kernel
theorem dX6_goes_300 : decode cX6_goes 300 = .ok (.iload 9, 2) := by decide +kernel
theorem dX6_goes_302 : decode cX6_goes 302 = .ok (.invokevirtual 111, 3) := by decide +kernel
theorem dX6_goes_305 : decode cX6_goes 305 = .ok (.goto 4, 3) := by decide +kernel
theorem dX6_goes_308 : decode cX6_goes 308 = .ok (.iconst (-1), 1) := by decide +kernel
theorem dX6_goes_309 : decode cX6_goes 309 = .ok (.istore 23, 2) := by decide +kernel
theorem dX6_goes_311 : decode cX6_goes 311 = .ok (.iload 8, 2) := by decide +kernel
theorem dX6_goes_313 : decode cX6_goes 313 = .ok (.iload 11, 2) := by decide +kernel
theorem dX6_goes_315 : decode cX6_goes 315 = .ok (.iadd, 1) := by decide +kernel
theorem dX6_goes_316 : decode cX6_goes 316 = .ok (.iconst 0, 1) := by decide +kernel
theorem dX6_goes_317 : decode cX6_goes 317 = .ok (.bipush 8, 2) := by decide +kernel
theorem dX6_goes_319 : decode cX6_goes 319 = .ok (.invokestatic 90, 3) := by decide +kernel
theorem dX6_goes_322 : decode cX6_goes 322 = .ok (.ifCond .ne 7, 3) := by decide +kernel
theorem dX6_goes_325 : decode cX6_goes 325 = .ok (.iconst 1, 1) := by decide +kernel
theorem dX6_goes_326 : decode cX6_goes 326 = .ok (.goto 4, 3) := by decide +kernel
theorem dX6_goes_329 : decode cX6_goes 329 = .ok (.iconst 0, 1) := by decide +kernel
theorem dX6_goes_330 : decode cX6_goes 330 = .ok (.istore 17, 2) := by decide +kernel
theorem dX6_goes_332 : decode cX6_goes 332 = .ok (.iload 17, 2) := by decide +kernel
theorem dX6_goes_334 : decode cX6_goes 334 = .ok (.ifCond .ne 13, 3) := by decide +kernel
theorem dX6_goes_337 : decode cX6_goes 337 = .ok (.iload 23, 2) := by decide +kernel
theorem dX6_goes_339 : decode cX6_goes 339 = .ok (.iconst (-1), 1) := by decide +kernel
theorem dX6_goes_340 : decode cX6_goes 340 = .ok (.if_icmp .ne 7, 3) := by decide +kernel
theorem dX6_goes_343 : decode cX6_goes 343 = .ok (.iconst 1, 1) := by decide +kernel
theorem dX6_goes_344 : decode cX6_goes 344 = .ok (.goto 4, 3) := by decide +kernel
theorem dX6_goes_347 : decode cX6_goes 347 = .ok (.iconst 0, 1) := by decide +kernel
theorem dX6_goes_348 : decode cX6_goes 348 = .ok (.istore 18, 2) := by decide +kernel
theorem dX6_goes_350 : decode cX6_goes 350 = .ok (.iload 23, 2) := by decide +kernel
theorem dX6_goes_352 : decode cX6_goes 352 = .ok (.istore 14, 2) := by decide +kernel
theorem dX6_goes_354 : decode cX6_goes 354 = .ok (.iload 23, 2) := by decide +kernel
theorem dX6_goes_356 : decode cX6_goes 356 = .ok (.iconst (-1), 1) := by decide +kernel
theorem dX6_goes_357 : decode cX6_goes 357 = .ok (.if_icmp .ne 8, 3) := by decide +kernel
theorem dX6_goes_360 : decode cX6_goes 360 = .ok (.iload 15, 2) := by decide +kernel
theorem dX6_goes_362 : decode cX6_goes 362 = .ok (.goto 7, 3) := by decide +kernel
theorem dX6_goes_365 : decode cX6_goes 365 = .ok (.iload 10, 2) := by decide +kernel
theorem dX6_goes_367 : decode cX6_goes 367 = .ok (.iconst 2, 1) := by decide +kernel
theorem dX6_goes_368 : decode cX6_goes 368 = .ok (.idiv, 1) := by decide +kernel
theorem dX6_goes_369 : decode cX6_goes 369 = .ok (.istore 15, 2) := by decide +kernel
theorem dX6_goes_371 : decode cX6_goes 371 = .ok (.iload 8, 2) := by decide +kernel
theorem dX6_goes_373 : decode cX6_goes 373 = .ok (.iload 18, 2) := by decide +kernel
theorem dX6_goes_375 : decode cX6_goes 375 = .ok (.ifCond .eq 8, 3) := by decide +kernel
theorem dX6_goes_378 : decode cX6_goes 378 = .ok (.iload 11, 2) := by decide +kernel
theorem dX6_goes_380 : decode cX6_goes 380 = .ok (.goto 4, 3) := by decide +kernel
theorem dX6_goes_383 : decode cX6_goes 383 = .ok (.iconst 0, 1) := by decide +kernel
theorem dX6_goes_384 : decode cX6_goes 384 = .ok (.iadd, 1) := by decide +kernel
theorem dX6_goes_385 : decode cX6_goes 385 = .ok (.istore 8, 2) := by decide +kernel
theorem dX6_goes_387 : decode cX6_goes 387 = .ok (.iconst 0, 1) := by decide +kernel
theorem dX6_goes_388 : decode cX6_goes 388 = .ok (.istore 16, 2) := by decide +kernel
theorem dX6_goes_390 : decode cX6_goes 390 = .ok (.goto (-334), 3) := by decide +kernel
theorem dX6_goes_393 : decode cX6_goes 393 = .ok (.aload_n 0, 1) := by decide +kernel
theorem dX6_goes_394 : decode cX6_goes 394 = .ok (.getfield 75, 3) := by decide +kernel
theorem dX6_goes_397 : decode cX6_goes 397 = .ok (.iload 7, 2) := by decide +kernel
theorem dX6_goes_399 : decode cX6_goes 399 = .ok (.iload 17, 2) := by decide +kernel
theorem dX6_goes_401 : decode cX6_goes 401 = .ok (.ifCond .ne 10, 3) := by decide +kernel
theorem dX6_goes_404 : decode cX6_goes 404 = .ok (.iload 9, 2) := by decide +kernel
theorem dX6_goes_406 : decode cX6_goes 406 = .ok (.bipush 30, 2) := by decide +kernel
theorem dX6_goes_408 : decode cX6_goes 408 = .ok (.if_icmp .ge 7, 3) := by decide +kernel
theorem dX6_goes_411 : decode cX6_goes 411 = .ok (.iconst (-1), 1) := by decide +kernel
theorem dX6_goes_412 : decode cX6_goes 412 = .ok (.goto 11, 3) := by decide +kernel
theorem dX6_goes_415 : decode cX6_goes 415 = .ok (.bipush 100, 2) := by decide +kernel
theorem dX6_goes_417 : decode cX6_goes 417 = .ok (.iload 8, 2) := by decide +kernel
theorem dX6_goes_419 : decode cX6_goes 419 = .ok (.imul, 1) := by decide +kernel
theorem dX6_goes_420 : decode cX6_goes 420 = .ok (.iload 9, 2) := by decide +kernel
theorem dX6_goes_422 : decode cX6_goes 422 = .ok (.iadd, 1) := by decide +kernel
theorem dX6_goes_423 : decode cX6_goes 423 = .ok (.iastore, 1) := by decide +kernel
theorem dX6_goes_424 : decode cX6_goes 424 = .ok (.iload 14, 2) := by decide +kernel
theorem dX6_goes_426 : decode cX6_goes 426 = .ok (.istore 7, 2) := by decide +kernel
theorem dX6_goes_428 : decode cX6_goes 428 = .ok (.iload 14, 2) := by decide +kernel
theorem dX6_goes_430 : decode cX6_goes 430 = .ok (.iconst (-1), 1) := by decide +kernel
theorem dX6_goes_431 : decode cX6_goes 431 = .ok (.if_icmp .eq 40, 3) := by decide +kernel
theorem dX6_goes_434 : decode cX6_goes 434 = .ok (.aload_n 0, 1) := by decide +kernel
theorem dX6_goes_435 : decode cX6_goes 435 = .ok (.getfield 75, 3) := by decide +kernel
theorem dX6_goes_438 : decode cX6_goes 438 = .ok (.iload 14, 2) := by decide +kernel
theorem dX6_goes_440 : decode cX6_goes 440 = .ok (.iaload, 1) := by decide +kernel
theorem dX6_goes_441 : decode cX6_goes 441 = .ok (.bipush 100, 2) := by decide +kernel
theorem dX6_goes_443 : decode cX6_goes 443 = .ok (.idiv, 1) := by decide +kernel
theorem dX6_goes_444 : decode cX6_goes 444 = .ok (.istore 8, 2) := by decide +kernel
theorem dX6_goes_446 : decode cX6_goes 446 = .ok (.aload_n 0, 1) := by decide +kernel
theorem dX6_goes_447 : decode cX6_goes 447 = .ok (.getfield 75, 3) := by decide +kernel
theorem dX6_goes_450 : decode cX6_goes 450 = .ok (.iload 14, 2) := by decide +kernel
theorem dX6_goes_452 : decode cX6_goes 452 = .ok (.iaload, 1) := by decide +kernel
theorem dX6_goes_453 : decode cX6_goes 453 = .ok (.bipush 100, 2) := by decide +kernel
theorem dX6_goes_455 : decode cX6_goes 455 = .ok (.irem, 1) := by decide +kernel
theorem dX6_goes_456 : decode cX6_goes 456 = .ok (.istore 9, 2) := by decide +kernel
theorem dX6_goes_458 : decode cX6_goes 458 = .ok (.iload 15, 2) := by decide +kernel
theorem dX6_goes_460 : decode cX6_goes 460 = .ok (.istore 10, 2) := by decide +kernel
theorem dX6_goes_462 : decode cX6_goes 462 = .ok (.iconst 0, 1) := by decide +kernel
theorem dX6_goes_463 : decode cX6_goes 463 = .ok (.istore 11, 2) := by decide +kernel
theorem dX6_goes_465 : decode cX6_goes 465 = .ok (.iconst 1, 1) := by decide +kernel
theorem dX6_goes_466 : decode cX6_goes 466 = .ok (.istore 12, 2) := by decide +kernel
theorem dX6_goes_468 : decode cX6_goes 468 = .ok (.iconst 0, 1) := by decide +kernel
theorem dX6_goes_469 : decode cX6_goes 469 = .ok (.istore 13, 2) := by decide +kernel
theorem dX6_goes_471 : decode cX6_goes 471 = .ok (.goto (-444), 3) := by decide +kernel
theorem dX6_goes_474 : decode cX6_goes 474 = .ok (.return_, 1) := by decide +kernel
theorem dX6_distance_0 : decode cX6_distance 0 = .ok (.iload_n 0, 1) := by decide +kernel
theorem dX6_distance_1 : decode cX6_distance 1 = .ok (.bipush 100, 2) := by decide +kernel
theorem dX6_distance_3 : decode cX6_distance 3 = .ok (.idiv, 1) := by decide +kernel
theorem dX6_distance_4 : decode cX6_distance 4 = .ok (.iconst 4, 1) := by decide +kernel
theorem dX6_distance_5 : decode cX6_distance 5 = .ok (.isub, 1) := by decide +kernel
theorem dX6_distance_6 : decode cX6_distance 6 = .ok (.istore_n 1, 1) := by decide +kernel
theorem dX6_distance_7 : decode cX6_distance 7 = .ok (.iload_n 0, 1) := by decide +kernel
theorem dX6_distance_8 : decode cX6_distance 8 = .ok (.bipush 100, 2) := by decide +kernel
theorem dX6_distance_10 : decode cX6_distance 10 = .ok (.irem, 1) := by decide +kernel
theorem dX6_distance_11 : decode cX6_distance 11 = .ok (.bipush 50, 2) := by decide +kernel
theorem dX6_distance_13 : decode cX6_distance 13 = .ok (.isub, 1) := by decide +kernel
theorem dX6_distance_14 : decode cX6_distance 14 = .ok (.istore_n 2, 1) := by decide +kernel
theorem dX6_distance_15 : decode cX6_distance 15 = .ok (.iload_n 0, 1) := by decide +kernel
theorem dX6_distance_16 : decode cX6_distance 16 = .ok (.iconst (-1), 1) := by decide +kernel
theorem dX6_distance_17 : decode cX6_distance 17 = .ok (.if_icmp .ne 9, 3) := by decide +kernel
theorem dX6_distance_20 : decode cX6_distance 20 = .ok (.sipush 1000, 3) := by decide +kernel
theorem dX6_distance_23 : decode cX6_distance 23 = .ok (.goto 26, 3) := by decide +kernel
theorem dX6_distance_26 : decode cX6_distance 26 = .ok (.iconst 2, 1) := by decide +kernel
theorem dX6_distance_27 : decode cX6_distance 27 = .ok (.iload_n 1, 1) := by decide +kernel
theorem dX6_distance_28 : decode cX6_distance 28 = .ok (.ifCond .ge 8, 3) := by decide +kernel
theorem dX6_distance_31 : decode cX6_distance 31 = .ok (.iload_n 1, 1) := by decide +kernel
theorem dX6_distance_32 : decode cX6_distance 32 = .ok (.ineg, 1) := by decide +kernel
theorem dX6_distance_33 : decode cX6_distance 33 = .ok (.goto 4, 3) := by decide +kernel
theorem dX6_distance_36 : decode cX6_distance 36 = .ok (.iload_n 1, 1) := by decide +kernel
theorem dX6_distance_37 : decode cX6_distance 37 = .ok (.imul, 1) := by decide +kernel
theorem dX6_distance_38 : decode cX6_distance 38 = .ok (.iload_n 2, 1) := by decide +kernel
theorem dX6_distance_39 : decode cX6_distance 39 = .ok (.ifCond .ge 8, 3) := by decide +kernel
theorem dX6_distance_42 : decode cX6_distance 42 = .ok (.iload_n 2, 1) := by decide +kernel
theorem dX6_distance_43 : decode cX6_distance 43 = .ok (.ineg, 1) := by decide +kernel
theorem dX6_distance_44 : decode cX6_distance 44 = .ok (.goto 4, 3) := by decide +kernel
theorem dX6_distance_47 : decode cX6_distance 47 = .ok (.iload_n 2, 1) := by decide +kernel
theorem dX6_distance_48 : decode cX6_distance 48 = .ok (.iadd, 1) := by decide +kernel
theorem dX6_distance_49 : decode cX6_distance 49 = .ok (.ireturn, 1) := by decide +kernel
theorem dX6_scored_0 : decode cX6_scored 0 = .ok (.bipush 11, 2) := by decide +kernel
theorem dX6_scored_2 : decode cX6_scored 2 = .ok (.istore_n 1, 1) := by decide +kernel
theorem dX6_scored_3 : decode cX6_scored 3 = .ok (.bipush 11, 2) := by decide +kernel
theorem dX6_scored_5 : decode cX6_scored 5 = .ok (.istore_n 2, 1) := by decide +kernel
theorem dX6_scored_6 : decode cX6_scored 6 = .ok (.iconst 0, 1) := by decide +kernel
theorem dX6_scored_7 : decode cX6_scored 7 = .ok (.istore_n 3, 1) := by decide +kernel
theorem dX6_scored_8 : decode cX6_scored 8 = .ok (.iload_n 3, 1) := by decide +kernel
theorem dX6_scored_9 : decode cX6_scored 9 = .ok (.bipush 6, 2) := by decide +kernel
theorem dX6_scored_11 : decode cX6_scored 11 = .ok (.if_icmp .ge 56, 3) := by decide +kernel
theorem dX6_scored_14 : decode cX6_scored 14 = .ok (.aload_n 0, 1) := by decide +kernel
theorem dX6_scored_15 : decode cX6_scored 15 = .ok (.getfield 75, 3) := by decide +kernel
theorem dX6_scored_18 : decode cX6_scored 18 = .ok (.iload_n 3, 1) := by decide +kernel
theorem dX6_scored_19 : decode cX6_scored 19 = .ok (.iaload, 1) := by decide +kernel
theorem dX6_scored_20 : decode cX6_scored 20 = .ok (.invokestatic 115, 3) := by decide +kernel
theorem dX6_scored_23 : decode cX6_scored 23 = .ok (.istore 4, 2) := by decide +kernel
theorem dX6_scored_25 : decode cX6_scored 25 = .ok (.iload_n 3, 1) := by decide +kernel
theorem dX6_scored_26 : decode cX6_scored 26 = .ok (.iconst 3, 1) := by decide +kernel
theorem dX6_scored_27 : decode cX6_scored 27 = .ok (.if_icmp .ge 14, 3) := by decide +kernel
theorem dX6_scored_30 : decode cX6_scored 30 = .ok (.iload 4, 2) := by decide +kernel
theorem dX6_scored_32 : decode cX6_scored 32 = .ok (.iload_n 1, 1) := by decide +kernel
theorem dX6_scored_33 : decode cX6_scored 33 = .ok (.if_icmp .ge 8, 3) := by decide +kernel
theorem dX6_scored_36 : decode cX6_scored 36 = .ok (.iload 4, 2) := by decide +kernel
theorem dX6_scored_38 : decode cX6_scored 38 = .ok (.goto 4, 3) := by decide +kernel
theorem dX6_scored_41 : decode cX6_scored 41 = .ok (.iload_n 1, 1) := by decide +kernel
theorem dX6_scored_42 : decode cX6_scored 42 = .ok (.istore_n 1, 1) := by decide +kernel
theorem dX6_scored_43 : decode cX6_scored 43 = .ok (.iload_n 3, 1) := by decide +kernel
theorem dX6_scored_44 : decode cX6_scored 44 = .ok (.iconst 3, 1) := by decide +kernel
theorem dX6_scored_45 : decode cX6_scored 45 = .ok (.if_icmp .lt 14, 3) := by decide +kernel
theorem dX6_scored_48 : decode cX6_scored 48 = .ok (.iload 4, 2) := by decide +kernel
theorem dX6_scored_50 : decode cX6_scored 50 = .ok (.iload_n 2, 1) := by decide +kernel
theorem dX6_scored_51 : decode cX6_scored 51 = .ok (.if_icmp .ge 8, 3) := by decide +kernel
theorem dX6_scored_54 : decode cX6_scored 54 = .ok (.iload 4, 2) := by decide +kernel
theorem dX6_scored_56 : decode cX6_scored 56 = .ok (.goto 4, 3) := by decide +kernel
theorem dX6_scored_59 : decode cX6_scored 59 = .ok (.iload_n 2, 1) := by decide +kernel
theorem dX6_scored_60 : decode cX6_scored 60 = .ok (.istore_n 2, 1) := by decide +kernel
theorem dX6_scored_61 : decode cX6_scored 61 = .ok (.iinc 3 1, 3) := by decide +kernel
theorem dX6_scored_64 : decode cX6_scored 64 = .ok (.goto (-56), 3) := by decide +kernel
theorem dX6_scored_67 : decode cX6_scored 67 = .ok (.iconst 0, 1) := by decide +kernel
theorem dX6_scored_68 : decode cX6_scored 68 = .ok (.istore_n 3, 1) := by decide +kernel
theorem dX6_scored_69 : decode cX6_scored 69 = .ok (.iconst 0, 1) := by decide +kernel
theorem dX6_scored_70 : decode cX6_scored 70 = .ok (.istore 4, 2) := by decide +kernel
theorem dX6_scored_72 : decode cX6_scored 72 = .ok (.iload 4, 2) := by decide +kernel
theorem dX6_scored_74 : decode cX6_scored 74 = .ok (.bipush 6, 2) := by decide +kernel
theorem dX6_scored_76 : decode cX6_scored 76 = .ok (.if_icmp .ge 71, 3) := by decide +kernel
theorem dX6_scored_79 : decode cX6_scored 79 = .ok (.aload_n 0, 1) := by decide +kernel
theorem dX6_scored_80 : decode cX6_scored 80 = .ok (.getfield 75, 3) := by decide +kernel
theorem dX6_scored_83 : decode cX6_scored 83 = .ok (.iload 4, 2) := by decide +kernel
theorem dX6_scored_85 : decode cX6_scored 85 = .ok (.iaload, 1) := by decide +kernel
theorem dX6_scored_86 : decode cX6_scored 86 = .ok (.invokestatic 115, 3) := by decide +kernel
theorem dX6_scored_89 : decode cX6_scored 89 = .ok (.istore 5, 2) := by decide +kernel
theorem dX6_scored_91 : decode cX6_scored 91 = .ok (.iload_n 3, 1) := by decide +kernel
theorem dX6_scored_92 : decode cX6_scored 92 = .ok (.iload_n 1, 1) := by decide +kernel
theorem dX6_scored_93 : decode cX6_scored 93 = .ok (.iload_n 2, 1) := by decide +kernel
theorem dX6_scored_94 : decode cX6_scored 94 = .ok (.if_icmp .ge 19, 3) := by decide +kernel
theorem dX6_scored_97 : decode cX6_scored 97 = .ok (.iload 4, 2) := by decide +kernel
theorem dX6_scored_99 : decode cX6_scored 99 = .ok (.iconst 3, 1) := by decide +kernel
theorem dX6_scored_100 : decode cX6_scored 100 = .ok (.if_icmp .ge 13, 3) := by decide +kernel
theorem dX6_scored_103 : decode cX6_scored 103 = .ok (.iload 5, 2) := by decide +kernel
theorem dX6_scored_105 : decode cX6_scored 105 = .ok (.iload_n 2, 1) := by decide +kernel
theorem dX6_scored_106 : decode cX6_scored 106 = .ok (.if_icmp .ge 7, 3) := by decide +kernel
theorem dX6_scored_109 : decode cX6_scored 109 = .ok (.iconst 1, 1) := by decide +kernel
theorem dX6_scored_110 : decode cX6_scored 110 = .ok (.goto 4, 3) := by decide +kernel
