theorem dX5_advice_7 : decode cX5_advice 7 = .ok (.getfield 114, 3) := by decide +kernel
theorem dX5_advice_10 : decode cX5_advice 10 = .ok (.iconst 2, 1) := by decide +kernel
theorem dX5_advice_11 : decode cX5_advice 11 = .ok (.if_icmp .eq 13, 3) := by decide +kernel
theorem dX5_advice_14 : decode cX5_advice 14 = .ok (.new 65, 3) := by decide +kernel
theorem dX5_advice_17 : decode cX5_advice 17 = .ok (.dup, 1) := by decide +kernel
theorem dX5_advice_18 : decode cX5_advice 18 = .ok (.ldc 198, 2) := by decide +kernel
theorem dX5_advice_20 : decode cX5_advice 20 = .ok (.invokespecial 69, 3) := by decide +kernel
theorem dX5_advice_23 : decode cX5_advice 23 = .ok (.athrow, 1) := by decide +kernel
theorem dX5_advice_24 : decode cX5_advice 24 = .ok (.iconst (-1), 1) := by decide +kernel
theorem dX5_advice_25 : decode cX5_advice 25 = .ok (.istore_n 3, 1) := by decide +kernel
theorem dX5_advice_26 : decode cX5_advice 26 = .ok (.iconst 0, 1) := by decide +kernel
theorem dX5_advice_27 : decode cX5_advice 27 = .ok (.istore 4, 2) := by decide +kernel
theorem dX5_advice_29 : decode cX5_advice 29 = .ok (.iconst 0, 1) := by decide +kernel
theorem dX5_advice_30 : decode cX5_advice 30 = .ok (.istore 5, 2) := by decide +kernel
theorem dX5_advice_32 : decode cX5_advice 32 = .ok (.iload 5, 2) := by decide +kernel
theorem dX5_advice_34 : decode cX5_advice 34 = .ok (.bipush 9, 2) := by decide +kernel
theorem dX5_advice_36 : decode cX5_advice 36 = .ok (.if_icmp .ge 95, 3) := by decide +kernel
theorem dX5_advice_39 : decode cX5_advice 39 = .ok (.bipush 40, 2) := by decide +kernel
theorem dX5_advice_41 : decode cX5_advice 41 = .ok (.istore 6, 2) := by decide +kernel
theorem dX5_advice_43 : decode cX5_advice 43 = .ok (.iload 6, 2) := by decide +kernel
theorem dX5_advice_45 : decode cX5_advice 45 = .ok (.bipush 80, 2) := by decide +kernel
theorem dX5_advice_47 : decode cX5_advice 47 = .ok (.if_icmp .gt 78, 3) := by decide +kernel
theorem dX5_advice_50 : decode cX5_advice 50 = .ok (.iconst (-1), 1) := by decide +kernel
theorem dX5_advice_51 : decode cX5_advice 51 = .ok (.istore 7, 2) := by decide +kernel
theorem dX5_advice_53 : decode cX5_advice 53 = .ok (.iload 7, 2) := by decide +kernel
theorem dX5_advice_55 : decode cX5_advice 55 = .ok (.iconst 1, 1) := by decide +kernel
theorem dX5_advice_56 : decode cX5_advice 56 = .ok (.if_icmp .gt 63, 3) := by decide +kernel
theorem dX5_advice_59 : decode cX5_advice 59 = .ok (.aload_n 0, 1) := by decide +kernel
theorem dX5_advice_60 : decode cX5_advice 60 = .ok (.aload_n 2, 1) := by decide +kernel
theorem dX5_advice_61 : decode cX5_advice 61 = .ok (.iload 5, 2) := by decide +kernel
theorem dX5_advice_63 : decode cX5_advice 63 = .ok (.iload 6, 2) := by decide +kernel
theorem dX5_advice_65 : decode cX5_advice 65 = .ok (.iload 7, 2) := by decide +kernel
theorem dX5_advice_67 : decode cX5_advice 67 = .ok (.invokevirtual 200, 3) := by decide +kernel
theorem dX5_advice_70 : decode cX5_advice 70 = .ok (.istore 8, 2) := by decide +kernel
theorem dX5_advice_72 : decode cX5_advice 72 = .ok (.iload_n 3, 1) := by decide +kernel
theorem dX5_advice_73 : decode cX5_advice 73 = .ok (.iconst (-1), 1) := by decide +kernel
theorem dX5_advice_74 : decode cX5_advice 74 = .ok (.if_icmp .eq 10, 3) := by decide +kernel
theorem dX5_advice_77 : decode cX5_advice 77 = .ok (.iload 8, 2) := by decide +kernel
theorem dX5_advice_79 : decode cX5_advice 79 = .ok (.iload 4, 2) := by decide +kernel
theorem dX5_advice_81 : decode cX5_advice 81 = .ok (.if_icmp .le 32, 3) := by decide +kernel
theorem dX5_advice_84 : decode cX5_advice 84 = .ok (.sipush 1000, 3) := by decide +kernel
theorem dX5_advice_87 : decode cX5_advice 87 = .ok (.iload 5, 2) := by decide +kernel
theorem dX5_advice_89 : decode cX5_advice 89 = .ok (.imul, 1) := by decide +kernel
theorem dX5_advice_90 : decode cX5_advice 90 = .ok (.bipush 10, 2) := by decide +kernel
theorem dX5_advice_92 : decode cX5_advice 92 = .ok (.iload 6, 2) := by decide +kernel
theorem dX5_advice_94 : decode cX5_advice 94 = .ok (.imul, 1) := by decide +kernel
theorem dX5_advice_95 : decode cX5_advice 95 = .ok (.iadd, 1) := by decide +kernel
theorem dX5_advice_96 : decode cX5_advice 96 = .ok (.iload 7, 2) := by decide +kernel
theorem dX5_advice_98 : decode cX5_advice 98 = .ok (.iconst 1, 1) := by decide +kernel
theorem dX5_advice_99 : decode cX5_advice 99 = .ok (.if_icmp .ne 7, 3) := by decide +kernel
theorem dX5_advice_102 : decode cX5_advice 102 = .ok (.iconst 1, 1) := by decide +kernel
theorem dX5_advice_103 : decode cX5_advice 103 = .ok (.goto 4, 3) := by decide +kernel
theorem dX5_advice_106 : decode cX5_advice 106 = .ok (.iconst 0, 1) := by decide +kernel
theorem dX5_advice_107 : decode cX5_advice 107 = .ok (.iadd, 1) := by decide +kernel
theorem dX5_advice_108 : decode cX5_advice 108 = .ok (.istore_n 3, 1) := by decide +kernel
theorem dX5_advice_109 : decode cX5_advice 109 = .ok (.iload 8, 2) := by decide +kernel
theorem dX5_advice_111 : decode cX5_advice 111 = .ok (.istore 4, 2) := by decide +kernel
theorem dX5_advice_113 : decode cX5_advice 113 = .ok (.iinc 7 2, 3) := by decide +kernel
theorem dX5_advice_116 : decode cX5_advice 116 = .ok (.goto (-63), 3) := by decide +kernel
theorem dX5_advice_119 : decode cX5_advice 119 = .ok (.iinc 6 10, 3) := by decide +kernel
theorem dX5_advice_122 : decode cX5_advice 122 = .ok (.goto (-79), 3) := by decide +kernel
theorem dX5_advice_125 : decode cX5_advice 125 = .ok (.iinc 5 1, 3) := by decide +kernel
theorem dX5_advice_128 : decode cX5_advice 128 = .ok (.goto (-96), 3) := by decide +kernel
theorem dX5_advice_131 : decode cX5_advice 131 = .ok (.iload_n 3, 1) := by decide +kernel
theorem dX5_advice_132 : decode cX5_advice 132 = .ok (.ireturn, 1) := by decide +kernel
set_option maxRecDepth 20000 in
theorem ggX5_standing_X5_isWithin : GoodIn wsX5_standing wsX5_isWithin := goodIn_r _ [6] (by decide +kernel) (by decide +kernel)
set_option maxRecDepth 20000 in
theorem gX5_standing_X5_isWithin : GoodIn wsX5_standing (va_wsS RX5 43 yX5_isWithin wsX5_isWithin) := goodIn_app (goodIn_of _ (by decide +kernel)) ggX5_standing_X5_isWithin
set_option maxRecDepth 20000 in
theorem ggX5_standing_X5_teamsAheadOf : GoodIn wsX5_standing wsX5_teamsAheadOf := goodIn_ca (goodIn_r _ [10, 11, 12, 13, 5, 14, 15, 16, 17, 18, 19, 1, 2, 20, 21, 22, 23, 24, 25, 26, 27, 28, 29, 30, 31, 32, 33, 34, 35, 36, 37, 38, 39] (by decide +kernel) (by decide +kernel)) (goodIn_sub (fun _ h => List.mem_cons_of_mem _ (List.mem_append_right _ h)) (by decide +kernel))
set_option maxRecDepth 20000 in
theorem gX5_standing_X5_teamsAheadOf : GoodIn wsX5_standing (wsV RX5 206 RX5 yX5_teamsAheadOf wsX5_teamsAheadOf) := goodIn_app (goodIn_of _ (by decide +kernel)) ggX5_standing_X5_teamsAheadOf
theorem dX5_standing_0 : decode cX5_standing 0 = .ok (.iload_n 1, 1) := by decide +kernel
theorem dX5_standing_1 : decode cX5_standing 1 = .ok (.iconst 0, 1) := by decide +kernel
theorem dX5_standing_2 : decode cX5_standing 2 = .ok (.iconst 5, 1) := by decide +kernel
theorem dX5_standing_3 : decode cX5_standing 3 = .ok (.invokestatic 43, 3) := by decide +kernel
theorem dX5_standing_6 : decode cX5_standing 6 = .ok (.ifCond .ne 13, 3) := by decide +kernel
theorem dX5_standing_9 : decode cX5_standing 9 = .ok (.new 47, 3) := by decide +kernel
theorem dX5_standing_12 : decode cX5_standing 12 = .ok (.dup, 1) := by decide +kernel
theorem dX5_standing_13 : decode cX5_standing 13 = .ok (.ldc 204, 2) := by decide +kernel
theorem dX5_standing_15 : decode cX5_standing 15 = .ok (.invokespecial 51, 3) := by decide +kernel
theorem dX5_standing_18 : decode cX5_standing 18 = .ok (.athrow, 1) := by decide +kernel
theorem dX5_standing_19 : decode cX5_standing 19 = .ok (.iconst (-1), 1) := by decide +kernel
theorem dX5_standing_20 : decode cX5_standing 20 = .ok (.istore_n 2, 1) := by decide +kernel
theorem dX5_standing_21 : decode cX5_standing 21 = .ok (.iconst 0, 1) := by decide +kernel
theorem dX5_standing_22 : decode cX5_standing 22 = .ok (.istore_n 3, 1) := by decide +kernel
theorem dX5_standing_23 : decode cX5_standing 23 = .ok (.iload_n 3, 1) := by decide +kernel
theorem dX5_standing_24 : decode cX5_standing 24 = .ok (.bipush 6, 2) := by decide +kernel
theorem dX5_standing_26 : decode cX5_standing 26 = .ok (.if_icmp .ge 20, 3) := by decide +kernel
theorem dX5_standing_29 : decode cX5_standing 29 = .ok (.aload_n 0, 1) := by decide +kernel
theorem dX5_standing_30 : decode cX5_standing 30 = .ok (.iload_n 3, 1) := by decide +kernel
theorem dX5_standing_31 : decode cX5_standing 31 = .ok (.invokevirtual 206, 3) := by decide +kernel
theorem dX5_standing_34 : decode cX5_standing 34 = .ok (.iload_n 1, 1) := by decide +kernel
theorem dX5_standing_35 : decode cX5_standing 35 = .ok (.if_icmp .ne 5, 3) := by decide +kernel
theorem dX5_standing_38 : decode cX5_standing 38 = .ok (.iload_n 3, 1) := by decide +kernel
theorem dX5_standing_39 : decode cX5_standing 39 = .ok (.istore_n 2, 1) := by decide +kernel
theorem dX5_standing_40 : decode cX5_standing 40 = .ok (.iinc 3 1, 3) := by decide +kernel
theorem dX5_standing_43 : decode cX5_standing 43 = .ok (.goto (-20), 3) := by decide +kernel
theorem dX5_standing_46 : decode cX5_standing 46 = .ok (.iload_n 2, 1) := by decide +kernel
theorem dX5_standing_47 : decode cX5_standing 47 = .ok (.ireturn, 1) := by decide +kernel
set_option maxRecDepth 20000 in
theorem ggX5_ofTeam_X5_teamOf : GoodIn wsX5_ofTeam wsX5_teamOf := goodIn_ca (goodIn_r _ [10, 11, 12, 13, 17, 18, 19, 20, 21, 22, 23, 24, 25] (by decide +kernel) (by decide +kernel)) (goodIn_sub (fun _ h => List.mem_cons_of_mem _ (List.mem_append_right _ h)) (by decide +kernel))
set_option maxRecDepth 20000 in
theorem gX5_ofTeam_X5_teamOf : GoodIn wsX5_ofTeam (wsV RX5 209 RX5 yX5_teamOf wsX5_teamOf) := goodIn_app (goodIn_of _ (by decide +kernel)) ggX5_ofTeam_X5_teamOf
theorem dX5_ofTeam_0 : decode cX5_ofTeam 0 = .ok (.aload_n 0, 1) := by decide +kernel
theorem dX5_ofTeam_1 : decode cX5_ofTeam 1 = .ok (.iload_n 1, 1) := by decide +kernel
theorem dX5_ofTeam_2 : decode cX5_ofTeam 2 = .ok (.invokevirtual 209, 3) := by decide +kernel
theorem dX5_ofTeam_5 : decode cX5_ofTeam 5 = .ok (.astore_n 3, 1) := by decide +kernel
theorem dX5_ofTeam_6 : decode cX5_ofTeam 6 = .ok (.iload_n 2, 1) := by decide +kernel
theorem dX5_ofTeam_7 : decode cX5_ofTeam 7 = .ok (.tableswitch 40 0 2 #[25, 30, 35], 25) := by decide +kernel
theorem dX5_ofTeam_32 : decode cX5_ofTeam 32 = .ok (.aload_n 3, 1) := by decide +kernel
theorem dX5_ofTeam_33 : decode cX5_ofTeam 33 = .ok (.getfield 213, 3) := by decide +kernel
theorem dX5_ofTeam_36 : decode cX5_ofTeam 36 = .ok (.ireturn, 1) := by decide +kernel
theorem dX5_ofTeam_37 : decode cX5_ofTeam 37 = .ok (.aload_n 3, 1) := by decide +kernel
theorem dX5_ofTeam_38 : decode cX5_ofTeam 38 = .ok (.getfield 216, 3) := by decide +kernel
theorem dX5_ofTeam_41 : decode cX5_ofTeam 41 = .ok (.ireturn, 1) := by decide +kernel
theorem dX5_ofTeam_42 : decode cX5_ofTeam 42 = .ok (.aload_n 3, 1) := by decide +kernel
theorem dX5_ofTeam_43 : decode cX5_ofTeam 43 = .ok (.getfield 219, 3) := by decide +kernel
theorem dX5_ofTeam_46 : decode cX5_ofTeam 46 = .ok (.ireturn, 1) := by decide +kernel
theorem dX5_ofTeam_47 : decode cX5_ofTeam 47 = .ok (.new 57, 3) := by decide +kernel
theorem dX5_ofTeam_50 : decode cX5_ofTeam 50 = .ok (.dup, 1) := by decide +kernel
theorem dX5_ofTeam_51 : decode cX5_ofTeam 51 = .ok (.ldc 157, 2) := by decide +kernel
theorem dX5_ofTeam_53 : decode cX5_ofTeam 53 = .ok (.invokespecial 61, 3) := by decide +kernel
theorem dX5_ofTeam_56 : decode cX5_ofTeam 56 = .ok (.athrow, 1) := by decide +kernel
theorem dX5_isWithin_0 : decode cX5_isWithin 0 = .ok (.iload_n 0, 1) := by decide +kernel
theorem dX5_isWithin_1 : decode cX5_isWithin 1 = .ok (.iload_n 1, 1) := by decide +kernel
theorem dX5_isWithin_2 : decode cX5_isWithin 2 = .ok (.if_icmp .lt 12, 3) := by decide +kernel
theorem dX5_isWithin_5 : decode cX5_isWithin 5 = .ok (.iload_n 0, 1) := by decide +kernel
theorem dX5_isWithin_6 : decode cX5_isWithin 6 = .ok (.iload_n 2, 1) := by decide +kernel
theorem dX5_isWithin_7 : decode cX5_isWithin 7 = .ok (.if_icmp .gt 7, 3) := by decide +kernel
theorem dX5_isWithin_10 : decode cX5_isWithin 10 = .ok (.iconst 1, 1) := by decide +kernel
theorem dX5_isWithin_11 : decode cX5_isWithin 11 = .ok (.goto 4, 3) := by decide +kernel
theorem dX5_isWithin_14 : decode cX5_isWithin 14 = .ok (.iconst 0, 1) := by decide +kernel
theorem dX5_isWithin_15 : decode cX5_isWithin 15 = .ok (.ireturn, 1) := by decide +kernel
set_option maxRecDepth 20000 in
theorem ggX5_isCell_X5_isWithin : GoodIn wsX5_isCell wsX5_isWithin := goodIn_r _ [4] (by decide +kernel) (by decide +kernel)
set_option maxRecDepth 20000 in
theorem gX5_isCell_X5_isWithin : GoodIn wsX5_isCell (va_wsS RX5 43 yX5_isWithin wsX5_isWithin) := goodIn_app (goodIn_of _ (by decide +kernel)) ggX5_isCell_X5_isWithin
theorem dX5_isCell_0 : decode cX5_isCell 0 = .ok (.iload_n 0, 1) := by decide +kernel
theorem dX5_isCell_1 : decode cX5_isCell 1 = .ok (.iconst 0, 1) := by decide +kernel
theorem dX5_isCell_2 : decode cX5_isCell 2 = .ok (.bipush 8, 2) := by decide +kernel
theorem dX5_isCell_4 : decode cX5_isCell 4 = .ok (.invokestatic 43, 3) := by decide +kernel
theorem dX5_isCell_7 : decode cX5_isCell 7 = .ok (.ifCond .eq 17, 3) := by decide +kernel
theorem dX5_isCell_10 : decode cX5_isCell 10 = .ok (.iload_n 1, 1) := by decide +kernel
theorem dX5_isCell_11 : decode cX5_isCell 11 = .ok (.iconst 0, 1) := by decide +kernel
theorem dX5_isCell_12 : decode cX5_isCell 12 = .ok (.bipush 60, 2) := by decide +kernel
theorem dX5_isCell_14 : decode cX5_isCell 14 = .ok (.invokestatic 43, 3) := by decide +kernel
theorem dX5_isCell_17 : decode cX5_isCell 17 = .ok (.ifCond .eq 7, 3) := by decide +kernel
theorem dX5_isCell_20 : decode cX5_isCell 20 = .ok (.iconst 1, 1) := by decide +kernel
theorem dX5_isCell_21 : decode cX5_isCell 21 = .ok (.goto 4, 3) := by decide +kernel
theorem dX5_isCell_24 : decode cX5_isCell 24 = .ok (.iconst 0, 1) := by decide +kernel
theorem dX5_isCell_25 : decode cX5_isCell 25 = .ok (.ireturn, 1) := by decide +kernel
set_option maxRecDepth 20000 in
theorem ggX5_isShot_X5_isWithin : GoodIn wsX5_isShot wsX5_isWithin := goodIn_r _ [4] (by decide +kernel) (by decide +kernel)
set_option maxRecDepth 20000 in
theorem gX5_isShot_X5_isWithin : GoodIn wsX5_isShot (va_wsS RX5 43 yX5_isWithin wsX5_isWithin) := goodIn_app (goodIn_of _ (by decide +kernel)) ggX5_isShot_X5_isWithin
theorem dX5_isShot_0 : decode cX5_isShot 0 = .ok (.iload_n 0, 1) := by decide +kernel
theorem dX5_isShot_1 : decode cX5_isShot 1 = .ok (.iconst 0, 1) := by decide +kernel
theorem dX5_isShot_2 : decode cX5_isShot 2 = .ok (.bipush 8, 2) := by decide +kernel
theorem dX5_isShot_4 : decode cX5_isShot 4 = .ok (.invokestatic 43, 3) := by decide +kernel
theorem dX5_isShot_7 : decode cX5_isShot 7 = .ok (.ifCond .eq 48, 3) := by decide +kernel
theorem dX5_isShot_10 : decode cX5_isShot 10 = .ok (.iload_n 1, 1) := by decide +kernel
theorem dX5_isShot_11 : decode cX5_isShot 11 = .ok (.iconst 1, 1) := by decide +kernel
theorem dX5_isShot_12 : decode cX5_isShot 12 = .ok (.bipush 100, 2) := by decide +kernel
theorem dX5_isShot_14 : decode cX5_isShot 14 = .ok (.invokestatic 43, 3) := by decide +kernel
theorem dX5_isShot_17 : decode cX5_isShot 17 = .ok (.ifCond .eq 38, 3) := by decide +kernel
theorem dX5_isShot_20 : decode cX5_isShot 20 = .ok (.iload_n 2, 1) := by decide +kernel
theorem dX5_isShot_21 : decode cX5_isShot 21 = .ok (.iconst (-1), 1) := by decide +kernel
theorem dX5_isShot_22 : decode cX5_isShot 22 = .ok (.if_icmp .eq 8, 3) := by decide +kernel
theorem dX5_isShot_25 : decode cX5_isShot 25 = .ok (.iload_n 2, 1) := by decide +kernel
theorem dX5_isShot_26 : decode cX5_isShot 26 = .ok (.iconst 1, 1) := by decide +kernel
theorem dX5_isShot_27 : decode cX5_isShot 27 = .ok (.if_icmp .ne 28, 3) := by decide +kernel
theorem dX5_isShot_30 : decode cX5_isShot 30 = .ok (.iload_n 3, 1) := by decide +kernel
theorem dX5_isShot_31 : decode cX5_isShot 31 = .ok (.iconst 0, 1) := by decide +kernel
theorem dX5_isShot_32 : decode cX5_isShot 32 = .ok (.bipush 60, 2) := by decide +kernel
theorem dX5_isShot_34 : decode cX5_isShot 34 = .ok (.invokestatic 43, 3) := by decide +kernel
theorem dX5_isShot_37 : decode cX5_isShot 37 = .ok (.ifCond .eq 18, 3) := by decide +kernel
theorem dX5_isShot_40 : decode cX5_isShot 40 = .ok (.iload 4, 2) := by decide +kernel
theorem dX5_isShot_42 : decode cX5_isShot 42 = .ok (.iconst 0, 1) := by decide +kernel
theorem dX5_isShot_43 : decode cX5_isShot 43 = .ok (.bipush 60, 2) := by decide +kernel
theorem dX5_isShot_45 : decode cX5_isShot 45 = .ok (.invokestatic 43, 3) := by decide +kernel
theorem dX5_isShot_48 : decode cX5_isShot 48 = .ok (.ifCond .eq 7, 3) := by decide +kernel
theorem dX5_isShot_51 : decode cX5_isShot 51 = .ok (.iconst 1, 1) := by decide +kernel
theorem dX5_isShot_52 : decode cX5_isShot 52 = .ok (.goto 4, 3) := by decide +kernel
theorem dX5_isShot_55 : decode cX5_isShot 55 = .ok (.iconst 0, 1) := by decide +kernel
theorem dX5_isShot_56 : decode cX5_isShot 56 = .ok (.ireturn, 1) := by decide +kernel
theorem dX5_distanceOf_0 : decode cX5_distanceOf 0 = .ok (.iload_n 0, 1) := by decide +kernel
theorem dX5_distanceOf_1 : decode cX5_distanceOf 1 = .ok (.ifCond .ge 6, 3) := by decide +kernel
theorem dX5_distanceOf_4 : decode cX5_distanceOf 4 = .ok (.bipush 30, 2) := by decide +kernel
theorem dX5_distanceOf_6 : decode cX5_distanceOf 6 = .ok (.ireturn, 1) := by decide +kernel
theorem dX5_distanceOf_7 : decode cX5_distanceOf 7 = .ok (.iconst 2, 1) := by decide +kernel
theorem dX5_distanceOf_8 : decode cX5_distanceOf 8 = .ok (.iload_n 0, 1) := by decide +kernel
theorem dX5_distanceOf_9 : decode cX5_distanceOf 9 = .ok (.bipush 100, 2) := by decide +kernel
theorem dX5_distanceOf_11 : decode cX5_distanceOf 11 = .ok (.idiv, 1) := by decide +kernel
theorem dX5_distanceOf_12 : decode cX5_distanceOf 12 = .ok (.iconst 4, 1) := by decide +kernel
theorem dX5_distanceOf_13 : decode cX5_distanceOf 13 = .ok (.isub, 1) := by decide +kernel
theorem dX5_distanceOf_14 : decode cX5_distanceOf 14 = .ok (.invokestatic 222, 3) := by decide +kernel
theorem dX5_distanceOf_17 : decode cX5_distanceOf 17 = .ok (.imul, 1) := by decide +kernel
theorem dX5_distanceOf_18 : decode cX5_distanceOf 18 = .ok (.istore_n 1, 1) := by decide +kernel
theorem dX5_distanceOf_19 : decode cX5_distanceOf 19 = .ok (.iload_n 0, 1) := by decide +kernel
theorem dX5_distanceOf_20 : decode cX5_distanceOf 20 = .ok (.bipush 100, 2) := by decide +kernel
theorem dX5_distanceOf_22 : decode cX5_distanceOf 22 = .ok (.irem, 1) := by decide +kernel
theorem dX5_distanceOf_23 : decode cX5_distanceOf 23 = .ok (.bipush 50, 2) := by decide +kernel
theorem dX5_distanceOf_25 : decode cX5_distanceOf 25 = .ok (.isub, 1) := by decide +kernel
theorem dX5_distanceOf_26 : decode cX5_distanceOf 26 = .ok (.invokestatic 222, 3) := by decide +kernel
theorem dX5_distanceOf_29 : decode cX5_distanceOf 29 = .ok (.istore_n 2, 1) := by decide +kernel
theorem dX5_distanceOf_30 : decode cX5_distanceOf 30 = .ok (.iload_n 1, 1) := by decide +kernel
theorem dX5_distanceOf_31 : decode cX5_distanceOf 31 = .ok (.iload_n 2, 1) := by decide +kernel
theorem dX5_distanceOf_32 : decode cX5_distanceOf 32 = .ok (.iadd, 1) := by decide +kernel
theorem dX5_distanceOf_33 : decode cX5_distanceOf 33 = .ok (.bipush 30, 2) := by decide +kernel
theorem dX5_distanceOf_35 : decode cX5_distanceOf 35 = .ok (.invokestatic 227, 3) := by decide +kernel
theorem dX5_distanceOf_38 : decode cX5_distanceOf 38 = .ok (.ireturn, 1) := by decide +kernel
theorem dX5_gameOf_0 : decode cX5_gameOf 0 = .ok (.iload_n 1, 1) := by decide +kernel
theorem dX5_gameOf_1 : decode cX5_gameOf 1 = .ok (.ifCond .lt 21, 3) := by decide +kernel
theorem dX5_gameOf_4 : decode cX5_gameOf 4 = .ok (.iload_n 1, 1) := by decide +kernel
theorem dX5_gameOf_5 : decode cX5_gameOf 5 = .ok (.aload_n 0, 1) := by decide +kernel
theorem dX5_gameOf_6 : decode cX5_gameOf 6 = .ok (.getfield 25, 3) := by decide +kernel
theorem dX5_gameOf_9 : decode cX5_gameOf 9 = .ok (.arraylength, 1) := by decide +kernel
theorem dX5_gameOf_10 : decode cX5_gameOf 10 = .ok (.if_icmp .ge 12, 3) := by decide +kernel
theorem dX5_gameOf_13 : decode cX5_gameOf 13 = .ok (.aload_n 0, 1) := by decide +kernel
theorem dX5_gameOf_14 : decode cX5_gameOf 14 = .ok (.getfield 25, 3) := by decide +kernel
theorem dX5_gameOf_17 : decode cX5_gameOf 17 = .ok (.iload_n 1, 1) := by decide +kernel
theorem dX5_gameOf_18 : decode cX5_gameOf 18 = .ok (.aaload, 1) := by decide +kernel
theorem dX5_gameOf_19 : decode cX5_gameOf 19 = .ok (.goto 4, 3) := by decide +kernel
theorem dX5_gameOf_22 : decode cX5_gameOf 22 = .ok (.aconst_null, 1) := by decide +kernel
theorem dX5_gameOf_23 : decode cX5_gameOf 23 = .ok (.astore_n 2, 1) := by decide +kernel
theorem dX5_gameOf_24 : decode cX5_gameOf 24 = .ok (.aload_n 2, 1) := by decide +kernel
theorem dX5_gameOf_25 : decode cX5_gameOf 25 = .ok (.ifnonnull 13, 3) := by decide +kernel
theorem dX5_gameOf_28 : decode cX5_gameOf 28 = .ok (.new 47, 3) := by decide +kernel
theorem dX5_gameOf_31 : decode cX5_gameOf 31 = .ok (.dup, 1) := by decide +kernel
theorem dX5_gameOf_32 : decode cX5_gameOf 32 = .ok (.ldc 230, 2) := by decide +kernel
theorem dX5_gameOf_34 : decode cX5_gameOf 34 = .ok (.invokespecial 51, 3) := by decide +kernel
theorem dX5_gameOf_37 : decode cX5_gameOf 37 = .ok (.athrow, 1) := by decide +kernel
theorem dX5_gameOf_38 : decode cX5_gameOf 38 = .ok (.aload_n 2, 1) := by decide +kernel
theorem dX5_gameOf_39 : decode cX5_gameOf 39 = .ok (.areturn, 1) := by decide +kernel
theorem dX5_sheetOf_0 : decode cX5_sheetOf 0 = .ok (.iload_n 1, 1) := by decide +kernel
theorem dX5_sheetOf_1 : decode cX5_sheetOf 1 = .ok (.ifCond .lt 21, 3) := by decide +kernel
theorem dX5_sheetOf_4 : decode cX5_sheetOf 4 = .ok (.iload_n 1, 1) := by decide +kernel
theorem dX5_sheetOf_5 : decode cX5_sheetOf 5 = .ok (.aload_n 0, 1) := by decide +kernel
theorem dX5_sheetOf_6 : decode cX5_sheetOf 6 = .ok (.getfield 11, 3) := by decide +kernel
theorem dX5_sheetOf_9 : decode cX5_sheetOf 9 = .ok (.arraylength, 1) := by decide +kernel
theorem dX5_sheetOf_10 : decode cX5_sheetOf 10 = .ok (.if_icmp .ge 12, 3) := by decide +kernel
theorem dX5_sheetOf_13 : decode cX5_sheetOf 13 = .ok (.aload_n 0, 1) := by decide +kernel
theorem dX5_sheetOf_14 : decode cX5_sheetOf 14 = .ok (.getfield 11, 3) := by decide +kernel
theorem dX5_sheetOf_17 : decode cX5_sheetOf 17 = .ok (.iload_n 1, 1) := by decide +kernel
theorem dX5_sheetOf_18 : decode cX5_sheetOf 18 = .ok (.aaload, 1) := by decide +kernel
theorem dX5_sheetOf_19 : decode cX5_sheetOf 19 = .ok (.goto 4, 3) := by decide +kernel
theorem dX5_sheetOf_22 : decode cX5_sheetOf 22 = .ok (.aconst_null, 1) := by decide +kernel
theorem dX5_sheetOf_23 : decode cX5_sheetOf 23 = .ok (.astore_n 2, 1) := by decide +kernel
theorem dX5_sheetOf_24 : decode cX5_sheetOf 24 = .ok (.aload_n 2, 1) := by decide +kernel
theorem dX5_sheetOf_25 : decode cX5_sheetOf 25 = .ok (.ifnonnull 13, 3) := by decide +kernel
theorem dX5_sheetOf_28 : decode cX5_sheetOf 28 = .ok (.new 47, 3) := by decide +kernel
theorem dX5_sheetOf_31 : decode cX5_sheetOf 31 = .ok (.dup, 1) := by decide +kernel
theorem dX5_sheetOf_32 : decode cX5_sheetOf 32 = .ok (.ldc 232, 2) := by decide +kernel
theorem dX5_sheetOf_34 : decode cX5_sheetOf 34 = .ok (.invokespecial 51, 3) := by decide +kernel
theorem dX5_sheetOf_37 : decode cX5_sheetOf 37 = .ok (.athrow, 1) := by decide +kernel
theorem dX5_sheetOf_38 : decode cX5_sheetOf 38 = .ok (.aload_n 2, 1) := by decide +kernel
theorem dX5_sheetOf_39 : decode cX5_sheetOf 39 = .ok (.areturn, 1) := by decide +kernel
theorem dX5_teamOf_0 : decode cX5_teamOf 0 = .ok (.iload_n 1, 1) := by decide +kernel
theorem dX5_teamOf_1 : decode cX5_teamOf 1 = .ok (.ifCond .lt 21, 3) := by decide +kernel
theorem dX5_teamOf_4 : decode cX5_teamOf 4 = .ok (.iload_n 1, 1) := by decide +kernel
theorem dX5_teamOf_5 : decode cX5_teamOf 5 = .ok (.aload_n 0, 1) := by decide +kernel
theorem dX5_teamOf_6 : decode cX5_teamOf 6 = .ok (.getfield 18, 3) := by decide +kernel
theorem dX5_teamOf_9 : decode cX5_teamOf 9 = .ok (.arraylength, 1) := by decide +kernel
theorem dX5_teamOf_10 : decode cX5_teamOf 10 = .ok (.if_icmp .ge 12, 3) := by decide +kernel
theorem dX5_teamOf_13 : decode cX5_teamOf 13 = .ok (.aload_n 0, 1) := by decide +kernel
theorem dX5_teamOf_14 : decode cX5_teamOf 14 = .ok (.getfield 18, 3) := by decide +kernel
theorem dX5_teamOf_17 : decode cX5_teamOf 17 = .ok (.iload_n 1, 1) := by decide +kernel
theorem dX5_teamOf_18 : decode cX5_teamOf 18 = .ok (.aaload, 1) := by decide +kernel
theorem dX5_teamOf_19 : decode cX5_teamOf 19 = .ok (.goto 4, 3) := by decide +kernel
theorem dX5_teamOf_22 : decode cX5_teamOf 22 = .ok (.aconst_null, 1) := by decide +kernel
theorem dX5_teamOf_23 : decode cX5_teamOf 23 = .ok (.astore_n 2, 1) := by decide +kernel
theorem dX5_teamOf_24 : decode cX5_teamOf 24 = .ok (.aload_n 2, 1) := by decide +kernel
theorem dX5_teamOf_25 : decode cX5_teamOf 25 = .ok (.ifnonnull 13, 3) := by decide +kernel
theorem dX5_teamOf_28 : decode cX5_teamOf 28 = .ok (.new 47, 3) := by decide +kernel
theorem dX5_teamOf_31 : decode cX5_teamOf 31 = .ok (.dup, 1) := by decide +kernel
theorem dX5_teamOf_32 : decode cX5_teamOf 32 = .ok (.ldc 234, 2) := by decide +kernel
theorem dX5_teamOf_34 : decode cX5_teamOf 34 = .ok (.invokespecial 51, 3) := by decide +kernel
theorem dX5_teamOf_37 : decode cX5_teamOf 37 = .ok (.athrow, 1) := by decide +kernel
theorem dX5_teamOf_38 : decode cX5_teamOf 38 = .ok (.aload_n 2, 1) := by decide +kernel
theorem dX5_teamOf_39 : decode cX5_teamOf 39 = .ok (.areturn, 1) := by decide +kernel
set_option maxRecDepth 20000 in
theorem ggX5_settleDraw_X0_nextSide : GoodIn wsX5_settleDraw wsX0_nextSide := goodIn_r _ [9, 10, 11, 12, 26, 27, 28, 29, 30, 31, 32, 33, 34, 35, 36, 37, 38] (by decide +kernel) (by decide +kernel)
set_option maxRecDepth 20000 in
theorem gX5_settleDraw_X0_nextSide : GoodIn wsX5_settleDraw (wsV RX5 181 RX0 yX0_nextSide wsX0_nextSide) := goodIn_app (goodIn_of _ (by decide +kernel)) ggX5_settleDraw_X0_nextSide
set_option maxRecDepth 20000 in
theorem ggX5_settleDraw_X5_teamOf : GoodIn wsX5_settleDraw wsX5_teamOf := goodIn_ca (goodIn_r _ [17, 18, 19, 20, 42, 43, 44, 45, 46, 47, 48, 49, 50] (by decide +kernel) (by decide +kernel)) (goodIn_sub (fun _ h => List.mem_cons_of_mem _ (List.mem_append_right _ h)) (by decide +kernel))
set_option maxRecDepth 20000 in
theorem gX5_settleDraw_X5_teamOf : GoodIn wsX5_settleDraw (wsV RX5 209 RX5 yX5_teamOf wsX5_teamOf) := goodIn_app (goodIn_of _ (by decide +kernel)) ggX5_settleDraw_X5_teamOf
set_option maxRecDepth 20000 in
theorem ggX5_settleDraw_X0_takeDraw : GoodIn wsX5_settleDraw wsX0_takeDraw := goodIn_r _ [24, 11, 25, 12, 10, 26, 27, 28, 29, 30, 31, 32, 33, 34, 35, 36, 37, 38] (by decide +kernel) (by decide +kernel)
set_option maxRecDepth 20000 in
theorem gX5_settleDraw_X0_takeDraw : GoodIn wsX5_settleDraw (wsV RX5 242 RX0 yX0_takeDraw wsX0_takeDraw) := goodIn_app (goodIn_of _ (by decide +kernel)) ggX5_settleDraw_X0_takeDraw
theorem dX5_settleDraw_0 : decode cX5_settleDraw 0 = .ok (.aload_n 0, 1) := by decide +kernel
theorem dX5_settleDraw_1 : decode cX5_settleDraw 1 = .ok (.aload_n 1, 1) := by decide +kernel
theorem dX5_settleDraw_2 : decode cX5_settleDraw 2 = .ok (.invokevirtual 181, 3) := by decide +kernel
theorem dX5_settleDraw_5 : decode cX5_settleDraw 5 = .ok (.ifCond .ne 10, 3) := by decide +kernel
theorem dX5_settleDraw_8 : decode cX5_settleDraw 8 = .ok (.aload_n 1, 1) := by decide +kernel
theorem dX5_settleDraw_9 : decode cX5_settleDraw 9 = .ok (.getfield 236, 3) := by decide +kernel
theorem dX5_settleDraw_12 : decode cX5_settleDraw 12 = .ok (.goto 7, 3) := by decide +kernel
theorem dX5_settleDraw_15 : decode cX5_settleDraw 15 = .ok (.aload_n 1, 1) := by decide +kernel
theorem dX5_settleDraw_16 : decode cX5_settleDraw 16 = .ok (.getfield 239, 3) := by decide +kernel
theorem dX5_settleDraw_19 : decode cX5_settleDraw 19 = .ok (.invokevirtual 209, 3) := by decide +kernel
theorem dX5_settleDraw_22 : decode cX5_settleDraw 22 = .ok (.astore_n 3, 1) := by decide +kernel
theorem dX5_settleDraw_23 : decode cX5_settleDraw 23 = .ok (.aload_n 3, 1) := by decide +kernel
theorem dX5_settleDraw_24 : decode cX5_settleDraw 24 = .ok (.dup, 1) := by decide +kernel
theorem dX5_settleDraw_25 : decode cX5_settleDraw 25 = .ok (.getfield 216, 3) := by decide +kernel
theorem dX5_settleDraw_28 : decode cX5_settleDraw 28 = .ok (.iconst 1, 1) := by decide +kernel
theorem dX5_settleDraw_29 : decode cX5_settleDraw 29 = .ok (.iadd, 1) := by decide +kernel
theorem dX5_settleDraw_30 : decode cX5_settleDraw 30 = .ok (.putfield 216, 3) := by decide +kernel
theorem dX5_settleDraw_33 : decode cX5_settleDraw 33 = .ok (.aload_n 3, 1) := by decide +kernel
theorem dX5_settleDraw_34 : decode cX5_settleDraw 34 = .ok (.dup, 1) := by decide +kernel
theorem dX5_settleDraw_35 : decode cX5_settleDraw 35 = .ok (.getfield 219, 3) := by decide +kernel
theorem dX5_settleDraw_38 : decode cX5_settleDraw 38 = .ok (.iload_n 2, 1) := by decide +kernel
theorem dX5_settleDraw_39 : decode cX5_settleDraw 39 = .ok (.iadd, 1) := by decide +kernel
theorem dX5_settleDraw_40 : decode cX5_settleDraw 40 = .ok (.putfield 219, 3) := by decide +kernel
theorem dX5_settleDraw_43 : decode cX5_settleDraw 43 = .ok (.aload_n 1, 1) := by decide +kernel
theorem dX5_settleDraw_44 : decode cX5_settleDraw 44 = .ok (.iload_n 2, 1) := by decide +kernel
theorem dX5_settleDraw_45 : decode cX5_settleDraw 45 = .ok (.invokevirtual 242, 3) := by decide +kernel
theorem dX5_settleDraw_48 : decode cX5_settleDraw 48 = .ok (.return_, 1) := by decide +kernel
set_option maxRecDepth 20000 in
theorem ggX5_settleStone_X0_closeEnd : GoodIn wsX5_settleStone wsX0_closeEnd := goodIn_r _ [7, 8, 9, 10, 11, 12, 13, 14, 15, 16, 17, 18, 19, 20, 21, 22, 23, 24, 25, 26, 27, 28, 29, 30, 31, 32, 33, 34, 35, 36, 37, 38, 39, 40, 41, 42, 43, 44, 45, 46, 72, 73, 74, 75, 76, 77, 78, 79, 80, 81, 82, 83, 84, 85] (by decide +kernel) (by decide +kernel)
set_option maxRecDepth 20000 in
theorem gX5_settleStone_X0_closeEnd : GoodIn wsX5_settleStone (wsV RX5 249 RX0 yX0_closeEnd wsX0_closeEnd) := goodIn_app (goodIn_of _ (by decide +kernel)) ggX5_settleStone_X0_closeEnd
set_option maxRecDepth 20000 in
theorem ggX5_settleStone_X5_closeGame : GoodIn wsX5_settleStone wsX5_closeGame := goodIn_ca (goodIn_r _ [50, 51, 52, 53, 54, 55, 56, 57, 58, 59, 60, 61, 62, 33, 63, 64, 65, 66, 67, 68, 69, 70, 71, 72, 73, 74, 75, 76, 77, 78, 79, 80, 81, 82, 83, 84, 86, 87, 88, 89, 90, 91, 92, 93, 94, 95, 96, 97, 98, 99, 100] (by decide +kernel) (by decide +kernel)) (goodIn_sub (fun _ h => List.mem_cons_of_mem _ (List.mem_append_right _ h)) (by decide +kernel))
set_option maxRecDepth 20000 in
theorem gX5_settleStone_X5_closeGame : GoodIn wsX5_settleStone (wsV RX5 252 RX5 yX5_closeGame wsX5_closeGame) := goodIn_app (goodIn_of _ (by decide +kernel)) ggX5_settleStone_X5_closeGame
theorem dX5_settleStone_0 : decode cX5_settleStone 0 = .ok (.aload_n 1, 1) := by decide +kernel
theorem dX5_settleStone_1 : decode cX5_settleStone 1 = .ok (.dup, 1) := by decide +kernel
theorem dX5_settleStone_2 : decode cX5_settleStone 2 = .ok (.getfield 246, 3) := by decide +kernel
theorem dX5_settleStone_5 : decode cX5_settleStone 5 = .ok (.iconst 1, 1) := by decide +kernel
theorem dX5_settleStone_6 : decode cX5_settleStone 6 = .ok (.iadd, 1) := by decide +kernel
theorem dX5_settleStone_7 : decode cX5_settleStone 7 = .ok (.putfield 246, 3) := by decide +kernel
theorem dX5_settleStone_10 : decode cX5_settleStone 10 = .ok (.aload_n 1, 1) := by decide +kernel
theorem dX5_settleStone_11 : decode cX5_settleStone 11 = .ok (.getfield 246, 3) := by decide +kernel
theorem dX5_settleStone_14 : decode cX5_settleStone 14 = .ok (.bipush 6, 2) := by decide +kernel
theorem dX5_settleStone_16 : decode cX5_settleStone 16 = .ok (.if_icmp .ge 4, 3) := by decide +kernel
theorem dX5_settleStone_19 : decode cX5_settleStone 19 = .ok (.return_, 1) := by decide +kernel
theorem dX5_settleStone_20 : decode cX5_settleStone 20 = .ok (.aload_n 1, 1) := by decide +kernel
theorem dX5_settleStone_21 : decode cX5_settleStone 21 = .ok (.invokevirtual 249, 3) := by decide +kernel
theorem dX5_settleStone_24 : decode cX5_settleStone 24 = .ok (.aload_n 1, 1) := by decide +kernel
theorem dX5_settleStone_25 : decode cX5_settleStone 25 = .ok (.getfield 178, 3) := by decide +kernel
theorem dX5_settleStone_28 : decode cX5_settleStone 28 = .ok (.iconst 4, 1) := by decide +kernel
theorem dX5_settleStone_29 : decode cX5_settleStone 29 = .ok (.if_icmp .ne 8, 3) := by decide +kernel
theorem dX5_settleStone_32 : decode cX5_settleStone 32 = .ok (.aload_n 0, 1) := by decide +kernel
theorem dX5_settleStone_33 : decode cX5_settleStone 33 = .ok (.aload_n 1, 1) := by decide +kernel
theorem dX5_settleStone_34 : decode cX5_settleStone 34 = .ok (.invokevirtual 252, 3) := by decide +kernel
theorem dX5_settleStone_37 : decode cX5_settleStone 37 = .ok (.return_, 1) := by decide +kernel
set_option maxRecDepth 20000 in
theorem ggX5_closeGame_X5_sheetOf : GoodIn wsX5_closeGame wsX5_sheetOf := goodIn_ca (goodIn_r _ [14, 15, 16, 17, 42, 43, 44, 45, 46, 47, 48, 49, 50] (by decide +kernel) (by decide +kernel)) (goodIn_sub (fun _ h => List.mem_cons_of_mem _ (List.mem_append_right _ h)) (by decide +kernel))
set_option maxRecDepth 20000 in
theorem gX5_closeGame_X5_sheetOf : GoodIn wsX5_closeGame (wsV RX5 98 RX5 yX5_sheetOf wsX5_sheetOf) := goodIn_app (goodIn_of _ (by decide +kernel)) ggX5_closeGame_X5_sheetOf
set_option maxRecDepth 20000 in
theorem ggX5_closeGame_X5_teamOf : GoodIn wsX5_closeGame wsX5_teamOf := goodIn_ca (goodIn_r _ [21, 15, 16, 22, 42, 43, 44, 45, 46, 47, 48, 49, 50] (by decide +kernel) (by decide +kernel)) (goodIn_sub (fun _ h => List.mem_cons_of_mem _ (List.mem_append_right _ h)) (by decide +kernel))
set_option maxRecDepth 20000 in
theorem gX5_closeGame_X5_teamOf : GoodIn wsX5_closeGame (wsV RX5 209 RX5 yX5_teamOf wsX5_teamOf) := goodIn_app (goodIn_of _ (by decide +kernel)) ggX5_closeGame_X5_teamOf
theorem dX5_closeGame_0 : decode cX5_closeGame 0 = .ok (.aload_n 1, 1) := by decide +kernel
theorem dX5_closeGame_1 : decode cX5_closeGame 1 = .ok (.iconst 3, 1) := by decide +kernel
theorem dX5_closeGame_2 : decode cX5_closeGame 2 = .ok (.putfield 114, 3) := by decide +kernel
theorem dX5_closeGame_5 : decode cX5_closeGame 5 = .ok (.aload_n 1, 1) := by decide +kernel
theorem dX5_closeGame_6 : decode cX5_closeGame 6 = .ok (.iconst (-1), 1) := by decide +kernel
theorem dX5_closeGame_7 : decode cX5_closeGame 7 = .ok (.putfield 184, 3) := by decide +kernel
theorem dX5_closeGame_10 : decode cX5_closeGame 10 = .ok (.aload_n 0, 1) := by decide +kernel
theorem dX5_closeGame_11 : decode cX5_closeGame 11 = .ok (.aload_n 1, 1) := by decide +kernel
theorem dX5_closeGame_12 : decode cX5_closeGame 12 = .ok (.getfield 95, 3) := by decide +kernel
theorem dX5_closeGame_15 : decode cX5_closeGame 15 = .ok (.invokevirtual 98, 3) := by decide +kernel
theorem dX5_closeGame_18 : decode cX5_closeGame 18 = .ok (.iconst (-1), 1) := by decide +kernel
theorem dX5_closeGame_19 : decode cX5_closeGame 19 = .ok (.putfield 148, 3) := by decide +kernel
theorem dX5_closeGame_22 : decode cX5_closeGame 22 = .ok (.aload_n 1, 1) := by decide +kernel
theorem dX5_closeGame_23 : decode cX5_closeGame 23 = .ok (.getfield 172, 3) := by decide +kernel
theorem dX5_closeGame_26 : decode cX5_closeGame 26 = .ok (.aload_n 1, 1) := by decide +kernel
theorem dX5_closeGame_27 : decode cX5_closeGame 27 = .ok (.getfield 175, 3) := by decide +kernel
theorem dX5_closeGame_30 : decode cX5_closeGame 30 = .ok (.if_icmp .le 23, 3) := by decide +kernel
theorem dX5_closeGame_33 : decode cX5_closeGame 33 = .ok (.aload_n 0, 1) := by decide +kernel
theorem dX5_closeGame_34 : decode cX5_closeGame 34 = .ok (.aload_n 1, 1) := by decide +kernel
theorem dX5_closeGame_35 : decode cX5_closeGame 35 = .ok (.getfield 236, 3) := by decide +kernel
theorem dX5_closeGame_38 : decode cX5_closeGame 38 = .ok (.invokevirtual 209, 3) := by decide +kernel
theorem dX5_closeGame_41 : decode cX5_closeGame 41 = .ok (.dup, 1) := by decide +kernel
theorem dX5_closeGame_42 : decode cX5_closeGame 42 = .ok (.getfield 213, 3) := by decide +kernel
theorem dX5_closeGame_45 : decode cX5_closeGame 45 = .ok (.iconst 1, 1) := by decide +kernel
theorem dX5_closeGame_46 : decode cX5_closeGame 46 = .ok (.iadd, 1) := by decide +kernel
theorem dX5_closeGame_47 : decode cX5_closeGame 47 = .ok (.putfield 213, 3) := by decide +kernel
theorem dX5_closeGame_50 : decode cX5_closeGame 50 = .ok (.goto 31, 3) := by decide +kernel
theorem dX5_closeGame_53 : decode cX5_closeGame 53 = .ok (.aload_n 1, 1) := by decide +kernel
theorem dX5_closeGame_54 : decode cX5_closeGame 54 = .ok (.getfield 175, 3) := by decide +kernel
theorem dX5_closeGame_57 : decode cX5_closeGame 57 = .ok (.aload_n 1, 1) := by decide +kernel
theorem dX5_closeGame_58 : decode cX5_closeGame 58 = .ok (.getfield 172, 3) := by decide +kernel
theorem dX5_closeGame_61 : decode cX5_closeGame 61 = .ok (.if_icmp .le 20, 3) := by decide +kernel
theorem dX5_closeGame_64 : decode cX5_closeGame 64 = .ok (.aload_n 0, 1) := by decide +kernel
theorem dX5_closeGame_65 : decode cX5_closeGame 65 = .ok (.aload_n 1, 1) := by decide +kernel
theorem dX5_closeGame_66 : decode cX5_closeGame 66 = .ok (.getfield 239, 3) := by decide +kernel
theorem dX5_closeGame_69 : decode cX5_closeGame 69 = .ok (.invokevirtual 209, 3) := by decide +kernel
theorem dX5_closeGame_72 : decode cX5_closeGame 72 = .ok (.dup, 1) := by decide +kernel
theorem dX5_closeGame_73 : decode cX5_closeGame 73 = .ok (.getfield 213, 3) := by decide +kernel
theorem dX5_closeGame_76 : decode cX5_closeGame 76 = .ok (.iconst 1, 1) := by decide +kernel
theorem dX5_closeGame_77 : decode cX5_closeGame 77 = .ok (.iadd, 1) := by decide +kernel
theorem dX5_closeGame_78 : decode cX5_closeGame 78 = .ok (.putfield 213, 3) := by decide +kernel
theorem dX5_closeGame_81 : decode cX5_closeGame 81 = .ok (.return_, 1) := by decide +kernel
set_option maxRecDepth 20000 in
theorem ggX5_workAnHour_X5_sheetOf : GoodIn wsX5_workAnHour wsX5_sheetOf := goodIn_ca (goodIn_r _ [8, 9, 10, 11, 37, 38, 39, 40, 41, 42, 43, 44, 45] (by decide +kernel) (by decide +kernel)) (goodIn_sub (fun _ h => List.mem_cons_of_mem _ (List.mem_append_right _ h)) (by decide +kernel))
set_option maxRecDepth 20000 in
theorem gX5_workAnHour_X5_sheetOf : GoodIn wsX5_workAnHour (wsV RX5 98 RX5 yX5_sheetOf wsX5_sheetOf) := goodIn_app (goodIn_of _ (by decide +kernel)) ggX5_workAnHour_X5_sheetOf
set_option maxRecDepth 20000 in
theorem ggX5_workAnHour_X1_renew : GoodIn wsX5_workAnHour wsX1_renew := goodIn_r _ [16, 17, 18, 46, 47, 48] (by decide +kernel) (by decide +kernel)
set_option maxRecDepth 20000 in
theorem gX5_workAnHour_X1_renew : GoodIn wsX5_workAnHour (wsV RX5 255 RX1 yX1_renew wsX1_renew) := goodIn_app (goodIn_of _ (by decide +kernel)) ggX5_workAnHour_X1_renew
set_option maxRecDepth 20000 in
theorem ggX5_workAnHour_X5_sheetToMake : GoodIn wsX5_workAnHour wsX5_sheetToMake := goodIn_ca (goodIn_r _ [22, 23, 24, 4, 5, 6, 7, 8, 9, 10, 11, 25, 26, 27, 28, 29, 30, 31, 32, 33, 34, 35, 36, 46, 47, 48, 37, 38, 39, 40, 41, 42, 43, 44, 45, 49, 50, 51, 52, 53, 54, 55, 56, 57, 58, 59, 60, 61] (by decide +kernel) (by decide +kernel)) (goodIn_sub (fun _ h => List.mem_cons_of_mem _ (List.mem_append_right _ h)) (by decide +kernel))
set_option maxRecDepth 20000 in
theorem gX5_workAnHour_X5_sheetToMake : GoodIn wsX5_workAnHour (wsV RX5 258 RX5 yX5_sheetToMake wsX5_sheetToMake) := goodIn_app (goodIn_of _ (by decide +kernel)) ggX5_workAnHour_X5_sheetToMake
theorem dX5_workAnHour_0 : decode cX5_workAnHour 0 = .ok (.aload_n 0, 1) := by decide +kernel
theorem dX5_workAnHour_1 : decode cX5_workAnHour 1 = .ok (.getfield 154, 3) := by decide +kernel
theorem dX5_workAnHour_4 : decode cX5_workAnHour 4 = .ok (.ifCond .le 13, 3) := by decide +kernel
theorem dX5_workAnHour_7 : decode cX5_workAnHour 7 = .ok (.aload_n 0, 1) := by decide +kernel
theorem dX5_workAnHour_8 : decode cX5_workAnHour 8 = .ok (.dup, 1) := by decide +kernel
theorem dX5_workAnHour_9 : decode cX5_workAnHour 9 = .ok (.getfield 154, 3) := by decide +kernel
theorem dX5_workAnHour_12 : decode cX5_workAnHour 12 = .ok (.iconst 1, 1) := by decide +kernel
theorem dX5_workAnHour_13 : decode cX5_workAnHour 13 = .ok (.isub, 1) := by decide +kernel
theorem dX5_workAnHour_14 : decode cX5_workAnHour 14 = .ok (.putfield 154, 3) := by decide +kernel
theorem dX5_workAnHour_17 : decode cX5_workAnHour 17 = .ok (.aload_n 0, 1) := by decide +kernel
theorem dX5_workAnHour_18 : decode cX5_workAnHour 18 = .ok (.getfield 154, 3) := by decide +kernel
theorem dX5_workAnHour_21 : decode cX5_workAnHour 21 = .ok (.ifCond .le 4, 3) := by decide +kernel
theorem dX5_workAnHour_24 : decode cX5_workAnHour 24 = .ok (.return_, 1) := by decide +kernel
theorem dX5_workAnHour_25 : decode cX5_workAnHour 25 = .ok (.aload_n 0, 1) := by decide +kernel
theorem dX5_workAnHour_26 : decode cX5_workAnHour 26 = .ok (.getfield 40, 3) := by decide +kernel
theorem dX5_workAnHour_29 : decode cX5_workAnHour 29 = .ok (.iconst (-1), 1) := by decide +kernel
theorem dX5_workAnHour_30 : decode cX5_workAnHour 30 = .ok (.if_icmp .eq 14, 3) := by decide +kernel
theorem dX5_workAnHour_33 : decode cX5_workAnHour 33 = .ok (.aload_n 0, 1) := by decide +kernel
theorem dX5_workAnHour_34 : decode cX5_workAnHour 34 = .ok (.aload_n 0, 1) := by decide +kernel
theorem dX5_workAnHour_35 : decode cX5_workAnHour 35 = .ok (.getfield 40, 3) := by decide +kernel
theorem dX5_workAnHour_38 : decode cX5_workAnHour 38 = .ok (.invokevirtual 98, 3) := by decide +kernel
theorem dX5_workAnHour_41 : decode cX5_workAnHour 41 = .ok (.invokevirtual 255, 3) := by decide +kernel
theorem dX5_workAnHour_44 : decode cX5_workAnHour 44 = .ok (.aload_n 0, 1) := by decide +kernel
theorem dX5_workAnHour_45 : decode cX5_workAnHour 45 = .ok (.aload_n 0, 1) := by decide +kernel
theorem dX5_workAnHour_46 : decode cX5_workAnHour 46 = .ok (.invokevirtual 258, 3) := by decide +kernel
theorem dX5_workAnHour_49 : decode cX5_workAnHour 49 = .ok (.putfield 40, 3) := by decide +kernel
theorem dX5_workAnHour_52 : decode cX5_workAnHour 52 = .ok (.aload_n 0, 1) := by decide +kernel
theorem dX5_workAnHour_53 : decode cX5_workAnHour 53 = .ok (.getfield 40, 3) := by decide +kernel
theorem dX5_workAnHour_56 : decode cX5_workAnHour 56 = .ok (.iconst (-1), 1) := by decide +kernel
theorem dX5_workAnHour_57 : decode cX5_workAnHour 57 = .ok (.if_icmp .eq 11, 3) := by decide +kernel
theorem dX5_workAnHour_60 : decode cX5_workAnHour 60 = .ok (.aload_n 0, 1) := by decide +kernel
theorem dX5_workAnHour_61 : decode cX5_workAnHour 61 = .ok (.aload_n 0, 1) := by decide +kernel
theorem dX5_workAnHour_62 : decode cX5_workAnHour 62 = .ok (.getfield 36, 3) := by decide +kernel
theorem dX5_workAnHour_65 : decode cX5_workAnHour 65 = .ok (.putfield 154, 3) := by decide +kernel
theorem dX5_workAnHour_68 : decode cX5_workAnHour 68 = .ok (.return_, 1) := by decide +kernel
set_option maxRecDepth 20000 in
theorem ggX5_sheetToMake_X5_sheetOf : GoodIn wsX5_sheetToMake wsX5_sheetOf := goodIn_ca (goodIn_r _ [7, 8, 9, 10, 26, 27, 28, 29, 30, 31, 32, 33, 34] (by decide +kernel) (by decide +kernel)) (goodIn_sub (fun _ h => List.mem_cons_of_mem _ (List.mem_append_right _ h)) (by decide +kernel))
set_option maxRecDepth 20000 in
theorem gX5_sheetToMake_X5_sheetOf : GoodIn wsX5_sheetToMake (wsV RX5 98 RX5 yX5_sheetOf wsX5_sheetOf) := goodIn_app (goodIn_of _ (by decide +kernel)) ggX5_sheetToMake_X5_sheetOf
set_option maxRecDepth 20000 in
theorem ggX5_sheetToMake_X5_leastHourWished : GoodIn wsX5_sheetToMake wsX5_leastHourWished := goodIn_r _ [14, 15, 16, 17, 18, 19, 20, 21, 22, 26, 27, 28, 29, 30, 31, 32, 33, 34, 35, 36, 37, 38, 39, 40, 41, 42, 43, 44, 45, 46, 47] (by decide +kernel) (by decide +kernel)
set_option maxRecDepth 20000 in
theorem gX5_sheetToMake_X5_leastHourWished : GoodIn wsX5_sheetToMake (wsV RX5 261 RX5 yX5_leastHourWished wsX5_leastHourWished) := goodIn_app (goodIn_of _ (by decide +kernel)) ggX5_sheetToMake_X5_leastHourWished
theorem dX5_sheetToMake_0 : decode cX5_sheetToMake 0 = .ok (.iconst (-1), 1) := by decide +kernel
theorem dX5_sheetToMake_1 : decode cX5_sheetToMake 1 = .ok (.istore_n 1, 1) := by decide +kernel
theorem dX5_sheetToMake_2 : decode cX5_sheetToMake 2 = .ok (.iconst 0, 1) := by decide +kernel
theorem dX5_sheetToMake_3 : decode cX5_sheetToMake 3 = .ok (.istore_n 2, 1) := by decide +kernel
theorem dX5_sheetToMake_4 : decode cX5_sheetToMake 4 = .ok (.iconst 0, 1) := by decide +kernel
theorem dX5_sheetToMake_5 : decode cX5_sheetToMake 5 = .ok (.istore_n 3, 1) := by decide +kernel
theorem dX5_sheetToMake_6 : decode cX5_sheetToMake 6 = .ok (.iload_n 3, 1) := by decide +kernel
theorem dX5_sheetToMake_7 : decode cX5_sheetToMake 7 = .ok (.iconst 3, 1) := by decide +kernel
theorem dX5_sheetToMake_8 : decode cX5_sheetToMake 8 = .ok (.if_icmp .ge 59, 3) := by decide +kernel
theorem dX5_sheetToMake_11 : decode cX5_sheetToMake 11 = .ok (.aload_n 0, 1) := by decide +kernel
theorem dX5_sheetToMake_12 : decode cX5_sheetToMake 12 = .ok (.iload_n 3, 1) := by decide +kernel
theorem dX5_sheetToMake_13 : decode cX5_sheetToMake 13 = .ok (.invokevirtual 98, 3) := by decide +kernel
theorem dX5_sheetToMake_16 : decode cX5_sheetToMake 16 = .ok (.astore 4, 2) := by decide +kernel
theorem dX5_sheetToMake_18 : decode cX5_sheetToMake 18 = .ok (.aload 4, 2) := by decide +kernel
theorem dX5_sheetToMake_20 : decode cX5_sheetToMake 20 = .ok (.getfield 144, 3) := by decide +kernel
theorem dX5_sheetToMake_23 : decode cX5_sheetToMake 23 = .ok (.ifCond .ne 38, 3) := by decide +kernel
theorem dX5_sheetToMake_26 : decode cX5_sheetToMake 26 = .ok (.aload 4, 2) := by decide +kernel
theorem dX5_sheetToMake_28 : decode cX5_sheetToMake 28 = .ok (.getfield 148, 3) := by decide +kernel
theorem dX5_sheetToMake_31 : decode cX5_sheetToMake 31 = .ok (.iconst (-1), 1) := by decide +kernel
theorem dX5_sheetToMake_32 : decode cX5_sheetToMake 32 = .ok (.if_icmp .eq 6, 3) := by decide +kernel
theorem dX5_sheetToMake_35 : decode cX5_sheetToMake 35 = .ok (.goto 26, 3) := by decide +kernel
theorem dX5_sheetToMake_38 : decode cX5_sheetToMake 38 = .ok (.aload_n 0, 1) := by decide +kernel
theorem dX5_sheetToMake_39 : decode cX5_sheetToMake 39 = .ok (.iload_n 3, 1) := by decide +kernel
theorem dX5_sheetToMake_40 : decode cX5_sheetToMake 40 = .ok (.invokevirtual 261, 3) := by decide +kernel
theorem dX5_sheetToMake_43 : decode cX5_sheetToMake 43 = .ok (.istore 5, 2) := by decide +kernel
theorem dX5_sheetToMake_45 : decode cX5_sheetToMake 45 = .ok (.iload_n 1, 1) := by decide +kernel
theorem dX5_sheetToMake_46 : decode cX5_sheetToMake 46 = .ok (.iconst (-1), 1) := by decide +kernel
theorem dX5_sheetToMake_47 : decode cX5_sheetToMake 47 = .ok (.if_icmp .eq 9, 3) := by decide +kernel
theorem dX5_sheetToMake_50 : decode cX5_sheetToMake 50 = .ok (.iload 5, 2) := by decide +kernel
theorem dX5_sheetToMake_52 : decode cX5_sheetToMake 52 = .ok (.iload_n 2, 1) := by decide +kernel
theorem dX5_sheetToMake_53 : decode cX5_sheetToMake 53 = .ok (.if_icmp .ge 8, 3) := by decide +kernel
theorem dX5_sheetToMake_56 : decode cX5_sheetToMake 56 = .ok (.iload_n 3, 1) := by decide +kernel
theorem dX5_sheetToMake_57 : decode cX5_sheetToMake 57 = .ok (.istore_n 1, 1) := by decide +kernel
theorem dX5_sheetToMake_58 : decode cX5_sheetToMake 58 = .ok (.iload 5, 2) := by decide +kernel
theorem dX5_sheetToMake_60 : decode cX5_sheetToMake 60 = .ok (.istore_n 2, 1) := by decide +kernel
theorem dX5_sheetToMake_61 : decode cX5_sheetToMake 61 = .ok (.iinc 3 1, 3) := by decide +kernel
theorem dX5_sheetToMake_64 : decode cX5_sheetToMake 64 = .ok (.goto (-58), 3) := by decide +kernel
theorem dX5_sheetToMake_67 : decode cX5_sheetToMake 67 = .ok (.iload_n 1, 1) := by decide +kernel
theorem dX5_sheetToMake_68 : decode cX5_sheetToMake 68 = .ok (.ireturn, 1) := by decide +kernel
theorem dX5_leastHourWished_0 : decode cX5_leastHourWished 0 = .ok (.sipush 19998, 3) := by decide +kernel
theorem dX5_leastHourWished_3 : decode cX5_leastHourWished 3 = .ok (.istore_n 2, 1) := by decide +kernel
theorem dX5_leastHourWished_4 : decode cX5_leastHourWished 4 = .ok (.iconst 0, 1) := by decide +kernel
theorem dX5_leastHourWished_5 : decode cX5_leastHourWished 5 = .ok (.istore_n 3, 1) := by decide +kernel
theorem dX5_leastHourWished_6 : decode cX5_leastHourWished 6 = .ok (.iload_n 3, 1) := by decide +kernel
theorem dX5_leastHourWished_7 : decode cX5_leastHourWished 7 = .ok (.aload_n 0, 1) := by decide +kernel
theorem dX5_leastHourWished_8 : decode cX5_leastHourWished 8 = .ok (.getfield 25, 3) := by decide +kernel
theorem dX5_leastHourWished_11 : decode cX5_leastHourWished 11 = .ok (.arraylength, 1) := by decide +kernel
theorem dX5_leastHourWished_12 : decode cX5_leastHourWished 12 = .ok (.if_icmp .ge 49, 3) := by decide +kernel
theorem dX5_leastHourWished_15 : decode cX5_leastHourWished 15 = .ok (.aload_n 0, 1) := by decide +kernel
theorem dX5_leastHourWished_16 : decode cX5_leastHourWished 16 = .ok (.getfield 25, 3) := by decide +kernel
theorem dX5_leastHourWished_19 : decode cX5_leastHourWished 19 = .ok (.iload_n 3, 1) := by decide +kernel
theorem dX5_leastHourWished_20 : decode cX5_leastHourWished 20 = .ok (.aaload, 1) := by decide +kernel
theorem dX5_leastHourWished_21 : decode cX5_leastHourWished 21 = .ok (.astore 4, 2) := by decide +kernel
theorem dX5_leastHourWished_23 : decode cX5_leastHourWished 23 = .ok (.aload 4, 2) := by decide +kernel
theorem dX5_leastHourWished_25 : decode cX5_leastHourWished 25 = .ok (.ifnull 30, 3) := by decide +kernel
theorem dX5_leastHourWished_28 : decode cX5_leastHourWished 28 = .ok (.aload 4, 2) := by decide +kernel
theorem dX5_leastHourWished_30 : decode cX5_leastHourWished 30 = .ok (.getfield 114, 3) := by decide +kernel
theorem dX5_leastHourWished_33 : decode cX5_leastHourWished 33 = .ok (.ifCond .ne 22, 3) := by decide +kernel
theorem dX5_leastHourWished_36 : decode cX5_leastHourWished 36 = .ok (.aload 4, 2) := by decide +kernel
theorem dX5_leastHourWished_38 : decode cX5_leastHourWished 38 = .ok (.getfield 264, 3) := by decide +kernel
theorem dX5_leastHourWished_41 : decode cX5_leastHourWished 41 = .ok (.iload_n 1, 1) := by decide +kernel
theorem dX5_leastHourWished_42 : decode cX5_leastHourWished 42 = .ok (.if_icmp .ne 13, 3) := by decide +kernel
theorem dX5_leastHourWished_45 : decode cX5_leastHourWished 45 = .ok (.iload_n 2, 1) := by decide +kernel
theorem dX5_leastHourWished_46 : decode cX5_leastHourWished 46 = .ok (.aload 4, 2) := by decide +kernel
theorem dX5_leastHourWished_48 : decode cX5_leastHourWished 48 = .ok (.getfield 169, 3) := by decide +kernel
theorem dX5_leastHourWished_51 : decode cX5_leastHourWished 51 = .ok (.invokestatic 227, 3) := by decide +kernel
theorem dX5_leastHourWished_54 : decode cX5_leastHourWished 54 = .ok (.istore_n 2, 1) := by decide +kernel
theorem dX5_leastHourWished_55 : decode cX5_leastHourWished 55 = .ok (.iinc 3 1, 3) := by decide +kernel
theorem dX5_leastHourWished_58 : decode cX5_leastHourWished 58 = .ok (.goto (-52), 3) := by decide +kernel
theorem dX5_leastHourWished_61 : decode cX5_leastHourWished 61 = .ok (.iload_n 2, 1) := by decide +kernel
theorem dX5_leastHourWished_62 : decode cX5_leastHourWished 62 = .ok (.ireturn, 1) := by decide +kernel
set_option maxRecDepth 20000 in
theorem ggX5_beginGames_X5_sheetToPlay : GoodIn wsX5_beginGames wsX5_sheetToPlay := goodIn_ca (goodIn_r _ [13, 14, 15, 16, 12, 17, 18, 19, 20, 21, 22, 23, 24, 25, 26, 27, 28, 29, 30, 31, 32, 33, 34, 35, 36, 50, 51, 52] (by decide +kernel) (by decide +kernel)) (goodIn_sub (fun _ h => List.mem_cons_of_mem _ (List.mem_append_right _ h)) (by decide +kernel))
set_option maxRecDepth 20000 in
theorem gX5_beginGames_X5_sheetToPlay : GoodIn wsX5_beginGames (wsV RX5 267 RX5 yX5_sheetToPlay wsX5_sheetToPlay) := goodIn_app (goodIn_of _ (by decide +kernel)) ggX5_beginGames_X5_sheetToPlay
set_option maxRecDepth 20000 in
theorem ggX5_beginGames_X5_sheetOf : GoodIn wsX5_beginGames wsX5_sheetOf := goodIn_ca (goodIn_r _ [17, 18, 19, 20, 28, 29, 30, 31, 32, 33, 34, 35, 36] (by decide +kernel) (by decide +kernel)) (goodIn_sub (fun _ h => List.mem_cons_of_mem _ (List.mem_append_right _ h)) (by decide +kernel))
set_option maxRecDepth 20000 in
theorem gX5_beginGames_X5_sheetOf : GoodIn wsX5_beginGames (wsV RX5 98 RX5 yX5_sheetOf wsX5_sheetOf) := goodIn_app (goodIn_of _ (by decide +kernel)) ggX5_beginGames_X5_sheetOf
theorem dX5_beginGames_0 : decode cX5_beginGames 0 = .ok (.iconst 0, 1) := by decide +kernel
theorem dX5_beginGames_1 : decode cX5_beginGames 1 = .ok (.istore_n 1, 1) := by decide +kernel
theorem dX5_beginGames_2 : decode cX5_beginGames 2 = .ok (.iload_n 1, 1) := by decide +kernel
theorem dX5_beginGames_3 : decode cX5_beginGames 3 = .ok (.aload_n 0, 1) := by decide +kernel
theorem dX5_beginGames_4 : decode cX5_beginGames 4 = .ok (.getfield 25, 3) := by decide +kernel
theorem dX5_beginGames_7 : decode cX5_beginGames 7 = .ok (.arraylength, 1) := by decide +kernel
theorem dX5_beginGames_8 : decode cX5_beginGames 8 = .ok (.if_icmp .ge 97, 3) := by decide +kernel
theorem dX5_beginGames_11 : decode cX5_beginGames 11 = .ok (.aload_n 0, 1) := by decide +kernel
theorem dX5_beginGames_12 : decode cX5_beginGames 12 = .ok (.getfield 25, 3) := by decide +kernel
theorem dX5_beginGames_15 : decode cX5_beginGames 15 = .ok (.iload_n 1, 1) := by decide +kernel
theorem dX5_beginGames_16 : decode cX5_beginGames 16 = .ok (.aaload, 1) := by decide +kernel
theorem dX5_beginGames_17 : decode cX5_beginGames 17 = .ok (.astore_n 2, 1) := by decide +kernel
theorem dX5_beginGames_18 : decode cX5_beginGames 18 = .ok (.aload_n 2, 1) := by decide +kernel
theorem dX5_beginGames_19 : decode cX5_beginGames 19 = .ok (.ifnull 80, 3) := by decide +kernel
theorem dX5_beginGames_22 : decode cX5_beginGames 22 = .ok (.aload_n 2, 1) := by decide +kernel
theorem dX5_beginGames_23 : decode cX5_beginGames 23 = .ok (.getfield 114, 3) := by decide +kernel
theorem dX5_beginGames_26 : decode cX5_beginGames 26 = .ok (.ifCond .ne 73, 3) := by decide +kernel
theorem dX5_beginGames_29 : decode cX5_beginGames 29 = .ok (.aload_n 2, 1) := by decide +kernel
theorem dX5_beginGames_30 : decode cX5_beginGames 30 = .ok (.getfield 169, 3) := by decide +kernel
theorem dX5_beginGames_33 : decode cX5_beginGames 33 = .ok (.aload_n 0, 1) := by decide +kernel
theorem dX5_beginGames_34 : decode cX5_beginGames 34 = .ok (.getfield 54, 3) := by decide +kernel
theorem dX5_beginGames_37 : decode cX5_beginGames 37 = .ok (.if_icmp .le 6, 3) := by decide +kernel
theorem dX5_beginGames_40 : decode cX5_beginGames 40 = .ok (.goto 59, 3) := by decide +kernel
theorem dX5_beginGames_43 : decode cX5_beginGames 43 = .ok (.aload_n 0, 1) := by decide +kernel
theorem dX5_beginGames_44 : decode cX5_beginGames 44 = .ok (.aload_n 2, 1) := by decide +kernel
theorem dX5_beginGames_45 : decode cX5_beginGames 45 = .ok (.getfield 264, 3) := by decide +kernel
theorem dX5_beginGames_48 : decode cX5_beginGames 48 = .ok (.invokevirtual 267, 3) := by decide +kernel
theorem dX5_beginGames_51 : decode cX5_beginGames 51 = .ok (.istore_n 3, 1) := by decide +kernel
theorem dX5_beginGames_52 : decode cX5_beginGames 52 = .ok (.iload_n 3, 1) := by decide +kernel
theorem dX5_beginGames_53 : decode cX5_beginGames 53 = .ok (.iconst (-1), 1) := by decide +kernel
theorem dX5_beginGames_54 : decode cX5_beginGames 54 = .ok (.if_icmp .ne 16, 3) := by decide +kernel
theorem dX5_beginGames_57 : decode cX5_beginGames 57 = .ok (.aload_n 2, 1) := by decide +kernel
theorem dX5_beginGames_58 : decode cX5_beginGames 58 = .ok (.dup, 1) := by decide +kernel
theorem dX5_beginGames_59 : decode cX5_beginGames 59 = .ok (.getfield 169, 3) := by decide +kernel
theorem dX5_beginGames_62 : decode cX5_beginGames 62 = .ok (.iconst 1, 1) := by decide +kernel
theorem dX5_beginGames_63 : decode cX5_beginGames 63 = .ok (.iadd, 1) := by decide +kernel
theorem dX5_beginGames_64 : decode cX5_beginGames 64 = .ok (.putfield 169, 3) := by decide +kernel
theorem dX5_beginGames_67 : decode cX5_beginGames 67 = .ok (.goto 32, 3) := by decide +kernel
theorem dX5_beginGames_70 : decode cX5_beginGames 70 = .ok (.aload_n 0, 1) := by decide +kernel
theorem dX5_beginGames_71 : decode cX5_beginGames 71 = .ok (.iload_n 3, 1) := by decide +kernel
theorem dX5_beginGames_72 : decode cX5_beginGames 72 = .ok (.invokevirtual 98, 3) := by decide +kernel
theorem dX5_beginGames_75 : decode cX5_beginGames 75 = .ok (.astore 4, 2) := by decide +kernel
theorem dX5_beginGames_77 : decode cX5_beginGames 77 = .ok (.aload 4, 2) := by decide +kernel
theorem dX5_beginGames_79 : decode cX5_beginGames 79 = .ok (.iconst 0, 1) := by decide +kernel
theorem dX5_beginGames_80 : decode cX5_beginGames 80 = .ok (.putfield 144, 3) := by decide +kernel
theorem dX5_beginGames_83 : decode cX5_beginGames 83 = .ok (.aload 4, 2) := by decide +kernel
theorem dX5_beginGames_85 : decode cX5_beginGames 85 = .ok (.iload_n 1, 1) := by decide +kernel
theorem dX5_beginGames_86 : decode cX5_beginGames 86 = .ok (.putfield 148, 3) := by decide +kernel
theorem dX5_beginGames_89 : decode cX5_beginGames 89 = .ok (.aload_n 2, 1) := by decide +kernel
theorem dX5_beginGames_90 : decode cX5_beginGames 90 = .ok (.iload_n 3, 1) := by decide +kernel
theorem dX5_beginGames_91 : decode cX5_beginGames 91 = .ok (.putfield 95, 3) := by decide +kernel
theorem dX5_beginGames_94 : decode cX5_beginGames 94 = .ok (.aload_n 2, 1) := by decide +kernel
theorem dX5_beginGames_95 : decode cX5_beginGames 95 = .ok (.iconst 1, 1) := by decide +kernel
theorem dX5_beginGames_96 : decode cX5_beginGames 96 = .ok (.putfield 114, 3) := by decide +kernel
theorem dX5_beginGames_99 : decode cX5_beginGames 99 = .ok (.iinc 1 1, 3) := by decide +kernel
theorem dX5_beginGames_102 : decode cX5_beginGames 102 = .ok (.goto (-100), 3) := by decide +kernel
theorem dX5_beginGames_105 : decode cX5_beginGames 105 = .ok (.return_, 1) := by decide +kernel
set_option maxRecDepth 20000 in
theorem ggX5_sheetToPlay_X5_sheetOf : GoodIn wsX5_sheetToPlay wsX5_sheetOf := goodIn_ca (goodIn_r _ [5, 6, 7, 8, 16, 17, 18, 19, 20, 21, 22, 23, 24] (by decide +kernel) (by decide +kernel)) (goodIn_sub (fun _ h => List.mem_cons_of_mem _ (List.mem_append_right _ h)) (by decide +kernel))
set_option maxRecDepth 20000 in
theorem gX5_sheetToPlay_X5_sheetOf : GoodIn wsX5_sheetToPlay (wsV RX5 98 RX5 yX5_sheetOf wsX5_sheetOf) := goodIn_app (goodIn_of _ (by decide +kernel)) ggX5_sheetToPlay_X5_sheetOf
set_option maxRecDepth 20000 in
theorem ggX5_sheetToPlay_X1_isReady : GoodIn wsX5_sheetToPlay wsX1_isReady := goodIn_r _ [13, 14, 15, 25, 26, 27] (by decide +kernel) (by decide +kernel)
set_option maxRecDepth 20000 in
theorem gX5_sheetToPlay_X1_isReady : GoodIn wsX5_sheetToPlay (wsV RX5 270 RX1 yX1_isReady wsX1_isReady) := goodIn_app (goodIn_of _ (by decide +kernel)) ggX5_sheetToPlay_X1_isReady
theorem dX5_sheetToPlay_0 : decode cX5_sheetToPlay 0 = .ok (.aload_n 0, 1) := by decide +kernel
theorem dX5_sheetToPlay_1 : decode cX5_sheetToPlay 1 = .ok (.iload_n 1, 1) := by decide +kernel
theorem dX5_sheetToPlay_2 : decode cX5_sheetToPlay 2 = .ok (.invokevirtual 98, 3) := by decide +kernel
theorem dX5_sheetToPlay_5 : decode cX5_sheetToPlay 5 = .ok (.invokevirtual 270, 3) := by decide +kernel
theorem dX5_sheetToPlay_8 : decode cX5_sheetToPlay 8 = .ok (.ifCond .eq 5, 3) := by decide +kernel
theorem dX5_sheetToPlay_11 : decode cX5_sheetToPlay 11 = .ok (.iload_n 1, 1) := by decide +kernel
theorem dX5_sheetToPlay_12 : decode cX5_sheetToPlay 12 = .ok (.ireturn, 1) := by decide +kernel
theorem dX5_sheetToPlay_13 : decode cX5_sheetToPlay 13 = .ok (.iconst 0, 1) := by decide +kernel
theorem dX5_sheetToPlay_14 : decode cX5_sheetToPlay 14 = .ok (.istore_n 2, 1) := by decide +kernel
theorem dX5_sheetToPlay_15 : decode cX5_sheetToPlay 15 = .ok (.iload_n 2, 1) := by decide +kernel
theorem dX5_sheetToPlay_16 : decode cX5_sheetToPlay 16 = .ok (.iconst 3, 1) := by decide +kernel
theorem dX5_sheetToPlay_17 : decode cX5_sheetToPlay 17 = .ok (.if_icmp .ge 22, 3) := by decide +kernel
theorem dX5_sheetToPlay_20 : decode cX5_sheetToPlay 20 = .ok (.aload_n 0, 1) := by decide +kernel
theorem dX5_sheetToPlay_21 : decode cX5_sheetToPlay 21 = .ok (.iload_n 2, 1) := by decide +kernel
theorem dX5_sheetToPlay_22 : decode cX5_sheetToPlay 22 = .ok (.invokevirtual 98, 3) := by decide +kernel
theorem dX5_sheetToPlay_25 : decode cX5_sheetToPlay 25 = .ok (.invokevirtual 270, 3) := by decide +kernel
theorem dX5_sheetToPlay_28 : decode cX5_sheetToPlay 28 = .ok (.ifCond .eq 5, 3) := by decide +kernel
theorem dX5_sheetToPlay_31 : decode cX5_sheetToPlay 31 = .ok (.iload_n 2, 1) := by decide +kernel
theorem dX5_sheetToPlay_32 : decode cX5_sheetToPlay 32 = .ok (.ireturn, 1) := by decide +kernel
theorem dX5_sheetToPlay_33 : decode cX5_sheetToPlay 33 = .ok (.iinc 2 1, 3) := by decide +kernel
theorem dX5_sheetToPlay_36 : decode cX5_sheetToPlay 36 = .ok (.goto (-21), 3) := by decide +kernel
theorem dX5_sheetToPlay_39 : decode cX5_sheetToPlay 39 = .ok (.iconst (-1), 1) := by decide +kernel
theorem dX5_sheetToPlay_40 : decode cX5_sheetToPlay 40 = .ok (.ireturn, 1) := by decide +kernel
set_option maxRecDepth 20000 in
theorem ggX5_worthOfShot_X5_worthOfTry : GoodIn wsX5_worthOfShot wsX5_worthOfTry := goodIn_ca (goodIn_r _ [9, 10, 11, 12, 13, 14, 15, 16, 17, 18, 19, 20, 21, 22, 23, 24, 25, 26, 27, 8, 28, 29, 30, 31, 32, 33, 34, 35, 36, 37, 38, 39, 40, 41, 42, 43, 44, 45, 46, 47, 48, 49, 50, 51, 52, 53, 54, 55, 56, 57, 58, 59, 60, 61, 62, 63, 64, 65, 66, 67, 68, 69, 70, 71, 72, 73, 74, 75, 76, 77, 78, 79, 80, 81, 82, 83, 84, 85, 86, 87, 88, 89, 90, 91, 92, 93, 94, 95, 96, 97, 98, 99, 100, 101, 102, 103, 104, 105, 106, 107, 108, 109, 110, 111, 112, 113, 114, 115, 116, 117, 118, 119, 2, 3, 4, 120, 121, 122, 123, 124, 1, 125, 126, 127, 128, 129, 130, 131, 132, 133, 134, 135, 136, 137, 138, 139, 140, 141, 142, 143, 144, 145, 146, 147, 148, 149, 150, 151, 152, 153, 154, 155, 156, 157, 158, 159, 160, 161, 162, 163, 164, 165] (by decide +kernel) (by decide +kernel)) (goodIn_sub (fun _ h => List.mem_cons_of_mem _ (List.mem_append_right _ h)) (by decide +kernel))
set_option maxRecDepth 20000 in
theorem gX5_worthOfShot_X5_worthOfTry : GoodIn wsX5_worthOfShot (wsV RX5 273 RX5 yX5_worthOfTry wsX5_worthOfTry) := goodIn_app (goodIn_of _ (by decide +kernel)) ggX5_worthOfShot_X5_worthOfTry
theorem dX5_worthOfShot_0 : decode cX5_worthOfShot 0 = .ok (.aload_n 0, 1) := by decide +kernel
theorem dX5_worthOfShot_1 : decode cX5_worthOfShot 1 = .ok (.aload_n 1, 1) := by decide +kernel
theorem dX5_worthOfShot_2 : decode cX5_worthOfShot 2 = .ok (.iload_n 2, 1) := by decide +kernel
theorem dX5_worthOfShot_3 : decode cX5_worthOfShot 3 = .ok (.iload_n 3, 1) := by decide +kernel
theorem dX5_worthOfShot_4 : decode cX5_worthOfShot 4 = .ok (.iload 4, 2) := by decide +kernel
theorem dX5_worthOfShot_6 : decode cX5_worthOfShot 6 = .ok (.invokevirtual 273, 3) := by decide +kernel
theorem dX5_worthOfShot_9 : decode cX5_worthOfShot 9 = .ok (.istore 5, 2) := by decide +kernel
theorem dX5_worthOfShot_11 : decode cX5_worthOfShot 11 = .ok (.iload 5, 2) := by decide +kernel
theorem dX5_worthOfShot_13 : decode cX5_worthOfShot 13 = .ok (.aload_n 0, 1) := by decide +kernel
theorem dX5_worthOfShot_14 : decode cX5_worthOfShot 14 = .ok (.aload_n 1, 1) := by decide +kernel
theorem dX5_worthOfShot_15 : decode cX5_worthOfShot 15 = .ok (.iload_n 2, 1) := by decide +kernel
theorem dX5_worthOfShot_16 : decode cX5_worthOfShot 16 = .ok (.iload_n 3, 1) := by decide +kernel
theorem dX5_worthOfShot_17 : decode cX5_worthOfShot 17 = .ok (.iconst 5, 1) := by decide +kernel
theorem dX5_worthOfShot_18 : decode cX5_worthOfShot 18 = .ok (.isub, 1) := by decide +kernel
theorem dX5_worthOfShot_19 : decode cX5_worthOfShot 19 = .ok (.iload 4, 2) := by decide +kernel
theorem dX5_worthOfShot_21 : decode cX5_worthOfShot 21 = .ok (.invokevirtual 273, 3) := by decide +kernel
theorem dX5_worthOfShot_24 : decode cX5_worthOfShot 24 = .ok (.invokestatic 227, 3) := by decide +kernel
theorem dX5_worthOfShot_27 : decode cX5_worthOfShot 27 = .ok (.istore 5, 2) := by decide +kernel
theorem dX5_worthOfShot_29 : decode cX5_worthOfShot 29 = .ok (.iload 5, 2) := by decide +kernel
theorem dX5_worthOfShot_31 : decode cX5_worthOfShot 31 = .ok (.aload_n 0, 1) := by decide +kernel
theorem dX5_worthOfShot_32 : decode cX5_worthOfShot 32 = .ok (.aload_n 1, 1) := by decide +kernel
theorem dX5_worthOfShot_33 : decode cX5_worthOfShot 33 = .ok (.iload_n 2, 1) := by decide +kernel
theorem dX5_worthOfShot_34 : decode cX5_worthOfShot 34 = .ok (.iload_n 3, 1) := by decide +kernel
theorem dX5_worthOfShot_35 : decode cX5_worthOfShot 35 = .ok (.iconst 5, 1) := by decide +kernel
theorem dX5_worthOfShot_36 : decode cX5_worthOfShot 36 = .ok (.iadd, 1) := by decide +kernel
theorem dX5_worthOfShot_37 : decode cX5_worthOfShot 37 = .ok (.iload 4, 2) := by decide +kernel
theorem dX5_worthOfShot_39 : decode cX5_worthOfShot 39 = .ok (.invokevirtual 273, 3) := by decide +kernel
theorem dX5_worthOfShot_42 : decode cX5_worthOfShot 42 = .ok (.invokestatic 227, 3) := by decide +kernel
theorem dX5_worthOfShot_45 : decode cX5_worthOfShot 45 = .ok (.ireturn, 1) := by decide +kernel
set_option maxRecDepth 20000 in
theorem ggX5_worthOfTry_X2_aim : GoodIn wsX5_worthOfTry wsX2_aim := goodIn_r _ [9, 10, 11, 12, 13, 14, 15, 148, 149, 150, 151, 152, 153, 154, 155, 156, 157] (by decide +kernel) (by decide +kernel)
set_option maxRecDepth 20000 in
theorem gX5_worthOfTry_X2_aim : GoodIn wsX5_worthOfTry (wsV RX5 91 RX2 yX2_aim wsX2_aim) := goodIn_app (goodIn_of _ (by decide +kernel)) ggX5_worthOfTry_X2_aim
set_option maxRecDepth 20000 in
theorem ggX5_worthOfTry_X5_sheetOf : GoodIn wsX5_worthOfTry wsX5_sheetOf := goodIn_ca (goodIn_r _ [20, 21, 22, 23, 126, 127, 128, 129, 130, 131, 132, 133, 134] (by decide +kernel) (by decide +kernel)) (goodIn_sub (fun _ h => List.mem_cons_of_mem _ (List.mem_append_right _ h)) (by decide +kernel))
set_option maxRecDepth 20000 in
theorem gX5_worthOfTry_X5_sheetOf : GoodIn wsX5_worthOfTry (wsV RX5 98 RX5 yX5_sheetOf wsX5_sheetOf) := goodIn_app (goodIn_of _ (by decide +kernel)) ggX5_worthOfTry_X5_sheetOf
set_option maxRecDepth 20000 in
theorem ggX5_worthOfTry_X0_nextStone : GoodIn wsX5_worthOfTry wsX0_nextStone := goodIn_r _ [28, 29, 30, 31, 32, 27, 33, 34, 35, 135, 136, 137, 138, 139, 140, 141, 142, 143, 144, 145, 146, 147] (by decide +kernel) (by decide +kernel)
set_option maxRecDepth 20000 in
theorem gX5_worthOfTry_X0_nextStone : GoodIn wsX5_worthOfTry (wsV RX5 106 RX0 yX0_nextStone wsX0_nextStone) := goodIn_app (goodIn_of _ (by decide +kernel)) ggX5_worthOfTry_X0_nextStone
set_option maxRecDepth 20000 in
theorem ggX5_worthOfTry_X2_run : GoodIn wsX5_worthOfTry wsX2_run := goodIn_r _ [39, 40, 41, 42, 43, 44, 45, 46, 47, 48, 49, 50, 51, 52, 53, 54, 55, 8, 56, 57, 11, 10, 13, 58, 59, 60, 61, 12, 62, 63, 64, 65, 66, 67, 68, 69, 70, 71, 14, 15, 72, 19, 73, 74, 75, 76, 77, 78, 79, 80, 81, 82, 83, 84, 85, 86, 87, 88, 89, 90, 91, 92, 93, 94, 95, 96, 97, 98, 99, 100, 101, 102, 148, 149, 150, 151, 152, 153, 154, 155, 156, 157, 158, 159, 160, 161] (by decide +kernel) (by decide +kernel)
set_option maxRecDepth 20000 in
theorem gX5_worthOfTry_X2_run : GoodIn wsX5_worthOfTry (wsV RX5 110 RX2 yX2_run wsX2_run) := goodIn_app (goodIn_of _ (by decide +kernel)) ggX5_worthOfTry_X2_run
set_option maxRecDepth 20000 in
theorem ggX5_worthOfTry_X3_score : GoodIn wsX5_worthOfTry wsX3_score := goodIn_r _ [106, 107, 108, 109, 46, 110, 111, 112, 113, 114, 49, 50, 51, 52, 48, 115, 19, 116, 117, 118, 119, 120, 121, 122, 123, 124, 158] (by decide +kernel) (by decide +kernel)
set_option maxRecDepth 20000 in
theorem gX5_worthOfTry_X3_score : GoodIn wsX5_worthOfTry (wsV RX5 192 RX3 yX3_score wsX3_score) := goodIn_app (goodIn_of _ (by decide +kernel)) ggX5_worthOfTry_X3_score
set_option maxRecDepth 20000 in
theorem ggX5_worthOfTry_X0_nextSide : GoodIn wsX5_worthOfTry wsX0_nextSide := goodIn_r _ [33, 34, 29, 35, 135, 136, 137, 138, 139, 140, 141, 142, 143, 144, 145, 146, 147] (by decide +kernel) (by decide +kernel)
set_option maxRecDepth 20000 in
theorem gX5_worthOfTry_X0_nextSide : GoodIn wsX5_worthOfTry (wsV RX5 181 RX0 yX0_nextSide wsX0_nextSide) := goodIn_app (goodIn_of _ (by decide +kernel)) ggX5_worthOfTry_X0_nextSide
theorem dX5_worthOfTry_0 : decode cX5_worthOfTry 0 = .ok (.aload_n 0, 1) := by decide +kernel
theorem dX5_worthOfTry_1 : decode cX5_worthOfTry 1 = .ok (.getfield 32, 3) := by decide +kernel
theorem dX5_worthOfTry_4 : decode cX5_worthOfTry 4 = .ok (.iload_n 2, 1) := by decide +kernel
theorem dX5_worthOfTry_5 : decode cX5_worthOfTry 5 = .ok (.iload_n 3, 1) := by decide +kernel
theorem dX5_worthOfTry_6 : decode cX5_worthOfTry 6 = .ok (.iload 4, 2) := by decide +kernel
theorem dX5_worthOfTry_8 : decode cX5_worthOfTry 8 = .ok (.iconst 1, 1) := by decide +kernel
theorem dX5_worthOfTry_9 : decode cX5_worthOfTry 9 = .ok (.iconst 0, 1) := by decide +kernel
theorem dX5_worthOfTry_10 : decode cX5_worthOfTry 10 = .ok (.invokevirtual 91, 3) := by decide +kernel
theorem dX5_worthOfTry_13 : decode cX5_worthOfTry 13 = .ok (.aload_n 0, 1) := by decide +kernel
theorem dX5_worthOfTry_14 : decode cX5_worthOfTry 14 = .ok (.getfield 32, 3) := by decide +kernel
theorem dX5_worthOfTry_17 : decode cX5_worthOfTry 17 = .ok (.aload_n 0, 1) := by decide +kernel
theorem dX5_worthOfTry_18 : decode cX5_worthOfTry 18 = .ok (.aload_n 1, 1) := by decide +kernel
theorem dX5_worthOfTry_19 : decode cX5_worthOfTry 19 = .ok (.getfield 95, 3) := by decide +kernel
theorem dX5_worthOfTry_22 : decode cX5_worthOfTry 22 = .ok (.invokevirtual 98, 3) := by decide +kernel
theorem dX5_worthOfTry_25 : decode cX5_worthOfTry 25 = .ok (.aload_n 1, 1) := by decide +kernel
theorem dX5_worthOfTry_26 : decode cX5_worthOfTry 26 = .ok (.getfield 102, 3) := by decide +kernel
theorem dX5_worthOfTry_29 : decode cX5_worthOfTry 29 = .ok (.aload_n 1, 1) := by decide +kernel
theorem dX5_worthOfTry_30 : decode cX5_worthOfTry 30 = .ok (.invokevirtual 106, 3) := by decide +kernel
theorem dX5_worthOfTry_33 : decode cX5_worthOfTry 33 = .ok (.iconst 0, 1) := by decide +kernel
theorem dX5_worthOfTry_34 : decode cX5_worthOfTry 34 = .ok (.invokevirtual 110, 3) := by decide +kernel
theorem dX5_worthOfTry_37 : decode cX5_worthOfTry 37 = .ok (.pop, 1) := by decide +kernel
