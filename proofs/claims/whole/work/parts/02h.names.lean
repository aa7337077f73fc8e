set_option maxRecDepth 20000 in
theorem ggX6_tries_X6_takesUp : GoodIn wsX6_tries wsX6_takesUp := goodIn_r _ [27, 28, 29, 30, 1, 31, 50, 51, 52, 53, 54, 55, 56, 57, 58, 59, 60, 61, 62, 63, 64, 65, 66, 67, 68, 69, 70, 71, 72, 73, 74, 75, 76, 77] (by decide +kernel) (by decide +kernel)
set_option maxRecDepth 20000 in
theorem gX6_tries_X6_takesUp : GoodIn wsX6_tries (wsV RX6 136 RX6 yX6_takesUp wsX6_takesUp) := goodIn_app (goodIn_of _ (by decide +kernel)) ggX6_tries_X6_takesUp
set_option maxRecDepth 20000 in
theorem ggX6_tries_X6_slotOf : GoodIn wsX6_tries wsX6_slotOf := goodIn_r _ [35, 18, 36, 37, 38, 39, 5, 40, 41, 50, 51, 52, 53, 54, 55, 56, 57, 58, 59, 60, 61, 62, 63, 64, 65, 66, 67, 68, 69, 70, 71, 72, 73, 74, 75, 76, 77] (by decide +kernel) (by decide +kernel)
set_option maxRecDepth 20000 in
theorem gX6_tries_X6_slotOf : GoodIn wsX6_tries (wsV RX6 140 RX6 yX6_slotOf wsX6_slotOf) := goodIn_app (goodIn_of _ (by decide +kernel)) ggX6_tries_X6_slotOf
set_option maxRecDepth 20000 in
theorem ggX6_tries_X6_goes : GoodIn wsX6_tries wsX6_goes := goodIn_r _ [45, 1, 28, 8, 9, 5, 10, 46, 47, 48, 49, 50, 51, 52, 53, 54, 55, 56, 57, 58, 59, 60, 61, 62, 63, 64, 65, 66, 67, 68, 69, 70, 71, 72, 73, 74, 75, 76, 77] (by decide +kernel) (by decide +kernel)
set_option maxRecDepth 20000 in
theorem gX6_tries_X6_goes : GoodIn wsX6_tries (wsV RX6 143 RX6 yX6_goes wsX6_goes) := goodIn_app (goodIn_of _ (by decide +kernel)) ggX6_tries_X6_goes
theorem dX6_tries_0 : decode cX6_tries 0 = .ok (.aload_n 0, 1) := by decide +kernel
theorem dX6_tries_1 : decode cX6_tries 1 = .ok (.iload_n 1, 1) := by decide +kernel
theorem dX6_tries_2 : decode cX6_tries 2 = .ok (.invokevirtual 126, 3) := by decide +kernel
theorem dX6_tries_5 : decode cX6_tries 5 = .ok (.istore 7, 2) := by decide +kernel
theorem dX6_tries_7 : decode cX6_tries 7 = .ok (.aload_n 0, 1) := by decide +kernel
theorem dX6_tries_8 : decode cX6_tries 8 = .ok (.iload 7, 2) := by decide +kernel
theorem dX6_tries_10 : decode cX6_tries 10 = .ok (.iload_n 2, 1) := by decide +kernel
theorem dX6_tries_11 : decode cX6_tries 11 = .ok (.iload_n 3, 1) := by decide +kernel
theorem dX6_tries_12 : decode cX6_tries 12 = .ok (.iload 4, 2) := by decide +kernel
theorem dX6_tries_14 : decode cX6_tries 14 = .ok (.iload 5, 2) := by decide +kernel
theorem dX6_tries_16 : decode cX6_tries 16 = .ok (.iload 6, 2) := by decide +kernel
theorem dX6_tries_18 : decode cX6_tries 18 = .ok (.invokestatic 129, 3) := by decide +kernel
theorem dX6_tries_21 : decode cX6_tries 21 = .ok (.iload 7, 2) := by decide +kernel
theorem dX6_tries_23 : decode cX6_tries 23 = .ok (.ifCond .eq 15, 3) := by decide +kernel
theorem dX6_tries_26 : decode cX6_tries 26 = .ok (.aload_n 0, 1) := by decide +kernel
theorem dX6_tries_27 : decode cX6_tries 27 = .ok (.iload_n 1, 1) := by decide +kernel
theorem dX6_tries_28 : decode cX6_tries 28 = .ok (.invokevirtual 133, 3) := by decide +kernel
theorem dX6_tries_31 : decode cX6_tries 31 = .ok (.ifCond .eq 7, 3) := by decide +kernel
theorem dX6_tries_34 : decode cX6_tries 34 = .ok (.iconst 1, 1) := by decide +kernel
theorem dX6_tries_35 : decode cX6_tries 35 = .ok (.goto 4, 3) := by decide +kernel
theorem dX6_tries_38 : decode cX6_tries 38 = .ok (.iconst 0, 1) := by decide +kernel
theorem dX6_tries_39 : decode cX6_tries 39 = .ok (.invokevirtual 104, 3) := by decide +kernel
theorem dX6_tries_42 : decode cX6_tries 42 = .ok (.ifCond .ne 5, 3) := by decide +kernel
theorem dX6_tries_45 : decode cX6_tries 45 = .ok (.iconst 0, 1) := by decide +kernel
theorem dX6_tries_46 : decode cX6_tries 46 = .ok (.ireturn, 1) := by decide +kernel
theorem dX6_tries_47 : decode cX6_tries 47 = .ok (.aload_n 0, 1) := by decide +kernel
theorem dX6_tries_48 : decode cX6_tries 48 = .ok (.iload_n 1, 1) := by decide +kernel
theorem dX6_tries_49 : decode cX6_tries 49 = .ok (.invokevirtual 136, 3) := by decide +kernel
theorem dX6_tries_52 : decode cX6_tries 52 = .ok (.aload_n 0, 1) := by decide +kernel
theorem dX6_tries_53 : decode cX6_tries 53 = .ok (.iload_n 1, 1) := by decide +kernel
theorem dX6_tries_54 : decode cX6_tries 54 = .ok (.invokevirtual 140, 3) := by decide +kernel
theorem dX6_tries_57 : decode cX6_tries 57 = .ok (.istore 8, 2) := by decide +kernel
theorem dX6_tries_59 : decode cX6_tries 59 = .ok (.aload_n 0, 1) := by decide +kernel
theorem dX6_tries_60 : decode cX6_tries 60 = .ok (.iload 8, 2) := by decide +kernel
theorem dX6_tries_62 : decode cX6_tries 62 = .ok (.iload_n 2, 1) := by decide +kernel
theorem dX6_tries_63 : decode cX6_tries 63 = .ok (.iload_n 3, 1) := by decide +kernel
theorem dX6_tries_64 : decode cX6_tries 64 = .ok (.iload 4, 2) := by decide +kernel
theorem dX6_tries_66 : decode cX6_tries 66 = .ok (.iload 5, 2) := by decide +kernel
theorem dX6_tries_68 : decode cX6_tries 68 = .ok (.iload 6, 2) := by decide +kernel
theorem dX6_tries_70 : decode cX6_tries 70 = .ok (.invokevirtual 143, 3) := by decide +kernel
theorem dX6_tries_73 : decode cX6_tries 73 = .ok (.aload_n 0, 1) := by decide +kernel
theorem dX6_tries_74 : decode cX6_tries 74 = .ok (.getfield 75, 3) := by decide +kernel
theorem dX6_tries_77 : decode cX6_tries 77 = .ok (.iload 8, 2) := by decide +kernel
theorem dX6_tries_79 : decode cX6_tries 79 = .ok (.iaload, 1) := by decide +kernel
theorem dX6_tries_80 : decode cX6_tries 80 = .ok (.ireturn, 1) := by decide +kernel
theorem dX6_isFree_0 : decode cX6_isFree 0 = .ok (.aload_n 0, 1) := by decide +kernel
theorem dX6_isFree_1 : decode cX6_isFree 1 = .ok (.getfield 24, 3) := by decide +kernel
theorem dX6_isFree_4 : decode cX6_isFree 4 = .ok (.iload_n 1, 1) := by decide +kernel
theorem dX6_isFree_5 : decode cX6_isFree 5 = .ok (.iaload, 1) := by decide +kernel
theorem dX6_isFree_6 : decode cX6_isFree 6 = .ok (.iconst (-1), 1) := by decide +kernel
theorem dX6_isFree_7 : decode cX6_isFree 7 = .ok (.if_icmp .ne 7, 3) := by decide +kernel
theorem dX6_isFree_10 : decode cX6_isFree 10 = .ok (.iconst 1, 1) := by decide +kernel
theorem dX6_isFree_11 : decode cX6_isFree 11 = .ok (.goto 4, 3) := by decide +kernel
theorem dX6_isFree_14 : decode cX6_isFree 14 = .ok (.iconst 0, 1) := by decide +kernel
theorem dX6_isFree_15 : decode cX6_isFree 15 = .ok (.ireturn, 1) := by decide +kernel
set_option maxRecDepth 20000 in
theorem ggX6_wanted_X6_isFree : GoodIn wsX6_wanted wsX6_isFree := goodIn_r _ [10, 11, 12, 13, 14, 15, 16, 17, 18, 19, 20, 21, 22, 23, 24, 25, 26, 27, 28, 29, 30, 31, 32, 33, 34, 35, 36, 37, 38, 39] (by decide +kernel) (by decide +kernel)
set_option maxRecDepth 20000 in
theorem gX6_wanted_X6_isFree : GoodIn wsX6_wanted (wsV RX6 149 RX6 yX6_isFree wsX6_isFree) := goodIn_app (goodIn_of _ (by decide +kernel)) ggX6_wanted_X6_isFree
theorem dX6_wanted_0 : decode cX6_wanted 0 = .ok (.iconst (-1), 1) := by decide +kernel
theorem dX6_wanted_1 : decode cX6_wanted 1 = .ok (.istore_n 1, 1) := by decide +kernel
theorem dX6_wanted_2 : decode cX6_wanted 2 = .ok (.iconst 0, 1) := by decide +kernel
theorem dX6_wanted_3 : decode cX6_wanted 3 = .ok (.istore_n 2, 1) := by decide +kernel
theorem dX6_wanted_4 : decode cX6_wanted 4 = .ok (.iconst 0, 1) := by decide +kernel
theorem dX6_wanted_5 : decode cX6_wanted 5 = .ok (.istore_n 3, 1) := by decide +kernel
theorem dX6_wanted_6 : decode cX6_wanted 6 = .ok (.iload_n 3, 1) := by decide +kernel
theorem dX6_wanted_7 : decode cX6_wanted 7 = .ok (.iconst 3, 1) := by decide +kernel
theorem dX6_wanted_8 : decode cX6_wanted 8 = .ok (.if_icmp .ge 112, 3) := by decide +kernel
theorem dX6_wanted_11 : decode cX6_wanted 11 = .ok (.sipush 10099, 3) := by decide +kernel
theorem dX6_wanted_14 : decode cX6_wanted 14 = .ok (.istore 4, 2) := by decide +kernel
theorem dX6_wanted_16 : decode cX6_wanted 16 = .ok (.iconst 0, 1) := by decide +kernel
theorem dX6_wanted_17 : decode cX6_wanted 17 = .ok (.istore 5, 2) := by decide +kernel
theorem dX6_wanted_19 : decode cX6_wanted 19 = .ok (.iload 5, 2) := by decide +kernel
theorem dX6_wanted_21 : decode cX6_wanted 21 = .ok (.aload_n 0, 1) := by decide +kernel
theorem dX6_wanted_22 : decode cX6_wanted 22 = .ok (.getfield 87, 3) := by decide +kernel
theorem dX6_wanted_25 : decode cX6_wanted 25 = .ok (.if_icmp .ge 56, 3) := by decide +kernel
theorem dX6_wanted_28 : decode cX6_wanted 28 = .ok (.aload_n 0, 1) := by decide +kernel
theorem dX6_wanted_29 : decode cX6_wanted 29 = .ok (.getfield 27, 3) := by decide +kernel
theorem dX6_wanted_32 : decode cX6_wanted 32 = .ok (.iload 5, 2) := by decide +kernel
theorem dX6_wanted_34 : decode cX6_wanted 34 = .ok (.iaload, 1) := by decide +kernel
theorem dX6_wanted_35 : decode cX6_wanted 35 = .ok (.ifCond .ne 36, 3) := by decide +kernel
theorem dX6_wanted_38 : decode cX6_wanted 38 = .ok (.aload_n 0, 1) := by decide +kernel
theorem dX6_wanted_39 : decode cX6_wanted 39 = .ok (.getfield 39, 3) := by decide +kernel
theorem dX6_wanted_42 : decode cX6_wanted 42 = .ok (.iload 5, 2) := by decide +kernel
theorem dX6_wanted_44 : decode cX6_wanted 44 = .ok (.iaload, 1) := by decide +kernel
theorem dX6_wanted_45 : decode cX6_wanted 45 = .ok (.iload_n 3, 1) := by decide +kernel
theorem dX6_wanted_46 : decode cX6_wanted 46 = .ok (.if_icmp .ne 25, 3) := by decide +kernel
theorem dX6_wanted_49 : decode cX6_wanted 49 = .ok (.aload_n 0, 1) := by decide +kernel
theorem dX6_wanted_50 : decode cX6_wanted 50 = .ok (.getfield 36, 3) := by decide +kernel
theorem dX6_wanted_53 : decode cX6_wanted 53 = .ok (.iload 5, 2) := by decide +kernel
theorem dX6_wanted_55 : decode cX6_wanted 55 = .ok (.iaload, 1) := by decide +kernel
theorem dX6_wanted_56 : decode cX6_wanted 56 = .ok (.iload 4, 2) := by decide +kernel
theorem dX6_wanted_58 : decode cX6_wanted 58 = .ok (.if_icmp .ge 13, 3) := by decide +kernel
theorem dX6_wanted_61 : decode cX6_wanted 61 = .ok (.aload_n 0, 1) := by decide +kernel
theorem dX6_wanted_62 : decode cX6_wanted 62 = .ok (.getfield 36, 3) := by decide +kernel
theorem dX6_wanted_65 : decode cX6_wanted 65 = .ok (.iload 5, 2) := by decide +kernel
theorem dX6_wanted_67 : decode cX6_wanted 67 = .ok (.iaload, 1) := by decide +kernel
theorem dX6_wanted_68 : decode cX6_wanted 68 = .ok (.goto 5, 3) := by decide +kernel
theorem dX6_wanted_71 : decode cX6_wanted 71 = .ok (.iload 4, 2) := by decide +kernel
theorem dX6_wanted_73 : decode cX6_wanted 73 = .ok (.istore 4, 2) := by decide +kernel
theorem dX6_wanted_75 : decode cX6_wanted 75 = .ok (.iinc 5 1, 3) := by decide +kernel
theorem dX6_wanted_78 : decode cX6_wanted 78 = .ok (.goto (-59), 3) := by decide +kernel
theorem dX6_wanted_81 : decode cX6_wanted 81 = .ok (.aload_n 0, 1) := by decide +kernel
theorem dX6_wanted_82 : decode cX6_wanted 82 = .ok (.iload_n 3, 1) := by decide +kernel
theorem dX6_wanted_83 : decode cX6_wanted 83 = .ok (.invokevirtual 149, 3) := by decide +kernel
theorem dX6_wanted_86 : decode cX6_wanted 86 = .ok (.ifCond .eq 28, 3) := by decide +kernel
theorem dX6_wanted_89 : decode cX6_wanted 89 = .ok (.aload_n 0, 1) := by decide +kernel
theorem dX6_wanted_90 : decode cX6_wanted 90 = .ok (.getfield 20, 3) := by decide +kernel
theorem dX6_wanted_93 : decode cX6_wanted 93 = .ok (.iload_n 3, 1) := by decide +kernel
theorem dX6_wanted_94 : decode cX6_wanted 94 = .ok (.baload, 1) := by decide +kernel
theorem dX6_wanted_95 : decode cX6_wanted 95 = .ok (.ifCond .eq 19, 3) := by decide +kernel
theorem dX6_wanted_98 : decode cX6_wanted 98 = .ok (.iload_n 1, 1) := by decide +kernel
theorem dX6_wanted_99 : decode cX6_wanted 99 = .ok (.iconst (-1), 1) := by decide +kernel
theorem dX6_wanted_100 : decode cX6_wanted 100 = .ok (.if_icmp .eq 9, 3) := by decide +kernel
theorem dX6_wanted_103 : decode cX6_wanted 103 = .ok (.iload 4, 2) := by decide +kernel
theorem dX6_wanted_105 : decode cX6_wanted 105 = .ok (.iload_n 2, 1) := by decide +kernel
theorem dX6_wanted_106 : decode cX6_wanted 106 = .ok (.if_icmp .ge 8, 3) := by decide +kernel
theorem dX6_wanted_109 : decode cX6_wanted 109 = .ok (.iload_n 3, 1) := by decide +kernel
theorem dX6_wanted_110 : decode cX6_wanted 110 = .ok (.istore_n 1, 1) := by decide +kernel
theorem dX6_wanted_111 : decode cX6_wanted 111 = .ok (.iload 4, 2) := by decide +kernel
theorem dX6_wanted_113 : decode cX6_wanted 113 = .ok (.istore_n 2, 1) := by decide +kernel
theorem dX6_wanted_114 : decode cX6_wanted 114 = .ok (.iinc 3 1, 3) := by decide +kernel
theorem dX6_wanted_117 : decode cX6_wanted 117 = .ok (.goto (-111), 3) := by decide +kernel
theorem dX6_wanted_120 : decode cX6_wanted 120 = .ok (.iload_n 1, 1) := by decide +kernel
theorem dX6_wanted_121 : decode cX6_wanted 121 = .ok (.ireturn, 1) := by decide +kernel
set_option maxRecDepth 20000 in
theorem ggX6_begins_X6_isFree : GoodIn wsX6_begins wsX6_isFree := goodIn_r _ [14, 9, 15, 16, 17, 18, 19, 20, 21, 22, 23, 24, 25, 26, 27, 28, 29, 30, 31, 32, 33, 34, 35, 36, 37, 38, 39, 40, 41, 42] (by decide +kernel) (by decide +kernel)
set_option maxRecDepth 20000 in
theorem gX6_begins_X6_isFree : GoodIn wsX6_begins (wsV RX6 149 RX6 yX6_isFree wsX6_isFree) := goodIn_app (goodIn_of _ (by decide +kernel)) ggX6_begins_X6_isFree
theorem dX6_begins_0 : decode cX6_begins 0 = .ok (.iconst 0, 1) := by decide +kernel
theorem dX6_begins_1 : decode cX6_begins 1 = .ok (.istore_n 1, 1) := by decide +kernel
theorem dX6_begins_2 : decode cX6_begins 2 = .ok (.iload_n 1, 1) := by decide +kernel
theorem dX6_begins_3 : decode cX6_begins 3 = .ok (.aload_n 0, 1) := by decide +kernel
theorem dX6_begins_4 : decode cX6_begins 4 = .ok (.getfield 87, 3) := by decide +kernel
theorem dX6_begins_7 : decode cX6_begins 7 = .ok (.if_icmp .ge 42, 3) := by decide +kernel
theorem dX6_begins_10 : decode cX6_begins 10 = .ok (.aload_n 0, 1) := by decide +kernel
theorem dX6_begins_11 : decode cX6_begins 11 = .ok (.getfield 81, 3) := by decide +kernel
theorem dX6_begins_14 : decode cX6_begins 14 = .ok (.iload_n 1, 1) := by decide +kernel
theorem dX6_begins_15 : decode cX6_begins 15 = .ok (.aload_n 0, 1) := by decide +kernel
theorem dX6_begins_16 : decode cX6_begins 16 = .ok (.getfield 27, 3) := by decide +kernel
theorem dX6_begins_19 : decode cX6_begins 19 = .ok (.iload_n 1, 1) := by decide +kernel
theorem dX6_begins_20 : decode cX6_begins 20 = .ok (.iaload, 1) := by decide +kernel
theorem dX6_begins_21 : decode cX6_begins 21 = .ok (.ifCond .ne 16, 3) := by decide +kernel
theorem dX6_begins_24 : decode cX6_begins 24 = .ok (.aload_n 0, 1) := by decide +kernel
theorem dX6_begins_25 : decode cX6_begins 25 = .ok (.getfield 36, 3) := by decide +kernel
theorem dX6_begins_28 : decode cX6_begins 28 = .ok (.iload_n 1, 1) := by decide +kernel
theorem dX6_begins_29 : decode cX6_begins 29 = .ok (.iaload, 1) := by decide +kernel
theorem dX6_begins_30 : decode cX6_begins 30 = .ok (.aload_n 0, 1) := by decide +kernel
theorem dX6_begins_31 : decode cX6_begins 31 = .ok (.getfield 101, 3) := by decide +kernel
theorem dX6_begins_34 : decode cX6_begins 34 = .ok (.if_icmp .le 7, 3) := by decide +kernel
theorem dX6_begins_37 : decode cX6_begins 37 = .ok (.iconst 1, 1) := by decide +kernel
theorem dX6_begins_38 : decode cX6_begins 38 = .ok (.goto 4, 3) := by decide +kernel
theorem dX6_begins_41 : decode cX6_begins 41 = .ok (.iconst 0, 1) := by decide +kernel
theorem dX6_begins_42 : decode cX6_begins 42 = .ok (.bastore, 1) := by decide +kernel
theorem dX6_begins_43 : decode cX6_begins 43 = .ok (.iinc 1 1, 3) := by decide +kernel
theorem dX6_begins_46 : decode cX6_begins 46 = .ok (.goto (-44), 3) := by decide +kernel
theorem dX6_begins_49 : decode cX6_begins 49 = .ok (.iconst 0, 1) := by decide +kernel
theorem dX6_begins_50 : decode cX6_begins 50 = .ok (.istore_n 1, 1) := by decide +kernel
theorem dX6_begins_51 : decode cX6_begins 51 = .ok (.iload_n 1, 1) := by decide +kernel
theorem dX6_begins_52 : decode cX6_begins 52 = .ok (.iconst (-1), 1) := by decide +kernel
theorem dX6_begins_53 : decode cX6_begins 53 = .ok (.if_icmp .eq 205, 3) := by decide +kernel
theorem dX6_begins_56 : decode cX6_begins 56 = .ok (.iconst (-1), 1) := by decide +kernel
theorem dX6_begins_57 : decode cX6_begins 57 = .ok (.istore_n 1, 1) := by decide +kernel
theorem dX6_begins_58 : decode cX6_begins 58 = .ok (.iconst 0, 1) := by decide +kernel
theorem dX6_begins_59 : decode cX6_begins 59 = .ok (.istore_n 2, 1) := by decide +kernel
theorem dX6_begins_60 : decode cX6_begins 60 = .ok (.iload_n 2, 1) := by decide +kernel
theorem dX6_begins_61 : decode cX6_begins 61 = .ok (.aload_n 0, 1) := by decide +kernel
theorem dX6_begins_62 : decode cX6_begins 62 = .ok (.getfield 87, 3) := by decide +kernel
theorem dX6_begins_65 : decode cX6_begins 65 = .ok (.if_icmp .ge 44, 3) := by decide +kernel
theorem dX6_begins_68 : decode cX6_begins 68 = .ok (.aload_n 0, 1) := by decide +kernel
theorem dX6_begins_69 : decode cX6_begins 69 = .ok (.getfield 81, 3) := by decide +kernel
theorem dX6_begins_72 : decode cX6_begins 72 = .ok (.iload_n 2, 1) := by decide +kernel
theorem dX6_begins_73 : decode cX6_begins 73 = .ok (.baload, 1) := by decide +kernel
theorem dX6_begins_74 : decode cX6_begins 74 = .ok (.ifCond .ne 27, 3) := by decide +kernel
theorem dX6_begins_77 : decode cX6_begins 77 = .ok (.iload_n 1, 1) := by decide +kernel
theorem dX6_begins_78 : decode cX6_begins 78 = .ok (.iconst (-1), 1) := by decide +kernel
theorem dX6_begins_79 : decode cX6_begins 79 = .ok (.if_icmp .eq 18, 3) := by decide +kernel
theorem dX6_begins_82 : decode cX6_begins 82 = .ok (.aload_n 0, 1) := by decide +kernel
theorem dX6_begins_83 : decode cX6_begins 83 = .ok (.getfield 36, 3) := by decide +kernel
theorem dX6_begins_86 : decode cX6_begins 86 = .ok (.iload_n 2, 1) := by decide +kernel
theorem dX6_begins_87 : decode cX6_begins 87 = .ok (.iaload, 1) := by decide +kernel
theorem dX6_begins_88 : decode cX6_begins 88 = .ok (.aload_n 0, 1) := by decide +kernel
theorem dX6_begins_89 : decode cX6_begins 89 = .ok (.getfield 36, 3) := by decide +kernel
theorem dX6_begins_92 : decode cX6_begins 92 = .ok (.iload_n 1, 1) := by decide +kernel
theorem dX6_begins_93 : decode cX6_begins 93 = .ok (.iaload, 1) := by decide +kernel
theorem dX6_begins_94 : decode cX6_begins 94 = .ok (.if_icmp .ge 7, 3) := by decide +kernel
theorem dX6_begins_97 : decode cX6_begins 97 = .ok (.iload_n 2, 1) := by decide +kernel
theorem dX6_begins_98 : decode cX6_begins 98 = .ok (.goto 4, 3) := by decide +kernel
theorem dX6_begins_101 : decode cX6_begins 101 = .ok (.iload_n 1, 1) := by decide +kernel
theorem dX6_begins_102 : decode cX6_begins 102 = .ok (.istore_n 1, 1) := by decide +kernel
theorem dX6_begins_103 : decode cX6_begins 103 = .ok (.iinc 2 1, 3) := by decide +kernel
theorem dX6_begins_106 : decode cX6_begins 106 = .ok (.goto (-46), 3) := by decide +kernel
theorem dX6_begins_109 : decode cX6_begins 109 = .ok (.iload_n 1, 1) := by decide +kernel
theorem dX6_begins_110 : decode cX6_begins 110 = .ok (.iconst (-1), 1) := by decide +kernel
theorem dX6_begins_111 : decode cX6_begins 111 = .ok (.if_icmp .eq (-60), 3) := by decide +kernel
theorem dX6_begins_114 : decode cX6_begins 114 = .ok (.aload_n 0, 1) := by decide +kernel
theorem dX6_begins_115 : decode cX6_begins 115 = .ok (.getfield 81, 3) := by decide +kernel
theorem dX6_begins_118 : decode cX6_begins 118 = .ok (.iload_n 1, 1) := by decide +kernel
theorem dX6_begins_119 : decode cX6_begins 119 = .ok (.iconst 1, 1) := by decide +kernel
theorem dX6_begins_120 : decode cX6_begins 120 = .ok (.bastore, 1) := by decide +kernel
theorem dX6_begins_121 : decode cX6_begins 121 = .ok (.aload_n 0, 1) := by decide +kernel
theorem dX6_begins_122 : decode cX6_begins 122 = .ok (.aload_n 0, 1) := by decide +kernel
theorem dX6_begins_123 : decode cX6_begins 123 = .ok (.getfield 39, 3) := by decide +kernel
theorem dX6_begins_126 : decode cX6_begins 126 = .ok (.iload_n 1, 1) := by decide +kernel
theorem dX6_begins_127 : decode cX6_begins 127 = .ok (.iaload, 1) := by decide +kernel
theorem dX6_begins_128 : decode cX6_begins 128 = .ok (.invokevirtual 149, 3) := by decide +kernel
theorem dX6_begins_131 : decode cX6_begins 131 = .ok (.ifCond .eq 26, 3) := by decide +kernel
theorem dX6_begins_134 : decode cX6_begins 134 = .ok (.aload_n 0, 1) := by decide +kernel
theorem dX6_begins_135 : decode cX6_begins 135 = .ok (.getfield 20, 3) := by decide +kernel
theorem dX6_begins_138 : decode cX6_begins 138 = .ok (.aload_n 0, 1) := by decide +kernel
theorem dX6_begins_139 : decode cX6_begins 139 = .ok (.getfield 39, 3) := by decide +kernel
theorem dX6_begins_142 : decode cX6_begins 142 = .ok (.iload_n 1, 1) := by decide +kernel
theorem dX6_begins_143 : decode cX6_begins 143 = .ok (.iaload, 1) := by decide +kernel
theorem dX6_begins_144 : decode cX6_begins 144 = .ok (.baload, 1) := by decide +kernel
theorem dX6_begins_145 : decode cX6_begins 145 = .ok (.ifCond .ne 12, 3) := by decide +kernel
theorem dX6_begins_148 : decode cX6_begins 148 = .ok (.aload_n 0, 1) := by decide +kernel
theorem dX6_begins_149 : decode cX6_begins 149 = .ok (.getfield 39, 3) := by decide +kernel
theorem dX6_begins_152 : decode cX6_begins 152 = .ok (.iload_n 1, 1) := by decide +kernel
theorem dX6_begins_153 : decode cX6_begins 153 = .ok (.iaload, 1) := by decide +kernel
theorem dX6_begins_154 : decode cX6_begins 154 = .ok (.goto 4, 3) := by decide +kernel
theorem dX6_begins_157 : decode cX6_begins 157 = .ok (.iconst (-1), 1) := by decide +kernel
theorem dX6_begins_158 : decode cX6_begins 158 = .ok (.istore_n 2, 1) := by decide +kernel
theorem dX6_begins_159 : decode cX6_begins 159 = .ok (.iconst 2, 1) := by decide +kernel
theorem dX6_begins_160 : decode cX6_begins 160 = .ok (.istore_n 3, 1) := by decide +kernel
theorem dX6_begins_161 : decode cX6_begins 161 = .ok (.iload_n 3, 1) := by decide +kernel
theorem dX6_begins_162 : decode cX6_begins 162 = .ok (.ifCond .lt 47, 3) := by decide +kernel
theorem dX6_begins_165 : decode cX6_begins 165 = .ok (.iload_n 2, 1) := by decide +kernel
theorem dX6_begins_166 : decode cX6_begins 166 = .ok (.iconst (-1), 1) := by decide +kernel
theorem dX6_begins_167 : decode cX6_begins 167 = .ok (.if_icmp .eq 13, 3) := by decide +kernel
theorem dX6_begins_170 : decode cX6_begins 170 = .ok (.iload_n 2, 1) := by decide +kernel
theorem dX6_begins_171 : decode cX6_begins 171 = .ok (.aload_n 0, 1) := by decide +kernel
theorem dX6_begins_172 : decode cX6_begins 172 = .ok (.getfield 39, 3) := by decide +kernel
theorem dX6_begins_175 : decode cX6_begins 175 = .ok (.iload_n 1, 1) := by decide +kernel
theorem dX6_begins_176 : decode cX6_begins 176 = .ok (.iaload, 1) := by decide +kernel
theorem dX6_begins_177 : decode cX6_begins 177 = .ok (.if_icmp .eq 32, 3) := by decide +kernel
theorem dX6_begins_180 : decode cX6_begins 180 = .ok (.aload_n 0, 1) := by decide +kernel
theorem dX6_begins_181 : decode cX6_begins 181 = .ok (.iload_n 3, 1) := by decide +kernel
theorem dX6_begins_182 : decode cX6_begins 182 = .ok (.invokevirtual 149, 3) := by decide +kernel
theorem dX6_begins_185 : decode cX6_begins 185 = .ok (.ifCond .eq 16, 3) := by decide +kernel
theorem dX6_begins_188 : decode cX6_begins 188 = .ok (.aload_n 0, 1) := by decide +kernel
theorem dX6_begins_189 : decode cX6_begins 189 = .ok (.getfield 20, 3) := by decide +kernel
theorem dX6_begins_192 : decode cX6_begins 192 = .ok (.iload_n 3, 1) := by decide +kernel
theorem dX6_begins_193 : decode cX6_begins 193 = .ok (.baload, 1) := by decide +kernel
theorem dX6_begins_194 : decode cX6_begins 194 = .ok (.ifCond .ne 7, 3) := by decide +kernel
theorem dX6_begins_197 : decode cX6_begins 197 = .ok (.iload_n 3, 1) := by decide +kernel
theorem dX6_begins_198 : decode cX6_begins 198 = .ok (.goto 4, 3) := by decide +kernel
theorem dX6_begins_201 : decode cX6_begins 201 = .ok (.iload_n 2, 1) := by decide +kernel
theorem dX6_begins_202 : decode cX6_begins 202 = .ok (.istore_n 2, 1) := by decide +kernel
theorem dX6_begins_203 : decode cX6_begins 203 = .ok (.iinc 3 (-1), 3) := by decide +kernel
theorem dX6_begins_206 : decode cX6_begins 206 = .ok (.goto (-45), 3) := by decide +kernel
theorem dX6_begins_209 : decode cX6_begins 209 = .ok (.iload_n 2, 1) := by decide +kernel
theorem dX6_begins_210 : decode cX6_begins 210 = .ok (.iconst (-1), 1) := by decide +kernel
theorem dX6_begins_211 : decode cX6_begins 211 = .ok (.if_icmp .ne 16, 3) := by decide +kernel
theorem dX6_begins_214 : decode cX6_begins 214 = .ok (.aload_n 0, 1) := by decide +kernel
theorem dX6_begins_215 : decode cX6_begins 215 = .ok (.getfield 36, 3) := by decide +kernel
theorem dX6_begins_218 : decode cX6_begins 218 = .ok (.iload_n 1, 1) := by decide +kernel
theorem dX6_begins_219 : decode cX6_begins 219 = .ok (.dup2, 1) := by decide +kernel
theorem dX6_begins_220 : decode cX6_begins 220 = .ok (.iaload, 1) := by decide +kernel
theorem dX6_begins_221 : decode cX6_begins 221 = .ok (.iconst 1, 1) := by decide +kernel
theorem dX6_begins_222 : decode cX6_begins 222 = .ok (.iadd, 1) := by decide +kernel
theorem dX6_begins_223 : decode cX6_begins 223 = .ok (.iastore, 1) := by decide +kernel
theorem dX6_begins_224 : decode cX6_begins 224 = .ok (.goto 31, 3) := by decide +kernel
theorem dX6_begins_227 : decode cX6_begins 227 = .ok (.aload_n 0, 1) := by decide +kernel
theorem dX6_begins_228 : decode cX6_begins 228 = .ok (.getfield 27, 3) := by decide +kernel
theorem dX6_begins_231 : decode cX6_begins 231 = .ok (.iload_n 1, 1) := by decide +kernel
theorem dX6_begins_232 : decode cX6_begins 232 = .ok (.iconst 1, 1) := by decide +kernel
theorem dX6_begins_233 : decode cX6_begins 233 = .ok (.iastore, 1) := by decide +kernel
theorem dX6_begins_234 : decode cX6_begins 234 = .ok (.aload_n 0, 1) := by decide +kernel
theorem dX6_begins_235 : decode cX6_begins 235 = .ok (.getfield 42, 3) := by decide +kernel
theorem dX6_begins_238 : decode cX6_begins 238 = .ok (.iload_n 1, 1) := by decide +kernel
theorem dX6_begins_239 : decode cX6_begins 239 = .ok (.iload_n 2, 1) := by decide +kernel
theorem dX6_begins_240 : decode cX6_begins 240 = .ok (.iastore, 1) := by decide +kernel
theorem dX6_begins_241 : decode cX6_begins 241 = .ok (.aload_n 0, 1) := by decide +kernel
theorem dX6_begins_242 : decode cX6_begins 242 = .ok (.getfield 24, 3) := by decide +kernel
theorem dX6_begins_245 : decode cX6_begins 245 = .ok (.iload_n 2, 1) := by decide +kernel
theorem dX6_begins_246 : decode cX6_begins 246 = .ok (.iload_n 1, 1) := by decide +kernel
theorem dX6_begins_247 : decode cX6_begins 247 = .ok (.iastore, 1) := by decide +kernel
theorem dX6_begins_248 : decode cX6_begins 248 = .ok (.aload_n 0, 1) := by decide +kernel
theorem dX6_begins_249 : decode cX6_begins 249 = .ok (.getfield 20, 3) := by decide +kernel
theorem dX6_begins_252 : decode cX6_begins 252 = .ok (.iload_n 2, 1) := by decide +kernel
theorem dX6_begins_253 : decode cX6_begins 253 = .ok (.iconst 1, 1) := by decide +kernel
theorem dX6_begins_254 : decode cX6_begins 254 = .ok (.bastore, 1) := by decide +kernel
theorem dX6_begins_255 : decode cX6_begins 255 = .ok (.goto (-204), 3) := by decide +kernel
theorem dX6_begins_258 : decode cX6_begins 258 = .ok (.return_, 1) := by decide +kernel
set_option maxRecDepth 20000 in
theorem ggX6_passes_X6_wanted : GoodIn wsX6_passes wsX6_wanted := goodIn_r _ [11, 12, 13, 14, 15, 4, 16, 17, 18, 10, 19, 20, 27, 28, 29, 30, 31, 32, 33, 34, 35, 36, 37, 38, 39, 40, 41, 42, 43, 44, 45, 46, 47, 48, 49, 50, 51, 52, 53, 54] (by decide +kernel) (by decide +kernel)
set_option maxRecDepth 20000 in
theorem gX6_passes_X6_wanted : GoodIn wsX6_passes (wsV RX6 155 RX6 yX6_wanted wsX6_wanted) := goodIn_app (goodIn_of _ (by decide +kernel)) ggX6_passes_X6_wanted
set_option maxRecDepth 20000 in
theorem ggX6_passes_X6_begins : GoodIn wsX6_passes wsX6_begins := goodIn_r _ [24, 12, 25, 13, 15, 1, 14, 4, 26, 20, 16, 17, 18, 10, 19, 27, 28, 29, 30, 31, 32, 33, 34, 35, 36, 37, 38, 39, 40, 41, 42, 43, 44, 45, 46, 47, 48, 49, 50, 51, 52, 53, 54] (by decide +kernel) (by decide +kernel)
set_option maxRecDepth 20000 in
theorem gX6_passes_X6_begins : GoodIn wsX6_passes (wsV RX6 158 RX6 yX6_begins wsX6_begins) := goodIn_app (goodIn_of _ (by decide +kernel)) ggX6_passes_X6_begins
theorem dX6_passes_0 : decode cX6_passes 0 = .ok (.aload_n 0, 1) := by decide +kernel
theorem dX6_passes_1 : decode cX6_passes 1 = .ok (.dup, 1) := by decide +kernel
theorem dX6_passes_2 : decode cX6_passes 2 = .ok (.getfield 101, 3) := by decide +kernel
theorem dX6_passes_5 : decode cX6_passes 5 = .ok (.iconst 1, 1) := by decide +kernel
theorem dX6_passes_6 : decode cX6_passes 6 = .ok (.iadd, 1) := by decide +kernel
theorem dX6_passes_7 : decode cX6_passes 7 = .ok (.putfield 101, 3) := by decide +kernel
theorem dX6_passes_10 : decode cX6_passes 10 = .ok (.aload_n 0, 1) := by decide +kernel
theorem dX6_passes_11 : decode cX6_passes 11 = .ok (.getfield 13, 3) := by decide +kernel
theorem dX6_passes_14 : decode cX6_passes 14 = .ok (.iconst (-1), 1) := by decide +kernel
theorem dX6_passes_15 : decode cX6_passes 15 = .ok (.if_icmp .eq 66, 3) := by decide +kernel
theorem dX6_passes_18 : decode cX6_passes 18 = .ok (.aload_n 0, 1) := by decide +kernel
theorem dX6_passes_19 : decode cX6_passes 19 = .ok (.dup, 1) := by decide +kernel
theorem dX6_passes_20 : decode cX6_passes 20 = .ok (.getfield 152, 3) := by decide +kernel
theorem dX6_passes_23 : decode cX6_passes 23 = .ok (.iconst 1, 1) := by decide +kernel
theorem dX6_passes_24 : decode cX6_passes 24 = .ok (.isub, 1) := by decide +kernel
theorem dX6_passes_25 : decode cX6_passes 25 = .ok (.putfield 152, 3) := by decide +kernel
theorem dX6_passes_28 : decode cX6_passes 28 = .ok (.aload_n 0, 1) := by decide +kernel
theorem dX6_passes_29 : decode cX6_passes 29 = .ok (.getfield 152, 3) := by decide +kernel
theorem dX6_passes_32 : decode cX6_passes 32 = .ok (.ifCond .ne 49, 3) := by decide +kernel
theorem dX6_passes_35 : decode cX6_passes 35 = .ok (.aload_n 0, 1) := by decide +kernel
theorem dX6_passes_36 : decode cX6_passes 36 = .ok (.getfield 20, 3) := by decide +kernel
theorem dX6_passes_39 : decode cX6_passes 39 = .ok (.aload_n 0, 1) := by decide +kernel
theorem dX6_passes_40 : decode cX6_passes 40 = .ok (.getfield 13, 3) := by decide +kernel
theorem dX6_passes_43 : decode cX6_passes 43 = .ok (.iconst 0, 1) := by decide +kernel
theorem dX6_passes_44 : decode cX6_passes 44 = .ok (.bastore, 1) := by decide +kernel
theorem dX6_passes_45 : decode cX6_passes 45 = .ok (.iconst 0, 1) := by decide +kernel
theorem dX6_passes_46 : decode cX6_passes 46 = .ok (.istore_n 1, 1) := by decide +kernel
theorem dX6_passes_47 : decode cX6_passes 47 = .ok (.iload_n 1, 1) := by decide +kernel
theorem dX6_passes_48 : decode cX6_passes 48 = .ok (.sipush 549, 3) := by decide +kernel
theorem dX6_passes_51 : decode cX6_passes 51 = .ok (.if_icmp .ge 25, 3) := by decide +kernel
theorem dX6_passes_54 : decode cX6_passes 54 = .ok (.aload_n 0, 1) := by decide +kernel
theorem dX6_passes_55 : decode cX6_passes 55 = .ok (.getfield 16, 3) := by decide +kernel
theorem dX6_passes_58 : decode cX6_passes 58 = .ok (.sipush 549, 3) := by decide +kernel
theorem dX6_passes_61 : decode cX6_passes 61 = .ok (.aload_n 0, 1) := by decide +kernel
theorem dX6_passes_62 : decode cX6_passes 62 = .ok (.getfield 13, 3) := by decide +kernel
theorem dX6_passes_65 : decode cX6_passes 65 = .ok (.imul, 1) := by decide +kernel
theorem dX6_passes_66 : decode cX6_passes 66 = .ok (.iload_n 1, 1) := by decide +kernel
theorem dX6_passes_67 : decode cX6_passes 67 = .ok (.iadd, 1) := by decide +kernel
theorem dX6_passes_68 : decode cX6_passes 68 = .ok (.iconst 0, 1) := by decide +kernel
theorem dX6_passes_69 : decode cX6_passes 69 = .ok (.iastore, 1) := by decide +kernel
theorem dX6_passes_70 : decode cX6_passes 70 = .ok (.iinc 1 1, 3) := by decide +kernel
theorem dX6_passes_73 : decode cX6_passes 73 = .ok (.goto (-26), 3) := by decide +kernel
theorem dX6_passes_76 : decode cX6_passes 76 = .ok (.aload_n 0, 1) := by decide +kernel
theorem dX6_passes_77 : decode cX6_passes 77 = .ok (.iconst (-1), 1) := by decide +kernel
theorem dX6_passes_78 : decode cX6_passes 78 = .ok (.putfield 13, 3) := by decide +kernel
theorem dX6_passes_81 : decode cX6_passes 81 = .ok (.aload_n 0, 1) := by decide +kernel
theorem dX6_passes_82 : decode cX6_passes 82 = .ok (.getfield 13, 3) := by decide +kernel
theorem dX6_passes_85 : decode cX6_passes 85 = .ok (.iconst (-1), 1) := by decide +kernel
theorem dX6_passes_86 : decode cX6_passes 86 = .ok (.if_icmp .ne 19, 3) := by decide +kernel
theorem dX6_passes_89 : decode cX6_passes 89 = .ok (.aload_n 0, 1) := by decide +kernel
theorem dX6_passes_90 : decode cX6_passes 90 = .ok (.aload_n 0, 1) := by decide +kernel
theorem dX6_passes_91 : decode cX6_passes 91 = .ok (.invokevirtual 155, 3) := by decide +kernel
theorem dX6_passes_94 : decode cX6_passes 94 = .ok (.putfield 13, 3) := by decide +kernel
theorem dX6_passes_97 : decode cX6_passes 97 = .ok (.aload_n 0, 1) := by decide +kernel
theorem dX6_passes_98 : decode cX6_passes 98 = .ok (.aload_n 0, 1) := by decide +kernel
theorem dX6_passes_99 : decode cX6_passes 99 = .ok (.getfield 7, 3) := by decide +kernel
theorem dX6_passes_102 : decode cX6_passes 102 = .ok (.putfield 152, 3) := by decide +kernel
theorem dX6_passes_105 : decode cX6_passes 105 = .ok (.aload_n 0, 1) := by decide +kernel
theorem dX6_passes_106 : decode cX6_passes 106 = .ok (.invokevirtual 158, 3) := by decide +kernel
theorem dX6_passes_109 : decode cX6_passes 109 = .ok (.return_, 1) := by decide +kernel
set_option maxRecDepth 20000 in
theorem ggX6_pass_X6_in : GoodIn wsX6_pass wsX6_in := goodIn_r _ [5] (by decide +kernel) (by decide +kernel)
set_option maxRecDepth 20000 in
theorem gX6_pass_X6_in : GoodIn wsX6_pass (va_wsS RX6 90 yX6_in wsX6_in) := goodIn_app (goodIn_of _ (by decide +kernel)) ggX6_pass_X6_in
set_option maxRecDepth 20000 in
theorem ggX6_pass_X6_asked_ : GoodIn wsX6_pass wsX6_asked_ := goodIn_r _ [9, 10, 39, 40, 41, 42, 43, 44, 45, 46, 47, 48, 49, 50, 51, 52, 53, 54, 55, 56, 57, 58, 59, 60, 61, 62, 63, 64, 65, 66] (by decide +kernel) (by decide +kernel)
set_option maxRecDepth 20000 in
theorem gX6_pass_X6_asked_ : GoodIn wsX6_pass (wsV RX6 161 RX6 yX6_asked_ wsX6_asked_) := goodIn_app (goodIn_of _ (by decide +kernel)) ggX6_pass_X6_asked_
set_option maxRecDepth 20000 in
theorem ggX6_pass_X6_passes : GoodIn wsX6_pass wsX6_passes := goodIn_r _ [14, 1, 15, 16, 17, 18, 19, 20, 21, 22, 4, 23, 24, 25, 26, 27, 28, 29, 30, 31, 32, 33, 34, 35, 36, 37, 38, 39, 40, 41, 42, 43, 44, 45, 46, 47, 48, 49, 50, 51, 52, 53, 54, 55, 56, 57, 58, 59, 60, 61, 62, 63, 64, 65, 66] (by decide +kernel) (by decide +kernel)
set_option maxRecDepth 20000 in
theorem gX6_pass_X6_passes : GoodIn wsX6_pass (wsV RX6 164 RX6 yX6_passes wsX6_passes) := goodIn_app (goodIn_of _ (by decide +kernel)) ggX6_pass_X6_passes
theorem dX6_pass_0 : decode cX6_pass 0 = .ok (.iload_n 1, 1) := by decide +kernel
theorem dX6_pass_1 : decode cX6_pass 1 = .ok (.iconst 1, 1) := by decide +kernel
theorem dX6_pass_2 : decode cX6_pass 2 = .ok (.bipush 48, 2) := by decide +kernel
theorem dX6_pass_4 : decode cX6_pass 4 = .ok (.invokestatic 90, 3) := by decide +kernel
theorem dX6_pass_7 : decode cX6_pass 7 = .ok (.istore_n 2, 1) := by decide +kernel
theorem dX6_pass_8 : decode cX6_pass 8 = .ok (.aload_n 0, 1) := by decide +kernel
theorem dX6_pass_9 : decode cX6_pass 9 = .ok (.iload_n 2, 1) := by decide +kernel
theorem dX6_pass_10 : decode cX6_pass 10 = .ok (.iload_n 2, 1) := by decide +kernel
theorem dX6_pass_11 : decode cX6_pass 11 = .ok (.ifCond .eq 19, 3) := by decide +kernel
theorem dX6_pass_14 : decode cX6_pass 14 = .ok (.aload_n 0, 1) := by decide +kernel
theorem dX6_pass_15 : decode cX6_pass 15 = .ok (.getfield 101, 3) := by decide +kernel
theorem dX6_pass_18 : decode cX6_pass 18 = .ok (.iload_n 1, 1) := by decide +kernel
theorem dX6_pass_19 : decode cX6_pass 19 = .ok (.iadd, 1) := by decide +kernel
theorem dX6_pass_20 : decode cX6_pass 20 = .ok (.sipush 9999, 3) := by decide +kernel
theorem dX6_pass_23 : decode cX6_pass 23 = .ok (.if_icmp .gt 7, 3) := by decide +kernel
theorem dX6_pass_26 : decode cX6_pass 26 = .ok (.iconst 1, 1) := by decide +kernel
theorem dX6_pass_27 : decode cX6_pass 27 = .ok (.goto 4, 3) := by decide +kernel
theorem dX6_pass_30 : decode cX6_pass 30 = .ok (.iconst 0, 1) := by decide +kernel
theorem dX6_pass_31 : decode cX6_pass 31 = .ok (.invokevirtual 161, 3) := by decide +kernel
theorem dX6_pass_34 : decode cX6_pass 34 = .ok (.ifCond .ne 5, 3) := by decide +kernel
theorem dX6_pass_37 : decode cX6_pass 37 = .ok (.iconst 0, 1) := by decide +kernel
theorem dX6_pass_38 : decode cX6_pass 38 = .ok (.ireturn, 1) := by decide +kernel
theorem dX6_pass_39 : decode cX6_pass 39 = .ok (.iconst 0, 1) := by decide +kernel
theorem dX6_pass_40 : decode cX6_pass 40 = .ok (.istore_n 3, 1) := by decide +kernel
theorem dX6_pass_41 : decode cX6_pass 41 = .ok (.iload_n 3, 1) := by decide +kernel
theorem dX6_pass_42 : decode cX6_pass 42 = .ok (.iload_n 1, 1) := by decide +kernel
theorem dX6_pass_43 : decode cX6_pass 43 = .ok (.if_icmp .ge 13, 3) := by decide +kernel
theorem dX6_pass_46 : decode cX6_pass 46 = .ok (.aload_n 0, 1) := by decide +kernel
theorem dX6_pass_47 : decode cX6_pass 47 = .ok (.invokevirtual 164, 3) := by decide +kernel
theorem dX6_pass_50 : decode cX6_pass 50 = .ok (.iinc 3 1, 3) := by decide +kernel
theorem dX6_pass_53 : decode cX6_pass 53 = .ok (.goto (-12), 3) := by decide +kernel
theorem dX6_pass_56 : decode cX6_pass 56 = .ok (.aload_n 0, 1) := by decide +kernel
theorem dX6_pass_57 : decode cX6_pass 57 = .ok (.getfield 101, 3) := by decide +kernel
theorem dX6_pass_60 : decode cX6_pass 60 = .ok (.ireturn, 1) := by decide +kernel
theorem dX6_hour_0 : decode cX6_hour 0 = .ok (.aload_n 0, 1) := by decide +kernel
theorem dX6_hour_1 : decode cX6_hour 1 = .ok (.iconst 0, 1) := by decide +kernel
theorem dX6_hour_2 : decode cX6_hour 2 = .ok (.putfield 84, 3) := by decide +kernel
theorem dX6_hour_5 : decode cX6_hour 5 = .ok (.aload_n 0, 1) := by decide +kernel
theorem dX6_hour_6 : decode cX6_hour 6 = .ok (.getfield 101, 3) := by decide +kernel
theorem dX6_hour_9 : decode cX6_hour 9 = .ok (.ireturn, 1) := by decide +kernel
set_option maxRecDepth 20000 in
theorem ggX6_ofSheet_X6_isSheet : GoodIn wsX6_ofSheet wsX6_isSheet := goodIn_r _ [9, 10, 11, 8, 12] (by decide +kernel) (by decide +kernel)
set_option maxRecDepth 20000 in
theorem gX6_ofSheet_X6_isSheet : GoodIn wsX6_ofSheet (va_wsS RX6 98 yX6_isSheet wsX6_isSheet) := goodIn_app (goodIn_of _ (by decide +kernel)) ggX6_ofSheet_X6_isSheet
set_option maxRecDepth 20000 in
theorem ggX6_ofSheet_X6_in : GoodIn wsX6_ofSheet wsX6_in := goodIn_r _ [12] (by decide +kernel) (by decide +kernel)
set_option maxRecDepth 20000 in
theorem gX6_ofSheet_X6_in : GoodIn wsX6_ofSheet (va_wsS RX6 90 yX6_in wsX6_in) := goodIn_app (goodIn_of _ (by decide +kernel)) ggX6_ofSheet_X6_in
set_option maxRecDepth 20000 in
theorem ggX6_ofSheet_X6_asked_ : GoodIn wsX6_ofSheet wsX6_asked_ := goodIn_r _ [16, 17, 18, 19, 20, 21, 22, 23, 24, 25, 26, 27, 28, 29, 30, 31, 32, 33, 34, 35, 36, 37, 38, 39, 40, 41, 42, 43, 44, 45] (by decide +kernel) (by decide +kernel)
set_option maxRecDepth 20000 in
theorem gX6_ofSheet_X6_asked_ : GoodIn wsX6_ofSheet (wsV RX6 161 RX6 yX6_asked_ wsX6_asked_) := goodIn_app (goodIn_of _ (by decide +kernel)) ggX6_ofSheet_X6_asked_
theorem dX6_ofSheet_0 : decode cX6_ofSheet 0 = .ok (.aload_n 0, 1) := by decide +kernel
theorem dX6_ofSheet_1 : decode cX6_ofSheet 1 = .ok (.iload_n 1, 1) := by decide +kernel
theorem dX6_ofSheet_2 : decode cX6_ofSheet 2 = .ok (.invokestatic 98, 3) := by decide +kernel
theorem dX6_ofSheet_5 : decode cX6_ofSheet 5 = .ok (.iload_n 2, 1) := by decide +kernel
theorem dX6_ofSheet_6 : decode cX6_ofSheet 6 = .ok (.iconst 0, 1) := by decide +kernel
theorem dX6_ofSheet_7 : decode cX6_ofSheet 7 = .ok (.iconst 3, 1) := by decide +kernel
theorem dX6_ofSheet_8 : decode cX6_ofSheet 8 = .ok (.invokestatic 90, 3) := by decide +kernel
theorem dX6_ofSheet_11 : decode cX6_ofSheet 11 = .ok (.invokevirtual 161, 3) := by decide +kernel
theorem dX6_ofSheet_14 : decode cX6_ofSheet 14 = .ok (.ifCond .ne 5, 3) := by decide +kernel
theorem dX6_ofSheet_17 : decode cX6_ofSheet 17 = .ok (.iconst 0, 1) := by decide +kernel
theorem dX6_ofSheet_18 : decode cX6_ofSheet 18 = .ok (.ireturn, 1) := by decide +kernel
theorem dX6_ofSheet_19 : decode cX6_ofSheet 19 = .ok (.iconst 0, 1) := by decide +kernel
theorem dX6_ofSheet_20 : decode cX6_ofSheet 20 = .ok (.istore_n 3, 1) := by decide +kernel
theorem dX6_ofSheet_21 : decode cX6_ofSheet 21 = .ok (.iconst 0, 1) := by decide +kernel
theorem dX6_ofSheet_22 : decode cX6_ofSheet 22 = .ok (.istore 4, 2) := by decide +kernel
theorem dX6_ofSheet_24 : decode cX6_ofSheet 24 = .ok (.iload 4, 2) := by decide +kernel
theorem dX6_ofSheet_26 : decode cX6_ofSheet 26 = .ok (.sipush 549, 3) := by decide +kernel
theorem dX6_ofSheet_29 : decode cX6_ofSheet 29 = .ok (.if_icmp .ge 25, 3) := by decide +kernel
theorem dX6_ofSheet_32 : decode cX6_ofSheet 32 = .ok (.iload_n 3, 1) := by decide +kernel
theorem dX6_ofSheet_33 : decode cX6_ofSheet 33 = .ok (.aload_n 0, 1) := by decide +kernel
theorem dX6_ofSheet_34 : decode cX6_ofSheet 34 = .ok (.getfield 16, 3) := by decide +kernel
theorem dX6_ofSheet_37 : decode cX6_ofSheet 37 = .ok (.sipush 549, 3) := by decide +kernel
theorem dX6_ofSheet_40 : decode cX6_ofSheet 40 = .ok (.iload_n 1, 1) := by decide +kernel
theorem dX6_ofSheet_41 : decode cX6_ofSheet 41 = .ok (.imul, 1) := by decide +kernel
theorem dX6_ofSheet_42 : decode cX6_ofSheet 42 = .ok (.iload 4, 2) := by decide +kernel
theorem dX6_ofSheet_44 : decode cX6_ofSheet 44 = .ok (.iadd, 1) := by decide +kernel
theorem dX6_ofSheet_45 : decode cX6_ofSheet 45 = .ok (.iaload, 1) := by decide +kernel
theorem dX6_ofSheet_46 : decode cX6_ofSheet 46 = .ok (.iadd, 1) := by decide +kernel
theorem dX6_ofSheet_47 : decode cX6_ofSheet 47 = .ok (.istore_n 3, 1) := by decide +kernel
theorem dX6_ofSheet_48 : decode cX6_ofSheet 48 = .ok (.iinc 4 1, 3) := by decide +kernel
theorem dX6_ofSheet_51 : decode cX6_ofSheet 51 = .ok (.goto (-27), 3) := by decide +kernel
theorem dX6_ofSheet_54 : decode cX6_ofSheet 54 = .ok (.iload_n 2, 1) := by decide +kernel
theorem dX6_ofSheet_55 : decode cX6_ofSheet 55 = .ok (.ifCond .ne 20, 3) := by decide +kernel
theorem dX6_ofSheet_58 : decode cX6_ofSheet 58 = .ok (.aload_n 0, 1) := by decide +kernel
theorem dX6_ofSheet_59 : decode cX6_ofSheet 59 = .ok (.getfield 20, 3) := by decide +kernel
theorem dX6_ofSheet_62 : decode cX6_ofSheet 62 = .ok (.iload_n 1, 1) := by decide +kernel
theorem dX6_ofSheet_63 : decode cX6_ofSheet 63 = .ok (.baload, 1) := by decide +kernel
theorem dX6_ofSheet_64 : decode cX6_ofSheet 64 = .ok (.ifCond .eq 7, 3) := by decide +kernel
theorem dX6_ofSheet_67 : decode cX6_ofSheet 67 = .ok (.iconst 0, 1) := by decide +kernel
theorem dX6_ofSheet_68 : decode cX6_ofSheet 68 = .ok (.goto 46, 3) := by decide +kernel
theorem dX6_ofSheet_71 : decode cX6_ofSheet 71 = .ok (.iconst 1, 1) := by decide +kernel
theorem dX6_ofSheet_72 : decode cX6_ofSheet 72 = .ok (.goto 42, 3) := by decide +kernel
theorem dX6_ofSheet_75 : decode cX6_ofSheet 75 = .ok (.iload_n 2, 1) := by decide +kernel
theorem dX6_ofSheet_76 : decode cX6_ofSheet 76 = .ok (.iconst 1, 1) := by decide +kernel
theorem dX6_ofSheet_77 : decode cX6_ofSheet 77 = .ok (.if_icmp .ne 12, 3) := by decide +kernel
theorem dX6_ofSheet_80 : decode cX6_ofSheet 80 = .ok (.aload_n 0, 1) := by decide +kernel
theorem dX6_ofSheet_81 : decode cX6_ofSheet 81 = .ok (.getfield 24, 3) := by decide +kernel
theorem dX6_ofSheet_84 : decode cX6_ofSheet 84 = .ok (.iload_n 1, 1) := by decide +kernel
theorem dX6_ofSheet_85 : decode cX6_ofSheet 85 = .ok (.iaload, 1) := by decide +kernel
theorem dX6_ofSheet_86 : decode cX6_ofSheet 86 = .ok (.goto 28, 3) := by decide +kernel
theorem dX6_ofSheet_89 : decode cX6_ofSheet 89 = .ok (.iload_n 2, 1) := by decide +kernel
theorem dX6_ofSheet_90 : decode cX6_ofSheet 90 = .ok (.iconst 2, 1) := by decide +kernel
theorem dX6_ofSheet_91 : decode cX6_ofSheet 91 = .ok (.if_icmp .ne 7, 3) := by decide +kernel
theorem dX6_ofSheet_94 : decode cX6_ofSheet 94 = .ok (.iload_n 3, 1) := by decide +kernel
theorem dX6_ofSheet_95 : decode cX6_ofSheet 95 = .ok (.goto 19, 3) := by decide +kernel
theorem dX6_ofSheet_98 : decode cX6_ofSheet 98 = .ok (.aload_n 0, 1) := by decide +kernel
theorem dX6_ofSheet_99 : decode cX6_ofSheet 99 = .ok (.getfield 13, 3) := by decide +kernel
theorem dX6_ofSheet_102 : decode cX6_ofSheet 102 = .ok (.iload_n 1, 1) := by decide +kernel
theorem dX6_ofSheet_103 : decode cX6_ofSheet 103 = .ok (.if_icmp .ne 10, 3) := by decide +kernel
theorem dX6_ofSheet_106 : decode cX6_ofSheet 106 = .ok (.aload_n 0, 1) := by decide +kernel
theorem dX6_ofSheet_107 : decode cX6_ofSheet 107 = .ok (.getfield 152, 3) := by decide +kernel
theorem dX6_ofSheet_110 : decode cX6_ofSheet 110 = .ok (.goto 4, 3) := by decide +kernel
theorem dX6_ofSheet_113 : decode cX6_ofSheet 113 = .ok (.iconst 0, 1) := by decide +kernel
theorem dX6_ofSheet_114 : decode cX6_ofSheet 114 = .ok (.ireturn, 1) := by decide +kernel
set_option maxRecDepth 20000 in
theorem ggX6_wear_X6_isSheet : GoodIn wsX6_wear wsX6_isSheet := goodIn_r _ [5, 6, 7, 4, 8] (by decide +kernel) (by decide +kernel)
set_option maxRecDepth 20000 in
theorem gX6_wear_X6_isSheet : GoodIn wsX6_wear (va_wsS RX6 98 yX6_isSheet wsX6_isSheet) := goodIn_app (goodIn_of _ (by decide +kernel)) ggX6_wear_X6_isSheet
set_option maxRecDepth 20000 in
theorem ggX6_wear_X6_in : GoodIn wsX6_wear wsX6_in := goodIn_r _ [8] (by decide +kernel) (by decide +kernel)
set_option maxRecDepth 20000 in
theorem gX6_wear_X6_in : GoodIn wsX6_wear (va_wsS RX6 90 yX6_in wsX6_in) := goodIn_app (goodIn_of _ (by decide +kernel)) ggX6_wear_X6_in
set_option maxRecDepth 20000 in
theorem ggX6_wear_X6_asked : GoodIn wsX6_wear wsX6_asked := goodIn_r _ [12, 13, 14, 15, 16, 17, 18, 19, 20, 21, 22, 23, 24, 25, 26, 27, 28, 29, 30, 31, 32, 33, 34, 35, 36, 37, 38, 39, 40, 41] (by decide +kernel) (by decide +kernel)
set_option maxRecDepth 20000 in
theorem gX6_wear_X6_asked : GoodIn wsX6_wear (wsV RX6 108 RX6 yX6_asked wsX6_asked) := goodIn_app (goodIn_of _ (by decide +kernel)) ggX6_wear_X6_asked
theorem dX6_wear_0 : decode cX6_wear 0 = .ok (.aload_n 0, 1) := by decide +kernel
theorem dX6_wear_1 : decode cX6_wear 1 = .ok (.iload_n 1, 1) := by decide +kernel
theorem dX6_wear_2 : decode cX6_wear 2 = .ok (.invokestatic 98, 3) := by decide +kernel
theorem dX6_wear_5 : decode cX6_wear 5 = .ok (.ifCond .eq 27, 3) := by decide +kernel
theorem dX6_wear_8 : decode cX6_wear 8 = .ok (.iload_n 2, 1) := by decide +kernel
theorem dX6_wear_9 : decode cX6_wear 9 = .ok (.iconst 0, 1) := by decide +kernel
theorem dX6_wear_10 : decode cX6_wear 10 = .ok (.bipush 8, 2) := by decide +kernel
theorem dX6_wear_12 : decode cX6_wear 12 = .ok (.invokestatic 90, 3) := by decide +kernel
theorem dX6_wear_15 : decode cX6_wear 15 = .ok (.ifCond .eq 17, 3) := by decide +kernel
theorem dX6_wear_18 : decode cX6_wear 18 = .ok (.iload_n 3, 1) := by decide +kernel
theorem dX6_wear_19 : decode cX6_wear 19 = .ok (.iconst 0, 1) := by decide +kernel
theorem dX6_wear_20 : decode cX6_wear 20 = .ok (.bipush 60, 2) := by decide +kernel
theorem dX6_wear_22 : decode cX6_wear 22 = .ok (.invokestatic 90, 3) := by decide +kernel
theorem dX6_wear_25 : decode cX6_wear 25 = .ok (.ifCond .eq 7, 3) := by decide +kernel
theorem dX6_wear_28 : decode cX6_wear 28 = .ok (.iconst 1, 1) := by decide +kernel
theorem dX6_wear_29 : decode cX6_wear 29 = .ok (.goto 4, 3) := by decide +kernel
theorem dX6_wear_32 : decode cX6_wear 32 = .ok (.iconst 0, 1) := by decide +kernel
theorem dX6_wear_33 : decode cX6_wear 33 = .ok (.invokevirtual 108, 3) := by decide +kernel
theorem dX6_wear_36 : decode cX6_wear 36 = .ok (.ifCond .eq 23, 3) := by decide +kernel
theorem dX6_wear_39 : decode cX6_wear 39 = .ok (.aload_n 0, 1) := by decide +kernel
theorem dX6_wear_40 : decode cX6_wear 40 = .ok (.getfield 16, 3) := by decide +kernel
theorem dX6_wear_43 : decode cX6_wear 43 = .ok (.sipush 549, 3) := by decide +kernel
theorem dX6_wear_46 : decode cX6_wear 46 = .ok (.iload_n 1, 1) := by decide +kernel
theorem dX6_wear_47 : decode cX6_wear 47 = .ok (.imul, 1) := by decide +kernel
theorem dX6_wear_48 : decode cX6_wear 48 = .ok (.bipush 61, 2) := by decide +kernel
theorem dX6_wear_50 : decode cX6_wear 50 = .ok (.iload_n 2, 1) := by decide +kernel
theorem dX6_wear_51 : decode cX6_wear 51 = .ok (.imul, 1) := by decide +kernel
theorem dX6_wear_52 : decode cX6_wear 52 = .ok (.iadd, 1) := by decide +kernel
theorem dX6_wear_53 : decode cX6_wear 53 = .ok (.iload_n 3, 1) := by decide +kernel
theorem dX6_wear_54 : decode cX6_wear 54 = .ok (.iadd, 1) := by decide +kernel
theorem dX6_wear_55 : decode cX6_wear 55 = .ok (.iaload, 1) := by decide +kernel
theorem dX6_wear_56 : decode cX6_wear 56 = .ok (.goto 4, 3) := by decide +kernel
theorem dX6_wear_59 : decode cX6_wear 59 = .ok (.iconst 0, 1) := by decide +kernel
theorem dX6_wear_60 : decode cX6_wear 60 = .ok (.ireturn, 1) := by decide +kernel
set_option maxRecDepth 20000 in
theorem ggX6_ofGame_X6_isGame : GoodIn wsX6_ofGame wsX6_isGame := goodIn_r _ [11, 12, 13, 14, 10, 15, 26, 27, 28, 29, 30, 31, 32, 33, 34, 35, 36, 37, 38, 39, 40, 41, 42, 43, 44, 45, 46, 47, 48, 49, 50, 51, 52, 53] (by decide +kernel) (by decide +kernel)
set_option maxRecDepth 20000 in
theorem gX6_ofGame_X6_isGame : GoodIn wsX6_ofGame (wsV RX6 126 RX6 yX6_isGame wsX6_isGame) := goodIn_app (goodIn_of _ (by decide +kernel)) ggX6_ofGame_X6_isGame
set_option maxRecDepth 20000 in
theorem ggX6_ofGame_X6_in : GoodIn wsX6_ofGame wsX6_in := goodIn_r _ [15] (by decide +kernel) (by decide +kernel)
set_option maxRecDepth 20000 in
theorem gX6_ofGame_X6_in : GoodIn wsX6_ofGame (va_wsS RX6 90 yX6_in wsX6_in) := goodIn_app (goodIn_of _ (by decide +kernel)) ggX6_ofGame_X6_in
set_option maxRecDepth 20000 in
theorem ggX6_ofGame_X6_asked_ : GoodIn wsX6_ofGame wsX6_asked_ := goodIn_r _ [19, 20, 26, 27, 28, 29, 30, 31, 32, 33, 34, 35, 36, 37, 38, 39, 40, 41, 42, 43, 44, 45, 46, 47, 48, 49, 50, 51, 52, 53] (by decide +kernel) (by decide +kernel)
set_option maxRecDepth 20000 in
theorem gX6_ofGame_X6_asked_ : GoodIn wsX6_ofGame (wsV RX6 161 RX6 yX6_asked_ wsX6_asked_) := goodIn_app (goodIn_of _ (by decide +kernel)) ggX6_ofGame_X6_asked_
set_option maxRecDepth 20000 in
theorem ggX6_ofGame_X6_turnOf : GoodIn wsX6_ofGame wsX6_turnOf := goodIn_r _ [24, 25, 1, 6, 26, 27, 28, 29, 30, 31, 32, 33, 34, 35, 36, 37, 38, 39, 40, 41, 42, 43, 44, 45, 46, 47, 48, 49, 50, 51, 52, 53] (by decide +kernel) (by decide +kernel)
set_option maxRecDepth 20000 in
theorem gX6_ofGame_X6_turnOf : GoodIn wsX6_ofGame (wsV RX6 119 RX6 yX6_turnOf wsX6_turnOf) := goodIn_app (goodIn_of _ (by decide +kernel)) ggX6_ofGame_X6_turnOf
theorem dX6_ofGame_0 : decode cX6_ofGame 0 = .ok (.aload_n 0, 1) := by decide +kernel
theorem dX6_ofGame_1 : decode cX6_ofGame 1 = .ok (.aload_n 0, 1) := by decide +kernel
theorem dX6_ofGame_2 : decode cX6_ofGame 2 = .ok (.iload_n 1, 1) := by decide +kernel
theorem dX6_ofGame_3 : decode cX6_ofGame 3 = .ok (.invokevirtual 126, 3) := by decide +kernel
theorem dX6_ofGame_6 : decode cX6_ofGame 6 = .ok (.iload_n 2, 1) := by decide +kernel
theorem dX6_ofGame_7 : decode cX6_ofGame 7 = .ok (.iconst 0, 1) := by decide +kernel
theorem dX6_ofGame_8 : decode cX6_ofGame 8 = .ok (.bipush 7, 2) := by decide +kernel
theorem dX6_ofGame_10 : decode cX6_ofGame 10 = .ok (.invokestatic 90, 3) := by decide +kernel
theorem dX6_ofGame_13 : decode cX6_ofGame 13 = .ok (.invokevirtual 161, 3) := by decide +kernel
theorem dX6_ofGame_16 : decode cX6_ofGame 16 = .ok (.ifCond .ne 5, 3) := by decide +kernel
theorem dX6_ofGame_19 : decode cX6_ofGame 19 = .ok (.iconst 0, 1) := by decide +kernel
theorem dX6_ofGame_20 : decode cX6_ofGame 20 = .ok (.ireturn, 1) := by decide +kernel
theorem dX6_ofGame_21 : decode cX6_ofGame 21 = .ok (.iload_n 2, 1) := by decide +kernel
theorem dX6_ofGame_22 : decode cX6_ofGame 22 = .ok (.ifCond .ne 12, 3) := by decide +kernel
theorem dX6_ofGame_25 : decode cX6_ofGame 25 = .ok (.aload_n 0, 1) := by decide +kernel
theorem dX6_ofGame_26 : decode cX6_ofGame 26 = .ok (.getfield 27, 3) := by decide +kernel
theorem dX6_ofGame_29 : decode cX6_ofGame 29 = .ok (.iload_n 1, 1) := by decide +kernel
theorem dX6_ofGame_30 : decode cX6_ofGame 30 = .ok (.iaload, 1) := by decide +kernel
theorem dX6_ofGame_31 : decode cX6_ofGame 31 = .ok (.goto 99, 3) := by decide +kernel
theorem dX6_ofGame_34 : decode cX6_ofGame 34 = .ok (.iload_n 2, 1) := by decide +kernel
theorem dX6_ofGame_35 : decode cX6_ofGame 35 = .ok (.iconst 1, 1) := by decide +kernel
theorem dX6_ofGame_36 : decode cX6_ofGame 36 = .ok (.if_icmp .ne 12, 3) := by decide +kernel
theorem dX6_ofGame_39 : decode cX6_ofGame 39 = .ok (.aload_n 0, 1) := by decide +kernel
theorem dX6_ofGame_40 : decode cX6_ofGame 40 = .ok (.getfield 36, 3) := by decide +kernel
theorem dX6_ofGame_43 : decode cX6_ofGame 43 = .ok (.iload_n 1, 1) := by decide +kernel
theorem dX6_ofGame_44 : decode cX6_ofGame 44 = .ok (.iaload, 1) := by decide +kernel
theorem dX6_ofGame_45 : decode cX6_ofGame 45 = .ok (.goto 85, 3) := by decide +kernel
theorem dX6_ofGame_48 : decode cX6_ofGame 48 = .ok (.iload_n 2, 1) := by decide +kernel
theorem dX6_ofGame_49 : decode cX6_ofGame 49 = .ok (.iconst 2, 1) := by decide +kernel
theorem dX6_ofGame_50 : decode cX6_ofGame 50 = .ok (.if_icmp .ne 12, 3) := by decide +kernel
theorem dX6_ofGame_53 : decode cX6_ofGame 53 = .ok (.aload_n 0, 1) := by decide +kernel
theorem dX6_ofGame_54 : decode cX6_ofGame 54 = .ok (.getfield 42, 3) := by decide +kernel
theorem dX6_ofGame_57 : decode cX6_ofGame 57 = .ok (.iload_n 1, 1) := by decide +kernel
theorem dX6_ofGame_58 : decode cX6_ofGame 58 = .ok (.iaload, 1) := by decide +kernel
theorem dX6_ofGame_59 : decode cX6_ofGame 59 = .ok (.goto 71, 3) := by decide +kernel
theorem dX6_ofGame_62 : decode cX6_ofGame 62 = .ok (.iload_n 2, 1) := by decide +kernel
theorem dX6_ofGame_63 : decode cX6_ofGame 63 = .ok (.iconst 5, 1) := by decide +kernel
theorem dX6_ofGame_64 : decode cX6_ofGame 64 = .ok (.if_icmp .ge 18, 3) := by decide +kernel
theorem dX6_ofGame_67 : decode cX6_ofGame 67 = .ok (.aload_n 0, 1) := by decide +kernel
theorem dX6_ofGame_68 : decode cX6_ofGame 68 = .ok (.getfield 45, 3) := by decide +kernel
theorem dX6_ofGame_71 : decode cX6_ofGame 71 = .ok (.iconst 2, 1) := by decide +kernel
theorem dX6_ofGame_72 : decode cX6_ofGame 72 = .ok (.iload_n 1, 1) := by decide +kernel
theorem dX6_ofGame_73 : decode cX6_ofGame 73 = .ok (.imul, 1) := by decide +kernel
theorem dX6_ofGame_74 : decode cX6_ofGame 74 = .ok (.iload_n 2, 1) := by decide +kernel
theorem dX6_ofGame_75 : decode cX6_ofGame 75 = .ok (.iadd, 1) := by decide +kernel
theorem dX6_ofGame_76 : decode cX6_ofGame 76 = .ok (.iconst 3, 1) := by decide +kernel
theorem dX6_ofGame_77 : decode cX6_ofGame 77 = .ok (.isub, 1) := by decide +kernel
theorem dX6_ofGame_78 : decode cX6_ofGame 78 = .ok (.iaload, 1) := by decide +kernel
theorem dX6_ofGame_79 : decode cX6_ofGame 79 = .ok (.goto 51, 3) := by decide +kernel
theorem dX6_ofGame_82 : decode cX6_ofGame 82 = .ok (.iload_n 2, 1) := by decide +kernel
theorem dX6_ofGame_83 : decode cX6_ofGame 83 = .ok (.iconst 5, 1) := by decide +kernel
theorem dX6_ofGame_84 : decode cX6_ofGame 84 = .ok (.if_icmp .ne 12, 3) := by decide +kernel
theorem dX6_ofGame_87 : decode cX6_ofGame 87 = .ok (.aload_n 0, 1) := by decide +kernel
theorem dX6_ofGame_88 : decode cX6_ofGame 88 = .ok (.getfield 48, 3) := by decide +kernel
theorem dX6_ofGame_91 : decode cX6_ofGame 91 = .ok (.iload_n 1, 1) := by decide +kernel
theorem dX6_ofGame_92 : decode cX6_ofGame 92 = .ok (.iaload, 1) := by decide +kernel
theorem dX6_ofGame_93 : decode cX6_ofGame 93 = .ok (.goto 37, 3) := by decide +kernel
theorem dX6_ofGame_96 : decode cX6_ofGame 96 = .ok (.iload_n 2, 1) := by decide +kernel
theorem dX6_ofGame_97 : decode cX6_ofGame 97 = .ok (.bipush 6, 2) := by decide +kernel
theorem dX6_ofGame_99 : decode cX6_ofGame 99 = .ok (.if_icmp .ne 11, 3) := by decide +kernel
theorem dX6_ofGame_102 : decode cX6_ofGame 102 = .ok (.aload_n 0, 1) := by decide +kernel
theorem dX6_ofGame_103 : decode cX6_ofGame 103 = .ok (.iload_n 1, 1) := by decide +kernel
theorem dX6_ofGame_104 : decode cX6_ofGame 104 = .ok (.invokevirtual 119, 3) := by decide +kernel
theorem dX6_ofGame_107 : decode cX6_ofGame 107 = .ok (.goto 23, 3) := by decide +kernel
theorem dX6_ofGame_110 : decode cX6_ofGame 110 = .ok (.aload_n 0, 1) := by decide +kernel
theorem dX6_ofGame_111 : decode cX6_ofGame 111 = .ok (.getfield 27, 3) := by decide +kernel
theorem dX6_ofGame_114 : decode cX6_ofGame 114 = .ok (.iload_n 1, 1) := by decide +kernel
theorem dX6_ofGame_115 : decode cX6_ofGame 115 = .ok (.iaload, 1) := by decide +kernel
theorem dX6_ofGame_116 : decode cX6_ofGame 116 = .ok (.iconst 2, 1) := by decide +kernel
theorem dX6_ofGame_117 : decode cX6_ofGame 117 = .ok (.if_icmp .ne 12, 3) := by decide +kernel
theorem dX6_ofGame_120 : decode cX6_ofGame 120 = .ok (.aload_n 0, 1) := by decide +kernel
theorem dX6_ofGame_121 : decode cX6_ofGame 121 = .ok (.getfield 54, 3) := by decide +kernel
theorem dX6_ofGame_124 : decode cX6_ofGame 124 = .ok (.iload_n 1, 1) := by decide +kernel
theorem dX6_ofGame_125 : decode cX6_ofGame 125 = .ok (.iaload, 1) := by decide +kernel
theorem dX6_ofGame_126 : decode cX6_ofGame 126 = .ok (.goto 4, 3) := by decide +kernel
theorem dX6_ofGame_129 : decode cX6_ofGame 129 = .ok (.iconst (-1), 1) := by decide +kernel
theorem dX6_ofGame_130 : decode cX6_ofGame 130 = .ok (.ireturn, 1) := by decide +kernel
set_option maxRecDepth 20000 in
theorem ggX6_stone_X6_isGame : GoodIn wsX6_stone wsX6_isGame := goodIn_r _ [6, 7, 8, 9, 5, 10, 16, 17, 18, 19, 20, 21, 22, 23, 24, 25, 26, 27, 28, 29, 30, 31, 32, 33, 34, 35, 36, 37, 38, 39, 40, 41, 42, 43] (by decide +kernel) (by decide +kernel)
set_option maxRecDepth 20000 in
theorem gX6_stone_X6_isGame : GoodIn wsX6_stone (wsV RX6 126 RX6 yX6_isGame wsX6_isGame) := goodIn_app (goodIn_of _ (by decide +kernel)) ggX6_stone_X6_isGame
set_option maxRecDepth 20000 in
theorem ggX6_stone_X6_in : GoodIn wsX6_stone wsX6_in := goodIn_r _ [10] (by decide +kernel) (by decide +kernel)
set_option maxRecDepth 20000 in
theorem gX6_stone_X6_in : GoodIn wsX6_stone (va_wsS RX6 90 yX6_in wsX6_in) := goodIn_app (goodIn_of _ (by decide +kernel)) ggX6_stone_X6_in
set_option maxRecDepth 20000 in
theorem ggX6_stone_X6_asked : GoodIn wsX6_stone wsX6_asked := goodIn_r _ [14, 15, 16, 17, 18, 19, 20, 21, 22, 23, 24, 25, 26, 27, 28, 29, 30, 31, 32, 33, 34, 35, 36, 37, 38, 39, 40, 41, 42, 43] (by decide +kernel) (by decide +kernel)
set_option maxRecDepth 20000 in
theorem gX6_stone_X6_asked : GoodIn wsX6_stone (wsV RX6 108 RX6 yX6_asked wsX6_asked) := goodIn_app (goodIn_of _ (by decide +kernel)) ggX6_stone_X6_asked
theorem dX6_stone_0 : decode cX6_stone 0 = .ok (.aload_n 0, 1) := by decide +kernel
theorem dX6_stone_1 : decode cX6_stone 1 = .ok (.aload_n 0, 1) := by decide +kernel
theorem dX6_stone_2 : decode cX6_stone 2 = .ok (.iload_n 1, 1) := by decide +kernel
theorem dX6_stone_3 : decode cX6_stone 3 = .ok (.invokevirtual 126, 3) := by decide +kernel
theorem dX6_stone_6 : decode cX6_stone 6 = .ok (.ifCond .eq 25, 3) := by decide +kernel
theorem dX6_stone_9 : decode cX6_stone 9 = .ok (.iload_n 2, 1) := by decide +kernel
theorem dX6_stone_10 : decode cX6_stone 10 = .ok (.iconst 0, 1) := by decide +kernel
theorem dX6_stone_11 : decode cX6_stone 11 = .ok (.iconst 1, 1) := by decide +kernel
theorem dX6_stone_12 : decode cX6_stone 12 = .ok (.invokestatic 90, 3) := by decide +kernel
theorem dX6_stone_15 : decode cX6_stone 15 = .ok (.ifCond .eq 16, 3) := by decide +kernel
theorem dX6_stone_18 : decode cX6_stone 18 = .ok (.iload_n 3, 1) := by decide +kernel
theorem dX6_stone_19 : decode cX6_stone 19 = .ok (.iconst 0, 1) := by decide +kernel
theorem dX6_stone_20 : decode cX6_stone 20 = .ok (.iconst 2, 1) := by decide +kernel
theorem dX6_stone_21 : decode cX6_stone 21 = .ok (.invokestatic 90, 3) := by decide +kernel
theorem dX6_stone_24 : decode cX6_stone 24 = .ok (.ifCond .eq 7, 3) := by decide +kernel
theorem dX6_stone_27 : decode cX6_stone 27 = .ok (.iconst 1, 1) := by decide +kernel
theorem dX6_stone_28 : decode cX6_stone 28 = .ok (.goto 4, 3) := by decide +kernel
theorem dX6_stone_31 : decode cX6_stone 31 = .ok (.iconst 0, 1) := by decide +kernel
theorem dX6_stone_32 : decode cX6_stone 32 = .ok (.invokevirtual 108, 3) := by decide +kernel
theorem dX6_stone_35 : decode cX6_stone 35 = .ok (.ifCond .eq 21, 3) := by decide +kernel
theorem dX6_stone_38 : decode cX6_stone 38 = .ok (.aload_n 0, 1) := by decide +kernel
theorem dX6_stone_39 : decode cX6_stone 39 = .ok (.getfield 60, 3) := by decide +kernel
theorem dX6_stone_42 : decode cX6_stone 42 = .ok (.bipush 6, 2) := by decide +kernel
theorem dX6_stone_44 : decode cX6_stone 44 = .ok (.iload_n 1, 1) := by decide +kernel
theorem dX6_stone_45 : decode cX6_stone 45 = .ok (.imul, 1) := by decide +kernel
theorem dX6_stone_46 : decode cX6_stone 46 = .ok (.iconst 3, 1) := by decide +kernel
theorem dX6_stone_47 : decode cX6_stone 47 = .ok (.iload_n 2, 1) := by decide +kernel
theorem dX6_stone_48 : decode cX6_stone 48 = .ok (.imul, 1) := by decide +kernel
theorem dX6_stone_49 : decode cX6_stone 49 = .ok (.iadd, 1) := by decide +kernel
theorem dX6_stone_50 : decode cX6_stone 50 = .ok (.iload_n 3, 1) := by decide +kernel
theorem dX6_stone_51 : decode cX6_stone 51 = .ok (.iadd, 1) := by decide +kernel
theorem dX6_stone_52 : decode cX6_stone 52 = .ok (.iaload, 1) := by decide +kernel
theorem dX6_stone_53 : decode cX6_stone 53 = .ok (.goto 4, 3) := by decide +kernel
theorem dX6_stone_56 : decode cX6_stone 56 = .ok (.iconst 0, 1) := by decide +kernel
theorem dX6_stone_57 : decode cX6_stone 57 = .ok (.ireturn, 1) := by decide +kernel
set_option maxRecDepth 20000 in
theorem ggX6_scoreOf_X6_scored : GoodIn wsX6_scoreOf wsX6_scored := goodIn_r _ [8, 1, 9, 10, 7, 11, 12, 13, 14, 15, 16, 17, 18, 19, 20, 21, 22, 23, 24, 25, 26, 27, 28, 29, 30, 31, 32, 33, 34, 35, 36, 37, 38, 39] (by decide +kernel) (by decide +kernel)
set_option maxRecDepth 20000 in
theorem gX6_scoreOf_X6_scored : GoodIn wsX6_scoreOf (wsV RX6 122 RX6 yX6_scored wsX6_scored) := goodIn_app (goodIn_of _ (by decide +kernel)) ggX6_scoreOf_X6_scored
theorem dX6_scoreOf_0 : decode cX6_scoreOf 0 = .ok (.iconst 0, 1) := by decide +kernel
theorem dX6_scoreOf_1 : decode cX6_scoreOf 1 = .ok (.istore_n 2, 1) := by decide +kernel
theorem dX6_scoreOf_2 : decode cX6_scoreOf 2 = .ok (.iload_n 2, 1) := by decide +kernel
theorem dX6_scoreOf_3 : decode cX6_scoreOf 3 = .ok (.bipush 6, 2) := by decide +kernel
theorem dX6_scoreOf_5 : decode cX6_scoreOf 5 = .ok (.if_icmp .ge 26, 3) := by decide +kernel
theorem dX6_scoreOf_8 : decode cX6_scoreOf 8 = .ok (.aload_n 0, 1) := by decide +kernel
theorem dX6_scoreOf_9 : decode cX6_scoreOf 9 = .ok (.getfield 75, 3) := by decide +kernel
theorem dX6_scoreOf_12 : decode cX6_scoreOf 12 = .ok (.iload_n 2, 1) := by decide +kernel
theorem dX6_scoreOf_13 : decode cX6_scoreOf 13 = .ok (.aload_n 0, 1) := by decide +kernel
theorem dX6_scoreOf_14 : decode cX6_scoreOf 14 = .ok (.getfield 60, 3) := by decide +kernel
theorem dX6_scoreOf_17 : decode cX6_scoreOf 17 = .ok (.bipush 6, 2) := by decide +kernel
theorem dX6_scoreOf_19 : decode cX6_scoreOf 19 = .ok (.iload_n 1, 1) := by decide +kernel
theorem dX6_scoreOf_20 : decode cX6_scoreOf 20 = .ok (.imul, 1) := by decide +kernel
theorem dX6_scoreOf_21 : decode cX6_scoreOf 21 = .ok (.iload_n 2, 1) := by decide +kernel
theorem dX6_scoreOf_22 : decode cX6_scoreOf 22 = .ok (.iadd, 1) := by decide +kernel
theorem dX6_scoreOf_23 : decode cX6_scoreOf 23 = .ok (.iaload, 1) := by decide +kernel
theorem dX6_scoreOf_24 : decode cX6_scoreOf 24 = .ok (.iastore, 1) := by decide +kernel
theorem dX6_scoreOf_25 : decode cX6_scoreOf 25 = .ok (.iinc 2 1, 3) := by decide +kernel
