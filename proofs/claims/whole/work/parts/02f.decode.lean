theorem dX6_scored_113 : decode cX6_scored 113 = .ok (.iconst 0, 1) := by decide +kernel
theorem dX6_scored_114 : decode cX6_scored 114 = .ok (.iadd, 1) := by decide +kernel
theorem dX6_scored_115 : decode cX6_scored 115 = .ok (.istore_n 3, 1) := by decide +kernel
theorem dX6_scored_116 : decode cX6_scored 116 = .ok (.iload_n 3, 1) := by decide +kernel
theorem dX6_scored_117 : decode cX6_scored 117 = .ok (.iload_n 2, 1) := by decide +kernel
theorem dX6_scored_118 : decode cX6_scored 118 = .ok (.iload_n 1, 1) := by decide +kernel
theorem dX6_scored_119 : decode cX6_scored 119 = .ok (.if_icmp .ge 19, 3) := by decide +kernel
theorem dX6_scored_122 : decode cX6_scored 122 = .ok (.iload 4, 2) := by decide +kernel
theorem dX6_scored_124 : decode cX6_scored 124 = .ok (.iconst 3, 1) := by decide +kernel
theorem dX6_scored_125 : decode cX6_scored 125 = .ok (.if_icmp .lt 13, 3) := by decide +kernel
theorem dX6_scored_128 : decode cX6_scored 128 = .ok (.iload 5, 2) := by decide +kernel
theorem dX6_scored_130 : decode cX6_scored 130 = .ok (.iload_n 1, 1) := by decide +kernel
theorem dX6_scored_131 : decode cX6_scored 131 = .ok (.if_icmp .ge 7, 3) := by decide +kernel
theorem dX6_scored_134 : decode cX6_scored 134 = .ok (.iconst 1, 1) := by decide +kernel
theorem dX6_scored_135 : decode cX6_scored 135 = .ok (.goto 4, 3) := by decide +kernel
theorem dX6_scored_138 : decode cX6_scored 138 = .ok (.iconst 0, 1) := by decide +kernel
theorem dX6_scored_139 : decode cX6_scored 139 = .ok (.isub, 1) := by decide +kernel
theorem dX6_scored_140 : decode cX6_scored 140 = .ok (.istore_n 3, 1) := by decide +kernel
theorem dX6_scored_141 : decode cX6_scored 141 = .ok (.iinc 4 1, 3) := by decide +kernel
theorem dX6_scored_144 : decode cX6_scored 144 = .ok (.goto (-72), 3) := by decide +kernel
theorem dX6_scored_147 : decode cX6_scored 147 = .ok (.iload_n 3, 1) := by decide +kernel
theorem dX6_scored_148 : decode cX6_scored 148 = .ok (.ireturn, 1) := by decide +kernel
theorem dX6_turnOf_0 : decode cX6_turnOf 0 = .ok (.aload_n 0, 1) := by decide +kernel
theorem dX6_turnOf_1 : decode cX6_turnOf 1 = .ok (.getfield 51, 3) := by decide +kernel
theorem dX6_turnOf_4 : decode cX6_turnOf 4 = .ok (.iload_n 1, 1) := by decide +kernel
theorem dX6_turnOf_5 : decode cX6_turnOf 5 = .ok (.iaload, 1) := by decide +kernel
theorem dX6_turnOf_6 : decode cX6_turnOf 6 = .ok (.iconst 2, 1) := by decide +kernel
theorem dX6_turnOf_7 : decode cX6_turnOf 7 = .ok (.irem, 1) := by decide +kernel
theorem dX6_turnOf_8 : decode cX6_turnOf 8 = .ok (.istore_n 2, 1) := by decide +kernel
theorem dX6_turnOf_9 : decode cX6_turnOf 9 = .ok (.aload_n 0, 1) := by decide +kernel
theorem dX6_turnOf_10 : decode cX6_turnOf 10 = .ok (.getfield 27, 3) := by decide +kernel
theorem dX6_turnOf_13 : decode cX6_turnOf 13 = .ok (.iload_n 1, 1) := by decide +kernel
theorem dX6_turnOf_14 : decode cX6_turnOf 14 = .ok (.iaload, 1) := by decide +kernel
theorem dX6_turnOf_15 : decode cX6_turnOf 15 = .ok (.iconst 1, 1) := by decide +kernel
theorem dX6_turnOf_16 : decode cX6_turnOf 16 = .ok (.if_icmp .ne 12, 3) := by decide +kernel
theorem dX6_turnOf_19 : decode cX6_turnOf 19 = .ok (.aload_n 0, 1) := by decide +kernel
theorem dX6_turnOf_20 : decode cX6_turnOf 20 = .ok (.getfield 51, 3) := by decide +kernel
theorem dX6_turnOf_23 : decode cX6_turnOf 23 = .ok (.iload_n 1, 1) := by decide +kernel
theorem dX6_turnOf_24 : decode cX6_turnOf 24 = .ok (.iaload, 1) := by decide +kernel
theorem dX6_turnOf_25 : decode cX6_turnOf 25 = .ok (.goto 33, 3) := by decide +kernel
theorem dX6_turnOf_28 : decode cX6_turnOf 28 = .ok (.aload_n 0, 1) := by decide +kernel
theorem dX6_turnOf_29 : decode cX6_turnOf 29 = .ok (.getfield 27, 3) := by decide +kernel
theorem dX6_turnOf_32 : decode cX6_turnOf 32 = .ok (.iload_n 1, 1) := by decide +kernel
theorem dX6_turnOf_33 : decode cX6_turnOf 33 = .ok (.iaload, 1) := by decide +kernel
theorem dX6_turnOf_34 : decode cX6_turnOf 34 = .ok (.iconst 2, 1) := by decide +kernel
theorem dX6_turnOf_35 : decode cX6_turnOf 35 = .ok (.if_icmp .ne 22, 3) := by decide +kernel
theorem dX6_turnOf_38 : decode cX6_turnOf 38 = .ok (.aload_n 0, 1) := by decide +kernel
theorem dX6_turnOf_39 : decode cX6_turnOf 39 = .ok (.getfield 54, 3) := by decide +kernel
theorem dX6_turnOf_42 : decode cX6_turnOf 42 = .ok (.iload_n 1, 1) := by decide +kernel
theorem dX6_turnOf_43 : decode cX6_turnOf 43 = .ok (.iaload, 1) := by decide +kernel
theorem dX6_turnOf_44 : decode cX6_turnOf 44 = .ok (.ifCond .ne 9, 3) := by decide +kernel
theorem dX6_turnOf_47 : decode cX6_turnOf 47 = .ok (.iconst 1, 1) := by decide +kernel
theorem dX6_turnOf_48 : decode cX6_turnOf 48 = .ok (.iload_n 2, 1) := by decide +kernel
theorem dX6_turnOf_49 : decode cX6_turnOf 49 = .ok (.isub, 1) := by decide +kernel
theorem dX6_turnOf_50 : decode cX6_turnOf 50 = .ok (.goto 8, 3) := by decide +kernel
theorem dX6_turnOf_53 : decode cX6_turnOf 53 = .ok (.iload_n 2, 1) := by decide +kernel
theorem dX6_turnOf_54 : decode cX6_turnOf 54 = .ok (.goto 4, 3) := by decide +kernel
theorem dX6_turnOf_57 : decode cX6_turnOf 57 = .ok (.iconst (-1), 1) := by decide +kernel
theorem dX6_turnOf_58 : decode cX6_turnOf 58 = .ok (.ireturn, 1) := by decide +kernel
theorem dX6_slotOf_0 : decode cX6_slotOf 0 = .ok (.iconst 3, 1) := by decide +kernel
theorem dX6_slotOf_1 : decode cX6_slotOf 1 = .ok (.aload_n 0, 1) := by decide +kernel
theorem dX6_slotOf_2 : decode cX6_slotOf 2 = .ok (.iload_n 1, 1) := by decide +kernel
theorem dX6_slotOf_3 : decode cX6_slotOf 3 = .ok (.invokevirtual 119, 3) := by decide +kernel
theorem dX6_slotOf_6 : decode cX6_slotOf 6 = .ok (.imul, 1) := by decide +kernel
theorem dX6_slotOf_7 : decode cX6_slotOf 7 = .ok (.aload_n 0, 1) := by decide +kernel
theorem dX6_slotOf_8 : decode cX6_slotOf 8 = .ok (.getfield 27, 3) := by decide +kernel
theorem dX6_slotOf_11 : decode cX6_slotOf 11 = .ok (.iload_n 1, 1) := by decide +kernel
theorem dX6_slotOf_12 : decode cX6_slotOf 12 = .ok (.iaload, 1) := by decide +kernel
theorem dX6_slotOf_13 : decode cX6_slotOf 13 = .ok (.iconst 2, 1) := by decide +kernel
theorem dX6_slotOf_14 : decode cX6_slotOf 14 = .ok (.if_icmp .ne 14, 3) := by decide +kernel
theorem dX6_slotOf_17 : decode cX6_slotOf 17 = .ok (.aload_n 0, 1) := by decide +kernel
theorem dX6_slotOf_18 : decode cX6_slotOf 18 = .ok (.getfield 51, 3) := by decide +kernel
theorem dX6_slotOf_21 : decode cX6_slotOf 21 = .ok (.iload_n 1, 1) := by decide +kernel
theorem dX6_slotOf_22 : decode cX6_slotOf 22 = .ok (.iaload, 1) := by decide +kernel
theorem dX6_slotOf_23 : decode cX6_slotOf 23 = .ok (.iconst 2, 1) := by decide +kernel
theorem dX6_slotOf_24 : decode cX6_slotOf 24 = .ok (.idiv, 1) := by decide +kernel
theorem dX6_slotOf_25 : decode cX6_slotOf 25 = .ok (.goto 4, 3) := by decide +kernel
theorem dX6_slotOf_28 : decode cX6_slotOf 28 = .ok (.iconst 0, 1) := by decide +kernel
theorem dX6_slotOf_29 : decode cX6_slotOf 29 = .ok (.iadd, 1) := by decide +kernel
theorem dX6_slotOf_30 : decode cX6_slotOf 30 = .ok (.ireturn, 1) := by decide +kernel
theorem dX6_isShot_0 : decode cX6_isShot 0 = .ok (.iload_n 0, 1) := by decide +kernel
theorem dX6_isShot_1 : decode cX6_isShot 1 = .ok (.iconst 0, 1) := by decide +kernel
theorem dX6_isShot_2 : decode cX6_isShot 2 = .ok (.bipush 8, 2) := by decide +kernel
theorem dX6_isShot_4 : decode cX6_isShot 4 = .ok (.invokestatic 90, 3) := by decide +kernel
theorem dX6_isShot_7 : decode cX6_isShot 7 = .ok (.ifCond .eq 48, 3) := by decide +kernel
theorem dX6_isShot_10 : decode cX6_isShot 10 = .ok (.iload_n 1, 1) := by decide +kernel
theorem dX6_isShot_11 : decode cX6_isShot 11 = .ok (.iconst 1, 1) := by decide +kernel
theorem dX6_isShot_12 : decode cX6_isShot 12 = .ok (.bipush 100, 2) := by decide +kernel
theorem dX6_isShot_14 : decode cX6_isShot 14 = .ok (.invokestatic 90, 3) := by decide +kernel
theorem dX6_isShot_17 : decode cX6_isShot 17 = .ok (.ifCond .eq 38, 3) := by decide +kernel
theorem dX6_isShot_20 : decode cX6_isShot 20 = .ok (.iload_n 2, 1) := by decide +kernel
theorem dX6_isShot_21 : decode cX6_isShot 21 = .ok (.iconst (-1), 1) := by decide +kernel
theorem dX6_isShot_22 : decode cX6_isShot 22 = .ok (.if_icmp .eq 8, 3) := by decide +kernel
theorem dX6_isShot_25 : decode cX6_isShot 25 = .ok (.iload_n 2, 1) := by decide +kernel
theorem dX6_isShot_26 : decode cX6_isShot 26 = .ok (.iconst 1, 1) := by decide +kernel
theorem dX6_isShot_27 : decode cX6_isShot 27 = .ok (.if_icmp .ne 28, 3) := by decide +kernel
theorem dX6_isShot_30 : decode cX6_isShot 30 = .ok (.iload_n 3, 1) := by decide +kernel
theorem dX6_isShot_31 : decode cX6_isShot 31 = .ok (.iconst 0, 1) := by decide +kernel
theorem dX6_isShot_32 : decode cX6_isShot 32 = .ok (.bipush 60, 2) := by decide +kernel
theorem dX6_isShot_34 : decode cX6_isShot 34 = .ok (.invokestatic 90, 3) := by decide +kernel
theorem dX6_isShot_37 : decode cX6_isShot 37 = .ok (.ifCond .eq 18, 3) := by decide +kernel
theorem dX6_isShot_40 : decode cX6_isShot 40 = .ok (.iload 4, 2) := by decide +kernel
theorem dX6_isShot_42 : decode cX6_isShot 42 = .ok (.iconst 0, 1) := by decide +kernel
theorem dX6_isShot_43 : decode cX6_isShot 43 = .ok (.bipush 60, 2) := by decide +kernel
theorem dX6_isShot_45 : decode cX6_isShot 45 = .ok (.invokestatic 90, 3) := by decide +kernel
theorem dX6_isShot_48 : decode cX6_isShot 48 = .ok (.ifCond .eq 7, 3) := by decide +kernel
theorem dX6_isShot_51 : decode cX6_isShot 51 = .ok (.iconst 1, 1) := by decide +kernel
theorem dX6_isShot_52 : decode cX6_isShot 52 = .ok (.goto 4, 3) := by decide +kernel
theorem dX6_isShot_55 : decode cX6_isShot 55 = .ok (.iconst 0, 1) := by decide +kernel
theorem dX6_isShot_56 : decode cX6_isShot 56 = .ok (.ireturn, 1) := by decide +kernel
theorem dX6_throwsAt_0 : decode cX6_throwsAt 0 = .ok (.aload_n 0, 1) := by decide +kernel
theorem dX6_throwsAt_1 : decode cX6_throwsAt 1 = .ok (.getfield 27, 3) := by decide +kernel
theorem dX6_throwsAt_4 : decode cX6_throwsAt 4 = .ok (.iload_n 1, 1) := by decide +kernel
theorem dX6_throwsAt_5 : decode cX6_throwsAt 5 = .ok (.iaload, 1) := by decide +kernel
theorem dX6_throwsAt_6 : decode cX6_throwsAt 6 = .ok (.iconst 1, 1) := by decide +kernel
theorem dX6_throwsAt_7 : decode cX6_throwsAt 7 = .ok (.if_icmp .eq 13, 3) := by decide +kernel
theorem dX6_throwsAt_10 : decode cX6_throwsAt 10 = .ok (.aload_n 0, 1) := by decide +kernel
theorem dX6_throwsAt_11 : decode cX6_throwsAt 11 = .ok (.getfield 27, 3) := by decide +kernel
theorem dX6_throwsAt_14 : decode cX6_throwsAt 14 = .ok (.iload_n 1, 1) := by decide +kernel
theorem dX6_throwsAt_15 : decode cX6_throwsAt 15 = .ok (.iaload, 1) := by decide +kernel
theorem dX6_throwsAt_16 : decode cX6_throwsAt 16 = .ok (.iconst 2, 1) := by decide +kernel
theorem dX6_throwsAt_17 : decode cX6_throwsAt 17 = .ok (.if_icmp .ne 7, 3) := by decide +kernel
theorem dX6_throwsAt_20 : decode cX6_throwsAt 20 = .ok (.iconst 1, 1) := by decide +kernel
theorem dX6_throwsAt_21 : decode cX6_throwsAt 21 = .ok (.goto 4, 3) := by decide +kernel
theorem dX6_throwsAt_24 : decode cX6_throwsAt 24 = .ok (.iconst 0, 1) := by decide +kernel
theorem dX6_throwsAt_25 : decode cX6_throwsAt 25 = .ok (.ireturn, 1) := by decide +kernel
theorem dX6_ends_0 : decode cX6_ends 0 = .ok (.aload_n 0, 1) := by decide +kernel
theorem dX6_ends_1 : decode cX6_ends 1 = .ok (.invokevirtual 122, 3) := by decide +kernel
theorem dX6_ends_4 : decode cX6_ends 4 = .ok (.istore_n 2, 1) := by decide +kernel
theorem dX6_ends_5 : decode cX6_ends 5 = .ok (.aload_n 0, 1) := by decide +kernel
theorem dX6_ends_6 : decode cX6_ends 6 = .ok (.getfield 45, 3) := by decide +kernel
theorem dX6_ends_9 : decode cX6_ends 9 = .ok (.iconst 2, 1) := by decide +kernel
theorem dX6_ends_10 : decode cX6_ends 10 = .ok (.iload_n 1, 1) := by decide +kernel
theorem dX6_ends_11 : decode cX6_ends 11 = .ok (.imul, 1) := by decide +kernel
theorem dX6_ends_12 : decode cX6_ends 12 = .ok (.dup2, 1) := by decide +kernel
theorem dX6_ends_13 : decode cX6_ends 13 = .ok (.iaload, 1) := by decide +kernel
theorem dX6_ends_14 : decode cX6_ends 14 = .ok (.iload_n 2, 1) := by decide +kernel
theorem dX6_ends_15 : decode cX6_ends 15 = .ok (.ifCond .le 7, 3) := by decide +kernel
theorem dX6_ends_18 : decode cX6_ends 18 = .ok (.iload_n 2, 1) := by decide +kernel
theorem dX6_ends_19 : decode cX6_ends 19 = .ok (.goto 4, 3) := by decide +kernel
theorem dX6_ends_22 : decode cX6_ends 22 = .ok (.iconst 0, 1) := by decide +kernel
theorem dX6_ends_23 : decode cX6_ends 23 = .ok (.iadd, 1) := by decide +kernel
theorem dX6_ends_24 : decode cX6_ends 24 = .ok (.iastore, 1) := by decide +kernel
theorem dX6_ends_25 : decode cX6_ends 25 = .ok (.aload_n 0, 1) := by decide +kernel
theorem dX6_ends_26 : decode cX6_ends 26 = .ok (.getfield 45, 3) := by decide +kernel
theorem dX6_ends_29 : decode cX6_ends 29 = .ok (.iconst 2, 1) := by decide +kernel
theorem dX6_ends_30 : decode cX6_ends 30 = .ok (.iload_n 1, 1) := by decide +kernel
theorem dX6_ends_31 : decode cX6_ends 31 = .ok (.imul, 1) := by decide +kernel
theorem dX6_ends_32 : decode cX6_ends 32 = .ok (.iconst 1, 1) := by decide +kernel
theorem dX6_ends_33 : decode cX6_ends 33 = .ok (.iadd, 1) := by decide +kernel
theorem dX6_ends_34 : decode cX6_ends 34 = .ok (.dup2, 1) := by decide +kernel
theorem dX6_ends_35 : decode cX6_ends 35 = .ok (.iaload, 1) := by decide +kernel
theorem dX6_ends_36 : decode cX6_ends 36 = .ok (.iload_n 2, 1) := by decide +kernel
theorem dX6_ends_37 : decode cX6_ends 37 = .ok (.ifCond .ge 7, 3) := by decide +kernel
theorem dX6_ends_40 : decode cX6_ends 40 = .ok (.iload_n 2, 1) := by decide +kernel
theorem dX6_ends_41 : decode cX6_ends 41 = .ok (.goto 4, 3) := by decide +kernel
theorem dX6_ends_44 : decode cX6_ends 44 = .ok (.iconst 0, 1) := by decide +kernel
theorem dX6_ends_45 : decode cX6_ends 45 = .ok (.isub, 1) := by decide +kernel
theorem dX6_ends_46 : decode cX6_ends 46 = .ok (.iastore, 1) := by decide +kernel
theorem dX6_ends_47 : decode cX6_ends 47 = .ok (.aload_n 0, 1) := by decide +kernel
theorem dX6_ends_48 : decode cX6_ends 48 = .ok (.getfield 54, 3) := by decide +kernel
theorem dX6_ends_51 : decode cX6_ends 51 = .ok (.iload_n 1, 1) := by decide +kernel
theorem dX6_ends_52 : decode cX6_ends 52 = .ok (.iload_n 2, 1) := by decide +kernel
theorem dX6_ends_53 : decode cX6_ends 53 = .ok (.ifCond .le 7, 3) := by decide +kernel
theorem dX6_ends_56 : decode cX6_ends 56 = .ok (.iconst 1, 1) := by decide +kernel
theorem dX6_ends_57 : decode cX6_ends 57 = .ok (.goto 17, 3) := by decide +kernel
theorem dX6_ends_60 : decode cX6_ends 60 = .ok (.iload_n 2, 1) := by decide +kernel
theorem dX6_ends_61 : decode cX6_ends 61 = .ok (.ifCond .ge 7, 3) := by decide +kernel
theorem dX6_ends_64 : decode cX6_ends 64 = .ok (.iconst 0, 1) := by decide +kernel
theorem dX6_ends_65 : decode cX6_ends 65 = .ok (.goto 9, 3) := by decide +kernel
theorem dX6_ends_68 : decode cX6_ends 68 = .ok (.aload_n 0, 1) := by decide +kernel
theorem dX6_ends_69 : decode cX6_ends 69 = .ok (.getfield 54, 3) := by decide +kernel
theorem dX6_ends_72 : decode cX6_ends 72 = .ok (.iload_n 1, 1) := by decide +kernel
theorem dX6_ends_73 : decode cX6_ends 73 = .ok (.iaload, 1) := by decide +kernel
theorem dX6_ends_74 : decode cX6_ends 74 = .ok (.iastore, 1) := by decide +kernel
theorem dX6_ends_75 : decode cX6_ends 75 = .ok (.aload_n 0, 1) := by decide +kernel
theorem dX6_ends_76 : decode cX6_ends 76 = .ok (.getfield 48, 3) := by decide +kernel
theorem dX6_ends_79 : decode cX6_ends 79 = .ok (.iload_n 1, 1) := by decide +kernel
theorem dX6_ends_80 : decode cX6_ends 80 = .ok (.dup2, 1) := by decide +kernel
theorem dX6_ends_81 : decode cX6_ends 81 = .ok (.iaload, 1) := by decide +kernel
theorem dX6_ends_82 : decode cX6_ends 82 = .ok (.iconst 1, 1) := by decide +kernel
theorem dX6_ends_83 : decode cX6_ends 83 = .ok (.iadd, 1) := by decide +kernel
theorem dX6_ends_84 : decode cX6_ends 84 = .ok (.iastore, 1) := by decide +kernel
theorem dX6_ends_85 : decode cX6_ends 85 = .ok (.aload_n 0, 1) := by decide +kernel
theorem dX6_ends_86 : decode cX6_ends 86 = .ok (.getfield 51, 3) := by decide +kernel
theorem dX6_ends_89 : decode cX6_ends 89 = .ok (.iload_n 1, 1) := by decide +kernel
theorem dX6_ends_90 : decode cX6_ends 90 = .ok (.iconst 0, 1) := by decide +kernel
theorem dX6_ends_91 : decode cX6_ends 91 = .ok (.iastore, 1) := by decide +kernel
theorem dX6_ends_92 : decode cX6_ends 92 = .ok (.iconst 0, 1) := by decide +kernel
theorem dX6_ends_93 : decode cX6_ends 93 = .ok (.istore_n 3, 1) := by decide +kernel
theorem dX6_ends_94 : decode cX6_ends 94 = .ok (.iload_n 3, 1) := by decide +kernel
theorem dX6_ends_95 : decode cX6_ends 95 = .ok (.bipush 6, 2) := by decide +kernel
theorem dX6_ends_97 : decode cX6_ends 97 = .ok (.if_icmp .ge 21, 3) := by decide +kernel
theorem dX6_ends_100 : decode cX6_ends 100 = .ok (.aload_n 0, 1) := by decide +kernel
theorem dX6_ends_101 : decode cX6_ends 101 = .ok (.getfield 60, 3) := by decide +kernel
theorem dX6_ends_104 : decode cX6_ends 104 = .ok (.bipush 6, 2) := by decide +kernel
theorem dX6_ends_106 : decode cX6_ends 106 = .ok (.iload_n 1, 1) := by decide +kernel
theorem dX6_ends_107 : decode cX6_ends 107 = .ok (.imul, 1) := by decide +kernel
theorem dX6_ends_108 : decode cX6_ends 108 = .ok (.iload_n 3, 1) := by decide +kernel
theorem dX6_ends_109 : decode cX6_ends 109 = .ok (.iadd, 1) := by decide +kernel
theorem dX6_ends_110 : decode cX6_ends 110 = .ok (.iconst (-1), 1) := by decide +kernel
theorem dX6_ends_111 : decode cX6_ends 111 = .ok (.iastore, 1) := by decide +kernel
theorem dX6_ends_112 : decode cX6_ends 112 = .ok (.iinc 3 1, 3) := by decide +kernel
theorem dX6_ends_115 : decode cX6_ends 115 = .ok (.goto (-21), 3) := by decide +kernel
theorem dX6_ends_118 : decode cX6_ends 118 = .ok (.aload_n 0, 1) := by decide +kernel
theorem dX6_ends_119 : decode cX6_ends 119 = .ok (.getfield 48, 3) := by decide +kernel
theorem dX6_ends_122 : decode cX6_ends 122 = .ok (.iload_n 1, 1) := by decide +kernel
theorem dX6_ends_123 : decode cX6_ends 123 = .ok (.iaload, 1) := by decide +kernel
theorem dX6_ends_124 : decode cX6_ends 124 = .ok (.iconst 4, 1) := by decide +kernel
theorem dX6_ends_125 : decode cX6_ends 125 = .ok (.if_icmp .ne 102, 3) := by decide +kernel
theorem dX6_ends_128 : decode cX6_ends 128 = .ok (.aload_n 0, 1) := by decide +kernel
theorem dX6_ends_129 : decode cX6_ends 129 = .ok (.getfield 27, 3) := by decide +kernel
theorem dX6_ends_132 : decode cX6_ends 132 = .ok (.iload_n 1, 1) := by decide +kernel
theorem dX6_ends_133 : decode cX6_ends 133 = .ok (.iconst 3, 1) := by decide +kernel
theorem dX6_ends_134 : decode cX6_ends 134 = .ok (.iastore, 1) := by decide +kernel
theorem dX6_ends_135 : decode cX6_ends 135 = .ok (.aload_n 0, 1) := by decide +kernel
theorem dX6_ends_136 : decode cX6_ends 136 = .ok (.getfield 24, 3) := by decide +kernel
theorem dX6_ends_139 : decode cX6_ends 139 = .ok (.aload_n 0, 1) := by decide +kernel
theorem dX6_ends_140 : decode cX6_ends 140 = .ok (.getfield 42, 3) := by decide +kernel
theorem dX6_ends_143 : decode cX6_ends 143 = .ok (.iload_n 1, 1) := by decide +kernel
theorem dX6_ends_144 : decode cX6_ends 144 = .ok (.iaload, 1) := by decide +kernel
theorem dX6_ends_145 : decode cX6_ends 145 = .ok (.iconst (-1), 1) := by decide +kernel
theorem dX6_ends_146 : decode cX6_ends 146 = .ok (.iastore, 1) := by decide +kernel
theorem dX6_ends_147 : decode cX6_ends 147 = .ok (.aload_n 0, 1) := by decide +kernel
theorem dX6_ends_148 : decode cX6_ends 148 = .ok (.getfield 63, 3) := by decide +kernel
theorem dX6_ends_151 : decode cX6_ends 151 = .ok (.aload_n 0, 1) := by decide +kernel
theorem dX6_ends_152 : decode cX6_ends 152 = .ok (.getfield 30, 3) := by decide +kernel
theorem dX6_ends_155 : decode cX6_ends 155 = .ok (.iload_n 1, 1) := by decide +kernel
theorem dX6_ends_156 : decode cX6_ends 156 = .ok (.iaload, 1) := by decide +kernel
theorem dX6_ends_157 : decode cX6_ends 157 = .ok (.dup2, 1) := by decide +kernel
theorem dX6_ends_158 : decode cX6_ends 158 = .ok (.iaload, 1) := by decide +kernel
theorem dX6_ends_159 : decode cX6_ends 159 = .ok (.aload_n 0, 1) := by decide +kernel
theorem dX6_ends_160 : decode cX6_ends 160 = .ok (.getfield 45, 3) := by decide +kernel
theorem dX6_ends_163 : decode cX6_ends 163 = .ok (.iconst 2, 1) := by decide +kernel
theorem dX6_ends_164 : decode cX6_ends 164 = .ok (.iload_n 1, 1) := by decide +kernel
theorem dX6_ends_165 : decode cX6_ends 165 = .ok (.imul, 1) := by decide +kernel
theorem dX6_ends_166 : decode cX6_ends 166 = .ok (.iaload, 1) := by decide +kernel
theorem dX6_ends_167 : decode cX6_ends 167 = .ok (.aload_n 0, 1) := by decide +kernel
theorem dX6_ends_168 : decode cX6_ends 168 = .ok (.getfield 45, 3) := by decide +kernel
theorem dX6_ends_171 : decode cX6_ends 171 = .ok (.iconst 2, 1) := by decide +kernel
theorem dX6_ends_172 : decode cX6_ends 172 = .ok (.iload_n 1, 1) := by decide +kernel
theorem dX6_ends_173 : decode cX6_ends 173 = .ok (.imul, 1) := by decide +kernel
theorem dX6_ends_174 : decode cX6_ends 174 = .ok (.iconst 1, 1) := by decide +kernel
theorem dX6_ends_175 : decode cX6_ends 175 = .ok (.iadd, 1) := by decide +kernel
theorem dX6_ends_176 : decode cX6_ends 176 = .ok (.iaload, 1) := by decide +kernel
theorem dX6_ends_177 : decode cX6_ends 177 = .ok (.if_icmp .le 7, 3) := by decide +kernel
theorem dX6_ends_180 : decode cX6_ends 180 = .ok (.iconst 1, 1) := by decide +kernel
theorem dX6_ends_181 : decode cX6_ends 181 = .ok (.goto 4, 3) := by decide +kernel
theorem dX6_ends_184 : decode cX6_ends 184 = .ok (.iconst 0, 1) := by decide +kernel
theorem dX6_ends_185 : decode cX6_ends 185 = .ok (.iadd, 1) := by decide +kernel
theorem dX6_ends_186 : decode cX6_ends 186 = .ok (.iastore, 1) := by decide +kernel
theorem dX6_ends_187 : decode cX6_ends 187 = .ok (.aload_n 0, 1) := by decide +kernel
theorem dX6_ends_188 : decode cX6_ends 188 = .ok (.getfield 63, 3) := by decide +kernel
theorem dX6_ends_191 : decode cX6_ends 191 = .ok (.aload_n 0, 1) := by decide +kernel
theorem dX6_ends_192 : decode cX6_ends 192 = .ok (.getfield 33, 3) := by decide +kernel
theorem dX6_ends_195 : decode cX6_ends 195 = .ok (.iload_n 1, 1) := by decide +kernel
theorem dX6_ends_196 : decode cX6_ends 196 = .ok (.iaload, 1) := by decide +kernel
theorem dX6_ends_197 : decode cX6_ends 197 = .ok (.dup2, 1) := by decide +kernel
theorem dX6_ends_198 : decode cX6_ends 198 = .ok (.iaload, 1) := by decide +kernel
theorem dX6_ends_199 : decode cX6_ends 199 = .ok (.aload_n 0, 1) := by decide +kernel
theorem dX6_ends_200 : decode cX6_ends 200 = .ok (.getfield 45, 3) := by decide +kernel
theorem dX6_ends_203 : decode cX6_ends 203 = .ok (.iconst 2, 1) := by decide +kernel
theorem dX6_ends_204 : decode cX6_ends 204 = .ok (.iload_n 1, 1) := by decide +kernel
theorem dX6_ends_205 : decode cX6_ends 205 = .ok (.imul, 1) := by decide +kernel
theorem dX6_ends_206 : decode cX6_ends 206 = .ok (.iaload, 1) := by decide +kernel
theorem dX6_ends_207 : decode cX6_ends 207 = .ok (.aload_n 0, 1) := by decide +kernel
theorem dX6_ends_208 : decode cX6_ends 208 = .ok (.getfield 45, 3) := by decide +kernel
theorem dX6_ends_211 : decode cX6_ends 211 = .ok (.iconst 2, 1) := by decide +kernel
theorem dX6_ends_212 : decode cX6_ends 212 = .ok (.iload_n 1, 1) := by decide +kernel
theorem dX6_ends_213 : decode cX6_ends 213 = .ok (.imul, 1) := by decide +kernel
theorem dX6_ends_214 : decode cX6_ends 214 = .ok (.iconst 1, 1) := by decide +kernel
theorem dX6_ends_215 : decode cX6_ends 215 = .ok (.iadd, 1) := by decide +kernel
theorem dX6_ends_216 : decode cX6_ends 216 = .ok (.iaload, 1) := by decide +kernel
theorem dX6_ends_217 : decode cX6_ends 217 = .ok (.if_icmp .ge 7, 3) := by decide +kernel
theorem dX6_ends_220 : decode cX6_ends 220 = .ok (.iconst 1, 1) := by decide +kernel
theorem dX6_ends_221 : decode cX6_ends 221 = .ok (.goto 4, 3) := by decide +kernel
theorem dX6_ends_224 : decode cX6_ends 224 = .ok (.iconst 0, 1) := by decide +kernel
theorem dX6_ends_225 : decode cX6_ends 225 = .ok (.iadd, 1) := by decide +kernel
theorem dX6_ends_226 : decode cX6_ends 226 = .ok (.iastore, 1) := by decide +kernel
theorem dX6_ends_227 : decode cX6_ends 227 = .ok (.return_, 1) := by decide +kernel
theorem dX6_shoot_0 : decode cX6_shoot 0 = .ok (.aload_n 0, 1) := by decide +kernel
theorem dX6_shoot_1 : decode cX6_shoot 1 = .ok (.iload_n 1, 1) := by decide +kernel
theorem dX6_shoot_2 : decode cX6_shoot 2 = .ok (.invokevirtual 126, 3) := by decide +kernel
theorem dX6_shoot_5 : decode cX6_shoot 5 = .ok (.istore 7, 2) := by decide +kernel
theorem dX6_shoot_7 : decode cX6_shoot 7 = .ok (.aload_n 0, 1) := by decide +kernel
theorem dX6_shoot_8 : decode cX6_shoot 8 = .ok (.iload 7, 2) := by decide +kernel
theorem dX6_shoot_10 : decode cX6_shoot 10 = .ok (.iload_n 2, 1) := by decide +kernel
theorem dX6_shoot_11 : decode cX6_shoot 11 = .ok (.iload_n 3, 1) := by decide +kernel
theorem dX6_shoot_12 : decode cX6_shoot 12 = .ok (.iload 4, 2) := by decide +kernel
theorem dX6_shoot_14 : decode cX6_shoot 14 = .ok (.iload 5, 2) := by decide +kernel
theorem dX6_shoot_16 : decode cX6_shoot 16 = .ok (.iload 6, 2) := by decide +kernel
theorem dX6_shoot_18 : decode cX6_shoot 18 = .ok (.invokestatic 129, 3) := by decide +kernel
theorem dX6_shoot_21 : decode cX6_shoot 21 = .ok (.iload 7, 2) := by decide +kernel
theorem dX6_shoot_23 : decode cX6_shoot 23 = .ok (.ifCond .eq 15, 3) := by decide +kernel
theorem dX6_shoot_26 : decode cX6_shoot 26 = .ok (.aload_n 0, 1) := by decide +kernel
theorem dX6_shoot_27 : decode cX6_shoot 27 = .ok (.iload_n 1, 1) := by decide +kernel
theorem dX6_shoot_28 : decode cX6_shoot 28 = .ok (.invokevirtual 133, 3) := by decide +kernel
theorem dX6_shoot_31 : decode cX6_shoot 31 = .ok (.ifCond .eq 7, 3) := by decide +kernel
theorem dX6_shoot_34 : decode cX6_shoot 34 = .ok (.iconst 1, 1) := by decide +kernel
theorem dX6_shoot_35 : decode cX6_shoot 35 = .ok (.goto 4, 3) := by decide +kernel
theorem dX6_shoot_38 : decode cX6_shoot 38 = .ok (.iconst 0, 1) := by decide +kernel
theorem dX6_shoot_39 : decode cX6_shoot 39 = .ok (.invokevirtual 104, 3) := by decide +kernel
theorem dX6_shoot_42 : decode cX6_shoot 42 = .ok (.ifCond .ne 5, 3) := by decide +kernel
theorem dX6_shoot_45 : decode cX6_shoot 45 = .ok (.iconst 0, 1) := by decide +kernel
theorem dX6_shoot_46 : decode cX6_shoot 46 = .ok (.ireturn, 1) := by decide +kernel
theorem dX6_shoot_47 : decode cX6_shoot 47 = .ok (.aload_n 0, 1) := by decide +kernel
theorem dX6_shoot_48 : decode cX6_shoot 48 = .ok (.iload_n 1, 1) := by decide +kernel
theorem dX6_shoot_49 : decode cX6_shoot 49 = .ok (.invokevirtual 136, 3) := by decide +kernel
theorem dX6_shoot_52 : decode cX6_shoot 52 = .ok (.aload_n 0, 1) := by decide +kernel
theorem dX6_shoot_53 : decode cX6_shoot 53 = .ok (.iload_n 1, 1) := by decide +kernel
theorem dX6_shoot_54 : decode cX6_shoot 54 = .ok (.invokevirtual 140, 3) := by decide +kernel
theorem dX6_shoot_57 : decode cX6_shoot 57 = .ok (.istore 8, 2) := by decide +kernel
theorem dX6_shoot_59 : decode cX6_shoot 59 = .ok (.aload_n 0, 1) := by decide +kernel
theorem dX6_shoot_60 : decode cX6_shoot 60 = .ok (.iload 8, 2) := by decide +kernel
theorem dX6_shoot_62 : decode cX6_shoot 62 = .ok (.iload_n 2, 1) := by decide +kernel
theorem dX6_shoot_63 : decode cX6_shoot 63 = .ok (.iload_n 3, 1) := by decide +kernel
theorem dX6_shoot_64 : decode cX6_shoot 64 = .ok (.iload 4, 2) := by decide +kernel
theorem dX6_shoot_66 : decode cX6_shoot 66 = .ok (.iload 5, 2) := by decide +kernel
theorem dX6_shoot_68 : decode cX6_shoot 68 = .ok (.iload 6, 2) := by decide +kernel
theorem dX6_shoot_70 : decode cX6_shoot 70 = .ok (.invokevirtual 143, 3) := by decide +kernel
theorem dX6_shoot_73 : decode cX6_shoot 73 = .ok (.iconst 0, 1) := by decide +kernel
theorem dX6_shoot_74 : decode cX6_shoot 74 = .ok (.istore 9, 2) := by decide +kernel
theorem dX6_shoot_76 : decode cX6_shoot 76 = .ok (.iload 9, 2) := by decide +kernel
theorem dX6_shoot_78 : decode cX6_shoot 78 = .ok (.sipush 549, 3) := by decide +kernel
theorem dX6_shoot_81 : decode cX6_shoot 81 = .ok (.if_icmp .ge 34, 3) := by decide +kernel
theorem dX6_shoot_84 : decode cX6_shoot 84 = .ok (.aload_n 0, 1) := by decide +kernel
theorem dX6_shoot_85 : decode cX6_shoot 85 = .ok (.getfield 16, 3) := by decide +kernel
theorem dX6_shoot_88 : decode cX6_shoot 88 = .ok (.sipush 549, 3) := by decide +kernel
theorem dX6_shoot_91 : decode cX6_shoot 91 = .ok (.aload_n 0, 1) := by decide +kernel
theorem dX6_shoot_92 : decode cX6_shoot 92 = .ok (.getfield 42, 3) := by decide +kernel
theorem dX6_shoot_95 : decode cX6_shoot 95 = .ok (.iload_n 1, 1) := by decide +kernel
theorem dX6_shoot_96 : decode cX6_shoot 96 = .ok (.iaload, 1) := by decide +kernel
theorem dX6_shoot_97 : decode cX6_shoot 97 = .ok (.imul, 1) := by decide +kernel
theorem dX6_shoot_98 : decode cX6_shoot 98 = .ok (.iload 9, 2) := by decide +kernel
theorem dX6_shoot_100 : decode cX6_shoot 100 = .ok (.iadd, 1) := by decide +kernel
theorem dX6_shoot_101 : decode cX6_shoot 101 = .ok (.aload_n 0, 1) := by decide +kernel
theorem dX6_shoot_102 : decode cX6_shoot 102 = .ok (.getfield 72, 3) := by decide +kernel
theorem dX6_shoot_105 : decode cX6_shoot 105 = .ok (.iload 9, 2) := by decide +kernel
theorem dX6_shoot_107 : decode cX6_shoot 107 = .ok (.iaload, 1) := by decide +kernel
theorem dX6_shoot_108 : decode cX6_shoot 108 = .ok (.iastore, 1) := by decide +kernel
theorem dX6_shoot_109 : decode cX6_shoot 109 = .ok (.iinc 9 1, 3) := by decide +kernel
theorem dX6_shoot_112 : decode cX6_shoot 112 = .ok (.goto (-36), 3) := by decide +kernel
theorem dX6_shoot_115 : decode cX6_shoot 115 = .ok (.aload_n 0, 1) := by decide +kernel
theorem dX6_shoot_116 : decode cX6_shoot 116 = .ok (.getfield 75, 3) := by decide +kernel
theorem dX6_shoot_119 : decode cX6_shoot 119 = .ok (.iload 8, 2) := by decide +kernel
theorem dX6_shoot_121 : decode cX6_shoot 121 = .ok (.iaload, 1) := by decide +kernel
theorem dX6_shoot_122 : decode cX6_shoot 122 = .ok (.istore 9, 2) := by decide +kernel
theorem dX6_shoot_124 : decode cX6_shoot 124 = .ok (.aload_n 0, 1) := by decide +kernel
theorem dX6_shoot_125 : decode cX6_shoot 125 = .ok (.iload_n 1, 1) := by decide +kernel
theorem dX6_shoot_126 : decode cX6_shoot 126 = .ok (.invokevirtual 119, 3) := by decide +kernel
theorem dX6_shoot_129 : decode cX6_shoot 129 = .ok (.ifCond .ne 12, 3) := by decide +kernel
theorem dX6_shoot_132 : decode cX6_shoot 132 = .ok (.aload_n 0, 1) := by decide +kernel
theorem dX6_shoot_133 : decode cX6_shoot 133 = .ok (.getfield 30, 3) := by decide +kernel
theorem dX6_shoot_136 : decode cX6_shoot 136 = .ok (.iload_n 1, 1) := by decide +kernel
theorem dX6_shoot_137 : decode cX6_shoot 137 = .ok (.iaload, 1) := by decide +kernel
theorem dX6_shoot_138 : decode cX6_shoot 138 = .ok (.goto 9, 3) := by decide +kernel
theorem dX6_shoot_141 : decode cX6_shoot 141 = .ok (.aload_n 0, 1) := by decide +kernel
theorem dX6_shoot_142 : decode cX6_shoot 142 = .ok (.getfield 33, 3) := by decide +kernel
theorem dX6_shoot_145 : decode cX6_shoot 145 = .ok (.iload_n 1, 1) := by decide +kernel
theorem dX6_shoot_146 : decode cX6_shoot 146 = .ok (.iaload, 1) := by decide +kernel
theorem dX6_shoot_147 : decode cX6_shoot 147 = .ok (.istore 10, 2) := by decide +kernel
theorem dX6_shoot_149 : decode cX6_shoot 149 = .ok (.aload_n 0, 1) := by decide +kernel
theorem dX6_shoot_150 : decode cX6_shoot 150 = .ok (.getfield 51, 3) := by decide +kernel
theorem dX6_shoot_153 : decode cX6_shoot 153 = .ok (.iload_n 1, 1) := by decide +kernel
theorem dX6_shoot_154 : decode cX6_shoot 154 = .ok (.dup2, 1) := by decide +kernel
theorem dX6_shoot_155 : decode cX6_shoot 155 = .ok (.iaload, 1) := by decide +kernel
theorem dX6_shoot_156 : decode cX6_shoot 156 = .ok (.iconst 1, 1) := by decide +kernel
theorem dX6_shoot_157 : decode cX6_shoot 157 = .ok (.iadd, 1) := by decide +kernel
theorem dX6_shoot_158 : decode cX6_shoot 158 = .ok (.iastore, 1) := by decide +kernel
theorem dX6_shoot_159 : decode cX6_shoot 159 = .ok (.aload_n 0, 1) := by decide +kernel
theorem dX6_shoot_160 : decode cX6_shoot 160 = .ok (.getfield 27, 3) := by decide +kernel
theorem dX6_shoot_163 : decode cX6_shoot 163 = .ok (.iload_n 1, 1) := by decide +kernel
theorem dX6_shoot_164 : decode cX6_shoot 164 = .ok (.iaload, 1) := by decide +kernel
theorem dX6_shoot_165 : decode cX6_shoot 165 = .ok (.iconst 1, 1) := by decide +kernel
theorem dX6_shoot_166 : decode cX6_shoot 166 = .ok (.if_icmp .ne 126, 3) := by decide +kernel
theorem dX6_shoot_169 : decode cX6_shoot 169 = .ok (.iload 9, 2) := by decide +kernel
theorem dX6_shoot_171 : decode cX6_shoot 171 = .ok (.invokestatic 115, 3) := by decide +kernel
theorem dX6_shoot_174 : decode cX6_shoot 174 = .ok (.bipush 30, 2) := by decide +kernel
theorem dX6_shoot_176 : decode cX6_shoot 176 = .ok (.if_icmp .ge 11, 3) := by decide +kernel
theorem dX6_shoot_179 : decode cX6_shoot 179 = .ok (.iload 9, 2) := by decide +kernel
theorem dX6_shoot_181 : decode cX6_shoot 181 = .ok (.invokestatic 115, 3) := by decide +kernel
theorem dX6_shoot_184 : decode cX6_shoot 184 = .ok (.goto 5, 3) := by decide +kernel
theorem dX6_shoot_187 : decode cX6_shoot 187 = .ok (.bipush 30, 2) := by decide +kernel
theorem dX6_shoot_189 : decode cX6_shoot 189 = .ok (.istore 11, 2) := by decide +kernel
theorem dX6_shoot_191 : decode cX6_shoot 191 = .ok (.aload_n 0, 1) := by decide +kernel
theorem dX6_shoot_192 : decode cX6_shoot 192 = .ok (.getfield 66, 3) := by decide +kernel
theorem dX6_shoot_195 : decode cX6_shoot 195 = .ok (.iload 10, 2) := by decide +kernel
theorem dX6_shoot_197 : decode cX6_shoot 197 = .ok (.dup2, 1) := by decide +kernel
theorem dX6_shoot_198 : decode cX6_shoot 198 = .ok (.iaload, 1) := by decide +kernel
theorem dX6_shoot_199 : decode cX6_shoot 199 = .ok (.iconst 1, 1) := by decide +kernel
theorem dX6_shoot_200 : decode cX6_shoot 200 = .ok (.iadd, 1) := by decide +kernel
theorem dX6_shoot_201 : decode cX6_shoot 201 = .ok (.iastore, 1) := by decide +kernel
theorem dX6_shoot_202 : decode cX6_shoot 202 = .ok (.aload_n 0, 1) := by decide +kernel
theorem dX6_shoot_203 : decode cX6_shoot 203 = .ok (.getfield 69, 3) := by decide +kernel
theorem dX6_shoot_206 : decode cX6_shoot 206 = .ok (.iload 10, 2) := by decide +kernel
theorem dX6_shoot_208 : decode cX6_shoot 208 = .ok (.dup2, 1) := by decide +kernel
theorem dX6_shoot_209 : decode cX6_shoot 209 = .ok (.iaload, 1) := by decide +kernel
theorem dX6_shoot_210 : decode cX6_shoot 210 = .ok (.iload 11, 2) := by decide +kernel
theorem dX6_shoot_212 : decode cX6_shoot 212 = .ok (.iadd, 1) := by decide +kernel
theorem dX6_shoot_213 : decode cX6_shoot 213 = .ok (.iastore, 1) := by decide +kernel
theorem dX6_shoot_214 : decode cX6_shoot 214 = .ok (.aload_n 0, 1) := by decide +kernel
theorem dX6_shoot_215 : decode cX6_shoot 215 = .ok (.getfield 54, 3) := by decide +kernel
theorem dX6_shoot_218 : decode cX6_shoot 218 = .ok (.iload_n 1, 1) := by decide +kernel
theorem dX6_shoot_219 : decode cX6_shoot 219 = .ok (.aload_n 0, 1) := by decide +kernel
theorem dX6_shoot_220 : decode cX6_shoot 220 = .ok (.getfield 51, 3) := by decide +kernel
theorem dX6_shoot_223 : decode cX6_shoot 223 = .ok (.iload_n 1, 1) := by decide +kernel
theorem dX6_shoot_224 : decode cX6_shoot 224 = .ok (.iaload, 1) := by decide +kernel
theorem dX6_shoot_225 : decode cX6_shoot 225 = .ok (.iconst 2, 1) := by decide +kernel
theorem dX6_shoot_226 : decode cX6_shoot 226 = .ok (.if_icmp .ne 18, 3) := by decide +kernel
theorem dX6_shoot_229 : decode cX6_shoot 229 = .ok (.aload_n 0, 1) := by decide +kernel
theorem dX6_shoot_230 : decode cX6_shoot 230 = .ok (.getfield 57, 3) := by decide +kernel
theorem dX6_shoot_233 : decode cX6_shoot 233 = .ok (.iload_n 1, 1) := by decide +kernel
theorem dX6_shoot_234 : decode cX6_shoot 234 = .ok (.iaload, 1) := by decide +kernel
theorem dX6_shoot_235 : decode cX6_shoot 235 = .ok (.iload 11, 2) := by decide +kernel
theorem dX6_shoot_237 : decode cX6_shoot 237 = .ok (.if_icmp .ge 7, 3) := by decide +kernel
theorem dX6_shoot_240 : decode cX6_shoot 240 = .ok (.iconst 0, 1) := by decide +kernel
theorem dX6_shoot_241 : decode cX6_shoot 241 = .ok (.goto 4, 3) := by decide +kernel
theorem dX6_shoot_244 : decode cX6_shoot 244 = .ok (.iconst 1, 1) := by decide +kernel
theorem dX6_shoot_245 : decode cX6_shoot 245 = .ok (.iastore, 1) := by decide +kernel
theorem dX6_shoot_246 : decode cX6_shoot 246 = .ok (.aload_n 0, 1) := by decide +kernel
theorem dX6_shoot_247 : decode cX6_shoot 247 = .ok (.getfield 57, 3) := by decide +kernel
theorem dX6_shoot_250 : decode cX6_shoot 250 = .ok (.iload_n 1, 1) := by decide +kernel
theorem dX6_shoot_251 : decode cX6_shoot 251 = .ok (.iload 11, 2) := by decide +kernel
theorem dX6_shoot_253 : decode cX6_shoot 253 = .ok (.iastore, 1) := by decide +kernel
theorem dX6_shoot_254 : decode cX6_shoot 254 = .ok (.aload_n 0, 1) := by decide +kernel
theorem dX6_shoot_255 : decode cX6_shoot 255 = .ok (.getfield 27, 3) := by decide +kernel
theorem dX6_shoot_258 : decode cX6_shoot 258 = .ok (.iload_n 1, 1) := by decide +kernel
theorem dX6_shoot_259 : decode cX6_shoot 259 = .ok (.aload_n 0, 1) := by decide +kernel
theorem dX6_shoot_260 : decode cX6_shoot 260 = .ok (.getfield 51, 3) := by decide +kernel
theorem dX6_shoot_263 : decode cX6_shoot 263 = .ok (.iload_n 1, 1) := by decide +kernel
theorem dX6_shoot_264 : decode cX6_shoot 264 = .ok (.iaload, 1) := by decide +kernel
theorem dX6_shoot_265 : decode cX6_shoot 265 = .ok (.iconst 2, 1) := by decide +kernel
theorem dX6_shoot_266 : decode cX6_shoot 266 = .ok (.if_icmp .ne 7, 3) := by decide +kernel
theorem dX6_shoot_269 : decode cX6_shoot 269 = .ok (.iconst 2, 1) := by decide +kernel
theorem dX6_shoot_270 : decode cX6_shoot 270 = .ok (.goto 4, 3) := by decide +kernel
theorem dX6_shoot_273 : decode cX6_shoot 273 = .ok (.iconst 1, 1) := by decide +kernel
theorem dX6_shoot_274 : decode cX6_shoot 274 = .ok (.iastore, 1) := by decide +kernel
theorem dX6_shoot_275 : decode cX6_shoot 275 = .ok (.aload_n 0, 1) := by decide +kernel
theorem dX6_shoot_276 : decode cX6_shoot 276 = .ok (.getfield 51, 3) := by decide +kernel
theorem dX6_shoot_279 : decode cX6_shoot 279 = .ok (.iload_n 1, 1) := by decide +kernel
theorem dX6_shoot_280 : decode cX6_shoot 280 = .ok (.aload_n 0, 1) := by decide +kernel
theorem dX6_shoot_281 : decode cX6_shoot 281 = .ok (.getfield 51, 3) := by decide +kernel
theorem dX6_shoot_284 : decode cX6_shoot 284 = .ok (.iload_n 1, 1) := by decide +kernel
theorem dX6_shoot_285 : decode cX6_shoot 285 = .ok (.iaload, 1) := by decide +kernel
theorem dX6_shoot_286 : decode cX6_shoot 286 = .ok (.iconst 2, 1) := by decide +kernel
theorem dX6_shoot_287 : decode cX6_shoot 287 = .ok (.irem, 1) := by decide +kernel
theorem dX6_shoot_288 : decode cX6_shoot 288 = .ok (.iastore, 1) := by decide +kernel
theorem dX6_shoot_289 : decode cX6_shoot 289 = .ok (.iload 9, 2) := by decide +kernel
theorem dX6_shoot_291 : decode cX6_shoot 291 = .ok (.ireturn, 1) := by decide +kernel
theorem dX6_shoot_292 : decode cX6_shoot 292 = .ok (.iconst 0, 1) := by decide +kernel
theorem dX6_shoot_293 : decode cX6_shoot 293 = .ok (.istore 11, 2) := by decide +kernel
theorem dX6_shoot_295 : decode cX6_shoot 295 = .ok (.iload 11, 2) := by decide +kernel
theorem dX6_shoot_297 : decode cX6_shoot 297 = .ok (.bipush 6, 2) := by decide +kernel
theorem dX6_shoot_299 : decode cX6_shoot 299 = .ok (.if_icmp .ge 28, 3) := by decide +kernel
theorem dX6_shoot_302 : decode cX6_shoot 302 = .ok (.aload_n 0, 1) := by decide +kernel
theorem dX6_shoot_303 : decode cX6_shoot 303 = .ok (.getfield 60, 3) := by decide +kernel
theorem dX6_shoot_306 : decode cX6_shoot 306 = .ok (.bipush 6, 2) := by decide +kernel
theorem dX6_shoot_308 : decode cX6_shoot 308 = .ok (.iload_n 1, 1) := by decide +kernel
theorem dX6_shoot_309 : decode cX6_shoot 309 = .ok (.imul, 1) := by decide +kernel
theorem dX6_shoot_310 : decode cX6_shoot 310 = .ok (.iload 11, 2) := by decide +kernel
theorem dX6_shoot_312 : decode cX6_shoot 312 = .ok (.iadd, 1) := by decide +kernel
theorem dX6_shoot_313 : decode cX6_shoot 313 = .ok (.aload_n 0, 1) := by decide +kernel
theorem dX6_shoot_314 : decode cX6_shoot 314 = .ok (.getfield 75, 3) := by decide +kernel
theorem dX6_shoot_317 : decode cX6_shoot 317 = .ok (.iload 11, 2) := by decide +kernel
theorem dX6_shoot_319 : decode cX6_shoot 319 = .ok (.iaload, 1) := by decide +kernel
theorem dX6_shoot_320 : decode cX6_shoot 320 = .ok (.iastore, 1) := by decide +kernel
theorem dX6_shoot_321 : decode cX6_shoot 321 = .ok (.iinc 11 1, 3) := by decide +kernel
theorem dX6_shoot_324 : decode cX6_shoot 324 = .ok (.goto (-29), 3) := by decide +kernel
theorem dX6_shoot_327 : decode cX6_shoot 327 = .ok (.aload_n 0, 1) := by decide +kernel
theorem dX6_shoot_328 : decode cX6_shoot 328 = .ok (.getfield 51, 3) := by decide +kernel
theorem dX6_shoot_331 : decode cX6_shoot 331 = .ok (.iload_n 1, 1) := by decide +kernel
theorem dX6_shoot_332 : decode cX6_shoot 332 = .ok (.iaload, 1) := by decide +kernel
theorem dX6_shoot_333 : decode cX6_shoot 333 = .ok (.bipush 6, 2) := by decide +kernel
theorem dX6_shoot_335 : decode cX6_shoot 335 = .ok (.if_icmp .ne 8, 3) := by decide +kernel
theorem dX6_shoot_338 : decode cX6_shoot 338 = .ok (.aload_n 0, 1) := by decide +kernel
theorem dX6_shoot_339 : decode cX6_shoot 339 = .ok (.iload_n 1, 1) := by decide +kernel
theorem dX6_shoot_340 : decode cX6_shoot 340 = .ok (.invokevirtual 147, 3) := by decide +kernel
theorem dX6_shoot_343 : decode cX6_shoot 343 = .ok (.iload 9, 2) := by decide +kernel
theorem dX6_shoot_345 : decode cX6_shoot 345 = .ok (.ireturn, 1) := by decide +kernel
theorem dX6_tries_0 : decode cX6_tries 0 = .ok (.aload_n 0, 1) := by decide +kernel
theorem dX6_tries_1 : decode cX6_tries 1 = .ok (.iload_n 1, 1) := by decide +kernel
theorem dX6_tries_2 : decode cX6_tries 2 = .ok (.invokevirtual 126, 3) := by decide +kernel
theorem dX6_tries_5 : decode cX6_tries 5 = .ok (.istore 7, 2) := by decide +kernel
theorem dX6_tries_7 : decode cX6_tries 7 = .ok (.aload_n 0, 1) := by decide +kernel
theorem dX6_tries_8 : decode cX6_tries 8 = .ok (.iload 7, 2) := by decide +kernel
theorem dX6_tries_10 : decode cX6_tries 10 = .ok (.iload_n 2, 1) := by decide +kernel
theorem dX6_tries_11 : decode cX6_tries 11 = .ok (.iload_n 3, 1) := by decide +kernel
theorem dX6_tries_12 : decode cX6_tries 12 = .ok (.iload 4, 2) := by decide +kernel
theorem dX6_tries_14 : decode cX6_tries 14 = .ok (.iload 5, 2) := by decide +kernel
theorem dX6_tries_16 : decode cX6_tries 16 = .ok (.iload 6, 2) := by decide +kernel
theorem dX6_tries_18 : decode cX6_tries 18 = .ok (.invokestatic 129, 3) := by decide +kernel
theorem dX6_tries_21 : decode cX6_tries 21 = .ok (.iload 7, 2) := by decide +kernel
theorem dX6_tries_23 : decode cX6_tries 23 = .ok (.ifCond .eq 15, 3) := by decide +kernel
theorem dX6_tries_26 : decode cX6_tries 26 = .ok (.aload_n 0, 1) := by decide +kernel
theorem dX6_tries_27 : decode cX6_tries 27 = .ok (.iload_n 1, 1) := by decide +kernel
theorem dX6_tries_28 : decode cX6_tries 28 = .ok (.invokevirtual 133, 3) := by decide +kernel
theorem dX6_tries_31 : decode cX6_tries 31 = .ok (.ifCond .eq 7, 3) := by decide +kernel
theorem dX6_tries_34 : decode cX6_tries 34 = .ok (.iconst 1, 1) := by decide +kernel
theorem dX6_tries_35 : decode cX6_tries 35 = .ok (.goto 4, 3) := by decide +kernel
theorem dX6_tries_38 : decode cX6_tries 38 = .ok (.iconst 0, 1) := by decide +kernel
theorem dX6_tries_39 : decode cX6_tries 39 = .ok (.invokevirtual 104, 3) := by decide +kernel
theorem dX6_tries_42 : decode cX6_tries 42 = .ok (.ifCond .ne 5, 3) := by decide +kernel
theorem dX6_tries_45 : decode cX6_tries 45 = .ok (.iconst 0, 1) := by decide +kernel
theorem dX6_tries_46 : decode cX6_tries 46 = .ok (.ireturn, 1) := by decide +kernel
theorem dX6_tries_47 : decode cX6_tries 47 = .ok (.aload_n 0, 1) := by decide +kernel
theorem dX6_tries_48 : decode cX6_tries 48 = .ok (.iload_n 1, 1) := by decide +kernel
theorem dX6_tries_49 : decode cX6_tries 49 = .ok (.invokevirtual 136, 3) := by decide +kernel
theorem dX6_tries_52 : decode cX6_tries 52 = .ok (.aload_n 0, 1) := by decide +kernel
theorem dX6_tries_53 : decode cX6_tries 53 = .ok (.iload_n 1, 1) := by decide +kernel
theorem dX6_tries_54 : decode cX6_tries 54 = .ok (.invokevirtual 140, 3) := by decide +kernel
theorem dX6_tries_57 : decode cX6_tries 57 = .ok (.istore 8, 2) := by decide +kernel
theorem dX6_tries_59 : decode cX6_tries 59 = .ok (.aload_n 0, 1) := by decide +kernel
theorem dX6_tries_60 : decode cX6_tries 60 = .ok (.iload 8, 2) := by decide +kernel
theorem dX6_tries_62 : decode cX6_tries 62 = .ok (.iload_n 2, 1) := by decide +kernel
theorem dX6_tries_63 : decode cX6_tries 63 = .ok (.iload_n 3, 1) := by decide +kernel
theorem dX6_tries_64 : decode cX6_tries 64 = .ok (.iload 4, 2) := by decide +kernel
theorem dX6_tries_66 : decode cX6_tries 66 = .ok (.iload 5, 2) := by decide +kernel
theorem dX6_tries_68 : decode cX6_tries 68 = .ok (.iload 6, 2) := by decide +kernel
theorem dX6_tries_70 : decode cX6_tries 70 = .ok (.invokevirtual 143, 3) := by decide +kernel
theorem dX6_tries_73 : decode cX6_tries 73 = .ok (.aload_n 0, 1) := by decide +kernel
theorem dX6_tries_74 : decode cX6_tries 74 = .ok (.getfield 75, 3) := by decide +kernel
theorem dX6_tries_77 : decode cX6_tries 77 = .ok (.iload 8, 2) := by decide +kernel
theorem dX6_tries_79 : decode cX6_tries 79 = .ok (.iaload, 1) := by decide +kernel
theorem dX6_tries_80 : decode cX6_tries 80 = .ok (.ireturn, 1) := by decide +kernel
theorem dX6_isFree_0 : decode cX6_isFree 0 = .ok (.aload_n 0, 1) := by decide +kernel
theorem dX6_isFree_1 : decode cX6_isFree 1 = .ok (.getfield 24, 3) := by decide +kernel
theorem dX6_isFree_4 : decode cX6_isFree 4 = .ok (.iload_n 1, 1) := by decide +kernel
theorem dX6_isFree_5 : decode cX6_isFree 5 = .ok (.iaload, 1) := by decide +kernel
theorem dX6_isFree_6 : decode cX6_isFree 6 = .ok (.iconst (-1), 1) := by decide +kernel
theorem dX6_isFree_7 : decode cX6_isFree 7 = .ok (.if_icmp .ne 7, 3) := by decide +kernel
theorem dX6_isFree_10 : decode cX6_isFree 10 = .ok (.iconst 1, 1) := by decide +kernel
theorem dX6_isFree_11 : decode cX6_isFree 11 = .ok (.goto 4, 3) := by decide +kernel
theorem dX6_isFree_14 : decode cX6_isFree 14 = .ok (.iconst 0, 1) := by decide +kernel
theorem dX6_isFree_15 : decode cX6_isFree 15 = .ok (.ireturn, 1) := by decide +kernel
theorem dX6_wanted_0 : decode cX6_wanted 0 = .ok (.iconst (-1), 1) := by decide +kernel
theorem dX6_wanted_1 : decode cX6_wanted 1 = .ok (.istore_n 1, 1) := by decide +kernel
theorem dX6_wanted_2 : decode cX6_wanted 2 = .ok (.iconst 0, 1) := by decide +kernel
theorem dX6_wanted_3 : decode cX6_wanted 3 = .ok (.istore_n 2, 1) := by decide +kernel
theorem dX6_wanted_4 : decode cX6_wanted 4 = .ok (.iconst 0, 1) := by decide +kernel
theorem dX6_wanted_5 : decode cX6_wanted 5 = .ok (.istore_n 3, 1) := by decide +kernel
theorem dX6_wanted_6 : decode cX6_wanted 6 = .ok (.iload_n 3, 1) := by decide +kernel
theorem dX6_wanted_7 : decode cX6_wanted 7 = .ok (.iconst 3, 1) := by decide +kernel
theorem dX6_wanted_8 : decode cX6_wanted 8 = .ok (.if_icmp .ge 112, 3) := by decide +kernel
theorem dX6_wanted_11 : decode cX6_wanted 11 = .ok (.sipush 10099, 3) := by decide +kernel
theorem dX6_wanted_14 : decode cX6_wanted 14 = .ok (.istore 4, 2) := by decide +kernel
theorem dX6_wanted_16 : decode cX6_wanted 16 = .ok (.iconst 0, 1) := by decide +kernel
theorem dX6_wanted_17 : decode cX6_wanted 17 = .ok (.istore 5, 2) := by decide +kernel
theorem dX6_wanted_19 : decode cX6_wanted 19 = .ok (.iload 5, 2) := by decide +kernel
theorem dX6_wanted_21 : decode cX6_wanted 21 = .ok (.aload_n 0, 1) := by decide +kernel
theorem dX6_wanted_22 : decode cX6_wanted 22 = .ok (.getfield 87, 3) := by decide +kernel
theorem dX6_wanted_25 : decode cX6_wanted 25 = .ok (.if_icmp .ge 56, 3) := by decide +kernel
theorem dX6_wanted_28 : decode cX6_wanted 28 = .ok (.aload_n 0, 1) := by decide +kernel
theorem dX6_wanted_29 : decode cX6_wanted 29 = .ok (.getfield 27, 3) := by decide +kernel
theorem dX6_wanted_32 : decode cX6_wanted 32 = .ok (.iload 5, 2) := by decide +kernel
theorem dX6_wanted_34 : decode cX6_wanted 34 = .ok (.iaload, 1) := by decide +kernel
theorem dX6_wanted_35 : decode cX6_wanted 35 = .ok (.ifCond .ne 36, 3) := by decide +kernel
theorem dX6_wanted_38 : decode cX6_wanted 38 = .ok (.aload_n 0, 1) := by decide +kernel
theorem dX6_wanted_39 : decode cX6_wanted 39 = .ok (.getfield 39, 3) := by decide +kernel
theorem dX6_wanted_42 : decode cX6_wanted 42 = .ok (.iload 5, 2) := by decide +kernel
theorem dX6_wanted_44 : decode cX6_wanted 44 = .ok (.iaload, 1) := by decide +kernel
theorem dX6_wanted_45 : decode cX6_wanted 45 = .ok (.iload_n 3, 1) := by decide +kernel
theorem dX6_wanted_46 : decode cX6_wanted 46 = .ok (.if_icmp .ne 25, 3) := by decide +kernel
theorem dX6_wanted_49 : decode cX6_wanted 49 = .ok (.aload_n 0, 1) := by decide +kernel
theorem dX6_wanted_50 : decode cX6_wanted 50 = .ok (.getfield 36, 3) := by decide +kernel
theorem dX6_wanted_53 : decode cX6_wanted 53 = .ok (.iload 5, 2) := by decide +kernel
theorem dX6_wanted_55 : decode cX6_wanted 55 = .ok (.iaload, 1) := by decide +kernel
theorem dX6_wanted_56 : decode cX6_wanted 56 = .ok (.iload 4, 2) := by decide +kernel
theorem dX6_wanted_58 : decode cX6_wanted 58 = .ok (.if_icmp .ge 13, 3) := by decide +kernel
theorem dX6_wanted_61 : decode cX6_wanted 61 = .ok (.aload_n 0, 1) := by decide +kernel
theorem dX6_wanted_62 : decode cX6_wanted 62 = .ok (.getfield 36, 3) := by decide +kernel
theorem dX6_wanted_65 : decode cX6_wanted 65 = .ok (.iload 5, 2) := by decide +kernel
theorem dX6_wanted_67 : decode cX6_wanted 67 = .ok (.iaload, 1) := by decide +kernel
theorem dX6_wanted_68 : decode cX6_wanted 68 = .ok (.goto 5, 3) := by decide +kernel
theorem dX6_wanted_71 : decode cX6_wanted 71 = .ok (.iload 4, 2) := by decide +kernel
theorem dX6_wanted_73 : decode cX6_wanted 73 = .ok (.istore 4, 2) := by decide +kernel
theorem dX6_wanted_75 : decode cX6_wanted 75 = .ok (.iinc 5 1, 3) := by decide +kernel
theorem dX6_wanted_78 : decode cX6_wanted 78 = .ok (.goto (-59), 3) := by decide +kernel
theorem dX6_wanted_81 : decode cX6_wanted 81 = .ok (.aload_n 0, 1) := by decide +kernel
theorem dX6_wanted_82 : decode cX6_wanted 82 = .ok (.iload_n 3, 1) := by decide +kernel
theorem dX6_wanted_83 : decode cX6_wanted 83 = .ok (.invokevirtual 149, 3) := by decide +kernel
theorem dX6_wanted_86 : decode cX6_wanted 86 = .ok (.ifCond .eq 28, 3) := by decide +kernel
theorem dX6_wanted_89 : decode cX6_wanted 89 = .ok (.aload_n 0, 1) := by decide +kernel
theorem dX6_wanted_90 : decode cX6_wanted 90 = .ok (.getfield 20, 3) := by decide +kernel
theorem dX6_wanted_93 : decode cX6_wanted 93 = .ok (.iload_n 3, 1) := by decide +kernel
theorem dX6_wanted_94 : decode cX6_wanted 94 = .ok (.baload, 1) := by decide +kernel
theorem dX6_wanted_95 : decode cX6_wanted 95 = .ok (.ifCond .eq 19, 3) := by decide +kernel
theorem dX6_wanted_98 : decode cX6_wanted 98 = .ok (.iload_n 1, 1) := by decide +kernel
theorem dX6_wanted_99 : decode cX6_wanted 99 = .ok (.iconst (-1), 1) := by decide +kernel
theorem dX6_wanted_100 : decode cX6_wanted 100 = .ok (.if_icmp .eq 9, 3) := by decide +kernel
theorem dX6_wanted_103 : decode cX6_wanted 103 = .ok (.iload 4, 2) := by decide +kernel
theorem dX6_wanted_105 : decode cX6_wanted 105 = .ok (.iload_n 2, 1) := by decide +kernel
theorem dX6_wanted_106 : decode cX6_wanted 106 = .ok (.if_icmp .ge 8, 3) := by decide +kernel
theorem dX6_wanted_109 : decode cX6_wanted 109 = .ok (.iload_n 3, 1) := by decide +kernel
theorem dX6_wanted_110 : decode cX6_wanted 110 = .ok (.istore_n 1, 1) := by decide +kernel
theorem dX6_wanted_111 : decode cX6_wanted 111 = .ok (.iload 4, 2) := by decide +kernel
theorem dX6_wanted_113 : decode cX6_wanted 113 = .ok (.istore_n 2, 1) := by decide +kernel
theorem dX6_wanted_114 : decode cX6_wanted 114 = .ok (.iinc 3 1, 3) := by decide +kernel
theorem dX6_wanted_117 : decode cX6_wanted 117 = .ok (.goto (-111), 3) := by decide +kernel
theorem dX6_wanted_120 : decode cX6_wanted 120 = .ok (.iload_n 1, 1) := by decide +kernel
theorem dX6_wanted_121 : decode cX6_wanted 121 = .ok (.ireturn, 1) := by decide +kernel
theorem dX6_begins_0 : decode cX6_begins 0 = .ok (.iconst 0, 1) := by decide +kernel
theorem dX6_begins_1 : decode cX6_begins 1 = .ok (.istore_n 1, 1) := by decide +kernel
theorem dX6_begins_2 : decode cX6_begins 2 = .ok (.iload_n 1, 1) := by decide +kernel
theorem dX6_begins_3 : decode cX6_begins 3 = .ok (.aload_n 0, 1) := by decide +kernel
theorem dX6_begins_4 : decode cX6_begins 4 = .ok (.getfield 87, 3) := by decide +kernel
theorem dX6_begins_7 : decode cX6_begins 7 = .ok (.if_icmp .ge 42, 3) := by decide +kernel
theorem dX6_begins_10 : decode cX6_begins 10 = .ok (.aload_n 0, 1) := by decide +kernel
theorem dX6_begins_11 : decode cX6_begins 11 = .ok (.getfield 81, 3) := by decide +kernel
theorem dX6_begins_14 : decode cX6_begins 14 = .ok (.iload_n 1, 1) := by decide +kernel
theorem dX6_begins_15 : decode cX6_begins 15 = .ok (.aload_n 0, 1) := by decide +kernel
theorem dX6_begins_16 : decode cX6_begins 16 = .ok (.getfield 27, 3) := by decide +kernel
theorem dX6_begins_19 : decode cX6_begins 19 = .ok (.iload_n 1, 1) := by decide +kernel
theorem dX6_begins_20 : decode cX6_begins 20 = .ok (.iaload, 1) := by decide +kernel
theorem dX6_begins_21 : decode cX6_begins 21 = .ok (.ifCond .ne 16, 3) := by decide +kernel
theorem dX6_begins_24 : decode cX6_begins 24 = .ok (.aload_n 0, 1) := by decide +kernel
theorem dX6_begins_25 : decode cX6_begins 25 = .ok (.getfield 36, 3) := by decide +kernel
theorem dX6_begins_28 : decode cX6_begins 28 = .ok (.iload_n 1, 1) := by decide +kernel
theorem dX6_begins_29 : decode cX6_begins 29 = .ok (.iaload, 1) := by decide +kernel
theorem dX6_begins_30 : decode cX6_begins 30 = .ok (.aload_n 0, 1) := by decide +kernel
theorem dX6_begins_31 : decode cX6_begins 31 = .ok (.getfield 101, 3) := by decide +kernel
theorem dX6_begins_34 : decode cX6_begins 34 = .ok (.if_icmp .le 7, 3) := by decide +kernel
theorem dX6_begins_37 : decode cX6_begins 37 = .ok (.iconst 1, 1) := by decide +kernel
theorem dX6_begins_38 : decode cX6_begins 38 = .ok (.goto 4, 3) := by decide +kernel
theorem dX6_begins_41 : decode cX6_begins 41 = .ok (.iconst 0, 1) := by decide +kernel
theorem dX6_begins_42 : decode cX6_begins 42 = .ok (.bastore, 1) := by decide +kernel
theorem dX6_begins_43 : decode cX6_begins 43 = .ok (.iinc 1 1, 3) := by decide +kernel
theorem dX6_begins_46 : decode cX6_begins 46 = .ok (.goto (-44), 3) := by decide +kernel
theorem dX6_begins_49 : decode cX6_begins 49 = .ok (.iconst 0, 1) := by decide +kernel
theorem dX6_begins_50 : decode cX6_begins 50 = .ok (.istore_n 1, 1) := by decide +kernel
theorem dX6_begins_51 : decode cX6_begins 51 = .ok (.iload_n 1, 1) := by decide +kernel
theorem dX6_begins_52 : decode cX6_begins 52 = .ok (.iconst (-1), 1) := by decide +kernel
theorem dX6_begins_53 : decode cX6_begins 53 = .ok (.if_icmp .eq 205, 3) := by decide +kernel
theorem dX6_begins_56 : decode cX6_begins 56 = .ok (.iconst (-1), 1) := by decide +kernel
theorem dX6_begins_57 : decode cX6_begins 57 = .ok (.istore_n 1, 1) := by decide +kernel
theorem dX6_begins_58 : decode cX6_begins 58 = .ok (.iconst 0, 1) := by decide +kernel
theorem dX6_begins_59 : decode cX6_begins 59 = .ok (.istore_n 2, 1) := by decide +kernel
theorem dX6_begins_60 : decode cX6_begins 60 = .ok (.iload_n 2, 1) := by decide +kernel
theorem dX6_begins_61 : decode cX6_begins 61 = .ok (.aload_n 0, 1) := by decide +kernel
theorem dX6_begins_62 : decode cX6_begins 62 = .ok (.getfield 87, 3) := by decide +kernel
theorem dX6_begins_65 : decode cX6_begins 65 = .ok (.if_icmp .ge 44, 3) := by decide +kernel
theorem dX6_begins_68 : decode cX6_begins 68 = .ok (.aload_n 0, 1) := by decide +kernel
theorem dX6_begins_69 : decode cX6_begins 69 = .ok (.getfield 81, 3) := by decide +kernel
theorem dX6_begins_72 : decode cX6_begins 72 = .ok (.iload_n 2, 1) := by decide +kernel
theorem dX6_begins_73 : decode cX6_begins 73 = .ok (.baload, 1) := by decide +kernel
theorem dX6_begins_74 : decode cX6_begins 74 = .ok (.ifCond .ne 27, 3) := by decide +kernel
theorem dX6_begins_77 : decode cX6_begins 77 = .ok (.iload_n 1, 1) := by decide +kernel
theorem dX6_begins_78 : decode cX6_begins 78 = .ok (.iconst (-1), 1) := by decide +kernel
theorem dX6_begins_79 : decode cX6_begins 79 = .ok (.if_icmp .eq 18, 3) := by decide +kernel
theorem dX6_begins_82 : decode cX6_begins 82 = .ok (.aload_n 0, 1) := by decide +kernel
theorem dX6_begins_83 : decode cX6_begins 83 = .ok (.getfield 36, 3) := by decide +kernel
theorem dX6_begins_86 : decode cX6_begins 86 = .ok (.iload_n 2, 1) := by decide +kernel
theorem dX6_begins_87 : decode cX6_begins 87 = .ok (.iaload, 1) := by decide +kernel
theorem dX6_begins_88 : decode cX6_begins 88 = .ok (.aload_n 0, 1) := by decide +kernel
theorem dX6_begins_89 : decode cX6_begins 89 = .ok (.getfield 36, 3) := by decide +kernel
theorem dX6_begins_92 : decode cX6_begins 92 = .ok (.iload_n 1, 1) := by decide +kernel
theorem dX6_begins_93 : decode cX6_begins 93 = .ok (.iaload, 1) := by decide +kernel
theorem dX6_begins_94 : decode cX6_begins 94 = .ok (.if_icmp .ge 7, 3) := by decide +kernel
theorem dX6_begins_97 : decode cX6_begins 97 = .ok (.iload_n 2, 1) := by decide +kernel
theorem dX6_begins_98 : decode cX6_begins 98 = .ok (.goto 4, 3) := by decide +kernel
theorem dX6_begins_101 : decode cX6_begins 101 = .ok (.iload_n 1, 1) := by decide +kernel
theorem dX6_begins_102 : decode cX6_begins 102 = .ok (.istore_n 1, 1) := by decide +kernel
theorem dX6_begins_103 : decode cX6_begins 103 = .ok (.iinc 2 1, 3) := by decide +kernel
theorem dX6_begins_106 : decode cX6_begins 106 = .ok (.goto (-46), 3) := by decide +kernel
theorem dX6_begins_109 : decode cX6_begins 109 = .ok (.iload_n 1, 1) := by decide +kernel
theorem dX6_begins_110 : decode cX6_begins 110 = .ok (.iconst (-1), 1) := by decide +kernel
theorem dX6_begins_111 : decode cX6_begins 111 = .ok (.if_icmp .eq (-60), 3) := by decide +kernel
theorem dX6_begins_114 : decode cX6_begins 114 = .ok (.aload_n 0, 1) := by decide +kernel
theorem dX6_begins_115 : decode cX6_begins 115 = .ok (.getfield 81, 3) := by decide +kernel
theorem dX6_begins_118 : decode cX6_begins 118 = .ok (.iload_n 1, 1) := by decide +kernel
theorem dX6_begins_119 : decode cX6_begins 119 = .ok (.iconst 1, 1) := by decide +kernel
theorem dX6_begins_120 : decode cX6_begins 120 = .ok (.bastore, 1) := by decide +kernel
theorem dX6_begins_121 : decode cX6_begins 121 = .ok (.aload_n 0, 1) := by decide +kernel
theorem dX6_begins_122 : decode cX6_begins 122 = .ok (.aload_n 0, 1) := by decide +kernel
theorem dX6_begins_123 : decode cX6_begins 123 = .ok (.getfield 39, 3) := by decide +kernel
theorem dX6_begins_126 : decode cX6_begins 126 = .ok (.iload_n 1, 1) := by decide +kernel
theorem dX6_begins_127 : decode cX6_begins 127 = .ok (.iaload, 1) := by decide +kernel
theorem dX6_begins_128 : decode cX6_begins 128 = .ok (.invokevirtual 149, 3) := by decide +kernel
theorem dX6_begins_131 : decode cX6_begins 131 = .ok (.ifCond .eq 26, 3) := by decide +kernel
theorem dX6_begins_134 : decode cX6_begins 134 = .ok (.aload_n 0, 1) := by decide +kernel
theorem dX6_begins_135 : decode cX6_begins 135 = .ok (.getfield 20, 3) := by decide +kernel
theorem dX6_begins_138 : decode cX6_begins 138 = .ok (.aload_n 0, 1) := by decide +kernel
theorem dX6_begins_139 : decode cX6_begins 139 = .ok (.getfield 39, 3) := by decide +kernel
theorem dX6_begins_142 : decode cX6_begins 142 = .ok (.iload_n 1, 1) := by decide +kernel
theorem dX6_begins_143 : decode cX6_begins 143 = .ok (.iaload, 1) := by decide +kernel
theorem dX6_begins_144 : decode cX6_begins 144 = .ok (.baload, 1) := by decide +kernel
theorem dX6_begins_145 : decode cX6_begins 145 = .ok (.ifCond .ne 12, 3) := by decide +kernel
theorem dX6_begins_148 : decode cX6_begins 148 = .ok (.aload_n 0, 1) := by decide +kernel
theorem dX6_begins_149 : decode cX6_begins 149 = .ok (.getfield 39, 3) := by decide +kernel
theorem dX6_begins_152 : decode cX6_begins 152 = .ok (.iload_n 1, 1) := by decide +kernel
theorem dX6_begins_153 : decode cX6_begins 153 = .ok (.iaload, 1) := by decide +kernel
theorem dX6_begins_154 : decode cX6_begins 154 = .ok (.goto 4, 3) := by decide +kernel
theorem dX6_begins_157 : decode cX6_begins 157 = .ok (.iconst (-1), 1) := by decide +kernel
theorem dX6_begins_158 : decode cX6_begins 158 = .ok (.istore_n 2, 1) := by decide +kernel
theorem dX6_begins_159 : decode cX6_begins 159 = .ok (.iconst 2, 1) := by decide +kernel
theorem dX6_begins_160 : decode cX6_begins 160 = .ok (.istore_n 3, 1) := by decide +kernel
theorem dX6_begins_161 : decode cX6_begins 161 = .ok (.iload_n 3, 1) := by decide +kernel
theorem dX6_begins_162 : decode cX6_begins 162 = .ok (.ifCond .lt 47, 3) := by decide +kernel
theorem dX6_begins_165 : decode cX6_begins 165 = .ok (.iload_n 2, 1) := by decide +kernel
theorem dX6_begins_166 : decode cX6_begins 166 = .ok (.iconst (-1), 1) := by decide +kernel
theorem dX6_begins_167 : decode cX6_begins 167 = .ok (.if_icmp .eq 13, 3) := by decide +kernel
theorem dX6_begins_170 : decode cX6_begins 170 = .ok (.iload_n 2, 1) := by decide +kernel
theorem dX6_begins_171 : decode cX6_begins 171 = .ok (.aload_n 0, 1) := by decide +kernel
theorem dX6_begins_172 : decode cX6_begins 172 = .ok (.getfield 39, 3) := by decide +kernel
theorem dX6_begins_175 : decode cX6_begins 175 = .ok (.iload_n 1, 1) := by decide +kernel
theorem dX6_begins_176 : decode cX6_begins 176 = .ok (.iaload, 1) := by decide +kernel
theorem dX6_begins_177 : decode cX6_begins 177 = .ok (.if_icmp .eq 32, 3) := by decide +kernel
theorem dX6_begins_180 : decode cX6_begins 180 = .ok (.aload_n 0, 1) := by decide +kernel
theorem dX6_begins_181 : decode cX6_begins 181 = .ok (.iload_n 3, 1) := by decide +kernel
theorem dX6_begins_182 : decode cX6_begins 182 = .ok (.invokevirtual 149, 3) := by decide +kernel
theorem dX6_begins_185 : decode cX6_begins 185 = .ok (.ifCond .eq 16, 3) := by decide +kernel
theorem dX6_begins_188 : decode cX6_begins 188 = .ok (.aload_n 0, 1) := by decide +kernel
theorem dX6_begins_189 : decode cX6_begins 189 = .ok (.getfield 20, 3) := by decide +kernel
theorem dX6_begins_192 : decode cX6_begins 192 = .ok (.iload_n 3, 1) := by decide +kernel
theorem dX6_begins_193 : decode cX6_begins 193 = .ok (.baload, 1) := by decide +kernel
theorem dX6_begins_194 : decode cX6_begins 194 = .ok (.ifCond .ne 7, 3) := by decide +kernel
theorem dX6_begins_197 : decode cX6_begins 197 = .ok (.iload_n 3, 1) := by decide +kernel
theorem dX6_begins_198 : decode cX6_begins 198 = .ok (.goto 4, 3) := by decide +kernel
theorem dX6_begins_201 : decode cX6_begins 201 = .ok (.iload_n 2, 1) := by decide +kernel
theorem dX6_begins_202 : decode cX6_begins 202 = .ok (.istore_n 2, 1) := by decide +kernel
theorem dX6_begins_203 : decode cX6_begins 203 = .ok (.iinc 3 (-1), 3) := by decide +kernel
theorem dX6_begins_206 : decode cX6_begins 206 = .ok (.goto (-45), 3) := by decide +kernel
theorem dX6_begins_209 : decode cX6_begins 209 = .ok (.iload_n 2, 1) := by decide +kernel
theorem dX6_begins_210 : decode cX6_begins 210 = .ok (.iconst (-1), 1) := by decide +kernel
theorem dX6_begins_211 : decode cX6_begins 211 = .ok (.if_icmp .ne 16, 3) := by decide +kernel
theorem dX6_begins_214 : decode cX6_begins 214 = .ok (.aload_n 0, 1) := by decide +kernel
theorem dX6_begins_215 : decode cX6_begins 215 = .ok (.getfield 36, 3) := by decide +kernel
theorem dX6_begins_218 : decode cX6_begins 218 = .ok (.iload_n 1, 1) := by decide +kernel
theorem dX6_begins_219 : decode cX6_begins 219 = .ok (.dup2, 1) := by decide +kernel
theorem dX6_begins_220 : decode cX6_begins 220 = .ok (.iaload, 1) := by decide +kernel
theorem dX6_begins_221 : decode cX6_begins 221 = .ok (.iconst 1, 1) := by decide +kernel
theorem dX6_begins_222 : decode cX6_begins 222 = .ok (.iadd, 1) := by decide +kernel
theorem dX6_begins_223 : decode cX6_begins 223 = .ok (.iastore, 1) := by decide +kernel
theorem dX6_begins_224 : decode cX6_begins 224 = .ok (.goto 31, 3) := by decide +kernel
theorem dX6_begins_227 : decode cX6_begins 227 = .ok (.aload_n 0, 1) := by decide +kernel
theorem dX6_begins_228 : decode cX6_begins 228 = .ok (.getfield 27, 3) := by decide +kernel
theorem dX6_begins_231 : decode cX6_begins 231 = .ok (.iload_n 1, 1) := by decide +kernel
theorem dX6_begins_232 : decode cX6_begins 232 = .ok (.iconst 1, 1) := by decide +kernel
theorem dX6_begins_233 : decode cX6_begins 233 = .ok (.iastore, 1) := by decide +kernel
theorem dX6_begins_234 : decode cX6_begins 234 = .ok (.aload_n 0, 1) := by decide +kernel
theorem dX6_begins_235 : decode cX6_begins 235 = .ok (.getfield 42, 3) := by decide +kernel
theorem dX6_begins_238 : decode cX6_begins 238 = .ok (.iload_n 1, 1) := by decide +kernel
theorem dX6_begins_239 : decode cX6_begins 239 = .ok (.iload_n 2, 1) := by decide +kernel
theorem dX6_begins_240 : decode cX6_begins 240 = .ok (.iastore, 1) := by decide +kernel
theorem dX6_begins_241 : decode cX6_begins 241 = .ok (.aload_n 0, 1) := by decide +kernel
theorem dX6_begins_242 : decode cX6_begins 242 = .ok (.getfield 24, 3) := by decide +kernel
theorem dX6_begins_245 : decode cX6_begins 245 = .ok (.iload_n 2, 1) := by decide +kernel
theorem dX6_begins_246 : decode cX6_begins 246 = .ok (.iload_n 1, 1) := by decide +kernel
theorem dX6_begins_247 : decode cX6_begins 247 = .ok (.iastore, 1) := by decide +kernel
theorem dX6_begins_248 : decode cX6_begins 248 = .ok (.aload_n 0, 1) := by decide +kernel
theorem dX6_begins_249 : decode cX6_begins 249 = .ok (.getfield 20, 3) := by decide +kernel
theorem dX6_begins_252 : decode cX6_begins 252 = .ok (.iload_n 2, 1) := by decide +kernel
theorem dX6_begins_253 : decode cX6_begins 253 = .ok (.iconst 1, 1) := by decide +kernel
theorem dX6_begins_254 : decode cX6_begins 254 = .ok (.bastore, 1) := by decide +kernel
theorem dX6_begins_255 : decode cX6_begins 255 = .ok (.goto (-204), 3) := by decide +kernel
theorem dX6_begins_258 : decode cX6_begins 258 = .ok (.return_, 1) := by decide +kernel
theorem dX6_passes_0 : decode cX6_passes 0 = .ok (.aload_n 0, 1) := by decide +kernel
theorem dX6_passes_1 : decode cX6_passes 1 = .ok (.dup, 1) := by decide +kernel
theorem dX6_passes_2 : decode cX6_passes 2 = .ok (.getfield 101, 3) := by decide +kernel
theorem dX6_passes_5 : decode cX6_passes 5 = .ok (.iconst 1, 1) := by decide +kernel
theorem dX6_passes_6 : decode cX6_passes 6 = .ok (.iadd, 1) := by decide +kernel
theorem dX6_passes_7 : decode cX6_passes 7 = .ok (.putfield 101, 3) := by decide +kernel
theorem dX6_passes_10 : decode cX6_passes 10 = .ok (.aload_n 0, 1) := by decide +kernel
theorem dX6_passes_11 : decode cX6_passes 11 = .ok (.getfield 13, 3) := by decide +kernel
theorem dX6_passes_14 : decode cX6_passes 14 = .ok (.iconst (-1), 1) := by decide +kernel
theorem dX6_passes_15 : decode cX6_passes 15 = .ok (.if_icmp .eq 66, 3) := by decide +kernel
theorem dX6_passes_18 : decode cX6_passes 18 = .ok (.aload_n 0, 1) := by decide +kernel
theorem dX6_passes_19 : decode cX6_passes 19 = .ok (.dup, 1) := by decide +kernel
theorem dX6_passes_20 : decode cX6_passes 20 = .ok (.getfield 152, 3) := by decide +kernel
theorem dX6_passes_23 : decode cX6_passes 23 = .ok (.iconst 1, 1) := by decide +kernel
theorem dX6_passes_24 : decode cX6_passes 24 = .ok (.isub, 1) := by decide +kernel
theorem dX6_passes_25 : decode cX6_passes 25 = .ok (.putfield 152, 3) := by decide +kernel
theorem dX6_passes_28 : decode cX6_passes 28 = .ok (.aload_n 0, 1) := by decide +kernel
theorem dX6_passes_29 : decode cX6_passes 29 = .ok (.getfield 152, 3) := by decide +kernel
theorem dX6_passes_32 : decode cX6_passes 32 = .ok (.ifCond .ne 49, 3) := by decide +kernel
theorem dX6_passes_35 : decode cX6_passes 35 = .ok (.aload_n 0, 1) := by decide +kernel
theorem dX6_passes_36 : decode cX6_passes 36 = .ok (.getfield 20, 3) := by decide +kernel
theorem dX6_passes_39 : decode cX6_passes 39 = .ok (.aload_n 0, 1) := by decide +kernel
theorem dX6_passes_40 : decode cX6_passes 40 = .ok (.getfield 13, 3) := by decide +kernel
theorem dX6_passes_43 : decode cX6_passes 43 = .ok (.iconst 0, 1) := by decide +kernel
theorem dX6_passes_44 : decode cX6_passes 44 = .ok (.bastore, 1) := by decide +kernel
theorem dX6_passes_45 : decode cX6_passes 45 = .ok (.iconst 0, 1) := by decide +kernel
theorem dX6_passes_46 : decode cX6_passes 46 = .ok (.istore_n 1, 1) := by decide +kernel
theorem dX6_passes_47 : decode cX6_passes 47 = .ok (.iload_n 1, 1) := by decide +kernel
theorem dX6_passes_48 : decode cX6_passes 48 = .ok (.sipush 549, 3) := by decide +kernel
theorem dX6_passes_51 : decode cX6_passes 51 = .ok (.if_icmp .ge 25, 3) := by decide +kernel
theorem dX6_passes_54 : decode cX6_passes 54 = .ok (.aload_n 0, 1) := by decide +kernel
theorem dX6_passes_55 : decode cX6_passes 55 = .ok (.getfield 16, 3) := by decide +kernel
theorem dX6_passes_58 : decode cX6_passes 58 = .ok (.sipush 549, 3) := by decide +kernel
theorem dX6_passes_61 : decode cX6_passes 61 = .ok (.aload_n 0, 1) := by decide +kernel
theorem dX6_passes_62 : decode cX6_passes 62 = .ok (.getfield 13, 3) := by decide +kernel
theorem dX6_passes_65 : decode cX6_passes 65 = .ok (.imul, 1) := by decide +kernel
theorem dX6_passes_66 : decode cX6_passes 66 = .ok (.iload_n 1, 1) := by decide +kernel
theorem dX6_passes_67 : decode cX6_passes 67 = .ok (.iadd, 1) := by decide +kernel
theorem dX6_passes_68 : decode cX6_passes 68 = .ok (.iconst 0, 1) := by decide +kernel
theorem dX6_passes_69 : decode cX6_passes 69 = .ok (.iastore, 1) := by decide +kernel
theorem dX6_passes_70 : decode cX6_passes 70 = .ok (.iinc 1 1, 3) := by decide +kernel
theorem dX6_passes_73 : decode cX6_passes 73 = .ok (.goto (-26), 3) := by decide +kernel
theorem dX6_passes_76 : decode cX6_passes 76 = .ok (.aload_n 0, 1) := by decide +kernel
theorem dX6_passes_77 : decode cX6_passes 77 = .ok (.iconst (-1), 1) := by decide +kernel
theorem dX6_passes_78 : decode cX6_passes 78 = .ok (.putfield 13, 3) := by decide +kernel
theorem dX6_passes_81 : decode cX6_passes 81 = .ok (.aload_n 0, 1) := by decide +kernel
theorem dX6_passes_82 : decode cX6_passes 82 = .ok (.getfield 13, 3) := by decide +kernel
theorem dX6_passes_85 : decode cX6_passes 85 = .ok (.iconst (-1), 1) := by decide +kernel
theorem dX6_passes_86 : decode cX6_passes 86 = .ok (.if_icmp .ne 19, 3) := by decide +kernel
theorem dX6_passes_89 : decode cX6_passes 89 = .ok (.aload_n 0, 1) := by decide +kernel
theorem dX6_passes_90 : decode cX6_passes 90 = .ok (.aload_n 0, 1) := by decide +kernel
theorem dX6_passes_91 : decode cX6_passes 91 = .ok (.invokevirtual 155, 3) := by decide +kernel
theorem dX6_passes_94 : decode cX6_passes 94 = .ok (.putfield 13, 3) := by decide +kernel
theorem dX6_passes_97 : decode cX6_passes 97 = .ok (.aload_n 0, 1) := by decide +kernel
theorem dX6_passes_98 : decode cX6_passes 98 = .ok (.aload_n 0, 1) := by decide +kernel
theorem dX6_passes_99 : decode cX6_passes 99 = .ok (.getfield 7, 3) := by decide +kernel
theorem dX6_passes_102 : decode cX6_passes 102 = .ok (.putfield 152, 3) := by decide +kernel
theorem dX6_passes_105 : decode cX6_passes 105 = .ok (.aload_n 0, 1) := by decide +kernel
theorem dX6_passes_106 : decode cX6_passes 106 = .ok (.invokevirtual 158, 3) := by decide +kernel
theorem dX6_passes_109 : decode cX6_passes 109 = .ok (.return_, 1) := by decide +kernel
theorem dX6_pass_0 : decode cX6_pass 0 = .ok (.iload_n 1, 1) := by decide +kernel
theorem dX6_pass_1 : decode cX6_pass 1 = .ok (.iconst 1, 1) := by decide +kernel
theorem dX6_pass_2 : decode cX6_pass 2 = .ok (.bipush 48, 2) := by decide +kernel
theorem dX6_pass_4 : decode cX6_pass 4 = .ok (.invokestatic 90, 3) := by decide +kernel
theorem dX6_pass_7 : decode cX6_pass 7 = .ok (.istore_n 2, 1) := by decide +kernel
theorem dX6_pass_8 : decode cX6_pass 8 = .ok (.aload_n 0, 1) := by decide +kernel
theorem dX6_pass_9 : decode cX6_pass 9 = .ok (.iload_n 2, 1) := by decide +kernel
theorem dX6_pass_10 : decode cX6_pass 10 = .ok (.iload_n 2, 1) := by decide +kernel
theorem dX6_pass_11 : decode cX6_pass 11 = .ok (.ifCond .eq 19, 3) := by decide +kernel
theorem dX6_pass_14 : decode cX6_pass 14 = .ok (.aload_n 0, 1) := by decide +kernel
theorem dX6_pass_15 : decode cX6_pass 15 = .ok (.getfield 101, 3) := by decide +kernel
theorem dX6_pass_18 : decode cX6_pass 18 = .ok (.iload_n 1, 1) := by decide +kernel
theorem dX6_pass_19 : decode cX6_pass 19 = .ok (.iadd, 1) := by decide +kernel
theorem dX6_pass_20 : decode cX6_pass 20 = .ok (.sipush 9999, 3) := by decide +kernel
theorem dX6_pass_23 : decode cX6_pass 23 = .ok (.if_icmp .gt 7, 3) := by decide +kernel
theorem dX6_pass_26 : decode cX6_pass 26 = .ok (.iconst 1, 1) := by decide +kernel
theorem dX6_pass_27 : decode cX6_pass 27 = .ok (.goto 4, 3) := by decide +kernel
theorem dX6_pass_30 : decode cX6_pass 30 = .ok (.iconst 0, 1) := by decide +kernel
theorem dX6_pass_31 : decode cX6_pass 31 = .ok (.invokevirtual 161, 3) := by decide +kernel
theorem dX6_pass_34 : decode cX6_pass 34 = .ok (.ifCond .ne 5, 3) := by decide +kernel
theorem dX6_pass_37 : decode cX6_pass 37 = .ok (.iconst 0, 1) := by decide +kernel
theorem dX6_pass_38 : decode cX6_pass 38 = .ok (.ireturn, 1) := by decide +kernel
theorem dX6_pass_39 : decode cX6_pass 39 = .ok (.iconst 0, 1) := by decide +kernel
theorem dX6_pass_40 : decode cX6_pass 40 = .ok (.istore_n 3, 1) := by decide +kernel
theorem dX6_pass_41 : decode cX6_pass 41 = .ok (.iload_n 3, 1) := by decide +kernel
theorem dX6_pass_42 : decode cX6_pass 42 = .ok (.iload_n 1, 1) := by decide +kernel
theorem dX6_pass_43 : decode cX6_pass 43 = .ok (.if_icmp .ge 13, 3) := by decide +kernel
theorem dX6_pass_46 : decode cX6_pass 46 = .ok (.aload_n 0, 1) := by decide +kernel
theorem dX6_pass_47 : decode cX6_pass 47 = .ok (.invokevirtual 164, 3) := by decide +kernel
theorem dX6_pass_50 : decode cX6_pass 50 = .ok (.iinc 3 1, 3) := by decide +kernel
theorem dX6_pass_53 : decode cX6_pass 53 = .ok (.goto (-12), 3) := by decide +kernel
theorem dX6_pass_56 : decode cX6_pass 56 = .ok (.aload_n 0, 1) := by decide +kernel
theorem dX6_pass_57 : decode cX6_pass 57 = .ok (.getfield 101, 3) := by decide +kernel
theorem dX6_pass_60 : decode cX6_pass 60 = .ok (.ireturn, 1) := by decide +kernel
theorem dX6_hour_0 : decode cX6_hour 0 = .ok (.aload_n 0, 1) := by decide +kernel
theorem dX6_hour_1 : decode cX6_hour 1 = .ok (.iconst 0, 1) := by decide +kernel
theorem dX6_hour_2 : decode cX6_hour 2 = .ok (.putfield 84, 3) := by decide +kernel
theorem dX6_hour_5 : decode cX6_hour 5 = .ok (.aload_n 0, 1) := by decide +kernel
theorem dX6_hour_6 : decode cX6_hour 6 = .ok (.getfield 101, 3) := by decide +kernel
theorem dX6_hour_9 : decode cX6_hour 9 = .ok (.ireturn, 1) := by decide +kernel
theorem dX6_ofSheet_0 : decode cX6_ofSheet 0 = .ok (.aload_n 0, 1) := by decide +kernel
theorem dX6_ofSheet_1 : decode cX6_ofSheet 1 = .ok (.iload_n 1, 1) := by decide +kernel
theorem dX6_ofSheet_2 : decode cX6_ofSheet 2 = .ok (.invokestatic 98, 3) := by decide +kernel
theorem dX6_ofSheet_5 : decode cX6_ofSheet 5 = .ok (.iload_n 2, 1) := by decide +kernel
theorem dX6_ofSheet_6 : decode cX6_ofSheet 6 = .ok (.iconst 0, 1) := by decide +kernel
theorem dX6_ofSheet_7 : decode cX6_ofSheet 7 = .ok (.iconst 3, 1) := by decide +kernel
theorem dX6_ofSheet_8 : decode cX6_ofSheet 8 = .ok (.invokestatic 90, 3) := by decide +kernel
theorem dX6_ofSheet_11 : decode cX6_ofSheet 11 = .ok (.invokevirtual 161, 3) := by decide +kernel
theorem dX6_ofSheet_14 : decode cX6_ofSheet 14 = .ok (.ifCond .ne 5, 3) := by decide +kernel
theorem dX6_ofSheet_17 : decode cX6_ofSheet 17 = .ok (.iconst 0, 1) := by decide +kernel
theorem dX6_ofSheet_18 : decode cX6_ofSheet 18 = .ok (.ireturn, 1) := by decide +kernel
theorem dX6_ofSheet_19 : decode cX6_ofSheet 19 = .ok (.iconst 0, 1) := by decide +kernel
theorem dX6_ofSheet_20 : decode cX6_ofSheet 20 = .ok (.istore_n 3, 1) := by decide +kernel
theorem dX6_ofSheet_21 : decode cX6_ofSheet 21 = .ok (.iconst 0, 1) := by decide +kernel
theorem dX6_ofSheet_22 : decode cX6_ofSheet 22 = .ok (.istore 4, 2) := by decide +kernel
theorem dX6_ofSheet_24 : decode cX6_ofSheet 24 = .ok (.iload 4, 2) := by decide +kernel
theorem dX6_ofSheet_26 : decode cX6_ofSheet 26 = .ok (.sipush 549, 3) := by decide +kernel
theorem dX6_ofSheet_29 : decode cX6_ofSheet 29 = .ok (.if_icmp .ge 25, 3) := by decide +kernel
theorem dX6_ofSheet_32 : decode cX6_ofSheet 32 = .ok (.iload_n 3, 1) := by decide +kernel
theorem dX6_ofSheet_33 : decode cX6_ofSheet 33 = .ok (.aload_n 0, 1) := by decide +kernel
theorem dX6_ofSheet_34 : decode cX6_ofSheet 34 = .ok (.getfield 16, 3) := by decide +kernel
theorem dX6_ofSheet_37 : decode cX6_ofSheet 37 = .ok (.sipush 549, 3) := by decide +kernel
theorem dX6_ofSheet_40 : decode cX6_ofSheet 40 = .ok (.iload_n 1, 1) := by decide +kernel
theorem dX6_ofSheet_41 : decode cX6_ofSheet 41 = .ok (.imul, 1) := by decide +kernel
theorem dX6_ofSheet_42 : decode cX6_ofSheet 42 = .ok (.iload 4, 2) := by decide +kernel
theorem dX6_ofSheet_44 : decode cX6_ofSheet 44 = .ok (.iadd, 1) := by decide +kernel
theorem dX6_ofSheet_45 : decode cX6_ofSheet 45 = .ok (.iaload, 1) := by decide +kernel
theorem dX6_ofSheet_46 : decode cX6_ofSheet 46 = .ok (.iadd, 1) := by decide +kernel
theorem dX6_ofSheet_47 : decode cX6_ofSheet 47 = .ok (.istore_n 3, 1) := by decide +kernel
theorem dX6_ofSheet_48 : decode cX6_ofSheet 48 = .ok (.iinc 4 1, 3) := by decide +kernel
theorem dX6_ofSheet_51 : decode cX6_ofSheet 51 = .ok (.goto (-27), 3) := by decide +kernel
theorem dX6_ofSheet_54 : decode cX6_ofSheet 54 = .ok (.iload_n 2, 1) := by decide +kernel
theorem dX6_ofSheet_55 : decode cX6_ofSheet 55 = .ok (.ifCond .ne 20, 3) := by decide +kernel
theorem dX6_ofSheet_58 : decode cX6_ofSheet 58 = .ok (.aload_n 0, 1) := by decide +kernel
theorem dX6_ofSheet_59 : decode cX6_ofSheet 59 = .ok (.getfield 20, 3) := by decide +kernel
theorem dX6_ofSheet_62 : decode cX6_ofSheet 62 = .ok (.iload_n 1, 1) := by decide +kernel
theorem dX6_ofSheet_63 : decode cX6_ofSheet 63 = .ok (.baload, 1) := by decide +kernel
theorem dX6_ofSheet_64 : decode cX6_ofSheet 64 = .ok (.ifCond .eq 7, 3) := by decide +kernel
theorem dX6_ofSheet_67 : decode cX6_ofSheet 67 = .ok (.iconst 0, 1) := by decide +kernel
theorem dX6_ofSheet_68 : decode cX6_ofSheet 68 = .ok (.goto 46, 3) := by decide +kernel
theorem dX6_ofSheet_71 : decode cX6_ofSheet 71 = .ok (.iconst 1, 1) := by decide +kernel
theorem dX6_ofSheet_72 : decode cX6_ofSheet 72 = .ok (.goto 42, 3) := by decide +kernel
theorem dX6_ofSheet_75 : decode cX6_ofSheet 75 = .ok (.iload_n 2, 1) := by decide +kernel
theorem dX6_ofSheet_76 : decode cX6_ofSheet 76 = .ok (.iconst 1, 1) := by decide +kernel
theorem dX6_ofSheet_77 : decode cX6_ofSheet 77 = .ok (.if_icmp .ne 12, 3) := by decide +kernel
theorem dX6_ofSheet_80 : decode cX6_ofSheet 80 = .ok (.aload_n 0, 1) := by decide +kernel
theorem dX6_ofSheet_81 : decode cX6_ofSheet 81 = .ok (.getfield 24, 3) := by decide +kernel
theorem dX6_ofSheet_84 : decode cX6_ofSheet 84 = .ok (.iload_n 1, 1) := by decide +kernel
theorem dX6_ofSheet_85 : decode cX6_ofSheet 85 = .ok (.iaload, 1) := by decide +kernel
theorem dX6_ofSheet_86 : decode cX6_ofSheet 86 = .ok (.goto 28, 3) := by decide +kernel
theorem dX6_ofSheet_89 : decode cX6_ofSheet 89 = .ok (.iload_n 2, 1) := by decide +kernel
theorem dX6_ofSheet_90 : decode cX6_ofSheet 90 = .ok (.iconst 2, 1) := by decide +kernel
theorem dX6_ofSheet_91 : decode cX6_ofSheet 91 = .ok (.if_icmp .ne 7, 3) := by decide +kernel
theorem dX6_ofSheet_94 : decode cX6_ofSheet 94 = .ok (.iload_n 3, 1) := by decide +kernel
theorem dX6_ofSheet_95 : decode cX6_ofSheet 95 = .ok (.goto 19, 3) := by decide +kernel
theorem dX6_ofSheet_98 : decode cX6_ofSheet 98 = .ok (.aload_n 0, 1) := by decide +kernel
theorem dX6_ofSheet_99 : decode cX6_ofSheet 99 = .ok (.getfield 13, 3) := by decide +kernel
theorem dX6_ofSheet_102 : decode cX6_ofSheet 102 = .ok (.iload_n 1, 1) := by decide +kernel
theorem dX6_ofSheet_103 : decode cX6_ofSheet 103 = .ok (.if_icmp .ne 10, 3) := by decide +kernel
theorem dX6_ofSheet_106 : decode cX6_ofSheet 106 = .ok (.aload_n 0, 1) := by decide +kernel
theorem dX6_ofSheet_107 : decode cX6_ofSheet 107 = .ok (.getfield 152, 3) := by decide +kernel
theorem dX6_ofSheet_110 : decode cX6_ofSheet 110 = .ok (.goto 4, 3) := by decide +kernel
theorem dX6_ofSheet_113 : decode cX6_ofSheet 113 = .ok (.iconst 0, 1) := by decide +kernel
theorem dX6_ofSheet_114 : decode cX6_ofSheet 114 = .ok (.ireturn, 1) := by decide +kernel
theorem dX6_wear_0 : decode cX6_wear 0 = .ok (.aload_n 0, 1) := by decide +kernel
theorem dX6_wear_1 : decode cX6_wear 1 = .ok (.iload_n 1, 1) := by decide +kernel
theorem dX6_wear_2 : decode cX6_wear 2 = .ok (.invokestatic 98, 3) := by decide +kernel
theorem dX6_wear_5 : decode cX6_wear 5 = .ok (.ifCond .eq 27, 3) := by decide +kernel
theorem dX6_wear_8 : decode cX6_wear 8 = .ok (.iload_n 2, 1) := by decide +kernel
theorem dX6_wear_9 : decode cX6_wear 9 = .ok (.iconst 0, 1) := by decide +kernel
theorem dX6_wear_10 : decode cX6_wear 10 = .ok (.bipush 8, 2) := by decide +kernel
theorem dX6_wear_12 : decode cX6_wear 12 = .ok (.invokestatic 90, 3) := by decide +kernel
theorem dX6_wear_15 : decode cX6_wear 15 = .ok (.ifCond .eq 17, 3) := by decide +kernel
theorem dX6_wear_18 : decode cX6_wear 18 = .ok (.iload_n 3, 1) := by decide +kernel
theorem dX6_wear_19 : decode cX6_wear 19 = .ok (.iconst 0, 1) := by decide +kernel
theorem dX6_wear_20 : decode cX6_wear 20 = .ok (.bipush 60, 2) := by decide +kernel
theorem dX6_wear_22 : decode cX6_wear 22 = .ok (.invokestatic 90, 3) := by decide +kernel
theorem dX6_wear_25 : decode cX6_wear 25 = .ok (.ifCond .eq 7, 3) := by decide +kernel
theorem dX6_wear_28 : decode cX6_wear 28 = .ok (.iconst 1, 1) := by decide +kernel
theorem dX6_wear_29 : decode cX6_wear 29 = .ok (.goto 4, 3) := by decide +kernel
theorem dX6_wear_32 : decode cX6_wear 32 = .ok (.iconst 0, 1) := by decide +kernel
theorem dX6_wear_33 : decode cX6_wear 33 = .ok (.invokevirtual 108, 3) := by decide +kernel
theorem dX6_wear_36 : decode cX6_wear 36 = .ok (.ifCond .eq 23, 3) := by decide +kernel
theorem dX6_wear_39 : decode cX6_wear 39 = .ok (.aload_n 0, 1) := by decide +kernel
theorem dX6_wear_40 : decode cX6_wear 40 = .ok (.getfield 16, 3) := by decide +kernel
theorem dX6_wear_43 : decode cX6_wear 43 = .ok (.sipush 549, 3) := by decide +kernel
theorem dX6_wear_46 : decode cX6_wear 46 = .ok (.iload_n 1, 1) := by decide +kernel
theorem dX6_wear_47 : decode cX6_wear 47 = .ok (.imul, 1) := by decide +kernel
theorem dX6_wear_48 : decode cX6_wear 48 = .ok (.bipush 61, 2) := by decide +kernel
theorem dX6_wear_50 : decode cX6_wear 50 = .ok (.iload_n 2, 1) := by decide +kernel
theorem dX6_wear_51 : decode cX6_wear 51 = .ok (.imul, 1) := by decide +kernel
theorem dX6_wear_52 : decode cX6_wear 52 = .ok (.iadd, 1) := by decide +kernel
theorem dX6_wear_53 : decode cX6_wear 53 = .ok (.iload_n 3, 1) := by decide +kernel
theorem dX6_wear_54 : decode cX6_wear 54 = .ok (.iadd, 1) := by decide +kernel
theorem dX6_wear_55 : decode cX6_wear 55 = .ok (.iaload, 1) := by decide +kernel
theorem dX6_wear_56 : decode cX6_wear 56 = .ok (.goto 4, 3) := by decide +kernel
theorem dX6_wear_59 : decode cX6_wear 59 = .ok (.iconst 0, 1) := by decide +kernel
theorem dX6_wear_60 : decode cX6_wear 60 = .ok (.ireturn, 1) := by decide +kernel
theorem dX6_ofGame_0 : decode cX6_ofGame 0 = .ok (.aload_n 0, 1) := by decide +kernel
theorem dX6_ofGame_1 : decode cX6_ofGame 1 = .ok (.aload_n 0, 1) := by decide +kernel
theorem dX6_ofGame_2 : decode cX6_ofGame 2 = .ok (.iload_n 1, 1) := by decide +kernel
theorem dX6_ofGame_3 : decode cX6_ofGame 3 = .ok (.invokevirtual 126, 3) := by decide +kernel
theorem dX6_ofGame_6 : decode cX6_ofGame 6 = .ok (.iload_n 2, 1) := by decide +kernel
theorem dX6_ofGame_7 : decode cX6_ofGame 7 = .ok (.iconst 0, 1) := by decide +kernel
theorem dX6_ofGame_8 : decode cX6_ofGame 8 = .ok (.bipush 7, 2) := by decide +kernel
theorem dX6_ofGame_10 : decode cX6_ofGame 10 = .ok (.invokestatic 90, 3) := by decide +kernel
theorem dX6_ofGame_13 : decode cX6_ofGame 13 = .ok (.invokevirtual 161, 3) := by decide +kernel
theorem dX6_ofGame_16 : decode cX6_ofGame 16 = .ok (.ifCond .ne 5, 3) := by decide +kernel
theorem dX6_ofGame_19 : decode cX6_ofGame 19 = .ok (.iconst 0, 1) := by decide +kernel
theorem dX6_ofGame_20 : decode cX6_ofGame 20 = .ok (.ireturn, 1) := by decide +kernel
theorem dX6_ofGame_21 : decode cX6_ofGame 21 = .ok (.iload_n 2, 1) := by decide +kernel
theorem dX6_ofGame_22 : decode cX6_ofGame 22 = .ok (.ifCond .ne 12, 3) := by decide +kernel
theorem dX6_ofGame_25 : decode cX6_ofGame 25 = .ok (.aload_n 0, 1) := by decide +kernel
theorem dX6_ofGame_26 : decode cX6_ofGame 26 = .ok (.getfield 27, 3) := by decide +kernel
theorem dX6_ofGame_29 : decode cX6_ofGame 29 = .ok (.iload_n 1, 1) := by decide +kernel
theorem dX6_ofGame_30 : decode cX6_ofGame 30 = .ok (.iaload, 1) := by decide +kernel
theorem dX6_ofGame_31 : decode cX6_ofGame 31 = .ok (.goto 99, 3) := by decide +kernel
theorem dX6_ofGame_34 : decode cX6_ofGame 34 = .ok (.iload_n 2, 1) := by decide +kernel
theorem dX6_ofGame_35 : decode cX6_ofGame 35 = .ok (.iconst 1, 1) := by decide +kernel
theorem dX6_ofGame_36 : decode cX6_ofGame 36 = .ok (.if_icmp .ne 12, 3) := by decide +kernel
theorem dX6_ofGame_39 : decode cX6_ofGame 39 = .ok (.aload_n 0, 1) := by decide +kernel
theorem dX6_ofGame_40 : decode cX6_ofGame 40 = .ok (.getfield 36, 3) := by decide +kernel
theorem dX6_ofGame_43 : decode cX6_ofGame 43 = .ok (.iload_n 1, 1) := by decide +kernel
theorem dX6_ofGame_44 : decode cX6_ofGame 44 = .ok (.iaload, 1) := by decide +kernel
theorem dX6_ofGame_45 : decode cX6_ofGame 45 = .ok (.goto 85, 3) := by decide +kernel
theorem dX6_ofGame_48 : decode cX6_ofGame 48 = .ok (.iload_n 2, 1) := by decide +kernel
theorem dX6_ofGame_49 : decode cX6_ofGame 49 = .ok (.iconst 2, 1) := by decide +kernel
theorem dX6_ofGame_50 : decode cX6_ofGame 50 = .ok (.if_icmp .ne 12, 3) := by decide +kernel
theorem dX6_ofGame_53 : decode cX6_ofGame 53 = .ok (.aload_n 0, 1) := by decide +kernel
theorem dX6_ofGame_54 : decode cX6_ofGame 54 = .ok (.getfield 42, 3) := by decide +kernel
theorem dX6_ofGame_57 : decode cX6_ofGame 57 = .ok (.iload_n 1, 1) := by decide +kernel
theorem dX6_ofGame_58 : decode cX6_ofGame 58 = .ok (.iaload, 1) := by decide +kernel
theorem dX6_ofGame_59 : decode cX6_ofGame 59 = .ok (.goto 71, 3) := by decide +kernel
theorem dX6_ofGame_62 : decode cX6_ofGame 62 = .ok (.iload_n 2, 1) := by decide +kernel
theorem dX6_ofGame_63 : decode cX6_ofGame 63 = .ok (.iconst 5, 1) := by decide +kernel
theorem dX6_ofGame_64 : decode cX6_ofGame 64 = .ok (.if_icmp .ge 18, 3) := by decide +kernel
theorem dX6_ofGame_67 : decode cX6_ofGame 67 = .ok (.aload_n 0, 1) := by decide +kernel
theorem dX6_ofGame_68 : decode cX6_ofGame 68 = .ok (.getfield 45, 3) := by decide +kernel
theorem dX6_ofGame_71 : decode cX6_ofGame 71 = .ok (.iconst 2, 1) := by decide +kernel
theorem dX6_ofGame_72 : decode cX6_ofGame 72 = .ok (.iload_n 1, 1) := by decide +kernel
theorem dX6_ofGame_73 : decode cX6_ofGame 73 = .ok (.imul, 1) := by decide +kernel
theorem dX6_ofGame_74 : decode cX6_ofGame 74 = .ok (.iload_n 2, 1) := by decide +kernel
theorem dX6_ofGame_75 : decode cX6_ofGame 75 = .ok (.iadd, 1) := by decide +kernel
theorem dX6_ofGame_76 : decode cX6_ofGame 76 = .ok (.iconst 3, 1) := by decide +kernel
theorem dX6_ofGame_77 : decode cX6_ofGame 77 = .ok (.isub, 1) := by decide +kernel
theorem dX6_ofGame_78 : decode cX6_ofGame 78 = .ok (.iaload, 1) := by decide +kernel
theorem dX6_ofGame_79 : decode cX6_ofGame 79 = .ok (.goto 51, 3) := by decide +kernel
theorem dX6_ofGame_82 : decode cX6_ofGame 82 = .ok (.iload_n 2, 1) := by decide +kernel
theorem dX6_ofGame_83 : decode cX6_ofGame 83 = .ok (.iconst 5, 1) := by decide +kernel
theorem dX6_ofGame_84 : decode cX6_ofGame 84 = .ok (.if_icmp .ne 12, 3) := by decide +kernel
theorem dX6_ofGame_87 : decode cX6_ofGame 87 = .ok (.aload_n 0, 1) := by decide +kernel
theorem dX6_ofGame_88 : decode cX6_ofGame 88 = .ok (.getfield 48, 3) := by decide +kernel
theorem dX6_ofGame_91 : decode cX6_ofGame 91 = .ok (.iload_n 1, 1) := by decide +kernel
theorem dX6_ofGame_92 : decode cX6_ofGame 92 = .ok (.iaload, 1) := by decide +kernel
theorem dX6_ofGame_93 : decode cX6_ofGame 93 = .ok (.goto 37, 3) := by decide +kernel
theorem dX6_ofGame_96 : decode cX6_ofGame 96 = .ok (.iload_n 2, 1) := by decide +kernel
theorem dX6_ofGame_97 : decode cX6_ofGame 97 = .ok (.bipush 6, 2) := by decide +kernel
theorem dX6_ofGame_99 : decode cX6_ofGame 99 = .ok (.if_icmp .ne 11, 3) := by decide +kernel
theorem dX6_ofGame_102 : decode cX6_ofGame 102 = .ok (.aload_n 0, 1) := by decide +kernel
theorem dX6_ofGame_103 : decode cX6_ofGame 103 = .ok (.iload_n 1, 1) := by decide +kernel
theorem dX6_ofGame_104 : decode cX6_ofGame 104 = .ok (.invokevirtual 119, 3) := by decide +kernel
theorem dX6_ofGame_107 : decode cX6_ofGame 107 = .ok (.goto 23, 3) := by decide +kernel
theorem dX6_ofGame_110 : decode cX6_ofGame 110 = .ok (.aload_n 0, 1) := by decide +kernel
theorem dX6_ofGame_111 : decode cX6_ofGame 111 = .ok (.getfield 27, 3) := by decide +kernel
theorem dX6_ofGame_114 : decode cX6_ofGame 114 = .ok (.iload_n 1, 1) := by decide +kernel
theorem dX6_ofGame_115 : decode cX6_ofGame 115 = .ok (.iaload, 1) := by decide +kernel
theorem dX6_ofGame_116 : decode cX6_ofGame 116 = .ok (.iconst 2, 1) := by decide +kernel
theorem dX6_ofGame_117 : decode cX6_ofGame 117 = .ok (.if_icmp .ne 12, 3) := by decide +kernel
theorem dX6_ofGame_120 : decode cX6_ofGame 120 = .ok (.aload_n 0, 1) := by decide +kernel
theorem dX6_ofGame_121 : decode cX6_ofGame 121 = .ok (.getfield 54, 3) := by decide +kernel
theorem dX6_ofGame_124 : decode cX6_ofGame 124 = .ok (.iload_n 1, 1) := by decide +kernel
theorem dX6_ofGame_125 : decode cX6_ofGame 125 = .ok (.iaload, 1) := by decide +kernel
theorem dX6_ofGame_126 : decode cX6_ofGame 126 = .ok (.goto 4, 3) := by decide +kernel
theorem dX6_ofGame_129 : decode cX6_ofGame 129 = .ok (.iconst (-1), 1) := by decide +kernel
theorem dX6_ofGame_130 : decode cX6_ofGame 130 = .ok (.ireturn, 1) := by decide +kernel
theorem dX6_stone_0 : decode cX6_stone 0 = .ok (.aload_n 0, 1) := by decide +kernel
theorem dX6_stone_1 : decode cX6_stone 1 = .ok (.aload_n 0, 1) := by decide +kernel
theorem dX6_stone_2 : decode cX6_stone 2 = .ok (.iload_n 1, 1) := by decide +kernel
theorem dX6_stone_3 : decode cX6_stone 3 = .ok (.invokevirtual 126, 3) := by decide +kernel
theorem dX6_stone_6 : decode cX6_stone 6 = .ok (.ifCond .eq 25, 3) := by decide +kernel
theorem dX6_stone_9 : decode cX6_stone 9 = .ok (.iload_n 2, 1) := by decide +kernel
theorem dX6_stone_10 : decode cX6_stone 10 = .ok (.iconst 0, 1) := by decide +kernel
theorem dX6_stone_11 : decode cX6_stone 11 = .ok (.iconst 1, 1) := by decide +kernel
theorem dX6_stone_12 : decode cX6_stone 12 = .ok (.invokestatic 90, 3) := by decide +kernel
theorem dX6_stone_15 : decode cX6_stone 15 = .ok (.ifCond .eq 16, 3) := by decide +kernel
theorem dX6_stone_18 : decode cX6_stone 18 = .ok (.iload_n 3, 1) := by decide +kernel
theorem dX6_stone_19 : decode cX6_stone 19 = .ok (.iconst 0, 1) := by decide +kernel
theorem dX6_stone_20 : decode cX6_stone 20 = .ok (.iconst 2, 1) := by decide +kernel
theorem dX6_stone_21 : decode cX6_stone 21 = .ok (.invokestatic 90, 3) := by decide +kernel
theorem dX6_stone_24 : decode cX6_stone 24 = .ok (.ifCond .eq 7, 3) := by decide +kernel
theorem dX6_stone_27 : decode cX6_stone 27 = .ok (.iconst 1, 1) := by decide +kernel
theorem dX6_stone_28 : decode cX6_stone 28 = .ok (.goto 4, 3) := by decide +kernel
theorem dX6_stone_31 : decode cX6_stone 31 = .ok (.iconst 0, 1) := by decide +kernel
theorem dX6_stone_32 : decode cX6_stone 32 = .ok (.invokevirtual 108, 3) := by decide +kernel
theorem dX6_stone_35 : decode cX6_stone 35 = .ok (.ifCond .eq 21, 3) := by decide +kernel
theorem dX6_stone_38 : decode cX6_stone 38 = .ok (.aload_n 0, 1) := by decide +kernel
theorem dX6_stone_39 : decode cX6_stone 39 = .ok (.getfield 60, 3) := by decide +kernel
theorem dX6_stone_42 : decode cX6_stone 42 = .ok (.bipush 6, 2) := by decide +kernel
theorem dX6_stone_44 : decode cX6_stone 44 = .ok (.iload_n 1, 1) := by decide +kernel
theorem dX6_stone_45 : decode cX6_stone 45 = .ok (.imul, 1) := by decide +kernel
theorem dX6_stone_46 : decode cX6_stone 46 = .ok (.iconst 3, 1) := by decide +kernel
theorem dX6_stone_47 : decode cX6_stone 47 = .ok (.iload_n 2, 1) := by decide +kernel
theorem dX6_stone_48 : decode cX6_stone 48 = .ok (.imul, 1) := by decide +kernel
theorem dX6_stone_49 : decode cX6_stone 49 = .ok (.iadd, 1) := by decide +kernel
theorem dX6_stone_50 : decode cX6_stone 50 = .ok (.iload_n 3, 1) := by decide +kernel
theorem dX6_stone_51 : decode cX6_stone 51 = .ok (.iadd, 1) := by decide +kernel
theorem dX6_stone_52 : decode cX6_stone 52 = .ok (.iaload, 1) := by decide +kernel
theorem dX6_stone_53 : decode cX6_stone 53 = .ok (.goto 4, 3) := by decide +kernel
theorem dX6_stone_56 : decode cX6_stone 56 = .ok (.iconst 0, 1) := by decide +kernel
theorem dX6_stone_57 : decode cX6_stone 57 = .ok (.ireturn, 1) := by decide +kernel
theorem dX6_scoreOf_0 : decode cX6_scoreOf 0 = .ok (.iconst 0, 1) := by decide +kernel
theorem dX6_scoreOf_1 : decode cX6_scoreOf 1 = .ok (.istore_n 2, 1) := by decide +kernel
theorem dX6_scoreOf_2 : decode cX6_scoreOf 2 = .ok (.iload_n 2, 1) := by decide +kernel
theorem dX6_scoreOf_3 : decode cX6_scoreOf 3 = .ok (.bipush 6, 2) := by decide +kernel
theorem dX6_scoreOf_5 : decode cX6_scoreOf 5 = .ok (.if_icmp .ge 26, 3) := by decide +kernel
theorem dX6_scoreOf_8 : decode cX6_scoreOf 8 = .ok (.aload_n 0, 1) := by decide +kernel
theorem dX6_scoreOf_9 : decode cX6_scoreOf 9 = .ok (.getfield 75, 3) := by decide +kernel
theorem dX6_scoreOf_12 : decode cX6_scoreOf 12 = .ok (.iload_n 2, 1) := by decide +kernel
theorem dX6_scoreOf_13 : decode cX6_scoreOf 13 = .ok (.aload_n 0, 1) := by decide +kernel
theorem dX6_scoreOf_14 : decode cX6_scoreOf 14 = .ok (.getfield 60, 3) := by decide +kernel
theorem dX6_scoreOf_17 : decode cX6_scoreOf 17 = .ok (.bipush 6, 2) := by decide +kernel
theorem dX6_scoreOf_19 : decode cX6_scoreOf 19 = .ok (.iload_n 1, 1) := by decide +kernel
theorem dX6_scoreOf_20 : decode cX6_scoreOf 20 = .ok (.imul, 1) := by decide +kernel
theorem dX6_scoreOf_21 : decode cX6_scoreOf 21 = .ok (.iload_n 2, 1) := by decide +kernel
theorem dX6_scoreOf_22 : decode cX6_scoreOf 22 = .ok (.iadd, 1) := by decide +kernel
theorem dX6_scoreOf_23 : decode cX6_scoreOf 23 = .ok (.iaload, 1) := by decide +kernel
theorem dX6_scoreOf_24 : decode cX6_scoreOf 24 = .ok (.iastore, 1) := by decide +kernel
theorem dX6_scoreOf_25 : decode cX6_scoreOf 25 = .ok (.iinc 2 1, 3) := by decide +kernel
theorem dX6_scoreOf_28 : decode cX6_scoreOf 28 = .ok (.goto (-26), 3) := by decide +kernel
theorem dX6_scoreOf_31 : decode cX6_scoreOf 31 = .ok (.aload_n 0, 1) := by decide +kernel
theorem dX6_scoreOf_32 : decode cX6_scoreOf 32 = .ok (.getfield 27, 3) := by decide +kernel
theorem dX6_scoreOf_35 : decode cX6_scoreOf 35 = .ok (.iload_n 1, 1) := by decide +kernel
theorem dX6_scoreOf_36 : decode cX6_scoreOf 36 = .ok (.iaload, 1) := by decide +kernel
theorem dX6_scoreOf_37 : decode cX6_scoreOf 37 = .ok (.iconst 2, 1) := by decide +kernel
theorem dX6_scoreOf_38 : decode cX6_scoreOf 38 = .ok (.if_icmp .ne 10, 3) := by decide +kernel
theorem dX6_scoreOf_41 : decode cX6_scoreOf 41 = .ok (.aload_n 0, 1) := by decide +kernel
theorem dX6_scoreOf_42 : decode cX6_scoreOf 42 = .ok (.invokevirtual 122, 3) := by decide +kernel
theorem dX6_scoreOf_45 : decode cX6_scoreOf 45 = .ok (.goto 4, 3) := by decide +kernel
theorem dX6_scoreOf_48 : decode cX6_scoreOf 48 = .ok (.iconst 0, 1) := by decide +kernel
theorem dX6_scoreOf_49 : decode cX6_scoreOf 49 = .ok (.ireturn, 1) := by decide +kernel
theorem dX6_wouldScore_0 : decode cX6_wouldScore 0 = .ok (.aload_n 0, 1) := by decide +kernel
theorem dX6_wouldScore_1 : decode cX6_wouldScore 1 = .ok (.aload_n 0, 1) := by decide +kernel
theorem dX6_wouldScore_2 : decode cX6_wouldScore 2 = .ok (.iload_n 1, 1) := by decide +kernel
theorem dX6_wouldScore_3 : decode cX6_wouldScore 3 = .ok (.invokevirtual 126, 3) := by decide +kernel
theorem dX6_wouldScore_6 : decode cX6_wouldScore 6 = .ok (.invokevirtual 108, 3) := by decide +kernel
theorem dX6_wouldScore_9 : decode cX6_wouldScore 9 = .ok (.ifCond .eq 11, 3) := by decide +kernel
theorem dX6_wouldScore_12 : decode cX6_wouldScore 12 = .ok (.aload_n 0, 1) := by decide +kernel
theorem dX6_wouldScore_13 : decode cX6_wouldScore 13 = .ok (.iload_n 1, 1) := by decide +kernel
theorem dX6_wouldScore_14 : decode cX6_wouldScore 14 = .ok (.invokevirtual 167, 3) := by decide +kernel
theorem dX6_wouldScore_17 : decode cX6_wouldScore 17 = .ok (.goto 4, 3) := by decide +kernel
theorem dX6_wouldScore_20 : decode cX6_wouldScore 20 = .ok (.iconst 0, 1) := by decide +kernel
theorem dX6_wouldScore_21 : decode cX6_wouldScore 21 = .ok (.ireturn, 1) := by decide +kernel
theorem dX6_wouldScoreAnew_0 : decode cX6_wouldScoreAnew 0 = .ok (.aload_n 0, 1) := by decide +kernel
theorem dX6_wouldScoreAnew_1 : decode cX6_wouldScoreAnew 1 = .ok (.aload_n 0, 1) := by decide +kernel
theorem dX6_wouldScoreAnew_2 : decode cX6_wouldScoreAnew 2 = .ok (.iload_n 1, 1) := by decide +kernel
theorem dX6_wouldScoreAnew_3 : decode cX6_wouldScoreAnew 3 = .ok (.invokevirtual 126, 3) := by decide +kernel
theorem dX6_wouldScoreAnew_6 : decode cX6_wouldScoreAnew 6 = .ok (.invokevirtual 108, 3) := by decide +kernel
theorem dX6_wouldScoreAnew_9 : decode cX6_wouldScoreAnew 9 = .ok (.ifCond .eq 11, 3) := by decide +kernel
theorem dX6_wouldScoreAnew_12 : decode cX6_wouldScoreAnew 12 = .ok (.aload_n 0, 1) := by decide +kernel
theorem dX6_wouldScoreAnew_13 : decode cX6_wouldScoreAnew 13 = .ok (.iload_n 1, 1) := by decide +kernel
theorem dX6_wouldScoreAnew_14 : decode cX6_wouldScoreAnew 14 = .ok (.invokevirtual 167, 3) := by decide +kernel
theorem dX6_wouldScoreAnew_17 : decode cX6_wouldScoreAnew 17 = .ok (.goto 4, 3) := by decide +kernel
theorem dX6_wouldScoreAnew_20 : decode cX6_wouldScoreAnew 20 = .ok (.iconst 0, 1) := by decide +kernel
theorem dX6_wouldScoreAnew_21 : decode cX6_wouldScoreAnew 21 = .ok (.ireturn, 1) := by decide +kernel
theorem dX6_worth_0 : decode cX6_worth 0 = .ok (.aload_n 0, 1) := by decide +kernel
theorem dX6_worth_1 : decode cX6_worth 1 = .ok (.iload_n 1, 1) := by decide +kernel
theorem dX6_worth_2 : decode cX6_worth 2 = .ok (.invokevirtual 136, 3) := by decide +kernel
theorem dX6_worth_5 : decode cX6_worth 5 = .ok (.aload_n 0, 1) := by decide +kernel
theorem dX6_worth_6 : decode cX6_worth 6 = .ok (.aload_n 0, 1) := by decide +kernel
theorem dX6_worth_7 : decode cX6_worth 7 = .ok (.iload_n 1, 1) := by decide +kernel
theorem dX6_worth_8 : decode cX6_worth 8 = .ok (.invokevirtual 140, 3) := by decide +kernel
theorem dX6_worth_11 : decode cX6_worth 11 = .ok (.iload_n 2, 1) := by decide +kernel
theorem dX6_worth_12 : decode cX6_worth 12 = .ok (.iload_n 3, 1) := by decide +kernel
theorem dX6_worth_13 : decode cX6_worth 13 = .ok (.iload 4, 2) := by decide +kernel
theorem dX6_worth_15 : decode cX6_worth 15 = .ok (.iconst 1, 1) := by decide +kernel
theorem dX6_worth_16 : decode cX6_worth 16 = .ok (.iconst 0, 1) := by decide +kernel
theorem dX6_worth_17 : decode cX6_worth 17 = .ok (.invokevirtual 143, 3) := by decide +kernel
theorem dX6_worth_20 : decode cX6_worth 20 = .ok (.aload_n 0, 1) := by decide +kernel
theorem dX6_worth_21 : decode cX6_worth 21 = .ok (.iload_n 1, 1) := by decide +kernel
theorem dX6_worth_22 : decode cX6_worth 22 = .ok (.invokevirtual 119, 3) := by decide +kernel
theorem dX6_worth_25 : decode cX6_worth 25 = .ok (.ifCond .ne 10, 3) := by decide +kernel
theorem dX6_worth_28 : decode cX6_worth 28 = .ok (.aload_n 0, 1) := by decide +kernel
theorem dX6_worth_29 : decode cX6_worth 29 = .ok (.invokevirtual 122, 3) := by decide +kernel
theorem dX6_worth_32 : decode cX6_worth 32 = .ok (.goto 8, 3) := by decide +kernel
theorem dX6_worth_35 : decode cX6_worth 35 = .ok (.aload_n 0, 1) := by decide +kernel
theorem dX6_worth_36 : decode cX6_worth 36 = .ok (.invokevirtual 122, 3) := by decide +kernel
theorem dX6_worth_39 : decode cX6_worth 39 = .ok (.ineg, 1) := by decide +kernel
theorem dX6_worth_40 : decode cX6_worth 40 = .ok (.ireturn, 1) := by decide +kernel
theorem dX6_advice_0 : decode cX6_advice 0 = .ok (.aload_n 0, 1) := by decide +kernel
theorem dX6_advice_1 : decode cX6_advice 1 = .ok (.iload_n 1, 1) := by decide +kernel
theorem dX6_advice_2 : decode cX6_advice 2 = .ok (.invokevirtual 126, 3) := by decide +kernel
theorem dX6_advice_5 : decode cX6_advice 5 = .ok (.istore_n 2, 1) := by decide +kernel
theorem dX6_advice_6 : decode cX6_advice 6 = .ok (.aload_n 0, 1) := by decide +kernel
theorem dX6_advice_7 : decode cX6_advice 7 = .ok (.iload_n 2, 1) := by decide +kernel
theorem dX6_advice_8 : decode cX6_advice 8 = .ok (.iload_n 2, 1) := by decide +kernel
theorem dX6_advice_9 : decode cX6_advice 9 = .ok (.ifCond .eq 17, 3) := by decide +kernel
theorem dX6_advice_12 : decode cX6_advice 12 = .ok (.aload_n 0, 1) := by decide +kernel
theorem dX6_advice_13 : decode cX6_advice 13 = .ok (.getfield 27, 3) := by decide +kernel
theorem dX6_advice_16 : decode cX6_advice 16 = .ok (.iload_n 1, 1) := by decide +kernel
theorem dX6_advice_17 : decode cX6_advice 17 = .ok (.iaload, 1) := by decide +kernel
theorem dX6_advice_18 : decode cX6_advice 18 = .ok (.iconst 2, 1) := by decide +kernel
theorem dX6_advice_19 : decode cX6_advice 19 = .ok (.if_icmp .ne 7, 3) := by decide +kernel
theorem dX6_advice_22 : decode cX6_advice 22 = .ok (.iconst 1, 1) := by decide +kernel
theorem dX6_advice_23 : decode cX6_advice 23 = .ok (.goto 4, 3) := by decide +kernel
theorem dX6_advice_26 : decode cX6_advice 26 = .ok (.iconst 0, 1) := by decide +kernel
theorem dX6_advice_27 : decode cX6_advice 27 = .ok (.invokevirtual 161, 3) := by decide +kernel
theorem dX6_advice_30 : decode cX6_advice 30 = .ok (.ifCond .ne 5, 3) := by decide +kernel
theorem dX6_advice_33 : decode cX6_advice 33 = .ok (.iconst 0, 1) := by decide +kernel
theorem dX6_advice_34 : decode cX6_advice 34 = .ok (.ireturn, 1) := by decide +kernel
theorem dX6_advice_35 : decode cX6_advice 35 = .ok (.iconst (-1), 1) := by decide +kernel
theorem dX6_advice_36 : decode cX6_advice 36 = .ok (.istore_n 3, 1) := by decide +kernel
theorem dX6_advice_37 : decode cX6_advice 37 = .ok (.iconst 0, 1) := by decide +kernel
theorem dX6_advice_38 : decode cX6_advice 38 = .ok (.istore 4, 2) := by decide +kernel
theorem dX6_advice_40 : decode cX6_advice 40 = .ok (.iconst 0, 1) := by decide +kernel
theorem dX6_advice_41 : decode cX6_advice 41 = .ok (.istore 5, 2) := by decide +kernel
theorem dX6_advice_43 : decode cX6_advice 43 = .ok (.iload 5, 2) := by decide +kernel
theorem dX6_advice_45 : decode cX6_advice 45 = .ok (.bipush 90, 2) := by decide +kernel
theorem dX6_advice_47 : decode cX6_advice 47 = .ok (.if_icmp .ge 153, 3) := by decide +kernel
theorem dX6_advice_50 : decode cX6_advice 50 = .ok (.iload 5, 2) := by decide +kernel
theorem dX6_advice_52 : decode cX6_advice 52 = .ok (.bipush 10, 2) := by decide +kernel
theorem dX6_advice_54 : decode cX6_advice 54 = .ok (.idiv, 1) := by decide +kernel
theorem dX6_advice_55 : decode cX6_advice 55 = .ok (.istore 6, 2) := by decide +kernel
theorem dX6_advice_57 : decode cX6_advice 57 = .ok (.bipush 40, 2) := by decide +kernel
theorem dX6_advice_59 : decode cX6_advice 59 = .ok (.iload 5, 2) := by decide +kernel
theorem dX6_advice_61 : decode cX6_advice 61 = .ok (.iconst 2, 1) := by decide +kernel
theorem dX6_advice_62 : decode cX6_advice 62 = .ok (.idiv, 1) := by decide +kernel
theorem dX6_advice_63 : decode cX6_advice 63 = .ok (.iconst 5, 1) := by decide +kernel
theorem dX6_advice_64 : decode cX6_advice 64 = .ok (.irem, 1) := by decide +kernel
theorem dX6_advice_65 : decode cX6_advice 65 = .ok (.bipush 10, 2) := by decide +kernel
theorem dX6_advice_67 : decode cX6_advice 67 = .ok (.imul, 1) := by decide +kernel
theorem dX6_advice_68 : decode cX6_advice 68 = .ok (.iadd, 1) := by decide +kernel
theorem dX6_advice_69 : decode cX6_advice 69 = .ok (.istore 7, 2) := by decide +kernel
theorem dX6_advice_71 : decode cX6_advice 71 = .ok (.iload 5, 2) := by decide +kernel
theorem dX6_advice_73 : decode cX6_advice 73 = .ok (.iconst 2, 1) := by decide +kernel
theorem dX6_advice_74 : decode cX6_advice 74 = .ok (.irem, 1) := by decide +kernel
theorem dX6_advice_75 : decode cX6_advice 75 = .ok (.ifCond .ne 7, 3) := by decide +kernel
theorem dX6_advice_78 : decode cX6_advice 78 = .ok (.iconst (-1), 1) := by decide +kernel
theorem dX6_advice_79 : decode cX6_advice 79 = .ok (.goto 4, 3) := by decide +kernel
theorem dX6_advice_82 : decode cX6_advice 82 = .ok (.iconst 1, 1) := by decide +kernel
theorem dX6_advice_83 : decode cX6_advice 83 = .ok (.istore 8, 2) := by decide +kernel
theorem dX6_advice_85 : decode cX6_advice 85 = .ok (.aload_n 0, 1) := by decide +kernel
theorem dX6_advice_86 : decode cX6_advice 86 = .ok (.iload_n 1, 1) := by decide +kernel
theorem dX6_advice_87 : decode cX6_advice 87 = .ok (.iload 6, 2) := by decide +kernel
theorem dX6_advice_89 : decode cX6_advice 89 = .ok (.iload 7, 2) := by decide +kernel
theorem dX6_advice_91 : decode cX6_advice 91 = .ok (.iload 8, 2) := by decide +kernel
theorem dX6_advice_93 : decode cX6_advice 93 = .ok (.invokevirtual 170, 3) := by decide +kernel
theorem dX6_advice_96 : decode cX6_advice 96 = .ok (.istore 9, 2) := by decide +kernel
theorem dX6_advice_98 : decode cX6_advice 98 = .ok (.aload_n 0, 1) := by decide +kernel
theorem dX6_advice_99 : decode cX6_advice 99 = .ok (.iload_n 1, 1) := by decide +kernel
theorem dX6_advice_100 : decode cX6_advice 100 = .ok (.iload 6, 2) := by decide +kernel
theorem dX6_advice_102 : decode cX6_advice 102 = .ok (.iload 7, 2) := by decide +kernel
theorem dX6_advice_104 : decode cX6_advice 104 = .ok (.iconst 5, 1) := by decide +kernel
theorem dX6_advice_105 : decode cX6_advice 105 = .ok (.isub, 1) := by decide +kernel
theorem dX6_advice_106 : decode cX6_advice 106 = .ok (.iload 8, 2) := by decide +kernel
theorem dX6_advice_108 : decode cX6_advice 108 = .ok (.invokevirtual 170, 3) := by decide +kernel
theorem dX6_advice_111 : decode cX6_advice 111 = .ok (.istore 10, 2) := by decide +kernel
theorem dX6_advice_113 : decode cX6_advice 113 = .ok (.aload_n 0, 1) := by decide +kernel
theorem dX6_advice_114 : decode cX6_advice 114 = .ok (.iload_n 1, 1) := by decide +kernel
theorem dX6_advice_115 : decode cX6_advice 115 = .ok (.iload 6, 2) := by decide +kernel
theorem dX6_advice_117 : decode cX6_advice 117 = .ok (.iload 7, 2) := by decide +kernel
theorem dX6_advice_119 : decode cX6_advice 119 = .ok (.iconst 5, 1) := by decide +kernel
theorem dX6_advice_120 : decode cX6_advice 120 = .ok (.iadd, 1) := by decide +kernel
theorem dX6_advice_121 : decode cX6_advice 121 = .ok (.iload 8, 2) := by decide +kernel
theorem dX6_advice_123 : decode cX6_advice 123 = .ok (.invokevirtual 170, 3) := by decide +kernel
theorem dX6_advice_126 : decode cX6_advice 126 = .ok (.istore 11, 2) := by decide +kernel
theorem dX6_advice_128 : decode cX6_advice 128 = .ok (.iload 10, 2) := by decide +kernel
theorem dX6_advice_130 : decode cX6_advice 130 = .ok (.iload 9, 2) := by decide +kernel
theorem dX6_advice_132 : decode cX6_advice 132 = .ok (.if_icmp .ge 8, 3) := by decide +kernel
theorem dX6_advice_135 : decode cX6_advice 135 = .ok (.iload 10, 2) := by decide +kernel
theorem dX6_advice_137 : decode cX6_advice 137 = .ok (.goto 5, 3) := by decide +kernel
theorem dX6_advice_140 : decode cX6_advice 140 = .ok (.iload 9, 2) := by decide +kernel
theorem dX6_advice_142 : decode cX6_advice 142 = .ok (.istore 9, 2) := by decide +kernel
theorem dX6_advice_144 : decode cX6_advice 144 = .ok (.iload 11, 2) := by decide +kernel
theorem dX6_advice_146 : decode cX6_advice 146 = .ok (.iload 9, 2) := by decide +kernel
theorem dX6_advice_148 : decode cX6_advice 148 = .ok (.if_icmp .ge 8, 3) := by decide +kernel
theorem dX6_advice_151 : decode cX6_advice 151 = .ok (.iload 11, 2) := by decide +kernel
theorem dX6_advice_153 : decode cX6_advice 153 = .ok (.goto 5, 3) := by decide +kernel
theorem dX6_advice_156 : decode cX6_advice 156 = .ok (.iload 9, 2) := by decide +kernel
theorem dX6_advice_158 : decode cX6_advice 158 = .ok (.istore 9, 2) := by decide +kernel
theorem dX6_advice_160 : decode cX6_advice 160 = .ok (.iload_n 3, 1) := by decide +kernel
theorem dX6_advice_161 : decode cX6_advice 161 = .ok (.iconst (-1), 1) := by decide +kernel
theorem dX6_advice_162 : decode cX6_advice 162 = .ok (.if_icmp .eq 10, 3) := by decide +kernel
theorem dX6_advice_165 : decode cX6_advice 165 = .ok (.iload 9, 2) := by decide +kernel
theorem dX6_advice_167 : decode cX6_advice 167 = .ok (.iload 4, 2) := by decide +kernel
theorem dX6_advice_169 : decode cX6_advice 169 = .ok (.if_icmp .le 25, 3) := by decide +kernel
theorem dX6_advice_172 : decode cX6_advice 172 = .ok (.sipush 1000, 3) := by decide +kernel
theorem dX6_advice_175 : decode cX6_advice 175 = .ok (.iload 6, 2) := by decide +kernel
theorem dX6_advice_177 : decode cX6_advice 177 = .ok (.imul, 1) := by decide +kernel
theorem dX6_advice_178 : decode cX6_advice 178 = .ok (.bipush 10, 2) := by decide +kernel
theorem dX6_advice_180 : decode cX6_advice 180 = .ok (.iload 7, 2) := by decide +kernel
theorem dX6_advice_182 : decode cX6_advice 182 = .ok (.imul, 1) := by decide +kernel
theorem dX6_advice_183 : decode cX6_advice 183 = .ok (.iadd, 1) := by decide +kernel
theorem dX6_advice_184 : decode cX6_advice 184 = .ok (.iload 5, 2) := by decide +kernel
theorem dX6_advice_186 : decode cX6_advice 186 = .ok (.iconst 2, 1) := by decide +kernel
theorem dX6_advice_187 : decode cX6_advice 187 = .ok (.irem, 1) := by decide +kernel
theorem dX6_advice_188 : decode cX6_advice 188 = .ok (.iadd, 1) := by decide +kernel
theorem dX6_advice_189 : decode cX6_advice 189 = .ok (.istore_n 3, 1) := by decide +kernel
theorem dX6_advice_190 : decode cX6_advice 190 = .ok (.iload 9, 2) := by decide +kernel
theorem dX6_advice_192 : decode cX6_advice 192 = .ok (.istore 4, 2) := by decide +kernel
theorem dX6_advice_194 : decode cX6_advice 194 = .ok (.iinc 5 1, 3) := by decide +kernel
theorem dX6_advice_197 : decode cX6_advice 197 = .ok (.goto (-154), 3) := by decide +kernel
theorem dX6_advice_200 : decode cX6_advice 200 = .ok (.iload_n 3, 1) := by decide +kernel
theorem dX6_advice_201 : decode cX6_advice 201 = .ok (.ireturn, 1) := by decide +kernel
theorem dX6_average_0 : decode cX6_average 0 = .ok (.aload_n 0, 1) := by decide +kernel
theorem dX6_average_1 : decode cX6_average 1 = .ok (.getfield 66, 3) := by decide +kernel
theorem dX6_average_4 : decode cX6_average 4 = .ok (.iload_n 1, 1) := by decide +kernel
theorem dX6_average_5 : decode cX6_average 5 = .ok (.iaload, 1) := by decide +kernel
theorem dX6_average_6 : decode cX6_average 6 = .ok (.ifCond .ne 8, 3) := by decide +kernel
theorem dX6_average_9 : decode cX6_average 9 = .ok (.bipush 30, 2) := by decide +kernel
theorem dX6_average_11 : decode cX6_average 11 = .ok (.goto 16, 3) := by decide +kernel
theorem dX6_average_14 : decode cX6_average 14 = .ok (.aload_n 0, 1) := by decide +kernel
theorem dX6_average_15 : decode cX6_average 15 = .ok (.getfield 69, 3) := by decide +kernel
theorem dX6_average_18 : decode cX6_average 18 = .ok (.iload_n 1, 1) := by decide +kernel
theorem dX6_average_19 : decode cX6_average 19 = .ok (.iaload, 1) := by decide +kernel
theorem dX6_average_20 : decode cX6_average 20 = .ok (.aload_n 0, 1) := by decide +kernel
theorem dX6_average_21 : decode cX6_average 21 = .ok (.getfield 66, 3) := by decide +kernel
theorem dX6_average_24 : decode cX6_average 24 = .ok (.iload_n 1, 1) := by decide +kernel
theorem dX6_average_25 : decode cX6_average 25 = .ok (.iaload, 1) := by decide +kernel
theorem dX6_average_26 : decode cX6_average 26 = .ok (.idiv, 1) := by decide +kernel
theorem dX6_average_27 : decode cX6_average 27 = .ok (.ireturn, 1) := by decide +kernel
theorem dX6_standing_0 : decode cX6_standing 0 = .ok (.aload_n 0, 1) := by decide +kernel
theorem dX6_standing_1 : decode cX6_standing 1 = .ok (.iload_n 1, 1) := by decide +kernel
theorem dX6_standing_2 : decode cX6_standing 2 = .ok (.iconst 0, 1) := by decide +kernel
theorem dX6_standing_3 : decode cX6_standing 3 = .ok (.iconst 5, 1) := by decide +kernel
theorem dX6_standing_4 : decode cX6_standing 4 = .ok (.invokestatic 90, 3) := by decide +kernel
theorem dX6_standing_7 : decode cX6_standing 7 = .ok (.invokevirtual 108, 3) := by decide +kernel
theorem dX6_standing_10 : decode cX6_standing 10 = .ok (.ifCond .ne 5, 3) := by decide +kernel
theorem dX6_standing_13 : decode cX6_standing 13 = .ok (.iconst 0, 1) := by decide +kernel
theorem dX6_standing_14 : decode cX6_standing 14 = .ok (.ireturn, 1) := by decide +kernel
theorem dX6_standing_15 : decode cX6_standing 15 = .ok (.iconst 0, 1) := by decide +kernel
theorem dX6_standing_16 : decode cX6_standing 16 = .ok (.istore_n 2, 1) := by decide +kernel
theorem dX6_standing_17 : decode cX6_standing 17 = .ok (.iload_n 2, 1) := by decide +kernel
theorem dX6_standing_18 : decode cX6_standing 18 = .ok (.bipush 6, 2) := by decide +kernel
theorem dX6_standing_20 : decode cX6_standing 20 = .ok (.if_icmp .ge 120, 3) := by decide +kernel
theorem dX6_standing_23 : decode cX6_standing 23 = .ok (.iconst 0, 1) := by decide +kernel
theorem dX6_standing_24 : decode cX6_standing 24 = .ok (.istore_n 3, 1) := by decide +kernel
theorem dX6_standing_25 : decode cX6_standing 25 = .ok (.iconst 0, 1) := by decide +kernel
theorem dX6_standing_26 : decode cX6_standing 26 = .ok (.istore 4, 2) := by decide +kernel
theorem dX6_standing_28 : decode cX6_standing 28 = .ok (.iload 4, 2) := by decide +kernel
theorem dX6_standing_30 : decode cX6_standing 30 = .ok (.bipush 6, 2) := by decide +kernel
theorem dX6_standing_32 : decode cX6_standing 32 = .ok (.if_icmp .ge 95, 3) := by decide +kernel
theorem dX6_standing_35 : decode cX6_standing 35 = .ok (.aload_n 0, 1) := by decide +kernel
theorem dX6_standing_36 : decode cX6_standing 36 = .ok (.getfield 63, 3) := by decide +kernel
theorem dX6_standing_39 : decode cX6_standing 39 = .ok (.iload 4, 2) := by decide +kernel
theorem dX6_standing_41 : decode cX6_standing 41 = .ok (.iaload, 1) := by decide +kernel
