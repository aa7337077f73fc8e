theorem dX5_worthOfTry_38 : decode cX5_worthOfTry 38 = .ok (.aload_n 0, 1) := by decide +kernel
theorem dX5_worthOfTry_39 : decode cX5_worthOfTry 39 = .ok (.getfield 32, 3) := by decide +kernel
theorem dX5_worthOfTry_42 : decode cX5_worthOfTry 42 = .ok (.getfield 125, 3) := by decide +kernel
theorem dX5_worthOfTry_45 : decode cX5_worthOfTry 45 = .ok (.invokevirtual 192, 3) := by decide +kernel
theorem dX5_worthOfTry_48 : decode cX5_worthOfTry 48 = .ok (.istore 5, 2) := by decide +kernel
theorem dX5_worthOfTry_50 : decode cX5_worthOfTry 50 = .ok (.aload_n 1, 1) := by decide +kernel
theorem dX5_worthOfTry_51 : decode cX5_worthOfTry 51 = .ok (.invokevirtual 181, 3) := by decide +kernel
theorem dX5_worthOfTry_54 : decode cX5_worthOfTry 54 = .ok (.ifCond .ne 8, 3) := by decide +kernel
theorem dX5_worthOfTry_57 : decode cX5_worthOfTry 57 = .ok (.iload 5, 2) := by decide +kernel
theorem dX5_worthOfTry_59 : decode cX5_worthOfTry 59 = .ok (.goto 6, 3) := by decide +kernel
theorem dX5_worthOfTry_62 : decode cX5_worthOfTry 62 = .ok (.iload 5, 2) := by decide +kernel
theorem dX5_worthOfTry_64 : decode cX5_worthOfTry 64 = .ok (.ineg, 1) := by decide +kernel
theorem dX5_worthOfTry_65 : decode cX5_worthOfTry 65 = .ok (.ireturn, 1) := by decide +kernel
set_option maxRecDepth 20000 in
theorem ggX5_teamsAheadOf_X5_isAhead : GoodIn wsX5_teamsAheadOf wsX5_isAhead := goodIn_ca (goodIn_r _ [5, 6, 7, 8, 9, 4, 10, 11, 12, 13, 14, 15, 16, 17, 18, 19, 20, 21, 22, 23, 24, 25, 26, 27, 28, 29, 30, 31, 32] (by decide +kernel) (by decide +kernel)) (goodIn_sub (fun _ h => List.mem_cons_of_mem _ (List.mem_append_right _ h)) (by decide +kernel))
set_option maxRecDepth 20000 in
theorem gX5_teamsAheadOf_X5_isAhead : GoodIn wsX5_teamsAheadOf (wsV RX5 276 RX5 yX5_isAhead wsX5_isAhead) := goodIn_app (goodIn_of _ (by decide +kernel)) ggX5_teamsAheadOf_X5_isAhead
theorem dX5_teamsAheadOf_0 : decode cX5_teamsAheadOf 0 = .ok (.iconst 0, 1) := by decide +kernel
theorem dX5_teamsAheadOf_1 : decode cX5_teamsAheadOf 1 = .ok (.istore_n 2, 1) := by decide +kernel
theorem dX5_teamsAheadOf_2 : decode cX5_teamsAheadOf 2 = .ok (.iconst 0, 1) := by decide +kernel
theorem dX5_teamsAheadOf_3 : decode cX5_teamsAheadOf 3 = .ok (.istore_n 3, 1) := by decide +kernel
theorem dX5_teamsAheadOf_4 : decode cX5_teamsAheadOf 4 = .ok (.iload_n 3, 1) := by decide +kernel
theorem dX5_teamsAheadOf_5 : decode cX5_teamsAheadOf 5 = .ok (.bipush 6, 2) := by decide +kernel
theorem dX5_teamsAheadOf_7 : decode cX5_teamsAheadOf 7 = .ok (.if_icmp .ge 26, 3) := by decide +kernel
theorem dX5_teamsAheadOf_10 : decode cX5_teamsAheadOf 10 = .ok (.iload_n 3, 1) := by decide +kernel
theorem dX5_teamsAheadOf_11 : decode cX5_teamsAheadOf 11 = .ok (.iload_n 1, 1) := by decide +kernel
theorem dX5_teamsAheadOf_12 : decode cX5_teamsAheadOf 12 = .ok (.if_icmp .eq 15, 3) := by decide +kernel
theorem dX5_teamsAheadOf_15 : decode cX5_teamsAheadOf 15 = .ok (.aload_n 0, 1) := by decide +kernel
theorem dX5_teamsAheadOf_16 : decode cX5_teamsAheadOf 16 = .ok (.iload_n 3, 1) := by decide +kernel
theorem dX5_teamsAheadOf_17 : decode cX5_teamsAheadOf 17 = .ok (.iload_n 1, 1) := by decide +kernel
theorem dX5_teamsAheadOf_18 : decode cX5_teamsAheadOf 18 = .ok (.invokevirtual 276, 3) := by decide +kernel
theorem dX5_teamsAheadOf_21 : decode cX5_teamsAheadOf 21 = .ok (.ifCond .eq 6, 3) := by decide +kernel
theorem dX5_teamsAheadOf_24 : decode cX5_teamsAheadOf 24 = .ok (.iinc 2 1, 3) := by decide +kernel
theorem dX5_teamsAheadOf_27 : decode cX5_teamsAheadOf 27 = .ok (.iinc 3 1, 3) := by decide +kernel
theorem dX5_teamsAheadOf_30 : decode cX5_teamsAheadOf 30 = .ok (.goto (-26), 3) := by decide +kernel
theorem dX5_teamsAheadOf_33 : decode cX5_teamsAheadOf 33 = .ok (.iload_n 2, 1) := by decide +kernel
theorem dX5_teamsAheadOf_34 : decode cX5_teamsAheadOf 34 = .ok (.ireturn, 1) := by decide +kernel
set_option maxRecDepth 20000 in
theorem ggX5_isAhead_X5_teamOf : GoodIn wsX5_isAhead wsX5_teamOf := goodIn_ca (goodIn_r _ [6, 7, 8, 9, 20, 21, 22, 23, 24, 25, 26, 27, 28] (by decide +kernel) (by decide +kernel)) (goodIn_sub (fun _ h => List.mem_cons_of_mem _ (List.mem_append_right _ h)) (by decide +kernel))
set_option maxRecDepth 20000 in
theorem gX5_isAhead_X5_teamOf : GoodIn wsX5_isAhead (wsV RX5 209 RX5 yX5_teamOf wsX5_teamOf) := goodIn_app (goodIn_of _ (by decide +kernel)) ggX5_isAhead_X5_teamOf
set_option maxRecDepth 20000 in
theorem ggX5_isAhead_X4_lastStonesPerGame : GoodIn wsX5_isAhead wsX4_lastStonesPerGame := goodIn_r _ [14, 15, 16, 17, 18, 19] (by decide +kernel) (by decide +kernel)
set_option maxRecDepth 20000 in
theorem gX5_isAhead_X4_lastStonesPerGame : GoodIn wsX5_isAhead (wsV RX5 279 RX4 yX4_lastStonesPerGame wsX4_lastStonesPerGame) := goodIn_app (goodIn_of _ (by decide +kernel)) ggX5_isAhead_X4_lastStonesPerGame
theorem dX5_isAhead_0 : decode cX5_isAhead 0 = .ok (.aload_n 0, 1) := by decide +kernel
theorem dX5_isAhead_1 : decode cX5_isAhead 1 = .ok (.iload_n 1, 1) := by decide +kernel
theorem dX5_isAhead_2 : decode cX5_isAhead 2 = .ok (.invokevirtual 209, 3) := by decide +kernel
theorem dX5_isAhead_5 : decode cX5_isAhead 5 = .ok (.astore_n 3, 1) := by decide +kernel
theorem dX5_isAhead_6 : decode cX5_isAhead 6 = .ok (.aload_n 0, 1) := by decide +kernel
theorem dX5_isAhead_7 : decode cX5_isAhead 7 = .ok (.iload_n 2, 1) := by decide +kernel
theorem dX5_isAhead_8 : decode cX5_isAhead 8 = .ok (.invokevirtual 209, 3) := by decide +kernel
theorem dX5_isAhead_11 : decode cX5_isAhead 11 = .ok (.astore 4, 2) := by decide +kernel
theorem dX5_isAhead_13 : decode cX5_isAhead 13 = .ok (.aload_n 3, 1) := by decide +kernel
theorem dX5_isAhead_14 : decode cX5_isAhead 14 = .ok (.getfield 213, 3) := by decide +kernel
theorem dX5_isAhead_17 : decode cX5_isAhead 17 = .ok (.aload 4, 2) := by decide +kernel
theorem dX5_isAhead_19 : decode cX5_isAhead 19 = .ok (.getfield 213, 3) := by decide +kernel
theorem dX5_isAhead_22 : decode cX5_isAhead 22 = .ok (.if_icmp .eq 21, 3) := by decide +kernel
theorem dX5_isAhead_25 : decode cX5_isAhead 25 = .ok (.aload_n 3, 1) := by decide +kernel
theorem dX5_isAhead_26 : decode cX5_isAhead 26 = .ok (.getfield 213, 3) := by decide +kernel
theorem dX5_isAhead_29 : decode cX5_isAhead 29 = .ok (.aload 4, 2) := by decide +kernel
theorem dX5_isAhead_31 : decode cX5_isAhead 31 = .ok (.getfield 213, 3) := by decide +kernel
theorem dX5_isAhead_34 : decode cX5_isAhead 34 = .ok (.if_icmp .le 7, 3) := by decide +kernel
theorem dX5_isAhead_37 : decode cX5_isAhead 37 = .ok (.iconst 1, 1) := by decide +kernel
theorem dX5_isAhead_38 : decode cX5_isAhead 38 = .ok (.goto 4, 3) := by decide +kernel
theorem dX5_isAhead_41 : decode cX5_isAhead 41 = .ok (.iconst 0, 1) := by decide +kernel
theorem dX5_isAhead_42 : decode cX5_isAhead 42 = .ok (.ireturn, 1) := by decide +kernel
theorem dX5_isAhead_43 : decode cX5_isAhead 43 = .ok (.aload_n 3, 1) := by decide +kernel
theorem dX5_isAhead_44 : decode cX5_isAhead 44 = .ok (.invokevirtual 279, 3) := by decide +kernel
theorem dX5_isAhead_47 : decode cX5_isAhead 47 = .ok (.aload 4, 2) := by decide +kernel
theorem dX5_isAhead_49 : decode cX5_isAhead 49 = .ok (.invokevirtual 279, 3) := by decide +kernel
theorem dX5_isAhead_52 : decode cX5_isAhead 52 = .ok (.if_icmp .eq 21, 3) := by decide +kernel
theorem dX5_isAhead_55 : decode cX5_isAhead 55 = .ok (.aload_n 3, 1) := by decide +kernel
theorem dX5_isAhead_56 : decode cX5_isAhead 56 = .ok (.invokevirtual 279, 3) := by decide +kernel
theorem dX5_isAhead_59 : decode cX5_isAhead 59 = .ok (.aload 4, 2) := by decide +kernel
theorem dX5_isAhead_61 : decode cX5_isAhead 61 = .ok (.invokevirtual 279, 3) := by decide +kernel
theorem dX5_isAhead_64 : decode cX5_isAhead 64 = .ok (.if_icmp .ge 7, 3) := by decide +kernel
theorem dX5_isAhead_67 : decode cX5_isAhead 67 = .ok (.iconst 1, 1) := by decide +kernel
theorem dX5_isAhead_68 : decode cX5_isAhead 68 = .ok (.goto 4, 3) := by decide +kernel
theorem dX5_isAhead_71 : decode cX5_isAhead 71 = .ok (.iconst 0, 1) := by decide +kernel
theorem dX5_isAhead_72 : decode cX5_isAhead 72 = .ok (.ireturn, 1) := by decide +kernel
theorem dX5_isAhead_73 : decode cX5_isAhead 73 = .ok (.iload_n 1, 1) := by decide +kernel
theorem dX5_isAhead_74 : decode cX5_isAhead 74 = .ok (.iload_n 2, 1) := by decide +kernel
theorem dX5_isAhead_75 : decode cX5_isAhead 75 = .ok (.if_icmp .ge 7, 3) := by decide +kernel
theorem dX5_isAhead_78 : decode cX5_isAhead 78 = .ok (.iconst 1, 1) := by decide +kernel
theorem dX5_isAhead_79 : decode cX5_isAhead 79 = .ok (.goto 4, 3) := by decide +kernel
theorem dX5_isAhead_82 : decode cX5_isAhead 82 = .ok (.iconst 0, 1) := by decide +kernel
theorem dX5_isAhead_83 : decode cX5_isAhead 83 = .ok (.ireturn, 1) := by decide +kernel
theorem dX6_init_0 : decode cX6_init 0 = .ok (.aload_n 0, 1) := by decide +kernel
theorem dX6_init_1 : decode cX6_init 1 = .ok (.invokespecial 1, 3) := by decide +kernel
theorem dX6_init_4 : decode cX6_init 4 = .ok (.aload_n 0, 1) := by decide +kernel
theorem dX6_init_5 : decode cX6_init 5 = .ok (.iconst 2, 1) := by decide +kernel
theorem dX6_init_6 : decode cX6_init 6 = .ok (.putfield 7, 3) := by decide +kernel
theorem dX6_init_9 : decode cX6_init 9 = .ok (.aload_n 0, 1) := by decide +kernel
theorem dX6_init_10 : decode cX6_init 10 = .ok (.iconst (-1), 1) := by decide +kernel
theorem dX6_init_11 : decode cX6_init 11 = .ok (.putfield 13, 3) := by decide +kernel
theorem dX6_init_14 : decode cX6_init 14 = .ok (.aload_n 0, 1) := by decide +kernel
theorem dX6_init_15 : decode cX6_init 15 = .ok (.sipush 1647, 3) := by decide +kernel
theorem dX6_init_18 : decode cX6_init 18 = .ok (.newarray .int, 2) := by decide +kernel
theorem dX6_init_20 : decode cX6_init 20 = .ok (.putfield 16, 3) := by decide +kernel
theorem dX6_init_23 : decode cX6_init 23 = .ok (.aload_n 0, 1) := by decide +kernel
theorem dX6_init_24 : decode cX6_init 24 = .ok (.iconst 3, 1) := by decide +kernel
theorem dX6_init_25 : decode cX6_init 25 = .ok (.newarray .boolean, 2) := by decide +kernel
theorem dX6_init_27 : decode cX6_init 27 = .ok (.putfield 20, 3) := by decide +kernel
theorem dX6_init_30 : decode cX6_init 30 = .ok (.aload_n 0, 1) := by decide +kernel
theorem dX6_init_31 : decode cX6_init 31 = .ok (.iconst 3, 1) := by decide +kernel
theorem dX6_init_32 : decode cX6_init 32 = .ok (.newarray .int, 2) := by decide +kernel
theorem dX6_init_34 : decode cX6_init 34 = .ok (.putfield 24, 3) := by decide +kernel
theorem dX6_init_37 : decode cX6_init 37 = .ok (.aload_n 0, 1) := by decide +kernel
theorem dX6_init_38 : decode cX6_init 38 = .ok (.bipush 12, 2) := by decide +kernel
theorem dX6_init_40 : decode cX6_init 40 = .ok (.newarray .int, 2) := by decide +kernel
theorem dX6_init_42 : decode cX6_init 42 = .ok (.putfield 27, 3) := by decide +kernel
theorem dX6_init_45 : decode cX6_init 45 = .ok (.aload_n 0, 1) := by decide +kernel
theorem dX6_init_46 : decode cX6_init 46 = .ok (.bipush 12, 2) := by decide +kernel
theorem dX6_init_48 : decode cX6_init 48 = .ok (.newarray .int, 2) := by decide +kernel
theorem dX6_init_50 : decode cX6_init 50 = .ok (.putfield 30, 3) := by decide +kernel
theorem dX6_init_53 : decode cX6_init 53 = .ok (.aload_n 0, 1) := by decide +kernel
theorem dX6_init_54 : decode cX6_init 54 = .ok (.bipush 12, 2) := by decide +kernel
theorem dX6_init_56 : decode cX6_init 56 = .ok (.newarray .int, 2) := by decide +kernel
theorem dX6_init_58 : decode cX6_init 58 = .ok (.putfield 33, 3) := by decide +kernel
theorem dX6_init_61 : decode cX6_init 61 = .ok (.aload_n 0, 1) := by decide +kernel
theorem dX6_init_62 : decode cX6_init 62 = .ok (.bipush 12, 2) := by decide +kernel
theorem dX6_init_64 : decode cX6_init 64 = .ok (.newarray .int, 2) := by decide +kernel
theorem dX6_init_66 : decode cX6_init 66 = .ok (.putfield 36, 3) := by decide +kernel
theorem dX6_init_69 : decode cX6_init 69 = .ok (.aload_n 0, 1) := by decide +kernel
theorem dX6_init_70 : decode cX6_init 70 = .ok (.bipush 12, 2) := by decide +kernel
theorem dX6_init_72 : decode cX6_init 72 = .ok (.newarray .int, 2) := by decide +kernel
theorem dX6_init_74 : decode cX6_init 74 = .ok (.putfield 39, 3) := by decide +kernel
theorem dX6_init_77 : decode cX6_init 77 = .ok (.aload_n 0, 1) := by decide +kernel
theorem dX6_init_78 : decode cX6_init 78 = .ok (.bipush 12, 2) := by decide +kernel
theorem dX6_init_80 : decode cX6_init 80 = .ok (.newarray .int, 2) := by decide +kernel
theorem dX6_init_82 : decode cX6_init 82 = .ok (.putfield 42, 3) := by decide +kernel
theorem dX6_init_85 : decode cX6_init 85 = .ok (.aload_n 0, 1) := by decide +kernel
theorem dX6_init_86 : decode cX6_init 86 = .ok (.bipush 24, 2) := by decide +kernel
theorem dX6_init_88 : decode cX6_init 88 = .ok (.newarray .int, 2) := by decide +kernel
theorem dX6_init_90 : decode cX6_init 90 = .ok (.putfield 45, 3) := by decide +kernel
theorem dX6_init_93 : decode cX6_init 93 = .ok (.aload_n 0, 1) := by decide +kernel
theorem dX6_init_94 : decode cX6_init 94 = .ok (.bipush 12, 2) := by decide +kernel
theorem dX6_init_96 : decode cX6_init 96 = .ok (.newarray .int, 2) := by decide +kernel
theorem dX6_init_98 : decode cX6_init 98 = .ok (.putfield 48, 3) := by decide +kernel
theorem dX6_init_101 : decode cX6_init 101 = .ok (.aload_n 0, 1) := by decide +kernel
theorem dX6_init_102 : decode cX6_init 102 = .ok (.bipush 12, 2) := by decide +kernel
theorem dX6_init_104 : decode cX6_init 104 = .ok (.newarray .int, 2) := by decide +kernel
theorem dX6_init_106 : decode cX6_init 106 = .ok (.putfield 51, 3) := by decide +kernel
theorem dX6_init_109 : decode cX6_init 109 = .ok (.aload_n 0, 1) := by decide +kernel
theorem dX6_init_110 : decode cX6_init 110 = .ok (.bipush 12, 2) := by decide +kernel
theorem dX6_init_112 : decode cX6_init 112 = .ok (.newarray .int, 2) := by decide +kernel
theorem dX6_init_114 : decode cX6_init 114 = .ok (.putfield 54, 3) := by decide +kernel
theorem dX6_init_117 : decode cX6_init 117 = .ok (.aload_n 0, 1) := by decide +kernel
theorem dX6_init_118 : decode cX6_init 118 = .ok (.bipush 12, 2) := by decide +kernel
theorem dX6_init_120 : decode cX6_init 120 = .ok (.newarray .int, 2) := by decide +kernel
theorem dX6_init_122 : decode cX6_init 122 = .ok (.putfield 57, 3) := by decide +kernel
theorem dX6_init_125 : decode cX6_init 125 = .ok (.aload_n 0, 1) := by decide +kernel
theorem dX6_init_126 : decode cX6_init 126 = .ok (.bipush 72, 2) := by decide +kernel
theorem dX6_init_128 : decode cX6_init 128 = .ok (.newarray .int, 2) := by decide +kernel
theorem dX6_init_130 : decode cX6_init 130 = .ok (.putfield 60, 3) := by decide +kernel
theorem dX6_init_133 : decode cX6_init 133 = .ok (.aload_n 0, 1) := by decide +kernel
theorem dX6_init_134 : decode cX6_init 134 = .ok (.bipush 6, 2) := by decide +kernel
theorem dX6_init_136 : decode cX6_init 136 = .ok (.newarray .int, 2) := by decide +kernel
theorem dX6_init_138 : decode cX6_init 138 = .ok (.putfield 63, 3) := by decide +kernel
theorem dX6_init_141 : decode cX6_init 141 = .ok (.aload_n 0, 1) := by decide +kernel
theorem dX6_init_142 : decode cX6_init 142 = .ok (.bipush 6, 2) := by decide +kernel
theorem dX6_init_144 : decode cX6_init 144 = .ok (.newarray .int, 2) := by decide +kernel
theorem dX6_init_146 : decode cX6_init 146 = .ok (.putfield 66, 3) := by decide +kernel
theorem dX6_init_149 : decode cX6_init 149 = .ok (.aload_n 0, 1) := by decide +kernel
theorem dX6_init_150 : decode cX6_init 150 = .ok (.bipush 6, 2) := by decide +kernel
theorem dX6_init_152 : decode cX6_init 152 = .ok (.newarray .int, 2) := by decide +kernel
theorem dX6_init_154 : decode cX6_init 154 = .ok (.putfield 69, 3) := by decide +kernel
theorem dX6_init_157 : decode cX6_init 157 = .ok (.aload_n 0, 1) := by decide +kernel
theorem dX6_init_158 : decode cX6_init 158 = .ok (.sipush 549, 3) := by decide +kernel
theorem dX6_init_161 : decode cX6_init 161 = .ok (.newarray .int, 2) := by decide +kernel
theorem dX6_init_163 : decode cX6_init 163 = .ok (.putfield 72, 3) := by decide +kernel
theorem dX6_init_166 : decode cX6_init 166 = .ok (.aload_n 0, 1) := by decide +kernel
theorem dX6_init_167 : decode cX6_init 167 = .ok (.bipush 6, 2) := by decide +kernel
theorem dX6_init_169 : decode cX6_init 169 = .ok (.newarray .int, 2) := by decide +kernel
theorem dX6_init_171 : decode cX6_init 171 = .ok (.putfield 75, 3) := by decide +kernel
theorem dX6_init_174 : decode cX6_init 174 = .ok (.aload_n 0, 1) := by decide +kernel
theorem dX6_init_175 : decode cX6_init 175 = .ok (.bipush 6, 2) := by decide +kernel
theorem dX6_init_177 : decode cX6_init 177 = .ok (.newarray .int, 2) := by decide +kernel
theorem dX6_init_179 : decode cX6_init 179 = .ok (.putfield 78, 3) := by decide +kernel
theorem dX6_init_182 : decode cX6_init 182 = .ok (.aload_n 0, 1) := by decide +kernel
theorem dX6_init_183 : decode cX6_init 183 = .ok (.bipush 12, 2) := by decide +kernel
theorem dX6_init_185 : decode cX6_init 185 = .ok (.newarray .boolean, 2) := by decide +kernel
theorem dX6_init_187 : decode cX6_init 187 = .ok (.putfield 81, 3) := by decide +kernel
theorem dX6_init_190 : decode cX6_init 190 = .ok (.iconst 0, 1) := by decide +kernel
theorem dX6_init_191 : decode cX6_init 191 = .ok (.istore_n 1, 1) := by decide +kernel
theorem dX6_init_192 : decode cX6_init 192 = .ok (.iload_n 1, 1) := by decide +kernel
theorem dX6_init_193 : decode cX6_init 193 = .ok (.iconst 3, 1) := by decide +kernel
theorem dX6_init_194 : decode cX6_init 194 = .ok (.if_icmp .ge 16, 3) := by decide +kernel
theorem dX6_init_197 : decode cX6_init 197 = .ok (.aload_n 0, 1) := by decide +kernel
theorem dX6_init_198 : decode cX6_init 198 = .ok (.getfield 24, 3) := by decide +kernel
theorem dX6_init_201 : decode cX6_init 201 = .ok (.iload_n 1, 1) := by decide +kernel
theorem dX6_init_202 : decode cX6_init 202 = .ok (.iconst (-1), 1) := by decide +kernel
theorem dX6_init_203 : decode cX6_init 203 = .ok (.iastore, 1) := by decide +kernel
theorem dX6_init_204 : decode cX6_init 204 = .ok (.iinc 1 1, 3) := by decide +kernel
theorem dX6_init_207 : decode cX6_init 207 = .ok (.goto (-15), 3) := by decide +kernel
theorem dX6_init_210 : decode cX6_init 210 = .ok (.return_, 1) := by decide +kernel
theorem dX6_thrown_0 : decode cX6_thrown 0 = .ok (.aload_n 0, 1) := by decide +kernel
theorem dX6_thrown_1 : decode cX6_thrown 1 = .ok (.getfield 84, 3) := by decide +kernel
theorem dX6_thrown_4 : decode cX6_thrown 4 = .ok (.ireturn, 1) := by decide +kernel
theorem dX6_asked_0 : decode cX6_asked 0 = .ok (.aload_n 0, 1) := by decide +kernel
theorem dX6_asked_1 : decode cX6_asked 1 = .ok (.iload_n 1, 1) := by decide +kernel
theorem dX6_asked_2 : decode cX6_asked 2 = .ok (.ifCond .eq 7, 3) := by decide +kernel
theorem dX6_asked_5 : decode cX6_asked 5 = .ok (.iconst 0, 1) := by decide +kernel
theorem dX6_asked_6 : decode cX6_asked 6 = .ok (.goto 4, 3) := by decide +kernel
theorem dX6_asked_9 : decode cX6_asked 9 = .ok (.iconst 1, 1) := by decide +kernel
theorem dX6_asked_10 : decode cX6_asked 10 = .ok (.putfield 84, 3) := by decide +kernel
theorem dX6_asked_13 : decode cX6_asked 13 = .ok (.iload_n 1, 1) := by decide +kernel
theorem dX6_asked_14 : decode cX6_asked 14 = .ok (.ireturn, 1) := by decide +kernel
theorem dX6_asked__0 : decode cX6_asked_ 0 = .ok (.aload_n 0, 1) := by decide +kernel
theorem dX6_asked__1 : decode cX6_asked_ 1 = .ok (.iload_n 1, 1) := by decide +kernel
theorem dX6_asked__2 : decode cX6_asked_ 2 = .ok (.ifCond .ne 7, 3) := by decide +kernel
theorem dX6_asked__5 : decode cX6_asked_ 5 = .ok (.iconst 1, 1) := by decide +kernel
theorem dX6_asked__6 : decode cX6_asked_ 6 = .ok (.goto 12, 3) := by decide +kernel
theorem dX6_asked__9 : decode cX6_asked_ 9 = .ok (.iload_n 2, 1) := by decide +kernel
theorem dX6_asked__10 : decode cX6_asked_ 10 = .ok (.ifCond .eq 7, 3) := by decide +kernel
theorem dX6_asked__13 : decode cX6_asked_ 13 = .ok (.iconst 0, 1) := by decide +kernel
theorem dX6_asked__14 : decode cX6_asked_ 14 = .ok (.goto 4, 3) := by decide +kernel
theorem dX6_asked__17 : decode cX6_asked_ 17 = .ok (.iconst 2, 1) := by decide +kernel
theorem dX6_asked__18 : decode cX6_asked_ 18 = .ok (.putfield 84, 3) := by decide +kernel
theorem dX6_asked__21 : decode cX6_asked_ 21 = .ok (.aload_n 0, 1) := by decide +kernel
theorem dX6_asked__22 : decode cX6_asked_ 22 = .ok (.getfield 84, 3) := by decide +kernel
theorem dX6_asked__25 : decode cX6_asked_ 25 = .ok (.ifCond .ne 7, 3) := by decide +kernel
theorem dX6_asked__28 : decode cX6_asked_ 28 = .ok (.iconst 1, 1) := by decide +kernel
theorem dX6_asked__29 : decode cX6_asked_ 29 = .ok (.goto 4, 3) := by decide +kernel
theorem dX6_asked__32 : decode cX6_asked_ 32 = .ok (.iconst 0, 1) := by decide +kernel
theorem dX6_asked__33 : decode cX6_asked_ 33 = .ok (.ireturn, 1) := by decide +kernel
theorem dX6_asked___0 : decode cX6_asked__ 0 = .ok (.aload_n 0, 1) := by decide +kernel
theorem dX6_asked___1 : decode cX6_asked__ 1 = .ok (.iload_n 1, 1) := by decide +kernel
theorem dX6_asked___2 : decode cX6_asked__ 2 = .ok (.ifCond .ne 7, 3) := by decide +kernel
theorem dX6_asked___5 : decode cX6_asked__ 5 = .ok (.iconst 1, 1) := by decide +kernel
theorem dX6_asked___6 : decode cX6_asked__ 6 = .ok (.goto 20, 3) := by decide +kernel
theorem dX6_asked___9 : decode cX6_asked__ 9 = .ok (.iload_n 2, 1) := by decide +kernel
theorem dX6_asked___10 : decode cX6_asked__ 10 = .ok (.ifCond .ne 7, 3) := by decide +kernel
theorem dX6_asked___13 : decode cX6_asked__ 13 = .ok (.iconst 2, 1) := by decide +kernel
theorem dX6_asked___14 : decode cX6_asked__ 14 = .ok (.goto 12, 3) := by decide +kernel
theorem dX6_asked___17 : decode cX6_asked__ 17 = .ok (.iload_n 3, 1) := by decide +kernel
theorem dX6_asked___18 : decode cX6_asked__ 18 = .ok (.ifCond .eq 7, 3) := by decide +kernel
theorem dX6_asked___21 : decode cX6_asked__ 21 = .ok (.iconst 0, 1) := by decide +kernel
theorem dX6_asked___22 : decode cX6_asked__ 22 = .ok (.goto 4, 3) := by decide +kernel
theorem dX6_asked___25 : decode cX6_asked__ 25 = .ok (.iconst 3, 1) := by decide +kernel
theorem dX6_asked___26 : decode cX6_asked__ 26 = .ok (.putfield 84, 3) := by decide +kernel
theorem dX6_asked___29 : decode cX6_asked__ 29 = .ok (.aload_n 0, 1) := by decide +kernel
theorem dX6_asked___30 : decode cX6_asked__ 30 = .ok (.getfield 84, 3) := by decide +kernel
theorem dX6_asked___33 : decode cX6_asked__ 33 = .ok (.ifCond .ne 7, 3) := by decide +kernel
theorem dX6_asked___36 : decode cX6_asked__ 36 = .ok (.iconst 1, 1) := by decide +kernel
theorem dX6_asked___37 : decode cX6_asked__ 37 = .ok (.goto 4, 3) := by decide +kernel
theorem dX6_asked___40 : decode cX6_asked__ 40 = .ok (.iconst 0, 1) := by decide +kernel
theorem dX6_asked___41 : decode cX6_asked__ 41 = .ok (.ireturn, 1) := by decide +kernel
theorem dX6_in_0 : decode cX6_in 0 = .ok (.iload_n 0, 1) := by decide +kernel
theorem dX6_in_1 : decode cX6_in 1 = .ok (.iload_n 1, 1) := by decide +kernel
theorem dX6_in_2 : decode cX6_in 2 = .ok (.if_icmp .lt 12, 3) := by decide +kernel
theorem dX6_in_5 : decode cX6_in 5 = .ok (.iload_n 0, 1) := by decide +kernel
theorem dX6_in_6 : decode cX6_in 6 = .ok (.iload_n 2, 1) := by decide +kernel
theorem dX6_in_7 : decode cX6_in 7 = .ok (.if_icmp .gt 7, 3) := by decide +kernel
theorem dX6_in_10 : decode cX6_in 10 = .ok (.iconst 1, 1) := by decide +kernel
theorem dX6_in_11 : decode cX6_in 11 = .ok (.goto 4, 3) := by decide +kernel
theorem dX6_in_14 : decode cX6_in 14 = .ok (.iconst 0, 1) := by decide +kernel
theorem dX6_in_15 : decode cX6_in 15 = .ok (.ireturn, 1) := by decide +kernel
set_option maxRecDepth 20000 in
theorem ggX6_isGame_X6_in : GoodIn wsX6_isGame wsX6_in := goodIn_r _ [5] (by decide +kernel) (by decide +kernel)
set_option maxRecDepth 20000 in
theorem gX6_isGame_X6_in : GoodIn wsX6_isGame (va_wsS RX6 90 yX6_in wsX6_in) := goodIn_app (goodIn_of _ (by decide +kernel)) ggX6_isGame_X6_in
theorem dX6_isGame_0 : decode cX6_isGame 0 = .ok (.iload_n 1, 1) := by decide +kernel
theorem dX6_isGame_1 : decode cX6_isGame 1 = .ok (.iconst 0, 1) := by decide +kernel
theorem dX6_isGame_2 : decode cX6_isGame 2 = .ok (.aload_n 0, 1) := by decide +kernel
theorem dX6_isGame_3 : decode cX6_isGame 3 = .ok (.getfield 87, 3) := by decide +kernel
theorem dX6_isGame_6 : decode cX6_isGame 6 = .ok (.iconst 1, 1) := by decide +kernel
theorem dX6_isGame_7 : decode cX6_isGame 7 = .ok (.isub, 1) := by decide +kernel
theorem dX6_isGame_8 : decode cX6_isGame 8 = .ok (.invokestatic 90, 3) := by decide +kernel
theorem dX6_isGame_11 : decode cX6_isGame 11 = .ok (.ireturn, 1) := by decide +kernel
set_option maxRecDepth 20000 in
theorem ggX6_isTeam_X6_in : GoodIn wsX6_isTeam wsX6_in := goodIn_r _ [4] (by decide +kernel) (by decide +kernel)
set_option maxRecDepth 20000 in
theorem gX6_isTeam_X6_in : GoodIn wsX6_isTeam (va_wsS RX6 90 yX6_in wsX6_in) := goodIn_app (goodIn_of _ (by decide +kernel)) ggX6_isTeam_X6_in
theorem dX6_isTeam_0 : decode cX6_isTeam 0 = .ok (.iload_n 0, 1) := by decide +kernel
theorem dX6_isTeam_1 : decode cX6_isTeam 1 = .ok (.iconst 0, 1) := by decide +kernel
theorem dX6_isTeam_2 : decode cX6_isTeam 2 = .ok (.iconst 5, 1) := by decide +kernel
theorem dX6_isTeam_3 : decode cX6_isTeam 3 = .ok (.invokestatic 90, 3) := by decide +kernel
theorem dX6_isTeam_6 : decode cX6_isTeam 6 = .ok (.ireturn, 1) := by decide +kernel
set_option maxRecDepth 20000 in
theorem ggX6_isSheet_X6_in : GoodIn wsX6_isSheet wsX6_in := goodIn_r _ [4] (by decide +kernel) (by decide +kernel)
set_option maxRecDepth 20000 in
theorem gX6_isSheet_X6_in : GoodIn wsX6_isSheet (va_wsS RX6 90 yX6_in wsX6_in) := goodIn_app (goodIn_of _ (by decide +kernel)) ggX6_isSheet_X6_in
theorem dX6_isSheet_0 : decode cX6_isSheet 0 = .ok (.iload_n 0, 1) := by decide +kernel
theorem dX6_isSheet_1 : decode cX6_isSheet 1 = .ok (.iconst 0, 1) := by decide +kernel
theorem dX6_isSheet_2 : decode cX6_isSheet 2 = .ok (.iconst 2, 1) := by decide +kernel
theorem dX6_isSheet_3 : decode cX6_isSheet 3 = .ok (.invokestatic 90, 3) := by decide +kernel
theorem dX6_isSheet_6 : decode cX6_isSheet 6 = .ok (.ireturn, 1) := by decide +kernel
set_option maxRecDepth 20000 in
theorem ggX6_plan_X6_isTeam : GoodIn wsX6_plan wsX6_isTeam := goodIn_r _ [12, 13, 14, 11, 15] (by decide +kernel) (by decide +kernel)
set_option maxRecDepth 20000 in
theorem gX6_plan_X6_isTeam : GoodIn wsX6_plan (va_wsS RX6 94 yX6_isTeam wsX6_isTeam) := goodIn_app (goodIn_of _ (by decide +kernel)) ggX6_plan_X6_isTeam
set_option maxRecDepth 20000 in
theorem ggX6_plan_X6_isSheet : GoodIn wsX6_plan wsX6_isSheet := goodIn_r _ [18, 13, 14, 11, 15] (by decide +kernel) (by decide +kernel)
set_option maxRecDepth 20000 in
theorem gX6_plan_X6_isSheet : GoodIn wsX6_plan (va_wsS RX6 98 yX6_isSheet wsX6_isSheet) := goodIn_app (goodIn_of _ (by decide +kernel)) ggX6_plan_X6_isSheet
set_option maxRecDepth 20000 in
theorem ggX6_plan_X6_in : GoodIn wsX6_plan wsX6_in := goodIn_r _ [15] (by decide +kernel) (by decide +kernel)
set_option maxRecDepth 20000 in
theorem gX6_plan_X6_in : GoodIn wsX6_plan (va_wsS RX6 90 yX6_in wsX6_in) := goodIn_app (goodIn_of _ (by decide +kernel)) ggX6_plan_X6_in
set_option maxRecDepth 20000 in
theorem ggX6_plan_X6_asked__ : GoodIn wsX6_plan wsX6_asked__ := goodIn_r _ [22, 23, 24, 25, 26, 27, 28, 29, 30, 31, 32, 33, 34, 35, 36, 37, 38, 39, 40, 41, 42, 43, 44, 45, 46, 47, 48, 49, 50, 51] (by decide +kernel) (by decide +kernel)
set_option maxRecDepth 20000 in
theorem gX6_plan_X6_asked__ : GoodIn wsX6_plan (wsV RX6 104 RX6 yX6_asked__ wsX6_asked__) := goodIn_app (goodIn_of _ (by decide +kernel)) ggX6_plan_X6_asked__
theorem dX6_plan_0 : decode cX6_plan 0 = .ok (.aload_n 0, 1) := by decide +kernel
theorem dX6_plan_1 : decode cX6_plan 1 = .ok (.iload_n 1, 1) := by decide +kernel
theorem dX6_plan_2 : decode cX6_plan 2 = .ok (.invokestatic 94, 3) := by decide +kernel
theorem dX6_plan_5 : decode cX6_plan 5 = .ok (.ifCond .eq 22, 3) := by decide +kernel
theorem dX6_plan_8 : decode cX6_plan 8 = .ok (.iload_n 2, 1) := by decide +kernel
theorem dX6_plan_9 : decode cX6_plan 9 = .ok (.invokestatic 94, 3) := by decide +kernel
theorem dX6_plan_12 : decode cX6_plan 12 = .ok (.ifCond .eq 15, 3) := by decide +kernel
theorem dX6_plan_15 : decode cX6_plan 15 = .ok (.iload 4, 2) := by decide +kernel
theorem dX6_plan_17 : decode cX6_plan 17 = .ok (.invokestatic 98, 3) := by decide +kernel
theorem dX6_plan_20 : decode cX6_plan 20 = .ok (.ifCond .eq 7, 3) := by decide +kernel
theorem dX6_plan_23 : decode cX6_plan 23 = .ok (.iconst 1, 1) := by decide +kernel
theorem dX6_plan_24 : decode cX6_plan 24 = .ok (.goto 4, 3) := by decide +kernel
theorem dX6_plan_27 : decode cX6_plan 27 = .ok (.iconst 0, 1) := by decide +kernel
theorem dX6_plan_28 : decode cX6_plan 28 = .ok (.iload_n 1, 1) := by decide +kernel
theorem dX6_plan_29 : decode cX6_plan 29 = .ok (.iload_n 2, 1) := by decide +kernel
theorem dX6_plan_30 : decode cX6_plan 30 = .ok (.if_icmp .eq 23, 3) := by decide +kernel
theorem dX6_plan_33 : decode cX6_plan 33 = .ok (.iload_n 3, 1) := by decide +kernel
theorem dX6_plan_34 : decode cX6_plan 34 = .ok (.aload_n 0, 1) := by decide +kernel
theorem dX6_plan_35 : decode cX6_plan 35 = .ok (.getfield 101, 3) := by decide +kernel
theorem dX6_plan_38 : decode cX6_plan 38 = .ok (.iconst 1, 1) := by decide +kernel
theorem dX6_plan_39 : decode cX6_plan 39 = .ok (.iadd, 1) := by decide +kernel
theorem dX6_plan_40 : decode cX6_plan 40 = .ok (.sipush 9999, 3) := by decide +kernel
theorem dX6_plan_43 : decode cX6_plan 43 = .ok (.invokestatic 90, 3) := by decide +kernel
theorem dX6_plan_46 : decode cX6_plan 46 = .ok (.ifCond .eq 7, 3) := by decide +kernel
theorem dX6_plan_49 : decode cX6_plan 49 = .ok (.iconst 1, 1) := by decide +kernel
theorem dX6_plan_50 : decode cX6_plan 50 = .ok (.goto 4, 3) := by decide +kernel
theorem dX6_plan_53 : decode cX6_plan 53 = .ok (.iconst 0, 1) := by decide +kernel
theorem dX6_plan_54 : decode cX6_plan 54 = .ok (.aload_n 0, 1) := by decide +kernel
theorem dX6_plan_55 : decode cX6_plan 55 = .ok (.getfield 87, 3) := by decide +kernel
theorem dX6_plan_58 : decode cX6_plan 58 = .ok (.bipush 12, 2) := by decide +kernel
theorem dX6_plan_60 : decode cX6_plan 60 = .ok (.if_icmp .ge 7, 3) := by decide +kernel
theorem dX6_plan_63 : decode cX6_plan 63 = .ok (.iconst 1, 1) := by decide +kernel
theorem dX6_plan_64 : decode cX6_plan 64 = .ok (.goto 4, 3) := by decide +kernel
theorem dX6_plan_67 : decode cX6_plan 67 = .ok (.iconst 0, 1) := by decide +kernel
theorem dX6_plan_68 : decode cX6_plan 68 = .ok (.invokevirtual 104, 3) := by decide +kernel
theorem dX6_plan_71 : decode cX6_plan 71 = .ok (.ifCond .ne 5, 3) := by decide +kernel
theorem dX6_plan_74 : decode cX6_plan 74 = .ok (.iconst 0, 1) := by decide +kernel
theorem dX6_plan_75 : decode cX6_plan 75 = .ok (.ireturn, 1) := by decide +kernel
theorem dX6_plan_76 : decode cX6_plan 76 = .ok (.aload_n 0, 1) := by decide +kernel
theorem dX6_plan_77 : decode cX6_plan 77 = .ok (.getfield 30, 3) := by decide +kernel
theorem dX6_plan_80 : decode cX6_plan 80 = .ok (.aload_n 0, 1) := by decide +kernel
theorem dX6_plan_81 : decode cX6_plan 81 = .ok (.getfield 87, 3) := by decide +kernel
theorem dX6_plan_84 : decode cX6_plan 84 = .ok (.iload_n 1, 1) := by decide +kernel
theorem dX6_plan_85 : decode cX6_plan 85 = .ok (.iastore, 1) := by decide +kernel
theorem dX6_plan_86 : decode cX6_plan 86 = .ok (.aload_n 0, 1) := by decide +kernel
theorem dX6_plan_87 : decode cX6_plan 87 = .ok (.getfield 33, 3) := by decide +kernel
theorem dX6_plan_90 : decode cX6_plan 90 = .ok (.aload_n 0, 1) := by decide +kernel
theorem dX6_plan_91 : decode cX6_plan 91 = .ok (.getfield 87, 3) := by decide +kernel
theorem dX6_plan_94 : decode cX6_plan 94 = .ok (.iload_n 2, 1) := by decide +kernel
theorem dX6_plan_95 : decode cX6_plan 95 = .ok (.iastore, 1) := by decide +kernel
theorem dX6_plan_96 : decode cX6_plan 96 = .ok (.aload_n 0, 1) := by decide +kernel
theorem dX6_plan_97 : decode cX6_plan 97 = .ok (.getfield 36, 3) := by decide +kernel
theorem dX6_plan_100 : decode cX6_plan 100 = .ok (.aload_n 0, 1) := by decide +kernel
theorem dX6_plan_101 : decode cX6_plan 101 = .ok (.getfield 87, 3) := by decide +kernel
theorem dX6_plan_104 : decode cX6_plan 104 = .ok (.iload_n 3, 1) := by decide +kernel
theorem dX6_plan_105 : decode cX6_plan 105 = .ok (.iastore, 1) := by decide +kernel
theorem dX6_plan_106 : decode cX6_plan 106 = .ok (.aload_n 0, 1) := by decide +kernel
theorem dX6_plan_107 : decode cX6_plan 107 = .ok (.getfield 39, 3) := by decide +kernel
theorem dX6_plan_110 : decode cX6_plan 110 = .ok (.aload_n 0, 1) := by decide +kernel
theorem dX6_plan_111 : decode cX6_plan 111 = .ok (.getfield 87, 3) := by decide +kernel
theorem dX6_plan_114 : decode cX6_plan 114 = .ok (.iload 4, 2) := by decide +kernel
theorem dX6_plan_116 : decode cX6_plan 116 = .ok (.iastore, 1) := by decide +kernel
theorem dX6_plan_117 : decode cX6_plan 117 = .ok (.aload_n 0, 1) := by decide +kernel
theorem dX6_plan_118 : decode cX6_plan 118 = .ok (.getfield 42, 3) := by decide +kernel
theorem dX6_plan_121 : decode cX6_plan 121 = .ok (.aload_n 0, 1) := by decide +kernel
theorem dX6_plan_122 : decode cX6_plan 122 = .ok (.getfield 87, 3) := by decide +kernel
theorem dX6_plan_125 : decode cX6_plan 125 = .ok (.iconst (-1), 1) := by decide +kernel
theorem dX6_plan_126 : decode cX6_plan 126 = .ok (.iastore, 1) := by decide +kernel
theorem dX6_plan_127 : decode cX6_plan 127 = .ok (.iconst 0, 1) := by decide +kernel
theorem dX6_plan_128 : decode cX6_plan 128 = .ok (.istore 5, 2) := by decide +kernel
theorem dX6_plan_130 : decode cX6_plan 130 = .ok (.iload 5, 2) := by decide +kernel
theorem dX6_plan_132 : decode cX6_plan 132 = .ok (.bipush 6, 2) := by decide +kernel
theorem dX6_plan_134 : decode cX6_plan 134 = .ok (.if_icmp .ge 25, 3) := by decide +kernel
theorem dX6_plan_137 : decode cX6_plan 137 = .ok (.aload_n 0, 1) := by decide +kernel
theorem dX6_plan_138 : decode cX6_plan 138 = .ok (.getfield 60, 3) := by decide +kernel
theorem dX6_plan_141 : decode cX6_plan 141 = .ok (.bipush 6, 2) := by decide +kernel
theorem dX6_plan_143 : decode cX6_plan 143 = .ok (.aload_n 0, 1) := by decide +kernel
theorem dX6_plan_144 : decode cX6_plan 144 = .ok (.getfield 87, 3) := by decide +kernel
theorem dX6_plan_147 : decode cX6_plan 147 = .ok (.imul, 1) := by decide +kernel
theorem dX6_plan_148 : decode cX6_plan 148 = .ok (.iload 5, 2) := by decide +kernel
theorem dX6_plan_150 : decode cX6_plan 150 = .ok (.iadd, 1) := by decide +kernel
theorem dX6_plan_151 : decode cX6_plan 151 = .ok (.iconst (-1), 1) := by decide +kernel
theorem dX6_plan_152 : decode cX6_plan 152 = .ok (.iastore, 1) := by decide +kernel
theorem dX6_plan_153 : decode cX6_plan 153 = .ok (.iinc 5 1, 3) := by decide +kernel
theorem dX6_plan_156 : decode cX6_plan 156 = .ok (.goto (-26), 3) := by decide +kernel
theorem dX6_plan_159 : decode cX6_plan 159 = .ok (.aload_n 0, 1) := by decide +kernel
theorem dX6_plan_160 : decode cX6_plan 160 = .ok (.dup, 1) := by decide +kernel
theorem dX6_plan_161 : decode cX6_plan 161 = .ok (.getfield 87, 3) := by decide +kernel
theorem dX6_plan_164 : decode cX6_plan 164 = .ok (.iconst 1, 1) := by decide +kernel
theorem dX6_plan_165 : decode cX6_plan 165 = .ok (.iadd, 1) := by decide +kernel
theorem dX6_plan_166 : decode cX6_plan 166 = .ok (.putfield 87, 3) := by decide +kernel
theorem dX6_plan_169 : decode cX6_plan 169 = .ok (.aload_n 0, 1) := by decide +kernel
theorem dX6_plan_170 : decode cX6_plan 170 = .ok (.getfield 87, 3) := by decide +kernel
theorem dX6_plan_173 : decode cX6_plan 173 = .ok (.iconst 1, 1) := by decide +kernel
theorem dX6_plan_174 : decode cX6_plan 174 = .ok (.isub, 1) := by decide +kernel
theorem dX6_plan_175 : decode cX6_plan 175 = .ok (.ireturn, 1) := by decide +kernel
set_option maxRecDepth 20000 in
theorem ggX6_crew_X6_in : GoodIn wsX6_crew wsX6_in := goodIn_r _ [5] (by decide +kernel) (by decide +kernel)
set_option maxRecDepth 20000 in
theorem gX6_crew_X6_in : GoodIn wsX6_crew (va_wsS RX6 90 yX6_in wsX6_in) := goodIn_app (goodIn_of _ (by decide +kernel)) ggX6_crew_X6_in
set_option maxRecDepth 20000 in
theorem ggX6_crew_X6_asked : GoodIn wsX6_crew wsX6_asked := goodIn_r _ [9, 10, 11, 12, 13, 14, 15, 16, 17, 18, 19, 20, 21, 22, 23, 24, 25, 26, 27, 28, 29, 30, 31, 32, 33, 34, 35, 36, 37, 38] (by decide +kernel) (by decide +kernel)
set_option maxRecDepth 20000 in
theorem gX6_crew_X6_asked : GoodIn wsX6_crew (wsV RX6 108 RX6 yX6_asked wsX6_asked) := goodIn_app (goodIn_of _ (by decide +kernel)) ggX6_crew_X6_asked
theorem dX6_crew_0 : decode cX6_crew 0 = .ok (.aload_n 0, 1) := by decide +kernel
theorem dX6_crew_1 : decode cX6_crew 1 = .ok (.iload_n 1, 1) := by decide +kernel
theorem dX6_crew_2 : decode cX6_crew 2 = .ok (.iconst 1, 1) := by decide +kernel
theorem dX6_crew_3 : decode cX6_crew 3 = .ok (.bipush 6, 2) := by decide +kernel
theorem dX6_crew_5 : decode cX6_crew 5 = .ok (.invokestatic 90, 3) := by decide +kernel
theorem dX6_crew_8 : decode cX6_crew 8 = .ok (.invokevirtual 108, 3) := by decide +kernel
theorem dX6_crew_11 : decode cX6_crew 11 = .ok (.ifCond .ne 5, 3) := by decide +kernel
theorem dX6_crew_14 : decode cX6_crew 14 = .ok (.iconst 0, 1) := by decide +kernel
theorem dX6_crew_15 : decode cX6_crew 15 = .ok (.ireturn, 1) := by decide +kernel
theorem dX6_crew_16 : decode cX6_crew 16 = .ok (.aload_n 0, 1) := by decide +kernel
theorem dX6_crew_17 : decode cX6_crew 17 = .ok (.getfield 7, 3) := by decide +kernel
theorem dX6_crew_20 : decode cX6_crew 20 = .ok (.istore_n 2, 1) := by decide +kernel
theorem dX6_crew_21 : decode cX6_crew 21 = .ok (.aload_n 0, 1) := by decide +kernel
theorem dX6_crew_22 : decode cX6_crew 22 = .ok (.iload_n 1, 1) := by decide +kernel
theorem dX6_crew_23 : decode cX6_crew 23 = .ok (.putfield 7, 3) := by decide +kernel
theorem dX6_crew_26 : decode cX6_crew 26 = .ok (.iload_n 2, 1) := by decide +kernel
theorem dX6_crew_27 : decode cX6_crew 27 = .ok (.ireturn, 1) := by decide +kernel
theorem dX6_takesUp_0 : decode cX6_takesUp 0 = .ok (.iconst 0, 1) := by decide +kernel
theorem dX6_takesUp_1 : decode cX6_takesUp 1 = .ok (.istore_n 2, 1) := by decide +kernel
theorem dX6_takesUp_2 : decode cX6_takesUp 2 = .ok (.iload_n 2, 1) := by decide +kernel
theorem dX6_takesUp_3 : decode cX6_takesUp 3 = .ok (.sipush 549, 3) := by decide +kernel
theorem dX6_takesUp_6 : decode cX6_takesUp 6 = .ok (.if_icmp .ge 32, 3) := by decide +kernel
theorem dX6_takesUp_9 : decode cX6_takesUp 9 = .ok (.aload_n 0, 1) := by decide +kernel
theorem dX6_takesUp_10 : decode cX6_takesUp 10 = .ok (.getfield 72, 3) := by decide +kernel
theorem dX6_takesUp_13 : decode cX6_takesUp 13 = .ok (.iload_n 2, 1) := by decide +kernel
theorem dX6_takesUp_14 : decode cX6_takesUp 14 = .ok (.aload_n 0, 1) := by decide +kernel
theorem dX6_takesUp_15 : decode cX6_takesUp 15 = .ok (.getfield 16, 3) := by decide +kernel
theorem dX6_takesUp_18 : decode cX6_takesUp 18 = .ok (.sipush 549, 3) := by decide +kernel
theorem dX6_takesUp_21 : decode cX6_takesUp 21 = .ok (.aload_n 0, 1) := by decide +kernel
theorem dX6_takesUp_22 : decode cX6_takesUp 22 = .ok (.getfield 42, 3) := by decide +kernel
theorem dX6_takesUp_25 : decode cX6_takesUp 25 = .ok (.iload_n 1, 1) := by decide +kernel
theorem dX6_takesUp_26 : decode cX6_takesUp 26 = .ok (.iaload, 1) := by decide +kernel
theorem dX6_takesUp_27 : decode cX6_takesUp 27 = .ok (.imul, 1) := by decide +kernel
theorem dX6_takesUp_28 : decode cX6_takesUp 28 = .ok (.iload_n 2, 1) := by decide +kernel
theorem dX6_takesUp_29 : decode cX6_takesUp 29 = .ok (.iadd, 1) := by decide +kernel
theorem dX6_takesUp_30 : decode cX6_takesUp 30 = .ok (.iaload, 1) := by decide +kernel
theorem dX6_takesUp_31 : decode cX6_takesUp 31 = .ok (.iastore, 1) := by decide +kernel
theorem dX6_takesUp_32 : decode cX6_takesUp 32 = .ok (.iinc 2 1, 3) := by decide +kernel
theorem dX6_takesUp_35 : decode cX6_takesUp 35 = .ok (.goto (-33), 3) := by decide +kernel
theorem dX6_takesUp_38 : decode cX6_takesUp 38 = .ok (.iconst 0, 1) := by decide +kernel
theorem dX6_takesUp_39 : decode cX6_takesUp 39 = .ok (.istore_n 2, 1) := by decide +kernel
theorem dX6_takesUp_40 : decode cX6_takesUp 40 = .ok (.iload_n 2, 1) := by decide +kernel
theorem dX6_takesUp_41 : decode cX6_takesUp 41 = .ok (.bipush 6, 2) := by decide +kernel
theorem dX6_takesUp_43 : decode cX6_takesUp 43 = .ok (.if_icmp .ge 26, 3) := by decide +kernel
theorem dX6_takesUp_46 : decode cX6_takesUp 46 = .ok (.aload_n 0, 1) := by decide +kernel
theorem dX6_takesUp_47 : decode cX6_takesUp 47 = .ok (.getfield 75, 3) := by decide +kernel
theorem dX6_takesUp_50 : decode cX6_takesUp 50 = .ok (.iload_n 2, 1) := by decide +kernel
theorem dX6_takesUp_51 : decode cX6_takesUp 51 = .ok (.aload_n 0, 1) := by decide +kernel
theorem dX6_takesUp_52 : decode cX6_takesUp 52 = .ok (.getfield 60, 3) := by decide +kernel
theorem dX6_takesUp_55 : decode cX6_takesUp 55 = .ok (.bipush 6, 2) := by decide +kernel
theorem dX6_takesUp_57 : decode cX6_takesUp 57 = .ok (.iload_n 1, 1) := by decide +kernel
theorem dX6_takesUp_58 : decode cX6_takesUp 58 = .ok (.imul, 1) := by decide +kernel
theorem dX6_takesUp_59 : decode cX6_takesUp 59 = .ok (.iload_n 2, 1) := by decide +kernel
theorem dX6_takesUp_60 : decode cX6_takesUp 60 = .ok (.iadd, 1) := by decide +kernel
theorem dX6_takesUp_61 : decode cX6_takesUp 61 = .ok (.iaload, 1) := by decide +kernel
theorem dX6_takesUp_62 : decode cX6_takesUp 62 = .ok (.iastore, 1) := by decide +kernel
theorem dX6_takesUp_63 : decode cX6_takesUp 63 = .ok (.iinc 2 1, 3) := by decide +kernel
theorem dX6_takesUp_66 : decode cX6_takesUp 66 = .ok (.goto (-26), 3) := by decide +kernel
theorem dX6_takesUp_69 : decode cX6_takesUp 69 = .ok (.return_, 1) := by decide +kernel
theorem dX6_stoneAt_0 : decode cX6_stoneAt 0 = .ok (.iconst (-1), 1) := by decide +kernel
theorem dX6_stoneAt_1 : decode cX6_stoneAt 1 = .ok (.istore_n 3, 1) := by decide +kernel
theorem dX6_stoneAt_2 : decode cX6_stoneAt 2 = .ok (.iconst 0, 1) := by decide +kernel
theorem dX6_stoneAt_3 : decode cX6_stoneAt 3 = .ok (.istore 4, 2) := by decide +kernel
theorem dX6_stoneAt_5 : decode cX6_stoneAt 5 = .ok (.iload 4, 2) := by decide +kernel
theorem dX6_stoneAt_7 : decode cX6_stoneAt 7 = .ok (.bipush 6, 2) := by decide +kernel
theorem dX6_stoneAt_9 : decode cX6_stoneAt 9 = .ok (.if_icmp .ge 32, 3) := by decide +kernel
theorem dX6_stoneAt_12 : decode cX6_stoneAt 12 = .ok (.aload_n 0, 1) := by decide +kernel
theorem dX6_stoneAt_13 : decode cX6_stoneAt 13 = .ok (.getfield 75, 3) := by decide +kernel
theorem dX6_stoneAt_16 : decode cX6_stoneAt 16 = .ok (.iload 4, 2) := by decide +kernel
theorem dX6_stoneAt_18 : decode cX6_stoneAt 18 = .ok (.iaload, 1) := by decide +kernel
theorem dX6_stoneAt_19 : decode cX6_stoneAt 19 = .ok (.bipush 100, 2) := by decide +kernel
theorem dX6_stoneAt_21 : decode cX6_stoneAt 21 = .ok (.iload_n 1, 1) := by decide +kernel
theorem dX6_stoneAt_22 : decode cX6_stoneAt 22 = .ok (.imul, 1) := by decide +kernel
theorem dX6_stoneAt_23 : decode cX6_stoneAt 23 = .ok (.iload_n 2, 1) := by decide +kernel
theorem dX6_stoneAt_24 : decode cX6_stoneAt 24 = .ok (.iadd, 1) := by decide +kernel
theorem dX6_stoneAt_25 : decode cX6_stoneAt 25 = .ok (.if_icmp .ne 8, 3) := by decide +kernel
theorem dX6_stoneAt_28 : decode cX6_stoneAt 28 = .ok (.iload 4, 2) := by decide +kernel
theorem dX6_stoneAt_30 : decode cX6_stoneAt 30 = .ok (.goto 4, 3) := by decide +kernel
theorem dX6_stoneAt_33 : decode cX6_stoneAt 33 = .ok (.iload_n 3, 1) := by decide +kernel
theorem dX6_stoneAt_34 : decode cX6_stoneAt 34 = .ok (.istore_n 3, 1) := by decide +kernel
theorem dX6_stoneAt_35 : decode cX6_stoneAt 35 = .ok (.iinc 4 1, 3) := by decide +kernel
theorem dX6_stoneAt_38 : decode cX6_stoneAt 38 = .ok (.goto (-33), 3) := by decide +kernel
theorem dX6_stoneAt_41 : decode cX6_stoneAt 41 = .ok (.iload_n 3, 1) := by decide +kernel
theorem dX6_stoneAt_42 : decode cX6_stoneAt 42 = .ok (.ireturn, 1) := by decide +kernel
set_option maxRecDepth 20000 in
theorem ggX6_goes_X6_in : GoodIn wsX6_goes wsX6_in := goodIn_r _ [6] (by decide +kernel) (by decide +kernel)
set_option maxRecDepth 20000 in
theorem gX6_goes_X6_in : GoodIn wsX6_goes (va_wsS RX6 90 yX6_in wsX6_in) := goodIn_app (goodIn_of _ (by decide +kernel)) ggX6_goes_X6_in
set_option maxRecDepth 20000 in
theorem ggX6_goes_X6_stoneAt : GoodIn wsX6_goes wsX6_stoneAt := goodIn_r _ [10, 1, 11, 12, 13, 14, 15, 16, 17, 18, 19, 20, 21, 22, 23, 24, 25, 26, 27, 28, 29, 30, 31, 32, 33, 34, 35, 36, 37, 38] (by decide +kernel) (by decide +kernel)
set_option maxRecDepth 20000 in
theorem gX6_goes_X6_stoneAt : GoodIn wsX6_goes (wsV RX6 111 RX6 yX6_stoneAt wsX6_stoneAt) := goodIn_app (goodIn_of _ (by decide +kernel)) ggX6_goes_X6_stoneAt
theorem dX6_goes_0 : decode cX6_goes 0 = .ok (.iload_n 1, 1) := by decide +kernel
theorem dX6_goes_1 : decode cX6_goes 1 = .ok (.istore 7, 2) := by decide +kernel
theorem dX6_goes_3 : decode cX6_goes 3 = .ok (.iload_n 2, 1) := by decide +kernel
theorem dX6_goes_4 : decode cX6_goes 4 = .ok (.istore 8, 2) := by decide +kernel
theorem dX6_goes_6 : decode cX6_goes 6 = .ok (.iconst 0, 1) := by decide +kernel
theorem dX6_goes_7 : decode cX6_goes 7 = .ok (.istore 9, 2) := by decide +kernel
theorem dX6_goes_9 : decode cX6_goes 9 = .ok (.bipush 10, 2) := by decide +kernel
theorem dX6_goes_11 : decode cX6_goes 11 = .ok (.iload_n 3, 1) := by decide +kernel
theorem dX6_goes_12 : decode cX6_goes 12 = .ok (.imul, 1) := by decide +kernel
theorem dX6_goes_13 : decode cX6_goes 13 = .ok (.istore 10, 2) := by decide +kernel
theorem dX6_goes_15 : decode cX6_goes 15 = .ok (.iload 4, 2) := by decide +kernel
theorem dX6_goes_17 : decode cX6_goes 17 = .ok (.istore 11, 2) := by decide +kernel
theorem dX6_goes_19 : decode cX6_goes 19 = .ok (.iload 5, 2) := by decide +kernel
theorem dX6_goes_21 : decode cX6_goes 21 = .ok (.istore 12, 2) := by decide +kernel
theorem dX6_goes_23 : decode cX6_goes 23 = .ok (.iload 6, 2) := by decide +kernel
theorem dX6_goes_25 : decode cX6_goes 25 = .ok (.istore 13, 2) := by decide +kernel
theorem dX6_goes_27 : decode cX6_goes 27 = .ok (.iload 7, 2) := by decide +kernel
theorem dX6_goes_29 : decode cX6_goes 29 = .ok (.iconst (-1), 1) := by decide +kernel
theorem dX6_goes_30 : decode cX6_goes 30 = .ok (.if_icmp .eq 444, 3) := by decide +kernel
theorem dX6_goes_33 : decode cX6_goes 33 = .ok (.iconst (-1), 1) := by decide +kernel
theorem dX6_goes_34 : decode cX6_goes 34 = .ok (.istore 14, 2) := by decide +kernel
theorem dX6_goes_36 : decode cX6_goes 36 = .ok (.iconst 0, 1) := by decide +kernel
theorem dX6_goes_37 : decode cX6_goes 37 = .ok (.istore 15, 2) := by decide +kernel
theorem dX6_goes_39 : decode cX6_goes 39 = .ok (.iconst 0, 1) := by decide +kernel
theorem dX6_goes_40 : decode cX6_goes 40 = .ok (.istore 16, 2) := by decide +kernel
theorem dX6_goes_42 : decode cX6_goes 42 = .ok (.iconst 0, 1) := by decide +kernel
theorem dX6_goes_43 : decode cX6_goes 43 = .ok (.istore 17, 2) := by decide +kernel
theorem dX6_goes_45 : decode cX6_goes 45 = .ok (.iconst 1, 1) := by decide +kernel
theorem dX6_goes_46 : decode cX6_goes 46 = .ok (.istore 18, 2) := by decide +kernel
theorem dX6_goes_48 : decode cX6_goes 48 = .ok (.aload_n 0, 1) := by decide +kernel
theorem dX6_goes_49 : decode cX6_goes 49 = .ok (.getfield 75, 3) := by decide +kernel
theorem dX6_goes_52 : decode cX6_goes 52 = .ok (.iload 7, 2) := by decide +kernel
theorem dX6_goes_54 : decode cX6_goes 54 = .ok (.iconst (-1), 1) := by decide +kernel
theorem dX6_goes_55 : decode cX6_goes 55 = .ok (.iastore, 1) := by decide +kernel
theorem dX6_goes_56 : decode cX6_goes 56 = .ok (.iload 18, 2) := by decide +kernel
theorem dX6_goes_58 : decode cX6_goes 58 = .ok (.ifCond .eq 335, 3) := by decide +kernel
theorem dX6_goes_61 : decode cX6_goes 61 = .ok (.bipush 61, 2) := by decide +kernel
theorem dX6_goes_63 : decode cX6_goes 63 = .ok (.iload 8, 2) := by decide +kernel
theorem dX6_goes_65 : decode cX6_goes 65 = .ok (.imul, 1) := by decide +kernel
theorem dX6_goes_66 : decode cX6_goes 66 = .ok (.iload 9, 2) := by decide +kernel
theorem dX6_goes_68 : decode cX6_goes 68 = .ok (.iadd, 1) := by decide +kernel
theorem dX6_goes_69 : decode cX6_goes 69 = .ok (.iconst 1, 1) := by decide +kernel
theorem dX6_goes_70 : decode cX6_goes 70 = .ok (.iadd, 1) := by decide +kernel
theorem dX6_goes_71 : decode cX6_goes 71 = .ok (.istore 19, 2) := by decide +kernel
theorem dX6_goes_73 : decode cX6_goes 73 = .ok (.bipush 10, 2) := by decide +kernel
theorem dX6_goes_75 : decode cX6_goes 75 = .ok (.aload_n 0, 1) := by decide +kernel
theorem dX6_goes_76 : decode cX6_goes 76 = .ok (.getfield 72, 3) := by decide +kernel
theorem dX6_goes_79 : decode cX6_goes 79 = .ok (.iload 19, 2) := by decide +kernel
theorem dX6_goes_81 : decode cX6_goes 81 = .ok (.iaload, 1) := by decide +kernel
theorem dX6_goes_82 : decode cX6_goes 82 = .ok (.iadd, 1) := by decide +kernel
theorem dX6_goes_83 : decode cX6_goes 83 = .ok (.iload 9, 2) := by decide +kernel
theorem dX6_goes_85 : decode cX6_goes 85 = .ok (.iconst 1, 1) := by decide +kernel
theorem dX6_goes_86 : decode cX6_goes 86 = .ok (.iadd, 1) := by decide +kernel
theorem dX6_goes_87 : decode cX6_goes 87 = .ok (.iload 12, 2) := by decide +kernel
theorem dX6_goes_89 : decode cX6_goes 89 = .ok (.iload 13, 2) := by decide +kernel
theorem dX6_goes_91 : decode cX6_goes 91 = .ok (.invokestatic 90, 3) := by decide +kernel
theorem dX6_goes_94 : decode cX6_goes 94 = .ok (.ifCond .eq 7, 3) := by decide +kernel
theorem dX6_goes_97 : decode cX6_goes 97 = .ok (.iconst 3, 1) := by decide +kernel
theorem dX6_goes_98 : decode cX6_goes 98 = .ok (.goto 4, 3) := by decide +kernel
theorem dX6_goes_101 : decode cX6_goes 101 = .ok (.iconst 0, 1) := by decide +kernel
theorem dX6_goes_102 : decode cX6_goes 102 = .ok (.isub, 1) := by decide +kernel
theorem dX6_goes_103 : decode cX6_goes 103 = .ok (.istore 20, 2) := by decide +kernel
theorem dX6_goes_105 : decode cX6_goes 105 = .ok (.aload_n 0, 1) := by decide +kernel
theorem dX6_goes_106 : decode cX6_goes 106 = .ok (.iload 8, 2) := by decide +kernel
theorem dX6_goes_108 : decode cX6_goes 108 = .ok (.iload 9, 2) := by decide +kernel
theorem dX6_goes_110 : decode cX6_goes 110 = .ok (.iconst 1, 1) := by decide +kernel
theorem dX6_goes_111 : decode cX6_goes 111 = .ok (.iadd, 1) := by decide +kernel
theorem dX6_goes_112 : decode cX6_goes 112 = .ok (.invokevirtual 111, 3) := by decide +kernel
theorem dX6_goes_115 : decode cX6_goes 115 = .ok (.istore 21, 2) := by decide +kernel
theorem dX6_goes_117 : decode cX6_goes 117 = .ok (.iload 10, 2) := by decide +kernel
theorem dX6_goes_119 : decode cX6_goes 119 = .ok (.iload 20, 2) := by decide +kernel
theorem dX6_goes_121 : decode cX6_goes 121 = .ok (.if_icmp .ge 9, 3) := by decide +kernel
theorem dX6_goes_124 : decode cX6_goes 124 = .ok (.iconst 0, 1) := by decide +kernel
theorem dX6_goes_125 : decode cX6_goes 125 = .ok (.istore 18, 2) := by decide +kernel
theorem dX6_goes_127 : decode cX6_goes 127 = .ok (.goto 263, 3) := by decide +kernel
theorem dX6_goes_130 : decode cX6_goes 130 = .ok (.iload 21, 2) := by decide +kernel
theorem dX6_goes_132 : decode cX6_goes 132 = .ok (.iconst (-1), 1) := by decide +kernel
theorem dX6_goes_133 : decode cX6_goes 133 = .ok (.if_icmp .eq 21, 3) := by decide +kernel
theorem dX6_goes_136 : decode cX6_goes 136 = .ok (.iload 21, 2) := by decide +kernel
theorem dX6_goes_138 : decode cX6_goes 138 = .ok (.istore 14, 2) := by decide +kernel
theorem dX6_goes_140 : decode cX6_goes 140 = .ok (.iload 10, 2) := by decide +kernel
theorem dX6_goes_142 : decode cX6_goes 142 = .ok (.iconst 3, 1) := by decide +kernel
theorem dX6_goes_143 : decode cX6_goes 143 = .ok (.imul, 1) := by decide +kernel
theorem dX6_goes_144 : decode cX6_goes 144 = .ok (.iconst 4, 1) := by decide +kernel
theorem dX6_goes_145 : decode cX6_goes 145 = .ok (.idiv, 1) := by decide +kernel
theorem dX6_goes_146 : decode cX6_goes 146 = .ok (.istore 15, 2) := by decide +kernel
theorem dX6_goes_148 : decode cX6_goes 148 = .ok (.iconst 0, 1) := by decide +kernel
theorem dX6_goes_149 : decode cX6_goes 149 = .ok (.istore 18, 2) := by decide +kernel
theorem dX6_goes_151 : decode cX6_goes 151 = .ok (.goto 239, 3) := by decide +kernel
theorem dX6_goes_154 : decode cX6_goes 154 = .ok (.iinc 9 1, 3) := by decide +kernel
theorem dX6_goes_157 : decode cX6_goes 157 = .ok (.iload 10, 2) := by decide +kernel
theorem dX6_goes_159 : decode cX6_goes 159 = .ok (.iload 20, 2) := by decide +kernel
theorem dX6_goes_161 : decode cX6_goes 161 = .ok (.isub, 1) := by decide +kernel
theorem dX6_goes_162 : decode cX6_goes 162 = .ok (.istore 10, 2) := by decide +kernel
theorem dX6_goes_164 : decode cX6_goes 164 = .ok (.aload_n 0, 1) := by decide +kernel
theorem dX6_goes_165 : decode cX6_goes 165 = .ok (.getfield 72, 3) := by decide +kernel
theorem dX6_goes_168 : decode cX6_goes 168 = .ok (.iload 19, 2) := by decide +kernel
theorem dX6_goes_170 : decode cX6_goes 170 = .ok (.dup2, 1) := by decide +kernel
theorem dX6_goes_171 : decode cX6_goes 171 = .ok (.iaload, 1) := by decide +kernel
theorem dX6_goes_172 : decode cX6_goes 172 = .ok (.aload_n 0, 1) := by decide +kernel
theorem dX6_goes_173 : decode cX6_goes 173 = .ok (.getfield 72, 3) := by decide +kernel
theorem dX6_goes_176 : decode cX6_goes 176 = .ok (.iload 19, 2) := by decide +kernel
theorem dX6_goes_178 : decode cX6_goes 178 = .ok (.iaload, 1) := by decide +kernel
theorem dX6_goes_179 : decode cX6_goes 179 = .ok (.bipush 9, 2) := by decide +kernel
theorem dX6_goes_181 : decode cX6_goes 181 = .ok (.if_icmp .ge 7, 3) := by decide +kernel
theorem dX6_goes_184 : decode cX6_goes 184 = .ok (.iconst 1, 1) := by decide +kernel
theorem dX6_goes_185 : decode cX6_goes 185 = .ok (.goto 4, 3) := by decide +kernel
theorem dX6_goes_188 : decode cX6_goes 188 = .ok (.iconst 0, 1) := by decide +kernel
theorem dX6_goes_189 : decode cX6_goes 189 = .ok (.iadd, 1) := by decide +kernel
theorem dX6_goes_190 : decode cX6_goes 190 = .ok (.iastore, 1) := by decide +kernel
theorem dX6_goes_191 : decode cX6_goes 191 = .ok (.iload 9, 2) := by decide +kernel
theorem dX6_goes_193 : decode cX6_goes 193 = .ok (.iload 12, 2) := by decide +kernel
theorem dX6_goes_195 : decode cX6_goes 195 = .ok (.iload 13, 2) := by decide +kernel
theorem dX6_goes_197 : decode cX6_goes 197 = .ok (.invokestatic 90, 3) := by decide +kernel
theorem dX6_goes_200 : decode cX6_goes 200 = .ok (.istore 22, 2) := by decide +kernel
theorem dX6_goes_202 : decode cX6_goes 202 = .ok (.iload 16, 2) := by decide +kernel
theorem dX6_goes_204 : decode cX6_goes 204 = .ok (.iload 22, 2) := by decide +kernel
theorem dX6_goes_206 : decode cX6_goes 206 = .ok (.ifCond .eq 7, 3) := by decide +kernel
theorem dX6_goes_209 : decode cX6_goes 209 = .ok (.iconst 0, 1) := by decide +kernel
theorem dX6_goes_210 : decode cX6_goes 210 = .ok (.goto 4, 3) := by decide +kernel
theorem dX6_goes_213 : decode cX6_goes 213 = .ok (.iconst 1, 1) := by decide +kernel
theorem dX6_goes_214 : decode cX6_goes 214 = .ok (.iadd, 1) := by decide +kernel
theorem dX6_goes_215 : decode cX6_goes 215 = .ok (.istore 16, 2) := by decide +kernel
theorem dX6_goes_217 : decode cX6_goes 217 = .ok (.iload 9, 2) := by decide +kernel
theorem dX6_goes_219 : decode cX6_goes 219 = .ok (.bipush 60, 2) := by decide +kernel
theorem dX6_goes_221 : decode cX6_goes 221 = .ok (.if_icmp .ne 7, 3) := by decide +kernel
theorem dX6_goes_224 : decode cX6_goes 224 = .ok (.iconst 1, 1) := by decide +kernel
theorem dX6_goes_225 : decode cX6_goes 225 = .ok (.goto 4, 3) := by decide +kernel
theorem dX6_goes_228 : decode cX6_goes 228 = .ok (.iconst 0, 1) := by decide +kernel
theorem dX6_goes_229 : decode cX6_goes 229 = .ok (.istore 17, 2) := by decide +kernel
theorem dX6_goes_231 : decode cX6_goes 231 = .ok (.iload 17, 2) := by decide +kernel
theorem dX6_goes_233 : decode cX6_goes 233 = .ok (.ifCond .ne 7, 3) := by decide +kernel
theorem dX6_goes_236 : decode cX6_goes 236 = .ok (.iconst 1, 1) := by decide +kernel
theorem dX6_goes_237 : decode cX6_goes 237 = .ok (.goto 4, 3) := by decide +kernel
theorem dX6_goes_240 : decode cX6_goes 240 = .ok (.iconst 0, 1) := by decide +kernel
theorem dX6_goes_241 : decode cX6_goes 241 = .ok (.istore 18, 2) := by decide +kernel
theorem dX6_goes_243 : decode cX6_goes 243 = .ok (.iload 18, 2) := by decide +kernel
theorem dX6_goes_245 : decode cX6_goes 245 = .ok (.ifCond .eq 145, 3) := by decide +kernel
theorem dX6_goes_248 : decode cX6_goes 248 = .ok (.iload 11, 2) := by decide +kernel
theorem dX6_goes_250 : decode cX6_goes 250 = .ok (.ifCond .eq 140, 3) := by decide +kernel
theorem dX6_goes_253 : decode cX6_goes 253 = .ok (.iload 22, 2) := by decide +kernel
theorem dX6_goes_255 : decode cX6_goes 255 = .ok (.ifCond .ne 135, 3) := by decide +kernel
theorem dX6_goes_258 : decode cX6_goes 258 = .ok (.iload 16, 2) := by decide +kernel
theorem dX6_goes_260 : decode cX6_goes 260 = .ok (.bipush 12, 2) := by decide +kernel
theorem dX6_goes_262 : decode cX6_goes 262 = .ok (.if_icmp .ge 18, 3) := by decide +kernel
theorem dX6_goes_265 : decode cX6_goes 265 = .ok (.iload 10, 2) := by decide +kernel
theorem dX6_goes_267 : decode cX6_goes 267 = .ok (.sipush 300, 3) := by decide +kernel
theorem dX6_goes_270 : decode cX6_goes 270 = .ok (.if_icmp .ge 120, 3) := by decide +kernel
theorem dX6_goes_273 : decode cX6_goes 273 = .ok (.iload 16, 2) := by decide +kernel
theorem dX6_goes_275 : decode cX6_goes 275 = .ok (.bipush 6, 2) := by decide +kernel
theorem dX6_goes_277 : decode cX6_goes 277 = .ok (.if_icmp .lt 113, 3) := by decide +kernel
theorem dX6_goes_280 : decode cX6_goes 280 = .ok (.iload 8, 2) := by decide +kernel
theorem dX6_goes_282 : decode cX6_goes 282 = .ok (.iload 11, 2) := by decide +kernel
theorem dX6_goes_284 : decode cX6_goes 284 = .ok (.iadd, 1) := by decide +kernel
theorem dX6_goes_285 : decode cX6_goes 285 = .ok (.iconst 0, 1) := by decide +kernel
theorem dX6_goes_286 : decode cX6_goes 286 = .ok (.bipush 8, 2) := by decide +kernel
theorem dX6_goes_288 : decode cX6_goes 288 = .ok (.invokestatic 90, 3) := by decide +kernel
theorem dX6_goes_291 : decode cX6_goes 291 = .ok (.ifCond .eq 17, 3) := by decide +kernel
theorem dX6_goes_294 : decode cX6_goes 294 = .ok (.aload_n 0, 1) := by decide +kernel
theorem dX6_goes_295 : decode cX6_goes 295 = .ok (.iload 8, 2) := by decide +kernel
theorem dX6_goes_297 : decode cX6_goes 297 = .ok (.iload 11, 2) := by decide +kernel
theorem dX6_goes_299 : decode cX6_goes 299 = .ok (.iadd, 1) := by decide +kernel
theorem dX6_goes_300 : decode cX6_goes 300 = .ok (.iload 9, 2) := by decide +kernel
theorem dX6_goes_302 : decode cX6_goes 302 = .ok (.invokevirtual 111, 3) := by decide +kernel
theorem dX6_goes_305 : decode cX6_goes 305 = .ok (.goto 4, 3) := by decide +kernel
theorem dX6_goes_308 : decode cX6_goes 308 = .ok (.iconst (-1), 1) := by decide +kernel
theorem dX6_goes_309 : decode cX6_goes 309 = .ok (.istore 23, 2) := by decide +kernel
theorem dX6_goes_311 : decode cX6_goes 311 = .ok (.iload 8, 2) := by decide +kernel
theorem dX6_goes_313 : decode cX6_goes 313 = .ok (.iload 11, 2) := by decide +kernel
theorem dX6_goes_315 : decode cX6_goes 315 = .ok (.iadd, 1) := by decide +kernel
theorem dX6_goes_316 : decode cX6_goes 316 = .ok (.iconst 0, 1) := by decide +kernel
theorem dX6_goes_317 : decode cX6_goes 317 = .ok (.bipush 8, 2) := by decide +kernel
theorem dX6_goes_319 : decode cX6_goes 319 = .ok (.invokestatic 90, 3) := by decide +kernel
theorem dX6_goes_322 : decode cX6_goes 322 = .ok (.ifCond .ne 7, 3) := by decide +kernel
theorem dX6_goes_325 : decode cX6_goes 325 = .ok (.iconst 1, 1) := by decide +kernel
theorem dX6_goes_326 : decode cX6_goes 326 = .ok (.goto 4, 3) := by decide +kernel
theorem dX6_goes_329 : decode cX6_goes 329 = .ok (.iconst 0, 1) := by decide +kernel
theorem dX6_goes_330 : decode cX6_goes 330 = .ok (.istore 17, 2) := by decide +kernel
theorem dX6_goes_332 : decode cX6_goes 332 = .ok (.iload 17, 2) := by decide +kernel
theorem dX6_goes_334 : decode cX6_goes 334 = .ok (.ifCond .ne 13, 3) := by decide +kernel
theorem dX6_goes_337 : decode cX6_goes 337 = .ok (.iload 23, 2) := by decide +kernel
theorem dX6_goes_339 : decode cX6_goes 339 = .ok (.iconst (-1), 1) := by decide +kernel
theorem dX6_goes_340 : decode cX6_goes 340 = .ok (.if_icmp .ne 7, 3) := by decide +kernel
theorem dX6_goes_343 : decode cX6_goes 343 = .ok (.iconst 1, 1) := by decide +kernel
theorem dX6_goes_344 : decode cX6_goes 344 = .ok (.goto 4, 3) := by decide +kernel
theorem dX6_goes_347 : decode cX6_goes 347 = .ok (.iconst 0, 1) := by decide +kernel
theorem dX6_goes_348 : decode cX6_goes 348 = .ok (.istore 18, 2) := by decide +kernel
theorem dX6_goes_350 : decode cX6_goes 350 = .ok (.iload 23, 2) := by decide +kernel
theorem dX6_goes_352 : decode cX6_goes 352 = .ok (.istore 14, 2) := by decide +kernel
theorem dX6_goes_354 : decode cX6_goes 354 = .ok (.iload 23, 2) := by decide +kernel
theorem dX6_goes_356 : decode cX6_goes 356 = .ok (.iconst (-1), 1) := by decide +kernel
theorem dX6_goes_357 : decode cX6_goes 357 = .ok (.if_icmp .ne 8, 3) := by decide +kernel
theorem dX6_goes_360 : decode cX6_goes 360 = .ok (.iload 15, 2) := by decide +kernel
theorem dX6_goes_362 : decode cX6_goes 362 = .ok (.goto 7, 3) := by decide +kernel
theorem dX6_goes_365 : decode cX6_goes 365 = .ok (.iload 10, 2) := by decide +kernel
theorem dX6_goes_367 : decode cX6_goes 367 = .ok (.iconst 2, 1) := by decide +kernel
theorem dX6_goes_368 : decode cX6_goes 368 = .ok (.idiv, 1) := by decide +kernel
theorem dX6_goes_369 : decode cX6_goes 369 = .ok (.istore 15, 2) := by decide +kernel
theorem dX6_goes_371 : decode cX6_goes 371 = .ok (.iload 8, 2) := by decide +kernel
