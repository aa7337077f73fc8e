theorem dX6_scoreOf_28 : decode cX6_scoreOf 28 = .ok (.goto (-26), 3) := by decide +kernel
theorem dX6_scoreOf_31 : decode cX6_scoreOf 31 = .ok (.aload_n 0, 1) := by decide +kernel
theorem dX6_scoreOf_32 : decode cX6_scoreOf 32 = .ok (.getfield 27, 3) := by decide +kernel
theorem dX6_scoreOf_35 : decode cX6_scoreOf 35 = .ok (.iload_n 1, 1) := by decide +kernel
theorem dX6_scoreOf_36 : decode cX6_scoreOf 36 = .ok (.iaload, 1) := by decide +kernel
theorem dX6_scoreOf_37 : decode cX6_scoreOf 37 = .ok (.iconst 2, 1) := by decide +kernel
theorem dX6_scoreOf_38 : decode cX6_scoreOf 38 = .ok (.if_icmp .ne 10, 3) := by decide +kernel
theorem dX6_scoreOf_41 : decode cX6_scoreOf 41 = .ok (.aload_n 0, 1) := by decide +kernel
theorem dX6_scoreOf_42 : decode cX6_scoreOf 42 = .ok (.invokevirtual 122, 3) := by decide +kernel
theorem dX6_scoreOf_45 : decode cX6_scoreOf 45 = .ok (.goto 4, 3) := by decide +kernel
theorem dX6_scoreOf_48 : decode cX6_scoreOf 48 = .ok (.iconst 0, 1) := by decide +kernel
theorem dX6_scoreOf_49 : decode cX6_scoreOf 49 = .ok (.ireturn, 1) := by decide +kernel
set_option maxRecDepth 20000 in
theorem ggX6_wouldScore_X6_isGame : GoodIn wsX6_wouldScore wsX6_isGame := goodIn_r _ [5, 6, 7, 8, 4, 9, 29, 30, 31, 32, 33, 34, 35, 36, 37, 38, 39, 40, 41, 42, 43, 44, 45, 46, 47, 48, 49, 50, 51, 52, 53, 54, 55, 56] (by decide +kernel) (by decide +kernel)
set_option maxRecDepth 20000 in
theorem gX6_wouldScore_X6_isGame : GoodIn wsX6_wouldScore (wsV RX6 126 RX6 yX6_isGame wsX6_isGame) := goodIn_app (goodIn_of _ (by decide +kernel)) ggX6_wouldScore_X6_isGame
set_option maxRecDepth 20000 in
theorem ggX6_wouldScore_X6_asked : GoodIn wsX6_wouldScore wsX6_asked := goodIn_r _ [13, 14, 29, 30, 31, 32, 33, 34, 35, 36, 37, 38, 39, 40, 41, 42, 43, 44, 45, 46, 47, 48, 49, 50, 51, 52, 53, 54, 55, 56] (by decide +kernel) (by decide +kernel)
set_option maxRecDepth 20000 in
theorem gX6_wouldScore_X6_asked : GoodIn wsX6_wouldScore (wsV RX6 108 RX6 yX6_asked wsX6_asked) := goodIn_app (goodIn_of _ (by decide +kernel)) ggX6_wouldScore_X6_asked
set_option maxRecDepth 20000 in
theorem ggX6_wouldScore_X6_scoreOf : GoodIn wsX6_wouldScore wsX6_scoreOf := goodIn_r _ [18, 19, 20, 21, 22, 23, 24, 4, 25, 26, 27, 28, 29, 30, 31, 32, 33, 34, 35, 36, 37, 38, 39, 40, 41, 42, 43, 44, 45, 46, 47, 48, 49, 50, 51, 52, 53, 54, 55, 56] (by decide +kernel) (by decide +kernel)
set_option maxRecDepth 20000 in
theorem gX6_wouldScore_X6_scoreOf : GoodIn wsX6_wouldScore (wsV RX6 167 RX6 yX6_scoreOf wsX6_scoreOf) := goodIn_app (goodIn_of _ (by decide +kernel)) ggX6_wouldScore_X6_scoreOf
theorem dX6_wouldScore_0 : decode cX6_wouldScore 0 = .ok (.aload_n 0, 1) := by decide +kernel
theorem dX6_wouldScore_1 : decode cX6_wouldScore 1 = .ok (.aload_n 0, 1) := by decide +kernel
theorem dX6_wouldScore_2 : decode cX6_wouldScore 2 = .ok (.iload_n 1, 1) := by decide +kernel
theorem dX6_wouldScore_3 : decode cX6_wouldScore 3 = .ok (.invokevirtual 126, 3) := by decide +kernel
theorem dX6_wouldScore_6 : decode cX6_wouldScore 6 = .ok (.invokevirtual 108, 3) := by decide +kernel
theorem dX6_wouldScore_9 : decode cX6_wouldScore 9 = .ok (.ifCond .eq 11, 3) := by decide +kernel
theorem dX6_wouldScore_12 : decode cX6_wouldScore 12 = .ok (.aload_n 0, 1) := by decide +kernel
theorem dX6_wouldScore_13 : decode cX6_wouldScore 13 = .ok (.iload_n 1, 1) := by decide +kernel
theorem dX6_wouldScore_14 : decode cX6_wouldScore 14 = .ok (.invokevirtual 167, 3) := by decide +kernel
theorem dX6_wouldScore_17 : decode cX6_wouldScore 17 = .ok (.goto 4, 3) := by decide +kernel
theorem dX6_wouldScore_20 : decode cX6_wouldScore 20 = .ok (.iconst 0, 1) := by decide +kernel
theorem dX6_wouldScore_21 : decode cX6_wouldScore 21 = .ok (.ireturn, 1) := by decide +kernel
set_option maxRecDepth 20000 in
theorem ggX6_wouldScoreAnew_X6_isGame : GoodIn wsX6_wouldScoreAnew wsX6_isGame := goodIn_r _ [5, 6, 7, 8, 4, 9, 29, 30, 31, 32, 33, 34, 35, 36, 37, 38, 39, 40, 41, 42, 43, 44, 45, 46, 47, 48, 49, 50, 51, 52, 53, 54, 55, 56] (by decide +kernel) (by decide +kernel)
set_option maxRecDepth 20000 in
theorem gX6_wouldScoreAnew_X6_isGame : GoodIn wsX6_wouldScoreAnew (wsV RX6 126 RX6 yX6_isGame wsX6_isGame) := goodIn_app (goodIn_of _ (by decide +kernel)) ggX6_wouldScoreAnew_X6_isGame
set_option maxRecDepth 20000 in
theorem ggX6_wouldScoreAnew_X6_asked : GoodIn wsX6_wouldScoreAnew wsX6_asked := goodIn_r _ [13, 14, 29, 30, 31, 32, 33, 34, 35, 36, 37, 38, 39, 40, 41, 42, 43, 44, 45, 46, 47, 48, 49, 50, 51, 52, 53, 54, 55, 56] (by decide +kernel) (by decide +kernel)
set_option maxRecDepth 20000 in
theorem gX6_wouldScoreAnew_X6_asked : GoodIn wsX6_wouldScoreAnew (wsV RX6 108 RX6 yX6_asked wsX6_asked) := goodIn_app (goodIn_of _ (by decide +kernel)) ggX6_wouldScoreAnew_X6_asked
set_option maxRecDepth 20000 in
theorem ggX6_wouldScoreAnew_X6_scoreOf : GoodIn wsX6_wouldScoreAnew wsX6_scoreOf := goodIn_r _ [18, 19, 20, 21, 22, 23, 24, 4, 25, 26, 27, 28, 29, 30, 31, 32, 33, 34, 35, 36, 37, 38, 39, 40, 41, 42, 43, 44, 45, 46, 47, 48, 49, 50, 51, 52, 53, 54, 55, 56] (by decide +kernel) (by decide +kernel)
set_option maxRecDepth 20000 in
theorem gX6_wouldScoreAnew_X6_scoreOf : GoodIn wsX6_wouldScoreAnew (wsV RX6 167 RX6 yX6_scoreOf wsX6_scoreOf) := goodIn_app (goodIn_of _ (by decide +kernel)) ggX6_wouldScoreAnew_X6_scoreOf
theorem dX6_wouldScoreAnew_0 : decode cX6_wouldScoreAnew 0 = .ok (.aload_n 0, 1) := by decide +kernel
theorem dX6_wouldScoreAnew_1 : decode cX6_wouldScoreAnew 1 = .ok (.aload_n 0, 1) := by decide +kernel
theorem dX6_wouldScoreAnew_2 : decode cX6_wouldScoreAnew 2 = .ok (.iload_n 1, 1) := by decide +kernel
theorem dX6_wouldScoreAnew_3 : decode cX6_wouldScoreAnew 3 = .ok (.invokevirtual 126, 3) := by decide +kernel
theorem dX6_wouldScoreAnew_6 : decode cX6_wouldScoreAnew 6 = .ok (.invokevirtual 108, 3) := by decide +kernel
theorem dX6_wouldScoreAnew_9 : decode cX6_wouldScoreAnew 9 = .ok (.ifCond .eq 11, 3) := by decide +kernel
theorem dX6_wouldScoreAnew_12 : decode cX6_wouldScoreAnew 12 = .ok (.aload_n 0, 1) := by decide +kernel
theorem dX6_wouldScoreAnew_13 : decode cX6_wouldScoreAnew 13 = .ok (.iload_n 1, 1) := by decide +kernel
theorem dX6_wouldScoreAnew_14 : decode cX6_wouldScoreAnew 14 = .ok (.invokevirtual 167, 3) := by decide +kernel
theorem dX6_wouldScoreAnew_17 : decode cX6_wouldScoreAnew 17 = .ok (.goto 4, 3) := by decide +kernel
theorem dX6_wouldScoreAnew_20 : decode cX6_wouldScoreAnew 20 = .ok (.iconst 0, 1) := by decide +kernel
theorem dX6_wouldScoreAnew_21 : decode cX6_wouldScoreAnew 21 = .ok (.ireturn, 1) := by decide +kernel
set_option maxRecDepth 20000 in
theorem ggX6_worth_X6_takesUp : GoodIn wsX6_worth wsX6_takesUp := goodIn_r _ [5, 6, 7, 8, 9, 10, 40, 41, 42, 43, 44, 45, 46, 47, 48, 49, 50, 51, 52, 53, 54, 55, 56, 57, 58, 59, 60, 61, 62, 63, 64, 65, 66, 67] (by decide +kernel) (by decide +kernel)
set_option maxRecDepth 20000 in
theorem gX6_worth_X6_takesUp : GoodIn wsX6_worth (wsV RX6 136 RX6 yX6_takesUp wsX6_takesUp) := goodIn_app (goodIn_of _ (by decide +kernel)) ggX6_worth_X6_takesUp
set_option maxRecDepth 20000 in
theorem ggX6_worth_X6_slotOf : GoodIn wsX6_worth wsX6_slotOf := goodIn_r _ [14, 15, 16, 17, 18, 19, 4, 20, 21, 40, 41, 42, 43, 44, 45, 46, 47, 48, 49, 50, 51, 52, 53, 54, 55, 56, 57, 58, 59, 60, 61, 62, 63, 64, 65, 66, 67] (by decide +kernel) (by decide +kernel)
set_option maxRecDepth 20000 in
theorem gX6_worth_X6_slotOf : GoodIn wsX6_worth (wsV RX6 140 RX6 yX6_slotOf wsX6_slotOf) := goodIn_app (goodIn_of _ (by decide +kernel)) ggX6_worth_X6_slotOf
set_option maxRecDepth 20000 in
theorem ggX6_worth_X6_goes : GoodIn wsX6_worth wsX6_goes := goodIn_r _ [25, 9, 6, 26, 27, 4, 28, 29, 30, 31, 32, 40, 41, 42, 43, 44, 45, 46, 47, 48, 49, 50, 51, 52, 53, 54, 55, 56, 57, 58, 59, 60, 61, 62, 63, 64, 65, 66, 67] (by decide +kernel) (by decide +kernel)
set_option maxRecDepth 20000 in
theorem gX6_worth_X6_goes : GoodIn wsX6_worth (wsV RX6 143 RX6 yX6_goes wsX6_goes) := goodIn_app (goodIn_of _ (by decide +kernel)) ggX6_worth_X6_goes
set_option maxRecDepth 20000 in
theorem ggX6_worth_X6_turnOf : GoodIn wsX6_worth wsX6_turnOf := goodIn_r _ [20, 16, 15, 21, 40, 41, 42, 43, 44, 45, 46, 47, 48, 49, 50, 51, 52, 53, 54, 55, 56, 57, 58, 59, 60, 61, 62, 63, 64, 65, 66, 67] (by decide +kernel) (by decide +kernel)
set_option maxRecDepth 20000 in
theorem gX6_worth_X6_turnOf : GoodIn wsX6_worth (wsV RX6 119 RX6 yX6_turnOf wsX6_turnOf) := goodIn_app (goodIn_of _ (by decide +kernel)) ggX6_worth_X6_turnOf
set_option maxRecDepth 20000 in
theorem ggX6_worth_X6_scored : GoodIn wsX6_worth wsX6_scored := goodIn_r _ [36, 9, 37, 38, 4, 39, 40, 41, 42, 43, 44, 45, 46, 47, 48, 49, 50, 51, 52, 53, 54, 55, 56, 57, 58, 59, 60, 61, 62, 63, 64, 65, 66, 67] (by decide +kernel) (by decide +kernel)
set_option maxRecDepth 20000 in
theorem gX6_worth_X6_scored : GoodIn wsX6_worth (wsV RX6 122 RX6 yX6_scored wsX6_scored) := goodIn_app (goodIn_of _ (by decide +kernel)) ggX6_worth_X6_scored
theorem dX6_worth_0 : decode cX6_worth 0 = .ok (.aload_n 0, 1) := by decide +kernel
theorem dX6_worth_1 : decode cX6_worth 1 = .ok (.iload_n 1, 1) := by decide +kernel
theorem dX6_worth_2 : decode cX6_worth 2 = .ok (.invokevirtual 136, 3) := by decide +kernel
theorem dX6_worth_5 : decode cX6_worth 5 = .ok (.aload_n 0, 1) := by decide +kernel
theorem dX6_worth_6 : decode cX6_worth 6 = .ok (.aload_n 0, 1) := by decide +kernel
theorem dX6_worth_7 : decode cX6_worth 7 = .ok (.iload_n 1, 1) := by decide +kernel
theorem dX6_worth_8 : decode cX6_worth 8 = .ok (.invokevirtual 140, 3) := by decide +kernel
theorem dX6_worth_11 : decode cX6_worth 11 = .ok (.iload_n 2, 1) := by decide +kernel
theorem dX6_worth_12 : decode cX6_worth 12 = .ok (.iload_n 3, 1) := by decide +kernel
theorem dX6_worth_13 : decode cX6_worth 13 = .ok (.iload 4, 2) := by decide +kernel
theorem dX6_worth_15 : decode cX6_worth 15 = .ok (.iconst 1, 1) := by decide +kernel
theorem dX6_worth_16 : decode cX6_worth 16 = .ok (.iconst 0, 1) := by decide +kernel
theorem dX6_worth_17 : decode cX6_worth 17 = .ok (.invokevirtual 143, 3) := by decide +kernel
theorem dX6_worth_20 : decode cX6_worth 20 = .ok (.aload_n 0, 1) := by decide +kernel
theorem dX6_worth_21 : decode cX6_worth 21 = .ok (.iload_n 1, 1) := by decide +kernel
theorem dX6_worth_22 : decode cX6_worth 22 = .ok (.invokevirtual 119, 3) := by decide +kernel
theorem dX6_worth_25 : decode cX6_worth 25 = .ok (.ifCond .ne 10, 3) := by decide +kernel
theorem dX6_worth_28 : decode cX6_worth 28 = .ok (.aload_n 0, 1) := by decide +kernel
theorem dX6_worth_29 : decode cX6_worth 29 = .ok (.invokevirtual 122, 3) := by decide +kernel
theorem dX6_worth_32 : decode cX6_worth 32 = .ok (.goto 8, 3) := by decide +kernel
theorem dX6_worth_35 : decode cX6_worth 35 = .ok (.aload_n 0, 1) := by decide +kernel
theorem dX6_worth_36 : decode cX6_worth 36 = .ok (.invokevirtual 122, 3) := by decide +kernel
theorem dX6_worth_39 : decode cX6_worth 39 = .ok (.ineg, 1) := by decide +kernel
theorem dX6_worth_40 : decode cX6_worth 40 = .ok (.ireturn, 1) := by decide +kernel
set_option maxRecDepth 20000 in
theorem ggX6_advice_X6_isGame : GoodIn wsX6_advice wsX6_isGame := goodIn_r _ [6, 7, 8, 9, 5, 10, 54, 55, 56, 57, 58, 59, 60, 61, 62, 63, 64, 65, 66, 67, 68, 69, 70, 71, 72, 73, 74, 75, 76, 77, 78, 79, 80, 81] (by decide +kernel) (by decide +kernel)
set_option maxRecDepth 20000 in
theorem gX6_advice_X6_isGame : GoodIn wsX6_advice (wsV RX6 126 RX6 yX6_isGame wsX6_isGame) := goodIn_app (goodIn_of _ (by decide +kernel)) ggX6_advice_X6_isGame
set_option maxRecDepth 20000 in
theorem ggX6_advice_X6_asked_ : GoodIn wsX6_advice wsX6_asked_ := goodIn_r _ [14, 15, 54, 55, 56, 57, 58, 59, 60, 61, 62, 63, 64, 65, 66, 67, 68, 69, 70, 71, 72, 73, 74, 75, 76, 77, 78, 79, 80, 81] (by decide +kernel) (by decide +kernel)
set_option maxRecDepth 20000 in
theorem gX6_advice_X6_asked_ : GoodIn wsX6_advice (wsV RX6 161 RX6 yX6_asked_ wsX6_asked_) := goodIn_app (goodIn_of _ (by decide +kernel)) ggX6_advice_X6_asked_
set_option maxRecDepth 20000 in
theorem ggX6_advice_X6_worth : GoodIn wsX6_advice wsX6_worth := goodIn_r _ [19, 20, 21, 22, 5, 23, 24, 25, 26, 27, 28, 29, 30, 31, 32, 1, 33, 34, 35, 36, 37, 38, 39, 40, 41, 42, 8, 9, 10, 43, 44, 45, 46, 47, 48, 49, 50, 51, 52, 53, 54, 55, 56, 57, 58, 59, 60, 61, 62, 63, 64, 65, 66, 67, 68, 69, 70, 71, 72, 73, 74, 75, 76, 77, 78, 79, 80, 81] (by decide +kernel) (by decide +kernel)
set_option maxRecDepth 20000 in
theorem gX6_advice_X6_worth : GoodIn wsX6_advice (wsV RX6 170 RX6 yX6_worth wsX6_worth) := goodIn_app (goodIn_of _ (by decide +kernel)) ggX6_advice_X6_worth
theorem dX6_advice_0 : decode cX6_advice 0 = .ok (.aload_n 0, 1) := by decide +kernel
theorem dX6_advice_1 : decode cX6_advice 1 = .ok (.iload_n 1, 1) := by decide +kernel
theorem dX6_advice_2 : decode cX6_advice 2 = .ok (.invokevirtual 126, 3) := by decide +kernel
theorem dX6_advice_5 : decode cX6_advice 5 = .ok (.istore_n 2, 1) := by decide +kernel
theorem dX6_advice_6 : decode cX6_advice 6 = .ok (.aload_n 0, 1) := by decide +kernel
theorem dX6_advice_7 : decode cX6_advice 7 = .ok (.iload_n 2, 1) := by decide +kernel
theorem dX6_advice_8 : decode cX6_advice 8 = .ok (.iload_n 2, 1) := by decide +kernel
theorem dX6_advice_9 : decode cX6_advice 9 = .ok (.ifCond .eq 17, 3) := by decide +kernel
theorem dX6_advice_12 : decode cX6_advice 12 = .ok (.aload_n 0, 1) := by decide +kernel
theorem dX6_advice_13 : decode cX6_advice 13 = .ok (.getfield 27, 3) := by decide +kernel
theorem dX6_advice_16 : decode cX6_advice 16 = .ok (.iload_n 1, 1) := by decide +kernel
theorem dX6_advice_17 : decode cX6_advice 17 = .ok (.iaload, 1) := by decide +kernel
theorem dX6_advice_18 : decode cX6_advice 18 = .ok (.iconst 2, 1) := by decide +kernel
theorem dX6_advice_19 : decode cX6_advice 19 = .ok (.if_icmp .ne 7, 3) := by decide +kernel
theorem dX6_advice_22 : decode cX6_advice 22 = .ok (.iconst 1, 1) := by decide +kernel
theorem dX6_advice_23 : decode cX6_advice 23 = .ok (.goto 4, 3) := by decide +kernel
theorem dX6_advice_26 : decode cX6_advice 26 = .ok (.iconst 0, 1) := by decide +kernel
theorem dX6_advice_27 : decode cX6_advice 27 = .ok (.invokevirtual 161, 3) := by decide +kernel
theorem dX6_advice_30 : decode cX6_advice 30 = .ok (.ifCond .ne 5, 3) := by decide +kernel
theorem dX6_advice_33 : decode cX6_advice 33 = .ok (.iconst 0, 1) := by decide +kernel
theorem dX6_advice_34 : decode cX6_advice 34 = .ok (.ireturn, 1) := by decide +kernel
theorem dX6_advice_35 : decode cX6_advice 35 = .ok (.iconst (-1), 1) := by decide +kernel
theorem dX6_advice_36 : decode cX6_advice 36 = .ok (.istore_n 3, 1) := by decide +kernel
theorem dX6_advice_37 : decode cX6_advice 37 = .ok (.iconst 0, 1) := by decide +kernel
theorem dX6_advice_38 : decode cX6_advice 38 = .ok (.istore 4, 2) := by decide +kernel
theorem dX6_advice_40 : decode cX6_advice 40 = .ok (.iconst 0, 1) := by decide +kernel
theorem dX6_advice_41 : decode cX6_advice 41 = .ok (.istore 5, 2) := by decide +kernel
theorem dX6_advice_43 : decode cX6_advice 43 = .ok (.iload 5, 2) := by decide +kernel
theorem dX6_advice_45 : decode cX6_advice 45 = .ok (.bipush 90, 2) := by decide +kernel
theorem dX6_advice_47 : decode cX6_advice 47 = .ok (.if_icmp .ge 153, 3) := by decide +kernel
theorem dX6_advice_50 : decode cX6_advice 50 = .ok (.iload 5, 2) := by decide +kernel
theorem dX6_advice_52 : decode cX6_advice 52 = .ok (.bipush 10, 2) := by decide +kernel
theorem dX6_advice_54 : decode cX6_advice 54 = .ok (.idiv, 1) := by decide +kernel
theorem dX6_advice_55 : decode cX6_advice 55 = .ok (.istore 6, 2) := by decide +kernel
theorem dX6_advice_57 : decode cX6_advice 57 = .ok (.bipush 40, 2) := by decide +kernel
theorem dX6_advice_59 : decode cX6_advice 59 = .ok (.iload 5, 2) := by decide +kernel
theorem dX6_advice_61 : decode cX6_advice 61 = .ok (.iconst 2, 1) := by decide +kernel
theorem dX6_advice_62 : decode cX6_advice 62 = .ok (.idiv, 1) := by decide +kernel
theorem dX6_advice_63 : decode cX6_advice 63 = .ok (.iconst 5, 1) := by decide +kernel
theorem dX6_advice_64 : decode cX6_advice 64 = .ok (.irem, 1) := by decide +kernel
theorem dX6_advice_65 : decode cX6_advice 65 = .ok (.bipush 10, 2) := by decide +kernel
theorem dX6_advice_67 : decode cX6_advice 67 = .ok (.imul, 1) := by decide +kernel
theorem dX6_advice_68 : decode cX6_advice 68 = .ok (.iadd, 1) := by decide +kernel
theorem dX6_advice_69 : decode cX6_advice 69 = .ok (.istore 7, 2) := by decide +kernel
theorem dX6_advice_71 : decode cX6_advice 71 = .ok (.iload 5, 2) := by decide +kernel
theorem dX6_advice_73 : decode cX6_advice 73 = .ok (.iconst 2, 1) := by decide +kernel
theorem dX6_advice_74 : decode cX6_advice 74 = .ok (.irem, 1) := by decide +kernel
theorem dX6_advice_75 : decode cX6_advice 75 = .ok (.ifCond .ne 7, 3) := by decide +kernel
theorem dX6_advice_78 : decode cX6_advice 78 = .ok (.iconst (-1), 1) := by decide +kernel
theorem dX6_advice_79 : decode cX6_advice 79 = .ok (.goto 4, 3) := by decide +kernel
theorem dX6_advice_82 : decode cX6_advice 82 = .ok (.iconst 1, 1) := by decide +kernel
theorem dX6_advice_83 : decode cX6_advice 83 = .ok (.istore 8, 2) := by decide +kernel
theorem dX6_advice_85 : decode cX6_advice 85 = .ok (.aload_n 0, 1) := by decide +kernel
theorem dX6_advice_86 : decode cX6_advice 86 = .ok (.iload_n 1, 1) := by decide +kernel
theorem dX6_advice_87 : decode cX6_advice 87 = .ok (.iload 6, 2) := by decide +kernel
theorem dX6_advice_89 : decode cX6_advice 89 = .ok (.iload 7, 2) := by decide +kernel
theorem dX6_advice_91 : decode cX6_advice 91 = .ok (.iload 8, 2) := by decide +kernel
theorem dX6_advice_93 : decode cX6_advice 93 = .ok (.invokevirtual 170, 3) := by decide +kernel
theorem dX6_advice_96 : decode cX6_advice 96 = .ok (.istore 9, 2) := by decide +kernel
theorem dX6_advice_98 : decode cX6_advice 98 = .ok (.aload_n 0, 1) := by decide +kernel
theorem dX6_advice_99 : decode cX6_advice 99 = .ok (.iload_n 1, 1) := by decide +kernel
theorem dX6_advice_100 : decode cX6_advice 100 = .ok (.iload 6, 2) := by decide +kernel
theorem dX6_advice_102 : decode cX6_advice 102 = .ok (.iload 7, 2) := by decide +kernel
theorem dX6_advice_104 : decode cX6_advice 104 = .ok (.iconst 5, 1) := by decide +kernel
theorem dX6_advice_105 : decode cX6_advice 105 = .ok (.isub, 1) := by decide +kernel
theorem dX6_advice_106 : decode cX6_advice 106 = .ok (.iload 8, 2) := by decide +kernel
theorem dX6_advice_108 : decode cX6_advice 108 = .ok (.invokevirtual 170, 3) := by decide +kernel
theorem dX6_advice_111 : decode cX6_advice 111 = .ok (.istore 10, 2) := by decide +kernel
theorem dX6_advice_113 : decode cX6_advice 113 = .ok (.aload_n 0, 1) := by decide +kernel
theorem dX6_advice_114 : decode cX6_advice 114 = .ok (.iload_n 1, 1) := by decide +kernel
theorem dX6_advice_115 : decode cX6_advice 115 = .ok (.iload 6, 2) := by decide +kernel
theorem dX6_advice_117 : decode cX6_advice 117 = .ok (.iload 7, 2) := by decide +kernel
theorem dX6_advice_119 : decode cX6_advice 119 = .ok (.iconst 5, 1) := by decide +kernel
theorem dX6_advice_120 : decode cX6_advice 120 = .ok (.iadd, 1) := by decide +kernel
theorem dX6_advice_121 : decode cX6_advice 121 = .ok (.iload 8, 2) := by decide +kernel
theorem dX6_advice_123 : decode cX6_advice 123 = .ok (.invokevirtual 170, 3) := by decide +kernel
theorem dX6_advice_126 : decode cX6_advice 126 = .ok (.istore 11, 2) := by decide +kernel
theorem dX6_advice_128 : decode cX6_advice 128 = .ok (.iload 10, 2) := by decide +kernel
theorem dX6_advice_130 : decode cX6_advice 130 = .ok (.iload 9, 2) := by decide +kernel
theorem dX6_advice_132 : decode cX6_advice 132 = .ok (.if_icmp .ge 8, 3) := by decide +kernel
theorem dX6_advice_135 : decode cX6_advice 135 = .ok (.iload 10, 2) := by decide +kernel
theorem dX6_advice_137 : decode cX6_advice 137 = .ok (.goto 5, 3) := by decide +kernel
theorem dX6_advice_140 : decode cX6_advice 140 = .ok (.iload 9, 2) := by decide +kernel
theorem dX6_advice_142 : decode cX6_advice 142 = .ok (.istore 9, 2) := by decide +kernel
theorem dX6_advice_144 : decode cX6_advice 144 = .ok (.iload 11, 2) := by decide +kernel
theorem dX6_advice_146 : decode cX6_advice 146 = .ok (.iload 9, 2) := by decide +kernel
theorem dX6_advice_148 : decode cX6_advice 148 = .ok (.if_icmp .ge 8, 3) := by decide +kernel
theorem dX6_advice_151 : decode cX6_advice 151 = .ok (.iload 11, 2) := by decide +kernel
theorem dX6_advice_153 : decode cX6_advice 153 = .ok (.goto 5, 3) := by decide +kernel
theorem dX6_advice_156 : decode cX6_advice 156 = .ok (.iload 9, 2) := by decide +kernel
theorem dX6_advice_158 : decode cX6_advice 158 = .ok (.istore 9, 2) := by decide +kernel
theorem dX6_advice_160 : decode cX6_advice 160 = .ok (.iload_n 3, 1) := by decide +kernel
theorem dX6_advice_161 : decode cX6_advice 161 = .ok (.iconst (-1), 1) := by decide +kernel
theorem dX6_advice_162 : decode cX6_advice 162 = .ok (.if_icmp .eq 10, 3) := by decide +kernel
theorem dX6_advice_165 : decode cX6_advice 165 = .ok (.iload 9, 2) := by decide +kernel
theorem dX6_advice_167 : decode cX6_advice 167 = .ok (.iload 4, 2) := by decide +kernel
theorem dX6_advice_169 : decode cX6_advice 169 = .ok (.if_icmp .le 25, 3) := by decide +kernel
theorem dX6_advice_172 : decode cX6_advice 172 = .ok (.sipush 1000, 3) := by decide +kernel
theorem dX6_advice_175 : decode cX6_advice 175 = .ok (.iload 6, 2) := by decide +kernel
theorem dX6_advice_177 : decode cX6_advice 177 = .ok (.imul, 1) := by decide +kernel
theorem dX6_advice_178 : decode cX6_advice 178 = .ok (.bipush 10, 2) := by decide +kernel
theorem dX6_advice_180 : decode cX6_advice 180 = .ok (.iload 7, 2) := by decide +kernel
theorem dX6_advice_182 : decode cX6_advice 182 = .ok (.imul, 1) := by decide +kernel
theorem dX6_advice_183 : decode cX6_advice 183 = .ok (.iadd, 1) := by decide +kernel
theorem dX6_advice_184 : decode cX6_advice 184 = .ok (.iload 5, 2) := by decide +kernel
theorem dX6_advice_186 : decode cX6_advice 186 = .ok (.iconst 2, 1) := by decide +kernel
theorem dX6_advice_187 : decode cX6_advice 187 = .ok (.irem, 1) := by decide +kernel
theorem dX6_advice_188 : decode cX6_advice 188 = .ok (.iadd, 1) := by decide +kernel
theorem dX6_advice_189 : decode cX6_advice 189 = .ok (.istore_n 3, 1) := by decide +kernel
theorem dX6_advice_190 : decode cX6_advice 190 = .ok (.iload 9, 2) := by decide +kernel
theorem dX6_advice_192 : decode cX6_advice 192 = .ok (.istore 4, 2) := by decide +kernel
theorem dX6_advice_194 : decode cX6_advice 194 = .ok (.iinc 5 1, 3) := by decide +kernel
theorem dX6_advice_197 : decode cX6_advice 197 = .ok (.goto (-154), 3) := by decide +kernel
theorem dX6_advice_200 : decode cX6_advice 200 = .ok (.iload_n 3, 1) := by decide +kernel
theorem dX6_advice_201 : decode cX6_advice 201 = .ok (.ireturn, 1) := by decide +kernel
theorem dX6_average_0 : decode cX6_average 0 = .ok (.aload_n 0, 1) := by decide +kernel
theorem dX6_average_1 : decode cX6_average 1 = .ok (.getfield 66, 3) := by decide +kernel
theorem dX6_average_4 : decode cX6_average 4 = .ok (.iload_n 1, 1) := by decide +kernel
theorem dX6_average_5 : decode cX6_average 5 = .ok (.iaload, 1) := by decide +kernel
theorem dX6_average_6 : decode cX6_average 6 = .ok (.ifCond .ne 8, 3) := by decide +kernel
theorem dX6_average_9 : decode cX6_average 9 = .ok (.bipush 30, 2) := by decide +kernel
theorem dX6_average_11 : decode cX6_average 11 = .ok (.goto 16, 3) := by decide +kernel
theorem dX6_average_14 : decode cX6_average 14 = .ok (.aload_n 0, 1) := by decide +kernel
theorem dX6_average_15 : decode cX6_average 15 = .ok (.getfield 69, 3) := by decide +kernel
theorem dX6_average_18 : decode cX6_average 18 = .ok (.iload_n 1, 1) := by decide +kernel
theorem dX6_average_19 : decode cX6_average 19 = .ok (.iaload, 1) := by decide +kernel
theorem dX6_average_20 : decode cX6_average 20 = .ok (.aload_n 0, 1) := by decide +kernel
theorem dX6_average_21 : decode cX6_average 21 = .ok (.getfield 66, 3) := by decide +kernel
theorem dX6_average_24 : decode cX6_average 24 = .ok (.iload_n 1, 1) := by decide +kernel
theorem dX6_average_25 : decode cX6_average 25 = .ok (.iaload, 1) := by decide +kernel
theorem dX6_average_26 : decode cX6_average 26 = .ok (.idiv, 1) := by decide +kernel
theorem dX6_average_27 : decode cX6_average 27 = .ok (.ireturn, 1) := by decide +kernel
set_option maxRecDepth 20000 in
theorem ggX6_standing_X6_in : GoodIn wsX6_standing wsX6_in := goodIn_r _ [6] (by decide +kernel) (by decide +kernel)
set_option maxRecDepth 20000 in
theorem gX6_standing_X6_in : GoodIn wsX6_standing (va_wsS RX6 90 yX6_in wsX6_in) := goodIn_app (goodIn_of _ (by decide +kernel)) ggX6_standing_X6_in
set_option maxRecDepth 20000 in
theorem ggX6_standing_X6_asked : GoodIn wsX6_standing wsX6_asked := goodIn_r _ [10, 11, 18, 19, 20, 21, 22, 23, 24, 25, 26, 27, 28, 29, 30, 31, 32, 33, 34, 35, 36, 37, 38, 39, 40, 41, 42, 43, 44, 45] (by decide +kernel) (by decide +kernel)
set_option maxRecDepth 20000 in
theorem gX6_standing_X6_asked : GoodIn wsX6_standing (wsV RX6 108 RX6 yX6_asked wsX6_asked) := goodIn_app (goodIn_of _ (by decide +kernel)) ggX6_standing_X6_asked
set_option maxRecDepth 20000 in
theorem ggX6_standing_X6_average : GoodIn wsX6_standing wsX6_average := goodIn_r _ [15, 16, 17, 18, 19, 20, 21, 22, 23, 24, 25, 26, 27, 28, 29, 30, 31, 32, 33, 34, 35, 36, 37, 38, 39, 40, 41, 42, 43, 44, 45] (by decide +kernel) (by decide +kernel)
set_option maxRecDepth 20000 in
theorem gX6_standing_X6_average : GoodIn wsX6_standing (wsV RX6 174 RX6 yX6_average wsX6_average) := goodIn_app (goodIn_of _ (by decide +kernel)) ggX6_standing_X6_average
theorem dX6_standing_0 : decode cX6_standing 0 = .ok (.aload_n 0, 1) := by decide +kernel
theorem dX6_standing_1 : decode cX6_standing 1 = .ok (.iload_n 1, 1) := by decide +kernel
theorem dX6_standing_2 : decode cX6_standing 2 = .ok (.iconst 0, 1) := by decide +kernel
theorem dX6_standing_3 : decode cX6_standing 3 = .ok (.iconst 5, 1) := by decide +kernel
theorem dX6_standing_4 : decode cX6_standing 4 = .ok (.invokestatic 90, 3) := by decide +kernel
theorem dX6_standing_7 : decode cX6_standing 7 = .ok (.invokevirtual 108, 3) := by decide +kernel
theorem dX6_standing_10 : decode cX6_standing 10 = .ok (.ifCond .ne 5, 3) := by decide +kernel
theorem dX6_standing_13 : decode cX6_standing 13 = .ok (.iconst 0, 1) := by decide +kernel
theorem dX6_standing_14 : decode cX6_standing 14 = .ok (.ireturn, 1) := by decide +kernel
theorem dX6_standing_15 : decode cX6_standing 15 = .ok (.iconst 0, 1) := by decide +kernel
theorem dX6_standing_16 : decode cX6_standing 16 = .ok (.istore_n 2, 1) := by decide +kernel
theorem dX6_standing_17 : decode cX6_standing 17 = .ok (.iload_n 2, 1) := by decide +kernel
theorem dX6_standing_18 : decode cX6_standing 18 = .ok (.bipush 6, 2) := by decide +kernel
theorem dX6_standing_20 : decode cX6_standing 20 = .ok (.if_icmp .ge 120, 3) := by decide +kernel
theorem dX6_standing_23 : decode cX6_standing 23 = .ok (.iconst 0, 1) := by decide +kernel
theorem dX6_standing_24 : decode cX6_standing 24 = .ok (.istore_n 3, 1) := by decide +kernel
theorem dX6_standing_25 : decode cX6_standing 25 = .ok (.iconst 0, 1) := by decide +kernel
theorem dX6_standing_26 : decode cX6_standing 26 = .ok (.istore 4, 2) := by decide +kernel
theorem dX6_standing_28 : decode cX6_standing 28 = .ok (.iload 4, 2) := by decide +kernel
theorem dX6_standing_30 : decode cX6_standing 30 = .ok (.bipush 6, 2) := by decide +kernel
theorem dX6_standing_32 : decode cX6_standing 32 = .ok (.if_icmp .ge 95, 3) := by decide +kernel
theorem dX6_standing_35 : decode cX6_standing 35 = .ok (.aload_n 0, 1) := by decide +kernel
theorem dX6_standing_36 : decode cX6_standing 36 = .ok (.getfield 63, 3) := by decide +kernel
theorem dX6_standing_39 : decode cX6_standing 39 = .ok (.iload 4, 2) := by decide +kernel
theorem dX6_standing_41 : decode cX6_standing 41 = .ok (.iaload, 1) := by decide +kernel
theorem dX6_standing_42 : decode cX6_standing 42 = .ok (.aload_n 0, 1) := by decide +kernel
theorem dX6_standing_43 : decode cX6_standing 43 = .ok (.getfield 63, 3) := by decide +kernel
theorem dX6_standing_46 : decode cX6_standing 46 = .ok (.iload_n 2, 1) := by decide +kernel
theorem dX6_standing_47 : decode cX6_standing 47 = .ok (.iaload, 1) := by decide +kernel
theorem dX6_standing_48 : decode cX6_standing 48 = .ok (.if_icmp .ne 41, 3) := by decide +kernel
theorem dX6_standing_51 : decode cX6_standing 51 = .ok (.aload_n 0, 1) := by decide +kernel
theorem dX6_standing_52 : decode cX6_standing 52 = .ok (.iload 4, 2) := by decide +kernel
theorem dX6_standing_54 : decode cX6_standing 54 = .ok (.invokevirtual 174, 3) := by decide +kernel
theorem dX6_standing_57 : decode cX6_standing 57 = .ok (.aload_n 0, 1) := by decide +kernel
theorem dX6_standing_58 : decode cX6_standing 58 = .ok (.iload_n 2, 1) := by decide +kernel
theorem dX6_standing_59 : decode cX6_standing 59 = .ok (.invokevirtual 174, 3) := by decide +kernel
theorem dX6_standing_62 : decode cX6_standing 62 = .ok (.if_icmp .lt 23, 3) := by decide +kernel
theorem dX6_standing_65 : decode cX6_standing 65 = .ok (.aload_n 0, 1) := by decide +kernel
theorem dX6_standing_66 : decode cX6_standing 66 = .ok (.iload 4, 2) := by decide +kernel
theorem dX6_standing_68 : decode cX6_standing 68 = .ok (.invokevirtual 174, 3) := by decide +kernel
theorem dX6_standing_71 : decode cX6_standing 71 = .ok (.aload_n 0, 1) := by decide +kernel
theorem dX6_standing_72 : decode cX6_standing 72 = .ok (.iload_n 2, 1) := by decide +kernel
theorem dX6_standing_73 : decode cX6_standing 73 = .ok (.invokevirtual 174, 3) := by decide +kernel
theorem dX6_standing_76 : decode cX6_standing 76 = .ok (.if_icmp .ne 13, 3) := by decide +kernel
theorem dX6_standing_79 : decode cX6_standing 79 = .ok (.iload 4, 2) := by decide +kernel
theorem dX6_standing_81 : decode cX6_standing 81 = .ok (.iload_n 2, 1) := by decide +kernel
theorem dX6_standing_82 : decode cX6_standing 82 = .ok (.if_icmp .ge 7, 3) := by decide +kernel
theorem dX6_standing_85 : decode cX6_standing 85 = .ok (.iconst 1, 1) := by decide +kernel
theorem dX6_standing_86 : decode cX6_standing 86 = .ok (.goto 4, 3) := by decide +kernel
theorem dX6_standing_89 : decode cX6_standing 89 = .ok (.iconst 0, 1) := by decide +kernel
theorem dX6_standing_90 : decode cX6_standing 90 = .ok (.istore 5, 2) := by decide +kernel
theorem dX6_standing_92 : decode cX6_standing 92 = .ok (.iload_n 3, 1) := by decide +kernel
theorem dX6_standing_93 : decode cX6_standing 93 = .ok (.aload_n 0, 1) := by decide +kernel
theorem dX6_standing_94 : decode cX6_standing 94 = .ok (.getfield 63, 3) := by decide +kernel
theorem dX6_standing_97 : decode cX6_standing 97 = .ok (.iload 4, 2) := by decide +kernel
theorem dX6_standing_99 : decode cX6_standing 99 = .ok (.iaload, 1) := by decide +kernel
theorem dX6_standing_100 : decode cX6_standing 100 = .ok (.aload_n 0, 1) := by decide +kernel
theorem dX6_standing_101 : decode cX6_standing 101 = .ok (.getfield 63, 3) := by decide +kernel
theorem dX6_standing_104 : decode cX6_standing 104 = .ok (.iload_n 2, 1) := by decide +kernel
theorem dX6_standing_105 : decode cX6_standing 105 = .ok (.iaload, 1) := by decide +kernel
theorem dX6_standing_106 : decode cX6_standing 106 = .ok (.if_icmp .gt 8, 3) := by decide +kernel
theorem dX6_standing_109 : decode cX6_standing 109 = .ok (.iload 5, 2) := by decide +kernel
theorem dX6_standing_111 : decode cX6_standing 111 = .ok (.ifCond .eq 7, 3) := by decide +kernel
theorem dX6_standing_114 : decode cX6_standing 114 = .ok (.iconst 1, 1) := by decide +kernel
theorem dX6_standing_115 : decode cX6_standing 115 = .ok (.goto 4, 3) := by decide +kernel
theorem dX6_standing_118 : decode cX6_standing 118 = .ok (.iconst 0, 1) := by decide +kernel
theorem dX6_standing_119 : decode cX6_standing 119 = .ok (.iadd, 1) := by decide +kernel
theorem dX6_standing_120 : decode cX6_standing 120 = .ok (.istore_n 3, 1) := by decide +kernel
theorem dX6_standing_121 : decode cX6_standing 121 = .ok (.iinc 4 1, 3) := by decide +kernel
theorem dX6_standing_124 : decode cX6_standing 124 = .ok (.goto (-96), 3) := by decide +kernel
theorem dX6_standing_127 : decode cX6_standing 127 = .ok (.aload_n 0, 1) := by decide +kernel
theorem dX6_standing_128 : decode cX6_standing 128 = .ok (.getfield 78, 3) := by decide +kernel
theorem dX6_standing_131 : decode cX6_standing 131 = .ok (.iload_n 3, 1) := by decide +kernel
theorem dX6_standing_132 : decode cX6_standing 132 = .ok (.iload_n 2, 1) := by decide +kernel
theorem dX6_standing_133 : decode cX6_standing 133 = .ok (.iastore, 1) := by decide +kernel
theorem dX6_standing_134 : decode cX6_standing 134 = .ok (.iinc 2 1, 3) := by decide +kernel
theorem dX6_standing_137 : decode cX6_standing 137 = .ok (.goto (-120), 3) := by decide +kernel
theorem dX6_standing_140 : decode cX6_standing 140 = .ok (.aload_n 0, 1) := by decide +kernel
theorem dX6_standing_141 : decode cX6_standing 141 = .ok (.getfield 78, 3) := by decide +kernel
theorem dX6_standing_144 : decode cX6_standing 144 = .ok (.iload_n 1, 1) := by decide +kernel
theorem dX6_standing_145 : decode cX6_standing 145 = .ok (.iaload, 1) := by decide +kernel
theorem dX6_standing_146 : decode cX6_standing 146 = .ok (.ireturn, 1) := by decide +kernel
set_option maxRecDepth 20000 in
theorem ggX6_ofTeam_X6_isTeam : GoodIn wsX6_ofTeam wsX6_isTeam := goodIn_r _ [7, 8, 9, 6, 10] (by decide +kernel) (by decide +kernel)
set_option maxRecDepth 20000 in
theorem gX6_ofTeam_X6_isTeam : GoodIn wsX6_ofTeam (va_wsS RX6 94 yX6_isTeam wsX6_isTeam) := goodIn_app (goodIn_of _ (by decide +kernel)) ggX6_ofTeam_X6_isTeam
set_option maxRecDepth 20000 in
theorem ggX6_ofTeam_X6_in : GoodIn wsX6_ofTeam wsX6_in := goodIn_r _ [10] (by decide +kernel) (by decide +kernel)
set_option maxRecDepth 20000 in
theorem gX6_ofTeam_X6_in : GoodIn wsX6_ofTeam (va_wsS RX6 90 yX6_in wsX6_in) := goodIn_app (goodIn_of _ (by decide +kernel)) ggX6_ofTeam_X6_in
set_option maxRecDepth 20000 in
theorem ggX6_ofTeam_X6_asked_ : GoodIn wsX6_ofTeam wsX6_asked_ := goodIn_r _ [14, 15, 16, 17, 18, 19, 20, 21, 22, 23, 24, 25, 26, 27, 28, 29, 30, 31, 32, 33, 34, 35, 36, 37, 38, 39, 40, 41, 42, 43] (by decide +kernel) (by decide +kernel)
set_option maxRecDepth 20000 in
theorem gX6_ofTeam_X6_asked_ : GoodIn wsX6_ofTeam (wsV RX6 161 RX6 yX6_asked_ wsX6_asked_) := goodIn_app (goodIn_of _ (by decide +kernel)) ggX6_ofTeam_X6_asked_
theorem dX6_ofTeam_0 : decode cX6_ofTeam 0 = .ok (.aload_n 0, 1) := by decide +kernel
theorem dX6_ofTeam_1 : decode cX6_ofTeam 1 = .ok (.iload_n 1, 1) := by decide +kernel
theorem dX6_ofTeam_2 : decode cX6_ofTeam 2 = .ok (.invokestatic 94, 3) := by decide +kernel
theorem dX6_ofTeam_5 : decode cX6_ofTeam 5 = .ok (.iload_n 2, 1) := by decide +kernel
theorem dX6_ofTeam_6 : decode cX6_ofTeam 6 = .ok (.iconst 0, 1) := by decide +kernel
theorem dX6_ofTeam_7 : decode cX6_ofTeam 7 = .ok (.iconst 2, 1) := by decide +kernel
theorem dX6_ofTeam_8 : decode cX6_ofTeam 8 = .ok (.invokestatic 90, 3) := by decide +kernel
theorem dX6_ofTeam_11 : decode cX6_ofTeam 11 = .ok (.invokevirtual 161, 3) := by decide +kernel
theorem dX6_ofTeam_14 : decode cX6_ofTeam 14 = .ok (.ifCond .ne 5, 3) := by decide +kernel
theorem dX6_ofTeam_17 : decode cX6_ofTeam 17 = .ok (.iconst 0, 1) := by decide +kernel
theorem dX6_ofTeam_18 : decode cX6_ofTeam 18 = .ok (.ireturn, 1) := by decide +kernel
theorem dX6_ofTeam_19 : decode cX6_ofTeam 19 = .ok (.iload_n 2, 1) := by decide +kernel
theorem dX6_ofTeam_20 : decode cX6_ofTeam 20 = .ok (.ifCond .ne 12, 3) := by decide +kernel
theorem dX6_ofTeam_23 : decode cX6_ofTeam 23 = .ok (.aload_n 0, 1) := by decide +kernel
theorem dX6_ofTeam_24 : decode cX6_ofTeam 24 = .ok (.getfield 63, 3) := by decide +kernel
theorem dX6_ofTeam_27 : decode cX6_ofTeam 27 = .ok (.iload_n 1, 1) := by decide +kernel
theorem dX6_ofTeam_28 : decode cX6_ofTeam 28 = .ok (.iaload, 1) := by decide +kernel
theorem dX6_ofTeam_29 : decode cX6_ofTeam 29 = .ok (.goto 23, 3) := by decide +kernel
theorem dX6_ofTeam_32 : decode cX6_ofTeam 32 = .ok (.iload_n 2, 1) := by decide +kernel
theorem dX6_ofTeam_33 : decode cX6_ofTeam 33 = .ok (.iconst 1, 1) := by decide +kernel
theorem dX6_ofTeam_34 : decode cX6_ofTeam 34 = .ok (.if_icmp .ne 12, 3) := by decide +kernel
theorem dX6_ofTeam_37 : decode cX6_ofTeam 37 = .ok (.aload_n 0, 1) := by decide +kernel
theorem dX6_ofTeam_38 : decode cX6_ofTeam 38 = .ok (.getfield 66, 3) := by decide +kernel
theorem dX6_ofTeam_41 : decode cX6_ofTeam 41 = .ok (.iload_n 1, 1) := by decide +kernel
theorem dX6_ofTeam_42 : decode cX6_ofTeam 42 = .ok (.iaload, 1) := by decide +kernel
theorem dX6_ofTeam_43 : decode cX6_ofTeam 43 = .ok (.goto 9, 3) := by decide +kernel
theorem dX6_ofTeam_46 : decode cX6_ofTeam 46 = .ok (.aload_n 0, 1) := by decide +kernel
theorem dX6_ofTeam_47 : decode cX6_ofTeam 47 = .ok (.getfield 69, 3) := by decide +kernel
theorem dX6_ofTeam_50 : decode cX6_ofTeam 50 = .ok (.iload_n 1, 1) := by decide +kernel
theorem dX6_ofTeam_51 : decode cX6_ofTeam 51 = .ok (.iaload, 1) := by decide +kernel
theorem dX6_ofTeam_52 : decode cX6_ofTeam 52 = .ok (.ireturn, 1) := by decide +kernel
theorem dJ9_abs_0f7a4_0 : decode cJ9_abs_0f7a4 0 = .ok (.iload_n 0, 1) := by decide +kernel
theorem dJ9_abs_0f7a4_1 : decode cJ9_abs_0f7a4 1 = .ok (.ifCond .ge 8, 3) := by decide +kernel
theorem dJ9_abs_0f7a4_4 : decode cJ9_abs_0f7a4 4 = .ok (.iload_n 0, 1) := by decide +kernel
theorem dJ9_abs_0f7a4_5 : decode cJ9_abs_0f7a4 5 = .ok (.ineg, 1) := by decide +kernel
theorem dJ9_abs_0f7a4_6 : decode cJ9_abs_0f7a4 6 = .ok (.goto 4, 3) := by decide +kernel
theorem dJ9_abs_0f7a4_9 : decode cJ9_abs_0f7a4 9 = .ok (.iload_n 0, 1) := by decide +kernel
theorem dJ9_abs_0f7a4_10 : decode cJ9_abs_0f7a4 10 = .ok (.ireturn, 1) := by decide +kernel
theorem dJ9_min_7cf53_0 : decode cJ9_min_7cf53 0 = .ok (.iload_n 0, 1) := by decide +kernel
theorem dJ9_min_7cf53_1 : decode cJ9_min_7cf53 1 = .ok (.iload_n 1, 1) := by decide +kernel
theorem dJ9_min_7cf53_2 : decode cJ9_min_7cf53 2 = .ok (.if_icmp .gt 7, 3) := by decide +kernel
theorem dJ9_min_7cf53_5 : decode cJ9_min_7cf53 5 = .ok (.iload_n 0, 1) := by decide +kernel
theorem dJ9_min_7cf53_6 : decode cJ9_min_7cf53 6 = .ok (.goto 4, 3) := by decide +kernel
theorem dJ9_min_7cf53_9 : decode cJ9_min_7cf53 9 = .ok (.iload_n 1, 1) := by decide +kernel
theorem dJ9_min_7cf53_10 : decode cJ9_min_7cf53 10 = .ok (.ireturn, 1) := by decide +kernel
set_option maxRecDepth 20000 in
theorem ggL_plan_X5_plan : GoodIn wsL_plan wsX5_plan := goodIn_ca (goodIn_ca (goodIn_ca (goodIn_r _ [8, 9, 10, 11, 12, 13, 14, 15, 16, 17, 18, 19, 20, 21, 22, 7, 23, 24, 25, 26, 27, 28, 29, 30, 31, 32, 33, 34, 35, 36, 37, 38, 39, 40, 41, 42, 43, 44, 45, 46, 47, 48, 49, 50, 51, 52, 53, 54, 55, 56, 57, 58, 59, 60, 61, 62, 63, 64, 65, 66, 67, 68, 69, 70, 71, 72, 73] (by decide +kernel) (by decide +kernel)) (goodIn_sub (fun _ h => List.mem_cons_of_mem _ (List.mem_append_left _ (List.mem_append_left _ (List.mem_append_right _ h)))) (by decide +kernel))) (goodIn_sub (fun _ h => List.mem_cons_of_mem _ (List.mem_append_left _ (List.mem_append_right _ h))) (by decide +kernel))) (goodIn_sub (fun _ h => List.mem_cons_of_mem _ (List.mem_append_right _ h)) (by decide +kernel))
set_option maxRecDepth 20000 in
theorem gL_plan_X5_plan : GoodIn wsL_plan (wsV RL 7 RX5 yX5_plan wsX5_plan) := goodIn_app (goodIn_of _ (by decide +kernel)) ggL_plan_X5_plan
theorem dL_plan_0 : decode cL_plan 0 = .ok (.aload 5, 2) := by decide +kernel
theorem dL_plan_2 : decode cL_plan 2 = .ok (.iconst 0, 1) := by decide +kernel
theorem dL_plan_3 : decode cL_plan 3 = .ok (.aload_n 0, 1) := by decide +kernel
theorem dL_plan_4 : decode cL_plan 4 = .ok (.iload_n 1, 1) := by decide +kernel
theorem dL_plan_5 : decode cL_plan 5 = .ok (.iload_n 2, 1) := by decide +kernel
theorem dL_plan_6 : decode cL_plan 6 = .ok (.iload_n 3, 1) := by decide +kernel
theorem dL_plan_7 : decode cL_plan 7 = .ok (.iload 4, 2) := by decide +kernel
theorem dL_plan_9 : decode cL_plan 9 = .ok (.invokevirtual 7, 3) := by decide +kernel
theorem dL_plan_12 : decode cL_plan 12 = .ok (.i2l, 1) := by decide +kernel
theorem dL_plan_13 : decode cL_plan 13 = .ok (.lastore, 1) := by decide +kernel
theorem dL_plan_14 : decode cL_plan 14 = .ok (.goto 15, 3) := by decide +kernel
theorem dL_plan_17 : decode cL_plan 17 = .ok (.astore 6, 2) := by decide +kernel
theorem dL_plan_19 : decode cL_plan 19 = .ok (.iconst 1, 1) := by decide +kernel
theorem dL_plan_20 : decode cL_plan 20 = .ok (.ireturn, 1) := by decide +kernel
theorem dL_plan_21 : decode cL_plan 21 = .ok (.astore 6, 2) := by decide +kernel
theorem dL_plan_23 : decode cL_plan 23 = .ok (.iconst 2, 1) := by decide +kernel
theorem dL_plan_24 : decode cL_plan 24 = .ok (.ireturn, 1) := by decide +kernel
theorem dL_plan_25 : decode cL_plan 25 = .ok (.astore 6, 2) := by decide +kernel
theorem dL_plan_27 : decode cL_plan 27 = .ok (.iconst 3, 1) := by decide +kernel
theorem dL_plan_28 : decode cL_plan 28 = .ok (.ireturn, 1) := by decide +kernel
theorem dL_plan_29 : decode cL_plan 29 = .ok (.iconst 0, 1) := by decide +kernel
theorem dL_plan_30 : decode cL_plan 30 = .ok (.ireturn, 1) := by decide +kernel
set_option maxRecDepth 20000 in
theorem ggL_crew_X5_crew : GoodIn wsL_crew wsX5_crew := goodIn_ca (goodIn_r _ [6, 7, 8, 9, 10, 11, 5, 12, 13, 14, 15, 16, 17, 18, 19, 20, 21] (by decide +kernel) (by decide +kernel)) (goodIn_sub (fun _ h => List.mem_cons_of_mem _ (List.mem_append_right _ h)) (by decide +kernel))
set_option maxRecDepth 20000 in
theorem gL_crew_X5_crew : GoodIn wsL_crew (wsV RL 19 RX5 yX5_crew wsX5_crew) := goodIn_app (goodIn_of _ (by decide +kernel)) ggL_crew_X5_crew
theorem dL_crew_0 : decode cL_crew 0 = .ok (.aload_n 2, 1) := by decide +kernel
theorem dL_crew_1 : decode cL_crew 1 = .ok (.iconst 0, 1) := by decide +kernel
theorem dL_crew_2 : decode cL_crew 2 = .ok (.aload_n 0, 1) := by decide +kernel
theorem dL_crew_3 : decode cL_crew 3 = .ok (.iload_n 1, 1) := by decide +kernel
theorem dL_crew_4 : decode cL_crew 4 = .ok (.invokevirtual 19, 3) := by decide +kernel
theorem dL_crew_7 : decode cL_crew 7 = .ok (.i2l, 1) := by decide +kernel
theorem dL_crew_8 : decode cL_crew 8 = .ok (.lastore, 1) := by decide +kernel
theorem dL_crew_9 : decode cL_crew 9 = .ok (.goto 6, 3) := by decide +kernel
theorem dL_crew_12 : decode cL_crew 12 = .ok (.astore_n 3, 1) := by decide +kernel
theorem dL_crew_13 : decode cL_crew 13 = .ok (.iconst 1, 1) := by decide +kernel
theorem dL_crew_14 : decode cL_crew 14 = .ok (.ireturn, 1) := by decide +kernel
theorem dL_crew_15 : decode cL_crew 15 = .ok (.iconst 0, 1) := by decide +kernel
theorem dL_crew_16 : decode cL_crew 16 = .ok (.ireturn, 1) := by decide +kernel
set_option maxRecDepth 20000 in
theorem ggL_shoot_X5_shoot : GoodIn wsL_shoot wsX5_shoot := goodIn_ca (goodIn_ca (goodIn_ca (goodIn_r _ [8, 9, 10, 11, 12, 13, 14, 15, 16, 17, 18, 19, 20, 7, 21, 22, 23, 24, 25, 26, 27, 28, 29, 30, 31, 32, 33, 34, 35, 36, 37, 38, 39, 40, 41, 42, 43, 44, 45, 46, 47, 48, 49, 50, 51, 52, 53, 54, 55, 56, 57, 58, 59, 60, 61, 62, 63, 64, 65, 66, 67, 68, 69, 70, 71, 72, 73, 74, 75, 76, 77, 78, 79, 80, 81, 82, 83, 84, 85, 86, 87, 88, 89, 90, 91, 92, 93, 94, 95, 96, 97, 98, 99, 100, 101, 102, 103, 104, 105, 106, 107, 108, 109, 110, 111, 112, 113, 114, 115, 116, 117, 118, 119, 120, 121, 122, 123, 124, 125, 126, 127, 128, 129, 130, 131, 132, 133, 134, 135, 136, 137, 138, 139, 140, 141, 142, 143, 144, 145, 146, 147, 148, 149, 150, 151, 152, 153, 154, 155, 156, 157, 158, 159, 160, 161, 162, 163, 164, 165, 166, 167, 168, 169, 170, 171, 172, 173, 174, 175, 176, 177, 178, 179, 180, 181, 182, 183, 184, 185, 186, 187, 188, 189, 190, 191, 192, 193, 194, 195, 196, 197, 198, 199, 200, 201, 202, 203, 204, 205, 206, 207, 208, 209, 210, 211, 212, 213, 214, 215, 216, 217, 218, 219, 220, 221, 222, 223, 224, 225, 226, 227, 228, 229, 230, 231, 232, 233, 234, 235, 236] (by decide +kernel) (by decide +kernel)) (goodIn_sub (fun _ h => List.mem_cons_of_mem _ (List.mem_append_left _ (List.mem_append_left _ (List.mem_append_right _ h)))) (by decide +kernel))) (goodIn_sub (fun _ h => List.mem_cons_of_mem _ (List.mem_append_left _ (List.mem_append_right _ h))) (by decide +kernel))) (goodIn_sub (fun _ h => List.mem_cons_of_mem _ (List.mem_append_right _ h)) (by decide +kernel))
set_option maxRecDepth 20000 in
theorem gL_shoot_X5_shoot : GoodIn wsL_shoot (wsV RL 23 RX5 yX5_shoot wsX5_shoot) := goodIn_app (goodIn_of _ (by decide +kernel)) ggL_shoot_X5_shoot
theorem dL_shoot_0 : decode cL_shoot 0 = .ok (.aload 7, 2) := by decide +kernel
theorem dL_shoot_2 : decode cL_shoot 2 = .ok (.iconst 0, 1) := by decide +kernel
theorem dL_shoot_3 : decode cL_shoot 3 = .ok (.aload_n 0, 1) := by decide +kernel
theorem dL_shoot_4 : decode cL_shoot 4 = .ok (.iload_n 1, 1) := by decide +kernel
theorem dL_shoot_5 : decode cL_shoot 5 = .ok (.iload_n 2, 1) := by decide +kernel
theorem dL_shoot_6 : decode cL_shoot 6 = .ok (.iload_n 3, 1) := by decide +kernel
theorem dL_shoot_7 : decode cL_shoot 7 = .ok (.iload 4, 2) := by decide +kernel
theorem dL_shoot_9 : decode cL_shoot 9 = .ok (.iload 5, 2) := by decide +kernel
theorem dL_shoot_11 : decode cL_shoot 11 = .ok (.iload 6, 2) := by decide +kernel
theorem dL_shoot_13 : decode cL_shoot 13 = .ok (.invokevirtual 23, 3) := by decide +kernel
theorem dL_shoot_16 : decode cL_shoot 16 = .ok (.i2l, 1) := by decide +kernel
theorem dL_shoot_17 : decode cL_shoot 17 = .ok (.lastore, 1) := by decide +kernel
theorem dL_shoot_18 : decode cL_shoot 18 = .ok (.goto 15, 3) := by decide +kernel
theorem dL_shoot_21 : decode cL_shoot 21 = .ok (.astore 8, 2) := by decide +kernel
theorem dL_shoot_23 : decode cL_shoot 23 = .ok (.iconst 1, 1) := by decide +kernel
theorem dL_shoot_24 : decode cL_shoot 24 = .ok (.ireturn, 1) := by decide +kernel
theorem dL_shoot_25 : decode cL_shoot 25 = .ok (.astore 8, 2) := by decide +kernel
theorem dL_shoot_27 : decode cL_shoot 27 = .ok (.iconst 2, 1) := by decide +kernel
theorem dL_shoot_28 : decode cL_shoot 28 = .ok (.ireturn, 1) := by decide +kernel
theorem dL_shoot_29 : decode cL_shoot 29 = .ok (.astore 8, 2) := by decide +kernel
theorem dL_shoot_31 : decode cL_shoot 31 = .ok (.iconst 3, 1) := by decide +kernel
theorem dL_shoot_32 : decode cL_shoot 32 = .ok (.ireturn, 1) := by decide +kernel
theorem dL_shoot_33 : decode cL_shoot 33 = .ok (.iconst 0, 1) := by decide +kernel
theorem dL_shoot_34 : decode cL_shoot 34 = .ok (.ireturn, 1) := by decide +kernel
set_option maxRecDepth 20000 in
theorem ggL_pass_X5_pass : GoodIn wsL_pass wsX5_pass := goodIn_ca (goodIn_ca (goodIn_ca (goodIn_r _ [7, 8, 9, 10, 11, 12, 13, 14, 6, 15, 16, 17, 18, 19, 20, 21, 22, 23, 24, 25, 26, 27, 28, 29, 30, 31, 32, 33, 34, 35, 36, 37, 38, 39, 40, 41, 42, 43, 44, 45, 46, 47, 48, 49, 50, 51, 52, 53, 54, 55, 56, 57, 58, 59, 60, 61, 62, 63, 64, 65, 66, 67, 68, 69, 70, 71, 72, 73, 74, 75, 76, 77, 78, 79, 80, 81, 82, 83, 84, 85, 86, 87, 88, 89, 90, 91, 92, 93] (by decide +kernel) (by decide +kernel)) (goodIn_sub (fun _ h => List.mem_cons_of_mem _ (List.mem_append_left _ (List.mem_append_left _ (List.mem_append_right _ h)))) (by decide +kernel))) (goodIn_sub (fun _ h => List.mem_cons_of_mem _ (List.mem_append_left _ (List.mem_append_right _ h))) (by decide +kernel))) (goodIn_sub (fun _ h => List.mem_cons_of_mem _ (List.mem_append_right _ h)) (by decide +kernel))
set_option maxRecDepth 20000 in
theorem gL_pass_X5_pass : GoodIn wsL_pass (wsV RL 27 RX5 yX5_pass wsX5_pass) := goodIn_app (goodIn_of _ (by decide +kernel)) ggL_pass_X5_pass
theorem dL_pass_0 : decode cL_pass 0 = .ok (.aload_n 2, 1) := by decide +kernel
theorem dL_pass_1 : decode cL_pass 1 = .ok (.iconst 0, 1) := by decide +kernel
theorem dL_pass_2 : decode cL_pass 2 = .ok (.aload_n 0, 1) := by decide +kernel
theorem dL_pass_3 : decode cL_pass 3 = .ok (.iload_n 1, 1) := by decide +kernel
theorem dL_pass_4 : decode cL_pass 4 = .ok (.invokevirtual 27, 3) := by decide +kernel
theorem dL_pass_7 : decode cL_pass 7 = .ok (.i2l, 1) := by decide +kernel
theorem dL_pass_8 : decode cL_pass 8 = .ok (.lastore, 1) := by decide +kernel
theorem dL_pass_9 : decode cL_pass 9 = .ok (.goto 9, 3) := by decide +kernel
theorem dL_pass_12 : decode cL_pass 12 = .ok (.astore_n 3, 1) := by decide +kernel
theorem dL_pass_13 : decode cL_pass 13 = .ok (.iconst 1, 1) := by decide +kernel
theorem dL_pass_14 : decode cL_pass 14 = .ok (.ireturn, 1) := by decide +kernel
theorem dL_pass_15 : decode cL_pass 15 = .ok (.astore_n 3, 1) := by decide +kernel
theorem dL_pass_16 : decode cL_pass 16 = .ok (.iconst 2, 1) := by decide +kernel
theorem dL_pass_17 : decode cL_pass 17 = .ok (.ireturn, 1) := by decide +kernel
theorem dL_pass_18 : decode cL_pass 18 = .ok (.iconst 0, 1) := by decide +kernel
theorem dL_pass_19 : decode cL_pass 19 = .ok (.ireturn, 1) := by decide +kernel
set_option maxRecDepth 20000 in
theorem ggL_ofSheet_X5_ofSheet : GoodIn wsL_ofSheet wsX5_ofSheet := goodIn_ca (goodIn_ca (goodIn_r _ [7, 8, 9, 10, 11, 12, 13, 14, 15, 16, 6, 17, 18, 19, 20, 21, 22, 23, 24, 25, 26, 27, 28, 29, 30, 31, 32, 33, 34, 35, 36, 37, 38] (by decide +kernel) (by decide +kernel)) (goodIn_sub (fun _ h => List.mem_cons_of_mem _ (List.mem_append_left _ (List.mem_append_right _ h))) (by decide +kernel))) (goodIn_sub (fun _ h => List.mem_cons_of_mem _ (List.mem_append_right _ h)) (by decide +kernel))
set_option maxRecDepth 20000 in
theorem gL_ofSheet_X5_ofSheet : GoodIn wsL_ofSheet (wsV RL 30 RX5 yX5_ofSheet wsX5_ofSheet) := goodIn_app (goodIn_of _ (by decide +kernel)) ggL_ofSheet_X5_ofSheet
theorem dL_ofSheet_0 : decode cL_ofSheet 0 = .ok (.aload_n 3, 1) := by decide +kernel
theorem dL_ofSheet_1 : decode cL_ofSheet 1 = .ok (.iconst 0, 1) := by decide +kernel
theorem dL_ofSheet_2 : decode cL_ofSheet 2 = .ok (.aload_n 0, 1) := by decide +kernel
theorem dL_ofSheet_3 : decode cL_ofSheet 3 = .ok (.iload_n 1, 1) := by decide +kernel
theorem dL_ofSheet_4 : decode cL_ofSheet 4 = .ok (.iload_n 2, 1) := by decide +kernel
theorem dL_ofSheet_5 : decode cL_ofSheet 5 = .ok (.invokevirtual 30, 3) := by decide +kernel
theorem dL_ofSheet_8 : decode cL_ofSheet 8 = .ok (.i2l, 1) := by decide +kernel
theorem dL_ofSheet_9 : decode cL_ofSheet 9 = .ok (.lastore, 1) := by decide +kernel
theorem dL_ofSheet_10 : decode cL_ofSheet 10 = .ok (.goto 11, 3) := by decide +kernel
theorem dL_ofSheet_13 : decode cL_ofSheet 13 = .ok (.astore 4, 2) := by decide +kernel
theorem dL_ofSheet_15 : decode cL_ofSheet 15 = .ok (.iconst 1, 1) := by decide +kernel
theorem dL_ofSheet_16 : decode cL_ofSheet 16 = .ok (.ireturn, 1) := by decide +kernel
theorem dL_ofSheet_17 : decode cL_ofSheet 17 = .ok (.astore 4, 2) := by decide +kernel
theorem dL_ofSheet_19 : decode cL_ofSheet 19 = .ok (.iconst 2, 1) := by decide +kernel
theorem dL_ofSheet_20 : decode cL_ofSheet 20 = .ok (.ireturn, 1) := by decide +kernel
theorem dL_ofSheet_21 : decode cL_ofSheet 21 = .ok (.iconst 0, 1) := by decide +kernel
theorem dL_ofSheet_22 : decode cL_ofSheet 22 = .ok (.ireturn, 1) := by decide +kernel
set_option maxRecDepth 20000 in
theorem ggL_wear_X5_wear : GoodIn wsL_wear wsX5_wear := goodIn_ca (goodIn_r _ [6, 7, 8, 9, 10, 11, 5, 12, 13, 14, 15, 16, 17, 18, 19, 20, 21, 22, 23, 24, 25, 26, 27, 28, 29, 30, 31, 32, 33, 34, 35, 36, 37] (by decide +kernel) (by decide +kernel)) (goodIn_sub (fun _ h => List.mem_cons_of_mem _ (List.mem_append_right _ h)) (by decide +kernel))
set_option maxRecDepth 20000 in
theorem gL_wear_X5_wear : GoodIn wsL_wear (wsV RL 34 RX5 yX5_wear wsX5_wear) := goodIn_app (goodIn_of _ (by decide +kernel)) ggL_wear_X5_wear
theorem dL_wear_0 : decode cL_wear 0 = .ok (.aload 4, 2) := by decide +kernel
theorem dL_wear_2 : decode cL_wear 2 = .ok (.iconst 0, 1) := by decide +kernel
theorem dL_wear_3 : decode cL_wear 3 = .ok (.aload_n 0, 1) := by decide +kernel
theorem dL_wear_4 : decode cL_wear 4 = .ok (.iload_n 1, 1) := by decide +kernel
theorem dL_wear_5 : decode cL_wear 5 = .ok (.iload_n 2, 1) := by decide +kernel
theorem dL_wear_6 : decode cL_wear 6 = .ok (.iload_n 3, 1) := by decide +kernel
theorem dL_wear_7 : decode cL_wear 7 = .ok (.invokevirtual 34, 3) := by decide +kernel
theorem dL_wear_10 : decode cL_wear 10 = .ok (.i2l, 1) := by decide +kernel
theorem dL_wear_11 : decode cL_wear 11 = .ok (.lastore, 1) := by decide +kernel
theorem dL_wear_12 : decode cL_wear 12 = .ok (.goto 7, 3) := by decide +kernel
theorem dL_wear_15 : decode cL_wear 15 = .ok (.astore 5, 2) := by decide +kernel
theorem dL_wear_17 : decode cL_wear 17 = .ok (.iconst 1, 1) := by decide +kernel
theorem dL_wear_18 : decode cL_wear 18 = .ok (.ireturn, 1) := by decide +kernel
theorem dL_wear_19 : decode cL_wear 19 = .ok (.iconst 0, 1) := by decide +kernel
theorem dL_wear_20 : decode cL_wear 20 = .ok (.ireturn, 1) := by decide +kernel
set_option maxRecDepth 20000 in
theorem ggL_ofGame_X5_ofGame : GoodIn wsL_ofGame wsX5_ofGame := goodIn_ca (goodIn_ca (goodIn_r _ [7, 8, 9, 10, 11, 12, 13, 14, 15, 16, 17, 18, 19, 6, 20, 21, 22, 23, 24, 25, 26, 27, 28, 29, 30, 31, 32, 33, 34, 35, 36, 37, 38, 39, 40, 41, 42, 43, 44, 45, 46, 47, 48, 49, 50, 51, 52, 53] (by decide +kernel) (by decide +kernel)) (goodIn_sub (fun _ h => List.mem_cons_of_mem _ (List.mem_append_left _ (List.mem_append_right _ h))) (by decide +kernel))) (goodIn_sub (fun _ h => List.mem_cons_of_mem _ (List.mem_append_right _ h)) (by decide +kernel))
set_option maxRecDepth 20000 in
theorem gL_ofGame_X5_ofGame : GoodIn wsL_ofGame (wsV RL 38 RX5 yX5_ofGame wsX5_ofGame) := goodIn_app (goodIn_of _ (by decide +kernel)) ggL_ofGame_X5_ofGame
theorem dL_ofGame_0 : decode cL_ofGame 0 = .ok (.aload_n 3, 1) := by decide +kernel
theorem dL_ofGame_1 : decode cL_ofGame 1 = .ok (.iconst 0, 1) := by decide +kernel
theorem dL_ofGame_2 : decode cL_ofGame 2 = .ok (.aload_n 0, 1) := by decide +kernel
theorem dL_ofGame_3 : decode cL_ofGame 3 = .ok (.iload_n 1, 1) := by decide +kernel
theorem dL_ofGame_4 : decode cL_ofGame 4 = .ok (.iload_n 2, 1) := by decide +kernel
theorem dL_ofGame_5 : decode cL_ofGame 5 = .ok (.invokevirtual 38, 3) := by decide +kernel
theorem dL_ofGame_8 : decode cL_ofGame 8 = .ok (.i2l, 1) := by decide +kernel
theorem dL_ofGame_9 : decode cL_ofGame 9 = .ok (.lastore, 1) := by decide +kernel
theorem dL_ofGame_10 : decode cL_ofGame 10 = .ok (.goto 11, 3) := by decide +kernel
theorem dL_ofGame_13 : decode cL_ofGame 13 = .ok (.astore 4, 2) := by decide +kernel
theorem dL_ofGame_15 : decode cL_ofGame 15 = .ok (.iconst 1, 1) := by decide +kernel
theorem dL_ofGame_16 : decode cL_ofGame 16 = .ok (.ireturn, 1) := by decide +kernel
theorem dL_ofGame_17 : decode cL_ofGame 17 = .ok (.astore 4, 2) := by decide +kernel
theorem dL_ofGame_19 : decode cL_ofGame 19 = .ok (.iconst 2, 1) := by decide +kernel
theorem dL_ofGame_20 : decode cL_ofGame 20 = .ok (.ireturn, 1) := by decide +kernel
theorem dL_ofGame_21 : decode cL_ofGame 21 = .ok (.iconst 0, 1) := by decide +kernel
theorem dL_ofGame_22 : decode cL_ofGame 22 = .ok (.ireturn, 1) := by decide +kernel
set_option maxRecDepth 20000 in
theorem ggL_stone_X5_stone : GoodIn wsL_stone wsX5_stone := goodIn_ca (goodIn_r _ [6, 7, 8, 9, 10, 11, 12, 5, 13, 14, 15, 16, 17, 18, 19, 20, 21, 22, 23, 24, 25, 26, 27, 28, 29, 30, 31, 32, 33, 34, 35, 36, 37, 38, 39, 40, 41, 42, 43, 44, 45, 46] (by decide +kernel) (by decide +kernel)) (goodIn_sub (fun _ h => List.mem_cons_of_mem _ (List.mem_append_right _ h)) (by decide +kernel))
set_option maxRecDepth 20000 in
theorem gL_stone_X5_stone : GoodIn wsL_stone (wsV RL 41 RX5 yX5_stone wsX5_stone) := goodIn_app (goodIn_of _ (by decide +kernel)) ggL_stone_X5_stone
theorem dL_stone_0 : decode cL_stone 0 = .ok (.aload 4, 2) := by decide +kernel
theorem dL_stone_2 : decode cL_stone 2 = .ok (.iconst 0, 1) := by decide +kernel
theorem dL_stone_3 : decode cL_stone 3 = .ok (.aload_n 0, 1) := by decide +kernel
theorem dL_stone_4 : decode cL_stone 4 = .ok (.iload_n 1, 1) := by decide +kernel
theorem dL_stone_5 : decode cL_stone 5 = .ok (.iload_n 2, 1) := by decide +kernel
theorem dL_stone_6 : decode cL_stone 6 = .ok (.iload_n 3, 1) := by decide +kernel
theorem dL_stone_7 : decode cL_stone 7 = .ok (.invokevirtual 41, 3) := by decide +kernel
theorem dL_stone_10 : decode cL_stone 10 = .ok (.i2l, 1) := by decide +kernel
theorem dL_stone_11 : decode cL_stone 11 = .ok (.lastore, 1) := by decide +kernel
theorem dL_stone_12 : decode cL_stone 12 = .ok (.goto 7, 3) := by decide +kernel
theorem dL_stone_15 : decode cL_stone 15 = .ok (.astore 5, 2) := by decide +kernel
theorem dL_stone_17 : decode cL_stone 17 = .ok (.iconst 1, 1) := by decide +kernel
theorem dL_stone_18 : decode cL_stone 18 = .ok (.ireturn, 1) := by decide +kernel
theorem dL_stone_19 : decode cL_stone 19 = .ok (.iconst 0, 1) := by decide +kernel
theorem dL_stone_20 : decode cL_stone 20 = .ok (.ireturn, 1) := by decide +kernel
set_option maxRecDepth 20000 in
theorem ggL_wouldScore_X5_wouldScore : GoodIn wsL_wouldScore wsX5_wouldScore := goodIn_ca (goodIn_r _ [6, 7, 8, 9, 10, 5, 11, 12, 13, 14, 15, 16, 17, 18, 19, 20, 21, 22, 23, 24, 25, 26, 27, 28, 29, 30, 31, 32, 33, 34, 35, 36, 37, 38, 39, 40, 41, 42, 43, 44, 45, 46, 47, 48, 49, 50, 51, 52, 53, 54, 55, 56, 57, 58, 59, 60, 61, 62, 63, 64, 65] (by decide +kernel) (by decide +kernel)) (goodIn_sub (fun _ h => List.mem_cons_of_mem _ (List.mem_append_right _ h)) (by decide +kernel))
set_option maxRecDepth 20000 in
theorem gL_wouldScore_X5_wouldScore : GoodIn wsL_wouldScore (wsV RL 44 RX5 yX5_wouldScore wsX5_wouldScore) := goodIn_app (goodIn_of _ (by decide +kernel)) ggL_wouldScore_X5_wouldScore
theorem dL_wouldScore_0 : decode cL_wouldScore 0 = .ok (.aload_n 2, 1) := by decide +kernel
theorem dL_wouldScore_1 : decode cL_wouldScore 1 = .ok (.iconst 0, 1) := by decide +kernel
theorem dL_wouldScore_2 : decode cL_wouldScore 2 = .ok (.aload_n 0, 1) := by decide +kernel
theorem dL_wouldScore_3 : decode cL_wouldScore 3 = .ok (.iload_n 1, 1) := by decide +kernel
theorem dL_wouldScore_4 : decode cL_wouldScore 4 = .ok (.invokevirtual 44, 3) := by decide +kernel
theorem dL_wouldScore_7 : decode cL_wouldScore 7 = .ok (.i2l, 1) := by decide +kernel
theorem dL_wouldScore_8 : decode cL_wouldScore 8 = .ok (.lastore, 1) := by decide +kernel
theorem dL_wouldScore_9 : decode cL_wouldScore 9 = .ok (.goto 6, 3) := by decide +kernel
theorem dL_wouldScore_12 : decode cL_wouldScore 12 = .ok (.astore_n 3, 1) := by decide +kernel
theorem dL_wouldScore_13 : decode cL_wouldScore 13 = .ok (.iconst 1, 1) := by decide +kernel
theorem dL_wouldScore_14 : decode cL_wouldScore 14 = .ok (.ireturn, 1) := by decide +kernel
theorem dL_wouldScore_15 : decode cL_wouldScore 15 = .ok (.iconst 0, 1) := by decide +kernel
theorem dL_wouldScore_16 : decode cL_wouldScore 16 = .ok (.ireturn, 1) := by decide +kernel
set_option maxRecDepth 20000 in
theorem ggL_wouldScoreAnew_X5_wouldScoreAnew : GoodIn wsL_wouldScoreAnew wsX5_wouldScoreAnew := goodIn_ca (goodIn_r _ [6, 7, 8, 9, 10, 5, 11, 12, 13, 14, 15, 16, 17, 18, 19, 20, 21, 22, 23, 24, 25, 26, 27, 28, 29, 30, 31, 32, 33, 34, 35, 36, 37, 38, 39, 40, 41, 42, 43, 44, 45, 46, 47, 48, 49, 50, 51, 52, 53, 54, 55, 56, 57, 58, 59, 60] (by decide +kernel) (by decide +kernel)) (goodIn_sub (fun _ h => List.mem_cons_of_mem _ (List.mem_append_right _ h)) (by decide +kernel))
set_option maxRecDepth 20000 in
theorem gL_wouldScoreAnew_X5_wouldScoreAnew : GoodIn wsL_wouldScoreAnew (wsV RL 47 RX5 yX5_wouldScoreAnew wsX5_wouldScoreAnew) := goodIn_app (goodIn_of _ (by decide +kernel)) ggL_wouldScoreAnew_X5_wouldScoreAnew
theorem dL_wouldScoreAnew_0 : decode cL_wouldScoreAnew 0 = .ok (.aload_n 2, 1) := by decide +kernel
theorem dL_wouldScoreAnew_1 : decode cL_wouldScoreAnew 1 = .ok (.iconst 0, 1) := by decide +kernel
theorem dL_wouldScoreAnew_2 : decode cL_wouldScoreAnew 2 = .ok (.aload_n 0, 1) := by decide +kernel
theorem dL_wouldScoreAnew_3 : decode cL_wouldScoreAnew 3 = .ok (.iload_n 1, 1) := by decide +kernel
theorem dL_wouldScoreAnew_4 : decode cL_wouldScoreAnew 4 = .ok (.invokevirtual 47, 3) := by decide +kernel
theorem dL_wouldScoreAnew_7 : decode cL_wouldScoreAnew 7 = .ok (.i2l, 1) := by decide +kernel
theorem dL_wouldScoreAnew_8 : decode cL_wouldScoreAnew 8 = .ok (.lastore, 1) := by decide +kernel
theorem dL_wouldScoreAnew_9 : decode cL_wouldScoreAnew 9 = .ok (.goto 6, 3) := by decide +kernel
theorem dL_wouldScoreAnew_12 : decode cL_wouldScoreAnew 12 = .ok (.astore_n 3, 1) := by decide +kernel
theorem dL_wouldScoreAnew_13 : decode cL_wouldScoreAnew 13 = .ok (.iconst 1, 1) := by decide +kernel
theorem dL_wouldScoreAnew_14 : decode cL_wouldScoreAnew 14 = .ok (.ireturn, 1) := by decide +kernel
theorem dL_wouldScoreAnew_15 : decode cL_wouldScoreAnew 15 = .ok (.iconst 0, 1) := by decide +kernel
theorem dL_wouldScoreAnew_16 : decode cL_wouldScoreAnew 16 = .ok (.ireturn, 1) := by decide +kernel
set_option maxRecDepth 20000 in
theorem ggL_tries_X5_tries : GoodIn wsL_tries wsX5_tries := goodIn_ca (goodIn_ca (goodIn_ca (goodIn_r _ [8, 9, 10, 11, 12, 13, 14, 15, 16, 17, 18, 7, 19, 20, 21, 22, 23, 24, 25, 26, 27, 28, 29, 30, 31, 32, 33, 34, 35, 36, 37, 38, 39, 40, 41, 42, 43, 44, 45, 46, 47, 48, 49, 50, 51, 52, 53, 54, 55, 56, 57, 58, 59, 60, 61, 62, 63, 64, 65, 66, 67, 68, 69, 70, 71, 72, 73, 74, 75, 76, 77, 78, 79, 80, 81, 82, 83, 84, 85, 86, 87, 88, 89, 90, 91, 92, 93, 94, 95, 96, 97, 98, 99, 100, 101, 102, 103, 104, 105, 106, 107, 108, 109, 110, 111, 112, 113, 114, 115, 116, 117, 118, 119, 120, 121, 122, 123, 124, 125, 126, 127, 128, 129, 130, 131, 132, 133, 134, 135, 136, 137, 138, 139, 140, 141, 142, 143, 144, 145, 146, 147, 148, 149, 150, 151, 152, 153, 154, 155, 156, 157, 158, 159, 160, 161] (by decide +kernel) (by decide +kernel)) (goodIn_sub (fun _ h => List.mem_cons_of_mem _ (List.mem_append_left _ (List.mem_append_left _ (List.mem_append_right _ h)))) (by decide +kernel))) (goodIn_sub (fun _ h => List.mem_cons_of_mem _ (List.mem_append_left _ (List.mem_append_right _ h))) (by decide +kernel))) (goodIn_sub (fun _ h => List.mem_cons_of_mem _ (List.mem_append_right _ h)) (by decide +kernel))
set_option maxRecDepth 20000 in
theorem gL_tries_X5_tries : GoodIn wsL_tries (wsV RL 50 RX5 yX5_tries wsX5_tries) := goodIn_app (goodIn_of _ (by decide +kernel)) ggL_tries_X5_tries
theorem dL_tries_0 : decode cL_tries 0 = .ok (.aload 7, 2) := by decide +kernel
theorem dL_tries_2 : decode cL_tries 2 = .ok (.iconst 0, 1) := by decide +kernel
theorem dL_tries_3 : decode cL_tries 3 = .ok (.aload_n 0, 1) := by decide +kernel
theorem dL_tries_4 : decode cL_tries 4 = .ok (.iload_n 1, 1) := by decide +kernel
theorem dL_tries_5 : decode cL_tries 5 = .ok (.iload_n 2, 1) := by decide +kernel
theorem dL_tries_6 : decode cL_tries 6 = .ok (.iload_n 3, 1) := by decide +kernel
theorem dL_tries_7 : decode cL_tries 7 = .ok (.iload 4, 2) := by decide +kernel
theorem dL_tries_9 : decode cL_tries 9 = .ok (.iload 5, 2) := by decide +kernel
theorem dL_tries_11 : decode cL_tries 11 = .ok (.iload 6, 2) := by decide +kernel
theorem dL_tries_13 : decode cL_tries 13 = .ok (.invokevirtual 50, 3) := by decide +kernel
theorem dL_tries_16 : decode cL_tries 16 = .ok (.i2l, 1) := by decide +kernel
theorem dL_tries_17 : decode cL_tries 17 = .ok (.lastore, 1) := by decide +kernel
theorem dL_tries_18 : decode cL_tries 18 = .ok (.goto 15, 3) := by decide +kernel
theorem dL_tries_21 : decode cL_tries 21 = .ok (.astore 8, 2) := by decide +kernel
theorem dL_tries_23 : decode cL_tries 23 = .ok (.iconst 1, 1) := by decide +kernel
theorem dL_tries_24 : decode cL_tries 24 = .ok (.ireturn, 1) := by decide +kernel
theorem dL_tries_25 : decode cL_tries 25 = .ok (.astore 8, 2) := by decide +kernel
theorem dL_tries_27 : decode cL_tries 27 = .ok (.iconst 2, 1) := by decide +kernel
theorem dL_tries_28 : decode cL_tries 28 = .ok (.ireturn, 1) := by decide +kernel
theorem dL_tries_29 : decode cL_tries 29 = .ok (.astore 8, 2) := by decide +kernel
theorem dL_tries_31 : decode cL_tries 31 = .ok (.iconst 3, 1) := by decide +kernel
theorem dL_tries_32 : decode cL_tries 32 = .ok (.ireturn, 1) := by decide +kernel
theorem dL_tries_33 : decode cL_tries 33 = .ok (.iconst 0, 1) := by decide +kernel
theorem dL_tries_34 : decode cL_tries 34 = .ok (.ireturn, 1) := by decide +kernel
set_option maxRecDepth 20000 in
theorem ggL_advice_X5_advice : GoodIn wsL_advice wsX5_advice := goodIn_ca (goodIn_ca (goodIn_r _ [7, 8, 9, 10, 11, 12, 13, 6, 14, 15, 16, 17, 18, 19, 20, 21, 22, 23, 24, 25, 26, 27, 28, 29, 30, 31, 32, 33, 34, 35, 36, 37, 38, 39, 40, 41, 42, 43, 44, 45, 46, 47, 48, 49, 50, 51, 52, 53, 54, 55, 56, 57, 58, 59, 60, 61, 62, 63, 64, 65, 66, 67, 68, 69, 70, 71, 72, 73, 74, 75, 76, 77, 78, 79, 80, 81, 82, 83, 84, 85, 86, 87, 88, 89, 90, 91, 92, 93, 94, 95, 96, 97, 98, 99, 100, 101, 102, 103, 104, 105, 106, 107, 108, 109, 110, 111, 112, 113, 114, 115, 116, 117, 118, 119, 120, 121, 122, 123, 124, 125, 126, 127, 128, 129, 130, 131, 132, 133, 134, 135, 136, 137, 138, 139, 140, 141, 142, 143, 144, 145, 146, 147, 148, 149, 150, 151, 152, 153, 154, 155, 156, 157, 158, 159, 160, 161, 162, 163, 164, 165, 166, 167, 168, 169, 170, 171, 172, 173, 174, 175, 176, 177, 178, 179, 180, 181, 182, 183] (by decide +kernel) (by decide +kernel)) (goodIn_sub (fun _ h => List.mem_cons_of_mem _ (List.mem_append_left _ (List.mem_append_right _ h))) (by decide +kernel))) (goodIn_sub (fun _ h => List.mem_cons_of_mem _ (List.mem_append_right _ h)) (by decide +kernel))
set_option maxRecDepth 20000 in
theorem gL_advice_X5_advice : GoodIn wsL_advice (wsV RL 53 RX5 yX5_advice wsX5_advice) := goodIn_app (goodIn_of _ (by decide +kernel)) ggL_advice_X5_advice
theorem dL_advice_0 : decode cL_advice 0 = .ok (.aload_n 2, 1) := by decide +kernel
theorem dL_advice_1 : decode cL_advice 1 = .ok (.iconst 0, 1) := by decide +kernel
theorem dL_advice_2 : decode cL_advice 2 = .ok (.aload_n 0, 1) := by decide +kernel
theorem dL_advice_3 : decode cL_advice 3 = .ok (.iload_n 1, 1) := by decide +kernel
theorem dL_advice_4 : decode cL_advice 4 = .ok (.invokevirtual 53, 3) := by decide +kernel
theorem dL_advice_7 : decode cL_advice 7 = .ok (.i2l, 1) := by decide +kernel
theorem dL_advice_8 : decode cL_advice 8 = .ok (.lastore, 1) := by decide +kernel
theorem dL_advice_9 : decode cL_advice 9 = .ok (.goto 9, 3) := by decide +kernel
theorem dL_advice_12 : decode cL_advice 12 = .ok (.astore_n 3, 1) := by decide +kernel
theorem dL_advice_13 : decode cL_advice 13 = .ok (.iconst 1, 1) := by decide +kernel
theorem dL_advice_14 : decode cL_advice 14 = .ok (.ireturn, 1) := by decide +kernel
theorem dL_advice_15 : decode cL_advice 15 = .ok (.astore_n 3, 1) := by decide +kernel
theorem dL_advice_16 : decode cL_advice 16 = .ok (.iconst 2, 1) := by decide +kernel
theorem dL_advice_17 : decode cL_advice 17 = .ok (.ireturn, 1) := by decide +kernel
theorem dL_advice_18 : decode cL_advice 18 = .ok (.iconst 0, 1) := by decide +kernel
theorem dL_advice_19 : decode cL_advice 19 = .ok (.ireturn, 1) := by decide +kernel
set_option maxRecDepth 20000 in
theorem ggL_standing_X5_standing : GoodIn wsL_standing wsX5_standing := goodIn_ca (goodIn_r _ [6, 7, 8, 9, 10, 5, 11, 12, 13, 14, 15, 16, 17, 18, 19, 20, 21, 22, 23, 24, 25, 26, 27, 28, 29, 30, 31, 32, 33, 34, 35, 36, 37, 38, 39, 40, 41, 42, 43, 44] (by decide +kernel) (by decide +kernel)) (goodIn_sub (fun _ h => List.mem_cons_of_mem _ (List.mem_append_right _ h)) (by decide +kernel))
set_option maxRecDepth 20000 in
theorem gL_standing_X5_standing : GoodIn wsL_standing (wsV RL 56 RX5 yX5_standing wsX5_standing) := goodIn_app (goodIn_of _ (by decide +kernel)) ggL_standing_X5_standing
theorem dL_standing_0 : decode cL_standing 0 = .ok (.aload_n 2, 1) := by decide +kernel
theorem dL_standing_1 : decode cL_standing 1 = .ok (.iconst 0, 1) := by decide +kernel
theorem dL_standing_2 : decode cL_standing 2 = .ok (.aload_n 0, 1) := by decide +kernel
theorem dL_standing_3 : decode cL_standing 3 = .ok (.iload_n 1, 1) := by decide +kernel
theorem dL_standing_4 : decode cL_standing 4 = .ok (.invokevirtual 56, 3) := by decide +kernel
theorem dL_standing_7 : decode cL_standing 7 = .ok (.i2l, 1) := by decide +kernel
theorem dL_standing_8 : decode cL_standing 8 = .ok (.lastore, 1) := by decide +kernel
theorem dL_standing_9 : decode cL_standing 9 = .ok (.goto 6, 3) := by decide +kernel
theorem dL_standing_12 : decode cL_standing 12 = .ok (.astore_n 3, 1) := by decide +kernel
theorem dL_standing_13 : decode cL_standing 13 = .ok (.iconst 1, 1) := by decide +kernel
theorem dL_standing_14 : decode cL_standing 14 = .ok (.ireturn, 1) := by decide +kernel
theorem dL_standing_15 : decode cL_standing 15 = .ok (.iconst 0, 1) := by decide +kernel
theorem dL_standing_16 : decode cL_standing 16 = .ok (.ireturn, 1) := by decide +kernel
set_option maxRecDepth 20000 in
theorem ggL_ofTeam_X5_ofTeam : GoodIn wsL_ofTeam wsX5_ofTeam := goodIn_ca (goodIn_ca (goodIn_r _ [7, 8, 9, 10, 11, 12, 13, 14, 15, 6, 16, 17, 18, 19, 20, 21, 22, 23, 24, 25, 26, 27, 28, 29, 30, 31] (by decide +kernel) (by decide +kernel)) (goodIn_sub (fun _ h => List.mem_cons_of_mem _ (List.mem_append_left _ (List.mem_append_right _ h))) (by decide +kernel))) (goodIn_sub (fun _ h => List.mem_cons_of_mem _ (List.mem_append_right _ h)) (by decide +kernel))
set_option maxRecDepth 20000 in
theorem gL_ofTeam_X5_ofTeam : GoodIn wsL_ofTeam (wsV RL 59 RX5 yX5_ofTeam wsX5_ofTeam) := goodIn_app (goodIn_of _ (by decide +kernel)) ggL_ofTeam_X5_ofTeam
theorem dL_ofTeam_0 : decode cL_ofTeam 0 = .ok (.aload_n 3, 1) := by decide +kernel
theorem dL_ofTeam_1 : decode cL_ofTeam 1 = .ok (.iconst 0, 1) := by decide +kernel
theorem dL_ofTeam_2 : decode cL_ofTeam 2 = .ok (.aload_n 0, 1) := by decide +kernel
theorem dL_ofTeam_3 : decode cL_ofTeam 3 = .ok (.iload_n 1, 1) := by decide +kernel
theorem dL_ofTeam_4 : decode cL_ofTeam 4 = .ok (.iload_n 2, 1) := by decide +kernel
theorem dL_ofTeam_5 : decode cL_ofTeam 5 = .ok (.invokevirtual 59, 3) := by decide +kernel
theorem dL_ofTeam_8 : decode cL_ofTeam 8 = .ok (.i2l, 1) := by decide +kernel
theorem dL_ofTeam_9 : decode cL_ofTeam 9 = .ok (.lastore, 1) := by decide +kernel
theorem dL_ofTeam_10 : decode cL_ofTeam 10 = .ok (.goto 11, 3) := by decide +kernel
theorem dL_ofTeam_13 : decode cL_ofTeam 13 = .ok (.astore 4, 2) := by decide +kernel
theorem dL_ofTeam_15 : decode cL_ofTeam 15 = .ok (.iconst 1, 1) := by decide +kernel
theorem dL_ofTeam_16 : decode cL_ofTeam 16 = .ok (.ireturn, 1) := by decide +kernel
theorem dL_ofTeam_17 : decode cL_ofTeam 17 = .ok (.astore 4, 2) := by decide +kernel
theorem dL_ofTeam_19 : decode cL_ofTeam 19 = .ok (.iconst 2, 1) := by decide +kernel
theorem dL_ofTeam_20 : decode cL_ofTeam 20 = .ok (.ireturn, 1) := by decide +kernel
theorem dL_ofTeam_21 : decode cL_ofTeam 21 = .ok (.iconst 0, 1) := by decide +kernel
theorem dL_ofTeam_22 : decode cL_ofTeam 22 = .ok (.ireturn, 1) := by decide +kernel
set_option maxRecDepth 20000 in
theorem ggL_law_X5_init : GoodIn wsL_law wsX5_init := goodIn_r _ [9, 10, 11, 12, 13, 14, 15, 16, 17, 18, 19, 20, 21, 22, 23, 24, 25, 26, 27, 28, 29, 30, 31, 32, 33, 34, 35, 36, 37, 38, 39, 40, 41, 42, 43, 44, 45, 46, 47, 48, 49, 50, 51, 52, 53, 54, 55, 607, 608, 609, 610, 611, 612, 613, 614, 615, 644, 645, 646, 647, 648, 649, 650, 651, 652, 653, 654, 655, 656, 657, 658, 659, 660] (by decide +kernel) (by decide +kernel)
set_option maxRecDepth 20000 in
theorem gL_law_X5_init : GoodIn wsL_law (wsX5_init) := ggL_law_X5_init
set_option maxRecDepth 20000 in
theorem ggL_law_X6_init : GoodIn wsL_law wsX6_init := goodIn_r _ [58, 59, 11, 12, 60, 61, 32, 62, 63, 64, 65, 66, 67, 68, 69, 70, 71, 72, 73, 74, 75, 76, 77, 78, 79, 80, 81, 82, 83, 84, 616, 617, 618, 619, 620, 621, 622, 623, 624, 625, 626, 627, 628, 629, 630, 631, 632, 633, 634, 635, 636, 637, 638, 639, 640, 641, 642, 643] (by decide +kernel) (by decide +kernel)
set_option maxRecDepth 20000 in
theorem gL_law_X6_init : GoodIn wsL_law (wsX6_init) := ggL_law_X6_init
set_option maxRecDepth 20000 in
theorem ggL_law_L_plan : GoodIn wsL_law wsL_plan := goodIn_ca (goodIn_ca (goodIn_ca (goodIn_r _ [88, 89, 90, 91, 92, 93, 94, 2, 95, 96, 97, 98, 99, 100, 101, 102, 103, 22, 21, 104, 105, 106, 107, 108, 109, 110, 111, 112, 11, 12, 113, 43, 44, 114, 115, 116, 117, 118, 119, 120, 121, 122, 48, 49, 50, 32, 51, 52, 53, 54, 55, 607, 608, 609, 610, 611, 612, 613, 614, 615, 661, 662, 663, 664, 665, 666, 667, 668, 669, 670, 671, 672, 673, 660] (by decide +kernel) (by decide +kernel)) (goodIn_sub (fun _ h => List.mem_append_left _ (List.mem_append_left _ (List.mem_append_right _ h))) (by decide +kernel))) (goodIn_sub (fun _ h => List.mem_append_left _ (List.mem_append_right _ h)) (by decide +kernel))) (goodIn_sub (fun _ h => List.mem_append_right _ h) (by decide +kernel))
