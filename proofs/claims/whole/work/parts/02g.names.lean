theorem dX6_goes_373 : decode cX6_goes 373 = .ok (.iload 18, 2) := by decide +kernel
theorem dX6_goes_375 : decode cX6_goes 375 = .ok (.ifCond .eq 8, 3) := by decide +kernel
theorem dX6_goes_378 : decode cX6_goes 378 = .ok (.iload 11, 2) := by decide +kernel
theorem dX6_goes_380 : decode cX6_goes 380 = .ok (.goto 4, 3) := by decide +kernel
theorem dX6_goes_383 : decode cX6_goes 383 = .ok (.iconst 0, 1) := by decide +kernel
theorem dX6_goes_384 : decode cX6_goes 384 = .ok (.iadd, 1) := by decide +kernel
theorem dX6_goes_385 : decode cX6_goes 385 = .ok (.istore 8, 2) := by decide +kernel
theorem dX6_goes_387 : decode cX6_goes 387 = .ok (.iconst 0, 1) := by decide +kernel
theorem dX6_goes_388 : decode cX6_goes 388 = .ok (.istore 16, 2) := by decide +kernel
theorem dX6_goes_390 : decode cX6_goes 390 = .ok (.goto (-334), 3) := by decide +kernel
theorem dX6_goes_393 : decode cX6_goes 393 = .ok (.aload_n 0, 1) := by decide +kernel
theorem dX6_goes_394 : decode cX6_goes 394 = .ok (.getfield 75, 3) := by decide +kernel
theorem dX6_goes_397 : decode cX6_goes 397 = .ok (.iload 7, 2) := by decide +kernel
theorem dX6_goes_399 : decode cX6_goes 399 = .ok (.iload 17, 2) := by decide +kernel
theorem dX6_goes_401 : decode cX6_goes 401 = .ok (.ifCond .ne 10, 3) := by decide +kernel
theorem dX6_goes_404 : decode cX6_goes 404 = .ok (.iload 9, 2) := by decide +kernel
theorem dX6_goes_406 : decode cX6_goes 406 = .ok (.bipush 30, 2) := by decide +kernel
theorem dX6_goes_408 : decode cX6_goes 408 = .ok (.if_icmp .ge 7, 3) := by decide +kernel
theorem dX6_goes_411 : decode cX6_goes 411 = .ok (.iconst (-1), 1) := by decide +kernel
theorem dX6_goes_412 : decode cX6_goes 412 = .ok (.goto 11, 3) := by decide +kernel
theorem dX6_goes_415 : decode cX6_goes 415 = .ok (.bipush 100, 2) := by decide +kernel
theorem dX6_goes_417 : decode cX6_goes 417 = .ok (.iload 8, 2) := by decide +kernel
theorem dX6_goes_419 : decode cX6_goes 419 = .ok (.imul, 1) := by decide +kernel
theorem dX6_goes_420 : decode cX6_goes 420 = .ok (.iload 9, 2) := by decide +kernel
theorem dX6_goes_422 : decode cX6_goes 422 = .ok (.iadd, 1) := by decide +kernel
theorem dX6_goes_423 : decode cX6_goes 423 = .ok (.iastore, 1) := by decide +kernel
theorem dX6_goes_424 : decode cX6_goes 424 = .ok (.iload 14, 2) := by decide +kernel
theorem dX6_goes_426 : decode cX6_goes 426 = .ok (.istore 7, 2) := by decide +kernel
theorem dX6_goes_428 : decode cX6_goes 428 = .ok (.iload 14, 2) := by decide +kernel
theorem dX6_goes_430 : decode cX6_goes 430 = .ok (.iconst (-1), 1) := by decide +kernel
theorem dX6_goes_431 : decode cX6_goes 431 = .ok (.if_icmp .eq 40, 3) := by decide +kernel
theorem dX6_goes_434 : decode cX6_goes 434 = .ok (.aload_n 0, 1) := by decide +kernel
theorem dX6_goes_435 : decode cX6_goes 435 = .ok (.getfield 75, 3) := by decide +kernel
theorem dX6_goes_438 : decode cX6_goes 438 = .ok (.iload 14, 2) := by decide +kernel
theorem dX6_goes_440 : decode cX6_goes 440 = .ok (.iaload, 1) := by decide +kernel
theorem dX6_goes_441 : decode cX6_goes 441 = .ok (.bipush 100, 2) := by decide +kernel
theorem dX6_goes_443 : decode cX6_goes 443 = .ok (.idiv, 1) := by decide +kernel
theorem dX6_goes_444 : decode cX6_goes 444 = .ok (.istore 8, 2) := by decide +kernel
theorem dX6_goes_446 : decode cX6_goes 446 = .ok (.aload_n 0, 1) := by decide +kernel
theorem dX6_goes_447 : decode cX6_goes 447 = .ok (.getfield 75, 3) := by decide +kernel
theorem dX6_goes_450 : decode cX6_goes 450 = .ok (.iload 14, 2) := by decide +kernel
theorem dX6_goes_452 : decode cX6_goes 452 = .ok (.iaload, 1) := by decide +kernel
theorem dX6_goes_453 : decode cX6_goes 453 = .ok (.bipush 100, 2) := by decide +kernel
theorem dX6_goes_455 : decode cX6_goes 455 = .ok (.irem, 1) := by decide +kernel
theorem dX6_goes_456 : decode cX6_goes 456 = .ok (.istore 9, 2) := by decide +kernel
theorem dX6_goes_458 : decode cX6_goes 458 = .ok (.iload 15, 2) := by decide +kernel
theorem dX6_goes_460 : decode cX6_goes 460 = .ok (.istore 10, 2) := by decide +kernel
theorem dX6_goes_462 : decode cX6_goes 462 = .ok (.iconst 0, 1) := by decide +kernel
theorem dX6_goes_463 : decode cX6_goes 463 = .ok (.istore 11, 2) := by decide +kernel
theorem dX6_goes_465 : decode cX6_goes 465 = .ok (.iconst 1, 1) := by decide +kernel
theorem dX6_goes_466 : decode cX6_goes 466 = .ok (.istore 12, 2) := by decide +kernel
theorem dX6_goes_468 : decode cX6_goes 468 = .ok (.iconst 0, 1) := by decide +kernel
theorem dX6_goes_469 : decode cX6_goes 469 = .ok (.istore 13, 2) := by decide +kernel
theorem dX6_goes_471 : decode cX6_goes 471 = .ok (.goto (-444), 3) := by decide +kernel
theorem dX6_goes_474 : decode cX6_goes 474 = .ok (.return_, 1) := by decide +kernel
theorem dX6_distance_0 : decode cX6_distance 0 = .ok (.iload_n 0, 1) := by decide +kernel
theorem dX6_distance_1 : decode cX6_distance 1 = .ok (.bipush 100, 2) := by decide +kernel
theorem dX6_distance_3 : decode cX6_distance 3 = .ok (.idiv, 1) := by decide +kernel
theorem dX6_distance_4 : decode cX6_distance 4 = .ok (.iconst 4, 1) := by decide +kernel
theorem dX6_distance_5 : decode cX6_distance 5 = .ok (.isub, 1) := by decide +kernel
theorem dX6_distance_6 : decode cX6_distance 6 = .ok (.istore_n 1, 1) := by decide +kernel
theorem dX6_distance_7 : decode cX6_distance 7 = .ok (.iload_n 0, 1) := by decide +kernel
theorem dX6_distance_8 : decode cX6_distance 8 = .ok (.bipush 100, 2) := by decide +kernel
theorem dX6_distance_10 : decode cX6_distance 10 = .ok (.irem, 1) := by decide +kernel
theorem dX6_distance_11 : decode cX6_distance 11 = .ok (.bipush 50, 2) := by decide +kernel
theorem dX6_distance_13 : decode cX6_distance 13 = .ok (.isub, 1) := by decide +kernel
theorem dX6_distance_14 : decode cX6_distance 14 = .ok (.istore_n 2, 1) := by decide +kernel
theorem dX6_distance_15 : decode cX6_distance 15 = .ok (.iload_n 0, 1) := by decide +kernel
theorem dX6_distance_16 : decode cX6_distance 16 = .ok (.iconst (-1), 1) := by decide +kernel
theorem dX6_distance_17 : decode cX6_distance 17 = .ok (.if_icmp .ne 9, 3) := by decide +kernel
theorem dX6_distance_20 : decode cX6_distance 20 = .ok (.sipush 1000, 3) := by decide +kernel
theorem dX6_distance_23 : decode cX6_distance 23 = .ok (.goto 26, 3) := by decide +kernel
theorem dX6_distance_26 : decode cX6_distance 26 = .ok (.iconst 2, 1) := by decide +kernel
theorem dX6_distance_27 : decode cX6_distance 27 = .ok (.iload_n 1, 1) := by decide +kernel
theorem dX6_distance_28 : decode cX6_distance 28 = .ok (.ifCond .ge 8, 3) := by decide +kernel
theorem dX6_distance_31 : decode cX6_distance 31 = .ok (.iload_n 1, 1) := by decide +kernel
theorem dX6_distance_32 : decode cX6_distance 32 = .ok (.ineg, 1) := by decide +kernel
theorem dX6_distance_33 : decode cX6_distance 33 = .ok (.goto 4, 3) := by decide +kernel
theorem dX6_distance_36 : decode cX6_distance 36 = .ok (.iload_n 1, 1) := by decide +kernel
theorem dX6_distance_37 : decode cX6_distance 37 = .ok (.imul, 1) := by decide +kernel
theorem dX6_distance_38 : decode cX6_distance 38 = .ok (.iload_n 2, 1) := by decide +kernel
theorem dX6_distance_39 : decode cX6_distance 39 = .ok (.ifCond .ge 8, 3) := by decide +kernel
theorem dX6_distance_42 : decode cX6_distance 42 = .ok (.iload_n 2, 1) := by decide +kernel
theorem dX6_distance_43 : decode cX6_distance 43 = .ok (.ineg, 1) := by decide +kernel
theorem dX6_distance_44 : decode cX6_distance 44 = .ok (.goto 4, 3) := by decide +kernel
theorem dX6_distance_47 : decode cX6_distance 47 = .ok (.iload_n 2, 1) := by decide +kernel
theorem dX6_distance_48 : decode cX6_distance 48 = .ok (.iadd, 1) := by decide +kernel
theorem dX6_distance_49 : decode cX6_distance 49 = .ok (.ireturn, 1) := by decide +kernel
set_option maxRecDepth 20000 in
theorem ggX6_scored_X6_distance : GoodIn wsX6_scored wsX6_distance := goodIn_r _ [5] (by decide +kernel) (by decide +kernel)
set_option maxRecDepth 20000 in
theorem gX6_scored_X6_distance : GoodIn wsX6_scored (va_wsS RX6 115 yX6_distance wsX6_distance) := goodIn_app (goodIn_of _ (by decide +kernel)) ggX6_scored_X6_distance
theorem dX6_scored_0 : decode cX6_scored 0 = .ok (.bipush 11, 2) := by decide +kernel
theorem dX6_scored_2 : decode cX6_scored 2 = .ok (.istore_n 1, 1) := by decide +kernel
theorem dX6_scored_3 : decode cX6_scored 3 = .ok (.bipush 11, 2) := by decide +kernel
theorem dX6_scored_5 : decode cX6_scored 5 = .ok (.istore_n 2, 1) := by decide +kernel
theorem dX6_scored_6 : decode cX6_scored 6 = .ok (.iconst 0, 1) := by decide +kernel
theorem dX6_scored_7 : decode cX6_scored 7 = .ok (.istore_n 3, 1) := by decide +kernel
theorem dX6_scored_8 : decode cX6_scored 8 = .ok (.iload_n 3, 1) := by decide +kernel
theorem dX6_scored_9 : decode cX6_scored 9 = .ok (.bipush 6, 2) := by decide +kernel
theorem dX6_scored_11 : decode cX6_scored 11 = .ok (.if_icmp .ge 56, 3) := by decide +kernel
theorem dX6_scored_14 : decode cX6_scored 14 = .ok (.aload_n 0, 1) := by decide +kernel
theorem dX6_scored_15 : decode cX6_scored 15 = .ok (.getfield 75, 3) := by decide +kernel
theorem dX6_scored_18 : decode cX6_scored 18 = .ok (.iload_n 3, 1) := by decide +kernel
theorem dX6_scored_19 : decode cX6_scored 19 = .ok (.iaload, 1) := by decide +kernel
theorem dX6_scored_20 : decode cX6_scored 20 = .ok (.invokestatic 115, 3) := by decide +kernel
theorem dX6_scored_23 : decode cX6_scored 23 = .ok (.istore 4, 2) := by decide +kernel
theorem dX6_scored_25 : decode cX6_scored 25 = .ok (.iload_n 3, 1) := by decide +kernel
theorem dX6_scored_26 : decode cX6_scored 26 = .ok (.iconst 3, 1) := by decide +kernel
theorem dX6_scored_27 : decode cX6_scored 27 = .ok (.if_icmp .ge 14, 3) := by decide +kernel
theorem dX6_scored_30 : decode cX6_scored 30 = .ok (.iload 4, 2) := by decide +kernel
theorem dX6_scored_32 : decode cX6_scored 32 = .ok (.iload_n 1, 1) := by decide +kernel
theorem dX6_scored_33 : decode cX6_scored 33 = .ok (.if_icmp .ge 8, 3) := by decide +kernel
theorem dX6_scored_36 : decode cX6_scored 36 = .ok (.iload 4, 2) := by decide +kernel
theorem dX6_scored_38 : decode cX6_scored 38 = .ok (.goto 4, 3) := by decide +kernel
theorem dX6_scored_41 : decode cX6_scored 41 = .ok (.iload_n 1, 1) := by decide +kernel
theorem dX6_scored_42 : decode cX6_scored 42 = .ok (.istore_n 1, 1) := by decide +kernel
theorem dX6_scored_43 : decode cX6_scored 43 = .ok (.iload_n 3, 1) := by decide +kernel
theorem dX6_scored_44 : decode cX6_scored 44 = .ok (.iconst 3, 1) := by decide +kernel
theorem dX6_scored_45 : decode cX6_scored 45 = .ok (.if_icmp .lt 14, 3) := by decide +kernel
theorem dX6_scored_48 : decode cX6_scored 48 = .ok (.iload 4, 2) := by decide +kernel
theorem dX6_scored_50 : decode cX6_scored 50 = .ok (.iload_n 2, 1) := by decide +kernel
theorem dX6_scored_51 : decode cX6_scored 51 = .ok (.if_icmp .ge 8, 3) := by decide +kernel
theorem dX6_scored_54 : decode cX6_scored 54 = .ok (.iload 4, 2) := by decide +kernel
theorem dX6_scored_56 : decode cX6_scored 56 = .ok (.goto 4, 3) := by decide +kernel
theorem dX6_scored_59 : decode cX6_scored 59 = .ok (.iload_n 2, 1) := by decide +kernel
theorem dX6_scored_60 : decode cX6_scored 60 = .ok (.istore_n 2, 1) := by decide +kernel
theorem dX6_scored_61 : decode cX6_scored 61 = .ok (.iinc 3 1, 3) := by decide +kernel
theorem dX6_scored_64 : decode cX6_scored 64 = .ok (.goto (-56), 3) := by decide +kernel
theorem dX6_scored_67 : decode cX6_scored 67 = .ok (.iconst 0, 1) := by decide +kernel
theorem dX6_scored_68 : decode cX6_scored 68 = .ok (.istore_n 3, 1) := by decide +kernel
theorem dX6_scored_69 : decode cX6_scored 69 = .ok (.iconst 0, 1) := by decide +kernel
theorem dX6_scored_70 : decode cX6_scored 70 = .ok (.istore 4, 2) := by decide +kernel
theorem dX6_scored_72 : decode cX6_scored 72 = .ok (.iload 4, 2) := by decide +kernel
theorem dX6_scored_74 : decode cX6_scored 74 = .ok (.bipush 6, 2) := by decide +kernel
theorem dX6_scored_76 : decode cX6_scored 76 = .ok (.if_icmp .ge 71, 3) := by decide +kernel
theorem dX6_scored_79 : decode cX6_scored 79 = .ok (.aload_n 0, 1) := by decide +kernel
theorem dX6_scored_80 : decode cX6_scored 80 = .ok (.getfield 75, 3) := by decide +kernel
theorem dX6_scored_83 : decode cX6_scored 83 = .ok (.iload 4, 2) := by decide +kernel
theorem dX6_scored_85 : decode cX6_scored 85 = .ok (.iaload, 1) := by decide +kernel
theorem dX6_scored_86 : decode cX6_scored 86 = .ok (.invokestatic 115, 3) := by decide +kernel
theorem dX6_scored_89 : decode cX6_scored 89 = .ok (.istore 5, 2) := by decide +kernel
theorem dX6_scored_91 : decode cX6_scored 91 = .ok (.iload_n 3, 1) := by decide +kernel
theorem dX6_scored_92 : decode cX6_scored 92 = .ok (.iload_n 1, 1) := by decide +kernel
theorem dX6_scored_93 : decode cX6_scored 93 = .ok (.iload_n 2, 1) := by decide +kernel
theorem dX6_scored_94 : decode cX6_scored 94 = .ok (.if_icmp .ge 19, 3) := by decide +kernel
theorem dX6_scored_97 : decode cX6_scored 97 = .ok (.iload 4, 2) := by decide +kernel
theorem dX6_scored_99 : decode cX6_scored 99 = .ok (.iconst 3, 1) := by decide +kernel
theorem dX6_scored_100 : decode cX6_scored 100 = .ok (.if_icmp .ge 13, 3) := by decide +kernel
theorem dX6_scored_103 : decode cX6_scored 103 = .ok (.iload 5, 2) := by decide +kernel
theorem dX6_scored_105 : decode cX6_scored 105 = .ok (.iload_n 2, 1) := by decide +kernel
theorem dX6_scored_106 : decode cX6_scored 106 = .ok (.if_icmp .ge 7, 3) := by decide +kernel
theorem dX6_scored_109 : decode cX6_scored 109 = .ok (.iconst 1, 1) := by decide +kernel
theorem dX6_scored_110 : decode cX6_scored 110 = .ok (.goto 4, 3) := by decide +kernel
theorem dX6_scored_113 : decode cX6_scored 113 = .ok (.iconst 0, 1) := by decide +kernel
theorem dX6_scored_114 : decode cX6_scored 114 = .ok (.iadd, 1) := by decide +kernel
theorem dX6_scored_115 : decode cX6_scored 115 = .ok (.istore_n 3, 1) := by decide +kernel
theorem dX6_scored_116 : decode cX6_scored 116 = .ok (.iload_n 3, 1) := by decide +kernel
theorem dX6_scored_117 : decode cX6_scored 117 = .ok (.iload_n 2, 1) := by decide +kernel
theorem dX6_scored_118 : decode cX6_scored 118 = .ok (.iload_n 1, 1) := by decide +kernel
theorem dX6_scored_119 : decode cX6_scored 119 = .ok (.if_icmp .ge 19, 3) := by decide +kernel
theorem dX6_scored_122 : decode cX6_scored 122 = .ok (.iload 4, 2) := by decide +kernel
theorem dX6_scored_124 : decode cX6_scored 124 = .ok (.iconst 3, 1) := by decide +kernel
theorem dX6_scored_125 : decode cX6_scored 125 = .ok (.if_icmp .lt 13, 3) := by decide +kernel
theorem dX6_scored_128 : decode cX6_scored 128 = .ok (.iload 5, 2) := by decide +kernel
theorem dX6_scored_130 : decode cX6_scored 130 = .ok (.iload_n 1, 1) := by decide +kernel
theorem dX6_scored_131 : decode cX6_scored 131 = .ok (.if_icmp .ge 7, 3) := by decide +kernel
theorem dX6_scored_134 : decode cX6_scored 134 = .ok (.iconst 1, 1) := by decide +kernel
theorem dX6_scored_135 : decode cX6_scored 135 = .ok (.goto 4, 3) := by decide +kernel
theorem dX6_scored_138 : decode cX6_scored 138 = .ok (.iconst 0, 1) := by decide +kernel
theorem dX6_scored_139 : decode cX6_scored 139 = .ok (.isub, 1) := by decide +kernel
theorem dX6_scored_140 : decode cX6_scored 140 = .ok (.istore_n 3, 1) := by decide +kernel
theorem dX6_scored_141 : decode cX6_scored 141 = .ok (.iinc 4 1, 3) := by decide +kernel
theorem dX6_scored_144 : decode cX6_scored 144 = .ok (.goto (-72), 3) := by decide +kernel
theorem dX6_scored_147 : decode cX6_scored 147 = .ok (.iload_n 3, 1) := by decide +kernel
theorem dX6_scored_148 : decode cX6_scored 148 = .ok (.ireturn, 1) := by decide +kernel
theorem dX6_turnOf_0 : decode cX6_turnOf 0 = .ok (.aload_n 0, 1) := by decide +kernel
theorem dX6_turnOf_1 : decode cX6_turnOf 1 = .ok (.getfield 51, 3) := by decide +kernel
theorem dX6_turnOf_4 : decode cX6_turnOf 4 = .ok (.iload_n 1, 1) := by decide +kernel
theorem dX6_turnOf_5 : decode cX6_turnOf 5 = .ok (.iaload, 1) := by decide +kernel
theorem dX6_turnOf_6 : decode cX6_turnOf 6 = .ok (.iconst 2, 1) := by decide +kernel
theorem dX6_turnOf_7 : decode cX6_turnOf 7 = .ok (.irem, 1) := by decide +kernel
theorem dX6_turnOf_8 : decode cX6_turnOf 8 = .ok (.istore_n 2, 1) := by decide +kernel
theorem dX6_turnOf_9 : decode cX6_turnOf 9 = .ok (.aload_n 0, 1) := by decide +kernel
theorem dX6_turnOf_10 : decode cX6_turnOf 10 = .ok (.getfield 27, 3) := by decide +kernel
theorem dX6_turnOf_13 : decode cX6_turnOf 13 = .ok (.iload_n 1, 1) := by decide +kernel
theorem dX6_turnOf_14 : decode cX6_turnOf 14 = .ok (.iaload, 1) := by decide +kernel
theorem dX6_turnOf_15 : decode cX6_turnOf 15 = .ok (.iconst 1, 1) := by decide +kernel
theorem dX6_turnOf_16 : decode cX6_turnOf 16 = .ok (.if_icmp .ne 12, 3) := by decide +kernel
theorem dX6_turnOf_19 : decode cX6_turnOf 19 = .ok (.aload_n 0, 1) := by decide +kernel
theorem dX6_turnOf_20 : decode cX6_turnOf 20 = .ok (.getfield 51, 3) := by decide +kernel
theorem dX6_turnOf_23 : decode cX6_turnOf 23 = .ok (.iload_n 1, 1) := by decide +kernel
theorem dX6_turnOf_24 : decode cX6_turnOf 24 = .ok (.iaload, 1) := by decide +kernel
theorem dX6_turnOf_25 : decode cX6_turnOf 25 = .ok (.goto 33, 3) := by decide +kernel
theorem dX6_turnOf_28 : decode cX6_turnOf 28 = .ok (.aload_n 0, 1) := by decide +kernel
theorem dX6_turnOf_29 : decode cX6_turnOf 29 = .ok (.getfield 27, 3) := by decide +kernel
theorem dX6_turnOf_32 : decode cX6_turnOf 32 = .ok (.iload_n 1, 1) := by decide +kernel
theorem dX6_turnOf_33 : decode cX6_turnOf 33 = .ok (.iaload, 1) := by decide +kernel
theorem dX6_turnOf_34 : decode cX6_turnOf 34 = .ok (.iconst 2, 1) := by decide +kernel
theorem dX6_turnOf_35 : decode cX6_turnOf 35 = .ok (.if_icmp .ne 22, 3) := by decide +kernel
theorem dX6_turnOf_38 : decode cX6_turnOf 38 = .ok (.aload_n 0, 1) := by decide +kernel
theorem dX6_turnOf_39 : decode cX6_turnOf 39 = .ok (.getfield 54, 3) := by decide +kernel
theorem dX6_turnOf_42 : decode cX6_turnOf 42 = .ok (.iload_n 1, 1) := by decide +kernel
theorem dX6_turnOf_43 : decode cX6_turnOf 43 = .ok (.iaload, 1) := by decide +kernel
theorem dX6_turnOf_44 : decode cX6_turnOf 44 = .ok (.ifCond .ne 9, 3) := by decide +kernel
theorem dX6_turnOf_47 : decode cX6_turnOf 47 = .ok (.iconst 1, 1) := by decide +kernel
theorem dX6_turnOf_48 : decode cX6_turnOf 48 = .ok (.iload_n 2, 1) := by decide +kernel
theorem dX6_turnOf_49 : decode cX6_turnOf 49 = .ok (.isub, 1) := by decide +kernel
theorem dX6_turnOf_50 : decode cX6_turnOf 50 = .ok (.goto 8, 3) := by decide +kernel
theorem dX6_turnOf_53 : decode cX6_turnOf 53 = .ok (.iload_n 2, 1) := by decide +kernel
theorem dX6_turnOf_54 : decode cX6_turnOf 54 = .ok (.goto 4, 3) := by decide +kernel
theorem dX6_turnOf_57 : decode cX6_turnOf 57 = .ok (.iconst (-1), 1) := by decide +kernel
theorem dX6_turnOf_58 : decode cX6_turnOf 58 = .ok (.ireturn, 1) := by decide +kernel
set_option maxRecDepth 20000 in
theorem ggX6_slotOf_X6_turnOf : GoodIn wsX6_slotOf wsX6_turnOf := goodIn_r _ [7, 2, 1, 8, 9, 10, 11, 12, 13, 14, 15, 16, 17, 18, 19, 20, 21, 22, 23, 24, 25, 26, 27, 28, 29, 30, 31, 32, 33, 34, 35, 36] (by decide +kernel) (by decide +kernel)
set_option maxRecDepth 20000 in
theorem gX6_slotOf_X6_turnOf : GoodIn wsX6_slotOf (wsV RX6 119 RX6 yX6_turnOf wsX6_turnOf) := goodIn_app (goodIn_of _ (by decide +kernel)) ggX6_slotOf_X6_turnOf
theorem dX6_slotOf_0 : decode cX6_slotOf 0 = .ok (.iconst 3, 1) := by decide +kernel
theorem dX6_slotOf_1 : decode cX6_slotOf 1 = .ok (.aload_n 0, 1) := by decide +kernel
theorem dX6_slotOf_2 : decode cX6_slotOf 2 = .ok (.iload_n 1, 1) := by decide +kernel
theorem dX6_slotOf_3 : decode cX6_slotOf 3 = .ok (.invokevirtual 119, 3) := by decide +kernel
theorem dX6_slotOf_6 : decode cX6_slotOf 6 = .ok (.imul, 1) := by decide +kernel
theorem dX6_slotOf_7 : decode cX6_slotOf 7 = .ok (.aload_n 0, 1) := by decide +kernel
theorem dX6_slotOf_8 : decode cX6_slotOf 8 = .ok (.getfield 27, 3) := by decide +kernel
theorem dX6_slotOf_11 : decode cX6_slotOf 11 = .ok (.iload_n 1, 1) := by decide +kernel
theorem dX6_slotOf_12 : decode cX6_slotOf 12 = .ok (.iaload, 1) := by decide +kernel
theorem dX6_slotOf_13 : decode cX6_slotOf 13 = .ok (.iconst 2, 1) := by decide +kernel
theorem dX6_slotOf_14 : decode cX6_slotOf 14 = .ok (.if_icmp .ne 14, 3) := by decide +kernel
theorem dX6_slotOf_17 : decode cX6_slotOf 17 = .ok (.aload_n 0, 1) := by decide +kernel
theorem dX6_slotOf_18 : decode cX6_slotOf 18 = .ok (.getfield 51, 3) := by decide +kernel
theorem dX6_slotOf_21 : decode cX6_slotOf 21 = .ok (.iload_n 1, 1) := by decide +kernel
theorem dX6_slotOf_22 : decode cX6_slotOf 22 = .ok (.iaload, 1) := by decide +kernel
theorem dX6_slotOf_23 : decode cX6_slotOf 23 = .ok (.iconst 2, 1) := by decide +kernel
theorem dX6_slotOf_24 : decode cX6_slotOf 24 = .ok (.idiv, 1) := by decide +kernel
theorem dX6_slotOf_25 : decode cX6_slotOf 25 = .ok (.goto 4, 3) := by decide +kernel
theorem dX6_slotOf_28 : decode cX6_slotOf 28 = .ok (.iconst 0, 1) := by decide +kernel
theorem dX6_slotOf_29 : decode cX6_slotOf 29 = .ok (.iadd, 1) := by decide +kernel
theorem dX6_slotOf_30 : decode cX6_slotOf 30 = .ok (.ireturn, 1) := by decide +kernel
set_option maxRecDepth 20000 in
theorem ggX6_isShot_X6_in : GoodIn wsX6_isShot wsX6_in := goodIn_r _ [4] (by decide +kernel) (by decide +kernel)
set_option maxRecDepth 20000 in
theorem gX6_isShot_X6_in : GoodIn wsX6_isShot (va_wsS RX6 90 yX6_in wsX6_in) := goodIn_app (goodIn_of _ (by decide +kernel)) ggX6_isShot_X6_in
theorem dX6_isShot_0 : decode cX6_isShot 0 = .ok (.iload_n 0, 1) := by decide +kernel
theorem dX6_isShot_1 : decode cX6_isShot 1 = .ok (.iconst 0, 1) := by decide +kernel
theorem dX6_isShot_2 : decode cX6_isShot 2 = .ok (.bipush 8, 2) := by decide +kernel
theorem dX6_isShot_4 : decode cX6_isShot 4 = .ok (.invokestatic 90, 3) := by decide +kernel
theorem dX6_isShot_7 : decode cX6_isShot 7 = .ok (.ifCond .eq 48, 3) := by decide +kernel
theorem dX6_isShot_10 : decode cX6_isShot 10 = .ok (.iload_n 1, 1) := by decide +kernel
theorem dX6_isShot_11 : decode cX6_isShot 11 = .ok (.iconst 1, 1) := by decide +kernel
theorem dX6_isShot_12 : decode cX6_isShot 12 = .ok (.bipush 100, 2) := by decide +kernel
theorem dX6_isShot_14 : decode cX6_isShot 14 = .ok (.invokestatic 90, 3) := by decide +kernel
theorem dX6_isShot_17 : decode cX6_isShot 17 = .ok (.ifCond .eq 38, 3) := by decide +kernel
theorem dX6_isShot_20 : decode cX6_isShot 20 = .ok (.iload_n 2, 1) := by decide +kernel
theorem dX6_isShot_21 : decode cX6_isShot 21 = .ok (.iconst (-1), 1) := by decide +kernel
theorem dX6_isShot_22 : decode cX6_isShot 22 = .ok (.if_icmp .eq 8, 3) := by decide +kernel
theorem dX6_isShot_25 : decode cX6_isShot 25 = .ok (.iload_n 2, 1) := by decide +kernel
theorem dX6_isShot_26 : decode cX6_isShot 26 = .ok (.iconst 1, 1) := by decide +kernel
theorem dX6_isShot_27 : decode cX6_isShot 27 = .ok (.if_icmp .ne 28, 3) := by decide +kernel
theorem dX6_isShot_30 : decode cX6_isShot 30 = .ok (.iload_n 3, 1) := by decide +kernel
theorem dX6_isShot_31 : decode cX6_isShot 31 = .ok (.iconst 0, 1) := by decide +kernel
theorem dX6_isShot_32 : decode cX6_isShot 32 = .ok (.bipush 60, 2) := by decide +kernel
theorem dX6_isShot_34 : decode cX6_isShot 34 = .ok (.invokestatic 90, 3) := by decide +kernel
theorem dX6_isShot_37 : decode cX6_isShot 37 = .ok (.ifCond .eq 18, 3) := by decide +kernel
theorem dX6_isShot_40 : decode cX6_isShot 40 = .ok (.iload 4, 2) := by decide +kernel
theorem dX6_isShot_42 : decode cX6_isShot 42 = .ok (.iconst 0, 1) := by decide +kernel
theorem dX6_isShot_43 : decode cX6_isShot 43 = .ok (.bipush 60, 2) := by decide +kernel
theorem dX6_isShot_45 : decode cX6_isShot 45 = .ok (.invokestatic 90, 3) := by decide +kernel
theorem dX6_isShot_48 : decode cX6_isShot 48 = .ok (.ifCond .eq 7, 3) := by decide +kernel
theorem dX6_isShot_51 : decode cX6_isShot 51 = .ok (.iconst 1, 1) := by decide +kernel
theorem dX6_isShot_52 : decode cX6_isShot 52 = .ok (.goto 4, 3) := by decide +kernel
theorem dX6_isShot_55 : decode cX6_isShot 55 = .ok (.iconst 0, 1) := by decide +kernel
theorem dX6_isShot_56 : decode cX6_isShot 56 = .ok (.ireturn, 1) := by decide +kernel
theorem dX6_throwsAt_0 : decode cX6_throwsAt 0 = .ok (.aload_n 0, 1) := by decide +kernel
theorem dX6_throwsAt_1 : decode cX6_throwsAt 1 = .ok (.getfield 27, 3) := by decide +kernel
theorem dX6_throwsAt_4 : decode cX6_throwsAt 4 = .ok (.iload_n 1, 1) := by decide +kernel
theorem dX6_throwsAt_5 : decode cX6_throwsAt 5 = .ok (.iaload, 1) := by decide +kernel
theorem dX6_throwsAt_6 : decode cX6_throwsAt 6 = .ok (.iconst 1, 1) := by decide +kernel
theorem dX6_throwsAt_7 : decode cX6_throwsAt 7 = .ok (.if_icmp .eq 13, 3) := by decide +kernel
theorem dX6_throwsAt_10 : decode cX6_throwsAt 10 = .ok (.aload_n 0, 1) := by decide +kernel
theorem dX6_throwsAt_11 : decode cX6_throwsAt 11 = .ok (.getfield 27, 3) := by decide +kernel
theorem dX6_throwsAt_14 : decode cX6_throwsAt 14 = .ok (.iload_n 1, 1) := by decide +kernel
theorem dX6_throwsAt_15 : decode cX6_throwsAt 15 = .ok (.iaload, 1) := by decide +kernel
theorem dX6_throwsAt_16 : decode cX6_throwsAt 16 = .ok (.iconst 2, 1) := by decide +kernel
theorem dX6_throwsAt_17 : decode cX6_throwsAt 17 = .ok (.if_icmp .ne 7, 3) := by decide +kernel
theorem dX6_throwsAt_20 : decode cX6_throwsAt 20 = .ok (.iconst 1, 1) := by decide +kernel
theorem dX6_throwsAt_21 : decode cX6_throwsAt 21 = .ok (.goto 4, 3) := by decide +kernel
theorem dX6_throwsAt_24 : decode cX6_throwsAt 24 = .ok (.iconst 0, 1) := by decide +kernel
theorem dX6_throwsAt_25 : decode cX6_throwsAt 25 = .ok (.ireturn, 1) := by decide +kernel
set_option maxRecDepth 20000 in
theorem ggX6_ends_X6_scored : GoodIn wsX6_ends wsX6_scored := goodIn_r _ [16, 17, 18, 19, 15, 20, 21, 22, 23, 24, 25, 26, 27, 28, 29, 30, 31, 32, 33, 34, 35, 36, 37, 38, 39, 40, 41, 42, 43, 44, 45, 46, 47, 48] (by decide +kernel) (by decide +kernel)
set_option maxRecDepth 20000 in
theorem gX6_ends_X6_scored : GoodIn wsX6_ends (wsV RX6 122 RX6 yX6_scored wsX6_scored) := goodIn_app (goodIn_of _ (by decide +kernel)) ggX6_ends_X6_scored
theorem dX6_ends_0 : decode cX6_ends 0 = .ok (.aload_n 0, 1) := by decide +kernel
theorem dX6_ends_1 : decode cX6_ends 1 = .ok (.invokevirtual 122, 3) := by decide +kernel
theorem dX6_ends_4 : decode cX6_ends 4 = .ok (.istore_n 2, 1) := by decide +kernel
theorem dX6_ends_5 : decode cX6_ends 5 = .ok (.aload_n 0, 1) := by decide +kernel
theorem dX6_ends_6 : decode cX6_ends 6 = .ok (.getfield 45, 3) := by decide +kernel
theorem dX6_ends_9 : decode cX6_ends 9 = .ok (.iconst 2, 1) := by decide +kernel
theorem dX6_ends_10 : decode cX6_ends 10 = .ok (.iload_n 1, 1) := by decide +kernel
theorem dX6_ends_11 : decode cX6_ends 11 = .ok (.imul, 1) := by decide +kernel
theorem dX6_ends_12 : decode cX6_ends 12 = .ok (.dup2, 1) := by decide +kernel
theorem dX6_ends_13 : decode cX6_ends 13 = .ok (.iaload, 1) := by decide +kernel
theorem dX6_ends_14 : decode cX6_ends 14 = .ok (.iload_n 2, 1) := by decide +kernel
theorem dX6_ends_15 : decode cX6_ends 15 = .ok (.ifCond .le 7, 3) := by decide +kernel
theorem dX6_ends_18 : decode cX6_ends 18 = .ok (.iload_n 2, 1) := by decide +kernel
theorem dX6_ends_19 : decode cX6_ends 19 = .ok (.goto 4, 3) := by decide +kernel
theorem dX6_ends_22 : decode cX6_ends 22 = .ok (.iconst 0, 1) := by decide +kernel
theorem dX6_ends_23 : decode cX6_ends 23 = .ok (.iadd, 1) := by decide +kernel
theorem dX6_ends_24 : decode cX6_ends 24 = .ok (.iastore, 1) := by decide +kernel
theorem dX6_ends_25 : decode cX6_ends 25 = .ok (.aload_n 0, 1) := by decide +kernel
theorem dX6_ends_26 : decode cX6_ends 26 = .ok (.getfield 45, 3) := by decide +kernel
theorem dX6_ends_29 : decode cX6_ends 29 = .ok (.iconst 2, 1) := by decide +kernel
theorem dX6_ends_30 : decode cX6_ends 30 = .ok (.iload_n 1, 1) := by decide +kernel
theorem dX6_ends_31 : decode cX6_ends 31 = .ok (.imul, 1) := by decide +kernel
theorem dX6_ends_32 : decode cX6_ends 32 = .ok (.iconst 1, 1) := by decide +kernel
theorem dX6_ends_33 : decode cX6_ends 33 = .ok (.iadd, 1) := by decide +kernel
theorem dX6_ends_34 : decode cX6_ends 34 = .ok (.dup2, 1) := by decide +kernel
theorem dX6_ends_35 : decode cX6_ends 35 = .ok (.iaload, 1) := by decide +kernel
theorem dX6_ends_36 : decode cX6_ends 36 = .ok (.iload_n 2, 1) := by decide +kernel
theorem dX6_ends_37 : decode cX6_ends 37 = .ok (.ifCond .ge 7, 3) := by decide +kernel
theorem dX6_ends_40 : decode cX6_ends 40 = .ok (.iload_n 2, 1) := by decide +kernel
theorem dX6_ends_41 : decode cX6_ends 41 = .ok (.goto 4, 3) := by decide +kernel
theorem dX6_ends_44 : decode cX6_ends 44 = .ok (.iconst 0, 1) := by decide +kernel
theorem dX6_ends_45 : decode cX6_ends 45 = .ok (.isub, 1) := by decide +kernel
theorem dX6_ends_46 : decode cX6_ends 46 = .ok (.iastore, 1) := by decide +kernel
theorem dX6_ends_47 : decode cX6_ends 47 = .ok (.aload_n 0, 1) := by decide +kernel
theorem dX6_ends_48 : decode cX6_ends 48 = .ok (.getfield 54, 3) := by decide +kernel
theorem dX6_ends_51 : decode cX6_ends 51 = .ok (.iload_n 1, 1) := by decide +kernel
theorem dX6_ends_52 : decode cX6_ends 52 = .ok (.iload_n 2, 1) := by decide +kernel
theorem dX6_ends_53 : decode cX6_ends 53 = .ok (.ifCond .le 7, 3) := by decide +kernel
theorem dX6_ends_56 : decode cX6_ends 56 = .ok (.iconst 1, 1) := by decide +kernel
theorem dX6_ends_57 : decode cX6_ends 57 = .ok (.goto 17, 3) := by decide +kernel
theorem dX6_ends_60 : decode cX6_ends 60 = .ok (.iload_n 2, 1) := by decide +kernel
theorem dX6_ends_61 : decode cX6_ends 61 = .ok (.ifCond .ge 7, 3) := by decide +kernel
theorem dX6_ends_64 : decode cX6_ends 64 = .ok (.iconst 0, 1) := by decide +kernel
theorem dX6_ends_65 : decode cX6_ends 65 = .ok (.goto 9, 3) := by decide +kernel
theorem dX6_ends_68 : decode cX6_ends 68 = .ok (.aload_n 0, 1) := by decide +kernel
theorem dX6_ends_69 : decode cX6_ends 69 = .ok (.getfield 54, 3) := by decide +kernel
theorem dX6_ends_72 : decode cX6_ends 72 = .ok (.iload_n 1, 1) := by decide +kernel
theorem dX6_ends_73 : decode cX6_ends 73 = .ok (.iaload, 1) := by decide +kernel
theorem dX6_ends_74 : decode cX6_ends 74 = .ok (.iastore, 1) := by decide +kernel
theorem dX6_ends_75 : decode cX6_ends 75 = .ok (.aload_n 0, 1) := by decide +kernel
theorem dX6_ends_76 : decode cX6_ends 76 = .ok (.getfield 48, 3) := by decide +kernel
theorem dX6_ends_79 : decode cX6_ends 79 = .ok (.iload_n 1, 1) := by decide +kernel
theorem dX6_ends_80 : decode cX6_ends 80 = .ok (.dup2, 1) := by decide +kernel
theorem dX6_ends_81 : decode cX6_ends 81 = .ok (.iaload, 1) := by decide +kernel
theorem dX6_ends_82 : decode cX6_ends 82 = .ok (.iconst 1, 1) := by decide +kernel
theorem dX6_ends_83 : decode cX6_ends 83 = .ok (.iadd, 1) := by decide +kernel
theorem dX6_ends_84 : decode cX6_ends 84 = .ok (.iastore, 1) := by decide +kernel
theorem dX6_ends_85 : decode cX6_ends 85 = .ok (.aload_n 0, 1) := by decide +kernel
theorem dX6_ends_86 : decode cX6_ends 86 = .ok (.getfield 51, 3) := by decide +kernel
theorem dX6_ends_89 : decode cX6_ends 89 = .ok (.iload_n 1, 1) := by decide +kernel
theorem dX6_ends_90 : decode cX6_ends 90 = .ok (.iconst 0, 1) := by decide +kernel
theorem dX6_ends_91 : decode cX6_ends 91 = .ok (.iastore, 1) := by decide +kernel
theorem dX6_ends_92 : decode cX6_ends 92 = .ok (.iconst 0, 1) := by decide +kernel
theorem dX6_ends_93 : decode cX6_ends 93 = .ok (.istore_n 3, 1) := by decide +kernel
theorem dX6_ends_94 : decode cX6_ends 94 = .ok (.iload_n 3, 1) := by decide +kernel
theorem dX6_ends_95 : decode cX6_ends 95 = .ok (.bipush 6, 2) := by decide +kernel
theorem dX6_ends_97 : decode cX6_ends 97 = .ok (.if_icmp .ge 21, 3) := by decide +kernel
theorem dX6_ends_100 : decode cX6_ends 100 = .ok (.aload_n 0, 1) := by decide +kernel
theorem dX6_ends_101 : decode cX6_ends 101 = .ok (.getfield 60, 3) := by decide +kernel
theorem dX6_ends_104 : decode cX6_ends 104 = .ok (.bipush 6, 2) := by decide +kernel
theorem dX6_ends_106 : decode cX6_ends 106 = .ok (.iload_n 1, 1) := by decide +kernel
theorem dX6_ends_107 : decode cX6_ends 107 = .ok (.imul, 1) := by decide +kernel
theorem dX6_ends_108 : decode cX6_ends 108 = .ok (.iload_n 3, 1) := by decide +kernel
theorem dX6_ends_109 : decode cX6_ends 109 = .ok (.iadd, 1) := by decide +kernel
theorem dX6_ends_110 : decode cX6_ends 110 = .ok (.iconst (-1), 1) := by decide +kernel
theorem dX6_ends_111 : decode cX6_ends 111 = .ok (.iastore, 1) := by decide +kernel
theorem dX6_ends_112 : decode cX6_ends 112 = .ok (.iinc 3 1, 3) := by decide +kernel
theorem dX6_ends_115 : decode cX6_ends 115 = .ok (.goto (-21), 3) := by decide +kernel
theorem dX6_ends_118 : decode cX6_ends 118 = .ok (.aload_n 0, 1) := by decide +kernel
theorem dX6_ends_119 : decode cX6_ends 119 = .ok (.getfield 48, 3) := by decide +kernel
theorem dX6_ends_122 : decode cX6_ends 122 = .ok (.iload_n 1, 1) := by decide +kernel
theorem dX6_ends_123 : decode cX6_ends 123 = .ok (.iaload, 1) := by decide +kernel
theorem dX6_ends_124 : decode cX6_ends 124 = .ok (.iconst 4, 1) := by decide +kernel
theorem dX6_ends_125 : decode cX6_ends 125 = .ok (.if_icmp .ne 102, 3) := by decide +kernel
theorem dX6_ends_128 : decode cX6_ends 128 = .ok (.aload_n 0, 1) := by decide +kernel
theorem dX6_ends_129 : decode cX6_ends 129 = .ok (.getfield 27, 3) := by decide +kernel
theorem dX6_ends_132 : decode cX6_ends 132 = .ok (.iload_n 1, 1) := by decide +kernel
theorem dX6_ends_133 : decode cX6_ends 133 = .ok (.iconst 3, 1) := by decide +kernel
theorem dX6_ends_134 : decode cX6_ends 134 = .ok (.iastore, 1) := by decide +kernel
theorem dX6_ends_135 : decode cX6_ends 135 = .ok (.aload_n 0, 1) := by decide +kernel
theorem dX6_ends_136 : decode cX6_ends 136 = .ok (.getfield 24, 3) := by decide +kernel
theorem dX6_ends_139 : decode cX6_ends 139 = .ok (.aload_n 0, 1) := by decide +kernel
theorem dX6_ends_140 : decode cX6_ends 140 = .ok (.getfield 42, 3) := by decide +kernel
theorem dX6_ends_143 : decode cX6_ends 143 = .ok (.iload_n 1, 1) := by decide +kernel
theorem dX6_ends_144 : decode cX6_ends 144 = .ok (.iaload, 1) := by decide +kernel
theorem dX6_ends_145 : decode cX6_ends 145 = .ok (.iconst (-1), 1) := by decide +kernel
theorem dX6_ends_146 : decode cX6_ends 146 = .ok (.iastore, 1) := by decide +kernel
theorem dX6_ends_147 : decode cX6_ends 147 = .ok (.aload_n 0, 1) := by decide +kernel
theorem dX6_ends_148 : decode cX6_ends 148 = .ok (.getfield 63, 3) := by decide +kernel
theorem dX6_ends_151 : decode cX6_ends 151 = .ok (.aload_n 0, 1) := by decide +kernel
theorem dX6_ends_152 : decode cX6_ends 152 = .ok (.getfield 30, 3) := by decide +kernel
theorem dX6_ends_155 : decode cX6_ends 155 = .ok (.iload_n 1, 1) := by decide +kernel
theorem dX6_ends_156 : decode cX6_ends 156 = .ok (.iaload, 1) := by decide +kernel
theorem dX6_ends_157 : decode cX6_ends 157 = .ok (.dup2, 1) := by decide +kernel
theorem dX6_ends_158 : decode cX6_ends 158 = .ok (.iaload, 1) := by decide +kernel
theorem dX6_ends_159 : decode cX6_ends 159 = .ok (.aload_n 0, 1) := by decide +kernel
theorem dX6_ends_160 : decode cX6_ends 160 = .ok (.getfield 45, 3) := by decide +kernel
theorem dX6_ends_163 : decode cX6_ends 163 = .ok (.iconst 2, 1) := by decide +kernel
theorem dX6_ends_164 : decode cX6_ends 164 = .ok (.iload_n 1, 1) := by decide +kernel
theorem dX6_ends_165 : decode cX6_ends 165 = .ok (.imul, 1) := by decide +kernel
theorem dX6_ends_166 : decode cX6_ends 166 = .ok (.iaload, 1) := by decide +kernel
theorem dX6_ends_167 : decode cX6_ends 167 = .ok (.aload_n 0, 1) := by decide +kernel
theorem dX6_ends_168 : decode cX6_ends 168 = .ok (.getfield 45, 3) := by decide +kernel
theorem dX6_ends_171 : decode cX6_ends 171 = .ok (.iconst 2, 1) := by decide +kernel
theorem dX6_ends_172 : decode cX6_ends 172 = .ok (.iload_n 1, 1) := by decide +kernel
theorem dX6_ends_173 : decode cX6_ends 173 = .ok (.imul, 1) := by decide +kernel
theorem dX6_ends_174 : decode cX6_ends 174 = .ok (.iconst 1, 1) := by decide +kernel
theorem dX6_ends_175 : decode cX6_ends 175 = .ok (.iadd, 1) := by decide +kernel
theorem dX6_ends_176 : decode cX6_ends 176 = .ok (.iaload, 1) := by decide +kernel
theorem dX6_ends_177 : decode cX6_ends 177 = .ok (.if_icmp .le 7, 3) := by decide +kernel
theorem dX6_ends_180 : decode cX6_ends 180 = .ok (.iconst 1, 1) := by decide +kernel
theorem dX6_ends_181 : decode cX6_ends 181 = .ok (.goto 4, 3) := by decide +kernel
theorem dX6_ends_184 : decode cX6_ends 184 = .ok (.iconst 0, 1) := by decide +kernel
theorem dX6_ends_185 : decode cX6_ends 185 = .ok (.iadd, 1) := by decide +kernel
theorem dX6_ends_186 : decode cX6_ends 186 = .ok (.iastore, 1) := by decide +kernel
theorem dX6_ends_187 : decode cX6_ends 187 = .ok (.aload_n 0, 1) := by decide +kernel
theorem dX6_ends_188 : decode cX6_ends 188 = .ok (.getfield 63, 3) := by decide +kernel
theorem dX6_ends_191 : decode cX6_ends 191 = .ok (.aload_n 0, 1) := by decide +kernel
theorem dX6_ends_192 : decode cX6_ends 192 = .ok (.getfield 33, 3) := by decide +kernel
theorem dX6_ends_195 : decode cX6_ends 195 = .ok (.iload_n 1, 1) := by decide +kernel
theorem dX6_ends_196 : decode cX6_ends 196 = .ok (.iaload, 1) := by decide +kernel
theorem dX6_ends_197 : decode cX6_ends 197 = .ok (.dup2, 1) := by decide +kernel
theorem dX6_ends_198 : decode cX6_ends 198 = .ok (.iaload, 1) := by decide +kernel
theorem dX6_ends_199 : decode cX6_ends 199 = .ok (.aload_n 0, 1) := by decide +kernel
theorem dX6_ends_200 : decode cX6_ends 200 = .ok (.getfield 45, 3) := by decide +kernel
theorem dX6_ends_203 : decode cX6_ends 203 = .ok (.iconst 2, 1) := by decide +kernel
theorem dX6_ends_204 : decode cX6_ends 204 = .ok (.iload_n 1, 1) := by decide +kernel
theorem dX6_ends_205 : decode cX6_ends 205 = .ok (.imul, 1) := by decide +kernel
theorem dX6_ends_206 : decode cX6_ends 206 = .ok (.iaload, 1) := by decide +kernel
theorem dX6_ends_207 : decode cX6_ends 207 = .ok (.aload_n 0, 1) := by decide +kernel
theorem dX6_ends_208 : decode cX6_ends 208 = .ok (.getfield 45, 3) := by decide +kernel
theorem dX6_ends_211 : decode cX6_ends 211 = .ok (.iconst 2, 1) := by decide +kernel
theorem dX6_ends_212 : decode cX6_ends 212 = .ok (.iload_n 1, 1) := by decide +kernel
theorem dX6_ends_213 : decode cX6_ends 213 = .ok (.imul, 1) := by decide +kernel
theorem dX6_ends_214 : decode cX6_ends 214 = .ok (.iconst 1, 1) := by decide +kernel
theorem dX6_ends_215 : decode cX6_ends 215 = .ok (.iadd, 1) := by decide +kernel
theorem dX6_ends_216 : decode cX6_ends 216 = .ok (.iaload, 1) := by decide +kernel
theorem dX6_ends_217 : decode cX6_ends 217 = .ok (.if_icmp .ge 7, 3) := by decide +kernel
theorem dX6_ends_220 : decode cX6_ends 220 = .ok (.iconst 1, 1) := by decide +kernel
theorem dX6_ends_221 : decode cX6_ends 221 = .ok (.goto 4, 3) := by decide +kernel
theorem dX6_ends_224 : decode cX6_ends 224 = .ok (.iconst 0, 1) := by decide +kernel
theorem dX6_ends_225 : decode cX6_ends 225 = .ok (.iadd, 1) := by decide +kernel
theorem dX6_ends_226 : decode cX6_ends 226 = .ok (.iastore, 1) := by decide +kernel
theorem dX6_ends_227 : decode cX6_ends 227 = .ok (.return_, 1) := by decide +kernel
set_option maxRecDepth 20000 in
theorem ggX6_shoot_X6_isGame : GoodIn wsX6_shoot wsX6_isGame := goodIn_r _ [18, 19, 20, 21, 17, 22, 70, 71, 72, 73, 74, 75, 76, 77, 78, 79, 80, 81, 82, 83, 84, 85, 86, 87, 88, 89, 90, 91, 92, 93, 94, 95, 96, 97] (by decide +kernel) (by decide +kernel)
set_option maxRecDepth 20000 in
theorem gX6_shoot_X6_isGame : GoodIn wsX6_shoot (wsV RX6 126 RX6 yX6_isGame wsX6_isGame) := goodIn_app (goodIn_of _ (by decide +kernel)) ggX6_shoot_X6_isGame
set_option maxRecDepth 20000 in
theorem ggX6_shoot_X6_isShot : GoodIn wsX6_shoot wsX6_isShot := goodIn_r _ [25, 20, 21, 17, 22] (by decide +kernel) (by decide +kernel)
set_option maxRecDepth 20000 in
theorem gX6_shoot_X6_isShot : GoodIn wsX6_shoot (va_wsS RX6 129 yX6_isShot wsX6_isShot) := goodIn_app (goodIn_of _ (by decide +kernel)) ggX6_shoot_X6_isShot
set_option maxRecDepth 20000 in
theorem ggX6_shoot_X6_throwsAt : GoodIn wsX6_shoot wsX6_throwsAt := goodIn_r _ [29, 8, 70, 71, 72, 73, 74, 75, 76, 77, 78, 79, 80, 81, 82, 83, 84, 85, 86, 87, 88, 89, 90, 91, 92, 93, 94, 95, 96, 97] (by decide +kernel) (by decide +kernel)
set_option maxRecDepth 20000 in
theorem gX6_shoot_X6_throwsAt : GoodIn wsX6_shoot (wsV RX6 133 RX6 yX6_throwsAt wsX6_throwsAt) := goodIn_app (goodIn_of _ (by decide +kernel)) ggX6_shoot_X6_throwsAt
set_option maxRecDepth 20000 in
theorem ggX6_shoot_X6_asked__ : GoodIn wsX6_shoot wsX6_asked__ := goodIn_r _ [33, 34, 70, 71, 72, 73, 74, 75, 76, 77, 78, 79, 80, 81, 82, 83, 84, 85, 86, 87, 88, 89, 90, 91, 92, 93, 94, 95, 96, 97] (by decide +kernel) (by decide +kernel)
set_option maxRecDepth 20000 in
theorem gX6_shoot_X6_asked__ : GoodIn wsX6_shoot (wsV RX6 104 RX6 yX6_asked__ wsX6_asked__) := goodIn_app (goodIn_of _ (by decide +kernel)) ggX6_shoot_X6_asked__
set_option maxRecDepth 20000 in
theorem ggX6_shoot_X6_takesUp : GoodIn wsX6_shoot wsX6_takesUp := goodIn_r _ [38, 3, 1, 2, 4, 13, 70, 71, 72, 73, 74, 75, 76, 77, 78, 79, 80, 81, 82, 83, 84, 85, 86, 87, 88, 89, 90, 91, 92, 93, 94, 95, 96, 97] (by decide +kernel) (by decide +kernel)
set_option maxRecDepth 20000 in
theorem gX6_shoot_X6_takesUp : GoodIn wsX6_shoot (wsV RX6 136 RX6 yX6_takesUp wsX6_takesUp) := goodIn_app (goodIn_of _ (by decide +kernel)) ggX6_shoot_X6_takesUp
set_option maxRecDepth 20000 in
theorem ggX6_shoot_X6_slotOf : GoodIn wsX6_shoot wsX6_slotOf := goodIn_r _ [42, 8, 7, 43, 44, 45, 17, 46, 11, 70, 71, 72, 73, 74, 75, 76, 77, 78, 79, 80, 81, 82, 83, 84, 85, 86, 87, 88, 89, 90, 91, 92, 93, 94, 95, 96, 97] (by decide +kernel) (by decide +kernel)
set_option maxRecDepth 20000 in
theorem gX6_shoot_X6_slotOf : GoodIn wsX6_shoot (wsV RX6 140 RX6 yX6_slotOf wsX6_slotOf) := goodIn_app (goodIn_of _ (by decide +kernel)) ggX6_shoot_X6_slotOf
set_option maxRecDepth 20000 in
theorem ggX6_shoot_X6_goes : GoodIn wsX6_shoot wsX6_goes := goodIn_r _ [50, 4, 3, 20, 21, 17, 22, 51, 52, 53, 54, 70, 71, 72, 73, 74, 75, 76, 77, 78, 79, 80, 81, 82, 83, 84, 85, 86, 87, 88, 89, 90, 91, 92, 93, 94, 95, 96, 97] (by decide +kernel) (by decide +kernel)
set_option maxRecDepth 20000 in
theorem gX6_shoot_X6_goes : GoodIn wsX6_shoot (wsV RX6 143 RX6 yX6_goes wsX6_goes) := goodIn_app (goodIn_of _ (by decide +kernel)) ggX6_shoot_X6_goes
set_option maxRecDepth 20000 in
theorem ggX6_shoot_X6_turnOf : GoodIn wsX6_shoot wsX6_turnOf := goodIn_r _ [46, 7, 8, 11, 70, 71, 72, 73, 74, 75, 76, 77, 78, 79, 80, 81, 82, 83, 84, 85, 86, 87, 88, 89, 90, 91, 92, 93, 94, 95, 96, 97] (by decide +kernel) (by decide +kernel)
set_option maxRecDepth 20000 in
theorem gX6_shoot_X6_turnOf : GoodIn wsX6_shoot (wsV RX6 119 RX6 yX6_turnOf wsX6_turnOf) := goodIn_app (goodIn_of _ (by decide +kernel)) ggX6_shoot_X6_turnOf
set_option maxRecDepth 20000 in
theorem ggX6_shoot_X6_distance : GoodIn wsX6_shoot wsX6_distance := goodIn_r _ [57] (by decide +kernel) (by decide +kernel)
set_option maxRecDepth 20000 in
theorem gX6_shoot_X6_distance : GoodIn wsX6_shoot (va_wsS RX6 115 yX6_distance wsX6_distance) := goodIn_app (goodIn_of _ (by decide +kernel)) ggX6_shoot_X6_distance
set_option maxRecDepth 20000 in
theorem ggX6_shoot_X6_ends : GoodIn wsX6_shoot wsX6_ends := goodIn_r _ [61, 62, 11, 63, 7, 13, 8, 64, 2, 65, 5, 6, 66, 67, 68, 17, 69, 4, 55, 56, 57, 70, 71, 72, 73, 74, 75, 76, 77, 78, 79, 80, 81, 82, 83, 84, 85, 86, 87, 88, 89, 90, 91, 92, 93, 94, 95, 96, 97] (by decide +kernel) (by decide +kernel)
set_option maxRecDepth 20000 in
theorem gX6_shoot_X6_ends : GoodIn wsX6_shoot (wsV RX6 147 RX6 yX6_ends wsX6_ends) := goodIn_app (goodIn_of _ (by decide +kernel)) ggX6_shoot_X6_ends
theorem dX6_shoot_0 : decode cX6_shoot 0 = .ok (.aload_n 0, 1) := by decide +kernel
theorem dX6_shoot_1 : decode cX6_shoot 1 = .ok (.iload_n 1, 1) := by decide +kernel
theorem dX6_shoot_2 : decode cX6_shoot 2 = .ok (.invokevirtual 126, 3) := by decide +kernel
theorem dX6_shoot_5 : decode cX6_shoot 5 = .ok (.istore 7, 2) := by decide +kernel
theorem dX6_shoot_7 : decode cX6_shoot 7 = .ok (.aload_n 0, 1) := by decide +kernel
theorem dX6_shoot_8 : decode cX6_shoot 8 = .ok (.iload 7, 2) := by decide +kernel
theorem dX6_shoot_10 : decode cX6_shoot 10 = .ok (.iload_n 2, 1) := by decide +kernel
theorem dX6_shoot_11 : decode cX6_shoot 11 = .ok (.iload_n 3, 1) := by decide +kernel
theorem dX6_shoot_12 : decode cX6_shoot 12 = .ok (.iload 4, 2) := by decide +kernel
theorem dX6_shoot_14 : decode cX6_shoot 14 = .ok (.iload 5, 2) := by decide +kernel
theorem dX6_shoot_16 : decode cX6_shoot 16 = .ok (.iload 6, 2) := by decide +kernel
theorem dX6_shoot_18 : decode cX6_shoot 18 = .ok (.invokestatic 129, 3) := by decide +kernel
theorem dX6_shoot_21 : decode cX6_shoot 21 = .ok (.iload 7, 2) := by decide +kernel
theorem dX6_shoot_23 : decode cX6_shoot 23 = .ok (.ifCond .eq 15, 3) := by decide +kernel
theorem dX6_shoot_26 : decode cX6_shoot 26 = .ok (.aload_n 0, 1) := by decide +kernel
theorem dX6_shoot_27 : decode cX6_shoot 27 = .ok (.iload_n 1, 1) := by decide +kernel
theorem dX6_shoot_28 : decode cX6_shoot 28 = .ok (.invokevirtual 133, 3) := by decide +kernel
theorem dX6_shoot_31 : decode cX6_shoot 31 = .ok (.ifCond .eq 7, 3) := by decide +kernel
theorem dX6_shoot_34 : decode cX6_shoot 34 = .ok (.iconst 1, 1) := by decide +kernel
theorem dX6_shoot_35 : decode cX6_shoot 35 = .ok (.goto 4, 3) := by decide +kernel
theorem dX6_shoot_38 : decode cX6_shoot 38 = .ok (.iconst 0, 1) := by decide +kernel
theorem dX6_shoot_39 : decode cX6_shoot 39 = .ok (.invokevirtual 104, 3) := by decide +kernel
theorem dX6_shoot_42 : decode cX6_shoot 42 = .ok (.ifCond .ne 5, 3) := by decide +kernel
theorem dX6_shoot_45 : decode cX6_shoot 45 = .ok (.iconst 0, 1) := by decide +kernel
theorem dX6_shoot_46 : decode cX6_shoot 46 = .ok (.ireturn, 1) := by decide +kernel
theorem dX6_shoot_47 : decode cX6_shoot 47 = .ok (.aload_n 0, 1) := by decide +kernel
theorem dX6_shoot_48 : decode cX6_shoot 48 = .ok (.iload_n 1, 1) := by decide +kernel
theorem dX6_shoot_49 : decode cX6_shoot 49 = .ok (.invokevirtual 136, 3) := by decide +kernel
theorem dX6_shoot_52 : decode cX6_shoot 52 = .ok (.aload_n 0, 1) := by decide +kernel
theorem dX6_shoot_53 : decode cX6_shoot 53 = .ok (.iload_n 1, 1) := by decide +kernel
theorem dX6_shoot_54 : decode cX6_shoot 54 = .ok (.invokevirtual 140, 3) := by decide +kernel
theorem dX6_shoot_57 : decode cX6_shoot 57 = .ok (.istore 8, 2) := by decide +kernel
theorem dX6_shoot_59 : decode cX6_shoot 59 = .ok (.aload_n 0, 1) := by decide +kernel
theorem dX6_shoot_60 : decode cX6_shoot 60 = .ok (.iload 8, 2) := by decide +kernel
theorem dX6_shoot_62 : decode cX6_shoot 62 = .ok (.iload_n 2, 1) := by decide +kernel
theorem dX6_shoot_63 : decode cX6_shoot 63 = .ok (.iload_n 3, 1) := by decide +kernel
theorem dX6_shoot_64 : decode cX6_shoot 64 = .ok (.iload 4, 2) := by decide +kernel
theorem dX6_shoot_66 : decode cX6_shoot 66 = .ok (.iload 5, 2) := by decide +kernel
theorem dX6_shoot_68 : decode cX6_shoot 68 = .ok (.iload 6, 2) := by decide +kernel
theorem dX6_shoot_70 : decode cX6_shoot 70 = .ok (.invokevirtual 143, 3) := by decide +kernel
theorem dX6_shoot_73 : decode cX6_shoot 73 = .ok (.iconst 0, 1) := by decide +kernel
theorem dX6_shoot_74 : decode cX6_shoot 74 = .ok (.istore 9, 2) := by decide +kernel
theorem dX6_shoot_76 : decode cX6_shoot 76 = .ok (.iload 9, 2) := by decide +kernel
theorem dX6_shoot_78 : decode cX6_shoot 78 = .ok (.sipush 549, 3) := by decide +kernel
theorem dX6_shoot_81 : decode cX6_shoot 81 = .ok (.if_icmp .ge 34, 3) := by decide +kernel
theorem dX6_shoot_84 : decode cX6_shoot 84 = .ok (.aload_n 0, 1) := by decide +kernel
theorem dX6_shoot_85 : decode cX6_shoot 85 = .ok (.getfield 16, 3) := by decide +kernel
theorem dX6_shoot_88 : decode cX6_shoot 88 = .ok (.sipush 549, 3) := by decide +kernel
theorem dX6_shoot_91 : decode cX6_shoot 91 = .ok (.aload_n 0, 1) := by decide +kernel
theorem dX6_shoot_92 : decode cX6_shoot 92 = .ok (.getfield 42, 3) := by decide +kernel
theorem dX6_shoot_95 : decode cX6_shoot 95 = .ok (.iload_n 1, 1) := by decide +kernel
theorem dX6_shoot_96 : decode cX6_shoot 96 = .ok (.iaload, 1) := by decide +kernel
theorem dX6_shoot_97 : decode cX6_shoot 97 = .ok (.imul, 1) := by decide +kernel
theorem dX6_shoot_98 : decode cX6_shoot 98 = .ok (.iload 9, 2) := by decide +kernel
theorem dX6_shoot_100 : decode cX6_shoot 100 = .ok (.iadd, 1) := by decide +kernel
theorem dX6_shoot_101 : decode cX6_shoot 101 = .ok (.aload_n 0, 1) := by decide +kernel
theorem dX6_shoot_102 : decode cX6_shoot 102 = .ok (.getfield 72, 3) := by decide +kernel
theorem dX6_shoot_105 : decode cX6_shoot 105 = .ok (.iload 9, 2) := by decide +kernel
theorem dX6_shoot_107 : decode cX6_shoot 107 = .ok (.iaload, 1) := by decide +kernel
theorem dX6_shoot_108 : decode cX6_shoot 108 = .ok (.iastore, 1) := by decide +kernel
theorem dX6_shoot_109 : decode cX6_shoot 109 = .ok (.iinc 9 1, 3) := by decide +kernel
theorem dX6_shoot_112 : decode cX6_shoot 112 = .ok (.goto (-36), 3) := by decide +kernel
theorem dX6_shoot_115 : decode cX6_shoot 115 = .ok (.aload_n 0, 1) := by decide +kernel
theorem dX6_shoot_116 : decode cX6_shoot 116 = .ok (.getfield 75, 3) := by decide +kernel
theorem dX6_shoot_119 : decode cX6_shoot 119 = .ok (.iload 8, 2) := by decide +kernel
theorem dX6_shoot_121 : decode cX6_shoot 121 = .ok (.iaload, 1) := by decide +kernel
theorem dX6_shoot_122 : decode cX6_shoot 122 = .ok (.istore 9, 2) := by decide +kernel
theorem dX6_shoot_124 : decode cX6_shoot 124 = .ok (.aload_n 0, 1) := by decide +kernel
theorem dX6_shoot_125 : decode cX6_shoot 125 = .ok (.iload_n 1, 1) := by decide +kernel
theorem dX6_shoot_126 : decode cX6_shoot 126 = .ok (.invokevirtual 119, 3) := by decide +kernel
theorem dX6_shoot_129 : decode cX6_shoot 129 = .ok (.ifCond .ne 12, 3) := by decide +kernel
theorem dX6_shoot_132 : decode cX6_shoot 132 = .ok (.aload_n 0, 1) := by decide +kernel
theorem dX6_shoot_133 : decode cX6_shoot 133 = .ok (.getfield 30, 3) := by decide +kernel
theorem dX6_shoot_136 : decode cX6_shoot 136 = .ok (.iload_n 1, 1) := by decide +kernel
theorem dX6_shoot_137 : decode cX6_shoot 137 = .ok (.iaload, 1) := by decide +kernel
theorem dX6_shoot_138 : decode cX6_shoot 138 = .ok (.goto 9, 3) := by decide +kernel
theorem dX6_shoot_141 : decode cX6_shoot 141 = .ok (.aload_n 0, 1) := by decide +kernel
theorem dX6_shoot_142 : decode cX6_shoot 142 = .ok (.getfield 33, 3) := by decide +kernel
theorem dX6_shoot_145 : decode cX6_shoot 145 = .ok (.iload_n 1, 1) := by decide +kernel
theorem dX6_shoot_146 : decode cX6_shoot 146 = .ok (.iaload, 1) := by decide +kernel
theorem dX6_shoot_147 : decode cX6_shoot 147 = .ok (.istore 10, 2) := by decide +kernel
theorem dX6_shoot_149 : decode cX6_shoot 149 = .ok (.aload_n 0, 1) := by decide +kernel
theorem dX6_shoot_150 : decode cX6_shoot 150 = .ok (.getfield 51, 3) := by decide +kernel
theorem dX6_shoot_153 : decode cX6_shoot 153 = .ok (.iload_n 1, 1) := by decide +kernel
theorem dX6_shoot_154 : decode cX6_shoot 154 = .ok (.dup2, 1) := by decide +kernel
theorem dX6_shoot_155 : decode cX6_shoot 155 = .ok (.iaload, 1) := by decide +kernel
theorem dX6_shoot_156 : decode cX6_shoot 156 = .ok (.iconst 1, 1) := by decide +kernel
theorem dX6_shoot_157 : decode cX6_shoot 157 = .ok (.iadd, 1) := by decide +kernel
theorem dX6_shoot_158 : decode cX6_shoot 158 = .ok (.iastore, 1) := by decide +kernel
theorem dX6_shoot_159 : decode cX6_shoot 159 = .ok (.aload_n 0, 1) := by decide +kernel
theorem dX6_shoot_160 : decode cX6_shoot 160 = .ok (.getfield 27, 3) := by decide +kernel
theorem dX6_shoot_163 : decode cX6_shoot 163 = .ok (.iload_n 1, 1) := by decide +kernel
theorem dX6_shoot_164 : decode cX6_shoot 164 = .ok (.iaload, 1) := by decide +kernel
theorem dX6_shoot_165 : decode cX6_shoot 165 = .ok (.iconst 1, 1) := by decide +kernel
theorem dX6_shoot_166 : decode cX6_shoot 166 = .ok (.if_icmp .ne 126, 3) := by decide +kernel
theorem dX6_shoot_169 : decode cX6_shoot 169 = .ok (.iload 9, 2) := by decide +kernel
theorem dX6_shoot_171 : decode cX6_shoot 171 = .ok (.invokestatic 115, 3) := by decide +kernel
theorem dX6_shoot_174 : decode cX6_shoot 174 = .ok (.bipush 30, 2) := by decide +kernel
theorem dX6_shoot_176 : decode cX6_shoot 176 = .ok (.if_icmp .ge 11, 3) := by decide +kernel
theorem dX6_shoot_179 : decode cX6_shoot 179 = .ok (.iload 9, 2) := by decide +kernel
theorem dX6_shoot_181 : decode cX6_shoot 181 = .ok (.invokestatic 115, 3) := by decide +kernel
theorem dX6_shoot_184 : decode cX6_shoot 184 = .ok (.goto 5, 3) := by decide +kernel
theorem dX6_shoot_187 : decode cX6_shoot 187 = .ok (.bipush 30, 2) := by decide +kernel
theorem dX6_shoot_189 : decode cX6_shoot 189 = .ok (.istore 11, 2) := by decide +kernel
theorem dX6_shoot_191 : decode cX6_shoot 191 = .ok (.aload_n 0, 1) := by decide +kernel
theorem dX6_shoot_192 : decode cX6_shoot 192 = .ok (.getfield 66, 3) := by decide +kernel
theorem dX6_shoot_195 : decode cX6_shoot 195 = .ok (.iload 10, 2) := by decide +kernel
theorem dX6_shoot_197 : decode cX6_shoot 197 = .ok (.dup2, 1) := by decide +kernel
theorem dX6_shoot_198 : decode cX6_shoot 198 = .ok (.iaload, 1) := by decide +kernel
theorem dX6_shoot_199 : decode cX6_shoot 199 = .ok (.iconst 1, 1) := by decide +kernel
theorem dX6_shoot_200 : decode cX6_shoot 200 = .ok (.iadd, 1) := by decide +kernel
theorem dX6_shoot_201 : decode cX6_shoot 201 = .ok (.iastore, 1) := by decide +kernel
theorem dX6_shoot_202 : decode cX6_shoot 202 = .ok (.aload_n 0, 1) := by decide +kernel
theorem dX6_shoot_203 : decode cX6_shoot 203 = .ok (.getfield 69, 3) := by decide +kernel
theorem dX6_shoot_206 : decode cX6_shoot 206 = .ok (.iload 10, 2) := by decide +kernel
theorem dX6_shoot_208 : decode cX6_shoot 208 = .ok (.dup2, 1) := by decide +kernel
theorem dX6_shoot_209 : decode cX6_shoot 209 = .ok (.iaload, 1) := by decide +kernel
theorem dX6_shoot_210 : decode cX6_shoot 210 = .ok (.iload 11, 2) := by decide +kernel
theorem dX6_shoot_212 : decode cX6_shoot 212 = .ok (.iadd, 1) := by decide +kernel
theorem dX6_shoot_213 : decode cX6_shoot 213 = .ok (.iastore, 1) := by decide +kernel
theorem dX6_shoot_214 : decode cX6_shoot 214 = .ok (.aload_n 0, 1) := by decide +kernel
theorem dX6_shoot_215 : decode cX6_shoot 215 = .ok (.getfield 54, 3) := by decide +kernel
theorem dX6_shoot_218 : decode cX6_shoot 218 = .ok (.iload_n 1, 1) := by decide +kernel
theorem dX6_shoot_219 : decode cX6_shoot 219 = .ok (.aload_n 0, 1) := by decide +kernel
theorem dX6_shoot_220 : decode cX6_shoot 220 = .ok (.getfield 51, 3) := by decide +kernel
theorem dX6_shoot_223 : decode cX6_shoot 223 = .ok (.iload_n 1, 1) := by decide +kernel
theorem dX6_shoot_224 : decode cX6_shoot 224 = .ok (.iaload, 1) := by decide +kernel
theorem dX6_shoot_225 : decode cX6_shoot 225 = .ok (.iconst 2, 1) := by decide +kernel
theorem dX6_shoot_226 : decode cX6_shoot 226 = .ok (.if_icmp .ne 18, 3) := by decide +kernel
theorem dX6_shoot_229 : decode cX6_shoot 229 = .ok (.aload_n 0, 1) := by decide +kernel
theorem dX6_shoot_230 : decode cX6_shoot 230 = .ok (.getfield 57, 3) := by decide +kernel
theorem dX6_shoot_233 : decode cX6_shoot 233 = .ok (.iload_n 1, 1) := by decide +kernel
theorem dX6_shoot_234 : decode cX6_shoot 234 = .ok (.iaload, 1) := by decide +kernel
theorem dX6_shoot_235 : decode cX6_shoot 235 = .ok (.iload 11, 2) := by decide +kernel
theorem dX6_shoot_237 : decode cX6_shoot 237 = .ok (.if_icmp .ge 7, 3) := by decide +kernel
theorem dX6_shoot_240 : decode cX6_shoot 240 = .ok (.iconst 0, 1) := by decide +kernel
theorem dX6_shoot_241 : decode cX6_shoot 241 = .ok (.goto 4, 3) := by decide +kernel
theorem dX6_shoot_244 : decode cX6_shoot 244 = .ok (.iconst 1, 1) := by decide +kernel
theorem dX6_shoot_245 : decode cX6_shoot 245 = .ok (.iastore, 1) := by decide +kernel
theorem dX6_shoot_246 : decode cX6_shoot 246 = .ok (.aload_n 0, 1) := by decide +kernel
theorem dX6_shoot_247 : decode cX6_shoot 247 = .ok (.getfield 57, 3) := by decide +kernel
theorem dX6_shoot_250 : decode cX6_shoot 250 = .ok (.iload_n 1, 1) := by decide +kernel
theorem dX6_shoot_251 : decode cX6_shoot 251 = .ok (.iload 11, 2) := by decide +kernel
theorem dX6_shoot_253 : decode cX6_shoot 253 = .ok (.iastore, 1) := by decide +kernel
theorem dX6_shoot_254 : decode cX6_shoot 254 = .ok (.aload_n 0, 1) := by decide +kernel
theorem dX6_shoot_255 : decode cX6_shoot 255 = .ok (.getfield 27, 3) := by decide +kernel
theorem dX6_shoot_258 : decode cX6_shoot 258 = .ok (.iload_n 1, 1) := by decide +kernel
theorem dX6_shoot_259 : decode cX6_shoot 259 = .ok (.aload_n 0, 1) := by decide +kernel
theorem dX6_shoot_260 : decode cX6_shoot 260 = .ok (.getfield 51, 3) := by decide +kernel
theorem dX6_shoot_263 : decode cX6_shoot 263 = .ok (.iload_n 1, 1) := by decide +kernel
theorem dX6_shoot_264 : decode cX6_shoot 264 = .ok (.iaload, 1) := by decide +kernel
theorem dX6_shoot_265 : decode cX6_shoot 265 = .ok (.iconst 2, 1) := by decide +kernel
theorem dX6_shoot_266 : decode cX6_shoot 266 = .ok (.if_icmp .ne 7, 3) := by decide +kernel
theorem dX6_shoot_269 : decode cX6_shoot 269 = .ok (.iconst 2, 1) := by decide +kernel
theorem dX6_shoot_270 : decode cX6_shoot 270 = .ok (.goto 4, 3) := by decide +kernel
theorem dX6_shoot_273 : decode cX6_shoot 273 = .ok (.iconst 1, 1) := by decide +kernel
theorem dX6_shoot_274 : decode cX6_shoot 274 = .ok (.iastore, 1) := by decide +kernel
theorem dX6_shoot_275 : decode cX6_shoot 275 = .ok (.aload_n 0, 1) := by decide +kernel
theorem dX6_shoot_276 : decode cX6_shoot 276 = .ok (.getfield 51, 3) := by decide +kernel
theorem dX6_shoot_279 : decode cX6_shoot 279 = .ok (.iload_n 1, 1) := by decide +kernel
theorem dX6_shoot_280 : decode cX6_shoot 280 = .ok (.aload_n 0, 1) := by decide +kernel
theorem dX6_shoot_281 : decode cX6_shoot 281 = .ok (.getfield 51, 3) := by decide +kernel
theorem dX6_shoot_284 : decode cX6_shoot 284 = .ok (.iload_n 1, 1) := by decide +kernel
theorem dX6_shoot_285 : decode cX6_shoot 285 = .ok (.iaload, 1) := by decide +kernel
theorem dX6_shoot_286 : decode cX6_shoot 286 = .ok (.iconst 2, 1) := by decide +kernel
theorem dX6_shoot_287 : decode cX6_shoot 287 = .ok (.irem, 1) := by decide +kernel
theorem dX6_shoot_288 : decode cX6_shoot 288 = .ok (.iastore, 1) := by decide +kernel
theorem dX6_shoot_289 : decode cX6_shoot 289 = .ok (.iload 9, 2) := by decide +kernel
theorem dX6_shoot_291 : decode cX6_shoot 291 = .ok (.ireturn, 1) := by decide +kernel
theorem dX6_shoot_292 : decode cX6_shoot 292 = .ok (.iconst 0, 1) := by decide +kernel
theorem dX6_shoot_293 : decode cX6_shoot 293 = .ok (.istore 11, 2) := by decide +kernel
theorem dX6_shoot_295 : decode cX6_shoot 295 = .ok (.iload 11, 2) := by decide +kernel
theorem dX6_shoot_297 : decode cX6_shoot 297 = .ok (.bipush 6, 2) := by decide +kernel
theorem dX6_shoot_299 : decode cX6_shoot 299 = .ok (.if_icmp .ge 28, 3) := by decide +kernel
theorem dX6_shoot_302 : decode cX6_shoot 302 = .ok (.aload_n 0, 1) := by decide +kernel
theorem dX6_shoot_303 : decode cX6_shoot 303 = .ok (.getfield 60, 3) := by decide +kernel
theorem dX6_shoot_306 : decode cX6_shoot 306 = .ok (.bipush 6, 2) := by decide +kernel
theorem dX6_shoot_308 : decode cX6_shoot 308 = .ok (.iload_n 1, 1) := by decide +kernel
theorem dX6_shoot_309 : decode cX6_shoot 309 = .ok (.imul, 1) := by decide +kernel
theorem dX6_shoot_310 : decode cX6_shoot 310 = .ok (.iload 11, 2) := by decide +kernel
theorem dX6_shoot_312 : decode cX6_shoot 312 = .ok (.iadd, 1) := by decide +kernel
theorem dX6_shoot_313 : decode cX6_shoot 313 = .ok (.aload_n 0, 1) := by decide +kernel
theorem dX6_shoot_314 : decode cX6_shoot 314 = .ok (.getfield 75, 3) := by decide +kernel
theorem dX6_shoot_317 : decode cX6_shoot 317 = .ok (.iload 11, 2) := by decide +kernel
theorem dX6_shoot_319 : decode cX6_shoot 319 = .ok (.iaload, 1) := by decide +kernel
theorem dX6_shoot_320 : decode cX6_shoot 320 = .ok (.iastore, 1) := by decide +kernel
theorem dX6_shoot_321 : decode cX6_shoot 321 = .ok (.iinc 11 1, 3) := by decide +kernel
theorem dX6_shoot_324 : decode cX6_shoot 324 = .ok (.goto (-29), 3) := by decide +kernel
theorem dX6_shoot_327 : decode cX6_shoot 327 = .ok (.aload_n 0, 1) := by decide +kernel
theorem dX6_shoot_328 : decode cX6_shoot 328 = .ok (.getfield 51, 3) := by decide +kernel
theorem dX6_shoot_331 : decode cX6_shoot 331 = .ok (.iload_n 1, 1) := by decide +kernel
theorem dX6_shoot_332 : decode cX6_shoot 332 = .ok (.iaload, 1) := by decide +kernel
theorem dX6_shoot_333 : decode cX6_shoot 333 = .ok (.bipush 6, 2) := by decide +kernel
theorem dX6_shoot_335 : decode cX6_shoot 335 = .ok (.if_icmp .ne 8, 3) := by decide +kernel
theorem dX6_shoot_338 : decode cX6_shoot 338 = .ok (.aload_n 0, 1) := by decide +kernel
theorem dX6_shoot_339 : decode cX6_shoot 339 = .ok (.iload_n 1, 1) := by decide +kernel
theorem dX6_shoot_340 : decode cX6_shoot 340 = .ok (.invokevirtual 147, 3) := by decide +kernel
theorem dX6_shoot_343 : decode cX6_shoot 343 = .ok (.iload 9, 2) := by decide +kernel
theorem dX6_shoot_345 : decode cX6_shoot 345 = .ok (.ireturn, 1) := by decide +kernel
set_option maxRecDepth 20000 in
theorem ggX6_tries_X6_isGame : GoodIn wsX6_tries wsX6_isGame := goodIn_r _ [6, 7, 8, 9, 5, 10, 50, 51, 52, 53, 54, 55, 56, 57, 58, 59, 60, 61, 62, 63, 64, 65, 66, 67, 68, 69, 70, 71, 72, 73, 74, 75, 76, 77] (by decide +kernel) (by decide +kernel)
set_option maxRecDepth 20000 in
theorem gX6_tries_X6_isGame : GoodIn wsX6_tries (wsV RX6 126 RX6 yX6_isGame wsX6_isGame) := goodIn_app (goodIn_of _ (by decide +kernel)) ggX6_tries_X6_isGame
set_option maxRecDepth 20000 in
theorem ggX6_tries_X6_isShot : GoodIn wsX6_tries wsX6_isShot := goodIn_r _ [13, 8, 9, 5, 10] (by decide +kernel) (by decide +kernel)
set_option maxRecDepth 20000 in
theorem gX6_tries_X6_isShot : GoodIn wsX6_tries (va_wsS RX6 129 yX6_isShot wsX6_isShot) := goodIn_app (goodIn_of _ (by decide +kernel)) ggX6_tries_X6_isShot
set_option maxRecDepth 20000 in
theorem ggX6_tries_X6_throwsAt : GoodIn wsX6_tries wsX6_throwsAt := goodIn_r _ [17, 18, 50, 51, 52, 53, 54, 55, 56, 57, 58, 59, 60, 61, 62, 63, 64, 65, 66, 67, 68, 69, 70, 71, 72, 73, 74, 75, 76, 77] (by decide +kernel) (by decide +kernel)
set_option maxRecDepth 20000 in
theorem gX6_tries_X6_throwsAt : GoodIn wsX6_tries (wsV RX6 133 RX6 yX6_throwsAt wsX6_throwsAt) := goodIn_app (goodIn_of _ (by decide +kernel)) ggX6_tries_X6_throwsAt
set_option maxRecDepth 20000 in
theorem ggX6_tries_X6_asked__ : GoodIn wsX6_tries wsX6_asked__ := goodIn_r _ [22, 23, 50, 51, 52, 53, 54, 55, 56, 57, 58, 59, 60, 61, 62, 63, 64, 65, 66, 67, 68, 69, 70, 71, 72, 73, 74, 75, 76, 77] (by decide +kernel) (by decide +kernel)
set_option maxRecDepth 20000 in
theorem gX6_tries_X6_asked__ : GoodIn wsX6_tries (wsV RX6 104 RX6 yX6_asked__ wsX6_asked__) := goodIn_app (goodIn_of _ (by decide +kernel)) ggX6_tries_X6_asked__
