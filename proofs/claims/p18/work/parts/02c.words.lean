/-! THE TABLES' WORDS by their places: jm_W0 are those that keep, the same for all methods -/
def jm_W0 : List Cond := lw_tbl.filter goodWord
theorem jm_in (i : Nat) {c : Cond} (h : lw_tbl[i]? = some c) (hg : goodWord c = true) : c ∈ jm_W0 := List.mem_filter.mpr ⟨List.mem_of_getElem? h, hg⟩
theorem jm_W0_lw : ∀ z ∈ jm_W0, z ∈ lw_tbl := fun z h => (List.mem_filter.mp h).1
theorem jm_W0_good : ∀ z ∈ jm_W0, (z.onTables && z.keeps) = true ∨ ∃ ty, z = .arrayClass ty := fun z h => good_of_word (List.mem_filter.mp h).2
def jm_nm (y : MethodName) (n : Nat) : Prop := y.cls ≠ "java/lang/invoke/MethodHandle" ∧ y.cls ≠ "java/lang/invoke/VarHandle" ∧ (parseMethodDescriptor y.desc).map (fun d => d.parameters.length) = some n
def jm_okV (C0 : String) (y : MethodName) (bytes : ByteArray) (maxL : Nat) (ret : Option FieldType) (n : Nat) : Prop := Cond.instanceMethod y ∈ jm_W0 ∧ Cond.selects C0 y y ∈ jm_W0 ∧ Cond.initialized C0 ∈ jm_W0 ∧ Cond.code y bytes maxL ret ∈ jm_W0 ∧ y.cls = C0 ∧ jm_nm y n ∧ plainName y.cls = true
def jm_okS (C0 : String) (y : MethodName) (bytes : ByteArray) (maxL : Nat) (ret : Option FieldType) (n : Nat) : Prop := Cond.static y ∈ jm_W0 ∧ Cond.initialized C0 ∈ jm_W0 ∧ Cond.code y bytes maxL ret ∈ jm_W0 ∧ y.cls = C0 ∧ jm_nm y n ∧ plainName y.cls = true
def jm_okI (C0 : String) (y : MethodName) (bytes : ByteArray) (maxL : Nat) (n : Nat) : Prop := Cond.instanceMethod y ∈ jm_W0 ∧ Cond.initialized C0 ∈ jm_W0 ∧ Cond.code y bytes maxL none ∈ jm_W0 ∧ y.cls = C0 ∧ y.name = "<init>" ∧ jm_nm y n ∧ plainName y.cls = true
theorem jm_gc {y : MethodName} {bytes : ByteArray} {maxL : Nat} {ret : Option FieldType} (h : Cond.code y bytes maxL ret ∈ jm_W0) : GoodIn jm_W0 (Cond.code y bytes maxL ret :: jm_W0) := fun z hz => (List.mem_cons.mp hz).elim (fun q => by rw [q]; exact ⟨h, jm_W0_good _ h⟩) (fun q => ⟨q, jm_W0_good _ q⟩)
theorem jm_gl {a : List Cond} {ws : List Cond} (ha : ∀ z ∈ a, z ∈ jm_W0) (h : GoodIn jm_W0 ws) : GoodIn jm_W0 (a ++ ws) := fun z hz => (List.mem_append.mp hz).elim (fun q => ⟨ha z q, jm_W0_good _ (ha z q)⟩) (h z)
theorem jm_gV {C0 own : String} {index : Nat} {y : MethodName} {bytes : ByteArray} {maxL n : Nat} {ret : Option FieldType} (hl : Cond.methodLink own index y ∈ jm_W0) (h : jm_okV C0 y bytes maxL ret n) : GoodIn jm_W0 (wsV own index C0 y (Cond.code y bytes maxL ret :: jm_W0)) := jm_gl (List.forall_mem_cons.mpr ⟨hl, List.forall_mem_cons.mpr ⟨h.1, List.forall_mem_cons.mpr ⟨h.2.1, List.forall_mem_cons.mpr ⟨h.2.2.1, fun _ q => absurd q List.not_mem_nil⟩⟩⟩⟩) (jm_gc h.2.2.2.1)
theorem jm_gS {own : String} {index : Nat} {y : MethodName} {bytes : ByteArray} {maxL n : Nat} {ret : Option FieldType} (hl : Cond.methodLink own index y ∈ jm_W0) (h : jm_okS own y bytes maxL ret n) : GoodIn jm_W0 (wsS own index y (Cond.code y bytes maxL ret :: jm_W0)) := jm_gl (List.forall_mem_cons.mpr ⟨hl, List.forall_mem_cons.mpr ⟨h.1, List.forall_mem_cons.mpr ⟨h.2.1, fun _ q => absurd q List.not_mem_nil⟩⟩⟩) (jm_gc h.2.2.1)
set_option maxRecDepth 100000 in
theorem jw_f_RX0_12 : Cond.fieldLink RX0 12 "HackHouse$Game" "stones" "LHackHouse$Stones;" ∈ jm_W0 := jm_in 501 rfl rfl
set_option maxRecDepth 100000 in
theorem jw_f_RX0_18 : Cond.fieldLink RX0 18 "HackHouse$Game" "state" "I" ∈ jm_W0 := jm_in 505 rfl rfl
set_option maxRecDepth 100000 in
theorem jw_f_RX0_22 : Cond.fieldLink RX0 22 "HackHouse$Game" "sheet" "I" ∈ jm_W0 := jm_in 507 rfl rfl
set_option maxRecDepth 100000 in
theorem jw_f_RX0_25 : Cond.fieldLink RX0 25 "HackHouse$Game" "lastSide" "I" ∈ jm_W0 := jm_in 518 rfl rfl
set_option maxRecDepth 100000 in
theorem jw_f_RX0_28 : Cond.fieldLink RX0 28 "HackHouse$Game" "first" "I" ∈ jm_W0 := jm_in 495 rfl rfl
set_option maxRecDepth 100000 in
theorem jw_f_RX0_31 : Cond.fieldLink RX0 31 "HackHouse$Game" "second" "I" ∈ jm_W0 := jm_in 497 rfl rfl
set_option maxRecDepth 100000 in
theorem jw_f_RX0_34 : Cond.fieldLink RX0 34 "HackHouse$Game" "begin" "I" ∈ jm_W0 := jm_in 503 rfl rfl
set_option maxRecDepth 100000 in
theorem jw_f_RX0_37 : Cond.fieldLink RX0 37 "HackHouse$Game" "wish" "I" ∈ jm_W0 := jm_in 499 rfl rfl
set_option maxRecDepth 100000 in
theorem jw_f_RX0_40 : Cond.fieldLink RX0 40 "HackHouse$Game" "thrown" "I" ∈ jm_W0 := jm_in 516 rfl rfl
set_option maxRecDepth 100000 in
theorem jw_f_RX0_47 : Cond.fieldLink RX0 47 "HackHouse$Game" "firstDraw" "I" ∈ jm_W0 := jm_in 509 rfl rfl
set_option maxRecDepth 100000 in
theorem jw_f_RX0_53 : Cond.fieldLink RX0 53 "HackHouse$Game" "firstPoints" "I" ∈ jm_W0 := jm_in 510 rfl rfl
set_option maxRecDepth 100000 in
theorem jw_f_RX0_56 : Cond.fieldLink RX0 56 "HackHouse$Game" "secondPoints" "I" ∈ jm_W0 := jm_in 512 rfl rfl
set_option maxRecDepth 100000 in
theorem jw_f_RX0_62 : Cond.fieldLink RX0 62 "HackHouse$Game" "endsOver" "I" ∈ jm_W0 := jm_in 514 rfl rfl
set_option maxRecDepth 100000 in
theorem jw_f_RX1_15 : Cond.fieldLink RX1 15 "HackHouse$Sheet" "made" "Z" ∈ jm_W0 := jm_in 46 rfl rfl
set_option maxRecDepth 100000 in
theorem jw_f_RX1_19 : Cond.fieldLink RX1 19 "HackHouse$Sheet" "game" "I" ∈ jm_W0 := jm_in 48 rfl rfl
set_option maxRecDepth 100000 in
theorem jw_f_RX1_9 : Cond.fieldLink RX1 9 "HackHouse$Sheet" "worn" "[I" ∈ jm_W0 := jm_in 45 rfl rfl
set_option maxRecDepth 100000 in
theorem jw_f_RX2_12 : Cond.fieldLink RX2 12 "HackHouse$Slide" "stones" "LHackHouse$Stones;" ∈ jm_W0 := jm_in 99 rfl rfl
set_option maxRecDepth 100000 in
theorem jw_f_RX2_18 : Cond.fieldLink RX2 18 "HackHouse$Slide" "hit" "I" ∈ jm_W0 := jm_in 109 rfl rfl
set_option maxRecDepth 100000 in
theorem jw_f_RX2_22 : Cond.fieldLink RX2 22 "HackHouse$Slide" "lane" "I" ∈ jm_W0 := jm_in 102 rfl rfl
set_option maxRecDepth 100000 in
theorem jw_f_RX2_25 : Cond.fieldLink RX2 25 "HackHouse$Slide" "y" "I" ∈ jm_W0 := jm_in 103 rfl rfl
set_option maxRecDepth 100000 in
theorem jw_f_RX2_28 : Cond.fieldLink RX2 28 "HackHouse$Slide" "energy" "I" ∈ jm_W0 := jm_in 104 rfl rfl
set_option maxRecDepth 100000 in
theorem jw_f_RX2_31 : Cond.fieldLink RX2 31 "HackHouse$Slide" "turn" "I" ∈ jm_W0 := jm_in 105 rfl rfl
set_option maxRecDepth 100000 in
theorem jw_f_RX2_34 : Cond.fieldLink RX2 34 "HackHouse$Slide" "sweptFrom" "I" ∈ jm_W0 := jm_in 106 rfl rfl
set_option maxRecDepth 100000 in
theorem jw_f_RX2_37 : Cond.fieldLink RX2 37 "HackHouse$Slide" "sweptTo" "I" ∈ jm_W0 := jm_in 107 rfl rfl
set_option maxRecDepth 100000 in
theorem jw_f_RX2_44 : Cond.fieldLink RX2 44 "HackHouse$Slide" "wears" "Z" ∈ jm_W0 := jm_in 101 rfl rfl
set_option maxRecDepth 100000 in
theorem jw_f_RX2_64 : Cond.fieldLink RX2 64 "HackHouse$Slide" "steps" "I" ∈ jm_W0 := jm_in 108 rfl rfl
set_option maxRecDepth 100000 in
theorem jw_f_RX3_9 : Cond.fieldLink RX3 9 "HackHouse$Stones" "places" "[I" ∈ jm_W0 := jm_in 95 rfl rfl
set_option maxRecDepth 100000 in
theorem jw_f_RX4_15 : Cond.fieldLink RX4 15 "HackHouse$Team" "lastStones" "I" ∈ jm_W0 := jm_in 68 rfl rfl
set_option maxRecDepth 100000 in
theorem jw_f_RX4_9 : Cond.fieldLink RX4 9 "HackHouse$Team" "drew" "I" ∈ jm_W0 := jm_in 66 rfl rfl
set_option maxRecDepth 100000 in
theorem jw_f_RX5_102 : Cond.fieldLink RX5 102 "HackHouse$Game" "stones" "LHackHouse$Stones;" ∈ jm_W0 := jm_in 502 rfl rfl
set_option maxRecDepth 100000 in
theorem jw_f_RX5_11 : Cond.fieldLink RX5 11 "HackHouse" "sheets" "[LHackHouse$Sheet;" ∈ jm_W0 := jm_in 131 rfl rfl
set_option maxRecDepth 100000 in
theorem jw_f_RX5_114 : Cond.fieldLink RX5 114 "HackHouse$Game" "state" "I" ∈ jm_W0 := jm_in 506 rfl rfl
set_option maxRecDepth 100000 in
theorem jw_f_RX5_125 : Cond.fieldLink RX5 125 "HackHouse$Slide" "stones" "LHackHouse$Stones;" ∈ jm_W0 := jm_in 100 rfl rfl
set_option maxRecDepth 100000 in
theorem jw_f_RX5_144 : Cond.fieldLink RX5 144 "HackHouse$Sheet" "made" "Z" ∈ jm_W0 := jm_in 47 rfl rfl
set_option maxRecDepth 100000 in
theorem jw_f_RX5_148 : Cond.fieldLink RX5 148 "HackHouse$Sheet" "game" "I" ∈ jm_W0 := jm_in 49 rfl rfl
set_option maxRecDepth 100000 in
theorem jw_f_RX5_154 : Cond.fieldLink RX5 154 "HackHouse" "crewLeft" "I" ∈ jm_W0 := jm_in 139 rfl rfl
set_option maxRecDepth 100000 in
theorem jw_f_RX5_169 : Cond.fieldLink RX5 169 "HackHouse$Game" "begin" "I" ∈ jm_W0 := jm_in 504 rfl rfl
set_option maxRecDepth 100000 in
theorem jw_f_RX5_172 : Cond.fieldLink RX5 172 "HackHouse$Game" "firstPoints" "I" ∈ jm_W0 := jm_in 511 rfl rfl
set_option maxRecDepth 100000 in
theorem jw_f_RX5_175 : Cond.fieldLink RX5 175 "HackHouse$Game" "secondPoints" "I" ∈ jm_W0 := jm_in 513 rfl rfl
set_option maxRecDepth 100000 in
theorem jw_f_RX5_178 : Cond.fieldLink RX5 178 "HackHouse$Game" "endsOver" "I" ∈ jm_W0 := jm_in 515 rfl rfl
set_option maxRecDepth 100000 in
theorem jw_f_RX5_18 : Cond.fieldLink RX5 18 "HackHouse" "teams" "[LHackHouse$Team;" ∈ jm_W0 := jm_in 132 rfl rfl
set_option maxRecDepth 100000 in
theorem jw_f_RX5_184 : Cond.fieldLink RX5 184 "HackHouse$Game" "lastSide" "I" ∈ jm_W0 := jm_in 519 rfl rfl
set_option maxRecDepth 100000 in
theorem jw_f_RX5_213 : Cond.fieldLink RX5 213 "HackHouse$Team" "won" "I" ∈ jm_W0 := jm_in 65 rfl rfl
set_option maxRecDepth 100000 in
theorem jw_f_RX5_216 : Cond.fieldLink RX5 216 "HackHouse$Team" "drew" "I" ∈ jm_W0 := jm_in 67 rfl rfl
set_option maxRecDepth 100000 in
theorem jw_f_RX5_219 : Cond.fieldLink RX5 219 "HackHouse$Team" "lastStones" "I" ∈ jm_W0 := jm_in 69 rfl rfl
set_option maxRecDepth 100000 in
theorem jw_f_RX5_236 : Cond.fieldLink RX5 236 "HackHouse$Game" "first" "I" ∈ jm_W0 := jm_in 496 rfl rfl
set_option maxRecDepth 100000 in
theorem jw_f_RX5_239 : Cond.fieldLink RX5 239 "HackHouse$Game" "second" "I" ∈ jm_W0 := jm_in 498 rfl rfl
set_option maxRecDepth 100000 in
theorem jw_f_RX5_246 : Cond.fieldLink RX5 246 "HackHouse$Game" "thrown" "I" ∈ jm_W0 := jm_in 517 rfl rfl
set_option maxRecDepth 100000 in
theorem jw_f_RX5_25 : Cond.fieldLink RX5 25 "HackHouse" "games" "[LHackHouse$Game;" ∈ jm_W0 := jm_in 133 rfl rfl
set_option maxRecDepth 100000 in
theorem jw_f_RX5_264 : Cond.fieldLink RX5 264 "HackHouse$Game" "wish" "I" ∈ jm_W0 := jm_in 500 rfl rfl
set_option maxRecDepth 100000 in
theorem jw_f_RX5_32 : Cond.fieldLink RX5 32 "HackHouse" "slide" "LHackHouse$Slide;" ∈ jm_W0 := jm_in 134 rfl rfl
set_option maxRecDepth 100000 in
theorem jw_f_RX5_36 : Cond.fieldLink RX5 36 "HackHouse" "crewHours" "I" ∈ jm_W0 := jm_in 137 rfl rfl
set_option maxRecDepth 100000 in
theorem jw_f_RX5_40 : Cond.fieldLink RX5 40 "HackHouse" "crewSheet" "I" ∈ jm_W0 := jm_in 138 rfl rfl
set_option maxRecDepth 100000 in
theorem jw_f_RX5_54 : Cond.fieldLink RX5 54 "HackHouse" "now" "I" ∈ jm_W0 := jm_in 136 rfl rfl
set_option maxRecDepth 100000 in
theorem jw_f_RX5_62 : Cond.fieldLink RX5 62 "HackHouse" "gamesPlanned" "I" ∈ jm_W0 := jm_in 135 rfl rfl
set_option maxRecDepth 100000 in
theorem jw_f_RX5_95 : Cond.fieldLink RX5 95 "HackHouse$Game" "sheet" "I" ∈ jm_W0 := jm_in 508 rfl rfl
set_option maxRecDepth 100000 in
theorem jw_m_RX0_11 : Cond.methodLink RX0 11 yX3_init ∈ jm_W0 := jm_in 494 rfl rfl
set_option maxRecDepth 100000 in
theorem jw_m_RX0_3 : Cond.methodLink RX0 3 objectInit ∈ jm_W0 := jm_in 492 rfl rfl
set_option maxRecDepth 100000 in
theorem jw_m_RX0_43 : Cond.methodLink RX0 43 yX0_nextSide ∈ jm_W0 := jm_in 397 rfl rfl
set_option maxRecDepth 100000 in
theorem jw_m_RX0_50 : Cond.methodLink RX0 50 yX3_score ∈ jm_W0 := jm_in 581 rfl rfl
set_option maxRecDepth 100000 in
theorem jw_m_RX0_59 : Cond.methodLink RX0 59 yX3_takeAway ∈ jm_W0 := jm_in 582 rfl rfl
set_option maxRecDepth 100000 in
theorem jw_m_RX1_3 : Cond.methodLink RX1 3 objectInit ∈ jm_W0 := jm_in 44 rfl rfl
set_option maxRecDepth 100000 in
theorem jw_m_RX2_11 : Cond.methodLink RX2 11 yX3_init ∈ jm_W0 := jm_in 87 rfl rfl
set_option maxRecDepth 100000 in
theorem jw_m_RX2_3 : Cond.methodLink RX2 3 objectInit ∈ jm_W0 := jm_in 84 rfl rfl
set_option maxRecDepth 100000 in
theorem jw_m_RX2_40 : Cond.methodLink RX2 40 yX3_copyFrom ∈ jm_W0 := jm_in 402 rfl rfl
set_option maxRecDepth 100000 in
theorem jw_m_RX2_48 : Cond.methodLink RX2 48 yX2_glide ∈ jm_W0 := jm_in 406 rfl rfl
set_option maxRecDepth 100000 in
theorem jw_m_RX2_52 : Cond.methodLink RX2 52 yX3_put ∈ jm_W0 := jm_in 443 rfl rfl
set_option maxRecDepth 100000 in
theorem jw_m_RX2_56 : Cond.methodLink RX2 56 yX3_placeOf ∈ jm_W0 := jm_in 447 rfl rfl
set_option maxRecDepth 100000 in
theorem jw_m_RX2_60 : Cond.methodLink RX2 60 yX2_aimPushed ∈ jm_W0 := jm_in 448 rfl rfl
set_option maxRecDepth 100000 in
theorem jw_m_RX2_67 : Cond.methodLink RX2 67 yX2_stepsForward ∈ jm_W0 := jm_in 410 rfl rfl
set_option maxRecDepth 100000 in
theorem jw_m_RX2_71 : Cond.methodLink RX2 71 yX2_restingPlace ∈ jm_W0 := jm_in 430 rfl rfl
set_option maxRecDepth 100000 in
theorem jw_m_RX2_75 : Cond.methodLink RX2 75 yX2_mustMoveAside ∈ jm_W0 := jm_in 434 rfl rfl
set_option maxRecDepth 100000 in
theorem jw_m_RX2_83 : Cond.methodLink RX2 83 yX2_movesAside ∈ jm_W0 := jm_in 439 rfl rfl
set_option maxRecDepth 100000 in
theorem jw_m_RX2_86 : Cond.methodLink RX2 86 yX1_wornAt ∈ jm_W0 := jm_in 414 rfl rfl
set_option maxRecDepth 100000 in
theorem jw_m_RX2_92 : Cond.methodLink RX2 92 yX2_isSwept ∈ jm_W0 := jm_in 418 rfl rfl
set_option maxRecDepth 100000 in
theorem jw_m_RX2_96 : Cond.methodLink RX2 96 yX3_lyingAt ∈ jm_W0 := jm_in 422 rfl rfl
set_option maxRecDepth 100000 in
theorem jw_m_RX2_99 : Cond.methodLink RX2 99 yX1_wearDown ∈ jm_W0 := jm_in 426 rfl rfl
set_option maxRecDepth 100000 in
theorem jw_m_RX3_15 : Cond.methodLink RX3 15 yX3_takeAway ∈ jm_W0 := jm_in 91 rfl rfl
set_option maxRecDepth 100000 in
theorem jw_m_RX3_18 : Cond.methodLink RX3 18 yX3_placeOf ∈ jm_W0 := jm_in 353 rfl rfl
set_option maxRecDepth 100000 in
theorem jw_m_RX3_22 : Cond.methodLink RX3 22 yX3_nearest ∈ jm_W0 := jm_in 349 rfl rfl
set_option maxRecDepth 100000 in
theorem jw_m_RX3_25 : Cond.methodLink RX3 25 yX3_countNearer ∈ jm_W0 := jm_in 364 rfl rfl
set_option maxRecDepth 100000 in
theorem jw_m_RX3_3 : Cond.methodLink RX3 3 objectInit ∈ jm_W0 := jm_in 90 rfl rfl
set_option maxRecDepth 100000 in
theorem jw_m_RX3_32 : Cond.methodLink RX3 32 yJ9_min_7cf53 ∈ jm_W0 := jm_in 363 rfl rfl
set_option maxRecDepth 100000 in
theorem jw_m_RX4_3 : Cond.methodLink RX4 3 objectInit ∈ jm_W0 := jm_in 64 rfl rfl
set_option maxRecDepth 100000 in
theorem jw_m_RX5_106 : Cond.methodLink RX5 106 yX0_nextStone ∈ jm_W0 := jm_in 393 rfl rfl
set_option maxRecDepth 100000 in
theorem jw_m_RX5_110 : Cond.methodLink RX5 110 yX2_run ∈ jm_W0 := jm_in 398 rfl rfl
set_option maxRecDepth 100000 in
theorem jw_m_RX5_117 : Cond.methodLink RX5 117 yX5_distanceOf ∈ jm_W0 := jm_in 563 rfl rfl
set_option maxRecDepth 100000 in
theorem jw_m_RX5_121 : Cond.methodLink RX5 121 yX5_settleDraw ∈ jm_W0 := jm_in 564 rfl rfl
set_option maxRecDepth 100000 in
theorem jw_m_RX5_126 : Cond.methodLink RX5 126 yX3_copyFrom ∈ jm_W0 := jm_in 572 rfl rfl
set_option maxRecDepth 100000 in
theorem jw_m_RX5_132 : Cond.methodLink RX5 132 yX5_settleStone ∈ jm_W0 := jm_in 573 rfl rfl
set_option maxRecDepth 100000 in
theorem jw_m_RX5_138 : Cond.methodLink RX5 138 yX5_workAnHour ∈ jm_W0 := jm_in 268 rfl rfl
set_option maxRecDepth 100000 in
theorem jw_m_RX5_141 : Cond.methodLink RX5 141 yX5_beginGames ∈ jm_W0 := jm_in 307 rfl rfl
set_option maxRecDepth 100000 in
theorem jw_m_RX5_151 : Cond.methodLink RX5 151 yX1_allWorn ∈ jm_W0 := jm_in 323 rfl rfl
set_option maxRecDepth 100000 in
theorem jw_m_RX5_159 : Cond.methodLink RX5 159 yX5_isCell ∈ jm_W0 := jm_in 616 rfl rfl
set_option maxRecDepth 100000 in
theorem jw_m_RX5_165 : Cond.methodLink RX5 165 yX1_wornAt ∈ jm_W0 := jm_in 620 rfl rfl
set_option maxRecDepth 100000 in
theorem jw_m_RX5_181 : Cond.methodLink RX5 181 yX0_nextSide ∈ jm_W0 := jm_in 337 rfl rfl
set_option maxRecDepth 100000 in
theorem jw_m_RX5_189 : Cond.methodLink RX5 189 yX3_placeOf ∈ jm_W0 := jm_in 608 rfl rfl
set_option maxRecDepth 100000 in
theorem jw_m_RX5_192 : Cond.methodLink RX5 192 yX3_score ∈ jm_W0 := jm_in 345 rfl rfl
set_option maxRecDepth 100000 in
theorem jw_m_RX5_195 : Cond.methodLink RX5 195 yX3_scoreOneByOne ∈ jm_W0 := jm_in 372 rfl rfl
set_option maxRecDepth 100000 in
theorem jw_m_RX5_200 : Cond.methodLink RX5 200 yX5_worthOfShot ∈ jm_W0 := jm_in 381 rfl rfl
set_option maxRecDepth 100000 in
theorem jw_m_RX5_206 : Cond.methodLink RX5 206 yX5_teamsAheadOf ∈ jm_W0 := jm_in 457 rfl rfl
set_option maxRecDepth 100000 in
theorem jw_m_RX5_209 : Cond.methodLink RX5 209 yX5_teamOf ∈ jm_W0 := jm_in 465 rfl rfl
set_option maxRecDepth 100000 in
theorem jw_m_RX5_222 : Cond.methodLink RX5 222 yJ9_abs_0f7a4 ∈ jm_W0 := jm_in 360 rfl rfl
set_option maxRecDepth 100000 in
theorem jw_m_RX5_227 : Cond.methodLink RX5 227 yJ9_min_7cf53 ∈ jm_W0 := jm_in 304 rfl rfl
set_option maxRecDepth 100000 in
theorem jw_m_RX5_242 : Cond.methodLink RX5 242 yX0_takeDraw ∈ jm_W0 := jm_in 568 rfl rfl
set_option maxRecDepth 100000 in
theorem jw_m_RX5_249 : Cond.methodLink RX5 249 yX0_closeEnd ∈ jm_W0 := jm_in 577 rfl rfl
set_option maxRecDepth 100000 in
theorem jw_m_RX5_252 : Cond.methodLink RX5 252 yX5_closeGame ∈ jm_W0 := jm_in 583 rfl rfl
set_option maxRecDepth 100000 in
theorem jw_m_RX5_255 : Cond.methodLink RX5 255 yX1_renew ∈ jm_W0 := jm_in 292 rfl rfl
set_option maxRecDepth 100000 in
theorem jw_m_RX5_258 : Cond.methodLink RX5 258 yX5_sheetToMake ∈ jm_W0 := jm_in 296 rfl rfl
set_option maxRecDepth 100000 in
theorem jw_m_RX5_261 : Cond.methodLink RX5 261 yX5_leastHourWished ∈ jm_W0 := jm_in 300 rfl rfl
set_option maxRecDepth 100000 in
theorem jw_m_RX5_267 : Cond.methodLink RX5 267 yX5_sheetToPlay ∈ jm_W0 := jm_in 311 rfl rfl
set_option maxRecDepth 100000 in
theorem jw_m_RX5_270 : Cond.methodLink RX5 270 yX1_isReady ∈ jm_W0 := jm_in 315 rfl rfl
set_option maxRecDepth 100000 in
theorem jw_m_RX5_273 : Cond.methodLink RX5 273 yX5_worthOfTry ∈ jm_W0 := jm_in 385 rfl rfl
set_option maxRecDepth 100000 in
theorem jw_m_RX5_276 : Cond.methodLink RX5 276 yX5_isAhead ∈ jm_W0 := jm_in 461 rfl rfl
set_option maxRecDepth 100000 in
theorem jw_m_RX5_279 : Cond.methodLink RX5 279 yX4_lastStonesPerGame ∈ jm_W0 := jm_in 470 rfl rfl
set_option maxRecDepth 100000 in
theorem jw_m_RX5_3 : Cond.methodLink RX5 3 objectInit ∈ jm_W0 := jm_in 35 rfl rfl
set_option maxRecDepth 100000 in
theorem jw_m_RX5_43 : Cond.methodLink RX5 43 yX5_isWithin ∈ jm_W0 := jm_in 177 rfl rfl
set_option maxRecDepth 100000 in
theorem jw_m_RX5_70 : Cond.methodLink RX5 70 yX0_init ∈ jm_W0 := jm_in 489 rfl rfl
set_option maxRecDepth 100000 in
theorem jw_m_RX5_75 : Cond.methodLink RX5 75 yX5_gameOf ∈ jm_W0 := jm_in 332 rfl rfl
set_option maxRecDepth 100000 in
theorem jw_m_RX5_79 : Cond.methodLink RX5 79 yX5_isShot ∈ jm_W0 := jm_in 554 rfl rfl
set_option maxRecDepth 100000 in
theorem jw_m_RX5_85 : Cond.methodLink RX5 85 yX0_isOnSheet ∈ jm_W0 := jm_in 558 rfl rfl
set_option maxRecDepth 100000 in
theorem jw_m_RX5_91 : Cond.methodLink RX5 91 yX2_aim ∈ jm_W0 := jm_in 389 rfl rfl
set_option maxRecDepth 100000 in
theorem jw_m_RX5_98 : Cond.methodLink RX5 98 yX5_sheetOf ∈ jm_W0 := jm_in 272 rfl rfl
set_option maxRecDepth 100000 in
theorem jw_m_RL_14 : Cond.methodLink RL 14 yX5_pass ∈ jm_W0 := jm_in 248 rfl rfl
set_option maxRecDepth 100000 in
theorem jw_m_RL_17 : Cond.methodLink RL 17 yX5_ofSheet ∈ jm_W0 := jm_in 319 rfl rfl
set_option maxRecDepth 100000 in
theorem jw_m_RL_21 : Cond.methodLink RL 21 yX5_ofGame ∈ jm_W0 := jm_in 328 rfl rfl
set_option maxRecDepth 100000 in
theorem jw_m_RL_24 : Cond.methodLink RL 24 yX5_wouldScore ∈ jm_W0 := jm_in 341 rfl rfl
set_option maxRecDepth 100000 in
theorem jw_m_RL_27 : Cond.methodLink RL 27 yX5_wouldScoreAnew ∈ jm_W0 := jm_in 368 rfl rfl
set_option maxRecDepth 100000 in
theorem jw_m_RL_30 : Cond.methodLink RL 30 yX5_advice ∈ jm_W0 := jm_in 376 rfl rfl
set_option maxRecDepth 100000 in
theorem jw_m_RL_33 : Cond.methodLink RL 33 yX5_standing ∈ jm_W0 := jm_in 452 rfl rfl
set_option maxRecDepth 100000 in
theorem jw_m_RL_36 : Cond.methodLink RL 36 yX5_ofTeam ∈ jm_W0 := jm_in 474 rfl rfl
set_option maxRecDepth 100000 in
theorem jw_m_RL_45 : Cond.methodLink RL 45 yX5_plan ∈ jm_W0 := jm_in 481 rfl rfl
set_option maxRecDepth 100000 in
theorem jw_m_RL_49 : Cond.methodLink RL 49 yX5_shoot ∈ jm_W0 := jm_in 550 rfl rfl
set_option maxRecDepth 100000 in
theorem jw_m_RL_53 : Cond.methodLink RL 53 yX5_tries ∈ jm_W0 := jm_in 590 rfl rfl
set_option maxRecDepth 100000 in
theorem jw_m_RL_56 : Cond.methodLink RL 56 yX5_wear ∈ jm_W0 := jm_in 612 rfl rfl
set_option maxRecDepth 100000 in
theorem jw_m_RL_60 : Cond.methodLink RL 60 yX5_stone ∈ jm_W0 := jm_in 603 rfl rfl
set_option maxRecDepth 100000 in
theorem jw_m_RL_63 : Cond.methodLink RL 63 yX5_hour ∈ jm_W0 := jm_in 159 rfl rfl
set_option maxRecDepth 100000 in
theorem jw_m_RL_67 : Cond.methodLink RL 67 yL_does ∈ jm_W0 := jm_in 167 rfl rfl
set_option maxRecDepth 100000 in
theorem jw_m_RL_73 : Cond.methodLink RL 73 yL_stone ∈ jm_W0 := jm_in 600 rfl rfl
set_option maxRecDepth 100000 in
theorem jw_m_RL_75 : Cond.methodLink RL 75 yL_mirrored ∈ jm_W0 := jm_in 594 rfl rfl
set_option maxRecDepth 100000 in
theorem jw_m_RL_78 : Cond.methodLink RL 78 yL_wear ∈ jm_W0 := jm_in 609 rfl rfl
set_option maxRecDepth 100000 in
theorem jw_m_RL_8 : Cond.methodLink RL 8 yX5_crew ∈ jm_W0 := jm_in 173 rfl rfl
set_option maxRecDepth 100000 in
theorem jw_m_RL_80 : Cond.methodLink RL 80 yX5_init ∈ jm_W0 := jm_in 32 rfl rfl
set_option maxRecDepth 100000 in
theorem jw_m_RL_81 : Cond.methodLink RL 81 yL_drawn ∈ jm_W0 := jm_in 163 rfl rfl
set_option maxRecDepth 100000 in
theorem jw_m_RL_85 : Cond.methodLink RL 85 yL_plans ∈ jm_W0 := jm_in 478 rfl rfl
set_option maxRecDepth 100000 in
theorem jw_m_RL_89 : Cond.methodLink RL 89 yL_tries ∈ jm_W0 := jm_in 587 rfl rfl
set_option maxRecDepth 100000 in
theorem jw_m_RL_92 : Cond.methodLink RL 92 yL_shoots ∈ jm_W0 := jm_in 547 rfl rfl
set_option maxRecDepth 100000 in
theorem jw_m_RL_95 : Cond.methodLink RL 95 yL_areAlike ∈ jm_W0 := jm_in 597 rfl rfl
set_option maxRecDepth 100000 in
theorem jw_n_RX0 : Cond.initialized RX0 ∈ jm_W0 := jm_in 28 rfl rfl
set_option maxRecDepth 100000 in
theorem jw_n_RX1 : Cond.initialized RX1 ∈ jm_W0 := jm_in 18 rfl rfl
set_option maxRecDepth 100000 in
theorem jw_n_RX2 : Cond.initialized RX2 ∈ jm_W0 := jm_in 20 rfl rfl
set_option maxRecDepth 100000 in
theorem jw_n_RX3 : Cond.initialized RX3 ∈ jm_W0 := jm_in 21 rfl rfl
set_option maxRecDepth 100000 in
theorem jw_n_RX4 : Cond.initialized RX4 ∈ jm_W0 := jm_in 19 rfl rfl
set_option maxRecDepth 100000 in
theorem jw_n_RX5 : Cond.initialized RX5 ∈ jm_W0 := jm_in 17 rfl rfl
set_option maxRecDepth 100000 in
theorem jw_n_RJ9 : Cond.initialized RJ9 ∈ jm_W0 := jm_in 29 rfl rfl
set_option maxRecDepth 100000 in
theorem jw_n_RL : Cond.initialized RL ∈ jm_W0 := jm_in 16 rfl rfl
set_option maxRecDepth 100000 in
theorem jw_n_Math : Cond.initialized "java/lang/Math" ∈ jm_W0 := jm_in 29 rfl rfl
set_option maxRecDepth 100000 in
theorem jw_s_min : Cond.static Lib.Math.min.name ∈ jm_W0 := jm_in 305 rfl rfl
set_option maxRecDepth 100000 in
theorem jw_c_min : Cond.code Lib.Math.min.name Lib.Math.min.code 2 (some .int) ∈ jm_W0 := jm_in 306 rfl rfl
set_option maxRecDepth 100000 in
theorem jw_s_abs : Cond.static Lib.Math.abs.name ∈ jm_W0 := jm_in 361 rfl rfl
set_option maxRecDepth 100000 in
theorem jw_c_abs : Cond.code Lib.Math.abs.name Lib.Math.abs.code 1 (some .int) ∈ jm_W0 := jm_in 362 rfl rfl
set_option maxRecDepth 100000 in
theorem jw_i_obj : Cond.instanceMethod objectInit ∈ jm_W0 := jm_in 36 rfl rfl
set_option maxRecDepth 100000 in
theorem jw_c_obj : Cond.code objectInit ⟨#[0xb1]⟩ 1 none ∈ jm_W0 := jm_in 37 rfl rfl
set_option maxRecDepth 100000 in
theorem jw_u_0 : ∀ z ∈ u_ws RX0 TX0 13, z ∈ jm_W0 := by
  show ∀ z ∈ [Cond.laysFinal RX0 "HackHouse$Game" "first" "I", Cond.laysFinal RX0 "HackHouse$Game" "second" "I", Cond.laysFinal RX0 "HackHouse$Game" "wish" "I", Cond.laysFinal RX0 "HackHouse$Game" "stones" "LHackHouse$Stones;", Cond.lays RX0 "HackHouse$Game" "begin" "I", Cond.lays RX0 "HackHouse$Game" "state" "I", Cond.lays RX0 "HackHouse$Game" "sheet" "I", Cond.lays RX0 "HackHouse$Game" "firstDraw" "I", Cond.lays RX0 "HackHouse$Game" "firstPoints" "I", Cond.lays RX0 "HackHouse$Game" "secondPoints" "I", Cond.lays RX0 "HackHouse$Game" "endsOver" "I", Cond.lays RX0 "HackHouse$Game" "thrown" "I", Cond.lays RX0 "HackHouse$Game" "lastSide" "I"], z ∈ jm_W0
  exact List.forall_mem_cons.mpr ⟨jm_in 520 rfl rfl, List.forall_mem_cons.mpr ⟨jm_in 522 rfl rfl, List.forall_mem_cons.mpr ⟨jm_in 524 rfl rfl, List.forall_mem_cons.mpr ⟨jm_in 526 rfl rfl, List.forall_mem_cons.mpr ⟨jm_in 528 rfl rfl, List.forall_mem_cons.mpr ⟨jm_in 530 rfl rfl, List.forall_mem_cons.mpr ⟨jm_in 532 rfl rfl, List.forall_mem_cons.mpr ⟨jm_in 534 rfl rfl, List.forall_mem_cons.mpr ⟨jm_in 536 rfl rfl, List.forall_mem_cons.mpr ⟨jm_in 538 rfl rfl, List.forall_mem_cons.mpr ⟨jm_in 540 rfl rfl, List.forall_mem_cons.mpr ⟨jm_in 542 rfl rfl, List.forall_mem_cons.mpr ⟨jm_in 544 rfl rfl, fun _ h => absurd h List.not_mem_nil⟩⟩⟩⟩⟩⟩⟩⟩⟩⟩⟩⟩⟩
set_option maxRecDepth 100000 in
theorem jw_u_1 : ∀ z ∈ u_ws RX1 TX1 3, z ∈ jm_W0 := by
  show ∀ z ∈ [Cond.laysFinal RX1 "HackHouse$Sheet" "worn" "[I", Cond.lays RX1 "HackHouse$Sheet" "made" "Z", Cond.lays RX1 "HackHouse$Sheet" "game" "I"], z ∈ jm_W0
  exact List.forall_mem_cons.mpr ⟨jm_in 50 rfl rfl, List.forall_mem_cons.mpr ⟨jm_in 52 rfl rfl, List.forall_mem_cons.mpr ⟨jm_in 54 rfl rfl, fun _ h => absurd h List.not_mem_nil⟩⟩⟩
set_option maxRecDepth 100000 in
theorem jw_u_2 : ∀ z ∈ u_ws RX2 TX2 10, z ∈ jm_W0 := by
  show ∀ z ∈ [Cond.laysFinal RX2 "HackHouse$Slide" "stones" "LHackHouse$Stones;", Cond.lays RX2 "HackHouse$Slide" "wears" "Z", Cond.lays RX2 "HackHouse$Slide" "lane" "I", Cond.lays RX2 "HackHouse$Slide" "y" "I", Cond.lays RX2 "HackHouse$Slide" "energy" "I", Cond.lays RX2 "HackHouse$Slide" "turn" "I", Cond.lays RX2 "HackHouse$Slide" "sweptFrom" "I", Cond.lays RX2 "HackHouse$Slide" "sweptTo" "I", Cond.lays RX2 "HackHouse$Slide" "steps" "I", Cond.lays RX2 "HackHouse$Slide" "hit" "I"], z ∈ jm_W0
  exact List.forall_mem_cons.mpr ⟨jm_in 110 rfl rfl, List.forall_mem_cons.mpr ⟨jm_in 112 rfl rfl, List.forall_mem_cons.mpr ⟨jm_in 114 rfl rfl, List.forall_mem_cons.mpr ⟨jm_in 116 rfl rfl, List.forall_mem_cons.mpr ⟨jm_in 118 rfl rfl, List.forall_mem_cons.mpr ⟨jm_in 120 rfl rfl, List.forall_mem_cons.mpr ⟨jm_in 122 rfl rfl, List.forall_mem_cons.mpr ⟨jm_in 124 rfl rfl, List.forall_mem_cons.mpr ⟨jm_in 126 rfl rfl, List.forall_mem_cons.mpr ⟨jm_in 128 rfl rfl, fun _ h => absurd h List.not_mem_nil⟩⟩⟩⟩⟩⟩⟩⟩⟩⟩
set_option maxRecDepth 100000 in
theorem jw_u_3 : ∀ z ∈ u_ws RX3 TX3 1, z ∈ jm_W0 := by
  show ∀ z ∈ [Cond.laysFinal RX3 "HackHouse$Stones" "places" "[I"], z ∈ jm_W0
  exact List.forall_mem_cons.mpr ⟨jm_in 96 rfl rfl, fun _ h => absurd h List.not_mem_nil⟩
set_option maxRecDepth 100000 in
theorem jw_u_4 : ∀ z ∈ u_ws RX4 TX4 3, z ∈ jm_W0 := by
  show ∀ z ∈ [Cond.lays RX4 "HackHouse$Team" "won" "I", Cond.lays RX4 "HackHouse$Team" "drew" "I", Cond.lays RX4 "HackHouse$Team" "lastStones" "I"], z ∈ jm_W0
  exact List.forall_mem_cons.mpr ⟨jm_in 70 rfl rfl, List.forall_mem_cons.mpr ⟨jm_in 72 rfl rfl, List.forall_mem_cons.mpr ⟨jm_in 74 rfl rfl, fun _ h => absurd h List.not_mem_nil⟩⟩⟩
set_option maxRecDepth 100000 in
theorem jw_u_5 : ∀ z ∈ u_ws RX5 TX5 9, z ∈ jm_W0 := by
  show ∀ z ∈ [Cond.laysFinal RX5 "HackHouse" "sheets" "[LHackHouse$Sheet;", Cond.laysFinal RX5 "HackHouse" "teams" "[LHackHouse$Team;", Cond.laysFinal RX5 "HackHouse" "games" "[LHackHouse$Game;", Cond.laysFinal RX5 "HackHouse" "slide" "LHackHouse$Slide;", Cond.lays RX5 "HackHouse" "gamesPlanned" "I", Cond.lays RX5 "HackHouse" "now" "I", Cond.lays RX5 "HackHouse" "crewHours" "I", Cond.lays RX5 "HackHouse" "crewSheet" "I", Cond.lays RX5 "HackHouse" "crewLeft" "I"], z ∈ jm_W0
  exact List.forall_mem_cons.mpr ⟨jm_in 140 rfl rfl, List.forall_mem_cons.mpr ⟨jm_in 142 rfl rfl, List.forall_mem_cons.mpr ⟨jm_in 144 rfl rfl, List.forall_mem_cons.mpr ⟨jm_in 146 rfl rfl, List.forall_mem_cons.mpr ⟨jm_in 148 rfl rfl, List.forall_mem_cons.mpr ⟨jm_in 150 rfl rfl, List.forall_mem_cons.mpr ⟨jm_in 152 rfl rfl, List.forall_mem_cons.mpr ⟨jm_in 154 rfl rfl, List.forall_mem_cons.mpr ⟨jm_in 156 rfl rfl, fun _ h => absurd h List.not_mem_nil⟩⟩⟩⟩⟩⟩⟩⟩⟩
set_option maxRecDepth 100000 in
theorem okX0_init : jm_okI RX0 yX0_init cX0_init 5 4 := ⟨jm_in 490 rfl rfl, jw_n_RX0, jm_in 491 rfl rfl, rfl, rfl, ⟨by decide +kernel, by decide +kernel, by decide +kernel⟩, by decide +kernel⟩
def wX0_init : List Cond := Cond.code yX0_init cX0_init 5 none :: jm_W0
set_option maxRecDepth 100000 in
theorem okX0_isOnSheet : jm_okV RX0 yX0_isOnSheet cX0_isOnSheet 1 (some .boolean) 0 := ⟨jm_in 559 rfl rfl, jm_in 560 rfl rfl, jw_n_RX0, jm_in 561 rfl rfl, rfl, ⟨by decide +kernel, by decide +kernel, by decide +kernel⟩, by decide +kernel⟩
def wX0_isOnSheet : List Cond := Cond.code yX0_isOnSheet cX0_isOnSheet 1 (some .boolean) :: jm_W0
set_option maxRecDepth 100000 in
theorem okX0_nextSide : jm_okV RX0 yX0_nextSide cX0_nextSide 1 (some .int) 0 := ⟨jm_in 338 rfl rfl, jm_in 339 rfl rfl, jw_n_RX0, jm_in 340 rfl rfl, rfl, ⟨by decide +kernel, by decide +kernel, by decide +kernel⟩, by decide +kernel⟩
def wX0_nextSide : List Cond := Cond.code yX0_nextSide cX0_nextSide 1 (some .int) :: jm_W0
set_option maxRecDepth 100000 in
theorem okX0_nextStone : jm_okV RX0 yX0_nextStone cX0_nextStone 1 (some .int) 0 := ⟨jm_in 394 rfl rfl, jm_in 395 rfl rfl, jw_n_RX0, jm_in 396 rfl rfl, rfl, ⟨by decide +kernel, by decide +kernel, by decide +kernel⟩, by decide +kernel⟩
def wX0_nextStone : List Cond := Cond.code yX0_nextStone cX0_nextStone 1 (some .int) :: jm_W0
set_option maxRecDepth 100000 in
theorem okX0_takeDraw : jm_okV RX0 yX0_takeDraw cX0_takeDraw 2 none 1 := ⟨jm_in 569 rfl rfl, jm_in 570 rfl rfl, jw_n_RX0, jm_in 571 rfl rfl, rfl, ⟨by decide +kernel, by decide +kernel, by decide +kernel⟩, by decide +kernel⟩
def wX0_takeDraw : List Cond := Cond.code yX0_takeDraw cX0_takeDraw 2 none :: jm_W0
set_option maxRecDepth 100000 in
theorem okX0_closeEnd : jm_okV RX0 yX0_closeEnd cX0_closeEnd 2 none 0 := ⟨jm_in 578 rfl rfl, jm_in 579 rfl rfl, jw_n_RX0, jm_in 580 rfl rfl, rfl, ⟨by decide +kernel, by decide +kernel, by decide +kernel⟩, by decide +kernel⟩
def wX0_closeEnd : List Cond := Cond.code yX0_closeEnd cX0_closeEnd 2 none :: jm_W0
set_option maxRecDepth 100000 in
theorem okX1_init : jm_okI RX1 yX1_init cX1_init 1 0 := ⟨jm_in 42 rfl rfl, jw_n_RX1, jm_in 43 rfl rfl, rfl, rfl, ⟨by decide +kernel, by decide +kernel, by decide +kernel⟩, by decide +kernel⟩
def wX1_init : List Cond := Cond.code yX1_init cX1_init 1 none :: jm_W0
set_option maxRecDepth 100000 in
theorem okX1_isReady : jm_okV RX1 yX1_isReady cX1_isReady 1 (some .boolean) 0 := ⟨jm_in 316 rfl rfl, jm_in 317 rfl rfl, jw_n_RX1, jm_in 318 rfl rfl, rfl, ⟨by decide +kernel, by decide +kernel, by decide +kernel⟩, by decide +kernel⟩
def wX1_isReady : List Cond := Cond.code yX1_isReady cX1_isReady 1 (some .boolean) :: jm_W0
set_option maxRecDepth 100000 in
theorem okX1_wornAt : jm_okV RX1 yX1_wornAt cX1_wornAt 4 (some .int) 2 := ⟨jm_in 415 rfl rfl, jm_in 416 rfl rfl, jw_n_RX1, jm_in 417 rfl rfl, rfl, ⟨by decide +kernel, by decide +kernel, by decide +kernel⟩, by decide +kernel⟩
def wX1_wornAt : List Cond := Cond.code yX1_wornAt cX1_wornAt 4 (some .int) :: jm_W0
set_option maxRecDepth 100000 in
theorem okX1_wearDown : jm_okV RX1 yX1_wearDown cX1_wearDown 4 none 2 := ⟨jm_in 427 rfl rfl, jm_in 428 rfl rfl, jw_n_RX1, jm_in 429 rfl rfl, rfl, ⟨by decide +kernel, by decide +kernel, by decide +kernel⟩, by decide +kernel⟩
def wX1_wearDown : List Cond := Cond.code yX1_wearDown cX1_wearDown 4 none :: jm_W0
set_option maxRecDepth 100000 in
theorem okX1_allWorn : jm_okV RX1 yX1_allWorn cX1_allWorn 3 (some .int) 0 := ⟨jm_in 324 rfl rfl, jm_in 325 rfl rfl, jw_n_RX1, jm_in 326 rfl rfl, rfl, ⟨by decide +kernel, by decide +kernel, by decide +kernel⟩, by decide +kernel⟩
def wX1_allWorn : List Cond := Cond.code yX1_allWorn cX1_allWorn 3 (some .int) :: jm_W0
set_option maxRecDepth 100000 in
theorem okX1_renew : jm_okV RX1 yX1_renew cX1_renew 2 none 0 := ⟨jm_in 293 rfl rfl, jm_in 294 rfl rfl, jw_n_RX1, jm_in 295 rfl rfl, rfl, ⟨by decide +kernel, by decide +kernel, by decide +kernel⟩, by decide +kernel⟩
def wX1_renew : List Cond := Cond.code yX1_renew cX1_renew 2 none :: jm_W0
set_option maxRecDepth 100000 in
theorem okX2_init : jm_okI RX2 yX2_init cX2_init 1 0 := ⟨jm_in 82 rfl rfl, jw_n_RX2, jm_in 83 rfl rfl, rfl, rfl, ⟨by decide +kernel, by decide +kernel, by decide +kernel⟩, by decide +kernel⟩
def wX2_init : List Cond := Cond.code yX2_init cX2_init 1 none :: jm_W0
set_option maxRecDepth 100000 in
theorem okX2_aim : jm_okV RX2 yX2_aim cX2_aim 6 none 5 := ⟨jm_in 390 rfl rfl, jm_in 391 rfl rfl, jw_n_RX2, jm_in 392 rfl rfl, rfl, ⟨by decide +kernel, by decide +kernel, by decide +kernel⟩, by decide +kernel⟩
def wX2_aim : List Cond := Cond.code yX2_aim cX2_aim 6 none :: jm_W0
set_option maxRecDepth 100000 in
theorem okX2_run : jm_okV RX2 yX2_run cX2_run 8 (some .int) 4 := ⟨jm_in 399 rfl rfl, jm_in 400 rfl rfl, jw_n_RX2, jm_in 401 rfl rfl, rfl, ⟨by decide +kernel, by decide +kernel, by decide +kernel⟩, by decide +kernel⟩
def wX2_run : List Cond := Cond.code yX2_run cX2_run 8 (some .int) :: jm_W0
set_option maxRecDepth 100000 in
theorem okX2_aimPushed : jm_okV RX2 yX2_aimPushed cX2_aimPushed 2 none 1 := ⟨jm_in 449 rfl rfl, jm_in 450 rfl rfl, jw_n_RX2, jm_in 451 rfl rfl, rfl, ⟨by decide +kernel, by decide +kernel, by decide +kernel⟩, by decide +kernel⟩
def wX2_aimPushed : List Cond := Cond.code yX2_aimPushed cX2_aimPushed 2 none :: jm_W0
set_option maxRecDepth 100000 in
theorem okX2_glide : jm_okV RX2 yX2_glide cX2_glide 3 (some .int) 1 := ⟨jm_in 407 rfl rfl, jm_in 408 rfl rfl, jw_n_RX2, jm_in 409 rfl rfl, rfl, ⟨by decide +kernel, by decide +kernel, by decide +kernel⟩, by decide +kernel⟩
def wX2_glide : List Cond := Cond.code yX2_glide cX2_glide 3 (some .int) :: jm_W0
set_option maxRecDepth 100000 in
theorem okX2_isSwept : jm_okV RX2 yX2_isSwept cX2_isSwept 2 (some .boolean) 1 := ⟨jm_in 419 rfl rfl, jm_in 420 rfl rfl, jw_n_RX2, jm_in 421 rfl rfl, rfl, ⟨by decide +kernel, by decide +kernel, by decide +kernel⟩, by decide +kernel⟩
def wX2_isSwept : List Cond := Cond.code yX2_isSwept cX2_isSwept 2 (some .boolean) :: jm_W0
set_option maxRecDepth 100000 in
theorem okX2_restingPlace : jm_okV RX2 yX2_restingPlace cX2_restingPlace 1 (some .int) 0 := ⟨jm_in 431 rfl rfl, jm_in 432 rfl rfl, jw_n_RX2, jm_in 433 rfl rfl, rfl, ⟨by decide +kernel, by decide +kernel, by decide +kernel⟩, by decide +kernel⟩
def wX2_restingPlace : List Cond := Cond.code yX2_restingPlace cX2_restingPlace 1 (some .int) :: jm_W0
set_option maxRecDepth 100000 in
theorem okX2_stepsForward : jm_okV RX2 yX2_stepsForward cX2_stepsForward 4 (some .boolean) 1 := ⟨jm_in 411 rfl rfl, jm_in 412 rfl rfl, jw_n_RX2, jm_in 413 rfl rfl, rfl, ⟨by decide +kernel, by decide +kernel, by decide +kernel⟩, by decide +kernel⟩
def wX2_stepsForward : List Cond := Cond.code yX2_stepsForward cX2_stepsForward 4 (some .boolean) :: jm_W0
set_option maxRecDepth 100000 in
theorem okX2_mustMoveAside : jm_okV RX2 yX2_mustMoveAside cX2_mustMoveAside 1 (some .boolean) 0 := ⟨jm_in 435 rfl rfl, jm_in 436 rfl rfl, jw_n_RX2, jm_in 437 rfl rfl, rfl, ⟨by decide +kernel, by decide +kernel, by decide +kernel⟩, by decide +kernel⟩
def wX2_mustMoveAside : List Cond := Cond.code yX2_mustMoveAside cX2_mustMoveAside 1 (some .boolean) :: jm_W0
set_option maxRecDepth 100000 in
theorem okX2_movesAside : jm_okV RX2 yX2_movesAside cX2_movesAside 1 (some .boolean) 0 := ⟨jm_in 440 rfl rfl, jm_in 441 rfl rfl, jw_n_RX2, jm_in 442 rfl rfl, rfl, ⟨by decide +kernel, by decide +kernel, by decide +kernel⟩, by decide +kernel⟩
def wX2_movesAside : List Cond := Cond.code yX2_movesAside cX2_movesAside 1 (some .boolean) :: jm_W0
set_option maxRecDepth 100000 in
theorem okX3_init : jm_okI RX3 yX3_init cX3_init 1 0 := ⟨jm_in 88 rfl rfl, jw_n_RX3, jm_in 89 rfl rfl, rfl, rfl, ⟨by decide +kernel, by decide +kernel, by decide +kernel⟩, by decide +kernel⟩
def wX3_init : List Cond := Cond.code yX3_init cX3_init 1 none :: jm_W0
set_option maxRecDepth 100000 in
theorem okX3_takeAway : jm_okV RX3 yX3_takeAway cX3_takeAway 2 none 0 := ⟨jm_in 92 rfl rfl, jm_in 93 rfl rfl, jw_n_RX3, jm_in 94 rfl rfl, rfl, ⟨by decide +kernel, by decide +kernel, by decide +kernel⟩, by decide +kernel⟩
def wX3_takeAway : List Cond := Cond.code yX3_takeAway cX3_takeAway 2 none :: jm_W0
set_option maxRecDepth 100000 in
theorem okX3_copyFrom : jm_okV RX3 yX3_copyFrom cX3_copyFrom 3 none 1 := ⟨jm_in 403 rfl rfl, jm_in 404 rfl rfl, jw_n_RX3, jm_in 405 rfl rfl, rfl, ⟨by decide +kernel, by decide +kernel, by decide +kernel⟩, by decide +kernel⟩
def wX3_copyFrom : List Cond := Cond.code yX3_copyFrom cX3_copyFrom 3 none :: jm_W0
set_option maxRecDepth 100000 in
theorem okX3_placeOf : jm_okV RX3 yX3_placeOf cX3_placeOf 2 (some .int) 1 := ⟨jm_in 354 rfl rfl, jm_in 355 rfl rfl, jw_n_RX3, jm_in 356 rfl rfl, rfl, ⟨by decide +kernel, by decide +kernel, by decide +kernel⟩, by decide +kernel⟩
def wX3_placeOf : List Cond := Cond.code yX3_placeOf cX3_placeOf 2 (some .int) :: jm_W0
set_option maxRecDepth 100000 in
theorem okX3_put : jm_okV RX3 yX3_put cX3_put 3 none 2 := ⟨jm_in 444 rfl rfl, jm_in 445 rfl rfl, jw_n_RX3, jm_in 446 rfl rfl, rfl, ⟨by decide +kernel, by decide +kernel, by decide +kernel⟩, by decide +kernel⟩
def wX3_put : List Cond := Cond.code yX3_put cX3_put 3 none :: jm_W0
set_option maxRecDepth 100000 in
theorem okX3_lyingAt : jm_okV RX3 yX3_lyingAt cX3_lyingAt 5 (some .int) 2 := ⟨jm_in 423 rfl rfl, jm_in 424 rfl rfl, jw_n_RX3, jm_in 425 rfl rfl, rfl, ⟨by decide +kernel, by decide +kernel, by decide +kernel⟩, by decide +kernel⟩
def wX3_lyingAt : List Cond := Cond.code yX3_lyingAt cX3_lyingAt 5 (some .int) :: jm_W0
set_option maxRecDepth 100000 in
theorem okX3_score : jm_okV RX3 yX3_score cX3_score 3 (some .int) 0 := ⟨jm_in 346 rfl rfl, jm_in 347 rfl rfl, jw_n_RX3, jm_in 348 rfl rfl, rfl, ⟨by decide +kernel, by decide +kernel, by decide +kernel⟩, by decide +kernel⟩
def wX3_score : List Cond := Cond.code yX3_score cX3_score 3 (some .int) :: jm_W0
set_option maxRecDepth 100000 in
theorem okX3_nearest : jm_okV RX3 yX3_nearest cX3_nearest 4 (some .int) 1 := ⟨jm_in 350 rfl rfl, jm_in 351 rfl rfl, jw_n_RX3, jm_in 352 rfl rfl, rfl, ⟨by decide +kernel, by decide +kernel, by decide +kernel⟩, by decide +kernel⟩
def wX3_nearest : List Cond := Cond.code yX3_nearest cX3_nearest 4 (some .int) :: jm_W0
set_option maxRecDepth 100000 in
theorem okX3_countNearer : jm_okV RX3 yX3_countNearer cX3_countNearer 5 (some .int) 2 := ⟨jm_in 365 rfl rfl, jm_in 366 rfl rfl, jw_n_RX3, jm_in 367 rfl rfl, rfl, ⟨by decide +kernel, by decide +kernel, by decide +kernel⟩, by decide +kernel⟩
def wX3_countNearer : List Cond := Cond.code yX3_countNearer cX3_countNearer 5 (some .int) :: jm_W0
set_option maxRecDepth 100000 in
theorem okX3_scoreOneByOne : jm_okV RX3 yX3_scoreOneByOne cX3_scoreOneByOne 6 (some .int) 0 := ⟨jm_in 373 rfl rfl, jm_in 374 rfl rfl, jw_n_RX3, jm_in 375 rfl rfl, rfl, ⟨by decide +kernel, by decide +kernel, by decide +kernel⟩, by decide +kernel⟩
def wX3_scoreOneByOne : List Cond := Cond.code yX3_scoreOneByOne cX3_scoreOneByOne 6 (some .int) :: jm_W0
set_option maxRecDepth 100000 in
theorem okX4_init : jm_okI RX4 yX4_init cX4_init 1 0 := ⟨jm_in 62 rfl rfl, jw_n_RX4, jm_in 63 rfl rfl, rfl, rfl, ⟨by decide +kernel, by decide +kernel, by decide +kernel⟩, by decide +kernel⟩
def wX4_init : List Cond := Cond.code yX4_init cX4_init 1 none :: jm_W0
set_option maxRecDepth 100000 in
theorem okX4_lastStonesPerGame : jm_okV RX4 yX4_lastStonesPerGame cX4_lastStonesPerGame 1 (some .int) 0 := ⟨jm_in 471 rfl rfl, jm_in 472 rfl rfl, jw_n_RX4, jm_in 473 rfl rfl, rfl, ⟨by decide +kernel, by decide +kernel, by decide +kernel⟩, by decide +kernel⟩
def wX4_lastStonesPerGame : List Cond := Cond.code yX4_lastStonesPerGame cX4_lastStonesPerGame 1 (some .int) :: jm_W0
set_option maxRecDepth 100000 in
theorem okX5_init : jm_okI RX5 yX5_init cX5_init 2 0 := ⟨jm_in 33 rfl rfl, jw_n_RX5, jm_in 34 rfl rfl, rfl, rfl, ⟨by decide +kernel, by decide +kernel, by decide +kernel⟩, by decide +kernel⟩
def wX5_init : List Cond := Cond.code yX5_init cX5_init 2 none :: jm_W0
set_option maxRecDepth 100000 in
theorem okX5_plan : jm_okV RX5 yX5_plan cX5_plan 6 (some .int) 4 := ⟨jm_in 482 rfl rfl, jm_in 483 rfl rfl, jw_n_RX5, jm_in 484 rfl rfl, rfl, ⟨by decide +kernel, by decide +kernel, by decide +kernel⟩, by decide +kernel⟩
def wX5_plan : List Cond := Cond.code yX5_plan cX5_plan 6 (some .int) :: jm_W0
set_option maxRecDepth 100000 in
theorem okX5_crew : jm_okV RX5 yX5_crew cX5_crew 3 (some .int) 1 := ⟨jm_in 174 rfl rfl, jm_in 175 rfl rfl, jw_n_RX5, jm_in 176 rfl rfl, rfl, ⟨by decide +kernel, by decide +kernel, by decide +kernel⟩, by decide +kernel⟩
def wX5_crew : List Cond := Cond.code yX5_crew cX5_crew 3 (some .int) :: jm_W0
set_option maxRecDepth 100000 in
theorem okX5_shoot : jm_okV RX5 yX5_shoot cX5_shoot 9 (some .int) 6 := ⟨jm_in 551 rfl rfl, jm_in 552 rfl rfl, jw_n_RX5, jm_in 553 rfl rfl, rfl, ⟨by decide +kernel, by decide +kernel, by decide +kernel⟩, by decide +kernel⟩
def wX5_shoot : List Cond := Cond.code yX5_shoot cX5_shoot 9 (some .int) :: jm_W0
set_option maxRecDepth 100000 in
theorem okX5_pass : jm_okV RX5 yX5_pass cX5_pass 3 (some .int) 1 := ⟨jm_in 249 rfl rfl, jm_in 250 rfl rfl, jw_n_RX5, jm_in 251 rfl rfl, rfl, ⟨by decide +kernel, by decide +kernel, by decide +kernel⟩, by decide +kernel⟩
def wX5_pass : List Cond := Cond.code yX5_pass cX5_pass 3 (some .int) :: jm_W0
set_option maxRecDepth 100000 in
theorem okX5_hour : jm_okV RX5 yX5_hour cX5_hour 1 (some .int) 0 := ⟨jm_in 160 rfl rfl, jm_in 161 rfl rfl, jw_n_RX5, jm_in 162 rfl rfl, rfl, ⟨by decide +kernel, by decide +kernel, by decide +kernel⟩, by decide +kernel⟩
def wX5_hour : List Cond := Cond.code yX5_hour cX5_hour 1 (some .int) :: jm_W0
set_option maxRecDepth 100000 in
theorem okX5_ofSheet : jm_okV RX5 yX5_ofSheet cX5_ofSheet 4 (some .int) 2 := ⟨jm_in 320 rfl rfl, jm_in 321 rfl rfl, jw_n_RX5, jm_in 322 rfl rfl, rfl, ⟨by decide +kernel, by decide +kernel, by decide +kernel⟩, by decide +kernel⟩
def wX5_ofSheet : List Cond := Cond.code yX5_ofSheet cX5_ofSheet 4 (some .int) :: jm_W0
set_option maxRecDepth 100000 in
theorem okX5_wear : jm_okV RX5 yX5_wear cX5_wear 5 (some .int) 3 := ⟨jm_in 613 rfl rfl, jm_in 614 rfl rfl, jw_n_RX5, jm_in 615 rfl rfl, rfl, ⟨by decide +kernel, by decide +kernel, by decide +kernel⟩, by decide +kernel⟩
def wX5_wear : List Cond := Cond.code yX5_wear cX5_wear 5 (some .int) :: jm_W0
set_option maxRecDepth 100000 in
theorem okX5_ofGame : jm_okV RX5 yX5_ofGame cX5_ofGame 4 (some .int) 2 := ⟨jm_in 329 rfl rfl, jm_in 330 rfl rfl, jw_n_RX5, jm_in 331 rfl rfl, rfl, ⟨by decide +kernel, by decide +kernel, by decide +kernel⟩, by decide +kernel⟩
def wX5_ofGame : List Cond := Cond.code yX5_ofGame cX5_ofGame 4 (some .int) :: jm_W0
set_option maxRecDepth 100000 in
theorem okX5_stone : jm_okV RX5 yX5_stone cX5_stone 5 (some .int) 3 := ⟨jm_in 604 rfl rfl, jm_in 605 rfl rfl, jw_n_RX5, jm_in 606 rfl rfl, rfl, ⟨by decide +kernel, by decide +kernel, by decide +kernel⟩, by decide +kernel⟩
def wX5_stone : List Cond := Cond.code yX5_stone cX5_stone 5 (some .int) :: jm_W0
set_option maxRecDepth 100000 in
theorem okX5_wouldScore : jm_okV RX5 yX5_wouldScore cX5_wouldScore 2 (some .int) 1 := ⟨jm_in 342 rfl rfl, jm_in 343 rfl rfl, jw_n_RX5, jm_in 344 rfl rfl, rfl, ⟨by decide +kernel, by decide +kernel, by decide +kernel⟩, by decide +kernel⟩
def wX5_wouldScore : List Cond := Cond.code yX5_wouldScore cX5_wouldScore 2 (some .int) :: jm_W0
set_option maxRecDepth 100000 in
theorem okX5_wouldScoreAnew : jm_okV RX5 yX5_wouldScoreAnew cX5_wouldScoreAnew 2 (some .int) 1 := ⟨jm_in 369 rfl rfl, jm_in 370 rfl rfl, jw_n_RX5, jm_in 371 rfl rfl, rfl, ⟨by decide +kernel, by decide +kernel, by decide +kernel⟩, by decide +kernel⟩
def wX5_wouldScoreAnew : List Cond := Cond.code yX5_wouldScoreAnew cX5_wouldScoreAnew 2 (some .int) :: jm_W0
set_option maxRecDepth 100000 in
theorem okX5_tries : jm_okV RX5 yX5_tries cX5_tries 8 (some .int) 6 := ⟨jm_in 591 rfl rfl, jm_in 592 rfl rfl, jw_n_RX5, jm_in 593 rfl rfl, rfl, ⟨by decide +kernel, by decide +kernel, by decide +kernel⟩, by decide +kernel⟩
def wX5_tries : List Cond := Cond.code yX5_tries cX5_tries 8 (some .int) :: jm_W0
set_option maxRecDepth 100000 in
theorem okX5_advice : jm_okV RX5 yX5_advice cX5_advice 9 (some .int) 1 := ⟨jm_in 377 rfl rfl, jm_in 378 rfl rfl, jw_n_RX5, jm_in 379 rfl rfl, rfl, ⟨by decide +kernel, by decide +kernel, by decide +kernel⟩, by decide +kernel⟩
def wX5_advice : List Cond := Cond.code yX5_advice cX5_advice 9 (some .int) :: jm_W0
set_option maxRecDepth 100000 in
theorem okX5_standing : jm_okV RX5 yX5_standing cX5_standing 4 (some .int) 1 := ⟨jm_in 453 rfl rfl, jm_in 454 rfl rfl, jw_n_RX5, jm_in 455 rfl rfl, rfl, ⟨by decide +kernel, by decide +kernel, by decide +kernel⟩, by decide +kernel⟩
def wX5_standing : List Cond := Cond.code yX5_standing cX5_standing 4 (some .int) :: jm_W0
set_option maxRecDepth 100000 in
theorem okX5_ofTeam : jm_okV RX5 yX5_ofTeam cX5_ofTeam 4 (some .int) 2 := ⟨jm_in 475 rfl rfl, jm_in 476 rfl rfl, jw_n_RX5, jm_in 477 rfl rfl, rfl, ⟨by decide +kernel, by decide +kernel, by decide +kernel⟩, by decide +kernel⟩
def wX5_ofTeam : List Cond := Cond.code yX5_ofTeam cX5_ofTeam 4 (some .int) :: jm_W0
set_option maxRecDepth 100000 in
theorem okX5_isWithin : jm_okS RX5 yX5_isWithin cX5_isWithin 3 (some .boolean) 3 := ⟨jm_in 178 rfl rfl, jw_n_RX5, jm_in 179 rfl rfl, rfl, ⟨by decide +kernel, by decide +kernel, by decide +kernel⟩, by decide +kernel⟩
def wX5_isWithin : List Cond := Cond.code yX5_isWithin cX5_isWithin 3 (some .boolean) :: jm_W0
set_option maxRecDepth 100000 in
theorem okX5_isCell : jm_okS RX5 yX5_isCell cX5_isCell 2 (some .boolean) 2 := ⟨jm_in 617 rfl rfl, jw_n_RX5, jm_in 618 rfl rfl, rfl, ⟨by decide +kernel, by decide +kernel, by decide +kernel⟩, by decide +kernel⟩
def wX5_isCell : List Cond := Cond.code yX5_isCell cX5_isCell 2 (some .boolean) :: jm_W0
set_option maxRecDepth 100000 in
theorem okX5_isShot : jm_okS RX5 yX5_isShot cX5_isShot 5 (some .boolean) 5 := ⟨jm_in 555 rfl rfl, jw_n_RX5, jm_in 556 rfl rfl, rfl, ⟨by decide +kernel, by decide +kernel, by decide +kernel⟩, by decide +kernel⟩
def wX5_isShot : List Cond := Cond.code yX5_isShot cX5_isShot 5 (some .boolean) :: jm_W0
set_option maxRecDepth 100000 in
theorem okX5_distanceOf : jm_okS RX5 yX5_distanceOf cX5_distanceOf 3 (some .int) 1 := ⟨jm_in 358 rfl rfl, jw_n_RX5, jm_in 359 rfl rfl, rfl, ⟨by decide +kernel, by decide +kernel, by decide +kernel⟩, by decide +kernel⟩
def wX5_distanceOf : List Cond := Cond.code yX5_distanceOf cX5_distanceOf 3 (some .int) :: jm_W0
set_option maxRecDepth 100000 in
theorem okX5_gameOf : jm_okV RX5 yX5_gameOf cX5_gameOf 3 (some (.object "HackHouse$Game")) 1 := ⟨jm_in 334 rfl rfl, jm_in 7 rfl rfl, jw_n_RX5, jm_in 335 rfl rfl, rfl, ⟨by decide +kernel, by decide +kernel, by decide +kernel⟩, by decide +kernel⟩
def wX5_gameOf : List Cond := Cond.code yX5_gameOf cX5_gameOf 3 (some (.object "HackHouse$Game")) :: jm_W0
set_option maxRecDepth 100000 in
theorem okX5_sheetOf : jm_okV RX5 yX5_sheetOf cX5_sheetOf 3 (some (.object "HackHouse$Sheet")) 1 := ⟨jm_in 274 rfl rfl, jm_in 2 rfl rfl, jw_n_RX5, jm_in 275 rfl rfl, rfl, ⟨by decide +kernel, by decide +kernel, by decide +kernel⟩, by decide +kernel⟩
def wX5_sheetOf : List Cond := Cond.code yX5_sheetOf cX5_sheetOf 3 (some (.object "HackHouse$Sheet")) :: jm_W0
set_option maxRecDepth 100000 in
theorem okX5_teamOf : jm_okV RX5 yX5_teamOf cX5_teamOf 3 (some (.object "HackHouse$Team")) 1 := ⟨jm_in 467 rfl rfl, jm_in 12 rfl rfl, jw_n_RX5, jm_in 468 rfl rfl, rfl, ⟨by decide +kernel, by decide +kernel, by decide +kernel⟩, by decide +kernel⟩
def wX5_teamOf : List Cond := Cond.code yX5_teamOf cX5_teamOf 3 (some (.object "HackHouse$Team")) :: jm_W0
set_option maxRecDepth 100000 in
theorem okX5_settleDraw : jm_okV RX5 yX5_settleDraw cX5_settleDraw 4 none 2 := ⟨jm_in 566 rfl rfl, jm_in 13 rfl rfl, jw_n_RX5, jm_in 567 rfl rfl, rfl, ⟨by decide +kernel, by decide +kernel, by decide +kernel⟩, by decide +kernel⟩
def wX5_settleDraw : List Cond := Cond.code yX5_settleDraw cX5_settleDraw 4 none :: jm_W0
set_option maxRecDepth 100000 in
theorem okX5_settleStone : jm_okV RX5 yX5_settleStone cX5_settleStone 2 none 1 := ⟨jm_in 575 rfl rfl, jm_in 14 rfl rfl, jw_n_RX5, jm_in 576 rfl rfl, rfl, ⟨by decide +kernel, by decide +kernel, by decide +kernel⟩, by decide +kernel⟩
def wX5_settleStone : List Cond := Cond.code yX5_settleStone cX5_settleStone 2 none :: jm_W0
set_option maxRecDepth 100000 in
theorem okX5_closeGame : jm_okV RX5 yX5_closeGame cX5_closeGame 2 none 1 := ⟨jm_in 585 rfl rfl, jm_in 15 rfl rfl, jw_n_RX5, jm_in 586 rfl rfl, rfl, ⟨by decide +kernel, by decide +kernel, by decide +kernel⟩, by decide +kernel⟩
def wX5_closeGame : List Cond := Cond.code yX5_closeGame cX5_closeGame 2 none :: jm_W0
set_option maxRecDepth 100000 in
theorem okX5_workAnHour : jm_okV RX5 yX5_workAnHour cX5_workAnHour 1 none 0 := ⟨jm_in 270 rfl rfl, jm_in 1 rfl rfl, jw_n_RX5, jm_in 271 rfl rfl, rfl, ⟨by decide +kernel, by decide +kernel, by decide +kernel⟩, by decide +kernel⟩
def wX5_workAnHour : List Cond := Cond.code yX5_workAnHour cX5_workAnHour 1 none :: jm_W0
set_option maxRecDepth 100000 in
theorem okX5_sheetToMake : jm_okV RX5 yX5_sheetToMake cX5_sheetToMake 6 (some .int) 0 := ⟨jm_in 298 rfl rfl, jm_in 3 rfl rfl, jw_n_RX5, jm_in 299 rfl rfl, rfl, ⟨by decide +kernel, by decide +kernel, by decide +kernel⟩, by decide +kernel⟩
def wX5_sheetToMake : List Cond := Cond.code yX5_sheetToMake cX5_sheetToMake 6 (some .int) :: jm_W0
set_option maxRecDepth 100000 in
theorem okX5_leastHourWished : jm_okV RX5 yX5_leastHourWished cX5_leastHourWished 5 (some .int) 1 := ⟨jm_in 302 rfl rfl, jm_in 4 rfl rfl, jw_n_RX5, jm_in 303 rfl rfl, rfl, ⟨by decide +kernel, by decide +kernel, by decide +kernel⟩, by decide +kernel⟩
def wX5_leastHourWished : List Cond := Cond.code yX5_leastHourWished cX5_leastHourWished 5 (some .int) :: jm_W0
set_option maxRecDepth 100000 in
theorem okX5_beginGames : jm_okV RX5 yX5_beginGames cX5_beginGames 5 none 0 := ⟨jm_in 309 rfl rfl, jm_in 5 rfl rfl, jw_n_RX5, jm_in 310 rfl rfl, rfl, ⟨by decide +kernel, by decide +kernel, by decide +kernel⟩, by decide +kernel⟩
def wX5_beginGames : List Cond := Cond.code yX5_beginGames cX5_beginGames 5 none :: jm_W0
set_option maxRecDepth 100000 in
theorem okX5_sheetToPlay : jm_okV RX5 yX5_sheetToPlay cX5_sheetToPlay 3 (some .int) 1 := ⟨jm_in 313 rfl rfl, jm_in 6 rfl rfl, jw_n_RX5, jm_in 314 rfl rfl, rfl, ⟨by decide +kernel, by decide +kernel, by decide +kernel⟩, by decide +kernel⟩
def wX5_sheetToPlay : List Cond := Cond.code yX5_sheetToPlay cX5_sheetToPlay 3 (some .int) :: jm_W0
set_option maxRecDepth 100000 in
theorem okX5_worthOfShot : jm_okV RX5 yX5_worthOfShot cX5_worthOfShot 6 (some .int) 4 := ⟨jm_in 383 rfl rfl, jm_in 8 rfl rfl, jw_n_RX5, jm_in 384 rfl rfl, rfl, ⟨by decide +kernel, by decide +kernel, by decide +kernel⟩, by decide +kernel⟩
def wX5_worthOfShot : List Cond := Cond.code yX5_worthOfShot cX5_worthOfShot 6 (some .int) :: jm_W0
set_option maxRecDepth 100000 in
theorem okX5_worthOfTry : jm_okV RX5 yX5_worthOfTry cX5_worthOfTry 6 (some .int) 4 := ⟨jm_in 387 rfl rfl, jm_in 9 rfl rfl, jw_n_RX5, jm_in 388 rfl rfl, rfl, ⟨by decide +kernel, by decide +kernel, by decide +kernel⟩, by decide +kernel⟩
def wX5_worthOfTry : List Cond := Cond.code yX5_worthOfTry cX5_worthOfTry 6 (some .int) :: jm_W0
set_option maxRecDepth 100000 in
theorem okX5_teamsAheadOf : jm_okV RX5 yX5_teamsAheadOf cX5_teamsAheadOf 4 (some .int) 1 := ⟨jm_in 459 rfl rfl, jm_in 10 rfl rfl, jw_n_RX5, jm_in 460 rfl rfl, rfl, ⟨by decide +kernel, by decide +kernel, by decide +kernel⟩, by decide +kernel⟩
def wX5_teamsAheadOf : List Cond := Cond.code yX5_teamsAheadOf cX5_teamsAheadOf 4 (some .int) :: jm_W0
set_option maxRecDepth 100000 in
theorem okX5_isAhead : jm_okV RX5 yX5_isAhead cX5_isAhead 5 (some .boolean) 2 := ⟨jm_in 463 rfl rfl, jm_in 11 rfl rfl, jw_n_RX5, jm_in 464 rfl rfl, rfl, ⟨by decide +kernel, by decide +kernel, by decide +kernel⟩, by decide +kernel⟩
def wX5_isAhead : List Cond := Cond.code yX5_isAhead cX5_isAhead 5 (some .boolean) :: jm_W0
set_option maxRecDepth 100000 in
theorem okL_drawn : jm_okS RL yL_drawn cL_drawn 3 (some .int) 2 := ⟨jm_in 164 rfl rfl, jw_n_RL, jm_in 165 rfl rfl, rfl, ⟨by decide +kernel, by decide +kernel, by decide +kernel⟩, by decide +kernel⟩
def wL_drawn : List Cond := Cond.code yL_drawn cL_drawn 3 (some .int) :: jm_W0
set_option maxRecDepth 100000 in
theorem okL_mirrored : jm_okS RL yL_mirrored cL_mirrored 1 (some .int) 1 := ⟨jm_in 595 rfl rfl, jw_n_RL, jm_in 596 rfl rfl, rfl, ⟨by decide +kernel, by decide +kernel, by decide +kernel⟩, by decide +kernel⟩
def wL_mirrored : List Cond := Cond.code yL_mirrored cL_mirrored 1 (some .int) :: jm_W0
set_option maxRecDepth 100000 in
theorem okL_areAlike : jm_okS RL yL_areAlike cL_areAlike 7 (some .boolean) 4 := ⟨jm_in 598 rfl rfl, jw_n_RL, jm_in 599 rfl rfl, rfl, ⟨by decide +kernel, by decide +kernel, by decide +kernel⟩, by decide +kernel⟩
def wL_areAlike : List Cond := Cond.code yL_areAlike cL_areAlike 7 (some .boolean) :: jm_W0
