section
-- ===== PART A: goes FIRST, ahead of the names: the tables' words, and 'selects' of the private methods out of them =====
/-- a private method of a class that the tables say can be made, by its rows of tables_1 -/
def lw_okq (q : MethodName × Nat) : Prop := (q.1.cls ≠ "java/lang/invoke/MethodHandle" ∧ q.1.cls ≠ "java/lang/invoke/VarHandle") ∧ Cond.instantiable q.1.cls q.2 ∈ tables_1 ∧ Cond.privateMethod q.1 ∈ tables_1 ∧ Cond.instanceMethod q.1 ∈ tables_1
theorem lw_p0 : lw_okq (⟨"java/lang/Throwable", "fillInStackTrace", "(I)Ljava/lang/Throwable;"⟩, 6) := ⟨⟨by decide +kernel, by decide +kernel⟩, List.mem_of_getElem? (i := 200) (by decide +kernel), List.mem_of_getElem? (i := 198) (by decide +kernel), List.mem_of_getElem? (i := 199) (by decide +kernel)⟩
theorem lw_p1 : lw_okq (⟨"HackHouse", "gameOf", "(I)LHackHouse$Game;"⟩, 9) := ⟨⟨by decide +kernel, by decide +kernel⟩, List.mem_of_getElem? (i := 16) (by decide +kernel), List.mem_of_getElem? (i := 336) (by decide +kernel), List.mem_of_getElem? (i := 337) (by decide +kernel)⟩
theorem lw_p2 : lw_okq (⟨"HackHouse", "sheetOf", "(I)LHackHouse$Sheet;"⟩, 9) := ⟨⟨by decide +kernel, by decide +kernel⟩, List.mem_of_getElem? (i := 16) (by decide +kernel), List.mem_of_getElem? (i := 354) (by decide +kernel), List.mem_of_getElem? (i := 355) (by decide +kernel)⟩
theorem lw_p3 : lw_okq (⟨"HackHouse", "settleDraw", "(LHackHouse$Game;I)V"⟩, 9) := ⟨⟨by decide +kernel, by decide +kernel⟩, List.mem_of_getElem? (i := 16) (by decide +kernel), List.mem_of_getElem? (i := 434) (by decide +kernel), List.mem_of_getElem? (i := 435) (by decide +kernel)⟩
theorem lw_p4 : lw_okq (⟨"HackHouse", "teamOf", "(I)LHackHouse$Team;"⟩, 9) := ⟨⟨by decide +kernel, by decide +kernel⟩, List.mem_of_getElem? (i := 16) (by decide +kernel), List.mem_of_getElem? (i := 439) (by decide +kernel), List.mem_of_getElem? (i := 440) (by decide +kernel)⟩
theorem lw_p5 : lw_okq (⟨"HackHouse", "settleStone", "(LHackHouse$Game;)V"⟩, 9) := ⟨⟨by decide +kernel, by decide +kernel⟩, List.mem_of_getElem? (i := 16) (by decide +kernel), List.mem_of_getElem? (i := 449) (by decide +kernel), List.mem_of_getElem? (i := 450) (by decide +kernel)⟩
theorem lw_p6 : lw_okq (⟨"HackHouse", "closeGame", "(LHackHouse$Game;)V"⟩, 9) := ⟨⟨by decide +kernel, by decide +kernel⟩, List.mem_of_getElem? (i := 16) (by decide +kernel), List.mem_of_getElem? (i := 472) (by decide +kernel), List.mem_of_getElem? (i := 473) (by decide +kernel)⟩
theorem lw_p7 : lw_okq (⟨"HackHouse", "workAnHour", "()V"⟩, 9) := ⟨⟨by decide +kernel, by decide +kernel⟩, List.mem_of_getElem? (i := 16) (by decide +kernel), List.mem_of_getElem? (i := 484) (by decide +kernel), List.mem_of_getElem? (i := 485) (by decide +kernel)⟩
theorem lw_p8 : lw_okq (⟨"HackHouse", "sheetToMake", "()I"⟩, 9) := ⟨⟨by decide +kernel, by decide +kernel⟩, List.mem_of_getElem? (i := 16) (by decide +kernel), List.mem_of_getElem? (i := 492) (by decide +kernel), List.mem_of_getElem? (i := 493) (by decide +kernel)⟩
theorem lw_p9 : lw_okq (⟨"HackHouse", "leastHourWished", "(I)I"⟩, 9) := ⟨⟨by decide +kernel, by decide +kernel⟩, List.mem_of_getElem? (i := 16) (by decide +kernel), List.mem_of_getElem? (i := 496) (by decide +kernel), List.mem_of_getElem? (i := 497) (by decide +kernel)⟩
theorem lw_p10 : lw_okq (⟨"HackHouse", "beginGames", "()V"⟩, 9) := ⟨⟨by decide +kernel, by decide +kernel⟩, List.mem_of_getElem? (i := 16) (by decide +kernel), List.mem_of_getElem? (i := 500) (by decide +kernel), List.mem_of_getElem? (i := 501) (by decide +kernel)⟩
theorem lw_p11 : lw_okq (⟨"HackHouse", "sheetToPlay", "(I)I"⟩, 9) := ⟨⟨by decide +kernel, by decide +kernel⟩, List.mem_of_getElem? (i := 16) (by decide +kernel), List.mem_of_getElem? (i := 504) (by decide +kernel), List.mem_of_getElem? (i := 505) (by decide +kernel)⟩
theorem lw_p12 : lw_okq (⟨"HackHouse", "worthOfShot", "(LHackHouse$Game;III)I"⟩, 9) := ⟨⟨by decide +kernel, by decide +kernel⟩, List.mem_of_getElem? (i := 16) (by decide +kernel), List.mem_of_getElem? (i := 586) (by decide +kernel), List.mem_of_getElem? (i := 587) (by decide +kernel)⟩
theorem lw_p13 : lw_okq (⟨"HackHouse", "worthOfTry", "(LHackHouse$Game;III)I"⟩, 9) := ⟨⟨by decide +kernel, by decide +kernel⟩, List.mem_of_getElem? (i := 16) (by decide +kernel), List.mem_of_getElem? (i := 590) (by decide +kernel), List.mem_of_getElem? (i := 591) (by decide +kernel)⟩
theorem lw_p14 : lw_okq (⟨"HackHouse", "teamsAheadOf", "(I)I"⟩, 9) := ⟨⟨by decide +kernel, by decide +kernel⟩, List.mem_of_getElem? (i := 16) (by decide +kernel), List.mem_of_getElem? (i := 602) (by decide +kernel), List.mem_of_getElem? (i := 603) (by decide +kernel)⟩
theorem lw_p15 : lw_okq (⟨"HackHouse", "isAhead", "(II)Z"⟩, 9) := ⟨⟨by decide +kernel, by decide +kernel⟩, List.mem_of_getElem? (i := 16) (by decide +kernel), List.mem_of_getElem? (i := 606) (by decide +kernel), List.mem_of_getElem? (i := 607) (by decide +kernel)⟩
def lw_privs_1 : List (MethodName × Nat) := [(⟨"java/lang/Throwable", "fillInStackTrace", "(I)Ljava/lang/Throwable;"⟩, 6), (⟨"HackHouse", "gameOf", "(I)LHackHouse$Game;"⟩, 9), (⟨"HackHouse", "sheetOf", "(I)LHackHouse$Sheet;"⟩, 9), (⟨"HackHouse", "settleDraw", "(LHackHouse$Game;I)V"⟩, 9), (⟨"HackHouse", "teamOf", "(I)LHackHouse$Team;"⟩, 9), (⟨"HackHouse", "settleStone", "(LHackHouse$Game;)V"⟩, 9), (⟨"HackHouse", "closeGame", "(LHackHouse$Game;)V"⟩, 9), (⟨"HackHouse", "workAnHour", "()V"⟩, 9), (⟨"HackHouse", "sheetToMake", "()I"⟩, 9), (⟨"HackHouse", "leastHourWished", "(I)I"⟩, 9), (⟨"HackHouse", "beginGames", "()V"⟩, 9), (⟨"HackHouse", "sheetToPlay", "(I)I"⟩, 9), (⟨"HackHouse", "worthOfShot", "(LHackHouse$Game;III)I"⟩, 9), (⟨"HackHouse", "worthOfTry", "(LHackHouse$Game;III)I"⟩, 9), (⟨"HackHouse", "teamsAheadOf", "(I)I"⟩, 9), (⟨"HackHouse", "isAhead", "(II)Z"⟩, 9)]
theorem lw_r1 : ∀ q ∈ lw_privs_1, lw_okq q := List.forall_mem_cons.mpr ⟨lw_p0, List.forall_mem_cons.mpr ⟨lw_p1, List.forall_mem_cons.mpr ⟨lw_p2, List.forall_mem_cons.mpr ⟨lw_p3, List.forall_mem_cons.mpr ⟨lw_p4, List.forall_mem_cons.mpr ⟨lw_p5, List.forall_mem_cons.mpr ⟨lw_p6, List.forall_mem_cons.mpr ⟨lw_p7, List.forall_mem_cons.mpr ⟨lw_p8, List.forall_mem_cons.mpr ⟨lw_p9, List.forall_mem_cons.mpr ⟨lw_p10, List.forall_mem_cons.mpr ⟨lw_p11, List.forall_mem_cons.mpr ⟨lw_p12, List.forall_mem_cons.mpr ⟨lw_p13, List.forall_mem_cons.mpr ⟨lw_p14, List.forall_mem_cons.mpr ⟨lw_p15, fun _ h => absurd h List.not_mem_nil⟩⟩⟩⟩⟩⟩⟩⟩⟩⟩⟩⟩⟩⟩⟩⟩
theorem lw_p16 : lw_okq (⟨"HackHouseModel", "asked", "(ZZZ)Z"⟩, 28) := ⟨⟨by decide +kernel, by decide +kernel⟩, List.mem_of_getElem? (i := 621) (by decide +kernel), List.mem_of_getElem? (i := 730) (by decide +kernel), List.mem_of_getElem? (i := 731) (by decide +kernel)⟩
theorem lw_p17 : lw_okq (⟨"HackHouseModel", "asked", "(Z)Z"⟩, 28) := ⟨⟨by decide +kernel, by decide +kernel⟩, List.mem_of_getElem? (i := 621) (by decide +kernel), List.mem_of_getElem? (i := 738) (by decide +kernel), List.mem_of_getElem? (i := 739) (by decide +kernel)⟩
theorem lw_p18 : lw_okq (⟨"HackHouseModel", "isGame", "(I)Z"⟩, 28) := ⟨⟨by decide +kernel, by decide +kernel⟩, List.mem_of_getElem? (i := 621) (by decide +kernel), List.mem_of_getElem? (i := 746) (by decide +kernel), List.mem_of_getElem? (i := 747) (by decide +kernel)⟩
theorem lw_p19 : lw_okq (⟨"HackHouseModel", "throwsAt", "(I)Z"⟩, 28) := ⟨⟨by decide +kernel, by decide +kernel⟩, List.mem_of_getElem? (i := 621) (by decide +kernel), List.mem_of_getElem? (i := 753) (by decide +kernel), List.mem_of_getElem? (i := 754) (by decide +kernel)⟩
theorem lw_p20 : lw_okq (⟨"HackHouseModel", "takesUp", "(I)V"⟩, 28) := ⟨⟨by decide +kernel, by decide +kernel⟩, List.mem_of_getElem? (i := 621) (by decide +kernel), List.mem_of_getElem? (i := 757) (by decide +kernel), List.mem_of_getElem? (i := 758) (by decide +kernel)⟩
theorem lw_p21 : lw_okq (⟨"HackHouseModel", "slotOf", "(I)I"⟩, 28) := ⟨⟨by decide +kernel, by decide +kernel⟩, List.mem_of_getElem? (i := 621) (by decide +kernel), List.mem_of_getElem? (i := 761) (by decide +kernel), List.mem_of_getElem? (i := 762) (by decide +kernel)⟩
theorem lw_p22 : lw_okq (⟨"HackHouseModel", "turnOf", "(I)I"⟩, 28) := ⟨⟨by decide +kernel, by decide +kernel⟩, List.mem_of_getElem? (i := 621) (by decide +kernel), List.mem_of_getElem? (i := 765) (by decide +kernel), List.mem_of_getElem? (i := 766) (by decide +kernel)⟩
theorem lw_p23 : lw_okq (⟨"HackHouseModel", "goes", "(IIIIII)V"⟩, 28) := ⟨⟨by decide +kernel, by decide +kernel⟩, List.mem_of_getElem? (i := 621) (by decide +kernel), List.mem_of_getElem? (i := 769) (by decide +kernel), List.mem_of_getElem? (i := 770) (by decide +kernel)⟩
theorem lw_p24 : lw_okq (⟨"HackHouseModel", "stoneAt", "(II)I"⟩, 28) := ⟨⟨by decide +kernel, by decide +kernel⟩, List.mem_of_getElem? (i := 621) (by decide +kernel), List.mem_of_getElem? (i := 773) (by decide +kernel), List.mem_of_getElem? (i := 774) (by decide +kernel)⟩
theorem lw_p25 : lw_okq (⟨"HackHouseModel", "ends", "(I)V"⟩, 28) := ⟨⟨by decide +kernel, by decide +kernel⟩, List.mem_of_getElem? (i := 621) (by decide +kernel), List.mem_of_getElem? (i := 780) (by decide +kernel), List.mem_of_getElem? (i := 781) (by decide +kernel)⟩
theorem lw_p26 : lw_okq (⟨"HackHouseModel", "scored", "()I"⟩, 28) := ⟨⟨by decide +kernel, by decide +kernel⟩, List.mem_of_getElem? (i := 621) (by decide +kernel), List.mem_of_getElem? (i := 784) (by decide +kernel), List.mem_of_getElem? (i := 785) (by decide +kernel)⟩
theorem lw_p27 : lw_okq (⟨"HackHouseModel", "asked", "(ZZ)Z"⟩, 28) := ⟨⟨by decide +kernel, by decide +kernel⟩, List.mem_of_getElem? (i := 621) (by decide +kernel), List.mem_of_getElem? (i := 796) (by decide +kernel), List.mem_of_getElem? (i := 797) (by decide +kernel)⟩
theorem lw_p28 : lw_okq (⟨"HackHouseModel", "passes", "()V"⟩, 28) := ⟨⟨by decide +kernel, by decide +kernel⟩, List.mem_of_getElem? (i := 621) (by decide +kernel), List.mem_of_getElem? (i := 800) (by decide +kernel), List.mem_of_getElem? (i := 801) (by decide +kernel)⟩
theorem lw_p29 : lw_okq (⟨"HackHouseModel", "wanted", "()I"⟩, 28) := ⟨⟨by decide +kernel, by decide +kernel⟩, List.mem_of_getElem? (i := 621) (by decide +kernel), List.mem_of_getElem? (i := 804) (by decide +kernel), List.mem_of_getElem? (i := 805) (by decide +kernel)⟩
theorem lw_p30 : lw_okq (⟨"HackHouseModel", "isFree", "(I)Z"⟩, 28) := ⟨⟨by decide +kernel, by decide +kernel⟩, List.mem_of_getElem? (i := 621) (by decide +kernel), List.mem_of_getElem? (i := 808) (by decide +kernel), List.mem_of_getElem? (i := 809) (by decide +kernel)⟩
theorem lw_p31 : lw_okq (⟨"HackHouseModel", "begins", "()V"⟩, 28) := ⟨⟨by decide +kernel, by decide +kernel⟩, List.mem_of_getElem? (i := 621) (by decide +kernel), List.mem_of_getElem? (i := 812) (by decide +kernel), List.mem_of_getElem? (i := 813) (by decide +kernel)⟩
def lw_privs_2 : List (MethodName × Nat) := [(⟨"HackHouseModel", "asked", "(ZZZ)Z"⟩, 28), (⟨"HackHouseModel", "asked", "(Z)Z"⟩, 28), (⟨"HackHouseModel", "isGame", "(I)Z"⟩, 28), (⟨"HackHouseModel", "throwsAt", "(I)Z"⟩, 28), (⟨"HackHouseModel", "takesUp", "(I)V"⟩, 28), (⟨"HackHouseModel", "slotOf", "(I)I"⟩, 28), (⟨"HackHouseModel", "turnOf", "(I)I"⟩, 28), (⟨"HackHouseModel", "goes", "(IIIIII)V"⟩, 28), (⟨"HackHouseModel", "stoneAt", "(II)I"⟩, 28), (⟨"HackHouseModel", "ends", "(I)V"⟩, 28), (⟨"HackHouseModel", "scored", "()I"⟩, 28), (⟨"HackHouseModel", "asked", "(ZZ)Z"⟩, 28), (⟨"HackHouseModel", "passes", "()V"⟩, 28), (⟨"HackHouseModel", "wanted", "()I"⟩, 28), (⟨"HackHouseModel", "isFree", "(I)Z"⟩, 28), (⟨"HackHouseModel", "begins", "()V"⟩, 28)]
theorem lw_r2 : ∀ q ∈ lw_privs_2, lw_okq q := List.forall_mem_cons.mpr ⟨lw_p16, List.forall_mem_cons.mpr ⟨lw_p17, List.forall_mem_cons.mpr ⟨lw_p18, List.forall_mem_cons.mpr ⟨lw_p19, List.forall_mem_cons.mpr ⟨lw_p20, List.forall_mem_cons.mpr ⟨lw_p21, List.forall_mem_cons.mpr ⟨lw_p22, List.forall_mem_cons.mpr ⟨lw_p23, List.forall_mem_cons.mpr ⟨lw_p24, List.forall_mem_cons.mpr ⟨lw_p25, List.forall_mem_cons.mpr ⟨lw_p26, List.forall_mem_cons.mpr ⟨lw_p27, List.forall_mem_cons.mpr ⟨lw_p28, List.forall_mem_cons.mpr ⟨lw_p29, List.forall_mem_cons.mpr ⟨lw_p30, List.forall_mem_cons.mpr ⟨lw_p31, fun _ h => absurd h List.not_mem_nil⟩⟩⟩⟩⟩⟩⟩⟩⟩⟩⟩⟩⟩⟩⟩⟩
theorem lw_p32 : lw_okq (⟨"HackHouseModel", "scoreOf", "(I)I"⟩, 28) := ⟨⟨by decide +kernel, by decide +kernel⟩, List.mem_of_getElem? (i := 621) (by decide +kernel), List.mem_of_getElem? (i := 840) (by decide +kernel), List.mem_of_getElem? (i := 841) (by decide +kernel)⟩
theorem lw_p33 : lw_okq (⟨"HackHouseModel", "worth", "(IIII)I"⟩, 28) := ⟨⟨by decide +kernel, by decide +kernel⟩, List.mem_of_getElem? (i := 621) (by decide +kernel), List.mem_of_getElem? (i := 852) (by decide +kernel), List.mem_of_getElem? (i := 853) (by decide +kernel)⟩
theorem lw_p34 : lw_okq (⟨"HackHouseModel", "average", "(I)I"⟩, 28) := ⟨⟨by decide +kernel, by decide +kernel⟩, List.mem_of_getElem? (i := 621) (by decide +kernel), List.mem_of_getElem? (i := 860) (by decide +kernel), List.mem_of_getElem? (i := 861) (by decide +kernel)⟩
def lw_privs_3 : List (MethodName × Nat) := [(⟨"HackHouseModel", "scoreOf", "(I)I"⟩, 28), (⟨"HackHouseModel", "worth", "(IIII)I"⟩, 28), (⟨"HackHouseModel", "average", "(I)I"⟩, 28)]
theorem lw_r3 : ∀ q ∈ lw_privs_3, lw_okq q := List.forall_mem_cons.mpr ⟨lw_p32, List.forall_mem_cons.mpr ⟨lw_p33, List.forall_mem_cons.mpr ⟨lw_p34, fun _ h => absurd h List.not_mem_nil⟩⟩⟩
def lw_privs : List (MethodName × Nat) := lw_privs_1 ++ (lw_privs_2 ++ (lw_privs_3))
def lw_tbl : List Cond := k2_sels lw_privs ++ tables_1
theorem lw_privs_ok : ∀ q ∈ lw_privs, lw_okq q := by
  show ∀ q ∈ lw_privs_1 ++ (lw_privs_2 ++ (lw_privs_3)), lw_okq q
  exact List.forall_mem_append.mpr ⟨lw_r1, List.forall_mem_append.mpr ⟨lw_r2, lw_r3⟩⟩
-- ===== end of PART A; then your names; then what follows =====
end
section
/-! ===== BEGIN words of one list among another's, by their places ===== -/
theorem goodIn_r {big : List Cond} (ws : List Cond) (ps : List Nat) (hp : ws = ps.filterMap (fun i => big[i]?)) (h : ws.all goodWord = true) : GoodIn big ws := by
  intro w hw
  have h1 := List.all_eq_true.mp h w hw
  rw [hp] at hw
  obtain ⟨i, -, hi⟩ := List.mem_filterMap.mp hw
  have hm : w ∈ big := by first | exact List.mem_of_getElem? hi | exact List.getElem?_mem hi
  exact ⟨hm, good_of_word h1⟩
theorem goodIn_app {big a b : List Cond} (ha : GoodIn big a) (hb : GoodIn big b) : GoodIn big (a ++ b) := fun w h => (List.mem_append.mp h).elim (ha w) (hb w)
theorem goodIn_ca {big a b : List Cond} {c : Cond} (ha : GoodIn big (c :: a)) (hb : GoodIn big b) : GoodIn big (c :: (a ++ b)) := fun w h => (List.mem_cons.mp h).elim (fun e => ha w (List.mem_cons.mpr (Or.inl e))) (fun h => (List.mem_append.mp h).elim (fun h => ha w (List.mem_cons.mpr (Or.inr h))) (hb w))
theorem goodIn_sub {big ws : List Cond} (hm : ∀ w ∈ ws, w ∈ big) (h : ws.all goodWord = true) : GoodIn big ws := fun w hw => ⟨hm w hw, good_of_word (List.all_eq_true.mp h w hw)⟩
/-! ===== END ===== -/

/-! ===== BEGIN exceptions that leave a method, and their catching by the caller (launches without stack traces) ===== -/
section VXA
/-! The laws vx_back, vx_callV, vx_callS, vx_callSW, vx_throw0, vx_throwS follow proofs of the library, with one case more: JvmDerived/Free/Laws.lean (Back.of_free), Shelf42/LK1.lean (callV, callS), Shelf/KitTraced.lean (throwNew0V, throwNewS). -/
/-- where a method has thrown q: the class by its name, the cell, what was written, the world -/
def vx_T (XC : String → State → State → Prop) (st : State) (q : Addr) (t : State) (mc ms : Nat) (free : Addr → Prop) : Prop :=
  ∃ (E : String) (ce : Cell) (L : List Loc), XC E st t ∧ t.heap[q]? = some ce ∧ ce.vm = .none ∧ st.vm.findClass E = some ce.cls ∧ st.WarmedH t.vm ∧ st.sameButNew ({ t with vm := st.vm } : State) L mc ms ∧ ∀ z ∈ L, free z.base
def vx_Q (Qc : Array Value → State → Outcome → State → Prop) (XC : String → State → State → Prop) (mc ms : Nat) (free : Addr → Prop) : Array Value → State → Outcome → State → Prop := fun a st o t =>
  (Qc a st o t ∧ ∃ L, FrameEnd st o t L mc ms ∧ ∀ q ∈ L, free q.base) ∨ ∃ q, o = .threw q ∧ vx_T XC st q t mc ms free
/-- a callee that returns or throws -/
def vx_Met (l : Launch) (y : MethodName) (ws : List Cond) (rm : Room) (Pc : Array Value → State → Prop) (Qc : Array Value → State → Outcome → State → Prop) (XC : String → State → State → Prop) (mc ms : Nat) (free : Addr → Prop) : Prop :=
  MetFree l y (headSpec ws rm) Pc (fun _ _ _ _ _ => True) (vx_Q Qc XC mc ms free)
def vx_Post (XC : String → State → State → Prop) (mc ms : Nat) (free : Addr → Prop) : Pt → Array Value → Addr → Pt → Prop := fun A a q B =>
  ∃ (g : JFrame) (mk : MethodId) (t : State) (L : List Loc) (E : String) (ce : Cell), B.U.heap = t.heap ∧ B.U.vm = t.vm ∧ XC E (A.U.calling g mk a) t ∧ t.heap[q]? = some ce ∧ ce.vm = .none ∧ A.U.vm.findClass E = some ce.cls ∧ B.locs = A.locs ++ L ∧ (∀ z ∈ L, free z.base) ∧ B.cells = A.cells + mc ∧ B.slots = A.slots + ms
def vx_Back (l : Launch) (R : Room) (p : Program) (e : Env) (below : List Frame) (s : State) (sargs : Array Value) (y : MethodName) (len W9 : Nat)
    (Pre : Pt → Array Value → Prop) (Post : Pt → Array Value → Option Value → Pt → Prop) (PostX : Pt → Array Value → Addr → Pt → Prop) : Prop :=
  ∀ (m : MethodId) (meth : Method) (c : Code) (A : Pt) (g : JFrame) (ig : Instr) (mk : MethodId) (a : Array Value),
    Stand p l e R s m sargs below meth c A.U A.locs A.cells A.slots → g.method = m → g.locals.size = c.maxLocals → decode c.code g.pc = .ok (ig, len) →
    2 * g.monitorRoom + (g.stack.map fun v => v.category).sum ≤ W9 → A.U.methodNamed? y = some mk → Pre A a →
    (∃ (v : Option Value) (B : Pt), Stand p l e R s m sargs below meth c B.U B.locs B.cells B.slots ∧ Post A a v B ∧
      Steps p.tables e below (doInvoke e (A.U.setTop g) [] mk a).1 (B.U.setTop { g with pc := g.pc + len, stack := v.toList ++ g.stack })) ∨
    (∃ (q : Addr) (B : Pt), Stand p l e R s m sargs below meth c B.U B.locs B.cells B.slots ∧ PostX A a q B ∧
      Steps p.tables e below (doInvoke e (A.U.setTop g) [] mk a).1 ((B.U.setTop g).pushFrame (.throwing q)))
section Payer
variable {l : Launch} {R : Room} {p : Program} {e : Env} {below : List Frame} {s : State} {sargs : Array Value} {y : MethodName} {len W9 : Nat}
theorem vx_back {ws : List Cond} {rm : Room} {Pc : Array Value → State → Prop} {Qc : Array Value → State → Outcome → State → Prop} {XC : String → State → State → Prop} {mc ms : Nat} {free : Addr → Prop} {bytes : ByteArray} {maxL : Nat} {ret : Option FieldType}
    (hM : vx_Met l y ws rm Pc Qc XC mc ms free) (hblind : FrameBlind Pc) (hrc : rm.cells = mc) (hrs : rm.slots = ms)
    (hframes : rm.frames + 1 ≤ R.frames) (hlocals : W9 + (maxL + 11) + rm.locals ≤ R.locals)
    (hws : ∀ w ∈ ws, ∀ a' U, s.WarmedH U.vm → w.before a' U = true) (hcode : Cond.code y bytes maxL ret ∈ ws) (hinit : ∀ a' U, s.WarmedH U.vm → (Cond.initialized y.cls).before a' U = true) :
    vx_Back l R p e below s sargs y len W9 (PreOf R mc ms Pc) (PostOf Qc mc ms free) (vx_Post XC mc ms free) := by
  intro m meth c A g ig mk a X hg hsize hdg hW hn hp
  have h1 : (headSpec ws rm).pre.before a A.U = true := atoms_intro fun w hw => hws w hw _ _ X.warmed
  have h2 : (Cond.code y bytes maxL ret).before a A.U = true := hws _ hcode _ _ X.warmed
  have h3 : (Cond.initialized y.cls).before a A.U = true := hinit _ _ X.warmed
  have h4 : A.cells + (headSpec ws rm).room.cells ≤ R.cells := by rw [show (headSpec ws rm).room.cells = mc from hrc]; exact hp.1
  have h5 : A.slots + (headSpec ws rm).room.slots ≤ R.slots := by rw [show (headSpec ws rm).room.slots = ms from hrs]; exact hp.2.1
  have hPc : Pc a (A.U.calling g mk a) := hblind _ _ _ _ hp.2.2
  obtain ⟨U, Ls, c0, s0⟩ := A
  dsimp only [Pt.U, Pt.locs, Pt.cells, Pt.slots] at h1 h2 h3 h4 h5 X hn hPc ⊢
  obtain ⟨methY, cY, hmY, hcY, -, hlY, -, -, -, -⟩ := Cond.code_spec hn h2
  obtain ⟨kY, hkY, -⟩ := className_of_methodNamed hn
  have hinitY : kY.init = .initialized := Cond.initialized_spec (findClass_of_methodNamed hn) hkY h3
  have h : At U g.method c below := by rw [hg]; exact X.here
  have hlocals9 : W9 + (maxL + 11) + (headSpec ws rm).room.locals ≤ R.locals := hlocals
  have happ : (headSpec ws rm).appliesLoose y e.platform (U.calling g mk a) = true :=
    Spec.appliesLoose_calling (g := g) h hdg hn hkY hinitY
      (X.room_calling (g := g) (R' := (headSpec ws rm).room) hsize hmY hcY hframes (by rw [hlY]; omega) h4 h5) h1
  obtain ⟨mid, hmid⟩ := h.above
  have hfr : (U.setTop g).frames = (.java g :: mid) ++ below := by rw [State.frames_setTop' g h.top, hmid]; rfl
  obtain ⟨o, s₂, hsteps, -, hend, hq⟩ := Steps.callFree hM p X.admits X.cas X.clock (acts := []) hfr happ hPc trivial
  have hq' : vx_Q Qc XC mc ms free a (U.calling g mk a) o s₂ := hq
  rw [State.frames_setTop' g h.top] at hend
  obtain ⟨g₀, hg0⟩ := Option.isSome_iff_exists.mp h.top
  obtain ⟨r, hr⟩ := State.topJava?_eq_some.mp hg0
  have hr' : (({ U with heap := s₂.heap, slotsUsed := s₂.slotsUsed } : State).setVm s₂.vm).frames = .java g₀ :: r := hr
  rcases hq' with ⟨hqc, L, hfe, hL⟩ | ⟨q, rfl, E, ce, L, hx, hce, hcv, hcl, hW₂, hsm, hL⟩
  · obtain ⟨⟨v, rfl⟩, hW₂, e2, q2, q3, q4, q5, q6⟩ := id hfe
    have e3 : s₂ = ({ (U.calling g mk a).setFrames s₂.frames with heap := s₂.heap, slotsUsed := s₂.slotsUsed } : State).setVm s₂.vm := by
      have : s₂ = ({ s₂ with vm := (U.calling g mk a).vm } : State).setVm s₂.vm := rfl
      rw [e2] at this
      exact this
    obtain ⟨c₂, i₂, len₂, hc₂, hd₂, hf₂⟩ := hend
    have hW' : U.WarmedH s₂.vm := hW₂
    have hcc : c₂ = c := by
      have h1 : s₂.code? g.method = U.code? g.method := by
        rw [State.code?_eq, State.code?_eq, hW'.alike.method?]
      exact Option.some.inj (hc₂.symm.trans (h1.trans h.code))
    subst hcc
    have hlen : len₂ = len := by rw [hdg] at hd₂; cases hd₂; rfl
    subst hlen
    have hs₂ : s₂ = (({ U with heap := s₂.heap, slotsUsed := s₂.slotsUsed } : State).setVm s₂.vm).setTop { g with pc := g.pc + len₂, stack := v.toList ++ g.stack } := by
      refine e3.trans ?_
      rw [hf₂, State.calling_eq h.top, State.setFrames_setFrames, State.setTop_of_frames _ hr', hr]
      rfl
    have hsame : U.sameButNew ({ U with heap := s₂.heap, slotsUsed := s₂.slotsUsed } : State) L mc ms := by
      refine ⟨?_, q2, q3, q4, q5, q6⟩
      obtain ⟨t, ht, -⟩ := State.frames_cons hr
      show ({ U with heap := s₂.heap, slotsUsed := s₂.slotsUsed } : State) = { U.setFrames U.frames with heap := s₂.heap, slotsUsed := s₂.slotsUsed }
      rw [State.setFrames_self ht]
    subst hg
    refine Or.inl ⟨v, ⟨(({ U with heap := s₂.heap, slotsUsed := s₂.slotsUsed } : State).setVm s₂.vm), Ls ++ L, c0 + mc, s0 + ms⟩,
      ⟨X.admits, X.cas, X.clock, X.frames, X.room, X.hears, X.method, X.code, (X.here.setHeapUsed s₂.heap s₂.slotsUsed).setVm hW'.alike, X.tail, State.WarmedH.trans X.warmed hW', X.limits, X.bytes, X.same.trans (hsame.setVm s.vm)⟩,
      ⟨g, mk, s₂, L, rfl, rfl, hqc, rfl, hL, rfl, rfl⟩, ?_⟩
    show Steps p.tables e below _ ((({ U with heap := s₂.heap, slotsUsed := s₂.slotsUsed } : State).setVm s₂.vm).setTop { g with pc := g.pc + len₂, stack := v.toList ++ g.stack })
    rw [← hs₂]
    exact hsteps
  · obtain ⟨e2, q2, q3, q4, q5, q6⟩ := id hsm
    have e3 : s₂ = ({ (U.calling g mk a).setFrames s₂.frames with heap := s₂.heap, slotsUsed := s₂.slotsUsed } : State).setVm s₂.vm := by
      have : s₂ = ({ s₂ with vm := (U.calling g mk a).vm } : State).setVm s₂.vm := rfl
      rw [e2] at this
      exact this
    have hf₂ : s₂.frames = .throwing q :: .java g :: U.frames.tail := hend
    have hW' : U.WarmedH s₂.vm := hW₂
    have hs₂ : s₂ = ((({ U with heap := s₂.heap, slotsUsed := s₂.slotsUsed } : State).setVm s₂.vm).setTop g).pushFrame (.throwing q) := by
      refine e3.trans ?_
      rw [hf₂, State.calling_eq h.top, State.setFrames_setFrames, State.pushFrame, State.frames_setTop _ hr', State.setTop_of_frames _ hr', State.setFrames_setFrames, hr]
      rfl
    have hsame : U.sameButNew ({ U with heap := s₂.heap, slotsUsed := s₂.slotsUsed } : State) L mc ms := by
      refine ⟨?_, q2, q3, q4, q5, q6⟩
      obtain ⟨t, ht, -⟩ := State.frames_cons hr
      show ({ U with heap := s₂.heap, slotsUsed := s₂.slotsUsed } : State) = { U.setFrames U.frames with heap := s₂.heap, slotsUsed := s₂.slotsUsed }
      rw [State.setFrames_self ht]
    subst hg
    refine Or.inr ⟨q, ⟨(({ U with heap := s₂.heap, slotsUsed := s₂.slotsUsed } : State).setVm s₂.vm), Ls ++ L, c0 + mc, s0 + ms⟩,
      ⟨X.admits, X.cas, X.clock, X.frames, X.room, X.hears, X.method, X.code, (X.here.setHeapUsed s₂.heap s₂.slotsUsed).setVm hW'.alike, X.tail, State.WarmedH.trans X.warmed hW', X.limits, X.bytes, X.same.trans (hsame.setVm s.vm)⟩,
      ⟨g, mk, s₂, L, E, ce, rfl, rfl, hx, hce, hcv, hcl, rfl, hL, rfl, rfl⟩, ?_⟩
    show Steps p.tables e below _ (((({ U with heap := s₂.heap, slotsUsed := s₂.slotsUsed } : State).setVm s₂.vm).setTop g).pushFrame (.throwing q))
    rw [← hs₂]
    exact hsteps
end Payer
section Calls
variable {p : Program} {l : Launch} {e : Env} {R : Room} {s : State} {m : MethodId} {args : Array Value} {below : List Frame} {meth : Method} {c : Code} {T : State} {locs : List Loc} {cells slots : Nat}
theorem vx_callV (X : Stand p l e R s m args below meth c T locs cells slots) (hexec : p.tables.exec = Jvm.exec) {own C : String} {index : Nat} {y : MethodName} {bytes : ByteArray} {maxL : Nat} {ret : Option FieldType}
    (hown : s.vm.findClass own = some m.cls) (hlink : (Cond.methodLink own index y).before args s = true) (hinst : (Cond.instanceMethod y).before args s = true) (hsel : (Cond.selects C y y).before args s = true)
    (hcode : (Cond.code y bytes maxL ret).before args s = true) (hy : y.cls ≠ "java/lang/invoke/MethodHandle" ∧ y.cls ≠ "java/lang/invoke/VarHandle")
    {W9 : Nat} {Pre : Pt → Array Value → Prop} {Post : Pt → Array Value → Option Value → Pt → Prop} {PostX : Pt → Array Value → Addr → Pt → Prop} (hK : vx_Back l R p e below s args y 3 W9 Pre Post PostX)
    {b : Addr} {cellB : Cell} (hcell : T.heap[b]? = some cellB) (hobj : cellB.vm.isStatics = false) (hcls : s.vm.findClass C = some cellB.cls)
    {g : JFrame} (hg : g.method = m) (hsize : g.locals.size = c.maxLocals) {argsL rest : List Value} (hlen : ∀ sig, parseMethodDescriptor y.desc = some sig → argsL.length = sig.parameters.length)
    (hstack : g.stack = argsL.reverse ++ .ref b :: rest) (hW : 2 * g.monitorRoom + (rest.map fun v => v.category).sum ≤ W9) (hdg : decode c.code g.pc = .ok (.invokevirtual index, 3))
    (hpre : ∀ vm₁, s.WarmedH vm₁ → Pre ⟨T.setVm vm₁, locs, cells, slots⟩ (Value.ref b :: argsL).toArray) :
    (∃ (v : Option Value) (vm₁ : Vm) (B : Pt), s.WarmedH vm₁ ∧ Stand p l e R s m args below meth c B.U B.locs B.cells B.slots ∧ Post ⟨T.setVm vm₁, locs, cells, slots⟩ (Value.ref b :: argsL).toArray v B ∧
      ∀ target, Steps p.tables e below (B.U.setTop { g with pc := g.pc + 3, stack := v.toList ++ rest }) target → Steps p.tables e below (T.setTop g) target) ∨
    (∃ (q : Addr) (vm₁ : Vm) (B : Pt), s.WarmedH vm₁ ∧ Stand p l e R s m args below meth c B.U B.locs B.cells B.slots ∧ PostX ⟨T.setVm vm₁, locs, cells, slots⟩ (Value.ref b :: argsL).toArray q B ∧
      Steps p.tables e below (T.setTop g) ((B.U.setTop { g with stack := rest }).pushFrame (.throwing q))) := by
  obtain ⟨mk, methM, hnamed, hmethM, hstM, habM⟩ := Cond.instanceMethod_spec hinst
  obtain ⟨methM', cM, hmethM', -, -, -, -, -, -, hsigM⟩ := Cond.code_spec hnamed hcode
  cases hmethM.symm.trans hmethM'
  obtain ⟨c2, r2, m2, q1, q2, q3, q4, kP, hkP, hkPi⟩ := Cond.selects_spec hsel
  cases hcls.symm.trans q1
  cases (State.methodFound?_of_named hnamed hy).symm.trans q2
  cases hnamed.symm.trans q3
  have hselP : selectMethod e.platform s.vm cellB.cls mk = .method mk := by rw [Launch.admits_selectMethod X.admits]; exact q4
  obtain ⟨vm₁, X₁, hstep₁⟩ := X.invokevirtual hexec hown hlink hnamed hmethM hstM hkP hkPi hy (a := b) (cell := cellB) hcell
    (fun z h => by rw [h] at hobj; cases hobj) hselP hmethM habM hkP hkPi (g := g) hg (argsL := argsL) (rest := rest) (hlen _ hsigM) hstack hdg
  rcases hK m meth c ⟨T.setVm vm₁, locs, cells, slots⟩ { g with stack := rest } (.invokevirtual index) mk (Value.ref b :: argsL).toArray X₁ hg hsize hdg hW (X₁.named hnamed) (hpre vm₁ X₁.warmed) with ⟨v, B, X', hpost, hsteps⟩ | ⟨q, B, X', hpost, hsteps⟩
  · exact Or.inl ⟨v, vm₁, B, X₁.warmed, X', hpost, fun target h => hstep₁ _ fun acts => by rw [doInvoke_state]; exact hsteps.trans h⟩
  · exact Or.inr ⟨q, vm₁, B, X₁.warmed, X', hpost, hstep₁ _ fun acts => by rw [doInvoke_state]; exact hsteps⟩
theorem vx_callS (X : Stand p l e R s m args below meth c T locs cells slots) (hexec : p.tables.exec = Jvm.exec) {own : String} {index : Nat} {y : MethodName} {bytes : ByteArray} {maxL : Nat} {ret : Option FieldType}
    (hown : s.vm.findClass own = some m.cls) (hlink : (Cond.methodLink own index y).before args s = true) (hstat : (Cond.static y).before args s = true) (hinit : (Cond.initialized y.cls).before args s = true)
    (hcode : (Cond.code y bytes maxL ret).before args s = true) (hy : y.cls ≠ "java/lang/invoke/MethodHandle" ∧ y.cls ≠ "java/lang/invoke/VarHandle")
    {W9 : Nat} {Pre : Pt → Array Value → Prop} {Post : Pt → Array Value → Option Value → Pt → Prop} {PostX : Pt → Array Value → Addr → Pt → Prop} (hK : vx_Back l R p e below s args y 3 W9 Pre Post PostX)
    {g : JFrame} (hg : g.method = m) (hsize : g.locals.size = c.maxLocals) {argsL rest : List Value} (hlen : ∀ sig, parseMethodDescriptor y.desc = some sig → argsL.length = sig.parameters.length)
    (hstack : g.stack = argsL.reverse ++ rest) (hW : 2 * g.monitorRoom + (rest.map fun v => v.category).sum ≤ W9) (hdg : decode c.code g.pc = .ok (.invokestatic index, 3))
    (hpre : ∀ vm₁, s.WarmedH vm₁ → Pre ⟨T.setVm vm₁, locs, cells, slots⟩ argsL.toArray) :
    (∃ (v : Option Value) (vm₁ : Vm) (B : Pt), s.WarmedH vm₁ ∧ Stand p l e R s m args below meth c B.U B.locs B.cells B.slots ∧ Post ⟨T.setVm vm₁, locs, cells, slots⟩ argsL.toArray v B ∧
      ∀ target, Steps p.tables e below (B.U.setTop { g with pc := g.pc + 3, stack := v.toList ++ rest }) target → Steps p.tables e below (T.setTop g) target) ∨
    (∃ (q : Addr) (vm₁ : Vm) (B : Pt), s.WarmedH vm₁ ∧ Stand p l e R s m args below meth c B.U B.locs B.cells B.slots ∧ PostX ⟨T.setVm vm₁, locs, cells, slots⟩ argsL.toArray q B ∧
      Steps p.tables e below (T.setTop g) ((B.U.setTop { g with stack := rest }).pushFrame (.throwing q))) := by
  obtain ⟨mk, hnamed⟩ := Cond.code_named hcode
  obtain ⟨methM, cM, hmethM, -, -, -, -, -, -, hsigM⟩ := Cond.code_spec hnamed hcode
  have hstatic : methM.isStatic = true := Cond.static_spec hnamed hmethM hstat
  obtain ⟨kP, hkP, -⟩ := className_of_methodNamed hnamed
  have hinitP : kP.init = .initialized := Cond.initialized_spec (findClass_of_methodNamed hnamed) hkP hinit
  obtain ⟨vm₁, X₁, hstep₁⟩ := X.invokestatic hexec hown hlink hnamed hmethM hstatic hkP hinitP hy (g := g) hg (argsL := argsL) (rest := rest) (hlen _ hsigM) hstack hdg
  rcases hK m meth c ⟨T.setVm vm₁, locs, cells, slots⟩ { g with stack := rest } (.invokestatic index) mk argsL.toArray X₁ hg hsize hdg hW (X₁.named hnamed) (hpre vm₁ X₁.warmed) with ⟨v, B, X', hpost, hsteps⟩ | ⟨q, B, X', hpost, hsteps⟩
  · exact Or.inl ⟨v, vm₁, B, X₁.warmed, X', hpost, fun target h => hstep₁ _ fun acts => by rw [doInvoke_state]; exact hsteps.trans h⟩
  · exact Or.inr ⟨q, vm₁, B, X₁.warmed, X', hpost, hstep₁ _ fun acts => by rw [doInvoke_state]; exact hsteps⟩
end Calls
theorem vx_cls {s : State} {T : State} {vm₁ : Vm} {E : String} {k : ClassId} (hW : s.WarmedH vm₁) (h : (T.setVm vm₁).vm.findClass E = some k) : s.vm.findClass E = some k := by
  have h1 : vm₁.findClass E = some k := h
  rw [hW.alike.findClass] at h1
  exact h1
/-- the method's frame g, with q thrown over it -/
def vx_W (p : Program) (l : Launch) (e : Env) (R : Room) (s : State) (m : MethodId) (args : Array Value) (below : List Frame) (meth : Method) (c : Code) (H : Heap) (locs : List Loc) (cells slots : Nat) (Q : State → Prop) (g : JFrame) (q : Addr) : Prop :=
  ∀ T : State, T.heap = H → Stand p l e R s m args below meth c T locs cells slots → ∃ t, Steps p.tables e below ((T.setTop g).pushFrame (.throwing q)) t ∧ Q t
def vx_Run (p : Program) (l : Launch) (e : Env) (R : Room) (s : State) (m : MethodId) (args : Array Value) (below : List Frame) (meth : Method) (c : Code) (H : Heap) (locs : List Loc) (cells slots mc ms : Nat) (g : JFrame) (rest : List Value) (Qa : State → Outcome → State → Prop) (XC : String → State → State → Prop) (free : Addr → Prop) : Prop :=
  ∀ T : State, T.heap = H → Stand p l e R s m args below meth c T locs cells slots →
    (∃ (v : Option Value) (st₀ t T' : State) (L : List Loc), st₀.heap = H ∧ Stand p l e R s m args below meth c T' (locs ++ L) (cells + mc) (slots + ms) ∧ (∀ q ∈ L, free q.base) ∧ T'.heap = t.heap ∧ T'.vm = t.vm ∧ Qa st₀ (.returned v) t ∧
      Goes p e below T g T' { g with pc := g.pc + 3, stack := v.toList ++ rest }) ∨
    (∃ (q : Addr) (st₀ t T' : State) (L : List Loc) (E : String) (ce : Cell), st₀.heap = H ∧ Stand p l e R s m args below meth c T' (locs ++ L) (cells + mc) (slots + ms) ∧ (∀ z ∈ L, free z.base) ∧ T'.heap = t.heap ∧ T'.vm = t.vm ∧ XC E st₀ t ∧ t.heap[q]? = some ce ∧ ce.vm = .none ∧ s.vm.findClass E = some ce.cls ∧
      Steps p.tables e below (T.setTop g) ((T'.setTop { g with stack := rest }).pushFrame (.throwing q)))
def vx_X {S : Type} (px : S → Prop) (B : String → S → State → Prop) (A : Nat → Prop) : String → State → State → Prop := fun E st t => ∃ u : S, px u ∧ B E u t ∧ va_F A st t
section Runs
variable {p : Program} {l : Launch} {e : Env} {R : Room} {s : State} {m : MethodId} {args : Array Value} {below : List Frame} {meth : Method} {c : Code} {H : Heap} {locs : List Loc} {cells slots : Nat}
variable {y : MethodName} {bytes cc : ByteArray} {maxL nL mc ms n index : Nat} {ret : Option FieldType} {ws : List Cond} {rm : Room} {Pc : Array Value → State → Prop} {Qc : Array Value → State → Outcome → State → Prop} {XC : String → State → State → Prop} {free : Addr → Prop} {Ts : List Cond} {own C : String} {b : Addr} {As rest : List Value} {g : JFrame}
theorem vx_callBack (cb : CallB R s args own index y bytes maxL ret ws rm mc ms n) (hM : vx_Met l y ws rm Pc Qc XC mc ms free) (hbl : FrameBlind Pc) : vx_Back l R p e below s args y 3 8 (PreOf R mc ms Pc) (PostOf Qc mc ms free) (vx_Post XC mc ms free) := by
  obtain ⟨hrc, hrs, hfr, hlo, hws, hcw, -, hini, -⟩ := cb
  exact vx_back (bytes := bytes) (maxL := maxL) (ret := ret) hM hbl hrc hrs hfr hlo hws hcw (fun a' U hW => word_at hW (Or.inl (by first | rfl | simp [Cond.onTables, Cond.keeps, Cond.steady])) hini)
theorem vx_runV (S : CallFix p m c cc nL s args Ts own) (hM : vx_Met l y ws rm Pc Qc XC mc ms free) (cw : CallW R s args own C index y bytes maxL ret ws rm mc ms n) (hp : PreV s H C b Pc As)
    (hg : g.method = m) (hn : As.length = n) (hsize : g.locals.size = nL) (hstack : g.stack = As.reverse ++ .ref b :: rest) (hW : 2 * g.monitorRoom + (rest.map fun v => v.category).sum ≤ 8) (hdg : decode cc g.pc = .ok (.invokevirtual index, 3)) (hf : cells + mc ≤ R.cells ∧ slots + ms ≤ R.slots) :
    vx_Run p l e R s m args below meth c H locs cells slots mc ms g rest (Qc (Value.ref b :: As).toArray) XC free := by
  have hK : vx_Back l R p e below s args y 3 8 (PreOf R mc ms Pc) (PostOf Qc mc ms free) (vx_Post XC mc ms free) := vx_callBack cw.1 hM hp.1
  obtain ⟨⟨-, -, -, -, -, -, hcode, -, hy, hlen, hl⟩, hin, hse⟩ := cw
  obtain ⟨hx, hb, hml, ho, -⟩ := S
  obtain ⟨-, ⟨cellB, hcB, hoB, hclB⟩, hPc⟩ := hp
  intro T hT X
  rcases vx_callV X hx (C := C) (bytes := bytes) (maxL := maxL) (ret := ret) ho hl hin hse hcode hy hK (by rw [hT]; exact hcB) hoB hclB hg (hsize.trans hml.symm) (argsL := As) (rest := rest) (fun sig h => hn.trans (hlen sig h)) hstack hW (by rw [hb]; exact hdg)
    (fun vm₁ hW₁ => ⟨hf.1, hf.2, hPc (T.setVm vm₁) hT hW₁⟩) with ⟨v, vm₁, ⟨U', l2, c2, s2⟩, hW₁, X', ⟨g', mk, t, L, e1, e2, hq, h1, hL, h2, h3⟩, st⟩ | ⟨q, vm₁, ⟨U', l2, c2, s2⟩, hW₁, X', ⟨g', mk, t, L, E, ce, e1, e2, hq, hce, hcv, hcl, h1, hL, h2, h3⟩, st⟩
  · dsimp only [Pt.U, Pt.locs, Pt.cells, Pt.slots] at X' e1 e2 h1 h2 h3 st
    subst h1; subst h2; subst h3
    exact Or.inl ⟨v, (T.setVm vm₁).calling g' mk (Value.ref b :: As).toArray, t, U', L, hT, X', hL, e1, e2, hq, st⟩
  · dsimp only [Pt.U, Pt.locs, Pt.cells, Pt.slots] at X' e1 e2 h1 h2 h3 st hcl
    subst h1; subst h2; subst h3
    exact Or.inr ⟨q, (T.setVm vm₁).calling g' mk (Value.ref b :: As).toArray, t, U', L, E, ce, hT, X', hL, e1, e2, hq, hce, hcv, vx_cls hW₁ hcl, st⟩
theorem vx_runS (S : CallFix p m c cc nL s args Ts own) (hM : vx_Met l y ws rm Pc Qc XC mc ms free) (cw : CallB R s args own index y bytes maxL ret ws rm mc ms n ∧ (Cond.static y).before args s = true) (hp : PreS s H Pc As)
    (hg : g.method = m) (hn : As.length = n) (hsize : g.locals.size = nL) (hstack : g.stack = As.reverse ++ rest) (hW : 2 * g.monitorRoom + (rest.map fun v => v.category).sum ≤ 8) (hdg : decode cc g.pc = .ok (.invokestatic index, 3)) (hf : cells + mc ≤ R.cells ∧ slots + ms ≤ R.slots) :
    vx_Run p l e R s m args below meth c H locs cells slots mc ms g rest (Qc As.toArray) XC free := by
  have hK : vx_Back l R p e below s args y 3 8 (PreOf R mc ms Pc) (PostOf Qc mc ms free) (vx_Post XC mc ms free) := vx_callBack cw.1 hM hp.1
  obtain ⟨⟨-, -, -, -, -, -, hcode, hini, hy, hlen, hl⟩, hstt⟩ := cw
  obtain ⟨hx, hb, hml, ho, -⟩ := S
  intro T hT X
  rcases vx_callS X hx (bytes := bytes) (maxL := maxL) (ret := ret) ho hl hstt hini hcode hy hK hg (hsize.trans hml.symm) (argsL := As) (rest := rest) (fun sig h => hn.trans (hlen sig h)) hstack hW (by rw [hb]; exact hdg)
    (fun vm₁ hW₁ => ⟨hf.1, hf.2, hp.2 (T.setVm vm₁) hT hW₁⟩) with ⟨v, vm₁, ⟨U', l2, c2, s2⟩, hW₁, X', ⟨g', mk, t, L, e1, e2, hq, h1, hL, h2, h3⟩, st⟩ | ⟨q, vm₁, ⟨U', l2, c2, s2⟩, hW₁, X', ⟨g', mk, t, L, E, ce, e1, e2, hq, hce, hcv, hcl, h1, hL, h2, h3⟩, st⟩
  · dsimp only [Pt.U, Pt.locs, Pt.cells, Pt.slots] at X' e1 e2 h1 h2 h3 st
    subst h1; subst h2; subst h3
    exact Or.inl ⟨v, (T.setVm vm₁).calling g' mk As.toArray, t, U', L, hT, X', hL, e1, e2, hq, st⟩
  · dsimp only [Pt.U, Pt.locs, Pt.cells, Pt.slots] at X' e1 e2 h1 h2 h3 st hcl
    subst h1; subst h2; subst h3
    exact Or.inr ⟨q, (T.setVm vm₁).calling g' mk As.toArray, t, U', L, E, ce, hT, X', hL, e1, e2, hq, hce, hcv, vx_cls hW₁ hcl, st⟩
end Runs
section Rows
variable {p : Program} {l : Launch} {e : Env} {R : Room} {s : State} {m : MethodId} {args : Array Value} {below : List Frame} {meth : Method} {c : Code} {H : Heap} {locs : List Loc} {cells slots : Nat} {Q : State → Prop}
variable {mc ms : Nat} {free : Addr → Prop} {A0 A1 : Nat → Prop} {H0 : Heap} {a : Array Value} {pc : Nat} {ls : Array Slot} {st0 rest : List Value}
theorem vx_keep {st₀ t T' : State} {L : List Loc} (h0 : st₀.heap = H) (e1 : T'.heap = t.heap) (hS : va_S A0 H0 H locs) (hA : ∀ q, q < H.size → A1 q → A0 q) (hf : ∀ q, free q → A0 q) (hL : ∀ q ∈ L, free q.base) (hF : va_F A1 st₀ t) :
    H.size ≤ T'.heap.size ∧ (∀ q : Nat, q < H.size → ¬ A1 q → T'.heap[q]? = H[q]?) ∧ va_S A0 H0 T'.heap (locs ++ L) := by
  obtain ⟨hz, hk⟩ := hF
  rw [h0] at hz hk
  exact ⟨by rw [e1]; exact hz, fun q h1 h2 => by rw [e1]; exact hk q h1 h2,
    ⟨Nat.le_trans hS.1 (by rw [e1]; exact hz), fun q h1 h2 => by rw [e1, hk q (Nat.lt_of_lt_of_le h1 hS.1) (fun z => h2 (hA q (Nat.lt_of_lt_of_le h1 hS.1) z))]; exact hS.2.1 q h1 h2, fun q hq => by
      rcases List.mem_append.mp hq with h | h
      · exact hS.2.2 q h
      · exact hf _ (hL q h)⟩⟩
theorem vx_calli {S SX : Type} {post : Int32 → S → Prop} {px : SX → Prop} {B : S → State → Prop} {BX : String → SX → State → Prop} {AX : Nat → Prop} (hr : vx_Run p l e R s m args below meth c H locs cells slots mc ms (F0 m pc ls st0) rest (va_Qi post B A1 a) (vx_X px BX AX) free) (hS : va_S A0 H0 H locs) (hA : ∀ q, q < H.size → A1 q → A0 q) (hf : ∀ q, free q → A0 q) (hAX : ∀ q, q < H.size → AX q → A0 q)
    (kx : ∀ (E : String) (ce : Cell) (q9 : Addr) (u : SX) (t : State) (H1 : Heap) (locs1 : List Loc), t.heap = H1 → s.vm.Alike t.vm → px u → BX E u t → H.size ≤ H1.size → (∀ q : Nat, q < H.size → ¬ AX q → H1[q]? = H[q]?) → va_S A0 H0 H1 locs1 → H1[q9]? = some ce → ce.vm = .none → s.vm.findClass E = some ce.cls → vx_W p l e R s m args below meth c H1 locs1 (cells + mc) (slots + ms) Q (F0 m pc ls rest) q9)
    (kk : ∀ (r : Int32) (u : S) (t : State) (H1 : Heap) (locs1 : List Loc), t.heap = H1 → s.vm.Alike t.vm → post r u → B u t → H.size ≤ H1.size → (∀ q : Nat, q < H.size → ¬ A1 q → H1[q]? = H[q]?) → va_S A0 H0 H1 locs1 → W p l e R s m args below meth c H1 locs1 (cells + mc) (slots + ms) Q (F0 m (pc + 3) ls (.int r :: rest))) : W p l e R s m args below meth c H locs cells slots Q (F0 m pc ls st0) := by
  intro T hT X
  rcases hr T hT X with ⟨v, st₀, t, T', L, h0, X', hL, e1, e2, ⟨⟨r, u, hv, hp, hb⟩, hF⟩, st⟩ | ⟨q, st₀, t, T', L, E, ce, h0, X', hL, e1, e2, ⟨u, hp, hb, hF⟩, hce, hcv, hcl, st⟩
  · cases hv
    obtain ⟨k1, k2, k3⟩ := vx_keep h0 e1 hS hA hf hL hF
    obtain ⟨t2, a1, b1⟩ := kk r u t T'.heap (locs ++ L) e1.symm (by rw [← e2]; exact X'.warmed.alike) hp hb k1 k2 k3 T' rfl X'
    exact ⟨t2, st t2 a1, b1⟩
  · obtain ⟨k1, k2, k3⟩ := vx_keep h0 e1 hS hAX hf hL hF
    obtain ⟨t2, a1, b1⟩ := kx E ce q u t T'.heap (locs ++ L) e1.symm (by rw [← e2]; exact X'.warmed.alike) hp hb k1 k2 k3 (by rw [e1]; exact hce) hcv hcl T' rfl X'
    exact ⟨t2, st.trans a1, b1⟩
theorem vx_calll {S SX : Type} {post : Int64 → S → Prop} {px : SX → Prop} {B : S → State → Prop} {BX : String → SX → State → Prop} {AX : Nat → Prop} (hr : vx_Run p l e R s m args below meth c H locs cells slots mc ms (F0 m pc ls st0) rest (va_Ql post B A1 a) (vx_X px BX AX) free) (hS : va_S A0 H0 H locs) (hA : ∀ q, q < H.size → A1 q → A0 q) (hf : ∀ q, free q → A0 q) (hAX : ∀ q, q < H.size → AX q → A0 q)
    (kx : ∀ (E : String) (ce : Cell) (q9 : Addr) (u : SX) (t : State) (H1 : Heap) (locs1 : List Loc), t.heap = H1 → s.vm.Alike t.vm → px u → BX E u t → H.size ≤ H1.size → (∀ q : Nat, q < H.size → ¬ AX q → H1[q]? = H[q]?) → va_S A0 H0 H1 locs1 → H1[q9]? = some ce → ce.vm = .none → s.vm.findClass E = some ce.cls → vx_W p l e R s m args below meth c H1 locs1 (cells + mc) (slots + ms) Q (F0 m pc ls rest) q9)
    (kk : ∀ (r : Int64) (u : S) (t : State) (H1 : Heap) (locs1 : List Loc), t.heap = H1 → s.vm.Alike t.vm → post r u → B u t → H.size ≤ H1.size → (∀ q : Nat, q < H.size → ¬ A1 q → H1[q]? = H[q]?) → va_S A0 H0 H1 locs1 → W p l e R s m args below meth c H1 locs1 (cells + mc) (slots + ms) Q (F0 m (pc + 3) ls (.long r :: rest))) : W p l e R s m args below meth c H locs cells slots Q (F0 m pc ls st0) := by
  intro T hT X
  rcases hr T hT X with ⟨v, st₀, t, T', L, h0, X', hL, e1, e2, ⟨⟨r, u, hv, hp, hb⟩, hF⟩, st⟩ | ⟨q, st₀, t, T', L, E, ce, h0, X', hL, e1, e2, ⟨u, hp, hb, hF⟩, hce, hcv, hcl, st⟩
  · cases hv
    obtain ⟨k1, k2, k3⟩ := vx_keep h0 e1 hS hA hf hL hF
    obtain ⟨t2, a1, b1⟩ := kk r u t T'.heap (locs ++ L) e1.symm (by rw [← e2]; exact X'.warmed.alike) hp hb k1 k2 k3 T' rfl X'
    exact ⟨t2, st t2 a1, b1⟩
  · obtain ⟨k1, k2, k3⟩ := vx_keep h0 e1 hS hAX hf hL hF
    obtain ⟨t2, a1, b1⟩ := kx E ce q u t T'.heap (locs ++ L) e1.symm (by rw [← e2]; exact X'.warmed.alike) hp hb k1 k2 k3 (by rw [e1]; exact hce) hcv hcl T' rfl X'
    exact ⟨t2, st.trans a1, b1⟩
theorem vx_callf {S SX : Type} {post : UInt32 → S → Prop} {px : SX → Prop} {B : S → State → Prop} {BX : String → SX → State → Prop} {AX : Nat → Prop} (hr : vx_Run p l e R s m args below meth c H locs cells slots mc ms (F0 m pc ls st0) rest (va_Qf post B A1 a) (vx_X px BX AX) free) (hS : va_S A0 H0 H locs) (hA : ∀ q, q < H.size → A1 q → A0 q) (hf : ∀ q, free q → A0 q) (hAX : ∀ q, q < H.size → AX q → A0 q)
    (kx : ∀ (E : String) (ce : Cell) (q9 : Addr) (u : SX) (t : State) (H1 : Heap) (locs1 : List Loc), t.heap = H1 → s.vm.Alike t.vm → px u → BX E u t → H.size ≤ H1.size → (∀ q : Nat, q < H.size → ¬ AX q → H1[q]? = H[q]?) → va_S A0 H0 H1 locs1 → H1[q9]? = some ce → ce.vm = .none → s.vm.findClass E = some ce.cls → vx_W p l e R s m args below meth c H1 locs1 (cells + mc) (slots + ms) Q (F0 m pc ls rest) q9)
    (kk : ∀ (r : UInt32) (u : S) (t : State) (H1 : Heap) (locs1 : List Loc), t.heap = H1 → s.vm.Alike t.vm → post r u → B u t → H.size ≤ H1.size → (∀ q : Nat, q < H.size → ¬ A1 q → H1[q]? = H[q]?) → va_S A0 H0 H1 locs1 → W p l e R s m args below meth c H1 locs1 (cells + mc) (slots + ms) Q (F0 m (pc + 3) ls (.float r :: rest))) : W p l e R s m args below meth c H locs cells slots Q (F0 m pc ls st0) := by
  intro T hT X
  rcases hr T hT X with ⟨v, st₀, t, T', L, h0, X', hL, e1, e2, ⟨⟨r, u, hv, hp, hb⟩, hF⟩, st⟩ | ⟨q, st₀, t, T', L, E, ce, h0, X', hL, e1, e2, ⟨u, hp, hb, hF⟩, hce, hcv, hcl, st⟩
  · cases hv
    obtain ⟨k1, k2, k3⟩ := vx_keep h0 e1 hS hA hf hL hF
    obtain ⟨t2, a1, b1⟩ := kk r u t T'.heap (locs ++ L) e1.symm (by rw [← e2]; exact X'.warmed.alike) hp hb k1 k2 k3 T' rfl X'
    exact ⟨t2, st t2 a1, b1⟩
  · obtain ⟨k1, k2, k3⟩ := vx_keep h0 e1 hS hAX hf hL hF
    obtain ⟨t2, a1, b1⟩ := kx E ce q u t T'.heap (locs ++ L) e1.symm (by rw [← e2]; exact X'.warmed.alike) hp hb k1 k2 k3 (by rw [e1]; exact hce) hcv hcl T' rfl X'
    exact ⟨t2, st.trans a1, b1⟩
theorem vx_calld {S SX : Type} {post : UInt64 → S → Prop} {px : SX → Prop} {B : S → State → Prop} {BX : String → SX → State → Prop} {AX : Nat → Prop} (hr : vx_Run p l e R s m args below meth c H locs cells slots mc ms (F0 m pc ls st0) rest (va_Qd post B A1 a) (vx_X px BX AX) free) (hS : va_S A0 H0 H locs) (hA : ∀ q, q < H.size → A1 q → A0 q) (hf : ∀ q, free q → A0 q) (hAX : ∀ q, q < H.size → AX q → A0 q)
    (kx : ∀ (E : String) (ce : Cell) (q9 : Addr) (u : SX) (t : State) (H1 : Heap) (locs1 : List Loc), t.heap = H1 → s.vm.Alike t.vm → px u → BX E u t → H.size ≤ H1.size → (∀ q : Nat, q < H.size → ¬ AX q → H1[q]? = H[q]?) → va_S A0 H0 H1 locs1 → H1[q9]? = some ce → ce.vm = .none → s.vm.findClass E = some ce.cls → vx_W p l e R s m args below meth c H1 locs1 (cells + mc) (slots + ms) Q (F0 m pc ls rest) q9)
    (kk : ∀ (r : UInt64) (u : S) (t : State) (H1 : Heap) (locs1 : List Loc), t.heap = H1 → s.vm.Alike t.vm → post r u → B u t → H.size ≤ H1.size → (∀ q : Nat, q < H.size → ¬ A1 q → H1[q]? = H[q]?) → va_S A0 H0 H1 locs1 → W p l e R s m args below meth c H1 locs1 (cells + mc) (slots + ms) Q (F0 m (pc + 3) ls (.double r :: rest))) : W p l e R s m args below meth c H locs cells slots Q (F0 m pc ls st0) := by
  intro T hT X
  rcases hr T hT X with ⟨v, st₀, t, T', L, h0, X', hL, e1, e2, ⟨⟨r, u, hv, hp, hb⟩, hF⟩, st⟩ | ⟨q, st₀, t, T', L, E, ce, h0, X', hL, e1, e2, ⟨u, hp, hb, hF⟩, hce, hcv, hcl, st⟩
  · cases hv
    obtain ⟨k1, k2, k3⟩ := vx_keep h0 e1 hS hA hf hL hF
    obtain ⟨t2, a1, b1⟩ := kk r u t T'.heap (locs ++ L) e1.symm (by rw [← e2]; exact X'.warmed.alike) hp hb k1 k2 k3 T' rfl X'
    exact ⟨t2, st t2 a1, b1⟩
  · obtain ⟨k1, k2, k3⟩ := vx_keep h0 e1 hS hAX hf hL hF
    obtain ⟨t2, a1, b1⟩ := kx E ce q u t T'.heap (locs ++ L) e1.symm (by rw [← e2]; exact X'.warmed.alike) hp hb k1 k2 k3 (by rw [e1]; exact hce) hcv hcl T' rfl X'
    exact ⟨t2, st.trans a1, b1⟩
theorem vx_callv {S SX : Type} {post : S → Prop} {px : SX → Prop} {B : S → State → Prop} {BX : String → SX → State → Prop} {AX : Nat → Prop} (hr : vx_Run p l e R s m args below meth c H locs cells slots mc ms (F0 m pc ls st0) rest (va_Qv post B A1 a) (vx_X px BX AX) free) (hS : va_S A0 H0 H locs) (hA : ∀ q, q < H.size → A1 q → A0 q) (hf : ∀ q, free q → A0 q) (hAX : ∀ q, q < H.size → AX q → A0 q)
    (kx : ∀ (E : String) (ce : Cell) (q9 : Addr) (u : SX) (t : State) (H1 : Heap) (locs1 : List Loc), t.heap = H1 → s.vm.Alike t.vm → px u → BX E u t → H.size ≤ H1.size → (∀ q : Nat, q < H.size → ¬ AX q → H1[q]? = H[q]?) → va_S A0 H0 H1 locs1 → H1[q9]? = some ce → ce.vm = .none → s.vm.findClass E = some ce.cls → vx_W p l e R s m args below meth c H1 locs1 (cells + mc) (slots + ms) Q (F0 m pc ls rest) q9)
    (kk : ∀ (u : S) (t : State) (H1 : Heap) (locs1 : List Loc), t.heap = H1 → s.vm.Alike t.vm → post u → B u t → H.size ≤ H1.size → (∀ q : Nat, q < H.size → ¬ A1 q → H1[q]? = H[q]?) → va_S A0 H0 H1 locs1 → W p l e R s m args below meth c H1 locs1 (cells + mc) (slots + ms) Q (F0 m (pc + 3) ls (rest))) : W p l e R s m args below meth c H locs cells slots Q (F0 m pc ls st0) := by
  intro T hT X
  rcases hr T hT X with ⟨v, st₀, t, T', L, h0, X', hL, e1, e2, ⟨⟨u, hv, hp, hb⟩, hF⟩, st⟩ | ⟨q, st₀, t, T', L, E, ce, h0, X', hL, e1, e2, ⟨u, hp, hb, hF⟩, hce, hcv, hcl, st⟩
  · cases hv
    obtain ⟨k1, k2, k3⟩ := vx_keep h0 e1 hS hA hf hL hF
    obtain ⟨t2, a1, b1⟩ := kk u t T'.heap (locs ++ L) e1.symm (by rw [← e2]; exact X'.warmed.alike) hp hb k1 k2 k3 T' rfl X'
    exact ⟨t2, st t2 a1, b1⟩
  · obtain ⟨k1, k2, k3⟩ := vx_keep h0 e1 hS hAX hf hL hF
    obtain ⟨t2, a1, b1⟩ := kx E ce q u t T'.heap (locs ++ L) e1.symm (by rw [← e2]; exact X'.warmed.alike) hp hb k1 k2 k3 (by rw [e1]; exact hce) hcv hcl T' rfl X'
    exact ⟨t2, st.trans a1, b1⟩
/-- caught by the row x of this method's table; the rows ahead don't take it -/
theorem vx_catch {own name : String} {E : String} {ce : Cell} {q : Addr} (hown : s.vm.findClass own = some m.cls) (pre : List ExceptionTableEntry) (x : ExceptionTableEntry) (suf : List ExceptionTableEntry) (hsplit : c.exceptionTable.toList = pre ++ x :: suf)
    (hpass : ∀ z ∈ pre, covers z pc = false ∨ (z.catchType ≠ 0 ∧ ∃ nm : String, (Cond.classLink own z.catchType nm).before args s = true ∧ va_Nc E nm s)) (hx : covers x pc = true) (h0 : x.catchType ≠ 0)
    (hlink : (Cond.classLink own x.catchType name).before args s = true) (hcast : (Cond.castable E name).before args s = true) (hcell : H[q]? = some ce) (hv : ce.vm = .none) (hcl : s.vm.findClass E = some ce.cls)
    (kk : W p l e R s m args below meth c H locs cells slots Q (F0 m x.handlerPc ls [.ref q])) : vx_W p l e R s m args below meth c H locs cells slots Q (F0 m pc ls rest) q := by
  intro T hT X
  have hpl : e.platform.magicAccessors = ({} : Platform).magicAccessors := by rw [X.admits.platform]
  obtain ⟨c3, c4, hc3, hc4, hasg⟩ := Cond.castable_spec hcast
  cases Option.some.inj (hc3.symm.trans hcl)
  obtain ⟨c5, hc5, hcl5⟩ := Cond.classLink_spec hown hlink e.platform hpl
  cases Option.some.inj (hc4.symm.trans hc5)
  obtain ⟨vm', X', st⟩ := X.thenCaughtThrough q (g := F0 m pc ls rest) rfl (Steps.refl _) (by rw [hT]; exact hcell) (by rw [hv]; rfl) (by obtain ⟨k9, h9, -⟩ := Vm.findClass_spec hcl; exact ⟨k9, h9⟩) pre x suf hsplit
    (fun z hz => by
      rcases hpass z hz with h | ⟨hz0, nm, hl1, hn1⟩
      · exact Or.inl h
      · obtain ⟨c6, hc6, hcl6⟩ := Cond.classLink_spec hown hl1 e.platform hpl
        obtain ⟨a8, b8, h1, h2, h3⟩ := hn1
        cases Option.some.inj (h1.symm.trans hcl)
        cases Option.some.inj (h2.symm.trans hc6)
        exact Or.inr ⟨hz0, _, hcl6, h3⟩) hx (Or.inr ⟨h0, c4, hcl5, hasg⟩)
  obtain ⟨t, a1, b1⟩ := kk (T.setVm vm') hT X'
  exact ⟨t, st.trans a1, b1⟩
end Rows
section Ends
variable {p : Program} {l : Launch} {e : Env} {R : Room} {s : State} {m : MethodId} {args : Array Value} {below : List Frame} {meth : Method} {c : Code} {H : Heap} {locs : List Loc} {cells slots : Nat} {Q : State → Prop}
variable {mc ms : Nat} {free : Addr → Prop} {A0 A1 : Nat → Prop} {H0 : Heap} {a : Array Value} {ls : Array Slot} {st0 rest : List Value}
variable {Qc : Array Value → State → Outcome → State → Prop} {XC : String → State → State → Prop}
/-- what a body that may throw owes at its end -/
def vx_MQ (below : List Frame) (Qc : Array Value → State → Outcome → State → Prop) (XC : String → State → State → Prop) (a : Array Value) (s : State) (mc ms : Nat) (free : Addr → Prop) : State → Prop := fun t =>
  ∃ o, t.status = .running ∧ Ended t below o ∧ vx_Q Qc XC mc ms free a s o t
theorem vx_ret {g : JFrame} {mc ms : Nat} (k : W p l e R s m args below meth c H locs cells slots (MQ below Qc args s mc ms free) g) : W p l e R s m args below meth c H locs cells slots (vx_MQ below Qc XC args s mc ms free) g := by
  intro T hT X
  obtain ⟨t, a1, o, b1, b2, b3, b4⟩ := k T hT X
  exact ⟨t, a1, o, b1, b2, Or.inl ⟨b3, b4⟩⟩
/-- not caught here: it goes on to the caller -/
theorem vx_widen {g : JFrame} {q : Addr} {k n : Nat} (h1 : cells ≤ k) (h2 : slots ≤ n) (kk : vx_W p l e R s m args below meth c H locs k n Q g q) : vx_W p l e R s m args below meth c H locs cells slots Q g q := fun T hT X => kk T hT (stand_widen X h1 h2)
theorem vx_out {pc : Nat} {E : String} {ce : Cell} {q : Addr} {mc ms : Nat} (hout : ∀ x ∈ c.exceptionTable.toList, covers x pc = false) (hlocks : meth.locks = false) (hcell : H[q]? = some ce) (hv : ce.vm = .none) (hcl : s.vm.findClass E = some ce.cls)
    (hx : ∀ t : State, t.heap = H → s.vm.Alike t.vm → XC E s t) (hf : ∀ z ∈ locs, free z.base) (hc : cells ≤ mc) (hs : slots ≤ ms) :
    vx_W p l e R s m args below meth c H locs cells slots (vx_MQ below Qc XC args s mc ms free) (F0 m pc ls rest) q := by
  intro T hT X
  obtain ⟨st1, hrun, hend, hW, hsm⟩ := X.leaveThrown q (g := F0 m pc ls rest) rfl rfl rfl hout hlocks
  have hcell9 : (T.setFrames (.throwing q :: below)).heap[q]? = some ce := by
    show T.heap[q]? = some ce
    rw [hT]; exact hcell
  exact ⟨_, st1, .threw q, hrun, hend, Or.inr ⟨q, rfl, E, ce, locs, hx _ hT hW.alike, hcell9, hv, hcl, hW, hsm.mono hc hs, hf⟩⟩
theorem vx_frame {U : State} {k n : Nat} (h : s.sameButNew ({ U with vm := s.vm } : State) locs k n) : s.heap.size ≤ U.heap.size ∧ ∀ q : Nat, q < s.heap.size → (∀ z ∈ locs, z.base ≠ q) → U.heap[q]? = s.heap[q]? := by
  obtain ⟨-, h2, -, -, -, h6⟩ := h
  refine ⟨h2, fun q hq hz => ?_⟩
  obtain ⟨c9, e1, e2, e3, e4⟩ := h6 q _ (Array.getElem?_eq_getElem hq)
  have hs : c9.slots = (s.heap[q]).slots := Array.ext_getElem? fun i => e4 i fun hm => hz _ hm rfl
  have h9 : c9 = s.heap[q] := by
    rw [hs] at e2
    exact e2
  have e5 : U.heap[q]? = some c9 := e1
  rw [e5, h9, Array.getElem?_eq_getElem hq]
/-- the words of a throw but the four that speak of the heap -/
def vx_no (w : Cond) : Bool := decide (w ≠ .isRef (.static Bundle.tN "UNASSIGNED_STACK" Bundle.steD)) && decide (w ≠ .isRef (.static Bundle.tN "SUPPRESSED_SENTINEL" Bundle.listD)) && decide (w ≠ .laysStatic Bundle.tN "UNASSIGNED_STACK" Bundle.steD) && decide (w ≠ .laysStatic Bundle.tN "SUPPRESSED_SENTINEL" Bundle.listD)
def vx_at0 (own : String) (ic : Nat) (X : String) (names : List String) : List Cond := (Bundle.ownAtoms0 own ic X names).filter vx_no
def vx_atS (own : String) (ic : Nat) (X : String) (names : List String) : List Cond := (Bundle.ownAtoms own ic X names).filter vx_no
/-- a word that the tables alone decide, or a good one -/
def vx_ot (w : Cond) : Bool := w.onTables || goodWord w
theorem vx_ot_at {args a' : Array Value} {s U : State} {w : Cond} (hW : s.WarmedH U.vm) (hvm : s.vm = U.vm) (hg : vx_ot w = true) (h : w.before args s = true) : w.before a' U = true := by
  simp only [vx_ot, Bool.or_eq_true] at hg
  rcases hg with hg | hg
  · exact va_tabs hg hvm h
  · exact word_at hW (good_of_word hg) h
/-- a list's words: the good ones out of the method's own list, the others by premises of their own -/
theorem vx_hat {args : Array Value} {s : State} {L B : List Cond} (h1 : ∀ w ∈ L.filter goodWord, w.before args s = true) (h2 : ∀ w ∈ L.filter (fun w => !goodWord w), w ∈ B) (h3 : ∀ w ∈ B, w.before args s = true) : ∀ w ∈ L, w.before args s = true := by
  intro w hw
  by_cases g : goodWord w = true
  · exact h1 w (List.mem_filter.mpr ⟨hw, g⟩)
  · refine h3 w (h2 w (List.mem_filter.mpr ⟨hw, ?_⟩))
    show (!goodWord w) = true
    cases hgw : goodWord w
    · rfl
    · exact absurd hgw g
theorem vx_c {args : Array Value} {s : State} {w : Cond} {B : List Cond} (h : w.before args s = true) (t : ∀ w ∈ B, w.before args s = true) : ∀ w' ∈ w :: B, w'.before args s = true := fun w' h' => (List.mem_cons.mp h').elim (fun e => by rw [e]; exact h) (t w')
theorem vx_n {args : Array Value} {s : State} : ∀ w ∈ ([] : List Cond), w.before args s = true := fun _ h => nomatch h
theorem vx_own {args : Array Value} {s : State} {L : List Cond} (h1 : ∀ w ∈ L.filter vx_no, w.before args s = true)
    (hU : (Cond.isRef (.static Bundle.tN "UNASSIGNED_STACK" Bundle.steD)).before args s = true) (hN : (Cond.isRef (.static Bundle.tN "SUPPRESSED_SENTINEL" Bundle.listD)).before args s = true)
    (lU : (Cond.laysStatic Bundle.tN "UNASSIGNED_STACK" Bundle.steD).before args s = true) (lN : (Cond.laysStatic Bundle.tN "SUPPRESSED_SENTINEL" Bundle.listD).before args s = true) : ∀ w ∈ L, w.before args s = true := by
  intro w hw
  by_cases e1 : w = .isRef (.static Bundle.tN "UNASSIGNED_STACK" Bundle.steD)
  · rw [e1]; exact hU
  · by_cases e2 : w = .isRef (.static Bundle.tN "SUPPRESSED_SENTINEL" Bundle.listD)
    · rw [e2]; exact hN
    · by_cases e3 : w = .laysStatic Bundle.tN "UNASSIGNED_STACK" Bundle.steD
      · rw [e3]; exact lU
      · by_cases e4 : w = .laysStatic Bundle.tN "SUPPRESSED_SENTINEL" Bundle.listD
        · rw [e4]; exact lN
        · exact h1 w (List.mem_filter.mpr ⟨hw, by unfold vx_no; rw [decide_eq_true e1, decide_eq_true e2, decide_eq_true e3, decide_eq_true e4]; rfl⟩)
/-- where a static field lies, its class's statics cell in H -/
def vx_L (C n d : String) (A : Nat → Prop) (U : State) (H : Heap) : Prop := ∃ (c : ClassId) (k : Class) (i : Nat) (f : Field) (a : Nat) (cell : Cell), U.vm.findClass C = some c ∧ U.fieldFound? C n d = some (c, k, i, f) ∧ f.isStatic = true ∧ k.statics = some a ∧ H[a]? = some cell ∧ cell.vm.isStatics = true ∧ cell.cls = c ∧ f.slot < cell.slots.size ∧ k.staticTypes[f.slot]? = some f.type ∧ ¬ A a
theorem vx_L.moved {C n d : String} {A : Nat → Prop} {u U : State} {H : Heap} (hvm : u.vm.Alike U.vm) (h : vx_L C n d A u H) : vx_L C n d A U H := by
  obtain ⟨c, k, i, f, a, cell, h1, h2, h3, h4, h5, h6, h7, h8, h9, h10⟩ := h
  obtain ⟨k', hi', he⟩ := State.fieldFound?_setVm hvm h2
  exact ⟨c, k', i, f, a, cell, by rw [hvm.findClass]; exact h1, hi', h3, by rw [he]; exact h4, h5, h6, h7, h8, by rw [he]; exact h9, h10⟩
theorem vx_L.kept {C n d : String} {A : Nat → Prop} {U : State} {H H1 : Heap} (h : vx_L C n d A U H) (hq : ∀ a : Nat, a < H.size → ¬ A a → H1[a]? = H[a]?) : vx_L C n d A U H1 := by
  obtain ⟨c, k, i, f, a, cell, h1, h2, h3, h4, h5, h6, h7, h8, h9, h10⟩ := h
  exact ⟨c, k, i, f, a, cell, h1, h2, h3, h4, by rw [hq a (Array.getElem?_eq_some_iff.mp h5).1 h10]; exact h5, h6, h7, h8, h9, h10⟩
theorem vx_L.narrow {C n d : String} {A B : Nat → Prop} {U : State} {H : Heap} (h : vx_L C n d A U H) (hAB : ∀ q, B q → A q) : vx_L C n d B U H := by
  obtain ⟨c, k, i, f, a, cell, h1, h2, h3, h4, h5, h6, h7, h8, h9, h10⟩ := h
  exact ⟨c, k, i, f, a, cell, h1, h2, h3, h4, h5, h6, h7, h8, h9, fun z => h10 (hAB _ z)⟩
theorem vx_L.word {C n d : String} {A : Nat → Prop} {s : State} {args : Array Value} (h : vx_L C n d A s s.heap) : (Cond.laysStatic C n d).before args s = true := by
  obtain ⟨c, k, i, f, a, cell, h1, h2, h3, h4, h5, h6, h7, h8, h9, -⟩ := h
  show (Cond.laysStatic C n d).holds args s none s [] = true
  exact Cond.laysStatic_of h1 h2 h3 h4 h5 h6 h7 h8 h9
/-- .. and what it holds: null or some reference -/
def vx_Zq (C n d : String) (A : Nat → Prop) (U : State) (H : Heap) : Prop := va_Zq C n d A U H ∧ vx_L C n d A U H
theorem vx_Zq.moved {C n d : String} {A : Nat → Prop} {u U : State} {H : Heap} (hvm : u.vm.Alike U.vm) (h : vx_Zq C n d A u H) : vx_Zq C n d A U H := ⟨va_Zq.moved hvm h.1, vx_L.moved hvm h.2⟩
theorem vx_Zq.kept {C n d : String} {A : Nat → Prop} {U : State} {H H1 : Heap} (h : vx_Zq C n d A U H) (hq : ∀ a : Nat, a < H.size → ¬ A a → H1[a]? = H[a]?) : vx_Zq C n d A U H1 := ⟨va_Zq.kept h.1 hq, vx_L.kept h.2 hq⟩
theorem vx_Zq.narrow {C n d : String} {A B : Nat → Prop} {U : State} {H : Heap} (h : vx_Zq C n d A U H) (hAB : ∀ q, B q → A q) : vx_Zq C n d B U H := ⟨va_Zq.narrow h.1 hAB, vx_L.narrow h.2 hAB⟩
theorem vx_Zqof {args : Array Value} {s : State} {C n d : String} {A : Nat → Prop} (hl : (Cond.laysStatic C n d).before args s = true) (hini : (Cond.initialized C).before args s = true) (h : (Cond.isRef (.static C n d)).before args s = true) (hA : ∀ a : Nat, a < s.heap.size → ¬ A a) : vx_Zq C n d A s s.heap := by
  refine ⟨va_Zqof hl hini h hA, ?_⟩
  obtain ⟨c, k, i, f, a, cell, h1, h2, h3, h4, h5, h6, h7, h8, h9⟩ := Cond.laysStatic_spec hl
  exact ⟨c, k, i, f, a, cell, h1, h2, h3, h4, h5, h6, h7, h8, h9, hA a (Array.getElem?_eq_some_iff.mp h5).1⟩
theorem vx_isRef {C n d : String} {v : Value} {A : Nat → Prop} {s : State} {args : Array Value} (h : va_Z C n d v A s s.heap) (hv : v.isRef = true) : (Cond.isRef (.static C n d)).before args s = true := by
  obtain ⟨cf, kf, fi, f, a, cell, h1, h2, h3, h4, h5, h6, h7, -⟩ := h
  have he : (Term.static C n d).eval args s none [] s = some v := by
    simp [Term.eval, State.fieldNamed?, h1, h2, h4, h5, h6, h7]
  simp only [Cond.before, Cond.holds, Cond.value, he]
  cases v <;> simp_all [Value.isRef]
theorem vx_isRefq {C n d : String} {A : Nat → Prop} {s : State} {args : Array Value} (h : va_Zq C n d A s s.heap) : (Cond.isRef (.static C n d)).before args s = true := by
  rcases h with h | ⟨t, h⟩
  · exact vx_isRef h rfl
  · exact vx_isRef h rfl
/-- the same frame, seen from here: as if the method were called anew in this heap -/
theorem vx_rebase {T : State} (X : Stand p l e R s m args below meth c T locs cells slots) {R' : Room} (hf : R'.frames ≤ R.frames) (hl : R'.locals ≤ R.locals) (hc : cells + R'.cells ≤ R.cells) (hs : slots + R'.slots ≤ R.slots) :
    Stand p l e R' ((T.setVm s.vm).setFrames (.invoking m args :: below)) m args below meth c T [] 0 0 := by
  have htop : (T.setVm s.vm).topJava?.isSome := X.here.top
  have hF : ((T.setVm s.vm).setFrames (.invoking m args :: below)).frames = .invoking m args :: below := State.frames_setFrames _ (State.cur_lt_of_top htop)
  obtain ⟨g₀, hg0⟩ := Option.isSome_iff_exists.mp htop
  obtain ⟨r, hr⟩ := State.topJava?_eq_some.mp hg0
  have hl9 : e.platform.stackLimits (T.setVm s.vm).me = e.platform.stackLimits s.me := X.limits
  have hb9 : (T.setVm s.vm).me.stackBytes = s.me.stackBytes := X.bytes
  refine ⟨X.admits, X.cas, X.clock, hF, ?_, X.hears, X.method, X.code, X.here, X.tail, X.warmed, ?_, ?_, ?_⟩
  · have h := X.room
    have hU : ((T.setVm s.vm).setFrames (.invoking m args :: below)).localsInUse = s.localsInUse := by
      rw [State.localsInUse_invoking hF (meth := meth) (c := c) X.method X.code, State.localsInUse_invoking X.frames X.method X.code]
    simp only [State.hasRoom, Bool.and_eq_true, decide_eq_true_eq] at h ⊢
    obtain ⟨⟨⟨⟨h1, h2, h3, h4, h5, h6⟩, h7⟩, h8⟩, h9⟩ := h
    rw [X.frames, List.length_cons] at h2 h3
    have q1 := X.heapSize
    have q2 := X.used
    simp only [hF, hU, List.length_cons, State.stackLimits_setFrames, State.stackBytes_setFrames, hl9, hb9]
    refine ⟨⟨⟨⟨by omega, by omega, by omega, by omega, by omega, h6⟩, ?_⟩, ?_⟩, X.book⟩
    · show T.heap.size + R'.cells ≤ e.platform.maxCells
      omega
    · show T.slotsUsed + R'.slots ≤ e.platform.maxSlots
      omega
  · rw [State.stackLimits_setFrames]; rfl
  · rw [State.stackBytes_setFrames]; rfl
  · refine ⟨?_, Nat.le_refl _, Nat.le_refl _, ?_, ?_, fun a c9 h9 => ⟨c9, h9, rfl, rfl, fun _ _ => rfl⟩⟩
    · obtain ⟨t, ht, -⟩ := State.frames_cons hr
      show T.setVm s.vm = { ((T.setVm s.vm).setFrames (.invoking m args :: below)).setFrames (T.setVm s.vm).frames with heap := T.heap, slotsUsed := T.slotsUsed }
      rw [State.setFrames_setFrames, State.setFrames_self ht]
      rfl
    · show T.slotsUsed = T.slotsUsed + ((T.heap.toList.drop T.heap.size).map (·.slots.size)).sum
      rw [List.drop_eq_nil_of_le (Nat.le_of_eq Array.length_toList)]
      rfl
    · show ((T.heap.toList.drop T.heap.size).map (·.slots.size)).sum ≤ 0
      rw [List.drop_eq_nil_of_le (Nat.le_of_eq Array.length_toList)]
      exact Nat.le_refl _
/-- 'throw new E()': new; dup; invokespecial; athrow -/
theorem vx_throw0 {cc : ByteArray} {pc : Nat} (hexec : p.tables.exec = Jvm.exec) (hb : c.code = cc) (hl : l.stackTraces = false) {own cls : String} {names : List String} {ik ic mc ms : Nat} {A : Nat → Prop}
    (hown : s.vm.findClass own = some m.cls) (hcls : Bundle.fit cls = true) (hnames : ∀ n ∈ names, Bundle.fit n = true)
    (hk : (Cond.classLink own ik cls).before args s = true) (hini : (Cond.initialized cls).before args s = true) (hat : ∀ w ∈ vx_at0 own ic cls names, w.before args s = true)
    (hgood : ∀ w ∈ Cond.classLink own ik cls :: Cond.initialized cls :: vx_at0 own ic cls names, vx_ot w = true)
    (hU : vx_Zq Bundle.tN "UNASSIGNED_STACK" Bundle.steD A s s.heap) (hN : vx_Zq Bundle.tN "SUPPRESSED_SENTINEL" Bundle.listD A s s.heap) (hS : va_S A s.heap H locs) (hsize : ls.size = c.maxLocals)
    (d0 : decode cc pc = .ok (.new ik, 3)) (d3 : decode cc (pc + 3) = .ok (.dup, 1)) (d4 : decode cc (pc + 4) = .ok (.invokespecial ic, 3)) (d7 : decode cc (pc + 7) = .ok (.athrow, 1))
    (hout : ∀ x ∈ c.exceptionTable.toList, covers x (pc + 7) = false)
    (hRframes : names.length + 3 < R.frames) (hRlocals : (rest.map fun v => v.category).sum + (13 * (names.length + 1) + 42) ≤ R.locals) (hRcells : cells + 1 ≤ R.cells) (hRslots : slots + 6 ≤ R.slots) (hlocks : meth.locks = false)
    (hx : ∀ t : State, s.vm.Alike t.vm → H.size ≤ t.heap.size → (∀ q : Nat, q < H.size → t.heap[q]? = H[q]?) → XC cls s t)
    (hf : ∀ z ∈ locs, free z.base) (hc : cells + 1 ≤ mc) (hs : slots + 6 ≤ ms) :
    W p l e R s m args below meth c H locs cells slots (vx_MQ below Qc XC args s mc ms free) (F0 m pc ls rest) := by
  intro T hT X
  have htr : e.platform.stackTraces = false := (show e.platform.stackTraces = l.stackTraces by rw [X.admits.platform]).trans hl
  have Y := vx_rebase X (R' := { frames := R.frames, locals := R.locals, cells := 1, slots := 6 }) (Nat.le_refl _) (Nat.le_refl _) hRcells hRslots
  obtain ⟨s', hA⟩ : ∃ z, z = (T.setVm s.vm).setFrames (.invoking m args :: below) := ⟨_, rfl⟩
  rw [← hA] at Y
  have hvm : s'.vm = s.vm := by rw [hA]; rfl
  have hhp : s'.heap = H := by rw [hA]; exact hT
  have hW0 : s.WarmedH s'.vm := by rw [hvm]; exact State.WarmedH.refl s
  have hat' : ∀ w ∈ vx_at0 own ic cls names, w.before args s' = true := fun w hw => vx_ot_at hW0 hvm.symm (hgood w (List.mem_cons_of_mem _ (List.mem_cons_of_mem _ hw))) (hat w hw)
  have hk' : (Cond.classLink own ik cls).before args s' = true := vx_ot_at hW0 hvm.symm (hgood _ List.mem_cons_self) hk
  have hini' : (Cond.initialized cls).before args s' = true := vx_ot_at hW0 hvm.symm (hgood _ (List.mem_cons_of_mem _ List.mem_cons_self)) hini
  have hU' : vx_Zq Bundle.tN "UNASSIGNED_STACK" Bundle.steD A s' s'.heap := by rw [hhp]; exact vx_Zq.moved hW0.alike (hU.kept hS.2.1)
  have hN' : vx_Zq Bundle.tN "SUPPRESSED_SENTINEL" Bundle.listD A s' s'.heap := by rw [hhp]; exact vx_Zq.moved hW0.alike (hN.kept hS.2.1)
  have h : ∀ w ∈ Bundle.ownAtoms0 own ic cls names, w.before args s' = true := vx_own hat' (vx_isRefq hU'.1) (vx_isRefq hN'.1) hU'.2.word hN'.2.word
  have hown' : s'.vm.findClass own = some m.cls := by rw [hvm]; exact hown
  have hins : (Cond.instantiable cls 6).before args s' = true := h _ (by simp [Bundle.ownAtoms0])
  obtain ⟨vm₁, cX, kX, hfX, hkX, -, -, X₁, st1⟩ := Y.newCold hexec (own := own) (C := cls) (index := ik) (n := 6) hown' hk' hins hini'
    (g := F0 m pc ls rest) rfl (by rw [hb]; exact d0) (Nat.le_refl _) (Nat.le_refl _)
  generalize hT1 : (T.setVm vm₁).pushCell { cls := cX, slots := kX.instanceTypes.map defaultValue, vm := .none } = T1 at X₁ st1
  have hcat : (Value.ref T.heap.size).category = 1 := rfl
  have hcellA : T1.heap[T.heap.size]? = some (freshCell cX kX) := by rw [← hT1]; exact State.heap_pushCell_size _ _
  have d3' : decode c.code (pc + 3) = .ok (.dup, 1) := by rw [hb]; exact d3
  obtain ⟨U, hsteps, hrun, hend, hW, hsame, ce, hce, hO⟩ := X₁.ctorThrow0 hexec htr (own := own) (cls := cls) (names := names) (ic := ic) hown' hcls hnames h (fun x hx => nomatch hx) hfX hkX hcellA (by rw [hhp, hT]; exact Nat.le_refl _)
    (g := { method := m, pc := pc + 4, locals := ls, stack := .ref T.heap.size :: .ref T.heap.size :: rest, locked := none }) rfl hsize rfl rfl (rest := rest) rfl
    (by rw [hb]; exact d4) (by rw [hb]; exact d7) hout hRframes (by simp only [List.map_cons, List.sum_cons, hcat]; omega) hlocks
  obtain ⟨f1, f2⟩ := vx_frame hsame
  rw [hhp] at f1 f2
  have hWs : s.WarmedH U.vm := State.WarmedH.trans hW0 hW
  have hcl : s.vm.findClass cls = some ce.cls := by
    have h9 := hO.cls
    rw [hvm] at h9
    exact h9
  have hall : s.sameButNew ({ U with vm := s.vm } : State) locs mc ms := by
    subst hA
    obtain ⟨e1, e2⟩ := hsame
    rw [State.setFrames_setFrames] at e1
    have h2 : (T.setVm s.vm).sameButNew ({ U with vm := s.vm } : State) [] (0 + 1) (0 + 6) := ⟨e1, e2⟩
    have h3 := X.same.trans h2
    rw [List.append_nil] at h3
    exact h3.mono hc hs
  refine ⟨U, ?_, .threw T.heap.size, hrun, hend, Or.inr ⟨T.heap.size, rfl, cls, ce, locs, hx U hWs.alike f1 (fun q hq => f2 q hq (fun z hz => nomatch hz)), hce, hO.vm, hcl, hWs, hall, hf⟩⟩
  refine st1 _ ?_
  show Steps p.tables e below (T1.setTop { method := m, pc := pc + 3, locals := ls, stack := .ref T.heap.size :: rest, locked := none }) _
  jvm_step X₁.here [X₁.here.top, hexec, d3', Value.category]
  exact hsteps
/-- 'throw new E("text")': new; dup; ldc; invokespecial; athrow -/
theorem vx_throwS {cc : ByteArray} {pc : Nat} (hexec : p.tables.exec = Jvm.exec) (hb : c.code = cc) (hl : l.stackTraces = false) {own cls text : String} {names : List String} {ik is ic mc ms sa : Nat} {A : Nat → Prop}
    (hown : s.vm.findClass own = some m.cls) (hcls : Bundle.fit cls = true) (hnames : ∀ n ∈ names, Bundle.fit n = true)
    (hk : (Cond.classLink own ik cls).before args s = true) (hini : (Cond.initialized cls).before args s = true) (hstr : vk_R own is text sa s) (hat : ∀ w ∈ vx_atS own ic cls names, w.before args s = true)
    (hgood : ∀ w ∈ Cond.classLink own ik cls :: Cond.initialized cls :: vx_atS own ic cls names, vx_ot w = true)
    (hU : vx_Zq Bundle.tN "UNASSIGNED_STACK" Bundle.steD A s s.heap) (hN : vx_Zq Bundle.tN "SUPPRESSED_SENTINEL" Bundle.listD A s s.heap) (hS : va_S A s.heap H locs) (hsize : ls.size = c.maxLocals)
    (d0 : decode cc pc = .ok (.new ik, 3)) (d3 : decode cc (pc + 3) = .ok (.dup, 1)) (d4 : decode cc (pc + 4) = .ok (.ldc is, 2)) (d6 : decode cc (pc + 6) = .ok (.invokespecial ic, 3)) (d9 : decode cc (pc + 9) = .ok (.athrow, 1))
    (hout : ∀ x ∈ c.exceptionTable.toList, covers x (pc + 9) = false)
    (hRframes : names.length + 3 < R.frames) (hRlocals : (rest.map fun v => v.category).sum + (13 * (names.length + 1) + 43) ≤ R.locals) (hRcells : cells + 1 ≤ R.cells) (hRslots : slots + 6 ≤ R.slots) (hlocks : meth.locks = false)
    (hx : ∀ t : State, s.vm.Alike t.vm → H.size ≤ t.heap.size → (∀ q : Nat, q < H.size → t.heap[q]? = H[q]?) → XC cls s t)
    (hf : ∀ z ∈ locs, free z.base) (hc : cells + 1 ≤ mc) (hs : slots + 6 ≤ ms) :
    W p l e R s m args below meth c H locs cells slots (vx_MQ below Qc XC args s mc ms free) (F0 m pc ls rest) := by
  intro T hT X
  have htr : e.platform.stackTraces = false := (show e.platform.stackTraces = l.stackTraces by rw [X.admits.platform]).trans hl
  have Y := vx_rebase X (R' := { frames := R.frames, locals := R.locals, cells := 1, slots := 6 }) (Nat.le_refl _) (Nat.le_refl _) hRcells hRslots
  obtain ⟨s', hA⟩ : ∃ z, z = (T.setVm s.vm).setFrames (.invoking m args :: below) := ⟨_, rfl⟩
  rw [← hA] at Y
  have hvm : s'.vm = s.vm := by rw [hA]; rfl
  have hhp : s'.heap = H := by rw [hA]; exact hT
  have hW0 : s.WarmedH s'.vm := by rw [hvm]; exact State.WarmedH.refl s
  have hat' : ∀ w ∈ vx_atS own ic cls names, w.before args s' = true := fun w hw => vx_ot_at hW0 hvm.symm (hgood w (List.mem_cons_of_mem _ (List.mem_cons_of_mem _ hw))) (hat w hw)
  have hk' : (Cond.classLink own ik cls).before args s' = true := vx_ot_at hW0 hvm.symm (hgood _ List.mem_cons_self) hk
  have hini' : (Cond.initialized cls).before args s' = true := vx_ot_at hW0 hvm.symm (hgood _ (List.mem_cons_of_mem _ List.mem_cons_self)) hini
  have hU' : vx_Zq Bundle.tN "UNASSIGNED_STACK" Bundle.steD A s' s'.heap := by rw [hhp]; exact vx_Zq.moved hW0.alike (hU.kept hS.2.1)
  have hN' : vx_Zq Bundle.tN "SUPPRESSED_SENTINEL" Bundle.listD A s' s'.heap := by rw [hhp]; exact vx_Zq.moved hW0.alike (hN.kept hS.2.1)
  have h : ∀ w ∈ Bundle.ownAtoms own ic cls names, w.before args s' = true := vx_own hat' (vx_isRefq hU'.1) (vx_isRefq hN'.1) hU'.2.word hN'.2.word
  have hown' : s'.vm.findClass own = some m.cls := by rw [hvm]; exact hown
  have hins : (Cond.instantiable cls 6).before args s' = true := h _ (by simp [Bundle.ownAtoms])
  obtain ⟨vm₁, cX, kX, hfX, hkX, -, -, X₁, st1⟩ := Y.newCold hexec (own := own) (C := cls) (index := ik) (n := 6) hown' hk' hins hini'
    (g := F0 m pc ls rest) rfl (by rw [hb]; exact d0) (Nat.le_refl _) (Nat.le_refl _)
  generalize hT1 : (T.setVm vm₁).pushCell { cls := cX, slots := kX.instanceTypes.map defaultValue, vm := .none } = T1 at X₁ st1
  have hcat : (Value.ref T.heap.size).category = 1 := rfl
  have hcellA : T1.heap[T.heap.size]? = some (freshCell cX kX) := by rw [← hT1]; exact State.heap_pushCell_size _ _
  have d3' : decode c.code (pc + 3) = .ok (.dup, 1) := by rw [hb]; exact d3
  have d4' : decode c.code (pc + 4) = .ok (.ldc is, 2) := by rw [hb]; exact d4
  have hstr' : vk_R own is text sa s' := vk_R.warm hW0 hstr
  obtain ⟨U, hsteps, hrun, hend, hW, hsame, ce, hce, hO⟩ := X₁.ctorThrowS hexec htr (own := own) (cls := cls) (names := names) (ic := ic) hown' hcls hnames h (fun x hx => nomatch hx) hfX hkX hcellA (by rw [hhp, hT]; exact Nat.le_refl _) (msg := .ref sa) rfl
    (g := { method := m, pc := pc + 6, locals := ls, stack := .ref sa :: .ref T.heap.size :: .ref T.heap.size :: rest, locked := none }) rfl hsize rfl rfl (rest := rest) rfl
    (by rw [hb]; exact d6) (by rw [hb]; exact d9) hout hRframes (by simp only [List.map_cons, List.sum_cons, hcat]; omega) hlocks
  obtain ⟨f1, f2⟩ := vx_frame hsame
  rw [hhp] at f1 f2
  have hWs : s.WarmedH U.vm := State.WarmedH.trans hW0 hW
  have hcl : s.vm.findClass cls = some ce.cls := by
    have h9 := hO.cls
    rw [hvm] at h9
    exact h9
  have hall : s.sameButNew ({ U with vm := s.vm } : State) locs mc ms := by
    subst hA
    obtain ⟨e1, e2⟩ := hsame
    rw [State.setFrames_setFrames] at e1
    have h2 : (T.setVm s.vm).sameButNew ({ U with vm := s.vm } : State) [] (0 + 1) (0 + 6) := ⟨e1, e2⟩
    have h3 := X.same.trans h2
    rw [List.append_nil] at h3
    exact h3.mono hc hs
  refine ⟨U, ?_, .threw T.heap.size, hrun, hend, Or.inr ⟨T.heap.size, rfl, cls, ce, locs, hx U hWs.alike f1 (fun q hq => f2 q hq (fun z hz => nomatch hz)), hce, hO.vm, hcl, hWs, hall, hf⟩⟩
  refine st1 _ ?_
  show Steps p.tables e below (T1.setTop { method := m, pc := pc + 3, locals := ls, stack := .ref T.heap.size :: rest, locked := none }) _
  jvm_step X₁.here [X₁.here.top, hexec, d3', Value.category]
  exact X₁.ldcString hexec (own := own) (text := text) (index := is) (a := sa) hown' hstr'.1 hstr'.2
    (g := { method := m, pc := pc + 4, locals := ls, stack := .ref T.heap.size :: .ref T.heap.size :: rest, locked := none }) rfl d4' _ hsteps
/-- 'throw new E("text")', the text by a wide index -/
theorem vx_throwSW {cc : ByteArray} {pc : Nat} (hexec : p.tables.exec = Jvm.exec) (hb : c.code = cc) (hl : l.stackTraces = false) {own cls text : String} {names : List String} {ik is ic mc ms sa : Nat} {A : Nat → Prop}
    (hown : s.vm.findClass own = some m.cls) (hcls : Bundle.fit cls = true) (hnames : ∀ n ∈ names, Bundle.fit n = true)
    (hk : (Cond.classLink own ik cls).before args s = true) (hini : (Cond.initialized cls).before args s = true) (hstr : vk_R own is text sa s) (hat : ∀ w ∈ vx_atS own ic cls names, w.before args s = true)
    (hgood : ∀ w ∈ Cond.classLink own ik cls :: Cond.initialized cls :: vx_atS own ic cls names, vx_ot w = true)
    (hU : vx_Zq Bundle.tN "UNASSIGNED_STACK" Bundle.steD A s s.heap) (hN : vx_Zq Bundle.tN "SUPPRESSED_SENTINEL" Bundle.listD A s s.heap) (hS : va_S A s.heap H locs) (hsize : ls.size = c.maxLocals)
    (d0 : decode cc pc = .ok (.new ik, 3)) (d3 : decode cc (pc + 3) = .ok (.dup, 1)) (d4 : decode cc (pc + 4) = .ok (.ldc_w is, 3)) (d7 : decode cc (pc + 7) = .ok (.invokespecial ic, 3)) (d10 : decode cc (pc + 10) = .ok (.athrow, 1))
    (hout : ∀ x ∈ c.exceptionTable.toList, covers x (pc + 10) = false)
    (hRframes : names.length + 3 < R.frames) (hRlocals : (rest.map fun v => v.category).sum + (13 * (names.length + 1) + 43) ≤ R.locals) (hRcells : cells + 1 ≤ R.cells) (hRslots : slots + 6 ≤ R.slots) (hlocks : meth.locks = false)
    (hx : ∀ t : State, s.vm.Alike t.vm → H.size ≤ t.heap.size → (∀ q : Nat, q < H.size → t.heap[q]? = H[q]?) → XC cls s t)
    (hf : ∀ z ∈ locs, free z.base) (hc : cells + 1 ≤ mc) (hs : slots + 6 ≤ ms) :
    W p l e R s m args below meth c H locs cells slots (vx_MQ below Qc XC args s mc ms free) (F0 m pc ls rest) := by
  intro T hT X
  have htr : e.platform.stackTraces = false := (show e.platform.stackTraces = l.stackTraces by rw [X.admits.platform]).trans hl
  have Y := vx_rebase X (R' := { frames := R.frames, locals := R.locals, cells := 1, slots := 6 }) (Nat.le_refl _) (Nat.le_refl _) hRcells hRslots
  obtain ⟨s', hA⟩ : ∃ z, z = (T.setVm s.vm).setFrames (.invoking m args :: below) := ⟨_, rfl⟩
  rw [← hA] at Y
  have hvm : s'.vm = s.vm := by rw [hA]; rfl
  have hhp : s'.heap = H := by rw [hA]; exact hT
  have hW0 : s.WarmedH s'.vm := by rw [hvm]; exact State.WarmedH.refl s
  have hat' : ∀ w ∈ vx_atS own ic cls names, w.before args s' = true := fun w hw => vx_ot_at hW0 hvm.symm (hgood w (List.mem_cons_of_mem _ (List.mem_cons_of_mem _ hw))) (hat w hw)
  have hk' : (Cond.classLink own ik cls).before args s' = true := vx_ot_at hW0 hvm.symm (hgood _ List.mem_cons_self) hk
  have hini' : (Cond.initialized cls).before args s' = true := vx_ot_at hW0 hvm.symm (hgood _ (List.mem_cons_of_mem _ List.mem_cons_self)) hini
  have hU' : vx_Zq Bundle.tN "UNASSIGNED_STACK" Bundle.steD A s' s'.heap := by rw [hhp]; exact vx_Zq.moved hW0.alike (hU.kept hS.2.1)
  have hN' : vx_Zq Bundle.tN "SUPPRESSED_SENTINEL" Bundle.listD A s' s'.heap := by rw [hhp]; exact vx_Zq.moved hW0.alike (hN.kept hS.2.1)
  have h : ∀ w ∈ Bundle.ownAtoms own ic cls names, w.before args s' = true := vx_own hat' (vx_isRefq hU'.1) (vx_isRefq hN'.1) hU'.2.word hN'.2.word
  have hown' : s'.vm.findClass own = some m.cls := by rw [hvm]; exact hown
  have hins : (Cond.instantiable cls 6).before args s' = true := h _ (by simp [Bundle.ownAtoms])
  obtain ⟨vm₁, cX, kX, hfX, hkX, -, -, X₁, st1⟩ := Y.newCold hexec (own := own) (C := cls) (index := ik) (n := 6) hown' hk' hins hini'
    (g := F0 m pc ls rest) rfl (by rw [hb]; exact d0) (Nat.le_refl _) (Nat.le_refl _)
  generalize hT1 : (T.setVm vm₁).pushCell { cls := cX, slots := kX.instanceTypes.map defaultValue, vm := .none } = T1 at X₁ st1
  have hcat : (Value.ref T.heap.size).category = 1 := rfl
  have hcellA : T1.heap[T.heap.size]? = some (freshCell cX kX) := by rw [← hT1]; exact State.heap_pushCell_size _ _
  have d3' : decode c.code (pc + 3) = .ok (.dup, 1) := by rw [hb]; exact d3
  have d4' : decode c.code (pc + 4) = .ok (.ldc_w is, 3) := by rw [hb]; exact d4
  have hstr' : vk_R own is text sa s' := vk_R.warm hW0 hstr
  obtain ⟨U, hsteps, hrun, hend, hW, hsame, ce, hce, hO⟩ := X₁.ctorThrowS hexec htr (own := own) (cls := cls) (names := names) (ic := ic) hown' hcls hnames h (fun x hx => nomatch hx) hfX hkX hcellA (by rw [hhp, hT]; exact Nat.le_refl _) (msg := .ref sa) rfl
    (g := { method := m, pc := pc + 7, locals := ls, stack := .ref sa :: .ref T.heap.size :: .ref T.heap.size :: rest, locked := none }) rfl hsize rfl rfl (rest := rest) rfl
    (by rw [hb]; exact d7) (by rw [hb]; exact d10) hout hRframes (by simp only [List.map_cons, List.sum_cons, hcat]; omega) hlocks
  obtain ⟨f1, f2⟩ := vx_frame hsame
  rw [hhp] at f1 f2
  have hWs : s.WarmedH U.vm := State.WarmedH.trans hW0 hW
  have hcl : s.vm.findClass cls = some ce.cls := by
    have h9 := hO.cls
    rw [hvm] at h9
    exact h9
  have hall : s.sameButNew ({ U with vm := s.vm } : State) locs mc ms := by
    subst hA
    obtain ⟨e1, e2⟩ := hsame
    rw [State.setFrames_setFrames] at e1
    have h2 : (T.setVm s.vm).sameButNew ({ U with vm := s.vm } : State) [] (0 + 1) (0 + 6) := ⟨e1, e2⟩
    have h3 := X.same.trans h2
    rw [List.append_nil] at h3
    exact h3.mono hc hs
  refine ⟨U, ?_, .threw T.heap.size, hrun, hend, Or.inr ⟨T.heap.size, rfl, cls, ce, locs, hx U hWs.alike f1 (fun q hq => f2 q hq (fun z hz => nomatch hz)), hce, hO.vm, hcl, hWs, hall, hf⟩⟩
  refine st1 _ ?_
  show Steps p.tables e below (T1.setTop { method := m, pc := pc + 3, locals := ls, stack := .ref T.heap.size :: rest, locked := none }) _
  jvm_step X₁.here [X₁.here.top, hexec, d3', Value.category]
  exact X₁.ldcStringW hexec (own := own) (text := text) (index := is) (a := sa) hown' hstr'.1 hstr'.2
    (g := { method := m, pc := pc + 4, locals := ls, stack := .ref T.heap.size :: .ref T.heap.size :: rest, locked := none }) rfl d4' _ hsteps
end Ends
section Bodies
variable {l : Launch}
theorem vx_ofW {y : MethodName} {ws ws' : List Cond} {rm : Room} {Pc : Array Value → State → Prop} {Qc : Array Value → State → Outcome → State → Prop} {XC : String → State → State → Prop} {mc ms : Nat} {free : Addr → Prop} {cc : ByteArray} {maxL : Nat} {ret : Option FieldType}
    (hy : plainName y.cls = true) (hw : ws = Cond.code y cc maxL ret :: ws')
    (body : ∀ p e s m args below meth c s₁, BodyLoose p l y (headSpec ws rm) cc maxL ret e s m args below meth c s₁ → c.maxLocals = maxL → (∀ x ∈ c.exceptionTable.toList, False) → Pc args s →
      W p l e (headSpec ws rm).room s m args below meth c s.heap [] 0 0 (vx_MQ below Qc XC args s mc ms free) (entryFrame m args maxL)) : vx_Met l y ws rm Pc Qc XC mc ms free := by
  refine MetFree.of_bodyS (code := cc) (maxLocals := maxL) (ret := ret) hy ?_ ?_
  · intro args s m h hn
    obtain ⟨meth, c, h1, h2, h3, h4, h5, h6, -, -⟩ := Cond.code_spec hn (atoms_spec (ws := ws) h _ (by rw [hw]; exact List.mem_cons_self))
    exact ⟨meth, c, h1, h2, h3, h4, h5, h6⟩
  · intro p e s m args below meth c s₁ B hml hP _
    have hh0 : s₁.heap = s.heap := by rw [B.state]; rfl
    have ht : ∀ x ∈ c.exceptionTable.toList, False := by
      obtain ⟨meth9, c9, h1, h2, -, -, -, -, h7, -⟩ := Cond.code_spec B.named (atoms_spec (ws := ws) B.pre _ (by rw [hw]; exact List.mem_cons_self))
      cases Option.some.inj (h1.symm.trans B.method)
      cases Option.some.inj (h2.symm.trans (Stand.of_body B).code)
      intro x hx
      rw [Array.isEmpty_iff.mp h7] at hx
      cases hx
    obtain ⟨t, a1, o, b1, b2, b3⟩ := body p e s m args below meth c s₁ B hml ht hP s₁ hh0 (Stand.of_body B)
    exact ⟨t, o, a1, b1, b2, b3⟩
/-- the table of a body with handlers -/
theorem vx_table {p : Program} {x y : MethodName} {S : Spec} {cc bytes : ByteArray} {maxL maxL' : Nat} {ret ret' : Option FieldType} {e : Env} {s s₁ : State} {m : MethodId} {args : Array Value} {below : List Frame} {meth : Method} {c : Code} {hh : List (Nat × Nat × Nat × Nat)}
    (B : BodyLoose p l y S cc maxL ret e s m args below meth c s₁) (h : (Cond.codeWith y bytes maxL' ret' hh).before args s = true) : c.exceptionTable.toList = tableOf hh := by
  obtain ⟨m9, meth9, c9, hn9, h1, h2, -, -, h6, -⟩ := Cond.codeWith_spec h
  cases Option.some.inj (hn9.symm.trans B.named)
  cases Option.some.inj (h1.symm.trans B.method)
  cases Option.some.inj (h2.symm.trans (Stand.of_body B).code)
  rw [← h6, table_eq]
end Bodies
end VXA
/-! ===== END ===== -/
/-! ===== BEGIN a static call of a method with an exception table ===== -/
section VXS
variable {p : Program} {l : Launch} {e : Env} {R : Room} {s : State} {m : MethodId} {args : Array Value} {below : List Frame} {meth : Method} {c : Code} {T : State} {H : Heap} {locs : List Loc} {cells slots : Nat}
abbrev vx_CSW (R : Room) (s : State) (args : Array Value) (own : String) (index : Nat) (y : MethodName) (bytes : ByteArray) (maxL : Nat) (ret : Option FieldType) (hh : List (Nat × Nat × Nat × Nat)) (ws : List Cond) (rm : Room) (mc ms n : Nat) : Prop :=
  (rm.cells = mc ∧ rm.slots = ms ∧ rm.frames + 1 ≤ R.frames ∧ 8 + (maxL + 11) + rm.locals ≤ R.locals ∧ (∀ w ∈ ws, ∀ (a' : Array Value) (U : State), s.WarmedH U.vm → w.before a' U = true) ∧ Cond.codeWith y bytes maxL ret hh ∈ ws) ∧
  (Cond.codeWith y bytes maxL ret hh).before args s = true ∧ (Cond.initialized y.cls).before args s = true ∧ (y.cls ≠ "java/lang/invoke/MethodHandle" ∧ y.cls ≠ "java/lang/invoke/VarHandle") ∧
  (∀ sig, parseMethodDescriptor y.desc = some sig → n = sig.parameters.length) ∧ (Cond.methodLink own index y).before args s = true ∧ (Cond.static y).before args s = true
theorem vx_cwSW {own : String} {index maxL mc ms : Nat} {y : MethodName} {bytes : ByteArray} {ret : Option FieldType} {hh : List (Nat × Nat × Nat × Nat)} {Ts ws ws' : List Cond} {rm : Room} (n : Nat) (ht : ∀ w ∈ Ts, w.before args s = true) (hT : GoodIn Ts (va_wsS own index y ws)) (hw : ws = Cond.codeWith y bytes maxL ret hh :: ws') (hrc : rm.cells = mc) (hrs : rm.slots = ms)
    (hd : y.cls ≠ "java/lang/invoke/MethodHandle" ∧ y.cls ≠ "java/lang/invoke/VarHandle" ∧ (parseMethodDescriptor y.desc).map (fun d => d.parameters.length) = some n) (hR : rm.frames + 1 ≤ R.frames ∧ 8 + (maxL + 11) + rm.locals ≤ R.locals) :
    vx_CSW R s args own index y bytes maxL ret hh ws rm mc ms n := by
  have ok : ∀ w ∈ va_wsS own index y ws, w.before args s = true := fun w h => ht w (hT w h).1
  have hG : GoodIn Ts ws := fun w h => hT w (by unfold va_wsS; exact List.mem_append_right _ h)
  have hc : Cond.codeWith y bytes maxL ret hh ∈ ws := by rw [hw]; exact List.mem_cons_self
  refine ⟨⟨hrc, hrs, hR.1, hR.2, pay_in ht hG, hc⟩, ht _ (hG _ hc).1, ok _ (by simp [va_wsS]), ⟨hd.1, hd.2.1⟩, fun sig h => ?_, ok _ (by simp [va_wsS]), ok _ (by simp [va_wsS])⟩
  have h2 := hd.2.2
  rw [h] at h2
  exact (Option.some.inj h2).symm
theorem vx_callSW (X : Stand p l e R s m args below meth c T locs cells slots) (hexec : p.tables.exec = Jvm.exec) {own : String} {index : Nat} {y : MethodName} {bytes : ByteArray} {maxL : Nat} {ret : Option FieldType} {hh : List (Nat × Nat × Nat × Nat)}
    (hown : s.vm.findClass own = some m.cls) (hlink : (Cond.methodLink own index y).before args s = true) (hstat : (Cond.static y).before args s = true) (hinit : (Cond.initialized y.cls).before args s = true)
    (hcode : (Cond.codeWith y bytes maxL ret hh).before args s = true) (hy : y.cls ≠ "java/lang/invoke/MethodHandle" ∧ y.cls ≠ "java/lang/invoke/VarHandle")
    {W9 : Nat} {Pre : Pt → Array Value → Prop} {Post : Pt → Array Value → Option Value → Pt → Prop} (hK : Back l R p e below s args y 3 W9 Pre Post)
    {g : JFrame} (hg : g.method = m) (hsize : g.locals.size = c.maxLocals) {argsL rest : List Value} (hlen : ∀ sig, parseMethodDescriptor y.desc = some sig → argsL.length = sig.parameters.length)
    (hstack : g.stack = argsL.reverse ++ rest) (hW : 2 * g.monitorRoom + (rest.map fun v => v.category).sum ≤ W9) (hdg : decode c.code g.pc = .ok (.invokestatic index, 3))
    (hpre : ∀ vm₁, s.WarmedH vm₁ → Pre ⟨T.setVm vm₁, locs, cells, slots⟩ argsL.toArray) :
    ∃ (v : Option Value) (vm₁ : Vm) (B : Pt), s.WarmedH vm₁ ∧ Stand p l e R s m args below meth c B.U B.locs B.cells B.slots ∧ Post ⟨T.setVm vm₁, locs, cells, slots⟩ argsL.toArray v B ∧
      ∀ target, Steps p.tables e below (B.U.setTop { g with pc := g.pc + 3, stack := v.toList ++ rest }) target → Steps p.tables e below (T.setTop g) target := by
  obtain ⟨mk, methM, cM, hnamed, hmethM, -, -, -, -, -, -, hsigM⟩ := Cond.codeWith_spec hcode
  have hstatic : methM.isStatic = true := Cond.static_spec hnamed hmethM hstat
  obtain ⟨kP, hkP, -⟩ := className_of_methodNamed hnamed
  have hinitP : kP.init = .initialized := Cond.initialized_spec (findClass_of_methodNamed hnamed) hkP hinit
  obtain ⟨vm₁, X₁, hstep₁⟩ := X.invokestatic hexec hown hlink hnamed hmethM hstatic hkP hinitP hy (g := g) hg (argsL := argsL) (rest := rest) (hlen _ hsigM) hstack hdg
  obtain ⟨v, B, X', hpost, hsteps⟩ := hK m meth c ⟨T.setVm vm₁, locs, cells, slots⟩ { g with stack := rest } (.invokestatic index) mk argsL.toArray X₁ hg hsize hdg hW (X₁.named hnamed) (hpre vm₁ X₁.warmed)
  exact ⟨v, vm₁, B, X₁.warmed, X', hpost, fun target h => hstep₁ _ fun acts => by rw [doInvoke_state]; exact hsteps.trans h⟩
theorem vx_runSW {y : MethodName} {bytes cc : ByteArray} {maxL nL mc ms n index : Nat} {ret : Option FieldType} {hh : List (Nat × Nat × Nat × Nat)} {ws : List Cond} {rm : Room} {Pc : Array Value → State → Prop} {Qc : Array Value → State → Outcome → State → Prop} {free : Addr → Prop} {Ts : List Cond} {own : String} {As rest : List Value} {g : JFrame}
    (S : CallFix p m c cc nL s args Ts own) (hM : Met l y ws rm Pc Qc mc ms free) (cw : vx_CSW R s args own index y bytes maxL ret hh ws rm mc ms n) (hp : PreS s H Pc As)
    (hg : g.method = m) (hn : As.length = n) (hsize : g.locals.size = nL) (hstack : g.stack = As.reverse ++ rest) (hW : 2 * g.monitorRoom + (rest.map fun v => v.category).sum ≤ 8) (hdg : decode cc g.pc = .ok (.invokestatic index, 3)) (hf : cells + mc ≤ R.cells ∧ slots + ms ≤ R.slots) :
    va_Run p l e R s m args below meth c H locs cells slots mc ms g rest (Qc As.toArray) (free) := by
  obtain ⟨⟨hrc, hrs, hfr, hlo, hws, hcw⟩, hcode, hini, hy, hlen, hl, hstt⟩ := cw
  have hK : Back l R p e below s args y 3 8 (PreOf R mc ms Pc) (PostOf Qc mc ms free) := va_backW (hh := hh) (bytes := bytes) (maxL := maxL) (ret := ret) hM hp.1 hrc hrs hfr hlo hws hcw (fun a' U hW => word_at hW (Or.inl (by first | rfl | simp [Cond.onTables, Cond.keeps, Cond.steady])) hini)
  obtain ⟨hx, hb, hml, ho, -⟩ := S
  intro T hT X
  obtain ⟨v, vm₁, ⟨U', l2, c2, s2⟩, hW₁, X', ⟨g', mk, t, L, e1, e2, hq, h1, hL, h2, h3⟩, st⟩ := vx_callSW X hx (hh := hh) (bytes := bytes) (maxL := maxL) (ret := ret) ho hl hstt hini hcode hy hK hg (hsize.trans hml.symm) (argsL := As) (rest := rest) (fun sig h => hn.trans (hlen sig h)) hstack hW (by rw [hb]; exact hdg)
    (fun vm₁ hW₁ => ⟨hf.1, hf.2, hp.2 (T.setVm vm₁) hT hW₁⟩)
  dsimp only [Pt.U, Pt.locs, Pt.cells, Pt.slots] at X' e1 e2 h1 h2 h3 st
  subst h1; subst h2; subst h3
  exact ⟨v, (T.setVm vm₁).calling g' mk As.toArray, t, U', L, hT, X', hL, e1, e2, hq, st⟩
/-- not caught here, past rows that name other classes: it goes on to the caller -/
theorem vx_outP {p : Program} {l : Launch} {e : Env} {R : Room} {s : State} {m : MethodId} {args : Array Value} {below : List Frame} {meth : Method} {c : Code} {H : Heap} {locs : List Loc} {cells slots : Nat} {free : Addr → Prop} {ls : Array Slot} {rest : List Value} {Qc : Array Value → State → Outcome → State → Prop} {XC : String → State → State → Prop}
    {pc : Nat} {own E : String} {ce : Cell} {q : Addr} {mc ms : Nat} (hown : s.vm.findClass own = some m.cls) (hlocks : meth.locks = false)
    (hpass : ∀ z ∈ c.exceptionTable.toList, covers z pc = false ∨ (z.catchType ≠ 0 ∧ ∃ nm : String, (Cond.classLink own z.catchType nm).before args s = true ∧ va_Nc E nm s)) (hcell : H[q]? = some ce) (hv : ce.vm = .none) (hcl : s.vm.findClass E = some ce.cls)
    (hx : ∀ t : State, t.heap = H → s.vm.Alike t.vm → XC E s t) (hf : ∀ z ∈ locs, free z.base) (hc : cells ≤ mc) (hs : slots ≤ ms) :
    vx_W p l e R s m args below meth c H locs cells slots (vx_MQ below Qc XC args s mc ms free) (F0 m pc ls rest) q := by
  intro T hT X
  have hpl : e.platform.magicAccessors = ({} : Platform).magicAccessors := by rw [X.admits.platform]
  obtain ⟨vm', hW', X', st⟩ := X.outThrough hlocks q (g := F0 m pc ls rest) rfl rfl rfl (cell := ce) (by rw [hT]; exact hcell) (by rw [hv]; rfl)
    (by obtain ⟨k9, h9, -⟩ := Vm.findClass_spec hcl; exact ⟨k9, h9⟩) (fun z hz => by
      rcases hpass z hz with h | ⟨hz0, nm, hl1, hn1⟩
      · exact Or.inl h
      · obtain ⟨c6, hc6, hcl6⟩ := Cond.classLink_spec hown hl1 e.platform hpl
        obtain ⟨a8, b8, h1, h2, h3⟩ := hn1
        cases Option.some.inj (h1.symm.trans hcl)
        cases Option.some.inj (h2.symm.trans hc6)
        exact Or.inr ⟨hz0, _, hcl6, h3⟩)
  obtain ⟨g₀, hfr⟩ := X'.frames_eq
  have hcell9 : ((T.setVm vm').setFrames (.throwing q :: below)).heap[q]? = some ce := by
    show T.heap[q]? = some ce
    rw [hT]; exact hcell
  have hend : Ended ((T.setVm vm').setFrames (.throwing q :: below)) below (.threw q) := State.frames_setFrames _ (State.cur_lt_of_frames hfr)
  refine ⟨(T.setVm vm').setFrames (.throwing q :: below), ?_, .threw q, X'.here.running, hend, Or.inr ⟨q, rfl, E, ce, locs, hx _ hT (X'.ends _).1.alike, hcell9, hv, hcl, (X'.ends _).1, (X'.ends _).2.mono hc hs, hf⟩⟩
  rw [X.pushThrowing_eq]
  exact st
/-- a thing of a world lies in the heap -/
theorem vx_lt {D : va_G} {cl : List vw_C} {ws : va_W} {H1 : Heap} (h : va_P D cl ws H1) {k : Nat} {q : Nat × va_E} (hk : ws[k]? = some q) : q.1 < H1.size := (h k q hk).lt
end VXS
/-! ===== END ===== -/
/-! ===== BEGIN methods with a table of their own: called by a name, returning or throwing ===== -/
section VXH
/-! vx_backW, vx_callVX, vx_callSX, vx_callVW, vx_runVW, vx_runVX, vx_runSX, vx_ofWH follow the same proofs as their sisters above (Free/Laws.lean, Shelf42/LK1.lean); vx_outP calls Shelf42/NT130.lean (outThrough). -/
section
variable {l : Launch} {R : Room} {p : Program} {e : Env} {below : List Frame} {s : State} {sargs : Array Value} {y : MethodName} {len W9 : Nat}
theorem vx_backW {ws : List Cond} {rm : Room} {Pc : Array Value → State → Prop} {Qc : Array Value → State → Outcome → State → Prop} {XC : String → State → State → Prop} {mc ms : Nat} {free : Addr → Prop} {bytes : ByteArray} {maxL : Nat} {ret : Option FieldType} {hh : List (Nat × Nat × Nat × Nat)}
    (hM : vx_Met l y ws rm Pc Qc XC mc ms free) (hblind : FrameBlind Pc) (hrc : rm.cells = mc) (hrs : rm.slots = ms)
    (hframes : rm.frames + 1 ≤ R.frames) (hlocals : W9 + (maxL + 11) + rm.locals ≤ R.locals)
    (hws : ∀ w ∈ ws, ∀ a' U, s.WarmedH U.vm → w.before a' U = true) (hcode : Cond.codeWith y bytes maxL ret hh ∈ ws) (hinit : ∀ a' U, s.WarmedH U.vm → (Cond.initialized y.cls).before a' U = true) :
    vx_Back l R p e below s sargs y len W9 (PreOf R mc ms Pc) (PostOf Qc mc ms free) (vx_Post XC mc ms free) := by
  intro m meth c A g ig mk a X hg hsize hdg hW hn hp
  have h1 : (headSpec ws rm).pre.before a A.U = true := atoms_intro fun w hw => hws w hw _ _ X.warmed
  have h2 : (Cond.codeWith y bytes maxL ret hh).before a A.U = true := hws _ hcode _ _ X.warmed
  have h3 : (Cond.initialized y.cls).before a A.U = true := hinit _ _ X.warmed
  have h4 : A.cells + (headSpec ws rm).room.cells ≤ R.cells := by rw [show (headSpec ws rm).room.cells = mc from hrc]; exact hp.1
  have h5 : A.slots + (headSpec ws rm).room.slots ≤ R.slots := by rw [show (headSpec ws rm).room.slots = ms from hrs]; exact hp.2.1
  have hPc : Pc a (A.U.calling g mk a) := hblind _ _ _ _ hp.2.2
  obtain ⟨U, Ls, c0, s0⟩ := A
  dsimp only [Pt.U, Pt.locs, Pt.cells, Pt.slots] at h1 h2 h3 h4 h5 X hn hPc ⊢
  obtain ⟨m9, methY, cY, hn9, hmY, hcY, -, hlY, -⟩ := Cond.codeWith_spec h2
  cases Option.some.inj (hn9.symm.trans hn)
  obtain ⟨kY, hkY, -⟩ := className_of_methodNamed hn
  have hinitY : kY.init = .initialized := Cond.initialized_spec (findClass_of_methodNamed hn) hkY h3
  have h : At U g.method c below := by rw [hg]; exact X.here
  have hlocals9 : W9 + (maxL + 11) + (headSpec ws rm).room.locals ≤ R.locals := hlocals
  have happ : (headSpec ws rm).appliesLoose y e.platform (U.calling g mk a) = true :=
    Spec.appliesLoose_calling (g := g) h hdg hn hkY hinitY
      (X.room_calling (g := g) (R' := (headSpec ws rm).room) hsize hmY hcY hframes (by rw [hlY]; omega) h4 h5) h1
  obtain ⟨mid, hmid⟩ := h.above
  have hfr : (U.setTop g).frames = (.java g :: mid) ++ below := by rw [State.frames_setTop' g h.top, hmid]; rfl
  obtain ⟨o, s₂, hsteps, -, hend, hq⟩ := Steps.callFree hM p X.admits X.cas X.clock (acts := []) hfr happ hPc trivial
  have hq' : vx_Q Qc XC mc ms free a (U.calling g mk a) o s₂ := hq
  rw [State.frames_setTop' g h.top] at hend
  obtain ⟨g₀, hg0⟩ := Option.isSome_iff_exists.mp h.top
  obtain ⟨r, hr⟩ := State.topJava?_eq_some.mp hg0
  have hr' : (({ U with heap := s₂.heap, slotsUsed := s₂.slotsUsed } : State).setVm s₂.vm).frames = .java g₀ :: r := hr
  rcases hq' with ⟨hqc, L, hfe, hL⟩ | ⟨q, rfl, E, ce, L, hx, hce, hcv, hcl, hW₂, hsm, hL⟩
  · obtain ⟨⟨v, rfl⟩, hW₂, e2, q2, q3, q4, q5, q6⟩ := id hfe
    have e3 : s₂ = ({ (U.calling g mk a).setFrames s₂.frames with heap := s₂.heap, slotsUsed := s₂.slotsUsed } : State).setVm s₂.vm := by
      have : s₂ = ({ s₂ with vm := (U.calling g mk a).vm } : State).setVm s₂.vm := rfl
      rw [e2] at this
      exact this
    obtain ⟨c₂, i₂, len₂, hc₂, hd₂, hf₂⟩ := hend
    have hW' : U.WarmedH s₂.vm := hW₂
    have hcc : c₂ = c := by
      have h1 : s₂.code? g.method = U.code? g.method := by
        rw [State.code?_eq, State.code?_eq, hW'.alike.method?]
      exact Option.some.inj (hc₂.symm.trans (h1.trans h.code))
    subst hcc
    have hlen : len₂ = len := by rw [hdg] at hd₂; cases hd₂; rfl
    subst hlen
    have hs₂ : s₂ = (({ U with heap := s₂.heap, slotsUsed := s₂.slotsUsed } : State).setVm s₂.vm).setTop { g with pc := g.pc + len₂, stack := v.toList ++ g.stack } := by
      refine e3.trans ?_
      rw [hf₂, State.calling_eq h.top, State.setFrames_setFrames, State.setTop_of_frames _ hr', hr]
      rfl
    have hsame : U.sameButNew ({ U with heap := s₂.heap, slotsUsed := s₂.slotsUsed } : State) L mc ms := by
      refine ⟨?_, q2, q3, q4, q5, q6⟩
      obtain ⟨t, ht, -⟩ := State.frames_cons hr
      show ({ U with heap := s₂.heap, slotsUsed := s₂.slotsUsed } : State) = { U.setFrames U.frames with heap := s₂.heap, slotsUsed := s₂.slotsUsed }
      rw [State.setFrames_self ht]
    subst hg
    refine Or.inl ⟨v, ⟨(({ U with heap := s₂.heap, slotsUsed := s₂.slotsUsed } : State).setVm s₂.vm), Ls ++ L, c0 + mc, s0 + ms⟩,
      ⟨X.admits, X.cas, X.clock, X.frames, X.room, X.hears, X.method, X.code, (X.here.setHeapUsed s₂.heap s₂.slotsUsed).setVm hW'.alike, X.tail, State.WarmedH.trans X.warmed hW', X.limits, X.bytes, X.same.trans (hsame.setVm s.vm)⟩,
      ⟨g, mk, s₂, L, rfl, rfl, hqc, rfl, hL, rfl, rfl⟩, ?_⟩
    show Steps p.tables e below _ ((({ U with heap := s₂.heap, slotsUsed := s₂.slotsUsed } : State).setVm s₂.vm).setTop { g with pc := g.pc + len₂, stack := v.toList ++ g.stack })
    rw [← hs₂]
    exact hsteps
  · obtain ⟨e2, q2, q3, q4, q5, q6⟩ := id hsm
    have e3 : s₂ = ({ (U.calling g mk a).setFrames s₂.frames with heap := s₂.heap, slotsUsed := s₂.slotsUsed } : State).setVm s₂.vm := by
      have : s₂ = ({ s₂ with vm := (U.calling g mk a).vm } : State).setVm s₂.vm := rfl
      rw [e2] at this
      exact this
    have hf₂ : s₂.frames = .throwing q :: .java g :: U.frames.tail := hend
    have hW' : U.WarmedH s₂.vm := hW₂
    have hs₂ : s₂ = ((({ U with heap := s₂.heap, slotsUsed := s₂.slotsUsed } : State).setVm s₂.vm).setTop g).pushFrame (.throwing q) := by
      refine e3.trans ?_
      rw [hf₂, State.calling_eq h.top, State.setFrames_setFrames, State.pushFrame, State.frames_setTop _ hr', State.setTop_of_frames _ hr', State.setFrames_setFrames, hr]
      rfl
    have hsame : U.sameButNew ({ U with heap := s₂.heap, slotsUsed := s₂.slotsUsed } : State) L mc ms := by
      refine ⟨?_, q2, q3, q4, q5, q6⟩
      obtain ⟨t, ht, -⟩ := State.frames_cons hr
      show ({ U with heap := s₂.heap, slotsUsed := s₂.slotsUsed } : State) = { U.setFrames U.frames with heap := s₂.heap, slotsUsed := s₂.slotsUsed }
      rw [State.setFrames_self ht]
    subst hg
    refine Or.inr ⟨q, ⟨(({ U with heap := s₂.heap, slotsUsed := s₂.slotsUsed } : State).setVm s₂.vm), Ls ++ L, c0 + mc, s0 + ms⟩,
      ⟨X.admits, X.cas, X.clock, X.frames, X.room, X.hears, X.method, X.code, (X.here.setHeapUsed s₂.heap s₂.slotsUsed).setVm hW'.alike, X.tail, State.WarmedH.trans X.warmed hW', X.limits, X.bytes, X.same.trans (hsame.setVm s.vm)⟩,
      ⟨g, mk, s₂, L, E, ce, rfl, rfl, hx, hce, hcv, hcl, rfl, hL, rfl, rfl⟩, ?_⟩
    show Steps p.tables e below _ (((({ U with heap := s₂.heap, slotsUsed := s₂.slotsUsed } : State).setVm s₂.vm).setTop g).pushFrame (.throwing q))
    rw [← hs₂]
    exact hsteps
end
variable {p : Program} {l : Launch} {e : Env} {R : Room} {s : State} {m : MethodId} {args : Array Value} {below : List Frame} {meth : Method} {c : Code} {T : State} {H : Heap} {locs : List Loc} {cells slots : Nat}
theorem vx_callVX (X : Stand p l e R s m args below meth c T locs cells slots) (hexec : p.tables.exec = Jvm.exec) {own C : String} {index : Nat} {y : MethodName} {bytes : ByteArray} {maxL : Nat} {ret : Option FieldType} {hh : List (Nat × Nat × Nat × Nat)}
    (hown : s.vm.findClass own = some m.cls) (hlink : (Cond.methodLink own index y).before args s = true) (hinst : (Cond.instanceMethod y).before args s = true) (hsel : (Cond.selects C y y).before args s = true)
    (hcode : (Cond.codeWith y bytes maxL ret hh).before args s = true) (hy : y.cls ≠ "java/lang/invoke/MethodHandle" ∧ y.cls ≠ "java/lang/invoke/VarHandle")
    {W9 : Nat} {Pre : Pt → Array Value → Prop} {Post : Pt → Array Value → Option Value → Pt → Prop} {PostX : Pt → Array Value → Addr → Pt → Prop} (hK : vx_Back l R p e below s args y 3 W9 Pre Post PostX)
    {b : Addr} {cellB : Cell} (hcell : T.heap[b]? = some cellB) (hobj : cellB.vm.isStatics = false) (hcls : s.vm.findClass C = some cellB.cls)
    {g : JFrame} (hg : g.method = m) (hsize : g.locals.size = c.maxLocals) {argsL rest : List Value} (hlen : ∀ sig, parseMethodDescriptor y.desc = some sig → argsL.length = sig.parameters.length)
    (hstack : g.stack = argsL.reverse ++ .ref b :: rest) (hW : 2 * g.monitorRoom + (rest.map fun v => v.category).sum ≤ W9) (hdg : decode c.code g.pc = .ok (.invokevirtual index, 3))
    (hpre : ∀ vm₁, s.WarmedH vm₁ → Pre ⟨T.setVm vm₁, locs, cells, slots⟩ (Value.ref b :: argsL).toArray) :
    (∃ (v : Option Value) (vm₁ : Vm) (B : Pt), s.WarmedH vm₁ ∧ Stand p l e R s m args below meth c B.U B.locs B.cells B.slots ∧ Post ⟨T.setVm vm₁, locs, cells, slots⟩ (Value.ref b :: argsL).toArray v B ∧
      ∀ target, Steps p.tables e below (B.U.setTop { g with pc := g.pc + 3, stack := v.toList ++ rest }) target → Steps p.tables e below (T.setTop g) target) ∨
    (∃ (q : Addr) (vm₁ : Vm) (B : Pt), s.WarmedH vm₁ ∧ Stand p l e R s m args below meth c B.U B.locs B.cells B.slots ∧ PostX ⟨T.setVm vm₁, locs, cells, slots⟩ (Value.ref b :: argsL).toArray q B ∧
      Steps p.tables e below (T.setTop g) ((B.U.setTop { g with stack := rest }).pushFrame (.throwing q))) := by
  obtain ⟨mk, methM, hnamed, hmethM, hstM, habM⟩ := Cond.instanceMethod_spec hinst
  obtain ⟨m8, methM', cM, hn8, hmethM', -, -, -, -, -, -, hsigM⟩ := Cond.codeWith_spec hcode
  cases Option.some.inj (hn8.symm.trans hnamed)
  cases hmethM.symm.trans hmethM'
  obtain ⟨c2, r2, m2, q1, q2, q3, q4, kP, hkP, hkPi⟩ := Cond.selects_spec hsel
  cases hcls.symm.trans q1
  cases (State.methodFound?_of_named hnamed hy).symm.trans q2
  cases hnamed.symm.trans q3
  have hselP : selectMethod e.platform s.vm cellB.cls mk = .method mk := by rw [Launch.admits_selectMethod X.admits]; exact q4
  obtain ⟨vm₁, X₁, hstep₁⟩ := X.invokevirtual hexec hown hlink hnamed hmethM hstM hkP hkPi hy (a := b) (cell := cellB) hcell
    (fun z h => by rw [h] at hobj; cases hobj) hselP hmethM habM hkP hkPi (g := g) hg (argsL := argsL) (rest := rest) (hlen _ hsigM) hstack hdg
  rcases hK m meth c ⟨T.setVm vm₁, locs, cells, slots⟩ { g with stack := rest } (.invokevirtual index) mk (Value.ref b :: argsL).toArray X₁ hg hsize hdg hW (X₁.named hnamed) (hpre vm₁ X₁.warmed) with ⟨v, B, X', hpost, hsteps⟩ | ⟨q, B, X', hpost, hsteps⟩
  · exact Or.inl ⟨v, vm₁, B, X₁.warmed, X', hpost, fun target h => hstep₁ _ fun acts => by rw [doInvoke_state]; exact hsteps.trans h⟩
  · exact Or.inr ⟨q, vm₁, B, X₁.warmed, X', hpost, hstep₁ _ fun acts => by rw [doInvoke_state]; exact hsteps⟩
theorem vx_callSX (X : Stand p l e R s m args below meth c T locs cells slots) (hexec : p.tables.exec = Jvm.exec) {own : String} {index : Nat} {y : MethodName} {bytes : ByteArray} {maxL : Nat} {ret : Option FieldType} {hh : List (Nat × Nat × Nat × Nat)}
    (hown : s.vm.findClass own = some m.cls) (hlink : (Cond.methodLink own index y).before args s = true) (hstat : (Cond.static y).before args s = true) (hinit : (Cond.initialized y.cls).before args s = true)
    (hcode : (Cond.codeWith y bytes maxL ret hh).before args s = true) (hy : y.cls ≠ "java/lang/invoke/MethodHandle" ∧ y.cls ≠ "java/lang/invoke/VarHandle")
    {W9 : Nat} {Pre : Pt → Array Value → Prop} {Post : Pt → Array Value → Option Value → Pt → Prop} {PostX : Pt → Array Value → Addr → Pt → Prop} (hK : vx_Back l R p e below s args y 3 W9 Pre Post PostX)
    {g : JFrame} (hg : g.method = m) (hsize : g.locals.size = c.maxLocals) {argsL rest : List Value} (hlen : ∀ sig, parseMethodDescriptor y.desc = some sig → argsL.length = sig.parameters.length)
    (hstack : g.stack = argsL.reverse ++ rest) (hW : 2 * g.monitorRoom + (rest.map fun v => v.category).sum ≤ W9) (hdg : decode c.code g.pc = .ok (.invokestatic index, 3))
    (hpre : ∀ vm₁, s.WarmedH vm₁ → Pre ⟨T.setVm vm₁, locs, cells, slots⟩ argsL.toArray) :
    (∃ (v : Option Value) (vm₁ : Vm) (B : Pt), s.WarmedH vm₁ ∧ Stand p l e R s m args below meth c B.U B.locs B.cells B.slots ∧ Post ⟨T.setVm vm₁, locs, cells, slots⟩ argsL.toArray v B ∧
      ∀ target, Steps p.tables e below (B.U.setTop { g with pc := g.pc + 3, stack := v.toList ++ rest }) target → Steps p.tables e below (T.setTop g) target) ∨
    (∃ (q : Addr) (vm₁ : Vm) (B : Pt), s.WarmedH vm₁ ∧ Stand p l e R s m args below meth c B.U B.locs B.cells B.slots ∧ PostX ⟨T.setVm vm₁, locs, cells, slots⟩ argsL.toArray q B ∧
      Steps p.tables e below (T.setTop g) ((B.U.setTop { g with stack := rest }).pushFrame (.throwing q))) := by
  obtain ⟨mk, methM, cM, hnamed, hmethM, -, -, -, -, -, -, hsigM⟩ := Cond.codeWith_spec hcode
  have hstatic : methM.isStatic = true := Cond.static_spec hnamed hmethM hstat
  obtain ⟨kP, hkP, -⟩ := className_of_methodNamed hnamed
  have hinitP : kP.init = .initialized := Cond.initialized_spec (findClass_of_methodNamed hnamed) hkP hinit
  obtain ⟨vm₁, X₁, hstep₁⟩ := X.invokestatic hexec hown hlink hnamed hmethM hstatic hkP hinitP hy (g := g) hg (argsL := argsL) (rest := rest) (hlen _ hsigM) hstack hdg
  rcases hK m meth c ⟨T.setVm vm₁, locs, cells, slots⟩ { g with stack := rest } (.invokestatic index) mk argsL.toArray X₁ hg hsize hdg hW (X₁.named hnamed) (hpre vm₁ X₁.warmed) with ⟨v, B, X', hpost, hsteps⟩ | ⟨q, B, X', hpost, hsteps⟩
  · exact Or.inl ⟨v, vm₁, B, X₁.warmed, X', hpost, fun target h => hstep₁ _ fun acts => by rw [doInvoke_state]; exact hsteps.trans h⟩
  · exact Or.inr ⟨q, vm₁, B, X₁.warmed, X', hpost, hstep₁ _ fun acts => by rw [doInvoke_state]; exact hsteps⟩
theorem vx_callVW (X : Stand p l e R s m args below meth c T locs cells slots) (hexec : p.tables.exec = Jvm.exec) {own C : String} {index : Nat} {y : MethodName} {bytes : ByteArray} {maxL : Nat} {ret : Option FieldType} {hh : List (Nat × Nat × Nat × Nat)}
    (hown : s.vm.findClass own = some m.cls) (hlink : (Cond.methodLink own index y).before args s = true) (hinst : (Cond.instanceMethod y).before args s = true) (hsel : (Cond.selects C y y).before args s = true)
    (hcode : (Cond.codeWith y bytes maxL ret hh).before args s = true) (hy : y.cls ≠ "java/lang/invoke/MethodHandle" ∧ y.cls ≠ "java/lang/invoke/VarHandle")
    {W9 : Nat} {Pre : Pt → Array Value → Prop} {Post : Pt → Array Value → Option Value → Pt → Prop} (hK : Back l R p e below s args y 3 W9 Pre Post)
    {b : Addr} {cellB : Cell} (hcell : T.heap[b]? = some cellB) (hobj : cellB.vm.isStatics = false) (hcls : s.vm.findClass C = some cellB.cls)
    {g : JFrame} (hg : g.method = m) (hsize : g.locals.size = c.maxLocals) {argsL rest : List Value} (hlen : ∀ sig, parseMethodDescriptor y.desc = some sig → argsL.length = sig.parameters.length)
    (hstack : g.stack = argsL.reverse ++ .ref b :: rest) (hW : 2 * g.monitorRoom + (rest.map fun v => v.category).sum ≤ W9) (hdg : decode c.code g.pc = .ok (.invokevirtual index, 3))
    (hpre : ∀ vm₁, s.WarmedH vm₁ → Pre ⟨T.setVm vm₁, locs, cells, slots⟩ (Value.ref b :: argsL).toArray) :
    ∃ (v : Option Value) (vm₁ : Vm) (B : Pt), s.WarmedH vm₁ ∧ Stand p l e R s m args below meth c B.U B.locs B.cells B.slots ∧ Post ⟨T.setVm vm₁, locs, cells, slots⟩ (Value.ref b :: argsL).toArray v B ∧
      ∀ target, Steps p.tables e below (B.U.setTop { g with pc := g.pc + 3, stack := v.toList ++ rest }) target → Steps p.tables e below (T.setTop g) target := by
  obtain ⟨mk, methM, hnamed, hmethM, hstM, habM⟩ := Cond.instanceMethod_spec hinst
  obtain ⟨m8, methM', cM, hn8, hmethM', -, -, -, -, -, -, hsigM⟩ := Cond.codeWith_spec hcode
  cases Option.some.inj (hn8.symm.trans hnamed)
  cases hmethM.symm.trans hmethM'
  obtain ⟨c2, r2, m2, q1, q2, q3, q4, kP, hkP, hkPi⟩ := Cond.selects_spec hsel
  cases hcls.symm.trans q1
  cases (State.methodFound?_of_named hnamed hy).symm.trans q2
  cases hnamed.symm.trans q3
  have hselP : selectMethod e.platform s.vm cellB.cls mk = .method mk := by rw [Launch.admits_selectMethod X.admits]; exact q4
  obtain ⟨vm₁, X₁, hstep₁⟩ := X.invokevirtual hexec hown hlink hnamed hmethM hstM hkP hkPi hy (a := b) (cell := cellB) hcell
    (fun z h => by rw [h] at hobj; cases hobj) hselP hmethM habM hkP hkPi (g := g) hg (argsL := argsL) (rest := rest) (hlen _ hsigM) hstack hdg
  obtain ⟨v, B, X', hpost, hsteps⟩ := hK m meth c ⟨T.setVm vm₁, locs, cells, slots⟩ { g with stack := rest } (.invokevirtual index) mk (Value.ref b :: argsL).toArray X₁ hg hsize hdg hW (X₁.named hnamed) (hpre vm₁ X₁.warmed)
  exact ⟨v, vm₁, B, X₁.warmed, X', hpost, fun target h => hstep₁ _ fun acts => by rw [doInvoke_state]; exact hsteps.trans h⟩
abbrev vx_CVW (R : Room) (s : State) (args : Array Value) (own C : String) (index : Nat) (y : MethodName) (bytes : ByteArray) (maxL : Nat) (ret : Option FieldType) (hh : List (Nat × Nat × Nat × Nat)) (ws : List Cond) (rm : Room) (mc ms n : Nat) : Prop :=
  (rm.cells = mc ∧ rm.slots = ms ∧ rm.frames + 1 ≤ R.frames ∧ 8 + (maxL + 11) + rm.locals ≤ R.locals ∧ (∀ w ∈ ws, ∀ (a' : Array Value) (U : State), s.WarmedH U.vm → w.before a' U = true) ∧ Cond.codeWith y bytes maxL ret hh ∈ ws) ∧
  (Cond.codeWith y bytes maxL ret hh).before args s = true ∧ (Cond.initialized y.cls).before args s = true ∧ (y.cls ≠ "java/lang/invoke/MethodHandle" ∧ y.cls ≠ "java/lang/invoke/VarHandle") ∧
  (∀ sig, parseMethodDescriptor y.desc = some sig → n = sig.parameters.length) ∧ (Cond.methodLink own index y).before args s = true ∧ (Cond.instanceMethod y).before args s = true ∧ (Cond.selects C y y).before args s = true
theorem vx_cwVW {own C : String} {index maxL mc ms : Nat} {y : MethodName} {bytes : ByteArray} {ret : Option FieldType} {hh : List (Nat × Nat × Nat × Nat)} {Ts ws ws' : List Cond} {rm : Room} (n : Nat) (ht : ∀ w ∈ Ts, w.before args s = true) (hT : GoodIn Ts (wsV own index C y ws)) (hw : ws = Cond.codeWith y bytes maxL ret hh :: ws') (hrc : rm.cells = mc) (hrs : rm.slots = ms)
    (hd : y.cls = C ∧ y.cls ≠ "java/lang/invoke/MethodHandle" ∧ y.cls ≠ "java/lang/invoke/VarHandle" ∧ (parseMethodDescriptor y.desc).map (fun d => d.parameters.length) = some n) (hR : rm.frames + 1 ≤ R.frames ∧ 8 + (maxL + 11) + rm.locals ≤ R.locals) :
    vx_CVW R s args own C index y bytes maxL ret hh ws rm mc ms n := by
  obtain ⟨hC, hd⟩ := hd
  subst hC
  have ok : ∀ w ∈ wsV own index y.cls y ws, w.before args s = true := fun w h => ht w (hT w h).1
  have hG : GoodIn Ts ws := fun w h => hT w (by unfold wsV; exact List.mem_append_right _ h)
  have hc : Cond.codeWith y bytes maxL ret hh ∈ ws := by rw [hw]; exact List.mem_cons_self
  refine ⟨⟨hrc, hrs, hR.1, hR.2, pay_in ht hG, hc⟩, ht _ (hG _ hc).1, ok _ (by simp [wsV]), ⟨hd.1, hd.2.1⟩, fun sig h => ?_, ok _ (by simp [wsV]), ok _ (by simp [wsV]), ok _ (by simp [wsV])⟩
  have h2 := hd.2.2
  rw [h] at h2
  exact (Option.some.inj h2).symm
theorem vx_runVW {y : MethodName} {bytes cc : ByteArray} {maxL nL mc ms n index : Nat} {ret : Option FieldType} {hh : List (Nat × Nat × Nat × Nat)} {ws : List Cond} {rm : Room} {Pc : Array Value → State → Prop} {Qc : Array Value → State → Outcome → State → Prop} {free : Addr → Prop} {Ts : List Cond} {own C : String} {b : Addr} {As rest : List Value} {g : JFrame}
    (S : CallFix p m c cc nL s args Ts own) (hM : Met l y ws rm Pc Qc mc ms free) (cw : vx_CVW R s args own C index y bytes maxL ret hh ws rm mc ms n) (hp : PreV s H C b Pc As)
    (hg : g.method = m) (hn : As.length = n) (hsize : g.locals.size = nL) (hstack : g.stack = As.reverse ++ .ref b :: rest) (hW : 2 * g.monitorRoom + (rest.map fun v => v.category).sum ≤ 8) (hdg : decode cc g.pc = .ok (.invokevirtual index, 3)) (hf : cells + mc ≤ R.cells ∧ slots + ms ≤ R.slots) :
    va_Run p l e R s m args below meth c H locs cells slots mc ms g rest (Qc (Value.ref b :: As).toArray) free := by
  obtain ⟨⟨hrc, hrs, hfr, hlo, hws, hcw⟩, hcode, hini, hy, hlen, hl, hin, hse⟩ := cw
  have hK : Back l R p e below s args y 3 8 (PreOf R mc ms Pc) (PostOf Qc mc ms free) := va_backW (hh := hh) (bytes := bytes) (maxL := maxL) (ret := ret) hM hp.1 hrc hrs hfr hlo hws hcw (fun a' U hW => word_at hW (Or.inl (by first | rfl | simp [Cond.onTables, Cond.keeps, Cond.steady])) hini)
  obtain ⟨hx, hb, hml, ho, -⟩ := S
  obtain ⟨-, ⟨cellB, hcB, hoB, hclB⟩, hPc⟩ := hp
  intro T hT X
  obtain ⟨v, vm₁, ⟨U', l2, c2, s2⟩, hW₁, X', ⟨g', mk, t, L, e1, e2, hq, h1, hL, h2, h3⟩, st⟩ := vx_callVW X hx (C := C) (hh := hh) (bytes := bytes) (maxL := maxL) (ret := ret) ho hl hin hse hcode hy hK (by rw [hT]; exact hcB) hoB hclB hg (hsize.trans hml.symm) (argsL := As) (rest := rest) (fun sig h => hn.trans (hlen sig h)) hstack hW (by rw [hb]; exact hdg)
    (fun vm₁ hW₁ => ⟨hf.1, hf.2, hPc (T.setVm vm₁) hT hW₁⟩)
  dsimp only [Pt.U, Pt.locs, Pt.cells, Pt.slots] at X' e1 e2 h1 h2 h3 st
  subst h1; subst h2; subst h3
  exact ⟨v, (T.setVm vm₁).calling g' mk (Value.ref b :: As).toArray, t, U', L, hT, X', hL, e1, e2, hq, st⟩
section
variable {y : MethodName} {bytes cc : ByteArray} {maxL nL mc ms n index : Nat} {ret : Option FieldType} {ws : List Cond} {rm : Room} {Pc : Array Value → State → Prop} {Qc : Array Value → State → Outcome → State → Prop} {XC : String → State → State → Prop} {free : Addr → Prop} {Ts : List Cond} {own C : String} {b : Addr} {As rest : List Value} {g : JFrame}
theorem vx_runVX {hh : List (Nat × Nat × Nat × Nat)} (S : CallFix p m c cc nL s args Ts own) (hM : vx_Met l y ws rm Pc Qc XC mc ms free) (cw : vx_CVW R s args own C index y bytes maxL ret hh ws rm mc ms n) (hp : PreV s H C b Pc As)
    (hg : g.method = m) (hn : As.length = n) (hsize : g.locals.size = nL) (hstack : g.stack = As.reverse ++ .ref b :: rest) (hW : 2 * g.monitorRoom + (rest.map fun v => v.category).sum ≤ 8) (hdg : decode cc g.pc = .ok (.invokevirtual index, 3)) (hf : cells + mc ≤ R.cells ∧ slots + ms ≤ R.slots) :
    vx_Run p l e R s m args below meth c H locs cells slots mc ms g rest (Qc (Value.ref b :: As).toArray) XC free := by
  obtain ⟨⟨hrc, hrs, hfr, hlo, hws, hcw⟩, hcode, hini, hy, hlen, hl, hin, hse⟩ := cw
  have hK : vx_Back l R p e below s args y 3 8 (PreOf R mc ms Pc) (PostOf Qc mc ms free) (vx_Post XC mc ms free) := vx_backW (hh := hh) (bytes := bytes) (maxL := maxL) (ret := ret) hM hp.1 hrc hrs hfr hlo hws hcw (fun a' U hW => word_at hW (Or.inl (by first | rfl | simp [Cond.onTables, Cond.keeps, Cond.steady])) hini)
  obtain ⟨hx, hb, hml, ho, -⟩ := S
  obtain ⟨-, ⟨cellB, hcB, hoB, hclB⟩, hPc⟩ := hp
  intro T hT X
  rcases vx_callVX X hx (C := C) (hh := hh) (bytes := bytes) (maxL := maxL) (ret := ret) ho hl hin hse hcode hy hK (by rw [hT]; exact hcB) hoB hclB hg (hsize.trans hml.symm) (argsL := As) (rest := rest) (fun sig h => hn.trans (hlen sig h)) hstack hW (by rw [hb]; exact hdg)
    (fun vm₁ hW₁ => ⟨hf.1, hf.2, hPc (T.setVm vm₁) hT hW₁⟩) with ⟨v, vm₁, ⟨U', l2, c2, s2⟩, hW₁, X', ⟨g', mk, t, L, e1, e2, hq, h1, hL, h2, h3⟩, st⟩ | ⟨q, vm₁, ⟨U', l2, c2, s2⟩, hW₁, X', ⟨g', mk, t, L, E, ce, e1, e2, hq, hce, hcv, hcl, h1, hL, h2, h3⟩, st⟩
  · dsimp only [Pt.U, Pt.locs, Pt.cells, Pt.slots] at X' e1 e2 h1 h2 h3 st
    subst h1; subst h2; subst h3
    exact Or.inl ⟨v, (T.setVm vm₁).calling g' mk (Value.ref b :: As).toArray, t, U', L, hT, X', hL, e1, e2, hq, st⟩
  · dsimp only [Pt.U, Pt.locs, Pt.cells, Pt.slots] at X' e1 e2 h1 h2 h3 st hcl
    subst h1; subst h2; subst h3
    exact Or.inr ⟨q, (T.setVm vm₁).calling g' mk (Value.ref b :: As).toArray, t, U', L, E, ce, hT, X', hL, e1, e2, hq, hce, hcv, vx_cls hW₁ hcl, st⟩
theorem vx_runSX {hh : List (Nat × Nat × Nat × Nat)} (S : CallFix p m c cc nL s args Ts own) (hM : vx_Met l y ws rm Pc Qc XC mc ms free) (cw : vx_CSW R s args own index y bytes maxL ret hh ws rm mc ms n) (hp : PreS s H Pc As)
    (hg : g.method = m) (hn : As.length = n) (hsize : g.locals.size = nL) (hstack : g.stack = As.reverse ++ rest) (hW : 2 * g.monitorRoom + (rest.map fun v => v.category).sum ≤ 8) (hdg : decode cc g.pc = .ok (.invokestatic index, 3)) (hf : cells + mc ≤ R.cells ∧ slots + ms ≤ R.slots) :
    vx_Run p l e R s m args below meth c H locs cells slots mc ms g rest (Qc As.toArray) XC free := by
  obtain ⟨⟨hrc, hrs, hfr, hlo, hws, hcw⟩, hcode, hini, hy, hlen, hl, hstt⟩ := cw
  have hK : vx_Back l R p e below s args y 3 8 (PreOf R mc ms Pc) (PostOf Qc mc ms free) (vx_Post XC mc ms free) := vx_backW (hh := hh) (bytes := bytes) (maxL := maxL) (ret := ret) hM hp.1 hrc hrs hfr hlo hws hcw (fun a' U hW => word_at hW (Or.inl (by first | rfl | simp [Cond.onTables, Cond.keeps, Cond.steady])) hini)
  obtain ⟨hx, hb, hml, ho, -⟩ := S
  intro T hT X
  rcases vx_callSX X hx (hh := hh) (bytes := bytes) (maxL := maxL) (ret := ret) ho hl hstt hini hcode hy hK hg (hsize.trans hml.symm) (argsL := As) (rest := rest) (fun sig h => hn.trans (hlen sig h)) hstack hW (by rw [hb]; exact hdg)
    (fun vm₁ hW₁ => ⟨hf.1, hf.2, hp.2 (T.setVm vm₁) hT hW₁⟩) with ⟨v, vm₁, ⟨U', l2, c2, s2⟩, hW₁, X', ⟨g', mk, t, L, e1, e2, hq, h1, hL, h2, h3⟩, st⟩ | ⟨q, vm₁, ⟨U', l2, c2, s2⟩, hW₁, X', ⟨g', mk, t, L, E, ce, e1, e2, hq, hce, hcv, hcl, h1, hL, h2, h3⟩, st⟩
  · dsimp only [Pt.U, Pt.locs, Pt.cells, Pt.slots] at X' e1 e2 h1 h2 h3 st
    subst h1; subst h2; subst h3
    exact Or.inl ⟨v, (T.setVm vm₁).calling g' mk As.toArray, t, U', L, hT, X', hL, e1, e2, hq, st⟩
  · dsimp only [Pt.U, Pt.locs, Pt.cells, Pt.slots] at X' e1 e2 h1 h2 h3 st hcl
    subst h1; subst h2; subst h3
    exact Or.inr ⟨q, (T.setVm vm₁).calling g' mk As.toArray, t, U', L, E, ce, hT, X', hL, e1, e2, hq, hce, hcv, vx_cls hW₁ hcl, st⟩
end
end VXH
theorem vx_ofWH {l : Launch} {y : MethodName} {ws ws' : List Cond} {rm : Room} {Pc : Array Value → State → Prop} {Qc : Array Value → State → Outcome → State → Prop} {XC : String → State → State → Prop} {mc ms : Nat} {free : Addr → Prop} {cc : ByteArray} {maxL : Nat} {ret : Option FieldType} {hh : List (Nat × Nat × Nat × Nat)}
    (hy : plainName y.cls = true) (hw : ws = Cond.codeWith y cc maxL ret hh :: ws')
    (body : ∀ p e s m args below meth c s₁, BodyLoose p l y (headSpec ws rm) cc maxL ret e s m args below meth c s₁ → c.maxLocals = maxL → Pc args s →
      W p l e (headSpec ws rm).room s m args below meth c s.heap [] 0 0 (vx_MQ below Qc XC args s mc ms free) (entryFrame m args maxL)) : vx_Met l y ws rm Pc Qc XC mc ms free := by
  refine MetFree.of_bodyS (code := cc) (maxLocals := maxL) (ret := ret) hy ?_ ?_
  · intro args s m h hn
    obtain ⟨m9, meth, c, hn9, h1, h2, h3, h4, -, h5, h6, -⟩ := Cond.codeWith_spec (atoms_spec (ws := ws) h _ (by rw [hw]; exact List.mem_cons_self))
    cases hn.symm.trans hn9
    exact ⟨meth, c, h1, h2, h3, h4, h5, h6⟩
  · intro p e s m args below meth c s₁ B hml hP _
    have hh0 : s₁.heap = s.heap := by rw [B.state]; rfl
    obtain ⟨t, a1, o, b1, b2, b3⟩ := body p e s m args below meth c s₁ B hml hP s₁ hh0 (Stand.of_body B)
    exact ⟨t, o, a1, b1, b2, b3⟩
/-! ===== END ===== -/
end
section
abbrev RX0 : String := "HackHouse$Game"
def TX0 : u_T := fun k => match k with
  | 0 => ("HackHouse$Game", "first", "I", true)
  | 1 => ("HackHouse$Game", "second", "I", true)
  | 2 => ("HackHouse$Game", "wish", "I", true)
  | 3 => ("HackHouse$Game", "stones", "LHackHouse$Stones;", true)
  | 4 => ("HackHouse$Game", "begin", "I", false)
  | 5 => ("HackHouse$Game", "state", "I", false)
  | 6 => ("HackHouse$Game", "sheet", "I", false)
  | 7 => ("HackHouse$Game", "firstDraw", "I", false)
  | 8 => ("HackHouse$Game", "firstPoints", "I", false)
  | 9 => ("HackHouse$Game", "secondPoints", "I", false)
  | 10 => ("HackHouse$Game", "endsOver", "I", false)
  | 11 => ("HackHouse$Game", "thrown", "I", false)
  | _ => ("HackHouse$Game", "lastSide", "I", false)
def tyX0 : Nat → FieldType := fun k => match k with
  | 0 => .int
  | 1 => .int
  | 2 => .int
  | 3 => .object "HackHouse$Stones"
  | 4 => .int
  | 5 => .int
  | 6 => .int
  | 7 => .int
  | 8 => .int
  | 9 => .int
  | 10 => .int
  | 11 => .int
  | _ => .int
abbrev wsX00 : List Cond := u_ws RX0 TX0 13
theorem nmX0 : ∀ a, a < 13 → ∀ b, b < 13 → a ≠ b → (TX0 a).2.1 ≠ (TX0 b).2.1 := by decide +kernel
theorem tyX0_ok : ∀ k, k < 13 → parseFieldDescriptor (TX0 k).2.2.1 = some (tyX0 k) := by decide +kernel
abbrev cX0_init : ByteArray := prog_2_method_1_code
def yX0_init : MethodName := ⟨RX0, "<init>", "(IIII)V"⟩
abbrev cX0_isOnSheet : ByteArray := prog_2_method_2_code
def yX0_isOnSheet : MethodName := ⟨RX0, "isOnSheet", "()Z"⟩
abbrev cX0_nextSide : ByteArray := prog_2_method_3_code
def yX0_nextSide : MethodName := ⟨RX0, "nextSide", "()I"⟩
abbrev cX0_nextStone : ByteArray := prog_2_method_4_code
def yX0_nextStone : MethodName := ⟨RX0, "nextStone", "()I"⟩
abbrev cX0_takeDraw : ByteArray := prog_2_method_5_code
def yX0_takeDraw : MethodName := ⟨RX0, "takeDraw", "(I)V"⟩
abbrev cX0_closeEnd : ByteArray := prog_2_method_6_code
def yX0_closeEnd : MethodName := ⟨RX0, "closeEnd", "()V"⟩
abbrev RX1 : String := "HackHouse$Sheet"
def TX1 : u_T := fun k => match k with
  | 0 => ("HackHouse$Sheet", "worn", "[I", true)
  | 1 => ("HackHouse$Sheet", "made", "Z", false)
  | _ => ("HackHouse$Sheet", "game", "I", false)
def tyX1 : Nat → FieldType := fun k => match k with
  | 0 => .array .int
  | 1 => .boolean
  | _ => .int
abbrev wsX10 : List Cond := u_ws RX1 TX1 3
theorem nmX1 : ∀ a, a < 3 → ∀ b, b < 3 → a ≠ b → (TX1 a).2.1 ≠ (TX1 b).2.1 := by decide +kernel
theorem tyX1_ok : ∀ k, k < 3 → parseFieldDescriptor (TX1 k).2.2.1 = some (tyX1 k) := by decide +kernel
abbrev cX1_init : ByteArray := prog_3_method_1_code
def yX1_init : MethodName := ⟨RX1, "<init>", "()V"⟩
abbrev cX1_isReady : ByteArray := prog_3_method_2_code
def yX1_isReady : MethodName := ⟨RX1, "isReady", "()Z"⟩
abbrev cX1_wornAt : ByteArray := prog_3_method_3_code
def yX1_wornAt : MethodName := ⟨RX1, "wornAt", "(II)I"⟩
abbrev cX1_wearDown : ByteArray := prog_3_method_4_code
def yX1_wearDown : MethodName := ⟨RX1, "wearDown", "(II)V"⟩
abbrev cX1_allWorn : ByteArray := prog_3_method_5_code
def yX1_allWorn : MethodName := ⟨RX1, "allWorn", "()I"⟩
abbrev cX1_renew : ByteArray := prog_3_method_6_code
def yX1_renew : MethodName := ⟨RX1, "renew", "()V"⟩
abbrev RX2 : String := "HackHouse$Slide"
def TX2 : u_T := fun k => match k with
  | 0 => ("HackHouse$Slide", "stones", "LHackHouse$Stones;", true)
  | 1 => ("HackHouse$Slide", "wears", "Z", false)
  | 2 => ("HackHouse$Slide", "lane", "I", false)
  | 3 => ("HackHouse$Slide", "y", "I", false)
  | 4 => ("HackHouse$Slide", "energy", "I", false)
  | 5 => ("HackHouse$Slide", "turn", "I", false)
  | 6 => ("HackHouse$Slide", "sweptFrom", "I", false)
  | 7 => ("HackHouse$Slide", "sweptTo", "I", false)
  | 8 => ("HackHouse$Slide", "steps", "I", false)
  | _ => ("HackHouse$Slide", "hit", "I", false)
def tyX2 : Nat → FieldType := fun k => match k with
  | 0 => .object "HackHouse$Stones"
  | 1 => .boolean
  | 2 => .int
  | 3 => .int
  | 4 => .int
  | 5 => .int
  | 6 => .int
  | 7 => .int
  | 8 => .int
  | _ => .int
abbrev wsX20 : List Cond := u_ws RX2 TX2 10
theorem nmX2 : ∀ a, a < 10 → ∀ b, b < 10 → a ≠ b → (TX2 a).2.1 ≠ (TX2 b).2.1 := by decide +kernel
theorem tyX2_ok : ∀ k, k < 10 → parseFieldDescriptor (TX2 k).2.2.1 = some (tyX2 k) := by decide +kernel
abbrev cX2_init : ByteArray := prog_4_method_1_code
def yX2_init : MethodName := ⟨RX2, "<init>", "()V"⟩
abbrev cX2_aim : ByteArray := prog_4_method_2_code
def yX2_aim : MethodName := ⟨RX2, "aim", "(IIIII)V"⟩
abbrev cX2_run : ByteArray := prog_4_method_3_code
def yX2_run : MethodName := ⟨RX2, "run", "(LHackHouse$Sheet;LHackHouse$Stones;IZ)I"⟩
abbrev cX2_aimPushed : ByteArray := prog_4_method_4_code
def yX2_aimPushed : MethodName := ⟨RX2, "aimPushed", "(I)V"⟩
abbrev cX2_glide : ByteArray := prog_4_method_5_code
def yX2_glide : MethodName := ⟨RX2, "glide", "(LHackHouse$Sheet;)I"⟩
abbrev cX2_isSwept : ByteArray := prog_4_method_6_code
def yX2_isSwept : MethodName := ⟨RX2, "isSwept", "(I)Z"⟩
abbrev cX2_restingPlace : ByteArray := prog_4_method_7_code
def yX2_restingPlace : MethodName := ⟨RX2, "restingPlace", "()I"⟩
abbrev cX2_stepsForward : ByteArray := prog_4_method_8_code
def yX2_stepsForward : MethodName := ⟨RX2, "stepsForward", "(LHackHouse$Sheet;)Z"⟩
abbrev cX2_mustMoveAside : ByteArray := prog_4_method_9_code
def yX2_mustMoveAside : MethodName := ⟨RX2, "mustMoveAside", "()Z"⟩
abbrev cX2_movesAside : ByteArray := prog_4_method_10_code
def yX2_movesAside : MethodName := ⟨RX2, "movesAside", "()Z"⟩
abbrev RX3 : String := "HackHouse$Stones"
def TX3 : u_T := fun k => match k with
  | _ => ("HackHouse$Stones", "places", "[I", true)
def tyX3 : Nat → FieldType := fun k => match k with
  | _ => .array .int
abbrev wsX30 : List Cond := u_ws RX3 TX3 1
theorem nmX3 : ∀ a, a < 1 → ∀ b, b < 1 → a ≠ b → (TX3 a).2.1 ≠ (TX3 b).2.1 := by decide +kernel
theorem tyX3_ok : ∀ k, k < 1 → parseFieldDescriptor (TX3 k).2.2.1 = some (tyX3 k) := by decide +kernel
abbrev cX3_init : ByteArray := prog_5_method_1_code
def yX3_init : MethodName := ⟨RX3, "<init>", "()V"⟩
abbrev cX3_takeAway : ByteArray := prog_5_method_2_code
def yX3_takeAway : MethodName := ⟨RX3, "takeAway", "()V"⟩
abbrev cX3_copyFrom : ByteArray := prog_5_method_3_code
def yX3_copyFrom : MethodName := ⟨RX3, "copyFrom", "(LHackHouse$Stones;)V"⟩
abbrev cX3_placeOf : ByteArray := prog_5_method_4_code
def yX3_placeOf : MethodName := ⟨RX3, "placeOf", "(I)I"⟩
abbrev cX3_put : ByteArray := prog_5_method_5_code
def yX3_put : MethodName := ⟨RX3, "put", "(II)V"⟩
abbrev cX3_lyingAt : ByteArray := prog_5_method_6_code
def yX3_lyingAt : MethodName := ⟨RX3, "lyingAt", "(II)I"⟩
abbrev cX3_score : ByteArray := prog_5_method_7_code
def yX3_score : MethodName := ⟨RX3, "score", "()I"⟩
abbrev cX3_nearest : ByteArray := prog_5_method_8_code
def yX3_nearest : MethodName := ⟨RX3, "nearest", "(I)I"⟩
abbrev cX3_countNearer : ByteArray := prog_5_method_9_code
def yX3_countNearer : MethodName := ⟨RX3, "countNearer", "(II)I"⟩
abbrev cX3_scoreOneByOne : ByteArray := prog_5_method_10_code
def yX3_scoreOneByOne : MethodName := ⟨RX3, "scoreOneByOne", "()I"⟩
abbrev RX4 : String := "HackHouse$Team"
def TX4 : u_T := fun k => match k with
  | 0 => ("HackHouse$Team", "won", "I", false)
  | 1 => ("HackHouse$Team", "drew", "I", false)
  | _ => ("HackHouse$Team", "lastStones", "I", false)
def tyX4 : Nat → FieldType := fun k => match k with
  | 0 => .int
  | 1 => .int
  | _ => .int
abbrev wsX40 : List Cond := u_ws RX4 TX4 3
theorem nmX4 : ∀ a, a < 3 → ∀ b, b < 3 → a ≠ b → (TX4 a).2.1 ≠ (TX4 b).2.1 := by decide +kernel
theorem tyX4_ok : ∀ k, k < 3 → parseFieldDescriptor (TX4 k).2.2.1 = some (tyX4 k) := by decide +kernel
abbrev cX4_init : ByteArray := prog_6_method_1_code
def yX4_init : MethodName := ⟨RX4, "<init>", "()V"⟩
abbrev cX4_lastStonesPerGame : ByteArray := prog_6_method_2_code
def yX4_lastStonesPerGame : MethodName := ⟨RX4, "lastStonesPerGame", "()I"⟩
abbrev RX5 : String := "HackHouse"
def TX5 : u_T := fun k => match k with
  | 0 => ("HackHouse", "sheets", "[LHackHouse$Sheet;", true)
  | 1 => ("HackHouse", "teams", "[LHackHouse$Team;", true)
  | 2 => ("HackHouse", "games", "[LHackHouse$Game;", true)
  | 3 => ("HackHouse", "slide", "LHackHouse$Slide;", true)
  | 4 => ("HackHouse", "gamesPlanned", "I", false)
  | 5 => ("HackHouse", "now", "I", false)
  | 6 => ("HackHouse", "crewHours", "I", false)
  | 7 => ("HackHouse", "crewSheet", "I", false)
  | _ => ("HackHouse", "crewLeft", "I", false)
def tyX5 : Nat → FieldType := fun k => match k with
  | 0 => .array (.object "HackHouse$Sheet")
  | 1 => .array (.object "HackHouse$Team")
  | 2 => .array (.object "HackHouse$Game")
  | 3 => .object "HackHouse$Slide"
  | 4 => .int
  | 5 => .int
  | 6 => .int
  | 7 => .int
  | _ => .int
abbrev wsX50 : List Cond := u_ws RX5 TX5 9
theorem nmX5 : ∀ a, a < 9 → ∀ b, b < 9 → a ≠ b → (TX5 a).2.1 ≠ (TX5 b).2.1 := by decide +kernel
theorem tyX5_ok : ∀ k, k < 9 → parseFieldDescriptor (TX5 k).2.2.1 = some (tyX5 k) := by decide +kernel
abbrev cX5_init : ByteArray := prog_1_method_1_code
def yX5_init : MethodName := ⟨RX5, "<init>", "()V"⟩
abbrev cX5_plan : ByteArray := prog_1_method_2_code
def yX5_plan : MethodName := ⟨RX5, "plan", "(IIII)I"⟩
abbrev cX5_crew : ByteArray := prog_1_method_3_code
def yX5_crew : MethodName := ⟨RX5, "crew", "(I)I"⟩
abbrev cX5_shoot : ByteArray := prog_1_method_4_code
def yX5_shoot : MethodName := ⟨RX5, "shoot", "(IIIIII)I"⟩
abbrev cX5_pass : ByteArray := prog_1_method_5_code
def yX5_pass : MethodName := ⟨RX5, "pass", "(I)I"⟩
abbrev cX5_hour : ByteArray := prog_1_method_6_code
def yX5_hour : MethodName := ⟨RX5, "hour", "()I"⟩
abbrev cX5_ofSheet : ByteArray := prog_1_method_7_code
def yX5_ofSheet : MethodName := ⟨RX5, "ofSheet", "(II)I"⟩
abbrev cX5_wear : ByteArray := prog_1_method_8_code
def yX5_wear : MethodName := ⟨RX5, "wear", "(III)I"⟩
abbrev cX5_ofGame : ByteArray := prog_1_method_9_code
def yX5_ofGame : MethodName := ⟨RX5, "ofGame", "(II)I"⟩
abbrev cX5_stone : ByteArray := prog_1_method_10_code
def yX5_stone : MethodName := ⟨RX5, "stone", "(III)I"⟩
abbrev cX5_wouldScore : ByteArray := prog_1_method_11_code
def yX5_wouldScore : MethodName := ⟨RX5, "wouldScore", "(I)I"⟩
abbrev cX5_wouldScoreAnew : ByteArray := prog_1_method_12_code
def yX5_wouldScoreAnew : MethodName := ⟨RX5, "wouldScoreAnew", "(I)I"⟩
abbrev cX5_tries : ByteArray := prog_1_method_13_code
def yX5_tries : MethodName := ⟨RX5, "tries", "(IIIIII)I"⟩
abbrev cX5_advice : ByteArray := prog_1_method_14_code
def yX5_advice : MethodName := ⟨RX5, "advice", "(I)I"⟩
abbrev cX5_standing : ByteArray := prog_1_method_15_code
def yX5_standing : MethodName := ⟨RX5, "standing", "(I)I"⟩
abbrev cX5_ofTeam : ByteArray := prog_1_method_16_code
def yX5_ofTeam : MethodName := ⟨RX5, "ofTeam", "(II)I"⟩
abbrev cX5_isWithin : ByteArray := prog_1_method_17_code
def yX5_isWithin : MethodName := ⟨RX5, "isWithin", "(III)Z"⟩
abbrev cX5_isCell : ByteArray := prog_1_method_18_code
def yX5_isCell : MethodName := ⟨RX5, "isCell", "(II)Z"⟩
abbrev cX5_isShot : ByteArray := prog_1_method_19_code
def yX5_isShot : MethodName := ⟨RX5, "isShot", "(IIIII)Z"⟩
abbrev cX5_distanceOf : ByteArray := prog_1_method_20_code
def yX5_distanceOf : MethodName := ⟨RX5, "distanceOf", "(I)I"⟩
abbrev cX5_gameOf : ByteArray := prog_1_method_21_code
def yX5_gameOf : MethodName := ⟨RX5, "gameOf", "(I)LHackHouse$Game;"⟩
abbrev cX5_sheetOf : ByteArray := prog_1_method_22_code
def yX5_sheetOf : MethodName := ⟨RX5, "sheetOf", "(I)LHackHouse$Sheet;"⟩
abbrev cX5_teamOf : ByteArray := prog_1_method_23_code
def yX5_teamOf : MethodName := ⟨RX5, "teamOf", "(I)LHackHouse$Team;"⟩
abbrev cX5_settleDraw : ByteArray := prog_1_method_24_code
def yX5_settleDraw : MethodName := ⟨RX5, "settleDraw", "(LHackHouse$Game;I)V"⟩
abbrev cX5_settleStone : ByteArray := prog_1_method_25_code
def yX5_settleStone : MethodName := ⟨RX5, "settleStone", "(LHackHouse$Game;)V"⟩
abbrev cX5_closeGame : ByteArray := prog_1_method_26_code
def yX5_closeGame : MethodName := ⟨RX5, "closeGame", "(LHackHouse$Game;)V"⟩
abbrev cX5_workAnHour : ByteArray := prog_1_method_27_code
def yX5_workAnHour : MethodName := ⟨RX5, "workAnHour", "()V"⟩
abbrev cX5_sheetToMake : ByteArray := prog_1_method_28_code
def yX5_sheetToMake : MethodName := ⟨RX5, "sheetToMake", "()I"⟩
abbrev cX5_leastHourWished : ByteArray := prog_1_method_29_code
def yX5_leastHourWished : MethodName := ⟨RX5, "leastHourWished", "(I)I"⟩
abbrev cX5_beginGames : ByteArray := prog_1_method_30_code
def yX5_beginGames : MethodName := ⟨RX5, "beginGames", "()V"⟩
abbrev cX5_sheetToPlay : ByteArray := prog_1_method_31_code
def yX5_sheetToPlay : MethodName := ⟨RX5, "sheetToPlay", "(I)I"⟩
abbrev cX5_worthOfShot : ByteArray := prog_1_method_32_code
def yX5_worthOfShot : MethodName := ⟨RX5, "worthOfShot", "(LHackHouse$Game;III)I"⟩
abbrev cX5_worthOfTry : ByteArray := prog_1_method_33_code
def yX5_worthOfTry : MethodName := ⟨RX5, "worthOfTry", "(LHackHouse$Game;III)I"⟩
abbrev cX5_teamsAheadOf : ByteArray := prog_1_method_34_code
def yX5_teamsAheadOf : MethodName := ⟨RX5, "teamsAheadOf", "(I)I"⟩
abbrev cX5_isAhead : ByteArray := prog_1_method_35_code
def yX5_isAhead : MethodName := ⟨RX5, "isAhead", "(II)Z"⟩
abbrev RX6 : String := "HackHouseModel"
def TX6 : u_T := fun k => match k with
  | 0 => ("HackHouseModel", "thrown", "I", false)
  | 1 => ("HackHouseModel", "now", "I", false)
  | 2 => ("HackHouseModel", "crewHours", "I", false)
  | 3 => ("HackHouseModel", "crewAt", "I", false)
  | 4 => ("HackHouseModel", "crewLeft", "I", false)
  | 5 => ("HackHouseModel", "wear", "[I", true)
  | 6 => ("HackHouseModel", "worn", "[Z", true)
  | 7 => ("HackHouseModel", "gameOn", "[I", true)
  | 8 => ("HackHouseModel", "games", "I", false)
  | 9 => ("HackHouseModel", "state", "[I", true)
  | 10 => ("HackHouseModel", "first", "[I", true)
  | 11 => ("HackHouseModel", "second", "[I", true)
  | 12 => ("HackHouseModel", "hours", "[I", true)
  | 13 => ("HackHouseModel", "wish", "[I", true)
  | 14 => ("HackHouseModel", "sheet", "[I", true)
  | 15 => ("HackHouseModel", "points", "[I", true)
  | 16 => ("HackHouseModel", "ends", "[I", true)
  | 17 => ("HackHouseModel", "shots", "[I", true)
  | 18 => ("HackHouseModel", "lastStone", "[I", true)
  | 19 => ("HackHouseModel", "drew", "[I", true)
  | 20 => ("HackHouseModel", "lies", "[I", true)
  | 21 => ("HackHouseModel", "won", "[I", true)
  | 22 => ("HackHouseModel", "draws", "[I", true)
  | 23 => ("HackHouseModel", "lasts", "[I", true)
  | 24 => ("HackHouseModel", "w", "[I", true)
  | 25 => ("HackHouseModel", "p", "[I", true)
  | 26 => ("HackHouseModel", "order", "[I", true)
  | _ => ("HackHouseModel", "seen", "[Z", true)
def tyX6 : Nat → FieldType := fun k => match k with
  | 0 => .int
  | 1 => .int
  | 2 => .int
  | 3 => .int
  | 4 => .int
  | 5 => .array .int
  | 6 => .array .boolean
  | 7 => .array .int
  | 8 => .int
  | 9 => .array .int
  | 10 => .array .int
  | 11 => .array .int
  | 12 => .array .int
  | 13 => .array .int
  | 14 => .array .int
  | 15 => .array .int
  | 16 => .array .int
  | 17 => .array .int
  | 18 => .array .int
  | 19 => .array .int
  | 20 => .array .int
  | 21 => .array .int
  | 22 => .array .int
  | 23 => .array .int
  | 24 => .array .int
  | 25 => .array .int
  | 26 => .array .int
  | _ => .array .boolean
abbrev wsX60 : List Cond := u_ws RX6 TX6 28
theorem nmX6 : ∀ a, a < 28 → ∀ b, b < 28 → a ≠ b → (TX6 a).2.1 ≠ (TX6 b).2.1 := by decide +kernel
theorem tyX6_ok : ∀ k, k < 28 → parseFieldDescriptor (TX6 k).2.2.1 = some (tyX6 k) := by decide +kernel
abbrev cX6_init : ByteArray := prog_8_method_1_code
def yX6_init : MethodName := ⟨RX6, "<init>", "()V"⟩
abbrev cX6_thrown : ByteArray := prog_8_method_2_code
def yX6_thrown : MethodName := ⟨RX6, "thrown", "()I"⟩
abbrev cX6_asked : ByteArray := prog_8_method_3_code
def yX6_asked : MethodName := ⟨RX6, "asked", "(Z)Z"⟩
abbrev cX6_asked_ : ByteArray := prog_8_method_4_code
def yX6_asked_ : MethodName := ⟨RX6, "asked", "(ZZ)Z"⟩
abbrev cX6_asked__ : ByteArray := prog_8_method_5_code
def yX6_asked__ : MethodName := ⟨RX6, "asked", "(ZZZ)Z"⟩
abbrev cX6_in : ByteArray := prog_8_method_6_code
def yX6_in : MethodName := ⟨RX6, "in", "(III)Z"⟩
abbrev cX6_isGame : ByteArray := prog_8_method_7_code
def yX6_isGame : MethodName := ⟨RX6, "isGame", "(I)Z"⟩
abbrev cX6_isTeam : ByteArray := prog_8_method_8_code
def yX6_isTeam : MethodName := ⟨RX6, "isTeam", "(I)Z"⟩
abbrev cX6_isSheet : ByteArray := prog_8_method_9_code
def yX6_isSheet : MethodName := ⟨RX6, "isSheet", "(I)Z"⟩
abbrev cX6_plan : ByteArray := prog_8_method_10_code
def yX6_plan : MethodName := ⟨RX6, "plan", "(IIII)I"⟩
abbrev cX6_crew : ByteArray := prog_8_method_11_code
def yX6_crew : MethodName := ⟨RX6, "crew", "(I)I"⟩
abbrev cX6_takesUp : ByteArray := prog_8_method_12_code
def yX6_takesUp : MethodName := ⟨RX6, "takesUp", "(I)V"⟩
abbrev cX6_stoneAt : ByteArray := prog_8_method_13_code
def yX6_stoneAt : MethodName := ⟨RX6, "stoneAt", "(II)I"⟩
abbrev cX6_goes : ByteArray := prog_8_method_14_code
def yX6_goes : MethodName := ⟨RX6, "goes", "(IIIIII)V"⟩
abbrev cX6_distance : ByteArray := prog_8_method_15_code
def yX6_distance : MethodName := ⟨RX6, "distance", "(I)I"⟩
abbrev cX6_scored : ByteArray := prog_8_method_16_code
def yX6_scored : MethodName := ⟨RX6, "scored", "()I"⟩
abbrev cX6_turnOf : ByteArray := prog_8_method_17_code
def yX6_turnOf : MethodName := ⟨RX6, "turnOf", "(I)I"⟩
abbrev cX6_slotOf : ByteArray := prog_8_method_18_code
def yX6_slotOf : MethodName := ⟨RX6, "slotOf", "(I)I"⟩
abbrev cX6_isShot : ByteArray := prog_8_method_19_code
def yX6_isShot : MethodName := ⟨RX6, "isShot", "(IIIII)Z"⟩
abbrev cX6_throwsAt : ByteArray := prog_8_method_20_code
def yX6_throwsAt : MethodName := ⟨RX6, "throwsAt", "(I)Z"⟩
abbrev cX6_ends : ByteArray := prog_8_method_21_code
def yX6_ends : MethodName := ⟨RX6, "ends", "(I)V"⟩
abbrev cX6_shoot : ByteArray := prog_8_method_22_code
def yX6_shoot : MethodName := ⟨RX6, "shoot", "(IIIIII)I"⟩
abbrev cX6_tries : ByteArray := prog_8_method_23_code
def yX6_tries : MethodName := ⟨RX6, "tries", "(IIIIII)I"⟩
abbrev cX6_isFree : ByteArray := prog_8_method_24_code
def yX6_isFree : MethodName := ⟨RX6, "isFree", "(I)Z"⟩
abbrev cX6_wanted : ByteArray := prog_8_method_25_code
def yX6_wanted : MethodName := ⟨RX6, "wanted", "()I"⟩
abbrev cX6_begins : ByteArray := prog_8_method_26_code
def yX6_begins : MethodName := ⟨RX6, "begins", "()V"⟩
abbrev cX6_passes : ByteArray := prog_8_method_27_code
def yX6_passes : MethodName := ⟨RX6, "passes", "()V"⟩
abbrev cX6_pass : ByteArray := prog_8_method_28_code
def yX6_pass : MethodName := ⟨RX6, "pass", "(I)I"⟩
abbrev cX6_hour : ByteArray := prog_8_method_29_code
def yX6_hour : MethodName := ⟨RX6, "hour", "()I"⟩
abbrev cX6_ofSheet : ByteArray := prog_8_method_30_code
def yX6_ofSheet : MethodName := ⟨RX6, "ofSheet", "(II)I"⟩
abbrev cX6_wear : ByteArray := prog_8_method_31_code
def yX6_wear : MethodName := ⟨RX6, "wear", "(III)I"⟩
abbrev cX6_ofGame : ByteArray := prog_8_method_32_code
def yX6_ofGame : MethodName := ⟨RX6, "ofGame", "(II)I"⟩
abbrev cX6_stone : ByteArray := prog_8_method_33_code
def yX6_stone : MethodName := ⟨RX6, "stone", "(III)I"⟩
abbrev cX6_scoreOf : ByteArray := prog_8_method_34_code
def yX6_scoreOf : MethodName := ⟨RX6, "scoreOf", "(I)I"⟩
abbrev cX6_wouldScore : ByteArray := prog_8_method_35_code
def yX6_wouldScore : MethodName := ⟨RX6, "wouldScore", "(I)I"⟩
abbrev cX6_wouldScoreAnew : ByteArray := prog_8_method_36_code
def yX6_wouldScoreAnew : MethodName := ⟨RX6, "wouldScoreAnew", "(I)I"⟩
abbrev cX6_worth : ByteArray := prog_8_method_37_code
def yX6_worth : MethodName := ⟨RX6, "worth", "(IIII)I"⟩
abbrev cX6_advice : ByteArray := prog_8_method_38_code
def yX6_advice : MethodName := ⟨RX6, "advice", "(I)I"⟩
abbrev cX6_average : ByteArray := prog_8_method_39_code
def yX6_average : MethodName := ⟨RX6, "average", "(I)I"⟩
abbrev cX6_standing : ByteArray := prog_8_method_40_code
def yX6_standing : MethodName := ⟨RX6, "standing", "(I)I"⟩
abbrev cX6_ofTeam : ByteArray := prog_8_method_41_code
def yX6_ofTeam : MethodName := ⟨RX6, "ofTeam", "(II)I"⟩
def RJ9 : String := "java/lang/Math"
abbrev cJ9_abs_0f7a4 : ByteArray := prog_13_method_59_code
def yJ9_abs_0f7a4 : MethodName := ⟨RJ9, "abs", "(I)I"⟩
abbrev cJ9_min_7cf53 : ByteArray := prog_13_method_69_code
def yJ9_min_7cf53 : MethodName := ⟨RJ9, "min", "(II)I"⟩
def RJ0 : String := "java/lang/String"
abbrev RL : String := "HackHouseLaw"
abbrev cL_plan : ByteArray := method_3_code
def yL_plan : MethodName := ⟨RL, "plan", "(LHackHouse;IIII[J)I"⟩
abbrev cL_crew : ByteArray := method_4_code
def yL_crew : MethodName := ⟨RL, "crew", "(LHackHouse;I[J)I"⟩
abbrev cL_shoot : ByteArray := method_5_code
def yL_shoot : MethodName := ⟨RL, "shoot", "(LHackHouse;IIIIII[J)I"⟩
abbrev cL_pass : ByteArray := method_6_code
def yL_pass : MethodName := ⟨RL, "pass", "(LHackHouse;I[J)I"⟩
abbrev cL_ofSheet : ByteArray := method_7_code
def yL_ofSheet : MethodName := ⟨RL, "ofSheet", "(LHackHouse;II[J)I"⟩
abbrev cL_wear : ByteArray := method_8_code
def yL_wear : MethodName := ⟨RL, "wear", "(LHackHouse;III[J)I"⟩
abbrev cL_ofGame : ByteArray := method_9_code
def yL_ofGame : MethodName := ⟨RL, "ofGame", "(LHackHouse;II[J)I"⟩
abbrev cL_stone : ByteArray := method_10_code
def yL_stone : MethodName := ⟨RL, "stone", "(LHackHouse;III[J)I"⟩
abbrev cL_wouldScore : ByteArray := method_11_code
def yL_wouldScore : MethodName := ⟨RL, "wouldScore", "(LHackHouse;I[J)I"⟩
abbrev cL_wouldScoreAnew : ByteArray := method_12_code
def yL_wouldScoreAnew : MethodName := ⟨RL, "wouldScoreAnew", "(LHackHouse;I[J)I"⟩
abbrev cL_tries : ByteArray := method_13_code
def yL_tries : MethodName := ⟨RL, "tries", "(LHackHouse;IIIIII[J)I"⟩
abbrev cL_advice : ByteArray := method_14_code
def yL_advice : MethodName := ⟨RL, "advice", "(LHackHouse;I[J)I"⟩
abbrev cL_standing : ByteArray := method_15_code
def yL_standing : MethodName := ⟨RL, "standing", "(LHackHouse;I[J)I"⟩
abbrev cL_ofTeam : ByteArray := method_16_code
def yL_ofTeam : MethodName := ⟨RL, "ofTeam", "(LHackHouse;II[J)I"⟩
abbrev cL_law : ByteArray := code
def yL_law : MethodName := ⟨RL, "law", "([I)Z"⟩
abbrev vwCl : List vw_C := [(RX0, TX0, 13), (RX1, TX1, 3), (RX2, TX2, 10), (RX3, TX3, 1), (RX4, TX4, 3), (RX5, TX5, 9), (RX6, TX6, 28)]
end
section
/-! THE TABLES' WORDS by their places: jm_W0 are those that keep, the same for all methods -/
def jm_W0 : List Cond := lw_tbl.filter goodWord
theorem jm_in (i : Nat) {c : Cond} (h : lw_tbl[i]? = some c) (hg : goodWord c = true) : c ∈ jm_W0 := List.mem_filter.mpr ⟨List.mem_of_getElem? h, hg⟩
theorem jm_W0_lw : ∀ z ∈ jm_W0, z ∈ lw_tbl := fun z h => (List.mem_filter.mp h).1
theorem jm_W0_good : ∀ z ∈ jm_W0, (z.onTables && z.keeps) = true ∨ ∃ ty, z = .arrayClass ty := fun z h => good_of_word (List.mem_filter.mp h).2
def jm_nm (y : MethodName) (n : Nat) : Prop := y.cls ≠ "java/lang/invoke/MethodHandle" ∧ y.cls ≠ "java/lang/invoke/VarHandle" ∧ (parseMethodDescriptor y.desc).map (fun d => d.parameters.length) = some n
def jm_okV (C0 : String) (y : MethodName) (bytes : ByteArray) (maxL : Nat) (ret : Option FieldType) (n : Nat) : Prop := Cond.instanceMethod y ∈ jm_W0 ∧ Cond.selects C0 y y ∈ jm_W0 ∧ Cond.initialized C0 ∈ jm_W0 ∧ Cond.code y bytes maxL ret ∈ jm_W0 ∧ y.cls = C0 ∧ jm_nm y n ∧ plainName y.cls = true
def jm_okS (C0 : String) (y : MethodName) (bytes : ByteArray) (maxL : Nat) (ret : Option FieldType) (n : Nat) : Prop := Cond.static y ∈ jm_W0 ∧ Cond.initialized C0 ∈ jm_W0 ∧ Cond.code y bytes maxL ret ∈ jm_W0 ∧ y.cls = C0 ∧ jm_nm y n ∧ plainName y.cls = true
def jm_okI (C0 : String) (y : MethodName) (bytes : ByteArray) (maxL : Nat) (n : Nat) : Prop := Cond.instanceMethod y ∈ jm_W0 ∧ Cond.initialized C0 ∈ jm_W0 ∧ Cond.code y bytes maxL none ∈ jm_W0 ∧ y.cls = C0 ∧ y.name = "<init>" ∧ jm_nm y n ∧ plainName y.cls = true
theorem jm_gc {y : MethodName} {bytes : ByteArray} {maxL : Nat} {ret : Option FieldType} (h : Cond.code y bytes maxL ret ∈ jm_W0) : GoodIn jm_W0 (Cond.code y bytes maxL ret :: jm_W0) := fun z hz => (List.mem_cons.mp hz).elim (fun q => by rw [q]; exact ⟨h, jm_W0_good _ h⟩) (fun q => ⟨q, jm_W0_good _ q⟩)
theorem jm_gl {a : List Cond} {ws : List Cond} (ha : ∀ z ∈ a, z ∈ jm_W0) (h : GoodIn jm_W0 ws) : GoodIn jm_W0 (a ++ ws) := fun z hz => (List.mem_append.mp hz).elim (fun q => ⟨ha z q, jm_W0_good _ (ha z q)⟩) (h z)
theorem jm_gV {C0 own : String} {index : Nat} {y : MethodName} {bytes : ByteArray} {maxL n : Nat} {ret : Option FieldType} (hl : Cond.methodLink own index y ∈ jm_W0) (h : jm_okV C0 y bytes maxL ret n) : GoodIn jm_W0 (wsV own index C0 y (Cond.code y bytes maxL ret :: jm_W0)) := jm_gl (List.forall_mem_cons.mpr ⟨hl, List.forall_mem_cons.mpr ⟨h.1, List.forall_mem_cons.mpr ⟨h.2.1, List.forall_mem_cons.mpr ⟨h.2.2.1, fun _ q => absurd q List.not_mem_nil⟩⟩⟩⟩) (jm_gc h.2.2.2.1)
theorem jm_gS {own : String} {index : Nat} {y : MethodName} {bytes : ByteArray} {maxL n : Nat} {ret : Option FieldType} (hl : Cond.methodLink own index y ∈ jm_W0) (h : jm_okS own y bytes maxL ret n) : GoodIn jm_W0 (wsS own index y (Cond.code y bytes maxL ret :: jm_W0)) := jm_gl (List.forall_mem_cons.mpr ⟨hl, List.forall_mem_cons.mpr ⟨h.1, List.forall_mem_cons.mpr ⟨h.2.1, fun _ q => absurd q List.not_mem_nil⟩⟩⟩) (jm_gc h.2.2.1)
set_option maxRecDepth 100000 in
theorem jw_f_RX0_12 : Cond.fieldLink RX0 12 "HackHouse$Game" "stones" "LHackHouse$Stones;" ∈ jm_W0 := jm_in 309 rfl rfl
set_option maxRecDepth 100000 in
theorem jw_f_RX0_18 : Cond.fieldLink RX0 18 "HackHouse$Game" "state" "I" ∈ jm_W0 := jm_in 313 rfl rfl
set_option maxRecDepth 100000 in
theorem jw_f_RX0_22 : Cond.fieldLink RX0 22 "HackHouse$Game" "sheet" "I" ∈ jm_W0 := jm_in 315 rfl rfl
set_option maxRecDepth 100000 in
theorem jw_f_RX0_25 : Cond.fieldLink RX0 25 "HackHouse$Game" "lastSide" "I" ∈ jm_W0 := jm_in 326 rfl rfl
set_option maxRecDepth 100000 in
theorem jw_f_RX0_28 : Cond.fieldLink RX0 28 "HackHouse$Game" "first" "I" ∈ jm_W0 := jm_in 303 rfl rfl
set_option maxRecDepth 100000 in
theorem jw_f_RX0_31 : Cond.fieldLink RX0 31 "HackHouse$Game" "second" "I" ∈ jm_W0 := jm_in 305 rfl rfl
set_option maxRecDepth 100000 in
theorem jw_f_RX0_34 : Cond.fieldLink RX0 34 "HackHouse$Game" "begin" "I" ∈ jm_W0 := jm_in 311 rfl rfl
set_option maxRecDepth 100000 in
theorem jw_f_RX0_37 : Cond.fieldLink RX0 37 "HackHouse$Game" "wish" "I" ∈ jm_W0 := jm_in 307 rfl rfl
set_option maxRecDepth 100000 in
theorem jw_f_RX0_40 : Cond.fieldLink RX0 40 "HackHouse$Game" "thrown" "I" ∈ jm_W0 := jm_in 324 rfl rfl
set_option maxRecDepth 100000 in
theorem jw_f_RX0_47 : Cond.fieldLink RX0 47 "HackHouse$Game" "firstDraw" "I" ∈ jm_W0 := jm_in 317 rfl rfl
set_option maxRecDepth 100000 in
theorem jw_f_RX0_53 : Cond.fieldLink RX0 53 "HackHouse$Game" "firstPoints" "I" ∈ jm_W0 := jm_in 318 rfl rfl
set_option maxRecDepth 100000 in
theorem jw_f_RX0_56 : Cond.fieldLink RX0 56 "HackHouse$Game" "secondPoints" "I" ∈ jm_W0 := jm_in 320 rfl rfl
set_option maxRecDepth 100000 in
theorem jw_f_RX0_62 : Cond.fieldLink RX0 62 "HackHouse$Game" "endsOver" "I" ∈ jm_W0 := jm_in 322 rfl rfl
set_option maxRecDepth 100000 in
theorem jw_f_RX1_15 : Cond.fieldLink RX1 15 "HackHouse$Sheet" "made" "Z" ∈ jm_W0 := jm_in 66 rfl rfl
set_option maxRecDepth 100000 in
theorem jw_f_RX1_19 : Cond.fieldLink RX1 19 "HackHouse$Sheet" "game" "I" ∈ jm_W0 := jm_in 68 rfl rfl
set_option maxRecDepth 100000 in
theorem jw_f_RX1_9 : Cond.fieldLink RX1 9 "HackHouse$Sheet" "worn" "[I" ∈ jm_W0 := jm_in 65 rfl rfl
set_option maxRecDepth 100000 in
theorem jw_f_RX2_12 : Cond.fieldLink RX2 12 "HackHouse$Slide" "stones" "LHackHouse$Stones;" ∈ jm_W0 := jm_in 119 rfl rfl
set_option maxRecDepth 100000 in
theorem jw_f_RX2_18 : Cond.fieldLink RX2 18 "HackHouse$Slide" "hit" "I" ∈ jm_W0 := jm_in 129 rfl rfl
set_option maxRecDepth 100000 in
theorem jw_f_RX2_22 : Cond.fieldLink RX2 22 "HackHouse$Slide" "lane" "I" ∈ jm_W0 := jm_in 122 rfl rfl
set_option maxRecDepth 100000 in
theorem jw_f_RX2_25 : Cond.fieldLink RX2 25 "HackHouse$Slide" "y" "I" ∈ jm_W0 := jm_in 123 rfl rfl
set_option maxRecDepth 100000 in
theorem jw_f_RX2_28 : Cond.fieldLink RX2 28 "HackHouse$Slide" "energy" "I" ∈ jm_W0 := jm_in 124 rfl rfl
set_option maxRecDepth 100000 in
theorem jw_f_RX2_31 : Cond.fieldLink RX2 31 "HackHouse$Slide" "turn" "I" ∈ jm_W0 := jm_in 125 rfl rfl
set_option maxRecDepth 100000 in
theorem jw_f_RX2_34 : Cond.fieldLink RX2 34 "HackHouse$Slide" "sweptFrom" "I" ∈ jm_W0 := jm_in 126 rfl rfl
set_option maxRecDepth 100000 in
theorem jw_f_RX2_37 : Cond.fieldLink RX2 37 "HackHouse$Slide" "sweptTo" "I" ∈ jm_W0 := jm_in 127 rfl rfl
set_option maxRecDepth 100000 in
theorem jw_f_RX2_44 : Cond.fieldLink RX2 44 "HackHouse$Slide" "wears" "Z" ∈ jm_W0 := jm_in 121 rfl rfl
set_option maxRecDepth 100000 in
theorem jw_f_RX2_64 : Cond.fieldLink RX2 64 "HackHouse$Slide" "steps" "I" ∈ jm_W0 := jm_in 128 rfl rfl
set_option maxRecDepth 100000 in
theorem jw_f_RX3_9 : Cond.fieldLink RX3 9 "HackHouse$Stones" "places" "[I" ∈ jm_W0 := jm_in 115 rfl rfl
set_option maxRecDepth 100000 in
theorem jw_f_RX4_15 : Cond.fieldLink RX4 15 "HackHouse$Team" "lastStones" "I" ∈ jm_W0 := jm_in 88 rfl rfl
set_option maxRecDepth 100000 in
theorem jw_f_RX4_9 : Cond.fieldLink RX4 9 "HackHouse$Team" "drew" "I" ∈ jm_W0 := jm_in 86 rfl rfl
set_option maxRecDepth 100000 in
theorem jw_f_RX5_102 : Cond.fieldLink RX5 102 "HackHouse$Game" "stones" "LHackHouse$Stones;" ∈ jm_W0 := jm_in 310 rfl rfl
set_option maxRecDepth 100000 in
theorem jw_f_RX5_11 : Cond.fieldLink RX5 11 "HackHouse" "sheets" "[LHackHouse$Sheet;" ∈ jm_W0 := jm_in 151 rfl rfl
set_option maxRecDepth 100000 in
theorem jw_f_RX5_114 : Cond.fieldLink RX5 114 "HackHouse$Game" "state" "I" ∈ jm_W0 := jm_in 314 rfl rfl
set_option maxRecDepth 100000 in
theorem jw_f_RX5_125 : Cond.fieldLink RX5 125 "HackHouse$Slide" "stones" "LHackHouse$Stones;" ∈ jm_W0 := jm_in 120 rfl rfl
set_option maxRecDepth 100000 in
theorem jw_f_RX5_144 : Cond.fieldLink RX5 144 "HackHouse$Sheet" "made" "Z" ∈ jm_W0 := jm_in 67 rfl rfl
set_option maxRecDepth 100000 in
theorem jw_f_RX5_148 : Cond.fieldLink RX5 148 "HackHouse$Sheet" "game" "I" ∈ jm_W0 := jm_in 69 rfl rfl
set_option maxRecDepth 100000 in
theorem jw_f_RX5_154 : Cond.fieldLink RX5 154 "HackHouse" "crewLeft" "I" ∈ jm_W0 := jm_in 159 rfl rfl
set_option maxRecDepth 100000 in
theorem jw_f_RX5_169 : Cond.fieldLink RX5 169 "HackHouse$Game" "begin" "I" ∈ jm_W0 := jm_in 312 rfl rfl
set_option maxRecDepth 100000 in
theorem jw_f_RX5_172 : Cond.fieldLink RX5 172 "HackHouse$Game" "firstPoints" "I" ∈ jm_W0 := jm_in 319 rfl rfl
set_option maxRecDepth 100000 in
theorem jw_f_RX5_175 : Cond.fieldLink RX5 175 "HackHouse$Game" "secondPoints" "I" ∈ jm_W0 := jm_in 321 rfl rfl
set_option maxRecDepth 100000 in
theorem jw_f_RX5_178 : Cond.fieldLink RX5 178 "HackHouse$Game" "endsOver" "I" ∈ jm_W0 := jm_in 323 rfl rfl
set_option maxRecDepth 100000 in
theorem jw_f_RX5_18 : Cond.fieldLink RX5 18 "HackHouse" "teams" "[LHackHouse$Team;" ∈ jm_W0 := jm_in 152 rfl rfl
set_option maxRecDepth 100000 in
theorem jw_f_RX5_184 : Cond.fieldLink RX5 184 "HackHouse$Game" "lastSide" "I" ∈ jm_W0 := jm_in 327 rfl rfl
set_option maxRecDepth 100000 in
theorem jw_f_RX5_213 : Cond.fieldLink RX5 213 "HackHouse$Team" "won" "I" ∈ jm_W0 := jm_in 85 rfl rfl
set_option maxRecDepth 100000 in
theorem jw_f_RX5_216 : Cond.fieldLink RX5 216 "HackHouse$Team" "drew" "I" ∈ jm_W0 := jm_in 87 rfl rfl
set_option maxRecDepth 100000 in
theorem jw_f_RX5_219 : Cond.fieldLink RX5 219 "HackHouse$Team" "lastStones" "I" ∈ jm_W0 := jm_in 89 rfl rfl
set_option maxRecDepth 100000 in
theorem jw_f_RX5_236 : Cond.fieldLink RX5 236 "HackHouse$Game" "first" "I" ∈ jm_W0 := jm_in 304 rfl rfl
set_option maxRecDepth 100000 in
theorem jw_f_RX5_239 : Cond.fieldLink RX5 239 "HackHouse$Game" "second" "I" ∈ jm_W0 := jm_in 306 rfl rfl
set_option maxRecDepth 100000 in
theorem jw_f_RX5_246 : Cond.fieldLink RX5 246 "HackHouse$Game" "thrown" "I" ∈ jm_W0 := jm_in 325 rfl rfl
set_option maxRecDepth 100000 in
theorem jw_f_RX5_25 : Cond.fieldLink RX5 25 "HackHouse" "games" "[LHackHouse$Game;" ∈ jm_W0 := jm_in 153 rfl rfl
set_option maxRecDepth 100000 in
theorem jw_f_RX5_264 : Cond.fieldLink RX5 264 "HackHouse$Game" "wish" "I" ∈ jm_W0 := jm_in 308 rfl rfl
set_option maxRecDepth 100000 in
theorem jw_f_RX5_32 : Cond.fieldLink RX5 32 "HackHouse" "slide" "LHackHouse$Slide;" ∈ jm_W0 := jm_in 154 rfl rfl
set_option maxRecDepth 100000 in
theorem jw_f_RX5_36 : Cond.fieldLink RX5 36 "HackHouse" "crewHours" "I" ∈ jm_W0 := jm_in 157 rfl rfl
set_option maxRecDepth 100000 in
theorem jw_f_RX5_40 : Cond.fieldLink RX5 40 "HackHouse" "crewSheet" "I" ∈ jm_W0 := jm_in 158 rfl rfl
set_option maxRecDepth 100000 in
theorem jw_f_RX5_54 : Cond.fieldLink RX5 54 "HackHouse" "now" "I" ∈ jm_W0 := jm_in 156 rfl rfl
set_option maxRecDepth 100000 in
theorem jw_f_RX5_62 : Cond.fieldLink RX5 62 "HackHouse" "gamesPlanned" "I" ∈ jm_W0 := jm_in 155 rfl rfl
set_option maxRecDepth 100000 in
theorem jw_f_RX5_95 : Cond.fieldLink RX5 95 "HackHouse$Game" "sheet" "I" ∈ jm_W0 := jm_in 316 rfl rfl
set_option maxRecDepth 100000 in
theorem jw_f_RX6_101 : Cond.fieldLink RX6 101 "HackHouseModel" "now" "I" ∈ jm_W0 := jm_in 662 rfl rfl
set_option maxRecDepth 100000 in
theorem jw_f_RX6_13 : Cond.fieldLink RX6 13 "HackHouseModel" "crewAt" "I" ∈ jm_W0 := jm_in 664 rfl rfl
set_option maxRecDepth 100000 in
theorem jw_f_RX6_152 : Cond.fieldLink RX6 152 "HackHouseModel" "crewLeft" "I" ∈ jm_W0 := jm_in 665 rfl rfl
set_option maxRecDepth 100000 in
theorem jw_f_RX6_16 : Cond.fieldLink RX6 16 "HackHouseModel" "wear" "[I" ∈ jm_W0 := jm_in 666 rfl rfl
set_option maxRecDepth 100000 in
theorem jw_f_RX6_20 : Cond.fieldLink RX6 20 "HackHouseModel" "worn" "[Z" ∈ jm_W0 := jm_in 667 rfl rfl
set_option maxRecDepth 100000 in
theorem jw_f_RX6_24 : Cond.fieldLink RX6 24 "HackHouseModel" "gameOn" "[I" ∈ jm_W0 := jm_in 668 rfl rfl
set_option maxRecDepth 100000 in
theorem jw_f_RX6_27 : Cond.fieldLink RX6 27 "HackHouseModel" "state" "[I" ∈ jm_W0 := jm_in 670 rfl rfl
set_option maxRecDepth 100000 in
theorem jw_f_RX6_30 : Cond.fieldLink RX6 30 "HackHouseModel" "first" "[I" ∈ jm_W0 := jm_in 671 rfl rfl
set_option maxRecDepth 100000 in
theorem jw_f_RX6_33 : Cond.fieldLink RX6 33 "HackHouseModel" "second" "[I" ∈ jm_W0 := jm_in 672 rfl rfl
set_option maxRecDepth 100000 in
theorem jw_f_RX6_36 : Cond.fieldLink RX6 36 "HackHouseModel" "hours" "[I" ∈ jm_W0 := jm_in 673 rfl rfl
set_option maxRecDepth 100000 in
theorem jw_f_RX6_39 : Cond.fieldLink RX6 39 "HackHouseModel" "wish" "[I" ∈ jm_W0 := jm_in 674 rfl rfl
set_option maxRecDepth 100000 in
theorem jw_f_RX6_42 : Cond.fieldLink RX6 42 "HackHouseModel" "sheet" "[I" ∈ jm_W0 := jm_in 675 rfl rfl
set_option maxRecDepth 100000 in
theorem jw_f_RX6_45 : Cond.fieldLink RX6 45 "HackHouseModel" "points" "[I" ∈ jm_W0 := jm_in 676 rfl rfl
set_option maxRecDepth 100000 in
theorem jw_f_RX6_48 : Cond.fieldLink RX6 48 "HackHouseModel" "ends" "[I" ∈ jm_W0 := jm_in 677 rfl rfl
set_option maxRecDepth 100000 in
theorem jw_f_RX6_51 : Cond.fieldLink RX6 51 "HackHouseModel" "shots" "[I" ∈ jm_W0 := jm_in 678 rfl rfl
set_option maxRecDepth 100000 in
theorem jw_f_RX6_54 : Cond.fieldLink RX6 54 "HackHouseModel" "lastStone" "[I" ∈ jm_W0 := jm_in 679 rfl rfl
set_option maxRecDepth 100000 in
theorem jw_f_RX6_57 : Cond.fieldLink RX6 57 "HackHouseModel" "drew" "[I" ∈ jm_W0 := jm_in 680 rfl rfl
set_option maxRecDepth 100000 in
theorem jw_f_RX6_60 : Cond.fieldLink RX6 60 "HackHouseModel" "lies" "[I" ∈ jm_W0 := jm_in 681 rfl rfl
set_option maxRecDepth 100000 in
theorem jw_f_RX6_63 : Cond.fieldLink RX6 63 "HackHouseModel" "won" "[I" ∈ jm_W0 := jm_in 682 rfl rfl
set_option maxRecDepth 100000 in
theorem jw_f_RX6_66 : Cond.fieldLink RX6 66 "HackHouseModel" "draws" "[I" ∈ jm_W0 := jm_in 683 rfl rfl
set_option maxRecDepth 100000 in
theorem jw_f_RX6_69 : Cond.fieldLink RX6 69 "HackHouseModel" "lasts" "[I" ∈ jm_W0 := jm_in 684 rfl rfl
set_option maxRecDepth 100000 in
theorem jw_f_RX6_7 : Cond.fieldLink RX6 7 "HackHouseModel" "crewHours" "I" ∈ jm_W0 := jm_in 663 rfl rfl
set_option maxRecDepth 100000 in
theorem jw_f_RX6_72 : Cond.fieldLink RX6 72 "HackHouseModel" "w" "[I" ∈ jm_W0 := jm_in 685 rfl rfl
set_option maxRecDepth 100000 in
theorem jw_f_RX6_75 : Cond.fieldLink RX6 75 "HackHouseModel" "p" "[I" ∈ jm_W0 := jm_in 686 rfl rfl
set_option maxRecDepth 100000 in
theorem jw_f_RX6_78 : Cond.fieldLink RX6 78 "HackHouseModel" "order" "[I" ∈ jm_W0 := jm_in 687 rfl rfl
set_option maxRecDepth 100000 in
theorem jw_f_RX6_81 : Cond.fieldLink RX6 81 "HackHouseModel" "seen" "[Z" ∈ jm_W0 := jm_in 688 rfl rfl
set_option maxRecDepth 100000 in
theorem jw_f_RX6_84 : Cond.fieldLink RX6 84 "HackHouseModel" "thrown" "I" ∈ jm_W0 := jm_in 661 rfl rfl
set_option maxRecDepth 100000 in
theorem jw_f_RX6_87 : Cond.fieldLink RX6 87 "HackHouseModel" "games" "I" ∈ jm_W0 := jm_in 669 rfl rfl
set_option maxRecDepth 100000 in
theorem jw_m_RX0_11 : Cond.methodLink RX0 11 yX3_init ∈ jm_W0 := jm_in 302 rfl rfl
set_option maxRecDepth 100000 in
theorem jw_m_RX0_3 : Cond.methodLink RX0 3 objectInit ∈ jm_W0 := jm_in 300 rfl rfl
set_option maxRecDepth 100000 in
theorem jw_m_RX0_43 : Cond.methodLink RX0 43 yX0_nextSide ∈ jm_W0 := jm_in 397 rfl rfl
set_option maxRecDepth 100000 in
theorem jw_m_RX0_50 : Cond.methodLink RX0 50 yX3_score ∈ jm_W0 := jm_in 491 rfl rfl
set_option maxRecDepth 100000 in
theorem jw_m_RX0_59 : Cond.methodLink RX0 59 yX3_takeAway ∈ jm_W0 := jm_in 505 rfl rfl
set_option maxRecDepth 100000 in
theorem jw_m_RX1_3 : Cond.methodLink RX1 3 objectInit ∈ jm_W0 := jm_in 64 rfl rfl
set_option maxRecDepth 100000 in
theorem jw_m_RX2_11 : Cond.methodLink RX2 11 yX3_init ∈ jm_W0 := jm_in 107 rfl rfl
set_option maxRecDepth 100000 in
theorem jw_m_RX2_3 : Cond.methodLink RX2 3 objectInit ∈ jm_W0 := jm_in 104 rfl rfl
set_option maxRecDepth 100000 in
theorem jw_m_RX2_40 : Cond.methodLink RX2 40 yX3_copyFrom ∈ jm_W0 := jm_in 405 rfl rfl
set_option maxRecDepth 100000 in
theorem jw_m_RX2_48 : Cond.methodLink RX2 48 yX2_glide ∈ jm_W0 := jm_in 413 rfl rfl
set_option maxRecDepth 100000 in
theorem jw_m_RX2_52 : Cond.methodLink RX2 52 yX3_put ∈ jm_W0 := jm_in 450 rfl rfl
set_option maxRecDepth 100000 in
theorem jw_m_RX2_56 : Cond.methodLink RX2 56 yX3_placeOf ∈ jm_W0 := jm_in 454 rfl rfl
set_option maxRecDepth 100000 in
theorem jw_m_RX2_60 : Cond.methodLink RX2 60 yX2_aimPushed ∈ jm_W0 := jm_in 455 rfl rfl
set_option maxRecDepth 100000 in
theorem jw_m_RX2_67 : Cond.methodLink RX2 67 yX2_stepsForward ∈ jm_W0 := jm_in 417 rfl rfl
set_option maxRecDepth 100000 in
theorem jw_m_RX2_71 : Cond.methodLink RX2 71 yX2_restingPlace ∈ jm_W0 := jm_in 438 rfl rfl
set_option maxRecDepth 100000 in
theorem jw_m_RX2_75 : Cond.methodLink RX2 75 yX2_mustMoveAside ∈ jm_W0 := jm_in 442 rfl rfl
set_option maxRecDepth 100000 in
theorem jw_m_RX2_83 : Cond.methodLink RX2 83 yX2_movesAside ∈ jm_W0 := jm_in 446 rfl rfl
set_option maxRecDepth 100000 in
theorem jw_m_RX2_86 : Cond.methodLink RX2 86 yX1_wornAt ∈ jm_W0 := jm_in 421 rfl rfl
set_option maxRecDepth 100000 in
theorem jw_m_RX2_92 : Cond.methodLink RX2 92 yX2_isSwept ∈ jm_W0 := jm_in 425 rfl rfl
set_option maxRecDepth 100000 in
theorem jw_m_RX2_96 : Cond.methodLink RX2 96 yX3_lyingAt ∈ jm_W0 := jm_in 430 rfl rfl
set_option maxRecDepth 100000 in
theorem jw_m_RX2_99 : Cond.methodLink RX2 99 yX1_wearDown ∈ jm_W0 := jm_in 434 rfl rfl
set_option maxRecDepth 100000 in
theorem jw_m_RX3_15 : Cond.methodLink RX3 15 yX3_takeAway ∈ jm_W0 := jm_in 111 rfl rfl
set_option maxRecDepth 100000 in
theorem jw_m_RX3_18 : Cond.methodLink RX3 18 yX3_placeOf ∈ jm_W0 := jm_in 409 rfl rfl
set_option maxRecDepth 100000 in
theorem jw_m_RX3_22 : Cond.methodLink RX3 22 yX3_nearest ∈ jm_W0 := jm_in 495 rfl rfl
set_option maxRecDepth 100000 in
theorem jw_m_RX3_25 : Cond.methodLink RX3 25 yX3_countNearer ∈ jm_W0 := jm_in 501 rfl rfl
set_option maxRecDepth 100000 in
theorem jw_m_RX3_3 : Cond.methodLink RX3 3 objectInit ∈ jm_W0 := jm_in 110 rfl rfl
set_option maxRecDepth 100000 in
theorem jw_m_RX3_32 : Cond.methodLink RX3 32 yJ9_min_7cf53 ∈ jm_W0 := jm_in 500 rfl rfl
set_option maxRecDepth 100000 in
theorem jw_m_RX4_3 : Cond.methodLink RX4 3 objectInit ∈ jm_W0 := jm_in 84 rfl rfl
set_option maxRecDepth 100000 in
theorem jw_m_RX5_106 : Cond.methodLink RX5 106 yX0_nextStone ∈ jm_W0 := jm_in 393 rfl rfl
set_option maxRecDepth 100000 in
theorem jw_m_RX5_110 : Cond.methodLink RX5 110 yX2_run ∈ jm_W0 := jm_in 401 rfl rfl
set_option maxRecDepth 100000 in
theorem jw_m_RX5_117 : Cond.methodLink RX5 117 yX5_distanceOf ∈ jm_W0 := jm_in 459 rfl rfl
set_option maxRecDepth 100000 in
theorem jw_m_RX5_121 : Cond.methodLink RX5 121 yX5_settleDraw ∈ jm_W0 := jm_in 468 rfl rfl
set_option maxRecDepth 100000 in
theorem jw_m_RX5_126 : Cond.methodLink RX5 126 yX3_copyFrom ∈ jm_W0 := jm_in 482 rfl rfl
set_option maxRecDepth 100000 in
theorem jw_m_RX5_132 : Cond.methodLink RX5 132 yX5_settleStone ∈ jm_W0 := jm_in 483 rfl rfl
set_option maxRecDepth 100000 in
theorem jw_m_RX5_138 : Cond.methodLink RX5 138 yX5_workAnHour ∈ jm_W0 := jm_in 518 rfl rfl
set_option maxRecDepth 100000 in
theorem jw_m_RX5_141 : Cond.methodLink RX5 141 yX5_beginGames ∈ jm_W0 := jm_in 534 rfl rfl
set_option maxRecDepth 100000 in
theorem jw_m_RX5_151 : Cond.methodLink RX5 151 yX1_allWorn ∈ jm_W0 := jm_in 553 rfl rfl
set_option maxRecDepth 100000 in
theorem jw_m_RX5_159 : Cond.methodLink RX5 159 yX5_isCell ∈ jm_W0 := jm_in 565 rfl rfl
set_option maxRecDepth 100000 in
theorem jw_m_RX5_165 : Cond.methodLink RX5 165 yX1_wornAt ∈ jm_W0 := jm_in 569 rfl rfl
set_option maxRecDepth 100000 in
theorem jw_m_RX5_181 : Cond.methodLink RX5 181 yX0_nextSide ∈ jm_W0 := jm_in 472 rfl rfl
set_option maxRecDepth 100000 in
theorem jw_m_RX5_189 : Cond.methodLink RX5 189 yX3_placeOf ∈ jm_W0 := jm_in 585 rfl rfl
set_option maxRecDepth 100000 in
theorem jw_m_RX5_192 : Cond.methodLink RX5 192 yX3_score ∈ jm_W0 := jm_in 593 rfl rfl
set_option maxRecDepth 100000 in
theorem jw_m_RX5_195 : Cond.methodLink RX5 195 yX3_scoreOneByOne ∈ jm_W0 := jm_in 601 rfl rfl
set_option maxRecDepth 100000 in
theorem jw_m_RX5_200 : Cond.methodLink RX5 200 yX5_worthOfShot ∈ jm_W0 := jm_in 620 rfl rfl
set_option maxRecDepth 100000 in
theorem jw_m_RX5_206 : Cond.methodLink RX5 206 yX5_teamsAheadOf ∈ jm_W0 := jm_in 636 rfl rfl
set_option maxRecDepth 100000 in
theorem jw_m_RX5_209 : Cond.methodLink RX5 209 yX5_teamOf ∈ jm_W0 := jm_in 473 rfl rfl
set_option maxRecDepth 100000 in
theorem jw_m_RX5_222 : Cond.methodLink RX5 222 yJ9_abs_0f7a4 ∈ jm_W0 := jm_in 462 rfl rfl
set_option maxRecDepth 100000 in
theorem jw_m_RX5_227 : Cond.methodLink RX5 227 yJ9_min_7cf53 ∈ jm_W0 := jm_in 465 rfl rfl
set_option maxRecDepth 100000 in
theorem jw_m_RX5_242 : Cond.methodLink RX5 242 yX0_takeDraw ∈ jm_W0 := jm_in 478 rfl rfl
set_option maxRecDepth 100000 in
theorem jw_m_RX5_249 : Cond.methodLink RX5 249 yX0_closeEnd ∈ jm_W0 := jm_in 487 rfl rfl
set_option maxRecDepth 100000 in
theorem jw_m_RX5_252 : Cond.methodLink RX5 252 yX5_closeGame ∈ jm_W0 := jm_in 506 rfl rfl
set_option maxRecDepth 100000 in
theorem jw_m_RX5_255 : Cond.methodLink RX5 255 yX1_renew ∈ jm_W0 := jm_in 522 rfl rfl
set_option maxRecDepth 100000 in
theorem jw_m_RX5_258 : Cond.methodLink RX5 258 yX5_sheetToMake ∈ jm_W0 := jm_in 526 rfl rfl
set_option maxRecDepth 100000 in
theorem jw_m_RX5_261 : Cond.methodLink RX5 261 yX5_leastHourWished ∈ jm_W0 := jm_in 530 rfl rfl
set_option maxRecDepth 100000 in
theorem jw_m_RX5_267 : Cond.methodLink RX5 267 yX5_sheetToPlay ∈ jm_W0 := jm_in 538 rfl rfl
set_option maxRecDepth 100000 in
theorem jw_m_RX5_270 : Cond.methodLink RX5 270 yX1_isReady ∈ jm_W0 := jm_in 542 rfl rfl
set_option maxRecDepth 100000 in
theorem jw_m_RX5_273 : Cond.methodLink RX5 273 yX5_worthOfTry ∈ jm_W0 := jm_in 624 rfl rfl
set_option maxRecDepth 100000 in
theorem jw_m_RX5_276 : Cond.methodLink RX5 276 yX5_isAhead ∈ jm_W0 := jm_in 640 rfl rfl
set_option maxRecDepth 100000 in
theorem jw_m_RX5_279 : Cond.methodLink RX5 279 yX4_lastStonesPerGame ∈ jm_W0 := jm_in 644 rfl rfl
set_option maxRecDepth 100000 in
theorem jw_m_RX5_3 : Cond.methodLink RX5 3 objectInit ∈ jm_W0 := jm_in 55 rfl rfl
set_option maxRecDepth 100000 in
theorem jw_m_RX5_43 : Cond.methodLink RX5 43 yX5_isWithin ∈ jm_W0 := jm_in 193 rfl rfl
set_option maxRecDepth 100000 in
theorem jw_m_RX5_70 : Cond.methodLink RX5 70 yX0_init ∈ jm_W0 := jm_in 297 rfl rfl
set_option maxRecDepth 100000 in
theorem jw_m_RX5_75 : Cond.methodLink RX5 75 yX5_gameOf ∈ jm_W0 := jm_in 370 rfl rfl
set_option maxRecDepth 100000 in
theorem jw_m_RX5_79 : Cond.methodLink RX5 79 yX5_isShot ∈ jm_W0 := jm_in 375 rfl rfl
set_option maxRecDepth 100000 in
theorem jw_m_RX5_85 : Cond.methodLink RX5 85 yX0_isOnSheet ∈ jm_W0 := jm_in 379 rfl rfl
set_option maxRecDepth 100000 in
theorem jw_m_RX5_91 : Cond.methodLink RX5 91 yX2_aim ∈ jm_W0 := jm_in 384 rfl rfl
set_option maxRecDepth 100000 in
theorem jw_m_RX5_98 : Cond.methodLink RX5 98 yX5_sheetOf ∈ jm_W0 := jm_in 388 rfl rfl
set_option maxRecDepth 100000 in
theorem jw_m_RL_101 : Cond.methodLink RL 101 yX6_ofGame ∈ jm_W0 := jm_in 862 rfl rfl
set_option maxRecDepth 100000 in
theorem jw_m_RL_102 : Cond.methodLink RL 102 yL_stone ∈ jm_W0 := jm_in 577 rfl rfl
set_option maxRecDepth 100000 in
theorem jw_m_RL_104 : Cond.methodLink RL 104 yX6_stone ∈ jm_W0 := jm_in 866 rfl rfl
set_option maxRecDepth 100000 in
theorem jw_m_RL_105 : Cond.methodLink RL 105 yL_wouldScore ∈ jm_W0 := jm_in 586 rfl rfl
set_option maxRecDepth 100000 in
theorem jw_m_RL_107 : Cond.methodLink RL 107 yX6_wouldScore ∈ jm_W0 := jm_in 870 rfl rfl
set_option maxRecDepth 100000 in
theorem jw_m_RL_108 : Cond.methodLink RL 108 yL_wouldScoreAnew ∈ jm_W0 := jm_in 594 rfl rfl
set_option maxRecDepth 100000 in
theorem jw_m_RL_110 : Cond.methodLink RL 110 yX6_wouldScoreAnew ∈ jm_W0 := jm_in 878 rfl rfl
set_option maxRecDepth 100000 in
theorem jw_m_RL_111 : Cond.methodLink RL 111 yL_tries ∈ jm_W0 := jm_in 605 rfl rfl
set_option maxRecDepth 100000 in
theorem jw_m_RL_113 : Cond.methodLink RL 113 yX6_tries ∈ jm_W0 := jm_in 822 rfl rfl
set_option maxRecDepth 100000 in
theorem jw_m_RL_114 : Cond.methodLink RL 114 yL_advice ∈ jm_W0 := jm_in 612 rfl rfl
set_option maxRecDepth 100000 in
theorem jw_m_RL_116 : Cond.methodLink RL 116 yX6_advice ∈ jm_W0 := jm_in 882 rfl rfl
set_option maxRecDepth 100000 in
theorem jw_m_RL_117 : Cond.methodLink RL 117 yL_standing ∈ jm_W0 := jm_in 628 rfl rfl
set_option maxRecDepth 100000 in
theorem jw_m_RL_119 : Cond.methodLink RL 119 yX6_standing ∈ jm_W0 := jm_in 890 rfl rfl
set_option maxRecDepth 100000 in
theorem jw_m_RL_120 : Cond.methodLink RL 120 yL_ofTeam ∈ jm_W0 := jm_in 648 rfl rfl
set_option maxRecDepth 100000 in
theorem jw_m_RL_122 : Cond.methodLink RL 122 yX6_ofTeam ∈ jm_W0 := jm_in 898 rfl rfl
set_option maxRecDepth 100000 in
theorem jw_m_RL_19 : Cond.methodLink RL 19 yX5_crew ∈ jm_W0 := jm_in 358 rfl rfl
set_option maxRecDepth 100000 in
theorem jw_m_RL_23 : Cond.methodLink RL 23 yX5_shoot ∈ jm_W0 := jm_in 366 rfl rfl
set_option maxRecDepth 100000 in
theorem jw_m_RL_27 : Cond.methodLink RL 27 yX5_pass ∈ jm_W0 := jm_in 513 rfl rfl
set_option maxRecDepth 100000 in
theorem jw_m_RL_30 : Cond.methodLink RL 30 yX5_ofSheet ∈ jm_W0 := jm_in 549 rfl rfl
set_option maxRecDepth 100000 in
theorem jw_m_RL_34 : Cond.methodLink RL 34 yX5_wear ∈ jm_W0 := jm_in 561 rfl rfl
set_option maxRecDepth 100000 in
theorem jw_m_RL_38 : Cond.methodLink RL 38 yX5_ofGame ∈ jm_W0 := jm_in 573 rfl rfl
set_option maxRecDepth 100000 in
theorem jw_m_RL_41 : Cond.methodLink RL 41 yX5_stone ∈ jm_W0 := jm_in 580 rfl rfl
set_option maxRecDepth 100000 in
theorem jw_m_RL_44 : Cond.methodLink RL 44 yX5_wouldScore ∈ jm_W0 := jm_in 589 rfl rfl
set_option maxRecDepth 100000 in
theorem jw_m_RL_47 : Cond.methodLink RL 47 yX5_wouldScoreAnew ∈ jm_W0 := jm_in 597 rfl rfl
set_option maxRecDepth 100000 in
theorem jw_m_RL_50 : Cond.methodLink RL 50 yX5_tries ∈ jm_W0 := jm_in 608 rfl rfl
set_option maxRecDepth 100000 in
theorem jw_m_RL_53 : Cond.methodLink RL 53 yX5_advice ∈ jm_W0 := jm_in 615 rfl rfl
set_option maxRecDepth 100000 in
theorem jw_m_RL_56 : Cond.methodLink RL 56 yX5_standing ∈ jm_W0 := jm_in 631 rfl rfl
set_option maxRecDepth 100000 in
theorem jw_m_RL_59 : Cond.methodLink RL 59 yX5_ofTeam ∈ jm_W0 := jm_in 651 rfl rfl
set_option maxRecDepth 100000 in
theorem jw_m_RL_62 : Cond.methodLink RL 62 yX5_init ∈ jm_W0 := jm_in 52 rfl rfl
set_option maxRecDepth 100000 in
theorem jw_m_RL_65 : Cond.methodLink RL 65 yX6_init ∈ jm_W0 := jm_in 657 rfl rfl
set_option maxRecDepth 100000 in
theorem jw_m_RL_66 : Cond.methodLink RL 66 yL_plan ∈ jm_W0 := jm_in 183 rfl rfl
set_option maxRecDepth 100000 in
theorem jw_m_RL_7 : Cond.methodLink RL 7 yX5_plan ∈ jm_W0 := jm_in 189 rfl rfl
set_option maxRecDepth 100000 in
theorem jw_m_RL_71 : Cond.methodLink RL 71 yX6_plan ∈ jm_W0 := jm_in 751 rfl rfl
set_option maxRecDepth 100000 in
theorem jw_m_RL_72 : Cond.methodLink RL 72 yX6_thrown ∈ jm_W0 := jm_in 747 rfl rfl
set_option maxRecDepth 100000 in
theorem jw_m_RL_76 : Cond.methodLink RL 76 yL_crew ∈ jm_W0 := jm_in 355 rfl rfl
set_option maxRecDepth 100000 in
theorem jw_m_RL_79 : Cond.methodLink RL 79 yX6_crew ∈ jm_W0 := jm_in 768 rfl rfl
set_option maxRecDepth 100000 in
theorem jw_m_RL_80 : Cond.methodLink RL 80 yL_shoot ∈ jm_W0 := jm_in 363 rfl rfl
set_option maxRecDepth 100000 in
theorem jw_m_RL_83 : Cond.methodLink RL 83 yX6_shoot ∈ jm_W0 := jm_in 776 rfl rfl
set_option maxRecDepth 100000 in
theorem jw_m_RL_84 : Cond.methodLink RL 84 yL_pass ∈ jm_W0 := jm_in 510 rfl rfl
set_option maxRecDepth 100000 in
theorem jw_m_RL_86 : Cond.methodLink RL 86 yX6_pass ∈ jm_W0 := jm_in 826 rfl rfl
set_option maxRecDepth 100000 in
theorem jw_m_RL_87 : Cond.methodLink RL 87 yX5_hour ∈ jm_W0 := jm_in 179 rfl rfl
set_option maxRecDepth 100000 in
theorem jw_m_RL_90 : Cond.methodLink RL 90 yX6_hour ∈ jm_W0 := jm_in 850 rfl rfl
set_option maxRecDepth 100000 in
theorem jw_m_RL_91 : Cond.methodLink RL 91 yL_ofSheet ∈ jm_W0 := jm_in 546 rfl rfl
set_option maxRecDepth 100000 in
theorem jw_m_RL_94 : Cond.methodLink RL 94 yX6_ofSheet ∈ jm_W0 := jm_in 854 rfl rfl
set_option maxRecDepth 100000 in
theorem jw_m_RL_95 : Cond.methodLink RL 95 yL_wear ∈ jm_W0 := jm_in 558 rfl rfl
set_option maxRecDepth 100000 in
theorem jw_m_RL_98 : Cond.methodLink RL 98 yX6_wear ∈ jm_W0 := jm_in 858 rfl rfl
set_option maxRecDepth 100000 in
theorem jw_m_RL_99 : Cond.methodLink RL 99 yL_ofGame ∈ jm_W0 := jm_in 570 rfl rfl
set_option maxRecDepth 100000 in
theorem jw_m_RX6_1 : Cond.methodLink RX6 1 objectInit ∈ jm_W0 := jm_in 660 rfl rfl
set_option maxRecDepth 100000 in
theorem jw_m_RX6_104 : Cond.methodLink RX6 104 yX6_asked__ ∈ jm_W0 := jm_in 764 rfl rfl
set_option maxRecDepth 100000 in
theorem jw_m_RX6_108 : Cond.methodLink RX6 108 yX6_asked ∈ jm_W0 := jm_in 772 rfl rfl
set_option maxRecDepth 100000 in
theorem jw_m_RX6_111 : Cond.methodLink RX6 111 yX6_stoneAt ∈ jm_W0 := jm_in 807 rfl rfl
set_option maxRecDepth 100000 in
theorem jw_m_RX6_115 : Cond.methodLink RX6 115 yX6_distance ∈ jm_W0 := jm_in 811 rfl rfl
set_option maxRecDepth 100000 in
theorem jw_m_RX6_119 : Cond.methodLink RX6 119 yX6_turnOf ∈ jm_W0 := jm_in 799 rfl rfl
set_option maxRecDepth 100000 in
theorem jw_m_RX6_122 : Cond.methodLink RX6 122 yX6_scored ∈ jm_W0 := jm_in 818 rfl rfl
set_option maxRecDepth 100000 in
theorem jw_m_RX6_126 : Cond.methodLink RX6 126 yX6_isGame ∈ jm_W0 := jm_in 780 rfl rfl
set_option maxRecDepth 100000 in
theorem jw_m_RX6_129 : Cond.methodLink RX6 129 yX6_isShot ∈ jm_W0 := jm_in 784 rfl rfl
set_option maxRecDepth 100000 in
theorem jw_m_RX6_133 : Cond.methodLink RX6 133 yX6_throwsAt ∈ jm_W0 := jm_in 787 rfl rfl
set_option maxRecDepth 100000 in
theorem jw_m_RX6_136 : Cond.methodLink RX6 136 yX6_takesUp ∈ jm_W0 := jm_in 791 rfl rfl
set_option maxRecDepth 100000 in
theorem jw_m_RX6_140 : Cond.methodLink RX6 140 yX6_slotOf ∈ jm_W0 := jm_in 795 rfl rfl
set_option maxRecDepth 100000 in
theorem jw_m_RX6_143 : Cond.methodLink RX6 143 yX6_goes ∈ jm_W0 := jm_in 803 rfl rfl
set_option maxRecDepth 100000 in
theorem jw_m_RX6_147 : Cond.methodLink RX6 147 yX6_ends ∈ jm_W0 := jm_in 814 rfl rfl
set_option maxRecDepth 100000 in
theorem jw_m_RX6_149 : Cond.methodLink RX6 149 yX6_isFree ∈ jm_W0 := jm_in 842 rfl rfl
set_option maxRecDepth 100000 in
theorem jw_m_RX6_155 : Cond.methodLink RX6 155 yX6_wanted ∈ jm_W0 := jm_in 838 rfl rfl
set_option maxRecDepth 100000 in
theorem jw_m_RX6_158 : Cond.methodLink RX6 158 yX6_begins ∈ jm_W0 := jm_in 846 rfl rfl
set_option maxRecDepth 100000 in
theorem jw_m_RX6_161 : Cond.methodLink RX6 161 yX6_asked_ ∈ jm_W0 := jm_in 830 rfl rfl
set_option maxRecDepth 100000 in
theorem jw_m_RX6_164 : Cond.methodLink RX6 164 yX6_passes ∈ jm_W0 := jm_in 834 rfl rfl
set_option maxRecDepth 100000 in
theorem jw_m_RX6_167 : Cond.methodLink RX6 167 yX6_scoreOf ∈ jm_W0 := jm_in 874 rfl rfl
set_option maxRecDepth 100000 in
theorem jw_m_RX6_170 : Cond.methodLink RX6 170 yX6_worth ∈ jm_W0 := jm_in 886 rfl rfl
set_option maxRecDepth 100000 in
theorem jw_m_RX6_174 : Cond.methodLink RX6 174 yX6_average ∈ jm_W0 := jm_in 894 rfl rfl
set_option maxRecDepth 100000 in
theorem jw_m_RX6_90 : Cond.methodLink RX6 90 yX6_in ∈ jm_W0 := jm_in 758 rfl rfl
set_option maxRecDepth 100000 in
theorem jw_m_RX6_94 : Cond.methodLink RX6 94 yX6_isTeam ∈ jm_W0 := jm_in 755 rfl rfl
set_option maxRecDepth 100000 in
theorem jw_m_RX6_98 : Cond.methodLink RX6 98 yX6_isSheet ∈ jm_W0 := jm_in 761 rfl rfl
set_option maxRecDepth 100000 in
theorem jw_n_RX0 : Cond.initialized RX0 ∈ jm_W0 := jm_in 48 rfl rfl
set_option maxRecDepth 100000 in
theorem jw_n_RX1 : Cond.initialized RX1 ∈ jm_W0 := jm_in 37 rfl rfl
set_option maxRecDepth 100000 in
theorem jw_n_RX2 : Cond.initialized RX2 ∈ jm_W0 := jm_in 39 rfl rfl
set_option maxRecDepth 100000 in
theorem jw_n_RX3 : Cond.initialized RX3 ∈ jm_W0 := jm_in 40 rfl rfl
set_option maxRecDepth 100000 in
theorem jw_n_RX4 : Cond.initialized RX4 ∈ jm_W0 := jm_in 38 rfl rfl
set_option maxRecDepth 100000 in
theorem jw_n_RX5 : Cond.initialized RX5 ∈ jm_W0 := jm_in 36 rfl rfl
set_option maxRecDepth 100000 in
theorem jw_n_RX6 : Cond.initialized RX6 ∈ jm_W0 := jm_in 41 rfl rfl
set_option maxRecDepth 100000 in
theorem jw_n_RJ9 : Cond.initialized RJ9 ∈ jm_W0 := jm_in 49 rfl rfl
set_option maxRecDepth 100000 in
theorem jw_n_RL : Cond.initialized RL ∈ jm_W0 := jm_in 35 rfl rfl
set_option maxRecDepth 100000 in
theorem jw_n_Math : Cond.initialized "java/lang/Math" ∈ jm_W0 := jm_in 49 rfl rfl
set_option maxRecDepth 100000 in
theorem jw_s_min : Cond.static Lib.Math.min.name ∈ jm_W0 := jm_in 466 rfl rfl
set_option maxRecDepth 100000 in
theorem jw_c_min : Cond.code Lib.Math.min.name Lib.Math.min.code 2 (some .int) ∈ jm_W0 := jm_in 467 rfl rfl
set_option maxRecDepth 100000 in
theorem jw_s_abs : Cond.static Lib.Math.abs.name ∈ jm_W0 := jm_in 463 rfl rfl
set_option maxRecDepth 100000 in
theorem jw_c_abs : Cond.code Lib.Math.abs.name Lib.Math.abs.code 1 (some .int) ∈ jm_W0 := jm_in 464 rfl rfl
set_option maxRecDepth 100000 in
theorem jw_i_obj : Cond.instanceMethod objectInit ∈ jm_W0 := jm_in 56 rfl rfl
set_option maxRecDepth 100000 in
theorem jw_c_obj : Cond.code objectInit ⟨#[0xb1]⟩ 1 none ∈ jm_W0 := jm_in 57 rfl rfl
set_option maxRecDepth 100000 in
theorem jw_u_0 : ∀ z ∈ u_ws RX0 TX0 13, z ∈ jm_W0 := by
  show ∀ z ∈ [Cond.laysFinal RX0 "HackHouse$Game" "first" "I", Cond.laysFinal RX0 "HackHouse$Game" "second" "I", Cond.laysFinal RX0 "HackHouse$Game" "wish" "I", Cond.laysFinal RX0 "HackHouse$Game" "stones" "LHackHouse$Stones;", Cond.lays RX0 "HackHouse$Game" "begin" "I", Cond.lays RX0 "HackHouse$Game" "state" "I", Cond.lays RX0 "HackHouse$Game" "sheet" "I", Cond.lays RX0 "HackHouse$Game" "firstDraw" "I", Cond.lays RX0 "HackHouse$Game" "firstPoints" "I", Cond.lays RX0 "HackHouse$Game" "secondPoints" "I", Cond.lays RX0 "HackHouse$Game" "endsOver" "I", Cond.lays RX0 "HackHouse$Game" "thrown" "I", Cond.lays RX0 "HackHouse$Game" "lastSide" "I"], z ∈ jm_W0
  exact List.forall_mem_cons.mpr ⟨jm_in 328 rfl rfl, List.forall_mem_cons.mpr ⟨jm_in 330 rfl rfl, List.forall_mem_cons.mpr ⟨jm_in 332 rfl rfl, List.forall_mem_cons.mpr ⟨jm_in 334 rfl rfl, List.forall_mem_cons.mpr ⟨jm_in 336 rfl rfl, List.forall_mem_cons.mpr ⟨jm_in 338 rfl rfl, List.forall_mem_cons.mpr ⟨jm_in 340 rfl rfl, List.forall_mem_cons.mpr ⟨jm_in 342 rfl rfl, List.forall_mem_cons.mpr ⟨jm_in 344 rfl rfl, List.forall_mem_cons.mpr ⟨jm_in 346 rfl rfl, List.forall_mem_cons.mpr ⟨jm_in 348 rfl rfl, List.forall_mem_cons.mpr ⟨jm_in 350 rfl rfl, List.forall_mem_cons.mpr ⟨jm_in 352 rfl rfl, fun _ h => absurd h List.not_mem_nil⟩⟩⟩⟩⟩⟩⟩⟩⟩⟩⟩⟩⟩
set_option maxRecDepth 100000 in
theorem jw_u_1 : ∀ z ∈ u_ws RX1 TX1 3, z ∈ jm_W0 := by
  show ∀ z ∈ [Cond.laysFinal RX1 "HackHouse$Sheet" "worn" "[I", Cond.lays RX1 "HackHouse$Sheet" "made" "Z", Cond.lays RX1 "HackHouse$Sheet" "game" "I"], z ∈ jm_W0
  exact List.forall_mem_cons.mpr ⟨jm_in 70 rfl rfl, List.forall_mem_cons.mpr ⟨jm_in 72 rfl rfl, List.forall_mem_cons.mpr ⟨jm_in 74 rfl rfl, fun _ h => absurd h List.not_mem_nil⟩⟩⟩
set_option maxRecDepth 100000 in
theorem jw_u_2 : ∀ z ∈ u_ws RX2 TX2 10, z ∈ jm_W0 := by
  show ∀ z ∈ [Cond.laysFinal RX2 "HackHouse$Slide" "stones" "LHackHouse$Stones;", Cond.lays RX2 "HackHouse$Slide" "wears" "Z", Cond.lays RX2 "HackHouse$Slide" "lane" "I", Cond.lays RX2 "HackHouse$Slide" "y" "I", Cond.lays RX2 "HackHouse$Slide" "energy" "I", Cond.lays RX2 "HackHouse$Slide" "turn" "I", Cond.lays RX2 "HackHouse$Slide" "sweptFrom" "I", Cond.lays RX2 "HackHouse$Slide" "sweptTo" "I", Cond.lays RX2 "HackHouse$Slide" "steps" "I", Cond.lays RX2 "HackHouse$Slide" "hit" "I"], z ∈ jm_W0
  exact List.forall_mem_cons.mpr ⟨jm_in 130 rfl rfl, List.forall_mem_cons.mpr ⟨jm_in 132 rfl rfl, List.forall_mem_cons.mpr ⟨jm_in 134 rfl rfl, List.forall_mem_cons.mpr ⟨jm_in 136 rfl rfl, List.forall_mem_cons.mpr ⟨jm_in 138 rfl rfl, List.forall_mem_cons.mpr ⟨jm_in 140 rfl rfl, List.forall_mem_cons.mpr ⟨jm_in 142 rfl rfl, List.forall_mem_cons.mpr ⟨jm_in 144 rfl rfl, List.forall_mem_cons.mpr ⟨jm_in 146 rfl rfl, List.forall_mem_cons.mpr ⟨jm_in 148 rfl rfl, fun _ h => absurd h List.not_mem_nil⟩⟩⟩⟩⟩⟩⟩⟩⟩⟩
set_option maxRecDepth 100000 in
theorem jw_u_3 : ∀ z ∈ u_ws RX3 TX3 1, z ∈ jm_W0 := by
  show ∀ z ∈ [Cond.laysFinal RX3 "HackHouse$Stones" "places" "[I"], z ∈ jm_W0
  exact List.forall_mem_cons.mpr ⟨jm_in 116 rfl rfl, fun _ h => absurd h List.not_mem_nil⟩
set_option maxRecDepth 100000 in
theorem jw_u_4 : ∀ z ∈ u_ws RX4 TX4 3, z ∈ jm_W0 := by
  show ∀ z ∈ [Cond.lays RX4 "HackHouse$Team" "won" "I", Cond.lays RX4 "HackHouse$Team" "drew" "I", Cond.lays RX4 "HackHouse$Team" "lastStones" "I"], z ∈ jm_W0
  exact List.forall_mem_cons.mpr ⟨jm_in 90 rfl rfl, List.forall_mem_cons.mpr ⟨jm_in 92 rfl rfl, List.forall_mem_cons.mpr ⟨jm_in 94 rfl rfl, fun _ h => absurd h List.not_mem_nil⟩⟩⟩
set_option maxRecDepth 100000 in
theorem jw_u_5 : ∀ z ∈ u_ws RX5 TX5 9, z ∈ jm_W0 := by
  show ∀ z ∈ [Cond.laysFinal RX5 "HackHouse" "sheets" "[LHackHouse$Sheet;", Cond.laysFinal RX5 "HackHouse" "teams" "[LHackHouse$Team;", Cond.laysFinal RX5 "HackHouse" "games" "[LHackHouse$Game;", Cond.laysFinal RX5 "HackHouse" "slide" "LHackHouse$Slide;", Cond.lays RX5 "HackHouse" "gamesPlanned" "I", Cond.lays RX5 "HackHouse" "now" "I", Cond.lays RX5 "HackHouse" "crewHours" "I", Cond.lays RX5 "HackHouse" "crewSheet" "I", Cond.lays RX5 "HackHouse" "crewLeft" "I"], z ∈ jm_W0
  exact List.forall_mem_cons.mpr ⟨jm_in 160 rfl rfl, List.forall_mem_cons.mpr ⟨jm_in 162 rfl rfl, List.forall_mem_cons.mpr ⟨jm_in 164 rfl rfl, List.forall_mem_cons.mpr ⟨jm_in 166 rfl rfl, List.forall_mem_cons.mpr ⟨jm_in 168 rfl rfl, List.forall_mem_cons.mpr ⟨jm_in 170 rfl rfl, List.forall_mem_cons.mpr ⟨jm_in 172 rfl rfl, List.forall_mem_cons.mpr ⟨jm_in 174 rfl rfl, List.forall_mem_cons.mpr ⟨jm_in 176 rfl rfl, fun _ h => absurd h List.not_mem_nil⟩⟩⟩⟩⟩⟩⟩⟩⟩
set_option maxRecDepth 100000 in
theorem jw_u_6 : ∀ z ∈ u_ws RX6 TX6 28, z ∈ jm_W0 := by
  show ∀ z ∈ [Cond.lays RX6 "HackHouseModel" "thrown" "I", Cond.lays RX6 "HackHouseModel" "now" "I", Cond.lays RX6 "HackHouseModel" "crewHours" "I", Cond.lays RX6 "HackHouseModel" "crewAt" "I", Cond.lays RX6 "HackHouseModel" "crewLeft" "I", Cond.laysFinal RX6 "HackHouseModel" "wear" "[I", Cond.laysFinal RX6 "HackHouseModel" "worn" "[Z", Cond.laysFinal RX6 "HackHouseModel" "gameOn" "[I", Cond.lays RX6 "HackHouseModel" "games" "I", Cond.laysFinal RX6 "HackHouseModel" "state" "[I", Cond.laysFinal RX6 "HackHouseModel" "first" "[I", Cond.laysFinal RX6 "HackHouseModel" "second" "[I", Cond.laysFinal RX6 "HackHouseModel" "hours" "[I", Cond.laysFinal RX6 "HackHouseModel" "wish" "[I", Cond.laysFinal RX6 "HackHouseModel" "sheet" "[I", Cond.laysFinal RX6 "HackHouseModel" "points" "[I", Cond.laysFinal RX6 "HackHouseModel" "ends" "[I", Cond.laysFinal RX6 "HackHouseModel" "shots" "[I", Cond.laysFinal RX6 "HackHouseModel" "lastStone" "[I", Cond.laysFinal RX6 "HackHouseModel" "drew" "[I", Cond.laysFinal RX6 "HackHouseModel" "lies" "[I", Cond.laysFinal RX6 "HackHouseModel" "won" "[I", Cond.laysFinal RX6 "HackHouseModel" "draws" "[I", Cond.laysFinal RX6 "HackHouseModel" "lasts" "[I", Cond.laysFinal RX6 "HackHouseModel" "w" "[I", Cond.laysFinal RX6 "HackHouseModel" "p" "[I", Cond.laysFinal RX6 "HackHouseModel" "order" "[I", Cond.laysFinal RX6 "HackHouseModel" "seen" "[Z"], z ∈ jm_W0
  exact List.forall_mem_cons.mpr ⟨jm_in 689 rfl rfl, List.forall_mem_cons.mpr ⟨jm_in 691 rfl rfl, List.forall_mem_cons.mpr ⟨jm_in 693 rfl rfl, List.forall_mem_cons.mpr ⟨jm_in 695 rfl rfl, List.forall_mem_cons.mpr ⟨jm_in 697 rfl rfl, List.forall_mem_cons.mpr ⟨jm_in 699 rfl rfl, List.forall_mem_cons.mpr ⟨jm_in 701 rfl rfl, List.forall_mem_cons.mpr ⟨jm_in 703 rfl rfl, List.forall_mem_cons.mpr ⟨jm_in 705 rfl rfl, List.forall_mem_cons.mpr ⟨jm_in 707 rfl rfl, List.forall_mem_cons.mpr ⟨jm_in 709 rfl rfl, List.forall_mem_cons.mpr ⟨jm_in 711 rfl rfl, List.forall_mem_cons.mpr ⟨jm_in 713 rfl rfl, List.forall_mem_cons.mpr ⟨jm_in 715 rfl rfl, List.forall_mem_cons.mpr ⟨jm_in 717 rfl rfl, List.forall_mem_cons.mpr ⟨jm_in 719 rfl rfl, List.forall_mem_cons.mpr ⟨jm_in 721 rfl rfl, List.forall_mem_cons.mpr ⟨jm_in 723 rfl rfl, List.forall_mem_cons.mpr ⟨jm_in 725 rfl rfl, List.forall_mem_cons.mpr ⟨jm_in 727 rfl rfl, List.forall_mem_cons.mpr ⟨jm_in 729 rfl rfl, List.forall_mem_cons.mpr ⟨jm_in 731 rfl rfl, List.forall_mem_cons.mpr ⟨jm_in 733 rfl rfl, List.forall_mem_cons.mpr ⟨jm_in 735 rfl rfl, List.forall_mem_cons.mpr ⟨jm_in 737 rfl rfl, List.forall_mem_cons.mpr ⟨jm_in 739 rfl rfl, List.forall_mem_cons.mpr ⟨jm_in 741 rfl rfl, List.forall_mem_cons.mpr ⟨jm_in 743 rfl rfl, fun _ h => absurd h List.not_mem_nil⟩⟩⟩⟩⟩⟩⟩⟩⟩⟩⟩⟩⟩⟩⟩⟩⟩⟩⟩⟩⟩⟩⟩⟩⟩⟩⟩⟩
set_option maxRecDepth 100000 in
theorem okX0_init : jm_okI RX0 yX0_init cX0_init 5 4 := ⟨jm_in 298 rfl rfl, jw_n_RX0, jm_in 299 rfl rfl, rfl, rfl, ⟨by decide +kernel, by decide +kernel, by decide +kernel⟩, by decide +kernel⟩
def wX0_init : List Cond := Cond.code yX0_init cX0_init 5 none :: jm_W0
set_option maxRecDepth 100000 in
theorem okX0_isOnSheet : jm_okV RX0 yX0_isOnSheet cX0_isOnSheet 1 (some .boolean) 0 := ⟨jm_in 380 rfl rfl, jm_in 381 rfl rfl, jw_n_RX0, jm_in 382 rfl rfl, rfl, ⟨by decide +kernel, by decide +kernel, by decide +kernel⟩, by decide +kernel⟩
def wX0_isOnSheet : List Cond := Cond.code yX0_isOnSheet cX0_isOnSheet 1 (some .boolean) :: jm_W0
set_option maxRecDepth 100000 in
theorem okX0_nextSide : jm_okV RX0 yX0_nextSide cX0_nextSide 1 (some .int) 0 := ⟨jm_in 398 rfl rfl, jm_in 399 rfl rfl, jw_n_RX0, jm_in 400 rfl rfl, rfl, ⟨by decide +kernel, by decide +kernel, by decide +kernel⟩, by decide +kernel⟩
def wX0_nextSide : List Cond := Cond.code yX0_nextSide cX0_nextSide 1 (some .int) :: jm_W0
set_option maxRecDepth 100000 in
theorem okX0_nextStone : jm_okV RX0 yX0_nextStone cX0_nextStone 1 (some .int) 0 := ⟨jm_in 394 rfl rfl, jm_in 395 rfl rfl, jw_n_RX0, jm_in 396 rfl rfl, rfl, ⟨by decide +kernel, by decide +kernel, by decide +kernel⟩, by decide +kernel⟩
def wX0_nextStone : List Cond := Cond.code yX0_nextStone cX0_nextStone 1 (some .int) :: jm_W0
set_option maxRecDepth 100000 in
theorem okX0_takeDraw : jm_okV RX0 yX0_takeDraw cX0_takeDraw 2 none 1 := ⟨jm_in 479 rfl rfl, jm_in 480 rfl rfl, jw_n_RX0, jm_in 481 rfl rfl, rfl, ⟨by decide +kernel, by decide +kernel, by decide +kernel⟩, by decide +kernel⟩
def wX0_takeDraw : List Cond := Cond.code yX0_takeDraw cX0_takeDraw 2 none :: jm_W0
set_option maxRecDepth 100000 in
theorem okX0_closeEnd : jm_okV RX0 yX0_closeEnd cX0_closeEnd 2 none 0 := ⟨jm_in 488 rfl rfl, jm_in 489 rfl rfl, jw_n_RX0, jm_in 490 rfl rfl, rfl, ⟨by decide +kernel, by decide +kernel, by decide +kernel⟩, by decide +kernel⟩
def wX0_closeEnd : List Cond := Cond.code yX0_closeEnd cX0_closeEnd 2 none :: jm_W0
set_option maxRecDepth 100000 in
theorem okX1_init : jm_okI RX1 yX1_init cX1_init 1 0 := ⟨jm_in 62 rfl rfl, jw_n_RX1, jm_in 63 rfl rfl, rfl, rfl, ⟨by decide +kernel, by decide +kernel, by decide +kernel⟩, by decide +kernel⟩
def wX1_init : List Cond := Cond.code yX1_init cX1_init 1 none :: jm_W0
set_option maxRecDepth 100000 in
theorem okX1_isReady : jm_okV RX1 yX1_isReady cX1_isReady 1 (some .boolean) 0 := ⟨jm_in 543 rfl rfl, jm_in 544 rfl rfl, jw_n_RX1, jm_in 545 rfl rfl, rfl, ⟨by decide +kernel, by decide +kernel, by decide +kernel⟩, by decide +kernel⟩
def wX1_isReady : List Cond := Cond.code yX1_isReady cX1_isReady 1 (some .boolean) :: jm_W0
set_option maxRecDepth 100000 in
theorem okX1_wornAt : jm_okV RX1 yX1_wornAt cX1_wornAt 4 (some .int) 2 := ⟨jm_in 422 rfl rfl, jm_in 423 rfl rfl, jw_n_RX1, jm_in 424 rfl rfl, rfl, ⟨by decide +kernel, by decide +kernel, by decide +kernel⟩, by decide +kernel⟩
def wX1_wornAt : List Cond := Cond.code yX1_wornAt cX1_wornAt 4 (some .int) :: jm_W0
set_option maxRecDepth 100000 in
theorem okX1_wearDown : jm_okV RX1 yX1_wearDown cX1_wearDown 4 none 2 := ⟨jm_in 435 rfl rfl, jm_in 436 rfl rfl, jw_n_RX1, jm_in 437 rfl rfl, rfl, ⟨by decide +kernel, by decide +kernel, by decide +kernel⟩, by decide +kernel⟩
def wX1_wearDown : List Cond := Cond.code yX1_wearDown cX1_wearDown 4 none :: jm_W0
set_option maxRecDepth 100000 in
theorem okX1_allWorn : jm_okV RX1 yX1_allWorn cX1_allWorn 3 (some .int) 0 := ⟨jm_in 554 rfl rfl, jm_in 555 rfl rfl, jw_n_RX1, jm_in 556 rfl rfl, rfl, ⟨by decide +kernel, by decide +kernel, by decide +kernel⟩, by decide +kernel⟩
def wX1_allWorn : List Cond := Cond.code yX1_allWorn cX1_allWorn 3 (some .int) :: jm_W0
set_option maxRecDepth 100000 in
theorem okX1_renew : jm_okV RX1 yX1_renew cX1_renew 2 none 0 := ⟨jm_in 523 rfl rfl, jm_in 524 rfl rfl, jw_n_RX1, jm_in 525 rfl rfl, rfl, ⟨by decide +kernel, by decide +kernel, by decide +kernel⟩, by decide +kernel⟩
def wX1_renew : List Cond := Cond.code yX1_renew cX1_renew 2 none :: jm_W0
set_option maxRecDepth 100000 in
theorem okX2_init : jm_okI RX2 yX2_init cX2_init 1 0 := ⟨jm_in 102 rfl rfl, jw_n_RX2, jm_in 103 rfl rfl, rfl, rfl, ⟨by decide +kernel, by decide +kernel, by decide +kernel⟩, by decide +kernel⟩
def wX2_init : List Cond := Cond.code yX2_init cX2_init 1 none :: jm_W0
set_option maxRecDepth 100000 in
theorem okX2_aim : jm_okV RX2 yX2_aim cX2_aim 6 none 5 := ⟨jm_in 385 rfl rfl, jm_in 386 rfl rfl, jw_n_RX2, jm_in 387 rfl rfl, rfl, ⟨by decide +kernel, by decide +kernel, by decide +kernel⟩, by decide +kernel⟩
def wX2_aim : List Cond := Cond.code yX2_aim cX2_aim 6 none :: jm_W0
set_option maxRecDepth 100000 in
theorem okX2_run : jm_okV RX2 yX2_run cX2_run 8 (some .int) 4 := ⟨jm_in 402 rfl rfl, jm_in 403 rfl rfl, jw_n_RX2, jm_in 404 rfl rfl, rfl, ⟨by decide +kernel, by decide +kernel, by decide +kernel⟩, by decide +kernel⟩
def wX2_run : List Cond := Cond.code yX2_run cX2_run 8 (some .int) :: jm_W0
set_option maxRecDepth 100000 in
theorem okX2_aimPushed : jm_okV RX2 yX2_aimPushed cX2_aimPushed 2 none 1 := ⟨jm_in 456 rfl rfl, jm_in 457 rfl rfl, jw_n_RX2, jm_in 458 rfl rfl, rfl, ⟨by decide +kernel, by decide +kernel, by decide +kernel⟩, by decide +kernel⟩
def wX2_aimPushed : List Cond := Cond.code yX2_aimPushed cX2_aimPushed 2 none :: jm_W0
set_option maxRecDepth 100000 in
theorem okX2_glide : jm_okV RX2 yX2_glide cX2_glide 3 (some .int) 1 := ⟨jm_in 414 rfl rfl, jm_in 415 rfl rfl, jw_n_RX2, jm_in 416 rfl rfl, rfl, ⟨by decide +kernel, by decide +kernel, by decide +kernel⟩, by decide +kernel⟩
def wX2_glide : List Cond := Cond.code yX2_glide cX2_glide 3 (some .int) :: jm_W0
set_option maxRecDepth 100000 in
theorem okX2_isSwept : jm_okV RX2 yX2_isSwept cX2_isSwept 2 (some .boolean) 1 := ⟨jm_in 426 rfl rfl, jm_in 427 rfl rfl, jw_n_RX2, jm_in 428 rfl rfl, rfl, ⟨by decide +kernel, by decide +kernel, by decide +kernel⟩, by decide +kernel⟩
def wX2_isSwept : List Cond := Cond.code yX2_isSwept cX2_isSwept 2 (some .boolean) :: jm_W0
set_option maxRecDepth 100000 in
theorem okX2_restingPlace : jm_okV RX2 yX2_restingPlace cX2_restingPlace 1 (some .int) 0 := ⟨jm_in 439 rfl rfl, jm_in 440 rfl rfl, jw_n_RX2, jm_in 441 rfl rfl, rfl, ⟨by decide +kernel, by decide +kernel, by decide +kernel⟩, by decide +kernel⟩
def wX2_restingPlace : List Cond := Cond.code yX2_restingPlace cX2_restingPlace 1 (some .int) :: jm_W0
set_option maxRecDepth 100000 in
theorem okX2_stepsForward : jm_okV RX2 yX2_stepsForward cX2_stepsForward 4 (some .boolean) 1 := ⟨jm_in 418 rfl rfl, jm_in 419 rfl rfl, jw_n_RX2, jm_in 420 rfl rfl, rfl, ⟨by decide +kernel, by decide +kernel, by decide +kernel⟩, by decide +kernel⟩
def wX2_stepsForward : List Cond := Cond.code yX2_stepsForward cX2_stepsForward 4 (some .boolean) :: jm_W0
set_option maxRecDepth 100000 in
theorem okX2_mustMoveAside : jm_okV RX2 yX2_mustMoveAside cX2_mustMoveAside 1 (some .boolean) 0 := ⟨jm_in 443 rfl rfl, jm_in 444 rfl rfl, jw_n_RX2, jm_in 445 rfl rfl, rfl, ⟨by decide +kernel, by decide +kernel, by decide +kernel⟩, by decide +kernel⟩
def wX2_mustMoveAside : List Cond := Cond.code yX2_mustMoveAside cX2_mustMoveAside 1 (some .boolean) :: jm_W0
set_option maxRecDepth 100000 in
theorem okX2_movesAside : jm_okV RX2 yX2_movesAside cX2_movesAside 1 (some .boolean) 0 := ⟨jm_in 447 rfl rfl, jm_in 448 rfl rfl, jw_n_RX2, jm_in 449 rfl rfl, rfl, ⟨by decide +kernel, by decide +kernel, by decide +kernel⟩, by decide +kernel⟩
def wX2_movesAside : List Cond := Cond.code yX2_movesAside cX2_movesAside 1 (some .boolean) :: jm_W0
set_option maxRecDepth 100000 in
theorem okX3_init : jm_okI RX3 yX3_init cX3_init 1 0 := ⟨jm_in 108 rfl rfl, jw_n_RX3, jm_in 109 rfl rfl, rfl, rfl, ⟨by decide +kernel, by decide +kernel, by decide +kernel⟩, by decide +kernel⟩
def wX3_init : List Cond := Cond.code yX3_init cX3_init 1 none :: jm_W0
set_option maxRecDepth 100000 in
theorem okX3_takeAway : jm_okV RX3 yX3_takeAway cX3_takeAway 2 none 0 := ⟨jm_in 112 rfl rfl, jm_in 113 rfl rfl, jw_n_RX3, jm_in 114 rfl rfl, rfl, ⟨by decide +kernel, by decide +kernel, by decide +kernel⟩, by decide +kernel⟩
def wX3_takeAway : List Cond := Cond.code yX3_takeAway cX3_takeAway 2 none :: jm_W0
set_option maxRecDepth 100000 in
theorem okX3_copyFrom : jm_okV RX3 yX3_copyFrom cX3_copyFrom 3 none 1 := ⟨jm_in 406 rfl rfl, jm_in 407 rfl rfl, jw_n_RX3, jm_in 408 rfl rfl, rfl, ⟨by decide +kernel, by decide +kernel, by decide +kernel⟩, by decide +kernel⟩
def wX3_copyFrom : List Cond := Cond.code yX3_copyFrom cX3_copyFrom 3 none :: jm_W0
set_option maxRecDepth 100000 in
theorem okX3_placeOf : jm_okV RX3 yX3_placeOf cX3_placeOf 2 (some .int) 1 := ⟨jm_in 410 rfl rfl, jm_in 411 rfl rfl, jw_n_RX3, jm_in 412 rfl rfl, rfl, ⟨by decide +kernel, by decide +kernel, by decide +kernel⟩, by decide +kernel⟩
def wX3_placeOf : List Cond := Cond.code yX3_placeOf cX3_placeOf 2 (some .int) :: jm_W0
set_option maxRecDepth 100000 in
theorem okX3_put : jm_okV RX3 yX3_put cX3_put 3 none 2 := ⟨jm_in 451 rfl rfl, jm_in 452 rfl rfl, jw_n_RX3, jm_in 453 rfl rfl, rfl, ⟨by decide +kernel, by decide +kernel, by decide +kernel⟩, by decide +kernel⟩
def wX3_put : List Cond := Cond.code yX3_put cX3_put 3 none :: jm_W0
set_option maxRecDepth 100000 in
theorem okX3_lyingAt : jm_okV RX3 yX3_lyingAt cX3_lyingAt 5 (some .int) 2 := ⟨jm_in 431 rfl rfl, jm_in 432 rfl rfl, jw_n_RX3, jm_in 433 rfl rfl, rfl, ⟨by decide +kernel, by decide +kernel, by decide +kernel⟩, by decide +kernel⟩
def wX3_lyingAt : List Cond := Cond.code yX3_lyingAt cX3_lyingAt 5 (some .int) :: jm_W0
set_option maxRecDepth 100000 in
theorem okX3_score : jm_okV RX3 yX3_score cX3_score 3 (some .int) 0 := ⟨jm_in 492 rfl rfl, jm_in 493 rfl rfl, jw_n_RX3, jm_in 494 rfl rfl, rfl, ⟨by decide +kernel, by decide +kernel, by decide +kernel⟩, by decide +kernel⟩
def wX3_score : List Cond := Cond.code yX3_score cX3_score 3 (some .int) :: jm_W0
set_option maxRecDepth 100000 in
theorem okX3_nearest : jm_okV RX3 yX3_nearest cX3_nearest 4 (some .int) 1 := ⟨jm_in 496 rfl rfl, jm_in 497 rfl rfl, jw_n_RX3, jm_in 498 rfl rfl, rfl, ⟨by decide +kernel, by decide +kernel, by decide +kernel⟩, by decide +kernel⟩
def wX3_nearest : List Cond := Cond.code yX3_nearest cX3_nearest 4 (some .int) :: jm_W0
set_option maxRecDepth 100000 in
theorem okX3_countNearer : jm_okV RX3 yX3_countNearer cX3_countNearer 5 (some .int) 2 := ⟨jm_in 502 rfl rfl, jm_in 503 rfl rfl, jw_n_RX3, jm_in 504 rfl rfl, rfl, ⟨by decide +kernel, by decide +kernel, by decide +kernel⟩, by decide +kernel⟩
def wX3_countNearer : List Cond := Cond.code yX3_countNearer cX3_countNearer 5 (some .int) :: jm_W0
set_option maxRecDepth 100000 in
theorem okX3_scoreOneByOne : jm_okV RX3 yX3_scoreOneByOne cX3_scoreOneByOne 6 (some .int) 0 := ⟨jm_in 602 rfl rfl, jm_in 603 rfl rfl, jw_n_RX3, jm_in 604 rfl rfl, rfl, ⟨by decide +kernel, by decide +kernel, by decide +kernel⟩, by decide +kernel⟩
def wX3_scoreOneByOne : List Cond := Cond.code yX3_scoreOneByOne cX3_scoreOneByOne 6 (some .int) :: jm_W0
set_option maxRecDepth 100000 in
theorem okX4_init : jm_okI RX4 yX4_init cX4_init 1 0 := ⟨jm_in 82 rfl rfl, jw_n_RX4, jm_in 83 rfl rfl, rfl, rfl, ⟨by decide +kernel, by decide +kernel, by decide +kernel⟩, by decide +kernel⟩
def wX4_init : List Cond := Cond.code yX4_init cX4_init 1 none :: jm_W0
set_option maxRecDepth 100000 in
theorem okX4_lastStonesPerGame : jm_okV RX4 yX4_lastStonesPerGame cX4_lastStonesPerGame 1 (some .int) 0 := ⟨jm_in 645 rfl rfl, jm_in 646 rfl rfl, jw_n_RX4, jm_in 647 rfl rfl, rfl, ⟨by decide +kernel, by decide +kernel, by decide +kernel⟩, by decide +kernel⟩
def wX4_lastStonesPerGame : List Cond := Cond.code yX4_lastStonesPerGame cX4_lastStonesPerGame 1 (some .int) :: jm_W0
set_option maxRecDepth 100000 in
theorem okX5_init : jm_okI RX5 yX5_init cX5_init 2 0 := ⟨jm_in 53 rfl rfl, jw_n_RX5, jm_in 54 rfl rfl, rfl, rfl, ⟨by decide +kernel, by decide +kernel, by decide +kernel⟩, by decide +kernel⟩
def wX5_init : List Cond := Cond.code yX5_init cX5_init 2 none :: jm_W0
set_option maxRecDepth 100000 in
theorem okX5_plan : jm_okV RX5 yX5_plan cX5_plan 6 (some .int) 4 := ⟨jm_in 190 rfl rfl, jm_in 191 rfl rfl, jw_n_RX5, jm_in 192 rfl rfl, rfl, ⟨by decide +kernel, by decide +kernel, by decide +kernel⟩, by decide +kernel⟩
def wX5_plan : List Cond := Cond.code yX5_plan cX5_plan 6 (some .int) :: jm_W0
set_option maxRecDepth 100000 in
theorem okX5_crew : jm_okV RX5 yX5_crew cX5_crew 3 (some .int) 1 := ⟨jm_in 359 rfl rfl, jm_in 360 rfl rfl, jw_n_RX5, jm_in 361 rfl rfl, rfl, ⟨by decide +kernel, by decide +kernel, by decide +kernel⟩, by decide +kernel⟩
def wX5_crew : List Cond := Cond.code yX5_crew cX5_crew 3 (some .int) :: jm_W0
set_option maxRecDepth 100000 in
theorem okX5_shoot : jm_okV RX5 yX5_shoot cX5_shoot 9 (some .int) 6 := ⟨jm_in 367 rfl rfl, jm_in 368 rfl rfl, jw_n_RX5, jm_in 369 rfl rfl, rfl, ⟨by decide +kernel, by decide +kernel, by decide +kernel⟩, by decide +kernel⟩
def wX5_shoot : List Cond := Cond.code yX5_shoot cX5_shoot 9 (some .int) :: jm_W0
set_option maxRecDepth 100000 in
theorem okX5_pass : jm_okV RX5 yX5_pass cX5_pass 3 (some .int) 1 := ⟨jm_in 514 rfl rfl, jm_in 515 rfl rfl, jw_n_RX5, jm_in 516 rfl rfl, rfl, ⟨by decide +kernel, by decide +kernel, by decide +kernel⟩, by decide +kernel⟩
def wX5_pass : List Cond := Cond.code yX5_pass cX5_pass 3 (some .int) :: jm_W0
set_option maxRecDepth 100000 in
theorem okX5_hour : jm_okV RX5 yX5_hour cX5_hour 1 (some .int) 0 := ⟨jm_in 180 rfl rfl, jm_in 181 rfl rfl, jw_n_RX5, jm_in 182 rfl rfl, rfl, ⟨by decide +kernel, by decide +kernel, by decide +kernel⟩, by decide +kernel⟩
def wX5_hour : List Cond := Cond.code yX5_hour cX5_hour 1 (some .int) :: jm_W0
set_option maxRecDepth 100000 in
theorem okX5_ofSheet : jm_okV RX5 yX5_ofSheet cX5_ofSheet 4 (some .int) 2 := ⟨jm_in 550 rfl rfl, jm_in 551 rfl rfl, jw_n_RX5, jm_in 552 rfl rfl, rfl, ⟨by decide +kernel, by decide +kernel, by decide +kernel⟩, by decide +kernel⟩
def wX5_ofSheet : List Cond := Cond.code yX5_ofSheet cX5_ofSheet 4 (some .int) :: jm_W0
set_option maxRecDepth 100000 in
theorem okX5_wear : jm_okV RX5 yX5_wear cX5_wear 5 (some .int) 3 := ⟨jm_in 562 rfl rfl, jm_in 563 rfl rfl, jw_n_RX5, jm_in 564 rfl rfl, rfl, ⟨by decide +kernel, by decide +kernel, by decide +kernel⟩, by decide +kernel⟩
def wX5_wear : List Cond := Cond.code yX5_wear cX5_wear 5 (some .int) :: jm_W0
set_option maxRecDepth 100000 in
theorem okX5_ofGame : jm_okV RX5 yX5_ofGame cX5_ofGame 4 (some .int) 2 := ⟨jm_in 574 rfl rfl, jm_in 575 rfl rfl, jw_n_RX5, jm_in 576 rfl rfl, rfl, ⟨by decide +kernel, by decide +kernel, by decide +kernel⟩, by decide +kernel⟩
def wX5_ofGame : List Cond := Cond.code yX5_ofGame cX5_ofGame 4 (some .int) :: jm_W0
set_option maxRecDepth 100000 in
theorem okX5_stone : jm_okV RX5 yX5_stone cX5_stone 5 (some .int) 3 := ⟨jm_in 581 rfl rfl, jm_in 582 rfl rfl, jw_n_RX5, jm_in 583 rfl rfl, rfl, ⟨by decide +kernel, by decide +kernel, by decide +kernel⟩, by decide +kernel⟩
def wX5_stone : List Cond := Cond.code yX5_stone cX5_stone 5 (some .int) :: jm_W0
set_option maxRecDepth 100000 in
theorem okX5_wouldScore : jm_okV RX5 yX5_wouldScore cX5_wouldScore 2 (some .int) 1 := ⟨jm_in 590 rfl rfl, jm_in 591 rfl rfl, jw_n_RX5, jm_in 592 rfl rfl, rfl, ⟨by decide +kernel, by decide +kernel, by decide +kernel⟩, by decide +kernel⟩
def wX5_wouldScore : List Cond := Cond.code yX5_wouldScore cX5_wouldScore 2 (some .int) :: jm_W0
set_option maxRecDepth 100000 in
theorem okX5_wouldScoreAnew : jm_okV RX5 yX5_wouldScoreAnew cX5_wouldScoreAnew 2 (some .int) 1 := ⟨jm_in 598 rfl rfl, jm_in 599 rfl rfl, jw_n_RX5, jm_in 600 rfl rfl, rfl, ⟨by decide +kernel, by decide +kernel, by decide +kernel⟩, by decide +kernel⟩
def wX5_wouldScoreAnew : List Cond := Cond.code yX5_wouldScoreAnew cX5_wouldScoreAnew 2 (some .int) :: jm_W0
set_option maxRecDepth 100000 in
theorem okX5_tries : jm_okV RX5 yX5_tries cX5_tries 8 (some .int) 6 := ⟨jm_in 609 rfl rfl, jm_in 610 rfl rfl, jw_n_RX5, jm_in 611 rfl rfl, rfl, ⟨by decide +kernel, by decide +kernel, by decide +kernel⟩, by decide +kernel⟩
def wX5_tries : List Cond := Cond.code yX5_tries cX5_tries 8 (some .int) :: jm_W0
set_option maxRecDepth 100000 in
theorem okX5_advice : jm_okV RX5 yX5_advice cX5_advice 9 (some .int) 1 := ⟨jm_in 616 rfl rfl, jm_in 617 rfl rfl, jw_n_RX5, jm_in 618 rfl rfl, rfl, ⟨by decide +kernel, by decide +kernel, by decide +kernel⟩, by decide +kernel⟩
def wX5_advice : List Cond := Cond.code yX5_advice cX5_advice 9 (some .int) :: jm_W0
set_option maxRecDepth 100000 in
theorem okX5_standing : jm_okV RX5 yX5_standing cX5_standing 4 (some .int) 1 := ⟨jm_in 632 rfl rfl, jm_in 633 rfl rfl, jw_n_RX5, jm_in 634 rfl rfl, rfl, ⟨by decide +kernel, by decide +kernel, by decide +kernel⟩, by decide +kernel⟩
def wX5_standing : List Cond := Cond.code yX5_standing cX5_standing 4 (some .int) :: jm_W0
set_option maxRecDepth 100000 in
theorem okX5_ofTeam : jm_okV RX5 yX5_ofTeam cX5_ofTeam 4 (some .int) 2 := ⟨jm_in 652 rfl rfl, jm_in 653 rfl rfl, jw_n_RX5, jm_in 654 rfl rfl, rfl, ⟨by decide +kernel, by decide +kernel, by decide +kernel⟩, by decide +kernel⟩
def wX5_ofTeam : List Cond := Cond.code yX5_ofTeam cX5_ofTeam 4 (some .int) :: jm_W0
set_option maxRecDepth 100000 in
theorem okX5_isWithin : jm_okS RX5 yX5_isWithin cX5_isWithin 3 (some .boolean) 3 := ⟨jm_in 194 rfl rfl, jw_n_RX5, jm_in 195 rfl rfl, rfl, ⟨by decide +kernel, by decide +kernel, by decide +kernel⟩, by decide +kernel⟩
def wX5_isWithin : List Cond := Cond.code yX5_isWithin cX5_isWithin 3 (some .boolean) :: jm_W0
set_option maxRecDepth 100000 in
theorem okX5_isCell : jm_okS RX5 yX5_isCell cX5_isCell 2 (some .boolean) 2 := ⟨jm_in 566 rfl rfl, jw_n_RX5, jm_in 567 rfl rfl, rfl, ⟨by decide +kernel, by decide +kernel, by decide +kernel⟩, by decide +kernel⟩
def wX5_isCell : List Cond := Cond.code yX5_isCell cX5_isCell 2 (some .boolean) :: jm_W0
set_option maxRecDepth 100000 in
theorem okX5_isShot : jm_okS RX5 yX5_isShot cX5_isShot 5 (some .boolean) 5 := ⟨jm_in 376 rfl rfl, jw_n_RX5, jm_in 377 rfl rfl, rfl, ⟨by decide +kernel, by decide +kernel, by decide +kernel⟩, by decide +kernel⟩
def wX5_isShot : List Cond := Cond.code yX5_isShot cX5_isShot 5 (some .boolean) :: jm_W0
set_option maxRecDepth 100000 in
theorem okX5_distanceOf : jm_okS RX5 yX5_distanceOf cX5_distanceOf 3 (some .int) 1 := ⟨jm_in 460 rfl rfl, jw_n_RX5, jm_in 461 rfl rfl, rfl, ⟨by decide +kernel, by decide +kernel, by decide +kernel⟩, by decide +kernel⟩
def wX5_distanceOf : List Cond := Cond.code yX5_distanceOf cX5_distanceOf 3 (some .int) :: jm_W0
set_option maxRecDepth 100000 in
theorem okX5_gameOf : jm_okV RX5 yX5_gameOf cX5_gameOf 3 (some (.object "HackHouse$Game")) 1 := ⟨jm_in 372 rfl rfl, jm_in 1 rfl rfl, jw_n_RX5, jm_in 373 rfl rfl, rfl, ⟨by decide +kernel, by decide +kernel, by decide +kernel⟩, by decide +kernel⟩
def wX5_gameOf : List Cond := Cond.code yX5_gameOf cX5_gameOf 3 (some (.object "HackHouse$Game")) :: jm_W0
set_option maxRecDepth 100000 in
theorem okX5_sheetOf : jm_okV RX5 yX5_sheetOf cX5_sheetOf 3 (some (.object "HackHouse$Sheet")) 1 := ⟨jm_in 390 rfl rfl, jm_in 2 rfl rfl, jw_n_RX5, jm_in 391 rfl rfl, rfl, ⟨by decide +kernel, by decide +kernel, by decide +kernel⟩, by decide +kernel⟩
def wX5_sheetOf : List Cond := Cond.code yX5_sheetOf cX5_sheetOf 3 (some (.object "HackHouse$Sheet")) :: jm_W0
set_option maxRecDepth 100000 in
theorem okX5_teamOf : jm_okV RX5 yX5_teamOf cX5_teamOf 3 (some (.object "HackHouse$Team")) 1 := ⟨jm_in 475 rfl rfl, jm_in 4 rfl rfl, jw_n_RX5, jm_in 476 rfl rfl, rfl, ⟨by decide +kernel, by decide +kernel, by decide +kernel⟩, by decide +kernel⟩
def wX5_teamOf : List Cond := Cond.code yX5_teamOf cX5_teamOf 3 (some (.object "HackHouse$Team")) :: jm_W0
set_option maxRecDepth 100000 in
theorem okX5_settleDraw : jm_okV RX5 yX5_settleDraw cX5_settleDraw 4 none 2 := ⟨jm_in 470 rfl rfl, jm_in 3 rfl rfl, jw_n_RX5, jm_in 471 rfl rfl, rfl, ⟨by decide +kernel, by decide +kernel, by decide +kernel⟩, by decide +kernel⟩
def wX5_settleDraw : List Cond := Cond.code yX5_settleDraw cX5_settleDraw 4 none :: jm_W0
set_option maxRecDepth 100000 in
theorem okX5_settleStone : jm_okV RX5 yX5_settleStone cX5_settleStone 2 none 1 := ⟨jm_in 485 rfl rfl, jm_in 5 rfl rfl, jw_n_RX5, jm_in 486 rfl rfl, rfl, ⟨by decide +kernel, by decide +kernel, by decide +kernel⟩, by decide +kernel⟩
def wX5_settleStone : List Cond := Cond.code yX5_settleStone cX5_settleStone 2 none :: jm_W0
set_option maxRecDepth 100000 in
theorem okX5_closeGame : jm_okV RX5 yX5_closeGame cX5_closeGame 2 none 1 := ⟨jm_in 508 rfl rfl, jm_in 6 rfl rfl, jw_n_RX5, jm_in 509 rfl rfl, rfl, ⟨by decide +kernel, by decide +kernel, by decide +kernel⟩, by decide +kernel⟩
def wX5_closeGame : List Cond := Cond.code yX5_closeGame cX5_closeGame 2 none :: jm_W0
set_option maxRecDepth 100000 in
theorem okX5_workAnHour : jm_okV RX5 yX5_workAnHour cX5_workAnHour 1 none 0 := ⟨jm_in 520 rfl rfl, jm_in 7 rfl rfl, jw_n_RX5, jm_in 521 rfl rfl, rfl, ⟨by decide +kernel, by decide +kernel, by decide +kernel⟩, by decide +kernel⟩
def wX5_workAnHour : List Cond := Cond.code yX5_workAnHour cX5_workAnHour 1 none :: jm_W0
set_option maxRecDepth 100000 in
theorem okX5_sheetToMake : jm_okV RX5 yX5_sheetToMake cX5_sheetToMake 6 (some .int) 0 := ⟨jm_in 528 rfl rfl, jm_in 8 rfl rfl, jw_n_RX5, jm_in 529 rfl rfl, rfl, ⟨by decide +kernel, by decide +kernel, by decide +kernel⟩, by decide +kernel⟩
def wX5_sheetToMake : List Cond := Cond.code yX5_sheetToMake cX5_sheetToMake 6 (some .int) :: jm_W0
set_option maxRecDepth 100000 in
theorem okX5_leastHourWished : jm_okV RX5 yX5_leastHourWished cX5_leastHourWished 5 (some .int) 1 := ⟨jm_in 532 rfl rfl, jm_in 9 rfl rfl, jw_n_RX5, jm_in 533 rfl rfl, rfl, ⟨by decide +kernel, by decide +kernel, by decide +kernel⟩, by decide +kernel⟩
def wX5_leastHourWished : List Cond := Cond.code yX5_leastHourWished cX5_leastHourWished 5 (some .int) :: jm_W0
set_option maxRecDepth 100000 in
theorem okX5_beginGames : jm_okV RX5 yX5_beginGames cX5_beginGames 5 none 0 := ⟨jm_in 536 rfl rfl, jm_in 10 rfl rfl, jw_n_RX5, jm_in 537 rfl rfl, rfl, ⟨by decide +kernel, by decide +kernel, by decide +kernel⟩, by decide +kernel⟩
def wX5_beginGames : List Cond := Cond.code yX5_beginGames cX5_beginGames 5 none :: jm_W0
set_option maxRecDepth 100000 in
theorem okX5_sheetToPlay : jm_okV RX5 yX5_sheetToPlay cX5_sheetToPlay 3 (some .int) 1 := ⟨jm_in 540 rfl rfl, jm_in 11 rfl rfl, jw_n_RX5, jm_in 541 rfl rfl, rfl, ⟨by decide +kernel, by decide +kernel, by decide +kernel⟩, by decide +kernel⟩
def wX5_sheetToPlay : List Cond := Cond.code yX5_sheetToPlay cX5_sheetToPlay 3 (some .int) :: jm_W0
set_option maxRecDepth 100000 in
theorem okX5_worthOfShot : jm_okV RX5 yX5_worthOfShot cX5_worthOfShot 6 (some .int) 4 := ⟨jm_in 622 rfl rfl, jm_in 12 rfl rfl, jw_n_RX5, jm_in 623 rfl rfl, rfl, ⟨by decide +kernel, by decide +kernel, by decide +kernel⟩, by decide +kernel⟩
def wX5_worthOfShot : List Cond := Cond.code yX5_worthOfShot cX5_worthOfShot 6 (some .int) :: jm_W0
set_option maxRecDepth 100000 in
theorem okX5_worthOfTry : jm_okV RX5 yX5_worthOfTry cX5_worthOfTry 6 (some .int) 4 := ⟨jm_in 626 rfl rfl, jm_in 13 rfl rfl, jw_n_RX5, jm_in 627 rfl rfl, rfl, ⟨by decide +kernel, by decide +kernel, by decide +kernel⟩, by decide +kernel⟩
def wX5_worthOfTry : List Cond := Cond.code yX5_worthOfTry cX5_worthOfTry 6 (some .int) :: jm_W0
set_option maxRecDepth 100000 in
theorem okX5_teamsAheadOf : jm_okV RX5 yX5_teamsAheadOf cX5_teamsAheadOf 4 (some .int) 1 := ⟨jm_in 638 rfl rfl, jm_in 14 rfl rfl, jw_n_RX5, jm_in 639 rfl rfl, rfl, ⟨by decide +kernel, by decide +kernel, by decide +kernel⟩, by decide +kernel⟩
def wX5_teamsAheadOf : List Cond := Cond.code yX5_teamsAheadOf cX5_teamsAheadOf 4 (some .int) :: jm_W0
set_option maxRecDepth 100000 in
theorem okX5_isAhead : jm_okV RX5 yX5_isAhead cX5_isAhead 5 (some .boolean) 2 := ⟨jm_in 642 rfl rfl, jm_in 15 rfl rfl, jw_n_RX5, jm_in 643 rfl rfl, rfl, ⟨by decide +kernel, by decide +kernel, by decide +kernel⟩, by decide +kernel⟩
def wX5_isAhead : List Cond := Cond.code yX5_isAhead cX5_isAhead 5 (some .boolean) :: jm_W0
set_option maxRecDepth 100000 in
theorem okX6_init : jm_okI RX6 yX6_init cX6_init 2 0 := ⟨jm_in 658 rfl rfl, jw_n_RX6, jm_in 659 rfl rfl, rfl, rfl, ⟨by decide +kernel, by decide +kernel, by decide +kernel⟩, by decide +kernel⟩
def wX6_init : List Cond := Cond.code yX6_init cX6_init 2 none :: jm_W0
set_option maxRecDepth 100000 in
theorem okX6_thrown : jm_okV RX6 yX6_thrown cX6_thrown 1 (some .int) 0 := ⟨jm_in 748 rfl rfl, jm_in 749 rfl rfl, jw_n_RX6, jm_in 750 rfl rfl, rfl, ⟨by decide +kernel, by decide +kernel, by decide +kernel⟩, by decide +kernel⟩
def wX6_thrown : List Cond := Cond.code yX6_thrown cX6_thrown 1 (some .int) :: jm_W0
set_option maxRecDepth 100000 in
theorem okX6_asked : jm_okV RX6 yX6_asked cX6_asked 2 (some .boolean) 1 := ⟨jm_in 774 rfl rfl, jm_in 17 rfl rfl, jw_n_RX6, jm_in 775 rfl rfl, rfl, ⟨by decide +kernel, by decide +kernel, by decide +kernel⟩, by decide +kernel⟩
def wX6_asked : List Cond := Cond.code yX6_asked cX6_asked 2 (some .boolean) :: jm_W0
set_option maxRecDepth 100000 in
theorem okX6_asked_ : jm_okV RX6 yX6_asked_ cX6_asked_ 3 (some .boolean) 2 := ⟨jm_in 832 rfl rfl, jm_in 27 rfl rfl, jw_n_RX6, jm_in 833 rfl rfl, rfl, ⟨by decide +kernel, by decide +kernel, by decide +kernel⟩, by decide +kernel⟩
def wX6_asked_ : List Cond := Cond.code yX6_asked_ cX6_asked_ 3 (some .boolean) :: jm_W0
set_option maxRecDepth 100000 in
theorem okX6_asked__ : jm_okV RX6 yX6_asked__ cX6_asked__ 4 (some .boolean) 3 := ⟨jm_in 766 rfl rfl, jm_in 16 rfl rfl, jw_n_RX6, jm_in 767 rfl rfl, rfl, ⟨by decide +kernel, by decide +kernel, by decide +kernel⟩, by decide +kernel⟩
def wX6_asked__ : List Cond := Cond.code yX6_asked__ cX6_asked__ 4 (some .boolean) :: jm_W0
set_option maxRecDepth 100000 in
theorem okX6_in : jm_okS RX6 yX6_in cX6_in 3 (some .boolean) 3 := ⟨jm_in 759 rfl rfl, jw_n_RX6, jm_in 760 rfl rfl, rfl, ⟨by decide +kernel, by decide +kernel, by decide +kernel⟩, by decide +kernel⟩
def wX6_in : List Cond := Cond.code yX6_in cX6_in 3 (some .boolean) :: jm_W0
set_option maxRecDepth 100000 in
theorem okX6_isGame : jm_okV RX6 yX6_isGame cX6_isGame 2 (some .boolean) 1 := ⟨jm_in 782 rfl rfl, jm_in 18 rfl rfl, jw_n_RX6, jm_in 783 rfl rfl, rfl, ⟨by decide +kernel, by decide +kernel, by decide +kernel⟩, by decide +kernel⟩
def wX6_isGame : List Cond := Cond.code yX6_isGame cX6_isGame 2 (some .boolean) :: jm_W0
set_option maxRecDepth 100000 in
theorem okX6_isTeam : jm_okS RX6 yX6_isTeam cX6_isTeam 1 (some .boolean) 1 := ⟨jm_in 756 rfl rfl, jw_n_RX6, jm_in 757 rfl rfl, rfl, ⟨by decide +kernel, by decide +kernel, by decide +kernel⟩, by decide +kernel⟩
def wX6_isTeam : List Cond := Cond.code yX6_isTeam cX6_isTeam 1 (some .boolean) :: jm_W0
set_option maxRecDepth 100000 in
theorem okX6_isSheet : jm_okS RX6 yX6_isSheet cX6_isSheet 1 (some .boolean) 1 := ⟨jm_in 762 rfl rfl, jw_n_RX6, jm_in 763 rfl rfl, rfl, ⟨by decide +kernel, by decide +kernel, by decide +kernel⟩, by decide +kernel⟩
def wX6_isSheet : List Cond := Cond.code yX6_isSheet cX6_isSheet 1 (some .boolean) :: jm_W0
set_option maxRecDepth 100000 in
theorem okX6_plan : jm_okV RX6 yX6_plan cX6_plan 6 (some .int) 4 := ⟨jm_in 752 rfl rfl, jm_in 753 rfl rfl, jw_n_RX6, jm_in 754 rfl rfl, rfl, ⟨by decide +kernel, by decide +kernel, by decide +kernel⟩, by decide +kernel⟩
def wX6_plan : List Cond := Cond.code yX6_plan cX6_plan 6 (some .int) :: jm_W0
set_option maxRecDepth 100000 in
theorem okX6_crew : jm_okV RX6 yX6_crew cX6_crew 3 (some .int) 1 := ⟨jm_in 769 rfl rfl, jm_in 770 rfl rfl, jw_n_RX6, jm_in 771 rfl rfl, rfl, ⟨by decide +kernel, by decide +kernel, by decide +kernel⟩, by decide +kernel⟩
def wX6_crew : List Cond := Cond.code yX6_crew cX6_crew 3 (some .int) :: jm_W0
set_option maxRecDepth 100000 in
theorem okX6_takesUp : jm_okV RX6 yX6_takesUp cX6_takesUp 3 none 1 := ⟨jm_in 793 rfl rfl, jm_in 20 rfl rfl, jw_n_RX6, jm_in 794 rfl rfl, rfl, ⟨by decide +kernel, by decide +kernel, by decide +kernel⟩, by decide +kernel⟩
def wX6_takesUp : List Cond := Cond.code yX6_takesUp cX6_takesUp 3 none :: jm_W0
set_option maxRecDepth 100000 in
theorem okX6_stoneAt : jm_okV RX6 yX6_stoneAt cX6_stoneAt 5 (some .int) 2 := ⟨jm_in 809 rfl rfl, jm_in 24 rfl rfl, jw_n_RX6, jm_in 810 rfl rfl, rfl, ⟨by decide +kernel, by decide +kernel, by decide +kernel⟩, by decide +kernel⟩
def wX6_stoneAt : List Cond := Cond.code yX6_stoneAt cX6_stoneAt 5 (some .int) :: jm_W0
set_option maxRecDepth 100000 in
theorem okX6_goes : jm_okV RX6 yX6_goes cX6_goes 24 none 6 := ⟨jm_in 805 rfl rfl, jm_in 23 rfl rfl, jw_n_RX6, jm_in 806 rfl rfl, rfl, ⟨by decide +kernel, by decide +kernel, by decide +kernel⟩, by decide +kernel⟩
def wX6_goes : List Cond := Cond.code yX6_goes cX6_goes 24 none :: jm_W0
set_option maxRecDepth 100000 in
theorem okX6_distance : jm_okS RX6 yX6_distance cX6_distance 3 (some .int) 1 := ⟨jm_in 812 rfl rfl, jw_n_RX6, jm_in 813 rfl rfl, rfl, ⟨by decide +kernel, by decide +kernel, by decide +kernel⟩, by decide +kernel⟩
def wX6_distance : List Cond := Cond.code yX6_distance cX6_distance 3 (some .int) :: jm_W0
set_option maxRecDepth 100000 in
theorem okX6_scored : jm_okV RX6 yX6_scored cX6_scored 6 (some .int) 0 := ⟨jm_in 820 rfl rfl, jm_in 26 rfl rfl, jw_n_RX6, jm_in 821 rfl rfl, rfl, ⟨by decide +kernel, by decide +kernel, by decide +kernel⟩, by decide +kernel⟩
def wX6_scored : List Cond := Cond.code yX6_scored cX6_scored 6 (some .int) :: jm_W0
set_option maxRecDepth 100000 in
theorem okX6_turnOf : jm_okV RX6 yX6_turnOf cX6_turnOf 3 (some .int) 1 := ⟨jm_in 801 rfl rfl, jm_in 22 rfl rfl, jw_n_RX6, jm_in 802 rfl rfl, rfl, ⟨by decide +kernel, by decide +kernel, by decide +kernel⟩, by decide +kernel⟩
def wX6_turnOf : List Cond := Cond.code yX6_turnOf cX6_turnOf 3 (some .int) :: jm_W0
set_option maxRecDepth 100000 in
theorem okX6_slotOf : jm_okV RX6 yX6_slotOf cX6_slotOf 2 (some .int) 1 := ⟨jm_in 797 rfl rfl, jm_in 21 rfl rfl, jw_n_RX6, jm_in 798 rfl rfl, rfl, ⟨by decide +kernel, by decide +kernel, by decide +kernel⟩, by decide +kernel⟩
def wX6_slotOf : List Cond := Cond.code yX6_slotOf cX6_slotOf 2 (some .int) :: jm_W0
set_option maxRecDepth 100000 in
theorem okX6_isShot : jm_okS RX6 yX6_isShot cX6_isShot 5 (some .boolean) 5 := ⟨jm_in 785 rfl rfl, jw_n_RX6, jm_in 786 rfl rfl, rfl, ⟨by decide +kernel, by decide +kernel, by decide +kernel⟩, by decide +kernel⟩
def wX6_isShot : List Cond := Cond.code yX6_isShot cX6_isShot 5 (some .boolean) :: jm_W0
set_option maxRecDepth 100000 in
theorem okX6_throwsAt : jm_okV RX6 yX6_throwsAt cX6_throwsAt 2 (some .boolean) 1 := ⟨jm_in 789 rfl rfl, jm_in 19 rfl rfl, jw_n_RX6, jm_in 790 rfl rfl, rfl, ⟨by decide +kernel, by decide +kernel, by decide +kernel⟩, by decide +kernel⟩
def wX6_throwsAt : List Cond := Cond.code yX6_throwsAt cX6_throwsAt 2 (some .boolean) :: jm_W0
set_option maxRecDepth 100000 in
theorem okX6_ends : jm_okV RX6 yX6_ends cX6_ends 4 none 1 := ⟨jm_in 816 rfl rfl, jm_in 25 rfl rfl, jw_n_RX6, jm_in 817 rfl rfl, rfl, ⟨by decide +kernel, by decide +kernel, by decide +kernel⟩, by decide +kernel⟩
def wX6_ends : List Cond := Cond.code yX6_ends cX6_ends 4 none :: jm_W0
set_option maxRecDepth 100000 in
theorem okX6_shoot : jm_okV RX6 yX6_shoot cX6_shoot 12 (some .int) 6 := ⟨jm_in 777 rfl rfl, jm_in 778 rfl rfl, jw_n_RX6, jm_in 779 rfl rfl, rfl, ⟨by decide +kernel, by decide +kernel, by decide +kernel⟩, by decide +kernel⟩
def wX6_shoot : List Cond := Cond.code yX6_shoot cX6_shoot 12 (some .int) :: jm_W0
set_option maxRecDepth 100000 in
theorem okX6_tries : jm_okV RX6 yX6_tries cX6_tries 9 (some .int) 6 := ⟨jm_in 823 rfl rfl, jm_in 824 rfl rfl, jw_n_RX6, jm_in 825 rfl rfl, rfl, ⟨by decide +kernel, by decide +kernel, by decide +kernel⟩, by decide +kernel⟩
def wX6_tries : List Cond := Cond.code yX6_tries cX6_tries 9 (some .int) :: jm_W0
set_option maxRecDepth 100000 in
theorem okX6_isFree : jm_okV RX6 yX6_isFree cX6_isFree 2 (some .boolean) 1 := ⟨jm_in 844 rfl rfl, jm_in 30 rfl rfl, jw_n_RX6, jm_in 845 rfl rfl, rfl, ⟨by decide +kernel, by decide +kernel, by decide +kernel⟩, by decide +kernel⟩
def wX6_isFree : List Cond := Cond.code yX6_isFree cX6_isFree 2 (some .boolean) :: jm_W0
set_option maxRecDepth 100000 in
theorem okX6_wanted : jm_okV RX6 yX6_wanted cX6_wanted 6 (some .int) 0 := ⟨jm_in 840 rfl rfl, jm_in 29 rfl rfl, jw_n_RX6, jm_in 841 rfl rfl, rfl, ⟨by decide +kernel, by decide +kernel, by decide +kernel⟩, by decide +kernel⟩
def wX6_wanted : List Cond := Cond.code yX6_wanted cX6_wanted 6 (some .int) :: jm_W0
set_option maxRecDepth 100000 in
theorem okX6_begins : jm_okV RX6 yX6_begins cX6_begins 4 none 0 := ⟨jm_in 848 rfl rfl, jm_in 31 rfl rfl, jw_n_RX6, jm_in 849 rfl rfl, rfl, ⟨by decide +kernel, by decide +kernel, by decide +kernel⟩, by decide +kernel⟩
def wX6_begins : List Cond := Cond.code yX6_begins cX6_begins 4 none :: jm_W0
set_option maxRecDepth 100000 in
theorem okX6_passes : jm_okV RX6 yX6_passes cX6_passes 2 none 0 := ⟨jm_in 836 rfl rfl, jm_in 28 rfl rfl, jw_n_RX6, jm_in 837 rfl rfl, rfl, ⟨by decide +kernel, by decide +kernel, by decide +kernel⟩, by decide +kernel⟩
def wX6_passes : List Cond := Cond.code yX6_passes cX6_passes 2 none :: jm_W0
set_option maxRecDepth 100000 in
theorem okX6_pass : jm_okV RX6 yX6_pass cX6_pass 4 (some .int) 1 := ⟨jm_in 827 rfl rfl, jm_in 828 rfl rfl, jw_n_RX6, jm_in 829 rfl rfl, rfl, ⟨by decide +kernel, by decide +kernel, by decide +kernel⟩, by decide +kernel⟩
def wX6_pass : List Cond := Cond.code yX6_pass cX6_pass 4 (some .int) :: jm_W0
set_option maxRecDepth 100000 in
theorem okX6_hour : jm_okV RX6 yX6_hour cX6_hour 1 (some .int) 0 := ⟨jm_in 851 rfl rfl, jm_in 852 rfl rfl, jw_n_RX6, jm_in 853 rfl rfl, rfl, ⟨by decide +kernel, by decide +kernel, by decide +kernel⟩, by decide +kernel⟩
def wX6_hour : List Cond := Cond.code yX6_hour cX6_hour 1 (some .int) :: jm_W0
set_option maxRecDepth 100000 in
theorem okX6_ofSheet : jm_okV RX6 yX6_ofSheet cX6_ofSheet 5 (some .int) 2 := ⟨jm_in 855 rfl rfl, jm_in 856 rfl rfl, jw_n_RX6, jm_in 857 rfl rfl, rfl, ⟨by decide +kernel, by decide +kernel, by decide +kernel⟩, by decide +kernel⟩
def wX6_ofSheet : List Cond := Cond.code yX6_ofSheet cX6_ofSheet 5 (some .int) :: jm_W0
set_option maxRecDepth 100000 in
theorem okX6_wear : jm_okV RX6 yX6_wear cX6_wear 4 (some .int) 3 := ⟨jm_in 859 rfl rfl, jm_in 860 rfl rfl, jw_n_RX6, jm_in 861 rfl rfl, rfl, ⟨by decide +kernel, by decide +kernel, by decide +kernel⟩, by decide +kernel⟩
def wX6_wear : List Cond := Cond.code yX6_wear cX6_wear 4 (some .int) :: jm_W0
set_option maxRecDepth 100000 in
theorem okX6_ofGame : jm_okV RX6 yX6_ofGame cX6_ofGame 3 (some .int) 2 := ⟨jm_in 863 rfl rfl, jm_in 864 rfl rfl, jw_n_RX6, jm_in 865 rfl rfl, rfl, ⟨by decide +kernel, by decide +kernel, by decide +kernel⟩, by decide +kernel⟩
def wX6_ofGame : List Cond := Cond.code yX6_ofGame cX6_ofGame 3 (some .int) :: jm_W0
set_option maxRecDepth 100000 in
theorem okX6_stone : jm_okV RX6 yX6_stone cX6_stone 4 (some .int) 3 := ⟨jm_in 867 rfl rfl, jm_in 868 rfl rfl, jw_n_RX6, jm_in 869 rfl rfl, rfl, ⟨by decide +kernel, by decide +kernel, by decide +kernel⟩, by decide +kernel⟩
def wX6_stone : List Cond := Cond.code yX6_stone cX6_stone 4 (some .int) :: jm_W0
set_option maxRecDepth 100000 in
theorem okX6_scoreOf : jm_okV RX6 yX6_scoreOf cX6_scoreOf 3 (some .int) 1 := ⟨jm_in 876 rfl rfl, jm_in 32 rfl rfl, jw_n_RX6, jm_in 877 rfl rfl, rfl, ⟨by decide +kernel, by decide +kernel, by decide +kernel⟩, by decide +kernel⟩
def wX6_scoreOf : List Cond := Cond.code yX6_scoreOf cX6_scoreOf 3 (some .int) :: jm_W0
set_option maxRecDepth 100000 in
theorem okX6_wouldScore : jm_okV RX6 yX6_wouldScore cX6_wouldScore 2 (some .int) 1 := ⟨jm_in 871 rfl rfl, jm_in 872 rfl rfl, jw_n_RX6, jm_in 873 rfl rfl, rfl, ⟨by decide +kernel, by decide +kernel, by decide +kernel⟩, by decide +kernel⟩
def wX6_wouldScore : List Cond := Cond.code yX6_wouldScore cX6_wouldScore 2 (some .int) :: jm_W0
set_option maxRecDepth 100000 in
theorem okX6_wouldScoreAnew : jm_okV RX6 yX6_wouldScoreAnew cX6_wouldScoreAnew 2 (some .int) 1 := ⟨jm_in 879 rfl rfl, jm_in 880 rfl rfl, jw_n_RX6, jm_in 881 rfl rfl, rfl, ⟨by decide +kernel, by decide +kernel, by decide +kernel⟩, by decide +kernel⟩
def wX6_wouldScoreAnew : List Cond := Cond.code yX6_wouldScoreAnew cX6_wouldScoreAnew 2 (some .int) :: jm_W0
set_option maxRecDepth 100000 in
theorem okX6_worth : jm_okV RX6 yX6_worth cX6_worth 5 (some .int) 4 := ⟨jm_in 888 rfl rfl, jm_in 33 rfl rfl, jw_n_RX6, jm_in 889 rfl rfl, rfl, ⟨by decide +kernel, by decide +kernel, by decide +kernel⟩, by decide +kernel⟩
def wX6_worth : List Cond := Cond.code yX6_worth cX6_worth 5 (some .int) :: jm_W0
set_option maxRecDepth 100000 in
theorem okX6_advice : jm_okV RX6 yX6_advice cX6_advice 12 (some .int) 1 := ⟨jm_in 883 rfl rfl, jm_in 884 rfl rfl, jw_n_RX6, jm_in 885 rfl rfl, rfl, ⟨by decide +kernel, by decide +kernel, by decide +kernel⟩, by decide +kernel⟩
def wX6_advice : List Cond := Cond.code yX6_advice cX6_advice 12 (some .int) :: jm_W0
set_option maxRecDepth 100000 in
theorem okX6_average : jm_okV RX6 yX6_average cX6_average 2 (some .int) 1 := ⟨jm_in 896 rfl rfl, jm_in 34 rfl rfl, jw_n_RX6, jm_in 897 rfl rfl, rfl, ⟨by decide +kernel, by decide +kernel, by decide +kernel⟩, by decide +kernel⟩
def wX6_average : List Cond := Cond.code yX6_average cX6_average 2 (some .int) :: jm_W0
set_option maxRecDepth 100000 in
theorem okX6_standing : jm_okV RX6 yX6_standing cX6_standing 6 (some .int) 1 := ⟨jm_in 891 rfl rfl, jm_in 892 rfl rfl, jw_n_RX6, jm_in 893 rfl rfl, rfl, ⟨by decide +kernel, by decide +kernel, by decide +kernel⟩, by decide +kernel⟩
def wX6_standing : List Cond := Cond.code yX6_standing cX6_standing 6 (some .int) :: jm_W0
set_option maxRecDepth 100000 in
theorem okX6_ofTeam : jm_okV RX6 yX6_ofTeam cX6_ofTeam 3 (some .int) 2 := ⟨jm_in 899 rfl rfl, jm_in 900 rfl rfl, jw_n_RX6, jm_in 901 rfl rfl, rfl, ⟨by decide +kernel, by decide +kernel, by decide +kernel⟩, by decide +kernel⟩
def wX6_ofTeam : List Cond := Cond.code yX6_ofTeam cX6_ofTeam 3 (some .int) :: jm_W0
end
section
theorem dX0_init_0 : decode cX0_init 0 = .ok (.aload_n 0, 1) := by decide +kernel
theorem dX0_init_1 : decode cX0_init 1 = .ok (.invokespecial 3, 3) := by decide +kernel
theorem dX0_init_4 : decode cX0_init 4 = .ok (.aload_n 0, 1) := by decide +kernel
theorem dX0_init_5 : decode cX0_init 5 = .ok (.new 9, 3) := by decide +kernel
theorem dX0_init_8 : decode cX0_init 8 = .ok (.dup, 1) := by decide +kernel
theorem dX0_init_9 : decode cX0_init 9 = .ok (.invokespecial 11, 3) := by decide +kernel
theorem dX0_init_12 : decode cX0_init 12 = .ok (.putfield 12, 3) := by decide +kernel
theorem dX0_init_15 : decode cX0_init 15 = .ok (.aload_n 0, 1) := by decide +kernel
theorem dX0_init_16 : decode cX0_init 16 = .ok (.iconst 0, 1) := by decide +kernel
theorem dX0_init_17 : decode cX0_init 17 = .ok (.putfield 18, 3) := by decide +kernel
theorem dX0_init_20 : decode cX0_init 20 = .ok (.aload_n 0, 1) := by decide +kernel
theorem dX0_init_21 : decode cX0_init 21 = .ok (.iconst (-1), 1) := by decide +kernel
theorem dX0_init_22 : decode cX0_init 22 = .ok (.putfield 22, 3) := by decide +kernel
theorem dX0_init_25 : decode cX0_init 25 = .ok (.aload_n 0, 1) := by decide +kernel
theorem dX0_init_26 : decode cX0_init 26 = .ok (.iconst (-1), 1) := by decide +kernel
theorem dX0_init_27 : decode cX0_init 27 = .ok (.putfield 25, 3) := by decide +kernel
theorem dX0_init_30 : decode cX0_init 30 = .ok (.aload_n 0, 1) := by decide +kernel
theorem dX0_init_31 : decode cX0_init 31 = .ok (.iload_n 1, 1) := by decide +kernel
theorem dX0_init_32 : decode cX0_init 32 = .ok (.putfield 28, 3) := by decide +kernel
theorem dX0_init_35 : decode cX0_init 35 = .ok (.aload_n 0, 1) := by decide +kernel
theorem dX0_init_36 : decode cX0_init 36 = .ok (.iload_n 2, 1) := by decide +kernel
theorem dX0_init_37 : decode cX0_init 37 = .ok (.putfield 31, 3) := by decide +kernel
theorem dX0_init_40 : decode cX0_init 40 = .ok (.aload_n 0, 1) := by decide +kernel
theorem dX0_init_41 : decode cX0_init 41 = .ok (.iload_n 3, 1) := by decide +kernel
theorem dX0_init_42 : decode cX0_init 42 = .ok (.putfield 34, 3) := by decide +kernel
theorem dX0_init_45 : decode cX0_init 45 = .ok (.aload_n 0, 1) := by decide +kernel
theorem dX0_init_46 : decode cX0_init 46 = .ok (.iload 4, 2) := by decide +kernel
theorem dX0_init_48 : decode cX0_init 48 = .ok (.putfield 37, 3) := by decide +kernel
theorem dX0_init_51 : decode cX0_init 51 = .ok (.return_, 1) := by decide +kernel
theorem dX0_isOnSheet_0 : decode cX0_isOnSheet 0 = .ok (.aload_n 0, 1) := by decide +kernel
theorem dX0_isOnSheet_1 : decode cX0_isOnSheet 1 = .ok (.getfield 18, 3) := by decide +kernel
theorem dX0_isOnSheet_4 : decode cX0_isOnSheet 4 = .ok (.iconst 1, 1) := by decide +kernel
theorem dX0_isOnSheet_5 : decode cX0_isOnSheet 5 = .ok (.if_icmp .eq 11, 3) := by decide +kernel
theorem dX0_isOnSheet_8 : decode cX0_isOnSheet 8 = .ok (.aload_n 0, 1) := by decide +kernel
theorem dX0_isOnSheet_9 : decode cX0_isOnSheet 9 = .ok (.getfield 18, 3) := by decide +kernel
theorem dX0_isOnSheet_12 : decode cX0_isOnSheet 12 = .ok (.iconst 2, 1) := by decide +kernel
theorem dX0_isOnSheet_13 : decode cX0_isOnSheet 13 = .ok (.if_icmp .ne 7, 3) := by decide +kernel
theorem dX0_isOnSheet_16 : decode cX0_isOnSheet 16 = .ok (.iconst 1, 1) := by decide +kernel
theorem dX0_isOnSheet_17 : decode cX0_isOnSheet 17 = .ok (.goto 4, 3) := by decide +kernel
theorem dX0_isOnSheet_20 : decode cX0_isOnSheet 20 = .ok (.iconst 0, 1) := by decide +kernel
theorem dX0_isOnSheet_21 : decode cX0_isOnSheet 21 = .ok (.ireturn, 1) := by decide +kernel
theorem dX0_nextSide_0 : decode cX0_nextSide 0 = .ok (.aload_n 0, 1) := by decide +kernel
theorem dX0_nextSide_1 : decode cX0_nextSide 1 = .ok (.getfield 18, 3) := by decide +kernel
theorem dX0_nextSide_4 : decode cX0_nextSide 4 = .ok (.iconst 1, 1) := by decide +kernel
theorem dX0_nextSide_5 : decode cX0_nextSide 5 = .ok (.if_icmp .ne 8, 3) := by decide +kernel
theorem dX0_nextSide_8 : decode cX0_nextSide 8 = .ok (.aload_n 0, 1) := by decide +kernel
theorem dX0_nextSide_9 : decode cX0_nextSide 9 = .ok (.getfield 40, 3) := by decide +kernel
theorem dX0_nextSide_12 : decode cX0_nextSide 12 = .ok (.ireturn, 1) := by decide +kernel
theorem dX0_nextSide_13 : decode cX0_nextSide 13 = .ok (.aload_n 0, 1) := by decide +kernel
theorem dX0_nextSide_14 : decode cX0_nextSide 14 = .ok (.getfield 18, 3) := by decide +kernel
theorem dX0_nextSide_17 : decode cX0_nextSide 17 = .ok (.iconst 2, 1) := by decide +kernel
theorem dX0_nextSide_18 : decode cX0_nextSide 18 = .ok (.if_icmp .ne 26, 3) := by decide +kernel
theorem dX0_nextSide_21 : decode cX0_nextSide 21 = .ok (.aload_n 0, 1) := by decide +kernel
theorem dX0_nextSide_22 : decode cX0_nextSide 22 = .ok (.getfield 40, 3) := by decide +kernel
theorem dX0_nextSide_25 : decode cX0_nextSide 25 = .ok (.iconst 2, 1) := by decide +kernel
theorem dX0_nextSide_26 : decode cX0_nextSide 26 = .ok (.irem, 1) := by decide +kernel
theorem dX0_nextSide_27 : decode cX0_nextSide 27 = .ok (.ifCond .ne 12, 3) := by decide +kernel
theorem dX0_nextSide_30 : decode cX0_nextSide 30 = .ok (.iconst 1, 1) := by decide +kernel
theorem dX0_nextSide_31 : decode cX0_nextSide 31 = .ok (.aload_n 0, 1) := by decide +kernel
theorem dX0_nextSide_32 : decode cX0_nextSide 32 = .ok (.getfield 25, 3) := by decide +kernel
theorem dX0_nextSide_35 : decode cX0_nextSide 35 = .ok (.isub, 1) := by decide +kernel
theorem dX0_nextSide_36 : decode cX0_nextSide 36 = .ok (.goto 7, 3) := by decide +kernel
theorem dX0_nextSide_39 : decode cX0_nextSide 39 = .ok (.aload_n 0, 1) := by decide +kernel
theorem dX0_nextSide_40 : decode cX0_nextSide 40 = .ok (.getfield 25, 3) := by decide +kernel
theorem dX0_nextSide_43 : decode cX0_nextSide 43 = .ok (.ireturn, 1) := by decide +kernel
theorem dX0_nextSide_44 : decode cX0_nextSide 44 = .ok (.iconst (-1), 1) := by decide +kernel
theorem dX0_nextSide_45 : decode cX0_nextSide 45 = .ok (.ireturn, 1) := by decide +kernel
theorem dX0_nextStone_0 : decode cX0_nextStone 0 = .ok (.aload_n 0, 1) := by decide +kernel
theorem dX0_nextStone_1 : decode cX0_nextStone 1 = .ok (.invokevirtual 43, 3) := by decide +kernel
theorem dX0_nextStone_4 : decode cX0_nextStone 4 = .ok (.iconst 3, 1) := by decide +kernel
theorem dX0_nextStone_5 : decode cX0_nextStone 5 = .ok (.imul, 1) := by decide +kernel
theorem dX0_nextStone_6 : decode cX0_nextStone 6 = .ok (.aload_n 0, 1) := by decide +kernel
theorem dX0_nextStone_7 : decode cX0_nextStone 7 = .ok (.getfield 40, 3) := by decide +kernel
theorem dX0_nextStone_10 : decode cX0_nextStone 10 = .ok (.iconst 2, 1) := by decide +kernel
theorem dX0_nextStone_11 : decode cX0_nextStone 11 = .ok (.idiv, 1) := by decide +kernel
theorem dX0_nextStone_12 : decode cX0_nextStone 12 = .ok (.iadd, 1) := by decide +kernel
theorem dX0_nextStone_13 : decode cX0_nextStone 13 = .ok (.ireturn, 1) := by decide +kernel
theorem dX0_takeDraw_0 : decode cX0_takeDraw 0 = .ok (.aload_n 0, 1) := by decide +kernel
theorem dX0_takeDraw_1 : decode cX0_takeDraw 1 = .ok (.getfield 40, 3) := by decide +kernel
theorem dX0_takeDraw_4 : decode cX0_takeDraw 4 = .ok (.ifCond .ne 14, 3) := by decide +kernel
theorem dX0_takeDraw_7 : decode cX0_takeDraw 7 = .ok (.aload_n 0, 1) := by decide +kernel
theorem dX0_takeDraw_8 : decode cX0_takeDraw 8 = .ok (.iload_n 1, 1) := by decide +kernel
theorem dX0_takeDraw_9 : decode cX0_takeDraw 9 = .ok (.putfield 47, 3) := by decide +kernel
theorem dX0_takeDraw_12 : decode cX0_takeDraw 12 = .ok (.aload_n 0, 1) := by decide +kernel
theorem dX0_takeDraw_13 : decode cX0_takeDraw 13 = .ok (.iconst 1, 1) := by decide +kernel
theorem dX0_takeDraw_14 : decode cX0_takeDraw 14 = .ok (.putfield 40, 3) := by decide +kernel
theorem dX0_takeDraw_17 : decode cX0_takeDraw 17 = .ok (.return_, 1) := by decide +kernel
theorem dX0_takeDraw_18 : decode cX0_takeDraw 18 = .ok (.aload_n 0, 1) := by decide +kernel
theorem dX0_takeDraw_19 : decode cX0_takeDraw 19 = .ok (.aload_n 0, 1) := by decide +kernel
theorem dX0_takeDraw_20 : decode cX0_takeDraw 20 = .ok (.getfield 47, 3) := by decide +kernel
theorem dX0_takeDraw_23 : decode cX0_takeDraw 23 = .ok (.iload_n 1, 1) := by decide +kernel
theorem dX0_takeDraw_24 : decode cX0_takeDraw 24 = .ok (.if_icmp .ge 7, 3) := by decide +kernel
theorem dX0_takeDraw_27 : decode cX0_takeDraw 27 = .ok (.iconst 0, 1) := by decide +kernel
theorem dX0_takeDraw_28 : decode cX0_takeDraw 28 = .ok (.goto 4, 3) := by decide +kernel
theorem dX0_takeDraw_31 : decode cX0_takeDraw 31 = .ok (.iconst 1, 1) := by decide +kernel
theorem dX0_takeDraw_32 : decode cX0_takeDraw 32 = .ok (.putfield 25, 3) := by decide +kernel
theorem dX0_takeDraw_35 : decode cX0_takeDraw 35 = .ok (.aload_n 0, 1) := by decide +kernel
theorem dX0_takeDraw_36 : decode cX0_takeDraw 36 = .ok (.iconst 0, 1) := by decide +kernel
theorem dX0_takeDraw_37 : decode cX0_takeDraw 37 = .ok (.putfield 40, 3) := by decide +kernel
theorem dX0_takeDraw_40 : decode cX0_takeDraw 40 = .ok (.aload_n 0, 1) := by decide +kernel
theorem dX0_takeDraw_41 : decode cX0_takeDraw 41 = .ok (.iconst 2, 1) := by decide +kernel
theorem dX0_takeDraw_42 : decode cX0_takeDraw 42 = .ok (.putfield 18, 3) := by decide +kernel
theorem dX0_takeDraw_45 : decode cX0_takeDraw 45 = .ok (.return_, 1) := by decide +kernel
theorem dX0_closeEnd_0 : decode cX0_closeEnd 0 = .ok (.aload_n 0, 1) := by decide +kernel
theorem dX0_closeEnd_1 : decode cX0_closeEnd 1 = .ok (.getfield 12, 3) := by decide +kernel
theorem dX0_closeEnd_4 : decode cX0_closeEnd 4 = .ok (.invokevirtual 50, 3) := by decide +kernel
theorem dX0_closeEnd_7 : decode cX0_closeEnd 7 = .ok (.istore_n 1, 1) := by decide +kernel
theorem dX0_closeEnd_8 : decode cX0_closeEnd 8 = .ok (.iload_n 1, 1) := by decide +kernel
theorem dX0_closeEnd_9 : decode cX0_closeEnd 9 = .ok (.ifCond .le 21, 3) := by decide +kernel
theorem dX0_closeEnd_12 : decode cX0_closeEnd 12 = .ok (.aload_n 0, 1) := by decide +kernel
theorem dX0_closeEnd_13 : decode cX0_closeEnd 13 = .ok (.dup, 1) := by decide +kernel
theorem dX0_closeEnd_14 : decode cX0_closeEnd 14 = .ok (.getfield 53, 3) := by decide +kernel
theorem dX0_closeEnd_17 : decode cX0_closeEnd 17 = .ok (.iload_n 1, 1) := by decide +kernel
theorem dX0_closeEnd_18 : decode cX0_closeEnd 18 = .ok (.iadd, 1) := by decide +kernel
theorem dX0_closeEnd_19 : decode cX0_closeEnd 19 = .ok (.putfield 53, 3) := by decide +kernel
theorem dX0_closeEnd_22 : decode cX0_closeEnd 22 = .ok (.aload_n 0, 1) := by decide +kernel
theorem dX0_closeEnd_23 : decode cX0_closeEnd 23 = .ok (.iconst 1, 1) := by decide +kernel
theorem dX0_closeEnd_24 : decode cX0_closeEnd 24 = .ok (.putfield 25, 3) := by decide +kernel
theorem dX0_closeEnd_27 : decode cX0_closeEnd 27 = .ok (.goto 22, 3) := by decide +kernel
theorem dX0_closeEnd_30 : decode cX0_closeEnd 30 = .ok (.iload_n 1, 1) := by decide +kernel
theorem dX0_closeEnd_31 : decode cX0_closeEnd 31 = .ok (.ifCond .ge 18, 3) := by decide +kernel
theorem dX0_closeEnd_34 : decode cX0_closeEnd 34 = .ok (.aload_n 0, 1) := by decide +kernel
theorem dX0_closeEnd_35 : decode cX0_closeEnd 35 = .ok (.dup, 1) := by decide +kernel
theorem dX0_closeEnd_36 : decode cX0_closeEnd 36 = .ok (.getfield 56, 3) := by decide +kernel
theorem dX0_closeEnd_39 : decode cX0_closeEnd 39 = .ok (.iload_n 1, 1) := by decide +kernel
theorem dX0_closeEnd_40 : decode cX0_closeEnd 40 = .ok (.isub, 1) := by decide +kernel
theorem dX0_closeEnd_41 : decode cX0_closeEnd 41 = .ok (.putfield 56, 3) := by decide +kernel
theorem dX0_closeEnd_44 : decode cX0_closeEnd 44 = .ok (.aload_n 0, 1) := by decide +kernel
theorem dX0_closeEnd_45 : decode cX0_closeEnd 45 = .ok (.iconst 0, 1) := by decide +kernel
theorem dX0_closeEnd_46 : decode cX0_closeEnd 46 = .ok (.putfield 25, 3) := by decide +kernel
theorem dX0_closeEnd_49 : decode cX0_closeEnd 49 = .ok (.aload_n 0, 1) := by decide +kernel
theorem dX0_closeEnd_50 : decode cX0_closeEnd 50 = .ok (.getfield 12, 3) := by decide +kernel
theorem dX0_closeEnd_53 : decode cX0_closeEnd 53 = .ok (.invokevirtual 59, 3) := by decide +kernel
theorem dX0_closeEnd_56 : decode cX0_closeEnd 56 = .ok (.aload_n 0, 1) := by decide +kernel
theorem dX0_closeEnd_57 : decode cX0_closeEnd 57 = .ok (.iconst 0, 1) := by decide +kernel
theorem dX0_closeEnd_58 : decode cX0_closeEnd 58 = .ok (.putfield 40, 3) := by decide +kernel
theorem dX0_closeEnd_61 : decode cX0_closeEnd 61 = .ok (.aload_n 0, 1) := by decide +kernel
theorem dX0_closeEnd_62 : decode cX0_closeEnd 62 = .ok (.dup, 1) := by decide +kernel
theorem dX0_closeEnd_63 : decode cX0_closeEnd 63 = .ok (.getfield 62, 3) := by decide +kernel
theorem dX0_closeEnd_66 : decode cX0_closeEnd 66 = .ok (.iconst 1, 1) := by decide +kernel
theorem dX0_closeEnd_67 : decode cX0_closeEnd 67 = .ok (.iadd, 1) := by decide +kernel
theorem dX0_closeEnd_68 : decode cX0_closeEnd 68 = .ok (.putfield 62, 3) := by decide +kernel
theorem dX0_closeEnd_71 : decode cX0_closeEnd 71 = .ok (.return_, 1) := by decide +kernel
theorem dX1_init_0 : decode cX1_init 0 = .ok (.aload_n 0, 1) := by decide +kernel
theorem dX1_init_1 : decode cX1_init 1 = .ok (.invokespecial 3, 3) := by decide +kernel
theorem dX1_init_4 : decode cX1_init 4 = .ok (.aload_n 0, 1) := by decide +kernel
theorem dX1_init_5 : decode cX1_init 5 = .ok (.sipush 549, 3) := by decide +kernel
theorem dX1_init_8 : decode cX1_init 8 = .ok (.newarray .int, 2) := by decide +kernel
theorem dX1_init_10 : decode cX1_init 10 = .ok (.putfield 9, 3) := by decide +kernel
theorem dX1_init_13 : decode cX1_init 13 = .ok (.aload_n 0, 1) := by decide +kernel
theorem dX1_init_14 : decode cX1_init 14 = .ok (.iconst 1, 1) := by decide +kernel
theorem dX1_init_15 : decode cX1_init 15 = .ok (.putfield 15, 3) := by decide +kernel
theorem dX1_init_18 : decode cX1_init 18 = .ok (.aload_n 0, 1) := by decide +kernel
theorem dX1_init_19 : decode cX1_init 19 = .ok (.iconst (-1), 1) := by decide +kernel
theorem dX1_init_20 : decode cX1_init 20 = .ok (.putfield 19, 3) := by decide +kernel
theorem dX1_init_23 : decode cX1_init 23 = .ok (.return_, 1) := by decide +kernel
theorem dX1_isReady_0 : decode cX1_isReady 0 = .ok (.aload_n 0, 1) := by decide +kernel
theorem dX1_isReady_1 : decode cX1_isReady 1 = .ok (.getfield 15, 3) := by decide +kernel
theorem dX1_isReady_4 : decode cX1_isReady 4 = .ok (.ifCond .eq 15, 3) := by decide +kernel
theorem dX1_isReady_7 : decode cX1_isReady 7 = .ok (.aload_n 0, 1) := by decide +kernel
theorem dX1_isReady_8 : decode cX1_isReady 8 = .ok (.getfield 19, 3) := by decide +kernel
theorem dX1_isReady_11 : decode cX1_isReady 11 = .ok (.iconst (-1), 1) := by decide +kernel
theorem dX1_isReady_12 : decode cX1_isReady 12 = .ok (.if_icmp .ne 7, 3) := by decide +kernel
theorem dX1_isReady_15 : decode cX1_isReady 15 = .ok (.iconst 1, 1) := by decide +kernel
theorem dX1_isReady_16 : decode cX1_isReady 16 = .ok (.goto 4, 3) := by decide +kernel
theorem dX1_isReady_19 : decode cX1_isReady 19 = .ok (.iconst 0, 1) := by decide +kernel
theorem dX1_isReady_20 : decode cX1_isReady 20 = .ok (.ireturn, 1) := by decide +kernel
theorem dX1_wornAt_0 : decode cX1_wornAt 0 = .ok (.iload_n 1, 1) := by decide +kernel
theorem dX1_wornAt_1 : decode cX1_wornAt 1 = .ok (.bipush 61, 2) := by decide +kernel
theorem dX1_wornAt_3 : decode cX1_wornAt 3 = .ok (.imul, 1) := by decide +kernel
theorem dX1_wornAt_4 : decode cX1_wornAt 4 = .ok (.iload_n 2, 1) := by decide +kernel
theorem dX1_wornAt_5 : decode cX1_wornAt 5 = .ok (.iadd, 1) := by decide +kernel
theorem dX1_wornAt_6 : decode cX1_wornAt 6 = .ok (.istore_n 3, 1) := by decide +kernel
theorem dX1_wornAt_7 : decode cX1_wornAt 7 = .ok (.iload_n 3, 1) := by decide +kernel
theorem dX1_wornAt_8 : decode cX1_wornAt 8 = .ok (.ifCond .lt 21, 3) := by decide +kernel
theorem dX1_wornAt_11 : decode cX1_wornAt 11 = .ok (.iload_n 3, 1) := by decide +kernel
theorem dX1_wornAt_12 : decode cX1_wornAt 12 = .ok (.aload_n 0, 1) := by decide +kernel
theorem dX1_wornAt_13 : decode cX1_wornAt 13 = .ok (.getfield 9, 3) := by decide +kernel
theorem dX1_wornAt_16 : decode cX1_wornAt 16 = .ok (.arraylength, 1) := by decide +kernel
theorem dX1_wornAt_17 : decode cX1_wornAt 17 = .ok (.if_icmp .ge 12, 3) := by decide +kernel
theorem dX1_wornAt_20 : decode cX1_wornAt 20 = .ok (.aload_n 0, 1) := by decide +kernel
theorem dX1_wornAt_21 : decode cX1_wornAt 21 = .ok (.getfield 9, 3) := by decide +kernel
theorem dX1_wornAt_24 : decode cX1_wornAt 24 = .ok (.iload_n 3, 1) := by decide +kernel
theorem dX1_wornAt_25 : decode cX1_wornAt 25 = .ok (.iaload, 1) := by decide +kernel
theorem dX1_wornAt_26 : decode cX1_wornAt 26 = .ok (.goto 4, 3) := by decide +kernel
theorem dX1_wornAt_29 : decode cX1_wornAt 29 = .ok (.iconst 0, 1) := by decide +kernel
theorem dX1_wornAt_30 : decode cX1_wornAt 30 = .ok (.ireturn, 1) := by decide +kernel
theorem dX1_wearDown_0 : decode cX1_wearDown 0 = .ok (.iload_n 1, 1) := by decide +kernel
theorem dX1_wearDown_1 : decode cX1_wearDown 1 = .ok (.bipush 61, 2) := by decide +kernel
theorem dX1_wearDown_3 : decode cX1_wearDown 3 = .ok (.imul, 1) := by decide +kernel
theorem dX1_wearDown_4 : decode cX1_wearDown 4 = .ok (.iload_n 2, 1) := by decide +kernel
theorem dX1_wearDown_5 : decode cX1_wearDown 5 = .ok (.iadd, 1) := by decide +kernel
theorem dX1_wearDown_6 : decode cX1_wearDown 6 = .ok (.istore_n 3, 1) := by decide +kernel
theorem dX1_wearDown_7 : decode cX1_wearDown 7 = .ok (.iload_n 3, 1) := by decide +kernel
theorem dX1_wearDown_8 : decode cX1_wearDown 8 = .ok (.ifCond .lt 33, 3) := by decide +kernel
theorem dX1_wearDown_11 : decode cX1_wearDown 11 = .ok (.iload_n 3, 1) := by decide +kernel
theorem dX1_wearDown_12 : decode cX1_wearDown 12 = .ok (.aload_n 0, 1) := by decide +kernel
theorem dX1_wearDown_13 : decode cX1_wearDown 13 = .ok (.getfield 9, 3) := by decide +kernel
theorem dX1_wearDown_16 : decode cX1_wearDown 16 = .ok (.arraylength, 1) := by decide +kernel
theorem dX1_wearDown_17 : decode cX1_wearDown 17 = .ok (.if_icmp .ge 24, 3) := by decide +kernel
theorem dX1_wearDown_20 : decode cX1_wearDown 20 = .ok (.aload_n 0, 1) := by decide +kernel
theorem dX1_wearDown_21 : decode cX1_wearDown 21 = .ok (.getfield 9, 3) := by decide +kernel
theorem dX1_wearDown_24 : decode cX1_wearDown 24 = .ok (.iload_n 3, 1) := by decide +kernel
theorem dX1_wearDown_25 : decode cX1_wearDown 25 = .ok (.iaload, 1) := by decide +kernel
theorem dX1_wearDown_26 : decode cX1_wearDown 26 = .ok (.bipush 9, 2) := by decide +kernel
theorem dX1_wearDown_28 : decode cX1_wearDown 28 = .ok (.if_icmp .ge 13, 3) := by decide +kernel
theorem dX1_wearDown_31 : decode cX1_wearDown 31 = .ok (.aload_n 0, 1) := by decide +kernel
theorem dX1_wearDown_32 : decode cX1_wearDown 32 = .ok (.getfield 9, 3) := by decide +kernel
theorem dX1_wearDown_35 : decode cX1_wearDown 35 = .ok (.iload_n 3, 1) := by decide +kernel
theorem dX1_wearDown_36 : decode cX1_wearDown 36 = .ok (.dup2, 1) := by decide +kernel
theorem dX1_wearDown_37 : decode cX1_wearDown 37 = .ok (.iaload, 1) := by decide +kernel
theorem dX1_wearDown_38 : decode cX1_wearDown 38 = .ok (.iconst 1, 1) := by decide +kernel
theorem dX1_wearDown_39 : decode cX1_wearDown 39 = .ok (.iadd, 1) := by decide +kernel
theorem dX1_wearDown_40 : decode cX1_wearDown 40 = .ok (.iastore, 1) := by decide +kernel
theorem dX1_wearDown_41 : decode cX1_wearDown 41 = .ok (.return_, 1) := by decide +kernel
theorem dX1_allWorn_0 : decode cX1_allWorn 0 = .ok (.iconst 0, 1) := by decide +kernel
theorem dX1_allWorn_1 : decode cX1_allWorn 1 = .ok (.istore_n 1, 1) := by decide +kernel
theorem dX1_allWorn_2 : decode cX1_allWorn 2 = .ok (.iconst 0, 1) := by decide +kernel
theorem dX1_allWorn_3 : decode cX1_allWorn 3 = .ok (.istore_n 2, 1) := by decide +kernel
theorem dX1_allWorn_4 : decode cX1_allWorn 4 = .ok (.iload_n 2, 1) := by decide +kernel
theorem dX1_allWorn_5 : decode cX1_allWorn 5 = .ok (.aload_n 0, 1) := by decide +kernel
theorem dX1_allWorn_6 : decode cX1_allWorn 6 = .ok (.getfield 9, 3) := by decide +kernel
theorem dX1_allWorn_9 : decode cX1_allWorn 9 = .ok (.arraylength, 1) := by decide +kernel
theorem dX1_allWorn_10 : decode cX1_allWorn 10 = .ok (.if_icmp .ge 18, 3) := by decide +kernel
theorem dX1_allWorn_13 : decode cX1_allWorn 13 = .ok (.iload_n 1, 1) := by decide +kernel
theorem dX1_allWorn_14 : decode cX1_allWorn 14 = .ok (.aload_n 0, 1) := by decide +kernel
theorem dX1_allWorn_15 : decode cX1_allWorn 15 = .ok (.getfield 9, 3) := by decide +kernel
theorem dX1_allWorn_18 : decode cX1_allWorn 18 = .ok (.iload_n 2, 1) := by decide +kernel
theorem dX1_allWorn_19 : decode cX1_allWorn 19 = .ok (.iaload, 1) := by decide +kernel
theorem dX1_allWorn_20 : decode cX1_allWorn 20 = .ok (.iadd, 1) := by decide +kernel
theorem dX1_allWorn_21 : decode cX1_allWorn 21 = .ok (.istore_n 1, 1) := by decide +kernel
theorem dX1_allWorn_22 : decode cX1_allWorn 22 = .ok (.iinc 2 1, 3) := by decide +kernel
theorem dX1_allWorn_25 : decode cX1_allWorn 25 = .ok (.goto (-21), 3) := by decide +kernel
theorem dX1_allWorn_28 : decode cX1_allWorn 28 = .ok (.iload_n 1, 1) := by decide +kernel
theorem dX1_allWorn_29 : decode cX1_allWorn 29 = .ok (.ireturn, 1) := by decide +kernel
theorem dX1_renew_0 : decode cX1_renew 0 = .ok (.aload_n 0, 1) := by decide +kernel
theorem dX1_renew_1 : decode cX1_renew 1 = .ok (.iconst 1, 1) := by decide +kernel
theorem dX1_renew_2 : decode cX1_renew 2 = .ok (.putfield 15, 3) := by decide +kernel
theorem dX1_renew_5 : decode cX1_renew 5 = .ok (.iconst 0, 1) := by decide +kernel
theorem dX1_renew_6 : decode cX1_renew 6 = .ok (.istore_n 1, 1) := by decide +kernel
theorem dX1_renew_7 : decode cX1_renew 7 = .ok (.iload_n 1, 1) := by decide +kernel
theorem dX1_renew_8 : decode cX1_renew 8 = .ok (.aload_n 0, 1) := by decide +kernel
theorem dX1_renew_9 : decode cX1_renew 9 = .ok (.getfield 9, 3) := by decide +kernel
theorem dX1_renew_12 : decode cX1_renew 12 = .ok (.arraylength, 1) := by decide +kernel
theorem dX1_renew_13 : decode cX1_renew 13 = .ok (.if_icmp .ge 16, 3) := by decide +kernel
theorem dX1_renew_16 : decode cX1_renew 16 = .ok (.aload_n 0, 1) := by decide +kernel
theorem dX1_renew_17 : decode cX1_renew 17 = .ok (.getfield 9, 3) := by decide +kernel
theorem dX1_renew_20 : decode cX1_renew 20 = .ok (.iload_n 1, 1) := by decide +kernel
theorem dX1_renew_21 : decode cX1_renew 21 = .ok (.iconst 0, 1) := by decide +kernel
theorem dX1_renew_22 : decode cX1_renew 22 = .ok (.iastore, 1) := by decide +kernel
theorem dX1_renew_23 : decode cX1_renew 23 = .ok (.iinc 1 1, 3) := by decide +kernel
theorem dX1_renew_26 : decode cX1_renew 26 = .ok (.goto (-19), 3) := by decide +kernel
theorem dX1_renew_29 : decode cX1_renew 29 = .ok (.return_, 1) := by decide +kernel
theorem dX2_init_0 : decode cX2_init 0 = .ok (.aload_n 0, 1) := by decide +kernel
theorem dX2_init_1 : decode cX2_init 1 = .ok (.invokespecial 3, 3) := by decide +kernel
theorem dX2_init_4 : decode cX2_init 4 = .ok (.aload_n 0, 1) := by decide +kernel
theorem dX2_init_5 : decode cX2_init 5 = .ok (.new 9, 3) := by decide +kernel
theorem dX2_init_8 : decode cX2_init 8 = .ok (.dup, 1) := by decide +kernel
theorem dX2_init_9 : decode cX2_init 9 = .ok (.invokespecial 11, 3) := by decide +kernel
theorem dX2_init_12 : decode cX2_init 12 = .ok (.putfield 12, 3) := by decide +kernel
theorem dX2_init_15 : decode cX2_init 15 = .ok (.aload_n 0, 1) := by decide +kernel
theorem dX2_init_16 : decode cX2_init 16 = .ok (.iconst (-1), 1) := by decide +kernel
theorem dX2_init_17 : decode cX2_init 17 = .ok (.putfield 18, 3) := by decide +kernel
theorem dX2_init_20 : decode cX2_init 20 = .ok (.return_, 1) := by decide +kernel
theorem dX2_aim_0 : decode cX2_aim 0 = .ok (.aload_n 0, 1) := by decide +kernel
theorem dX2_aim_1 : decode cX2_aim 1 = .ok (.iload_n 1, 1) := by decide +kernel
theorem dX2_aim_2 : decode cX2_aim 2 = .ok (.putfield 22, 3) := by decide +kernel
theorem dX2_aim_5 : decode cX2_aim 5 = .ok (.aload_n 0, 1) := by decide +kernel
theorem dX2_aim_6 : decode cX2_aim 6 = .ok (.iconst 0, 1) := by decide +kernel
theorem dX2_aim_7 : decode cX2_aim 7 = .ok (.putfield 25, 3) := by decide +kernel
theorem dX2_aim_10 : decode cX2_aim 10 = .ok (.aload_n 0, 1) := by decide +kernel
theorem dX2_aim_11 : decode cX2_aim 11 = .ok (.bipush 10, 2) := by decide +kernel
theorem dX2_aim_13 : decode cX2_aim 13 = .ok (.iload_n 2, 1) := by decide +kernel
theorem dX2_aim_14 : decode cX2_aim 14 = .ok (.imul, 1) := by decide +kernel
theorem dX2_aim_15 : decode cX2_aim 15 = .ok (.putfield 28, 3) := by decide +kernel
theorem dX2_aim_18 : decode cX2_aim 18 = .ok (.aload_n 0, 1) := by decide +kernel
theorem dX2_aim_19 : decode cX2_aim 19 = .ok (.iload_n 3, 1) := by decide +kernel
theorem dX2_aim_20 : decode cX2_aim 20 = .ok (.putfield 31, 3) := by decide +kernel
theorem dX2_aim_23 : decode cX2_aim 23 = .ok (.aload_n 0, 1) := by decide +kernel
theorem dX2_aim_24 : decode cX2_aim 24 = .ok (.iload 4, 2) := by decide +kernel
theorem dX2_aim_26 : decode cX2_aim 26 = .ok (.putfield 34, 3) := by decide +kernel
theorem dX2_aim_29 : decode cX2_aim 29 = .ok (.aload_n 0, 1) := by decide +kernel
theorem dX2_aim_30 : decode cX2_aim 30 = .ok (.iload 5, 2) := by decide +kernel
theorem dX2_aim_32 : decode cX2_aim 32 = .ok (.putfield 37, 3) := by decide +kernel
theorem dX2_aim_35 : decode cX2_aim 35 = .ok (.return_, 1) := by decide +kernel
theorem dX2_run_0 : decode cX2_run 0 = .ok (.aload_n 0, 1) := by decide +kernel
theorem dX2_run_1 : decode cX2_run 1 = .ok (.getfield 12, 3) := by decide +kernel
theorem dX2_run_4 : decode cX2_run 4 = .ok (.aload_n 2, 1) := by decide +kernel
theorem dX2_run_5 : decode cX2_run 5 = .ok (.invokevirtual 40, 3) := by decide +kernel
theorem dX2_run_8 : decode cX2_run 8 = .ok (.aload_n 0, 1) := by decide +kernel
theorem dX2_run_9 : decode cX2_run 9 = .ok (.iload 4, 2) := by decide +kernel
theorem dX2_run_11 : decode cX2_run 11 = .ok (.putfield 44, 3) := by decide +kernel
theorem dX2_run_14 : decode cX2_run 14 = .ok (.aload_n 0, 1) := by decide +kernel
theorem dX2_run_15 : decode cX2_run 15 = .ok (.aload_n 1, 1) := by decide +kernel
theorem dX2_run_16 : decode cX2_run 16 = .ok (.invokevirtual 48, 3) := by decide +kernel
theorem dX2_run_19 : decode cX2_run 19 = .ok (.istore 5, 2) := by decide +kernel
theorem dX2_run_21 : decode cX2_run 21 = .ok (.aload_n 0, 1) := by decide +kernel
theorem dX2_run_22 : decode cX2_run 22 = .ok (.getfield 12, 3) := by decide +kernel
theorem dX2_run_25 : decode cX2_run 25 = .ok (.iload_n 3, 1) := by decide +kernel
theorem dX2_run_26 : decode cX2_run 26 = .ok (.iload 5, 2) := by decide +kernel
theorem dX2_run_28 : decode cX2_run 28 = .ok (.invokevirtual 52, 3) := by decide +kernel
theorem dX2_run_31 : decode cX2_run 31 = .ok (.iconst 0, 1) := by decide +kernel
theorem dX2_run_32 : decode cX2_run 32 = .ok (.istore 6, 2) := by decide +kernel
theorem dX2_run_34 : decode cX2_run 34 = .ok (.iload 6, 2) := by decide +kernel
theorem dX2_run_36 : decode cX2_run 36 = .ok (.bipush 6, 2) := by decide +kernel
theorem dX2_run_38 : decode cX2_run 38 = .ok (.if_icmp .ge 50, 3) := by decide +kernel
theorem dX2_run_41 : decode cX2_run 41 = .ok (.aload_n 0, 1) := by decide +kernel
theorem dX2_run_42 : decode cX2_run 42 = .ok (.getfield 18, 3) := by decide +kernel
theorem dX2_run_45 : decode cX2_run 45 = .ok (.iconst (-1), 1) := by decide +kernel
theorem dX2_run_46 : decode cX2_run 46 = .ok (.if_icmp .eq 42, 3) := by decide +kernel
theorem dX2_run_49 : decode cX2_run 49 = .ok (.aload_n 0, 1) := by decide +kernel
theorem dX2_run_50 : decode cX2_run 50 = .ok (.getfield 18, 3) := by decide +kernel
theorem dX2_run_53 : decode cX2_run 53 = .ok (.istore 7, 2) := by decide +kernel
theorem dX2_run_55 : decode cX2_run 55 = .ok (.aload_n 0, 1) := by decide +kernel
theorem dX2_run_56 : decode cX2_run 56 = .ok (.aload_n 0, 1) := by decide +kernel
theorem dX2_run_57 : decode cX2_run 57 = .ok (.getfield 12, 3) := by decide +kernel
theorem dX2_run_60 : decode cX2_run 60 = .ok (.iload 7, 2) := by decide +kernel
theorem dX2_run_62 : decode cX2_run 62 = .ok (.invokevirtual 56, 3) := by decide +kernel
theorem dX2_run_65 : decode cX2_run 65 = .ok (.invokevirtual 60, 3) := by decide +kernel
theorem dX2_run_68 : decode cX2_run 68 = .ok (.aload_n 0, 1) := by decide +kernel
theorem dX2_run_69 : decode cX2_run 69 = .ok (.getfield 12, 3) := by decide +kernel
theorem dX2_run_72 : decode cX2_run 72 = .ok (.iload 7, 2) := by decide +kernel
theorem dX2_run_74 : decode cX2_run 74 = .ok (.aload_n 0, 1) := by decide +kernel
theorem dX2_run_75 : decode cX2_run 75 = .ok (.aload_n 1, 1) := by decide +kernel
theorem dX2_run_76 : decode cX2_run 76 = .ok (.invokevirtual 48, 3) := by decide +kernel
theorem dX2_run_79 : decode cX2_run 79 = .ok (.invokevirtual 52, 3) := by decide +kernel
theorem dX2_run_82 : decode cX2_run 82 = .ok (.iinc 6 1, 3) := by decide +kernel
theorem dX2_run_85 : decode cX2_run 85 = .ok (.goto (-51), 3) := by decide +kernel
theorem dX2_run_88 : decode cX2_run 88 = .ok (.iload 5, 2) := by decide +kernel
theorem dX2_run_90 : decode cX2_run 90 = .ok (.ireturn, 1) := by decide +kernel
theorem dX2_aimPushed_0 : decode cX2_aimPushed 0 = .ok (.aload_n 0, 1) := by decide +kernel
theorem dX2_aimPushed_1 : decode cX2_aimPushed 1 = .ok (.iload_n 1, 1) := by decide +kernel
theorem dX2_aimPushed_2 : decode cX2_aimPushed 2 = .ok (.bipush 100, 2) := by decide +kernel
theorem dX2_aimPushed_4 : decode cX2_aimPushed 4 = .ok (.idiv, 1) := by decide +kernel
theorem dX2_aimPushed_5 : decode cX2_aimPushed 5 = .ok (.putfield 22, 3) := by decide +kernel
theorem dX2_aimPushed_8 : decode cX2_aimPushed 8 = .ok (.aload_n 0, 1) := by decide +kernel
theorem dX2_aimPushed_9 : decode cX2_aimPushed 9 = .ok (.iload_n 1, 1) := by decide +kernel
theorem dX2_aimPushed_10 : decode cX2_aimPushed 10 = .ok (.bipush 100, 2) := by decide +kernel
theorem dX2_aimPushed_12 : decode cX2_aimPushed 12 = .ok (.irem, 1) := by decide +kernel
theorem dX2_aimPushed_13 : decode cX2_aimPushed 13 = .ok (.putfield 25, 3) := by decide +kernel
theorem dX2_aimPushed_16 : decode cX2_aimPushed 16 = .ok (.aload_n 0, 1) := by decide +kernel
theorem dX2_aimPushed_17 : decode cX2_aimPushed 17 = .ok (.iconst 0, 1) := by decide +kernel
theorem dX2_aimPushed_18 : decode cX2_aimPushed 18 = .ok (.putfield 31, 3) := by decide +kernel
theorem dX2_aimPushed_21 : decode cX2_aimPushed 21 = .ok (.aload_n 0, 1) := by decide +kernel
theorem dX2_aimPushed_22 : decode cX2_aimPushed 22 = .ok (.iconst 1, 1) := by decide +kernel
theorem dX2_aimPushed_23 : decode cX2_aimPushed 23 = .ok (.putfield 34, 3) := by decide +kernel
theorem dX2_aimPushed_26 : decode cX2_aimPushed 26 = .ok (.aload_n 0, 1) := by decide +kernel
theorem dX2_aimPushed_27 : decode cX2_aimPushed 27 = .ok (.iconst 0, 1) := by decide +kernel
theorem dX2_aimPushed_28 : decode cX2_aimPushed 28 = .ok (.putfield 37, 3) := by decide +kernel
theorem dX2_aimPushed_31 : decode cX2_aimPushed 31 = .ok (.return_, 1) := by decide +kernel
theorem dX2_glide_0 : decode cX2_glide 0 = .ok (.aload_n 0, 1) := by decide +kernel
theorem dX2_glide_1 : decode cX2_glide 1 = .ok (.iconst (-1), 1) := by decide +kernel
theorem dX2_glide_2 : decode cX2_glide 2 = .ok (.putfield 18, 3) := by decide +kernel
theorem dX2_glide_5 : decode cX2_glide 5 = .ok (.aload_n 0, 1) := by decide +kernel
theorem dX2_glide_6 : decode cX2_glide 6 = .ok (.iconst 0, 1) := by decide +kernel
theorem dX2_glide_7 : decode cX2_glide 7 = .ok (.putfield 64, 3) := by decide +kernel
theorem dX2_glide_10 : decode cX2_glide 10 = .ok (.iconst 0, 1) := by decide +kernel
theorem dX2_glide_11 : decode cX2_glide 11 = .ok (.istore_n 2, 1) := by decide +kernel
theorem dX2_glide_12 : decode cX2_glide 12 = .ok (.iload_n 2, 1) := by decide +kernel
theorem dX2_glide_13 : decode cX2_glide 13 = .ok (.bipush 60, 2) := by decide +kernel
theorem dX2_glide_15 : decode cX2_glide 15 = .ok (.if_icmp .ge 75, 3) := by decide +kernel
theorem dX2_glide_18 : decode cX2_glide 18 = .ok (.aload_n 0, 1) := by decide +kernel
theorem dX2_glide_19 : decode cX2_glide 19 = .ok (.aload_n 1, 1) := by decide +kernel
theorem dX2_glide_20 : decode cX2_glide 20 = .ok (.invokevirtual 67, 3) := by decide +kernel
theorem dX2_glide_23 : decode cX2_glide 23 = .ok (.ifCond .ne 8, 3) := by decide +kernel
theorem dX2_glide_26 : decode cX2_glide 26 = .ok (.aload_n 0, 1) := by decide +kernel
theorem dX2_glide_27 : decode cX2_glide 27 = .ok (.invokevirtual 71, 3) := by decide +kernel
theorem dX2_glide_30 : decode cX2_glide 30 = .ok (.ireturn, 1) := by decide +kernel
theorem dX2_glide_31 : decode cX2_glide 31 = .ok (.aload_n 0, 1) := by decide +kernel
theorem dX2_glide_32 : decode cX2_glide 32 = .ok (.getfield 25, 3) := by decide +kernel
theorem dX2_glide_35 : decode cX2_glide 35 = .ok (.bipush 60, 2) := by decide +kernel
theorem dX2_glide_37 : decode cX2_glide 37 = .ok (.if_icmp .lt 5, 3) := by decide +kernel
theorem dX2_glide_40 : decode cX2_glide 40 = .ok (.iconst (-1), 1) := by decide +kernel
theorem dX2_glide_41 : decode cX2_glide 41 = .ok (.ireturn, 1) := by decide +kernel
theorem dX2_glide_42 : decode cX2_glide 42 = .ok (.aload_n 0, 1) := by decide +kernel
theorem dX2_glide_43 : decode cX2_glide 43 = .ok (.invokevirtual 75, 3) := by decide +kernel
theorem dX2_glide_46 : decode cX2_glide 46 = .ok (.ifCond .ne 6, 3) := by decide +kernel
theorem dX2_glide_49 : decode cX2_glide 49 = .ok (.goto 35, 3) := by decide +kernel
theorem dX2_glide_52 : decode cX2_glide 52 = .ok (.aload_n 0, 1) := by decide +kernel
theorem dX2_glide_53 : decode cX2_glide 53 = .ok (.getfield 22, 3) := by decide +kernel
theorem dX2_glide_56 : decode cX2_glide 56 = .ok (.aload_n 0, 1) := by decide +kernel
theorem dX2_glide_57 : decode cX2_glide 57 = .ok (.getfield 31, 3) := by decide +kernel
theorem dX2_glide_60 : decode cX2_glide 60 = .ok (.iadd, 1) := by decide +kernel
theorem dX2_glide_61 : decode cX2_glide 61 = .ok (.iconst 0, 1) := by decide +kernel
theorem dX2_glide_62 : decode cX2_glide 62 = .ok (.bipush 8, 2) := by decide +kernel
theorem dX2_glide_64 : decode cX2_glide 64 = .ok (.invokestatic 79, 3) := by decide +kernel
theorem dX2_glide_67 : decode cX2_glide 67 = .ok (.ifCond .ne 5, 3) := by decide +kernel
theorem dX2_glide_70 : decode cX2_glide 70 = .ok (.iconst (-1), 1) := by decide +kernel
theorem dX2_glide_71 : decode cX2_glide 71 = .ok (.ireturn, 1) := by decide +kernel
theorem dX2_glide_72 : decode cX2_glide 72 = .ok (.aload_n 0, 1) := by decide +kernel
theorem dX2_glide_73 : decode cX2_glide 73 = .ok (.invokevirtual 83, 3) := by decide +kernel
theorem dX2_glide_76 : decode cX2_glide 76 = .ok (.ifCond .ne 8, 3) := by decide +kernel
theorem dX2_glide_79 : decode cX2_glide 79 = .ok (.aload_n 0, 1) := by decide +kernel
theorem dX2_glide_80 : decode cX2_glide 80 = .ok (.invokevirtual 71, 3) := by decide +kernel
theorem dX2_glide_83 : decode cX2_glide 83 = .ok (.ireturn, 1) := by decide +kernel
theorem dX2_glide_84 : decode cX2_glide 84 = .ok (.iinc 2 1, 3) := by decide +kernel
theorem dX2_glide_87 : decode cX2_glide 87 = .ok (.goto (-75), 3) := by decide +kernel
theorem dX2_glide_90 : decode cX2_glide 90 = .ok (.iconst (-1), 1) := by decide +kernel
theorem dX2_glide_91 : decode cX2_glide 91 = .ok (.ireturn, 1) := by decide +kernel
theorem dX2_isSwept_0 : decode cX2_isSwept 0 = .ok (.iload_n 1, 1) := by decide +kernel
theorem dX2_isSwept_1 : decode cX2_isSwept 1 = .ok (.aload_n 0, 1) := by decide +kernel
theorem dX2_isSwept_2 : decode cX2_isSwept 2 = .ok (.getfield 34, 3) := by decide +kernel
theorem dX2_isSwept_5 : decode cX2_isSwept 5 = .ok (.aload_n 0, 1) := by decide +kernel
theorem dX2_isSwept_6 : decode cX2_isSwept 6 = .ok (.getfield 37, 3) := by decide +kernel
theorem dX2_isSwept_9 : decode cX2_isSwept 9 = .ok (.invokestatic 79, 3) := by decide +kernel
theorem dX2_isSwept_12 : decode cX2_isSwept 12 = .ok (.ireturn, 1) := by decide +kernel
theorem dX2_restingPlace_0 : decode cX2_restingPlace 0 = .ok (.aload_n 0, 1) := by decide +kernel
theorem dX2_restingPlace_1 : decode cX2_restingPlace 1 = .ok (.getfield 25, 3) := by decide +kernel
theorem dX2_restingPlace_4 : decode cX2_restingPlace 4 = .ok (.bipush 30, 2) := by decide +kernel
theorem dX2_restingPlace_6 : decode cX2_restingPlace 6 = .ok (.if_icmp .ge 7, 3) := by decide +kernel
theorem dX2_restingPlace_9 : decode cX2_restingPlace 9 = .ok (.iconst (-1), 1) := by decide +kernel
theorem dX2_restingPlace_10 : decode cX2_restingPlace 10 = .ok (.goto 15, 3) := by decide +kernel
theorem dX2_restingPlace_13 : decode cX2_restingPlace 13 = .ok (.bipush 100, 2) := by decide +kernel
theorem dX2_restingPlace_15 : decode cX2_restingPlace 15 = .ok (.aload_n 0, 1) := by decide +kernel
theorem dX2_restingPlace_16 : decode cX2_restingPlace 16 = .ok (.getfield 22, 3) := by decide +kernel
theorem dX2_restingPlace_19 : decode cX2_restingPlace 19 = .ok (.imul, 1) := by decide +kernel
theorem dX2_restingPlace_20 : decode cX2_restingPlace 20 = .ok (.aload_n 0, 1) := by decide +kernel
theorem dX2_restingPlace_21 : decode cX2_restingPlace 21 = .ok (.getfield 25, 3) := by decide +kernel
theorem dX2_restingPlace_24 : decode cX2_restingPlace 24 = .ok (.iadd, 1) := by decide +kernel
theorem dX2_restingPlace_25 : decode cX2_restingPlace 25 = .ok (.ireturn, 1) := by decide +kernel
theorem dX2_stepsForward_0 : decode cX2_stepsForward 0 = .ok (.aload_n 0, 1) := by decide +kernel
theorem dX2_stepsForward_1 : decode cX2_stepsForward 1 = .ok (.getfield 25, 3) := by decide +kernel
theorem dX2_stepsForward_4 : decode cX2_stepsForward 4 = .ok (.iconst 1, 1) := by decide +kernel
theorem dX2_stepsForward_5 : decode cX2_stepsForward 5 = .ok (.iadd, 1) := by decide +kernel
theorem dX2_stepsForward_6 : decode cX2_stepsForward 6 = .ok (.istore_n 2, 1) := by decide +kernel
theorem dX2_stepsForward_7 : decode cX2_stepsForward 7 = .ok (.bipush 10, 2) := by decide +kernel
theorem dX2_stepsForward_9 : decode cX2_stepsForward 9 = .ok (.aload_n 1, 1) := by decide +kernel
theorem dX2_stepsForward_10 : decode cX2_stepsForward 10 = .ok (.aload_n 0, 1) := by decide +kernel
theorem dX2_stepsForward_11 : decode cX2_stepsForward 11 = .ok (.getfield 22, 3) := by decide +kernel
theorem dX2_stepsForward_14 : decode cX2_stepsForward 14 = .ok (.iload_n 2, 1) := by decide +kernel
theorem dX2_stepsForward_15 : decode cX2_stepsForward 15 = .ok (.invokevirtual 86, 3) := by decide +kernel
theorem dX2_stepsForward_18 : decode cX2_stepsForward 18 = .ok (.iadd, 1) := by decide +kernel
theorem dX2_stepsForward_19 : decode cX2_stepsForward 19 = .ok (.aload_n 0, 1) := by decide +kernel
theorem dX2_stepsForward_20 : decode cX2_stepsForward 20 = .ok (.iload_n 2, 1) := by decide +kernel
theorem dX2_stepsForward_21 : decode cX2_stepsForward 21 = .ok (.invokevirtual 92, 3) := by decide +kernel
theorem dX2_stepsForward_24 : decode cX2_stepsForward 24 = .ok (.ifCond .eq 7, 3) := by decide +kernel
theorem dX2_stepsForward_27 : decode cX2_stepsForward 27 = .ok (.iconst 3, 1) := by decide +kernel
theorem dX2_stepsForward_28 : decode cX2_stepsForward 28 = .ok (.goto 4, 3) := by decide +kernel
theorem dX2_stepsForward_31 : decode cX2_stepsForward 31 = .ok (.iconst 0, 1) := by decide +kernel
theorem dX2_stepsForward_32 : decode cX2_stepsForward 32 = .ok (.isub, 1) := by decide +kernel
theorem dX2_stepsForward_33 : decode cX2_stepsForward 33 = .ok (.istore_n 3, 1) := by decide +kernel
theorem dX2_stepsForward_34 : decode cX2_stepsForward 34 = .ok (.aload_n 0, 1) := by decide +kernel
theorem dX2_stepsForward_35 : decode cX2_stepsForward 35 = .ok (.getfield 28, 3) := by decide +kernel
theorem dX2_stepsForward_38 : decode cX2_stepsForward 38 = .ok (.iload_n 3, 1) := by decide +kernel
theorem dX2_stepsForward_39 : decode cX2_stepsForward 39 = .ok (.if_icmp .ge 5, 3) := by decide +kernel
theorem dX2_stepsForward_42 : decode cX2_stepsForward 42 = .ok (.iconst 0, 1) := by decide +kernel
theorem dX2_stepsForward_43 : decode cX2_stepsForward 43 = .ok (.ireturn, 1) := by decide +kernel
theorem dX2_stepsForward_44 : decode cX2_stepsForward 44 = .ok (.aload_n 0, 1) := by decide +kernel
theorem dX2_stepsForward_45 : decode cX2_stepsForward 45 = .ok (.aload_n 0, 1) := by decide +kernel
theorem dX2_stepsForward_46 : decode cX2_stepsForward 46 = .ok (.getfield 12, 3) := by decide +kernel
theorem dX2_stepsForward_49 : decode cX2_stepsForward 49 = .ok (.aload_n 0, 1) := by decide +kernel
theorem dX2_stepsForward_50 : decode cX2_stepsForward 50 = .ok (.getfield 22, 3) := by decide +kernel
theorem dX2_stepsForward_53 : decode cX2_stepsForward 53 = .ok (.iload_n 2, 1) := by decide +kernel
theorem dX2_stepsForward_54 : decode cX2_stepsForward 54 = .ok (.invokevirtual 96, 3) := by decide +kernel
theorem dX2_stepsForward_57 : decode cX2_stepsForward 57 = .ok (.putfield 18, 3) := by decide +kernel
theorem dX2_stepsForward_60 : decode cX2_stepsForward 60 = .ok (.aload_n 0, 1) := by decide +kernel
theorem dX2_stepsForward_61 : decode cX2_stepsForward 61 = .ok (.getfield 18, 3) := by decide +kernel
theorem dX2_stepsForward_64 : decode cX2_stepsForward 64 = .ok (.iconst (-1), 1) := by decide +kernel
theorem dX2_stepsForward_65 : decode cX2_stepsForward 65 = .ok (.if_icmp .eq 17, 3) := by decide +kernel
theorem dX2_stepsForward_68 : decode cX2_stepsForward 68 = .ok (.aload_n 0, 1) := by decide +kernel
theorem dX2_stepsForward_69 : decode cX2_stepsForward 69 = .ok (.aload_n 0, 1) := by decide +kernel
theorem dX2_stepsForward_70 : decode cX2_stepsForward 70 = .ok (.getfield 28, 3) := by decide +kernel
theorem dX2_stepsForward_73 : decode cX2_stepsForward 73 = .ok (.iconst 3, 1) := by decide +kernel
theorem dX2_stepsForward_74 : decode cX2_stepsForward 74 = .ok (.imul, 1) := by decide +kernel
theorem dX2_stepsForward_75 : decode cX2_stepsForward 75 = .ok (.iconst 4, 1) := by decide +kernel
theorem dX2_stepsForward_76 : decode cX2_stepsForward 76 = .ok (.idiv, 1) := by decide +kernel
theorem dX2_stepsForward_77 : decode cX2_stepsForward 77 = .ok (.putfield 28, 3) := by decide +kernel
theorem dX2_stepsForward_80 : decode cX2_stepsForward 80 = .ok (.iconst 0, 1) := by decide +kernel
theorem dX2_stepsForward_81 : decode cX2_stepsForward 81 = .ok (.ireturn, 1) := by decide +kernel
theorem dX2_stepsForward_82 : decode cX2_stepsForward 82 = .ok (.aload_n 0, 1) := by decide +kernel
theorem dX2_stepsForward_83 : decode cX2_stepsForward 83 = .ok (.iload_n 2, 1) := by decide +kernel
theorem dX2_stepsForward_84 : decode cX2_stepsForward 84 = .ok (.putfield 25, 3) := by decide +kernel
theorem dX2_stepsForward_87 : decode cX2_stepsForward 87 = .ok (.aload_n 0, 1) := by decide +kernel
theorem dX2_stepsForward_88 : decode cX2_stepsForward 88 = .ok (.dup, 1) := by decide +kernel
theorem dX2_stepsForward_89 : decode cX2_stepsForward 89 = .ok (.getfield 28, 3) := by decide +kernel
theorem dX2_stepsForward_92 : decode cX2_stepsForward 92 = .ok (.iload_n 3, 1) := by decide +kernel
theorem dX2_stepsForward_93 : decode cX2_stepsForward 93 = .ok (.isub, 1) := by decide +kernel
theorem dX2_stepsForward_94 : decode cX2_stepsForward 94 = .ok (.putfield 28, 3) := by decide +kernel
theorem dX2_stepsForward_97 : decode cX2_stepsForward 97 = .ok (.aload_n 0, 1) := by decide +kernel
theorem dX2_stepsForward_98 : decode cX2_stepsForward 98 = .ok (.getfield 44, 3) := by decide +kernel
theorem dX2_stepsForward_101 : decode cX2_stepsForward 101 = .ok (.ifCond .eq 12, 3) := by decide +kernel
theorem dX2_stepsForward_104 : decode cX2_stepsForward 104 = .ok (.aload_n 1, 1) := by decide +kernel
theorem dX2_stepsForward_105 : decode cX2_stepsForward 105 = .ok (.aload_n 0, 1) := by decide +kernel
theorem dX2_stepsForward_106 : decode cX2_stepsForward 106 = .ok (.getfield 22, 3) := by decide +kernel
theorem dX2_stepsForward_109 : decode cX2_stepsForward 109 = .ok (.iload_n 2, 1) := by decide +kernel
theorem dX2_stepsForward_110 : decode cX2_stepsForward 110 = .ok (.invokevirtual 99, 3) := by decide +kernel
theorem dX2_stepsForward_113 : decode cX2_stepsForward 113 = .ok (.iconst 1, 1) := by decide +kernel
theorem dX2_stepsForward_114 : decode cX2_stepsForward 114 = .ok (.ireturn, 1) := by decide +kernel
theorem dX2_mustMoveAside_0 : decode cX2_mustMoveAside 0 = .ok (.aload_n 0, 1) := by decide +kernel
theorem dX2_mustMoveAside_1 : decode cX2_mustMoveAside 1 = .ok (.getfield 31, 3) := by decide +kernel
theorem dX2_mustMoveAside_4 : decode cX2_mustMoveAside 4 = .ok (.ifCond .eq 14, 3) := by decide +kernel
theorem dX2_mustMoveAside_7 : decode cX2_mustMoveAside 7 = .ok (.aload_n 0, 1) := by decide +kernel
theorem dX2_mustMoveAside_8 : decode cX2_mustMoveAside 8 = .ok (.aload_n 0, 1) := by decide +kernel
theorem dX2_mustMoveAside_9 : decode cX2_mustMoveAside 9 = .ok (.getfield 25, 3) := by decide +kernel
theorem dX2_mustMoveAside_12 : decode cX2_mustMoveAside 12 = .ok (.invokevirtual 92, 3) := by decide +kernel
theorem dX2_mustMoveAside_15 : decode cX2_mustMoveAside 15 = .ok (.ifCond .eq 5, 3) := by decide +kernel
theorem dX2_mustMoveAside_18 : decode cX2_mustMoveAside 18 = .ok (.iconst 0, 1) := by decide +kernel
theorem dX2_mustMoveAside_19 : decode cX2_mustMoveAside 19 = .ok (.ireturn, 1) := by decide +kernel
theorem dX2_mustMoveAside_20 : decode cX2_mustMoveAside 20 = .ok (.aload_n 0, 1) := by decide +kernel
theorem dX2_mustMoveAside_21 : decode cX2_mustMoveAside 21 = .ok (.dup, 1) := by decide +kernel
theorem dX2_mustMoveAside_22 : decode cX2_mustMoveAside 22 = .ok (.getfield 64, 3) := by decide +kernel
theorem dX2_mustMoveAside_25 : decode cX2_mustMoveAside 25 = .ok (.iconst 1, 1) := by decide +kernel
theorem dX2_mustMoveAside_26 : decode cX2_mustMoveAside 26 = .ok (.iadd, 1) := by decide +kernel
theorem dX2_mustMoveAside_27 : decode cX2_mustMoveAside 27 = .ok (.putfield 64, 3) := by decide +kernel
theorem dX2_mustMoveAside_30 : decode cX2_mustMoveAside 30 = .ok (.aload_n 0, 1) := by decide +kernel
theorem dX2_mustMoveAside_31 : decode cX2_mustMoveAside 31 = .ok (.getfield 64, 3) := by decide +kernel
theorem dX2_mustMoveAside_34 : decode cX2_mustMoveAside 34 = .ok (.bipush 12, 2) := by decide +kernel
theorem dX2_mustMoveAside_36 : decode cX2_mustMoveAside 36 = .ok (.if_icmp .ge 22, 3) := by decide +kernel
theorem dX2_mustMoveAside_39 : decode cX2_mustMoveAside 39 = .ok (.aload_n 0, 1) := by decide +kernel
theorem dX2_mustMoveAside_40 : decode cX2_mustMoveAside 40 = .ok (.getfield 28, 3) := by decide +kernel
theorem dX2_mustMoveAside_43 : decode cX2_mustMoveAside 43 = .ok (.sipush 300, 3) := by decide +kernel
theorem dX2_mustMoveAside_46 : decode cX2_mustMoveAside 46 = .ok (.if_icmp .ge 16, 3) := by decide +kernel
theorem dX2_mustMoveAside_49 : decode cX2_mustMoveAside 49 = .ok (.aload_n 0, 1) := by decide +kernel
theorem dX2_mustMoveAside_50 : decode cX2_mustMoveAside 50 = .ok (.getfield 64, 3) := by decide +kernel
theorem dX2_mustMoveAside_53 : decode cX2_mustMoveAside 53 = .ok (.bipush 6, 2) := by decide +kernel
theorem dX2_mustMoveAside_55 : decode cX2_mustMoveAside 55 = .ok (.if_icmp .lt 7, 3) := by decide +kernel
theorem dX2_mustMoveAside_58 : decode cX2_mustMoveAside 58 = .ok (.iconst 1, 1) := by decide +kernel
theorem dX2_mustMoveAside_59 : decode cX2_mustMoveAside 59 = .ok (.goto 4, 3) := by decide +kernel
theorem dX2_mustMoveAside_62 : decode cX2_mustMoveAside 62 = .ok (.iconst 0, 1) := by decide +kernel
theorem dX2_mustMoveAside_63 : decode cX2_mustMoveAside 63 = .ok (.ireturn, 1) := by decide +kernel
theorem dX2_movesAside_0 : decode cX2_movesAside 0 = .ok (.aload_n 0, 1) := by decide +kernel
theorem dX2_movesAside_1 : decode cX2_movesAside 1 = .ok (.aload_n 0, 1) := by decide +kernel
theorem dX2_movesAside_2 : decode cX2_movesAside 2 = .ok (.getfield 12, 3) := by decide +kernel
theorem dX2_movesAside_5 : decode cX2_movesAside 5 = .ok (.aload_n 0, 1) := by decide +kernel
theorem dX2_movesAside_6 : decode cX2_movesAside 6 = .ok (.getfield 22, 3) := by decide +kernel
theorem dX2_movesAside_9 : decode cX2_movesAside 9 = .ok (.aload_n 0, 1) := by decide +kernel
theorem dX2_movesAside_10 : decode cX2_movesAside 10 = .ok (.getfield 31, 3) := by decide +kernel
theorem dX2_movesAside_13 : decode cX2_movesAside 13 = .ok (.iadd, 1) := by decide +kernel
theorem dX2_movesAside_14 : decode cX2_movesAside 14 = .ok (.aload_n 0, 1) := by decide +kernel
theorem dX2_movesAside_15 : decode cX2_movesAside 15 = .ok (.getfield 25, 3) := by decide +kernel
theorem dX2_movesAside_18 : decode cX2_movesAside 18 = .ok (.invokevirtual 96, 3) := by decide +kernel
theorem dX2_movesAside_21 : decode cX2_movesAside 21 = .ok (.putfield 18, 3) := by decide +kernel
theorem dX2_movesAside_24 : decode cX2_movesAside 24 = .ok (.aload_n 0, 1) := by decide +kernel
theorem dX2_movesAside_25 : decode cX2_movesAside 25 = .ok (.getfield 18, 3) := by decide +kernel
theorem dX2_movesAside_28 : decode cX2_movesAside 28 = .ok (.iconst (-1), 1) := by decide +kernel
theorem dX2_movesAside_29 : decode cX2_movesAside 29 = .ok (.if_icmp .eq 15, 3) := by decide +kernel
theorem dX2_movesAside_32 : decode cX2_movesAside 32 = .ok (.aload_n 0, 1) := by decide +kernel
theorem dX2_movesAside_33 : decode cX2_movesAside 33 = .ok (.dup, 1) := by decide +kernel
theorem dX2_movesAside_34 : decode cX2_movesAside 34 = .ok (.getfield 28, 3) := by decide +kernel
theorem dX2_movesAside_37 : decode cX2_movesAside 37 = .ok (.iconst 2, 1) := by decide +kernel
theorem dX2_movesAside_38 : decode cX2_movesAside 38 = .ok (.idiv, 1) := by decide +kernel
theorem dX2_movesAside_39 : decode cX2_movesAside 39 = .ok (.putfield 28, 3) := by decide +kernel
theorem dX2_movesAside_42 : decode cX2_movesAside 42 = .ok (.iconst 0, 1) := by decide +kernel
theorem dX2_movesAside_43 : decode cX2_movesAside 43 = .ok (.ireturn, 1) := by decide +kernel
theorem dX2_movesAside_44 : decode cX2_movesAside 44 = .ok (.aload_n 0, 1) := by decide +kernel
theorem dX2_movesAside_45 : decode cX2_movesAside 45 = .ok (.dup, 1) := by decide +kernel
theorem dX2_movesAside_46 : decode cX2_movesAside 46 = .ok (.getfield 22, 3) := by decide +kernel
theorem dX2_movesAside_49 : decode cX2_movesAside 49 = .ok (.aload_n 0, 1) := by decide +kernel
theorem dX2_movesAside_50 : decode cX2_movesAside 50 = .ok (.getfield 31, 3) := by decide +kernel
theorem dX2_movesAside_53 : decode cX2_movesAside 53 = .ok (.iadd, 1) := by decide +kernel
theorem dX2_movesAside_54 : decode cX2_movesAside 54 = .ok (.putfield 22, 3) := by decide +kernel
theorem dX2_movesAside_57 : decode cX2_movesAside 57 = .ok (.aload_n 0, 1) := by decide +kernel
theorem dX2_movesAside_58 : decode cX2_movesAside 58 = .ok (.iconst 0, 1) := by decide +kernel
theorem dX2_movesAside_59 : decode cX2_movesAside 59 = .ok (.putfield 64, 3) := by decide +kernel
theorem dX2_movesAside_62 : decode cX2_movesAside 62 = .ok (.iconst 1, 1) := by decide +kernel
theorem dX2_movesAside_63 : decode cX2_movesAside 63 = .ok (.ireturn, 1) := by decide +kernel
theorem dX3_init_0 : decode cX3_init 0 = .ok (.aload_n 0, 1) := by decide +kernel
theorem dX3_init_1 : decode cX3_init 1 = .ok (.invokespecial 3, 3) := by decide +kernel
theorem dX3_init_4 : decode cX3_init 4 = .ok (.aload_n 0, 1) := by decide +kernel
theorem dX3_init_5 : decode cX3_init 5 = .ok (.bipush 6, 2) := by decide +kernel
theorem dX3_init_7 : decode cX3_init 7 = .ok (.newarray .int, 2) := by decide +kernel
theorem dX3_init_9 : decode cX3_init 9 = .ok (.putfield 9, 3) := by decide +kernel
theorem dX3_init_12 : decode cX3_init 12 = .ok (.aload_n 0, 1) := by decide +kernel
theorem dX3_init_13 : decode cX3_init 13 = .ok (.invokevirtual 15, 3) := by decide +kernel
theorem dX3_init_16 : decode cX3_init 16 = .ok (.return_, 1) := by decide +kernel
theorem dX3_takeAway_0 : decode cX3_takeAway 0 = .ok (.iconst 0, 1) := by decide +kernel
theorem dX3_takeAway_1 : decode cX3_takeAway 1 = .ok (.istore_n 1, 1) := by decide +kernel
theorem dX3_takeAway_2 : decode cX3_takeAway 2 = .ok (.iload_n 1, 1) := by decide +kernel
theorem dX3_takeAway_3 : decode cX3_takeAway 3 = .ok (.aload_n 0, 1) := by decide +kernel
theorem dX3_takeAway_4 : decode cX3_takeAway 4 = .ok (.getfield 9, 3) := by decide +kernel
theorem dX3_takeAway_7 : decode cX3_takeAway 7 = .ok (.arraylength, 1) := by decide +kernel
theorem dX3_takeAway_8 : decode cX3_takeAway 8 = .ok (.if_icmp .ge 16, 3) := by decide +kernel
theorem dX3_takeAway_11 : decode cX3_takeAway 11 = .ok (.aload_n 0, 1) := by decide +kernel
theorem dX3_takeAway_12 : decode cX3_takeAway 12 = .ok (.getfield 9, 3) := by decide +kernel
theorem dX3_takeAway_15 : decode cX3_takeAway 15 = .ok (.iload_n 1, 1) := by decide +kernel
theorem dX3_takeAway_16 : decode cX3_takeAway 16 = .ok (.iconst (-1), 1) := by decide +kernel
theorem dX3_takeAway_17 : decode cX3_takeAway 17 = .ok (.iastore, 1) := by decide +kernel
theorem dX3_takeAway_18 : decode cX3_takeAway 18 = .ok (.iinc 1 1, 3) := by decide +kernel
theorem dX3_takeAway_21 : decode cX3_takeAway 21 = .ok (.goto (-19), 3) := by decide +kernel
theorem dX3_takeAway_24 : decode cX3_takeAway 24 = .ok (.return_, 1) := by decide +kernel
theorem dX3_copyFrom_0 : decode cX3_copyFrom 0 = .ok (.iconst 0, 1) := by decide +kernel
theorem dX3_copyFrom_1 : decode cX3_copyFrom 1 = .ok (.istore_n 2, 1) := by decide +kernel
theorem dX3_copyFrom_2 : decode cX3_copyFrom 2 = .ok (.iload_n 2, 1) := by decide +kernel
theorem dX3_copyFrom_3 : decode cX3_copyFrom 3 = .ok (.aload_n 0, 1) := by decide +kernel
theorem dX3_copyFrom_4 : decode cX3_copyFrom 4 = .ok (.getfield 9, 3) := by decide +kernel
theorem dX3_copyFrom_7 : decode cX3_copyFrom 7 = .ok (.arraylength, 1) := by decide +kernel
theorem dX3_copyFrom_8 : decode cX3_copyFrom 8 = .ok (.if_icmp .ge 20, 3) := by decide +kernel
theorem dX3_copyFrom_11 : decode cX3_copyFrom 11 = .ok (.aload_n 0, 1) := by decide +kernel
theorem dX3_copyFrom_12 : decode cX3_copyFrom 12 = .ok (.getfield 9, 3) := by decide +kernel
theorem dX3_copyFrom_15 : decode cX3_copyFrom 15 = .ok (.iload_n 2, 1) := by decide +kernel
theorem dX3_copyFrom_16 : decode cX3_copyFrom 16 = .ok (.aload_n 1, 1) := by decide +kernel
theorem dX3_copyFrom_17 : decode cX3_copyFrom 17 = .ok (.iload_n 2, 1) := by decide +kernel
theorem dX3_copyFrom_18 : decode cX3_copyFrom 18 = .ok (.invokevirtual 18, 3) := by decide +kernel
theorem dX3_copyFrom_21 : decode cX3_copyFrom 21 = .ok (.iastore, 1) := by decide +kernel
theorem dX3_copyFrom_22 : decode cX3_copyFrom 22 = .ok (.iinc 2 1, 3) := by decide +kernel
theorem dX3_copyFrom_25 : decode cX3_copyFrom 25 = .ok (.goto (-23), 3) := by decide +kernel
theorem dX3_copyFrom_28 : decode cX3_copyFrom 28 = .ok (.return_, 1) := by decide +kernel
theorem dX3_placeOf_0 : decode cX3_placeOf 0 = .ok (.iload_n 1, 1) := by decide +kernel
theorem dX3_placeOf_1 : decode cX3_placeOf 1 = .ok (.ifCond .lt 21, 3) := by decide +kernel
theorem dX3_placeOf_4 : decode cX3_placeOf 4 = .ok (.iload_n 1, 1) := by decide +kernel
theorem dX3_placeOf_5 : decode cX3_placeOf 5 = .ok (.aload_n 0, 1) := by decide +kernel
theorem dX3_placeOf_6 : decode cX3_placeOf 6 = .ok (.getfield 9, 3) := by decide +kernel
theorem dX3_placeOf_9 : decode cX3_placeOf 9 = .ok (.arraylength, 1) := by decide +kernel
theorem dX3_placeOf_10 : decode cX3_placeOf 10 = .ok (.if_icmp .ge 12, 3) := by decide +kernel
theorem dX3_placeOf_13 : decode cX3_placeOf 13 = .ok (.aload_n 0, 1) := by decide +kernel
theorem dX3_placeOf_14 : decode cX3_placeOf 14 = .ok (.getfield 9, 3) := by decide +kernel
theorem dX3_placeOf_17 : decode cX3_placeOf 17 = .ok (.iload_n 1, 1) := by decide +kernel
theorem dX3_placeOf_18 : decode cX3_placeOf 18 = .ok (.iaload, 1) := by decide +kernel
theorem dX3_placeOf_19 : decode cX3_placeOf 19 = .ok (.goto 4, 3) := by decide +kernel
theorem dX3_placeOf_22 : decode cX3_placeOf 22 = .ok (.iconst (-1), 1) := by decide +kernel
theorem dX3_placeOf_23 : decode cX3_placeOf 23 = .ok (.ireturn, 1) := by decide +kernel
theorem dX3_put_0 : decode cX3_put 0 = .ok (.iload_n 1, 1) := by decide +kernel
theorem dX3_put_1 : decode cX3_put 1 = .ok (.ifCond .lt 19, 3) := by decide +kernel
theorem dX3_put_4 : decode cX3_put 4 = .ok (.iload_n 1, 1) := by decide +kernel
theorem dX3_put_5 : decode cX3_put 5 = .ok (.aload_n 0, 1) := by decide +kernel
theorem dX3_put_6 : decode cX3_put 6 = .ok (.getfield 9, 3) := by decide +kernel
theorem dX3_put_9 : decode cX3_put 9 = .ok (.arraylength, 1) := by decide +kernel
theorem dX3_put_10 : decode cX3_put 10 = .ok (.if_icmp .ge 10, 3) := by decide +kernel
theorem dX3_put_13 : decode cX3_put 13 = .ok (.aload_n 0, 1) := by decide +kernel
theorem dX3_put_14 : decode cX3_put 14 = .ok (.getfield 9, 3) := by decide +kernel
theorem dX3_put_17 : decode cX3_put 17 = .ok (.iload_n 1, 1) := by decide +kernel
theorem dX3_put_18 : decode cX3_put 18 = .ok (.iload_n 2, 1) := by decide +kernel
theorem dX3_put_19 : decode cX3_put 19 = .ok (.iastore, 1) := by decide +kernel
theorem dX3_put_20 : decode cX3_put 20 = .ok (.return_, 1) := by decide +kernel
theorem dX3_lyingAt_0 : decode cX3_lyingAt 0 = .ok (.iload_n 2, 1) := by decide +kernel
theorem dX3_lyingAt_1 : decode cX3_lyingAt 1 = .ok (.bipush 30, 2) := by decide +kernel
theorem dX3_lyingAt_3 : decode cX3_lyingAt 3 = .ok (.if_icmp .ge 5, 3) := by decide +kernel
theorem dX3_lyingAt_6 : decode cX3_lyingAt 6 = .ok (.iconst (-1), 1) := by decide +kernel
theorem dX3_lyingAt_7 : decode cX3_lyingAt 7 = .ok (.ireturn, 1) := by decide +kernel
theorem dX3_lyingAt_8 : decode cX3_lyingAt 8 = .ok (.bipush 100, 2) := by decide +kernel
theorem dX3_lyingAt_10 : decode cX3_lyingAt 10 = .ok (.iload_n 1, 1) := by decide +kernel
theorem dX3_lyingAt_11 : decode cX3_lyingAt 11 = .ok (.imul, 1) := by decide +kernel
theorem dX3_lyingAt_12 : decode cX3_lyingAt 12 = .ok (.iload_n 2, 1) := by decide +kernel
theorem dX3_lyingAt_13 : decode cX3_lyingAt 13 = .ok (.iadd, 1) := by decide +kernel
theorem dX3_lyingAt_14 : decode cX3_lyingAt 14 = .ok (.istore_n 3, 1) := by decide +kernel
theorem dX3_lyingAt_15 : decode cX3_lyingAt 15 = .ok (.iconst 0, 1) := by decide +kernel
theorem dX3_lyingAt_16 : decode cX3_lyingAt 16 = .ok (.istore 4, 2) := by decide +kernel
theorem dX3_lyingAt_18 : decode cX3_lyingAt 18 = .ok (.iload 4, 2) := by decide +kernel
theorem dX3_lyingAt_20 : decode cX3_lyingAt 20 = .ok (.aload_n 0, 1) := by decide +kernel
theorem dX3_lyingAt_21 : decode cX3_lyingAt 21 = .ok (.getfield 9, 3) := by decide +kernel
theorem dX3_lyingAt_24 : decode cX3_lyingAt 24 = .ok (.arraylength, 1) := by decide +kernel
theorem dX3_lyingAt_25 : decode cX3_lyingAt 25 = .ok (.if_icmp .ge 23, 3) := by decide +kernel
theorem dX3_lyingAt_28 : decode cX3_lyingAt 28 = .ok (.aload_n 0, 1) := by decide +kernel
theorem dX3_lyingAt_29 : decode cX3_lyingAt 29 = .ok (.getfield 9, 3) := by decide +kernel
theorem dX3_lyingAt_32 : decode cX3_lyingAt 32 = .ok (.iload 4, 2) := by decide +kernel
theorem dX3_lyingAt_34 : decode cX3_lyingAt 34 = .ok (.iaload, 1) := by decide +kernel
theorem dX3_lyingAt_35 : decode cX3_lyingAt 35 = .ok (.iload_n 3, 1) := by decide +kernel
theorem dX3_lyingAt_36 : decode cX3_lyingAt 36 = .ok (.if_icmp .ne 6, 3) := by decide +kernel
theorem dX3_lyingAt_39 : decode cX3_lyingAt 39 = .ok (.iload 4, 2) := by decide +kernel
theorem dX3_lyingAt_41 : decode cX3_lyingAt 41 = .ok (.ireturn, 1) := by decide +kernel
theorem dX3_lyingAt_42 : decode cX3_lyingAt 42 = .ok (.iinc 4 1, 3) := by decide +kernel
theorem dX3_lyingAt_45 : decode cX3_lyingAt 45 = .ok (.goto (-27), 3) := by decide +kernel
theorem dX3_lyingAt_48 : decode cX3_lyingAt 48 = .ok (.iconst (-1), 1) := by decide +kernel
theorem dX3_lyingAt_49 : decode cX3_lyingAt 49 = .ok (.ireturn, 1) := by decide +kernel
theorem dX3_score_0 : decode cX3_score 0 = .ok (.aload_n 0, 1) := by decide +kernel
theorem dX3_score_1 : decode cX3_score 1 = .ok (.iconst 0, 1) := by decide +kernel
theorem dX3_score_2 : decode cX3_score 2 = .ok (.invokevirtual 22, 3) := by decide +kernel
theorem dX3_score_5 : decode cX3_score 5 = .ok (.istore_n 1, 1) := by decide +kernel
theorem dX3_score_6 : decode cX3_score 6 = .ok (.aload_n 0, 1) := by decide +kernel
theorem dX3_score_7 : decode cX3_score 7 = .ok (.iconst 3, 1) := by decide +kernel
theorem dX3_score_8 : decode cX3_score 8 = .ok (.invokevirtual 22, 3) := by decide +kernel
theorem dX3_score_11 : decode cX3_score 11 = .ok (.istore_n 2, 1) := by decide +kernel
theorem dX3_score_12 : decode cX3_score 12 = .ok (.iload_n 1, 1) := by decide +kernel
theorem dX3_score_13 : decode cX3_score 13 = .ok (.iload_n 2, 1) := by decide +kernel
theorem dX3_score_14 : decode cX3_score 14 = .ok (.if_icmp .ge 10, 3) := by decide +kernel
theorem dX3_score_17 : decode cX3_score 17 = .ok (.aload_n 0, 1) := by decide +kernel
theorem dX3_score_18 : decode cX3_score 18 = .ok (.iconst 0, 1) := by decide +kernel
theorem dX3_score_19 : decode cX3_score 19 = .ok (.iload_n 2, 1) := by decide +kernel
theorem dX3_score_20 : decode cX3_score 20 = .ok (.invokevirtual 25, 3) := by decide +kernel
theorem dX3_score_23 : decode cX3_score 23 = .ok (.ireturn, 1) := by decide +kernel
theorem dX3_score_24 : decode cX3_score 24 = .ok (.iload_n 2, 1) := by decide +kernel
theorem dX3_score_25 : decode cX3_score 25 = .ok (.iload_n 1, 1) := by decide +kernel
theorem dX3_score_26 : decode cX3_score 26 = .ok (.if_icmp .ge 13, 3) := by decide +kernel
theorem dX3_score_29 : decode cX3_score 29 = .ok (.aload_n 0, 1) := by decide +kernel
theorem dX3_score_30 : decode cX3_score 30 = .ok (.iconst 3, 1) := by decide +kernel
theorem dX3_score_31 : decode cX3_score 31 = .ok (.iload_n 1, 1) := by decide +kernel
theorem dX3_score_32 : decode cX3_score 32 = .ok (.invokevirtual 25, 3) := by decide +kernel
theorem dX3_score_35 : decode cX3_score 35 = .ok (.ineg, 1) := by decide +kernel
theorem dX3_score_36 : decode cX3_score 36 = .ok (.goto 4, 3) := by decide +kernel
theorem dX3_score_39 : decode cX3_score 39 = .ok (.iconst 0, 1) := by decide +kernel
theorem dX3_score_40 : decode cX3_score 40 = .ok (.ireturn, 1) := by decide +kernel
theorem dX3_nearest_0 : decode cX3_nearest 0 = .ok (.bipush 11, 2) := by decide +kernel
theorem dX3_nearest_2 : decode cX3_nearest 2 = .ok (.istore_n 2, 1) := by decide +kernel
theorem dX3_nearest_3 : decode cX3_nearest 3 = .ok (.iconst 0, 1) := by decide +kernel
theorem dX3_nearest_4 : decode cX3_nearest 4 = .ok (.istore_n 3, 1) := by decide +kernel
theorem dX3_nearest_5 : decode cX3_nearest 5 = .ok (.iload_n 3, 1) := by decide +kernel
theorem dX3_nearest_6 : decode cX3_nearest 6 = .ok (.iconst 3, 1) := by decide +kernel
theorem dX3_nearest_7 : decode cX3_nearest 7 = .ok (.if_icmp .ge 24, 3) := by decide +kernel
theorem dX3_nearest_10 : decode cX3_nearest 10 = .ok (.iload_n 2, 1) := by decide +kernel
theorem dX3_nearest_11 : decode cX3_nearest 11 = .ok (.aload_n 0, 1) := by decide +kernel
theorem dX3_nearest_12 : decode cX3_nearest 12 = .ok (.iload_n 1, 1) := by decide +kernel
theorem dX3_nearest_13 : decode cX3_nearest 13 = .ok (.iload_n 3, 1) := by decide +kernel
theorem dX3_nearest_14 : decode cX3_nearest 14 = .ok (.iadd, 1) := by decide +kernel
theorem dX3_nearest_15 : decode cX3_nearest 15 = .ok (.invokevirtual 18, 3) := by decide +kernel
theorem dX3_nearest_18 : decode cX3_nearest 18 = .ok (.invokestatic 29, 3) := by decide +kernel
theorem dX3_nearest_21 : decode cX3_nearest 21 = .ok (.invokestatic 32, 3) := by decide +kernel
theorem dX3_nearest_24 : decode cX3_nearest 24 = .ok (.istore_n 2, 1) := by decide +kernel
theorem dX3_nearest_25 : decode cX3_nearest 25 = .ok (.iinc 3 1, 3) := by decide +kernel
theorem dX3_nearest_28 : decode cX3_nearest 28 = .ok (.goto (-23), 3) := by decide +kernel
theorem dX3_nearest_31 : decode cX3_nearest 31 = .ok (.iload_n 2, 1) := by decide +kernel
theorem dX3_nearest_32 : decode cX3_nearest 32 = .ok (.ireturn, 1) := by decide +kernel
theorem dX3_countNearer_0 : decode cX3_countNearer 0 = .ok (.iconst 0, 1) := by decide +kernel
theorem dX3_countNearer_1 : decode cX3_countNearer 1 = .ok (.istore_n 3, 1) := by decide +kernel
theorem dX3_countNearer_2 : decode cX3_countNearer 2 = .ok (.iconst 0, 1) := by decide +kernel
theorem dX3_countNearer_3 : decode cX3_countNearer 3 = .ok (.istore 4, 2) := by decide +kernel
theorem dX3_countNearer_5 : decode cX3_countNearer 5 = .ok (.iload 4, 2) := by decide +kernel
theorem dX3_countNearer_7 : decode cX3_countNearer 7 = .ok (.iconst 3, 1) := by decide +kernel
theorem dX3_countNearer_8 : decode cX3_countNearer 8 = .ok (.if_icmp .ge 27, 3) := by decide +kernel
theorem dX3_countNearer_11 : decode cX3_countNearer 11 = .ok (.aload_n 0, 1) := by decide +kernel
theorem dX3_countNearer_12 : decode cX3_countNearer 12 = .ok (.iload_n 1, 1) := by decide +kernel
theorem dX3_countNearer_13 : decode cX3_countNearer 13 = .ok (.iload 4, 2) := by decide +kernel
theorem dX3_countNearer_15 : decode cX3_countNearer 15 = .ok (.iadd, 1) := by decide +kernel
theorem dX3_countNearer_16 : decode cX3_countNearer 16 = .ok (.invokevirtual 18, 3) := by decide +kernel
theorem dX3_countNearer_19 : decode cX3_countNearer 19 = .ok (.invokestatic 29, 3) := by decide +kernel
theorem dX3_countNearer_22 : decode cX3_countNearer 22 = .ok (.iload_n 2, 1) := by decide +kernel
theorem dX3_countNearer_23 : decode cX3_countNearer 23 = .ok (.if_icmp .ge 6, 3) := by decide +kernel
theorem dX3_countNearer_26 : decode cX3_countNearer 26 = .ok (.iinc 3 1, 3) := by decide +kernel
theorem dX3_countNearer_29 : decode cX3_countNearer 29 = .ok (.iinc 4 1, 3) := by decide +kernel
theorem dX3_countNearer_32 : decode cX3_countNearer 32 = .ok (.goto (-27), 3) := by decide +kernel
theorem dX3_countNearer_35 : decode cX3_countNearer 35 = .ok (.iload_n 3, 1) := by decide +kernel
theorem dX3_countNearer_36 : decode cX3_countNearer 36 = .ok (.ireturn, 1) := by decide +kernel
theorem dX3_scoreOneByOne_0 : decode cX3_scoreOneByOne 0 = .ok (.iconst 0, 1) := by decide +kernel
theorem dX3_scoreOneByOne_1 : decode cX3_scoreOneByOne 1 = .ok (.istore_n 1, 1) := by decide +kernel
theorem dX3_scoreOneByOne_2 : decode cX3_scoreOneByOne 2 = .ok (.iconst 0, 1) := by decide +kernel
theorem dX3_scoreOneByOne_3 : decode cX3_scoreOneByOne 3 = .ok (.istore_n 2, 1) := by decide +kernel
theorem dX3_scoreOneByOne_4 : decode cX3_scoreOneByOne 4 = .ok (.iload_n 2, 1) := by decide +kernel
theorem dX3_scoreOneByOne_5 : decode cX3_scoreOneByOne 5 = .ok (.bipush 6, 2) := by decide +kernel
theorem dX3_scoreOneByOne_7 : decode cX3_scoreOneByOne 7 = .ok (.if_icmp .ge 73, 3) := by decide +kernel
theorem dX3_scoreOneByOne_10 : decode cX3_scoreOneByOne 10 = .ok (.iload_n 2, 1) := by decide +kernel
theorem dX3_scoreOneByOne_11 : decode cX3_scoreOneByOne 11 = .ok (.iconst 3, 1) := by decide +kernel
theorem dX3_scoreOneByOne_12 : decode cX3_scoreOneByOne 12 = .ok (.if_icmp .ge 7, 3) := by decide +kernel
theorem dX3_scoreOneByOne_15 : decode cX3_scoreOneByOne 15 = .ok (.iconst 1, 1) := by decide +kernel
theorem dX3_scoreOneByOne_16 : decode cX3_scoreOneByOne 16 = .ok (.goto 4, 3) := by decide +kernel
theorem dX3_scoreOneByOne_19 : decode cX3_scoreOneByOne 19 = .ok (.iconst 0, 1) := by decide +kernel
theorem dX3_scoreOneByOne_20 : decode cX3_scoreOneByOne 20 = .ok (.istore_n 3, 1) := by decide +kernel
theorem dX3_scoreOneByOne_21 : decode cX3_scoreOneByOne 21 = .ok (.aload_n 0, 1) := by decide +kernel
theorem dX3_scoreOneByOne_22 : decode cX3_scoreOneByOne 22 = .ok (.iload_n 2, 1) := by decide +kernel
theorem dX3_scoreOneByOne_23 : decode cX3_scoreOneByOne 23 = .ok (.invokevirtual 18, 3) := by decide +kernel
theorem dX3_scoreOneByOne_26 : decode cX3_scoreOneByOne 26 = .ok (.invokestatic 29, 3) := by decide +kernel
theorem dX3_scoreOneByOne_29 : decode cX3_scoreOneByOne 29 = .ok (.istore 4, 2) := by decide +kernel
theorem dX3_scoreOneByOne_31 : decode cX3_scoreOneByOne 31 = .ok (.aload_n 0, 1) := by decide +kernel
theorem dX3_scoreOneByOne_32 : decode cX3_scoreOneByOne 32 = .ok (.iload_n 3, 1) := by decide +kernel
theorem dX3_scoreOneByOne_33 : decode cX3_scoreOneByOne 33 = .ok (.ifCond .eq 7, 3) := by decide +kernel
theorem dX3_scoreOneByOne_36 : decode cX3_scoreOneByOne 36 = .ok (.iconst 3, 1) := by decide +kernel
theorem dX3_scoreOneByOne_37 : decode cX3_scoreOneByOne 37 = .ok (.goto 4, 3) := by decide +kernel
theorem dX3_scoreOneByOne_40 : decode cX3_scoreOneByOne 40 = .ok (.iconst 0, 1) := by decide +kernel
theorem dX3_scoreOneByOne_41 : decode cX3_scoreOneByOne 41 = .ok (.iload 4, 2) := by decide +kernel
theorem dX3_scoreOneByOne_43 : decode cX3_scoreOneByOne 43 = .ok (.iconst 1, 1) := by decide +kernel
theorem dX3_scoreOneByOne_44 : decode cX3_scoreOneByOne 44 = .ok (.iadd, 1) := by decide +kernel
theorem dX3_scoreOneByOne_45 : decode cX3_scoreOneByOne 45 = .ok (.invokevirtual 25, 3) := by decide +kernel
theorem dX3_scoreOneByOne_48 : decode cX3_scoreOneByOne 48 = .ok (.istore 5, 2) := by decide +kernel
theorem dX3_scoreOneByOne_50 : decode cX3_scoreOneByOne 50 = .ok (.iload 4, 2) := by decide +kernel
theorem dX3_scoreOneByOne_52 : decode cX3_scoreOneByOne 52 = .ok (.bipush 10, 2) := by decide +kernel
theorem dX3_scoreOneByOne_54 : decode cX3_scoreOneByOne 54 = .ok (.if_icmp .gt 20, 3) := by decide +kernel
theorem dX3_scoreOneByOne_57 : decode cX3_scoreOneByOne 57 = .ok (.iload 5, 2) := by decide +kernel
theorem dX3_scoreOneByOne_59 : decode cX3_scoreOneByOne 59 = .ok (.ifCond .ne 15, 3) := by decide +kernel
theorem dX3_scoreOneByOne_62 : decode cX3_scoreOneByOne 62 = .ok (.iload_n 1, 1) := by decide +kernel
theorem dX3_scoreOneByOne_63 : decode cX3_scoreOneByOne 63 = .ok (.iload_n 3, 1) := by decide +kernel
theorem dX3_scoreOneByOne_64 : decode cX3_scoreOneByOne 64 = .ok (.ifCond .eq 7, 3) := by decide +kernel
theorem dX3_scoreOneByOne_67 : decode cX3_scoreOneByOne 67 = .ok (.iconst 1, 1) := by decide +kernel
theorem dX3_scoreOneByOne_68 : decode cX3_scoreOneByOne 68 = .ok (.goto 4, 3) := by decide +kernel
theorem dX3_scoreOneByOne_71 : decode cX3_scoreOneByOne 71 = .ok (.iconst (-1), 1) := by decide +kernel
theorem dX3_scoreOneByOne_72 : decode cX3_scoreOneByOne 72 = .ok (.iadd, 1) := by decide +kernel
theorem dX3_scoreOneByOne_73 : decode cX3_scoreOneByOne 73 = .ok (.istore_n 1, 1) := by decide +kernel
theorem dX3_scoreOneByOne_74 : decode cX3_scoreOneByOne 74 = .ok (.iinc 2 1, 3) := by decide +kernel
theorem dX3_scoreOneByOne_77 : decode cX3_scoreOneByOne 77 = .ok (.goto (-73), 3) := by decide +kernel
theorem dX3_scoreOneByOne_80 : decode cX3_scoreOneByOne 80 = .ok (.iload_n 1, 1) := by decide +kernel
theorem dX3_scoreOneByOne_81 : decode cX3_scoreOneByOne 81 = .ok (.ireturn, 1) := by decide +kernel
theorem dX4_init_0 : decode cX4_init 0 = .ok (.aload_n 0, 1) := by decide +kernel
theorem dX4_init_1 : decode cX4_init 1 = .ok (.invokespecial 3, 3) := by decide +kernel
theorem dX4_init_4 : decode cX4_init 4 = .ok (.return_, 1) := by decide +kernel
theorem dX4_lastStonesPerGame_0 : decode cX4_lastStonesPerGame 0 = .ok (.aload_n 0, 1) := by decide +kernel
theorem dX4_lastStonesPerGame_1 : decode cX4_lastStonesPerGame 1 = .ok (.getfield 9, 3) := by decide +kernel
theorem dX4_lastStonesPerGame_4 : decode cX4_lastStonesPerGame 4 = .ok (.ifCond .le 15, 3) := by decide +kernel
theorem dX4_lastStonesPerGame_7 : decode cX4_lastStonesPerGame 7 = .ok (.aload_n 0, 1) := by decide +kernel
theorem dX4_lastStonesPerGame_8 : decode cX4_lastStonesPerGame 8 = .ok (.getfield 15, 3) := by decide +kernel
theorem dX4_lastStonesPerGame_11 : decode cX4_lastStonesPerGame 11 = .ok (.aload_n 0, 1) := by decide +kernel
theorem dX4_lastStonesPerGame_12 : decode cX4_lastStonesPerGame 12 = .ok (.getfield 9, 3) := by decide +kernel
theorem dX4_lastStonesPerGame_15 : decode cX4_lastStonesPerGame 15 = .ok (.idiv, 1) := by decide +kernel
theorem dX4_lastStonesPerGame_16 : decode cX4_lastStonesPerGame 16 = .ok (.goto 5, 3) := by decide +kernel
theorem dX4_lastStonesPerGame_19 : decode cX4_lastStonesPerGame 19 = .ok (.bipush 30, 2) := by decide +kernel
theorem dX4_lastStonesPerGame_21 : decode cX4_lastStonesPerGame 21 = .ok (.ireturn, 1) := by decide +kernel
theorem dX5_init_0 : decode cX5_init 0 = .ok (.aload_n 0, 1) := by decide +kernel
theorem dX5_init_1 : decode cX5_init 1 = .ok (.invokespecial 3, 3) := by decide +kernel
theorem dX5_init_4 : decode cX5_init 4 = .ok (.aload_n 0, 1) := by decide +kernel
theorem dX5_init_5 : decode cX5_init 5 = .ok (.iconst 3, 1) := by decide +kernel
theorem dX5_init_6 : decode cX5_init 6 = .ok (.anewarray 9, 3) := by decide +kernel
theorem dX5_init_9 : decode cX5_init 9 = .ok (.putfield 11, 3) := by decide +kernel
theorem dX5_init_12 : decode cX5_init 12 = .ok (.iconst 0, 1) := by decide +kernel
theorem dX5_init_13 : decode cX5_init 13 = .ok (.istore_n 1, 1) := by decide +kernel
theorem dX5_init_14 : decode cX5_init 14 = .ok (.iload_n 1, 1) := by decide +kernel
theorem dX5_init_15 : decode cX5_init 15 = .ok (.aload_n 0, 1) := by decide +kernel
theorem dX5_init_16 : decode cX5_init 16 = .ok (.getfield 11, 3) := by decide +kernel
theorem dX5_init_19 : decode cX5_init 19 = .ok (.arraylength, 1) := by decide +kernel
theorem dX5_init_20 : decode cX5_init 20 = .ok (.if_icmp .ge 22, 3) := by decide +kernel
theorem dX5_init_23 : decode cX5_init 23 = .ok (.aload_n 0, 1) := by decide +kernel
theorem dX5_init_24 : decode cX5_init 24 = .ok (.getfield 11, 3) := by decide +kernel
theorem dX5_init_27 : decode cX5_init 27 = .ok (.iload_n 1, 1) := by decide +kernel
theorem dX5_init_28 : decode cX5_init 28 = .ok (.new 9, 3) := by decide +kernel
theorem dX5_init_31 : decode cX5_init 31 = .ok (.dup, 1) := by decide +kernel
theorem dX5_init_32 : decode cX5_init 32 = .ok (.invokespecial 15, 3) := by decide +kernel
theorem dX5_init_35 : decode cX5_init 35 = .ok (.aastore, 1) := by decide +kernel
theorem dX5_init_36 : decode cX5_init 36 = .ok (.iinc 1 1, 3) := by decide +kernel
theorem dX5_init_39 : decode cX5_init 39 = .ok (.goto (-25), 3) := by decide +kernel
theorem dX5_init_42 : decode cX5_init 42 = .ok (.aload_n 0, 1) := by decide +kernel
theorem dX5_init_43 : decode cX5_init 43 = .ok (.bipush 6, 2) := by decide +kernel
theorem dX5_init_45 : decode cX5_init 45 = .ok (.anewarray 16, 3) := by decide +kernel
theorem dX5_init_48 : decode cX5_init 48 = .ok (.putfield 18, 3) := by decide +kernel
theorem dX5_init_51 : decode cX5_init 51 = .ok (.iconst 0, 1) := by decide +kernel
theorem dX5_init_52 : decode cX5_init 52 = .ok (.istore_n 1, 1) := by decide +kernel
theorem dX5_init_53 : decode cX5_init 53 = .ok (.iload_n 1, 1) := by decide +kernel
theorem dX5_init_54 : decode cX5_init 54 = .ok (.aload_n 0, 1) := by decide +kernel
theorem dX5_init_55 : decode cX5_init 55 = .ok (.getfield 18, 3) := by decide +kernel
theorem dX5_init_58 : decode cX5_init 58 = .ok (.arraylength, 1) := by decide +kernel
theorem dX5_init_59 : decode cX5_init 59 = .ok (.if_icmp .ge 22, 3) := by decide +kernel
theorem dX5_init_62 : decode cX5_init 62 = .ok (.aload_n 0, 1) := by decide +kernel
theorem dX5_init_63 : decode cX5_init 63 = .ok (.getfield 18, 3) := by decide +kernel
theorem dX5_init_66 : decode cX5_init 66 = .ok (.iload_n 1, 1) := by decide +kernel
theorem dX5_init_67 : decode cX5_init 67 = .ok (.new 16, 3) := by decide +kernel
theorem dX5_init_70 : decode cX5_init 70 = .ok (.dup, 1) := by decide +kernel
theorem dX5_init_71 : decode cX5_init 71 = .ok (.invokespecial 22, 3) := by decide +kernel
theorem dX5_init_74 : decode cX5_init 74 = .ok (.aastore, 1) := by decide +kernel
theorem dX5_init_75 : decode cX5_init 75 = .ok (.iinc 1 1, 3) := by decide +kernel
theorem dX5_init_78 : decode cX5_init 78 = .ok (.goto (-25), 3) := by decide +kernel
theorem dX5_init_81 : decode cX5_init 81 = .ok (.aload_n 0, 1) := by decide +kernel
theorem dX5_init_82 : decode cX5_init 82 = .ok (.bipush 12, 2) := by decide +kernel
theorem dX5_init_84 : decode cX5_init 84 = .ok (.anewarray 23, 3) := by decide +kernel
theorem dX5_init_87 : decode cX5_init 87 = .ok (.putfield 25, 3) := by decide +kernel
theorem dX5_init_90 : decode cX5_init 90 = .ok (.aload_n 0, 1) := by decide +kernel
theorem dX5_init_91 : decode cX5_init 91 = .ok (.new 29, 3) := by decide +kernel
theorem dX5_init_94 : decode cX5_init 94 = .ok (.dup, 1) := by decide +kernel
theorem dX5_init_95 : decode cX5_init 95 = .ok (.invokespecial 31, 3) := by decide +kernel
theorem dX5_init_98 : decode cX5_init 98 = .ok (.putfield 32, 3) := by decide +kernel
theorem dX5_init_101 : decode cX5_init 101 = .ok (.aload_n 0, 1) := by decide +kernel
theorem dX5_init_102 : decode cX5_init 102 = .ok (.iconst 2, 1) := by decide +kernel
theorem dX5_init_103 : decode cX5_init 103 = .ok (.putfield 36, 3) := by decide +kernel
theorem dX5_init_106 : decode cX5_init 106 = .ok (.aload_n 0, 1) := by decide +kernel
theorem dX5_init_107 : decode cX5_init 107 = .ok (.iconst (-1), 1) := by decide +kernel
theorem dX5_init_108 : decode cX5_init 108 = .ok (.putfield 40, 3) := by decide +kernel
theorem dX5_init_111 : decode cX5_init 111 = .ok (.return_, 1) := by decide +kernel
theorem dX5_plan_0 : decode cX5_plan 0 = .ok (.iload_n 1, 1) := by decide +kernel
theorem dX5_plan_1 : decode cX5_plan 1 = .ok (.iconst 0, 1) := by decide +kernel
theorem dX5_plan_2 : decode cX5_plan 2 = .ok (.iconst 5, 1) := by decide +kernel
theorem dX5_plan_3 : decode cX5_plan 3 = .ok (.invokestatic 43, 3) := by decide +kernel
theorem dX5_plan_6 : decode cX5_plan 6 = .ok (.ifCond .eq 22, 3) := by decide +kernel
theorem dX5_plan_9 : decode cX5_plan 9 = .ok (.iload_n 2, 1) := by decide +kernel
theorem dX5_plan_10 : decode cX5_plan 10 = .ok (.iconst 0, 1) := by decide +kernel
theorem dX5_plan_11 : decode cX5_plan 11 = .ok (.iconst 5, 1) := by decide +kernel
theorem dX5_plan_12 : decode cX5_plan 12 = .ok (.invokestatic 43, 3) := by decide +kernel
theorem dX5_plan_15 : decode cX5_plan 15 = .ok (.ifCond .eq 13, 3) := by decide +kernel
theorem dX5_plan_18 : decode cX5_plan 18 = .ok (.iload 4, 2) := by decide +kernel
theorem dX5_plan_20 : decode cX5_plan 20 = .ok (.iconst 0, 1) := by decide +kernel
theorem dX5_plan_21 : decode cX5_plan 21 = .ok (.iconst 2, 1) := by decide +kernel
theorem dX5_plan_22 : decode cX5_plan 22 = .ok (.invokestatic 43, 3) := by decide +kernel
theorem dX5_plan_25 : decode cX5_plan 25 = .ok (.ifCond .ne 13, 3) := by decide +kernel
theorem dX5_plan_28 : decode cX5_plan 28 = .ok (.new 47, 3) := by decide +kernel
theorem dX5_plan_31 : decode cX5_plan 31 = .ok (.dup, 1) := by decide +kernel
theorem dX5_plan_32 : decode cX5_plan 32 = .ok (.ldc 49, 2) := by decide +kernel
theorem dX5_plan_34 : decode cX5_plan 34 = .ok (.invokespecial 51, 3) := by decide +kernel
theorem dX5_plan_37 : decode cX5_plan 37 = .ok (.athrow, 1) := by decide +kernel
theorem dX5_plan_38 : decode cX5_plan 38 = .ok (.iload_n 1, 1) := by decide +kernel
theorem dX5_plan_39 : decode cX5_plan 39 = .ok (.iload_n 2, 1) := by decide +kernel
theorem dX5_plan_40 : decode cX5_plan 40 = .ok (.if_icmp .eq 19, 3) := by decide +kernel
theorem dX5_plan_43 : decode cX5_plan 43 = .ok (.iload_n 3, 1) := by decide +kernel
theorem dX5_plan_44 : decode cX5_plan 44 = .ok (.aload_n 0, 1) := by decide +kernel
theorem dX5_plan_45 : decode cX5_plan 45 = .ok (.getfield 54, 3) := by decide +kernel
theorem dX5_plan_48 : decode cX5_plan 48 = .ok (.iconst 1, 1) := by decide +kernel
theorem dX5_plan_49 : decode cX5_plan 49 = .ok (.iadd, 1) := by decide +kernel
theorem dX5_plan_50 : decode cX5_plan 50 = .ok (.sipush 9999, 3) := by decide +kernel
theorem dX5_plan_53 : decode cX5_plan 53 = .ok (.invokestatic 43, 3) := by decide +kernel
theorem dX5_plan_56 : decode cX5_plan 56 = .ok (.ifCond .ne 13, 3) := by decide +kernel
theorem dX5_plan_59 : decode cX5_plan 59 = .ok (.new 57, 3) := by decide +kernel
theorem dX5_plan_62 : decode cX5_plan 62 = .ok (.dup, 1) := by decide +kernel
theorem dX5_plan_63 : decode cX5_plan 63 = .ok (.ldc 59, 2) := by decide +kernel
theorem dX5_plan_65 : decode cX5_plan 65 = .ok (.invokespecial 61, 3) := by decide +kernel
theorem dX5_plan_68 : decode cX5_plan 68 = .ok (.athrow, 1) := by decide +kernel
theorem dX5_plan_69 : decode cX5_plan 69 = .ok (.aload_n 0, 1) := by decide +kernel
theorem dX5_plan_70 : decode cX5_plan 70 = .ok (.getfield 62, 3) := by decide +kernel
theorem dX5_plan_73 : decode cX5_plan 73 = .ok (.istore 5, 2) := by decide +kernel
theorem dX5_plan_75 : decode cX5_plan 75 = .ok (.iload 5, 2) := by decide +kernel
theorem dX5_plan_77 : decode cX5_plan 77 = .ok (.ifCond .lt 13, 3) := by decide +kernel
theorem dX5_plan_80 : decode cX5_plan 80 = .ok (.iload 5, 2) := by decide +kernel
theorem dX5_plan_82 : decode cX5_plan 82 = .ok (.aload_n 0, 1) := by decide +kernel
theorem dX5_plan_83 : decode cX5_plan 83 = .ok (.getfield 25, 3) := by decide +kernel
theorem dX5_plan_86 : decode cX5_plan 86 = .ok (.arraylength, 1) := by decide +kernel
theorem dX5_plan_87 : decode cX5_plan 87 = .ok (.if_icmp .lt 13, 3) := by decide +kernel
theorem dX5_plan_90 : decode cX5_plan 90 = .ok (.new 65, 3) := by decide +kernel
theorem dX5_plan_93 : decode cX5_plan 93 = .ok (.dup, 1) := by decide +kernel
theorem dX5_plan_94 : decode cX5_plan 94 = .ok (.ldc 67, 2) := by decide +kernel
theorem dX5_plan_96 : decode cX5_plan 96 = .ok (.invokespecial 69, 3) := by decide +kernel
theorem dX5_plan_99 : decode cX5_plan 99 = .ok (.athrow, 1) := by decide +kernel
theorem dX5_plan_100 : decode cX5_plan 100 = .ok (.aload_n 0, 1) := by decide +kernel
theorem dX5_plan_101 : decode cX5_plan 101 = .ok (.getfield 25, 3) := by decide +kernel
theorem dX5_plan_104 : decode cX5_plan 104 = .ok (.iload 5, 2) := by decide +kernel
theorem dX5_plan_106 : decode cX5_plan 106 = .ok (.new 23, 3) := by decide +kernel
theorem dX5_plan_109 : decode cX5_plan 109 = .ok (.dup, 1) := by decide +kernel
theorem dX5_plan_110 : decode cX5_plan 110 = .ok (.iload_n 1, 1) := by decide +kernel
theorem dX5_plan_111 : decode cX5_plan 111 = .ok (.iload_n 2, 1) := by decide +kernel
theorem dX5_plan_112 : decode cX5_plan 112 = .ok (.iload_n 3, 1) := by decide +kernel
theorem dX5_plan_113 : decode cX5_plan 113 = .ok (.iload 4, 2) := by decide +kernel
theorem dX5_plan_115 : decode cX5_plan 115 = .ok (.invokespecial 70, 3) := by decide +kernel
theorem dX5_plan_118 : decode cX5_plan 118 = .ok (.aastore, 1) := by decide +kernel
theorem dX5_plan_119 : decode cX5_plan 119 = .ok (.aload_n 0, 1) := by decide +kernel
theorem dX5_plan_120 : decode cX5_plan 120 = .ok (.iload 5, 2) := by decide +kernel
theorem dX5_plan_122 : decode cX5_plan 122 = .ok (.iconst 1, 1) := by decide +kernel
theorem dX5_plan_123 : decode cX5_plan 123 = .ok (.iadd, 1) := by decide +kernel
theorem dX5_plan_124 : decode cX5_plan 124 = .ok (.putfield 62, 3) := by decide +kernel
theorem dX5_plan_127 : decode cX5_plan 127 = .ok (.iload 5, 2) := by decide +kernel
theorem dX5_plan_129 : decode cX5_plan 129 = .ok (.ireturn, 1) := by decide +kernel
theorem dX5_crew_0 : decode cX5_crew 0 = .ok (.iload_n 1, 1) := by decide +kernel
theorem dX5_crew_1 : decode cX5_crew 1 = .ok (.iconst 1, 1) := by decide +kernel
theorem dX5_crew_2 : decode cX5_crew 2 = .ok (.bipush 6, 2) := by decide +kernel
theorem dX5_crew_4 : decode cX5_crew 4 = .ok (.invokestatic 43, 3) := by decide +kernel
theorem dX5_crew_7 : decode cX5_crew 7 = .ok (.ifCond .ne 13, 3) := by decide +kernel
theorem dX5_crew_10 : decode cX5_crew 10 = .ok (.new 57, 3) := by decide +kernel
theorem dX5_crew_13 : decode cX5_crew 13 = .ok (.dup, 1) := by decide +kernel
theorem dX5_crew_14 : decode cX5_crew 14 = .ok (.ldc 73, 2) := by decide +kernel
theorem dX5_crew_16 : decode cX5_crew 16 = .ok (.invokespecial 61, 3) := by decide +kernel
theorem dX5_crew_19 : decode cX5_crew 19 = .ok (.athrow, 1) := by decide +kernel
theorem dX5_crew_20 : decode cX5_crew 20 = .ok (.aload_n 0, 1) := by decide +kernel
theorem dX5_crew_21 : decode cX5_crew 21 = .ok (.getfield 36, 3) := by decide +kernel
theorem dX5_crew_24 : decode cX5_crew 24 = .ok (.istore_n 2, 1) := by decide +kernel
theorem dX5_crew_25 : decode cX5_crew 25 = .ok (.aload_n 0, 1) := by decide +kernel
theorem dX5_crew_26 : decode cX5_crew 26 = .ok (.iload_n 1, 1) := by decide +kernel
theorem dX5_crew_27 : decode cX5_crew 27 = .ok (.putfield 36, 3) := by decide +kernel
theorem dX5_crew_30 : decode cX5_crew 30 = .ok (.iload_n 2, 1) := by decide +kernel
theorem dX5_crew_31 : decode cX5_crew 31 = .ok (.ireturn, 1) := by decide +kernel
theorem dX5_shoot_0 : decode cX5_shoot 0 = .ok (.aload_n 0, 1) := by decide +kernel
theorem dX5_shoot_1 : decode cX5_shoot 1 = .ok (.iload_n 1, 1) := by decide +kernel
theorem dX5_shoot_2 : decode cX5_shoot 2 = .ok (.invokevirtual 75, 3) := by decide +kernel
theorem dX5_shoot_5 : decode cX5_shoot 5 = .ok (.astore 7, 2) := by decide +kernel
theorem dX5_shoot_7 : decode cX5_shoot 7 = .ok (.iload_n 2, 1) := by decide +kernel
theorem dX5_shoot_8 : decode cX5_shoot 8 = .ok (.iload_n 3, 1) := by decide +kernel
theorem dX5_shoot_9 : decode cX5_shoot 9 = .ok (.iload 4, 2) := by decide +kernel
theorem dX5_shoot_11 : decode cX5_shoot 11 = .ok (.iload 5, 2) := by decide +kernel
theorem dX5_shoot_13 : decode cX5_shoot 13 = .ok (.iload 6, 2) := by decide +kernel
theorem dX5_shoot_15 : decode cX5_shoot 15 = .ok (.invokestatic 79, 3) := by decide +kernel
theorem dX5_shoot_18 : decode cX5_shoot 18 = .ok (.ifCond .ne 13, 3) := by decide +kernel
theorem dX5_shoot_21 : decode cX5_shoot 21 = .ok (.new 57, 3) := by decide +kernel
theorem dX5_shoot_24 : decode cX5_shoot 24 = .ok (.dup, 1) := by decide +kernel
theorem dX5_shoot_25 : decode cX5_shoot 25 = .ok (.ldc 83, 2) := by decide +kernel
theorem dX5_shoot_27 : decode cX5_shoot 27 = .ok (.invokespecial 61, 3) := by decide +kernel
theorem dX5_shoot_30 : decode cX5_shoot 30 = .ok (.athrow, 1) := by decide +kernel
theorem dX5_shoot_31 : decode cX5_shoot 31 = .ok (.aload 7, 2) := by decide +kernel
theorem dX5_shoot_33 : decode cX5_shoot 33 = .ok (.invokevirtual 85, 3) := by decide +kernel
theorem dX5_shoot_36 : decode cX5_shoot 36 = .ok (.ifCond .ne 13, 3) := by decide +kernel
theorem dX5_shoot_39 : decode cX5_shoot 39 = .ok (.new 65, 3) := by decide +kernel
theorem dX5_shoot_42 : decode cX5_shoot 42 = .ok (.dup, 1) := by decide +kernel
theorem dX5_shoot_43 : decode cX5_shoot 43 = .ok (.ldc 89, 2) := by decide +kernel
theorem dX5_shoot_45 : decode cX5_shoot 45 = .ok (.invokespecial 69, 3) := by decide +kernel
theorem dX5_shoot_48 : decode cX5_shoot 48 = .ok (.athrow, 1) := by decide +kernel
theorem dX5_shoot_49 : decode cX5_shoot 49 = .ok (.aload_n 0, 1) := by decide +kernel
theorem dX5_shoot_50 : decode cX5_shoot 50 = .ok (.getfield 32, 3) := by decide +kernel
theorem dX5_shoot_53 : decode cX5_shoot 53 = .ok (.iload_n 2, 1) := by decide +kernel
theorem dX5_shoot_54 : decode cX5_shoot 54 = .ok (.iload_n 3, 1) := by decide +kernel
theorem dX5_shoot_55 : decode cX5_shoot 55 = .ok (.iload 4, 2) := by decide +kernel
theorem dX5_shoot_57 : decode cX5_shoot 57 = .ok (.iload 5, 2) := by decide +kernel
theorem dX5_shoot_59 : decode cX5_shoot 59 = .ok (.iload 6, 2) := by decide +kernel
theorem dX5_shoot_61 : decode cX5_shoot 61 = .ok (.invokevirtual 91, 3) := by decide +kernel
theorem dX5_shoot_64 : decode cX5_shoot 64 = .ok (.aload_n 0, 1) := by decide +kernel
theorem dX5_shoot_65 : decode cX5_shoot 65 = .ok (.getfield 32, 3) := by decide +kernel
theorem dX5_shoot_68 : decode cX5_shoot 68 = .ok (.aload_n 0, 1) := by decide +kernel
theorem dX5_shoot_69 : decode cX5_shoot 69 = .ok (.aload 7, 2) := by decide +kernel
theorem dX5_shoot_71 : decode cX5_shoot 71 = .ok (.getfield 95, 3) := by decide +kernel
theorem dX5_shoot_74 : decode cX5_shoot 74 = .ok (.invokevirtual 98, 3) := by decide +kernel
theorem dX5_shoot_77 : decode cX5_shoot 77 = .ok (.aload 7, 2) := by decide +kernel
theorem dX5_shoot_79 : decode cX5_shoot 79 = .ok (.getfield 102, 3) := by decide +kernel
theorem dX5_shoot_82 : decode cX5_shoot 82 = .ok (.aload 7, 2) := by decide +kernel
theorem dX5_shoot_84 : decode cX5_shoot 84 = .ok (.invokevirtual 106, 3) := by decide +kernel
theorem dX5_shoot_87 : decode cX5_shoot 87 = .ok (.iconst 1, 1) := by decide +kernel
theorem dX5_shoot_88 : decode cX5_shoot 88 = .ok (.invokevirtual 110, 3) := by decide +kernel
theorem dX5_shoot_91 : decode cX5_shoot 91 = .ok (.istore 8, 2) := by decide +kernel
theorem dX5_shoot_93 : decode cX5_shoot 93 = .ok (.aload 7, 2) := by decide +kernel
theorem dX5_shoot_95 : decode cX5_shoot 95 = .ok (.getfield 114, 3) := by decide +kernel
theorem dX5_shoot_98 : decode cX5_shoot 98 = .ok (.iconst 1, 1) := by decide +kernel
theorem dX5_shoot_99 : decode cX5_shoot 99 = .ok (.if_icmp .ne 17, 3) := by decide +kernel
theorem dX5_shoot_102 : decode cX5_shoot 102 = .ok (.aload_n 0, 1) := by decide +kernel
theorem dX5_shoot_103 : decode cX5_shoot 103 = .ok (.aload 7, 2) := by decide +kernel
theorem dX5_shoot_105 : decode cX5_shoot 105 = .ok (.iload 8, 2) := by decide +kernel
theorem dX5_shoot_107 : decode cX5_shoot 107 = .ok (.invokestatic 117, 3) := by decide +kernel
theorem dX5_shoot_110 : decode cX5_shoot 110 = .ok (.invokevirtual 121, 3) := by decide +kernel
theorem dX5_shoot_113 : decode cX5_shoot 113 = .ok (.goto 24, 3) := by decide +kernel
theorem dX5_shoot_116 : decode cX5_shoot 116 = .ok (.aload 7, 2) := by decide +kernel
theorem dX5_shoot_118 : decode cX5_shoot 118 = .ok (.getfield 102, 3) := by decide +kernel
theorem dX5_shoot_121 : decode cX5_shoot 121 = .ok (.aload_n 0, 1) := by decide +kernel
theorem dX5_shoot_122 : decode cX5_shoot 122 = .ok (.getfield 32, 3) := by decide +kernel
theorem dX5_shoot_125 : decode cX5_shoot 125 = .ok (.getfield 125, 3) := by decide +kernel
theorem dX5_shoot_128 : decode cX5_shoot 128 = .ok (.invokevirtual 126, 3) := by decide +kernel
theorem dX5_shoot_131 : decode cX5_shoot 131 = .ok (.aload_n 0, 1) := by decide +kernel
theorem dX5_shoot_132 : decode cX5_shoot 132 = .ok (.aload 7, 2) := by decide +kernel
theorem dX5_shoot_134 : decode cX5_shoot 134 = .ok (.invokevirtual 132, 3) := by decide +kernel
theorem dX5_shoot_137 : decode cX5_shoot 137 = .ok (.iload 8, 2) := by decide +kernel
theorem dX5_shoot_139 : decode cX5_shoot 139 = .ok (.ireturn, 1) := by decide +kernel
theorem dX5_pass_0 : decode cX5_pass 0 = .ok (.iload_n 1, 1) := by decide +kernel
theorem dX5_pass_1 : decode cX5_pass 1 = .ok (.iconst 1, 1) := by decide +kernel
theorem dX5_pass_2 : decode cX5_pass 2 = .ok (.bipush 48, 2) := by decide +kernel
theorem dX5_pass_4 : decode cX5_pass 4 = .ok (.invokestatic 43, 3) := by decide +kernel
theorem dX5_pass_7 : decode cX5_pass 7 = .ok (.ifCond .ne 13, 3) := by decide +kernel
theorem dX5_pass_10 : decode cX5_pass 10 = .ok (.new 57, 3) := by decide +kernel
theorem dX5_pass_13 : decode cX5_pass 13 = .ok (.dup, 1) := by decide +kernel
theorem dX5_pass_14 : decode cX5_pass 14 = .ok (.ldc 73, 2) := by decide +kernel
theorem dX5_pass_16 : decode cX5_pass 16 = .ok (.invokespecial 61, 3) := by decide +kernel
theorem dX5_pass_19 : decode cX5_pass 19 = .ok (.athrow, 1) := by decide +kernel
theorem dX5_pass_20 : decode cX5_pass 20 = .ok (.aload_n 0, 1) := by decide +kernel
theorem dX5_pass_21 : decode cX5_pass 21 = .ok (.getfield 54, 3) := by decide +kernel
theorem dX5_pass_24 : decode cX5_pass 24 = .ok (.iload_n 1, 1) := by decide +kernel
theorem dX5_pass_25 : decode cX5_pass 25 = .ok (.iadd, 1) := by decide +kernel
theorem dX5_pass_26 : decode cX5_pass 26 = .ok (.sipush 9999, 3) := by decide +kernel
theorem dX5_pass_29 : decode cX5_pass 29 = .ok (.if_icmp .le 13, 3) := by decide +kernel
theorem dX5_pass_32 : decode cX5_pass 32 = .ok (.new 65, 3) := by decide +kernel
theorem dX5_pass_35 : decode cX5_pass 35 = .ok (.dup, 1) := by decide +kernel
theorem dX5_pass_36 : decode cX5_pass 36 = .ok (.ldc 136, 2) := by decide +kernel
theorem dX5_pass_38 : decode cX5_pass 38 = .ok (.invokespecial 69, 3) := by decide +kernel
theorem dX5_pass_41 : decode cX5_pass 41 = .ok (.athrow, 1) := by decide +kernel
theorem dX5_pass_42 : decode cX5_pass 42 = .ok (.iconst 0, 1) := by decide +kernel
theorem dX5_pass_43 : decode cX5_pass 43 = .ok (.istore_n 2, 1) := by decide +kernel
theorem dX5_pass_44 : decode cX5_pass 44 = .ok (.iload_n 2, 1) := by decide +kernel
theorem dX5_pass_45 : decode cX5_pass 45 = .ok (.iload_n 1, 1) := by decide +kernel
theorem dX5_pass_46 : decode cX5_pass 46 = .ok (.if_icmp .ge 27, 3) := by decide +kernel
theorem dX5_pass_49 : decode cX5_pass 49 = .ok (.aload_n 0, 1) := by decide +kernel
theorem dX5_pass_50 : decode cX5_pass 50 = .ok (.dup, 1) := by decide +kernel
theorem dX5_pass_51 : decode cX5_pass 51 = .ok (.getfield 54, 3) := by decide +kernel
theorem dX5_pass_54 : decode cX5_pass 54 = .ok (.iconst 1, 1) := by decide +kernel
theorem dX5_pass_55 : decode cX5_pass 55 = .ok (.iadd, 1) := by decide +kernel
theorem dX5_pass_56 : decode cX5_pass 56 = .ok (.putfield 54, 3) := by decide +kernel
theorem dX5_pass_59 : decode cX5_pass 59 = .ok (.aload_n 0, 1) := by decide +kernel
theorem dX5_pass_60 : decode cX5_pass 60 = .ok (.invokevirtual 138, 3) := by decide +kernel
theorem dX5_pass_63 : decode cX5_pass 63 = .ok (.aload_n 0, 1) := by decide +kernel
theorem dX5_pass_64 : decode cX5_pass 64 = .ok (.invokevirtual 141, 3) := by decide +kernel
theorem dX5_pass_67 : decode cX5_pass 67 = .ok (.iinc 2 1, 3) := by decide +kernel
theorem dX5_pass_70 : decode cX5_pass 70 = .ok (.goto (-26), 3) := by decide +kernel
theorem dX5_pass_73 : decode cX5_pass 73 = .ok (.aload_n 0, 1) := by decide +kernel
theorem dX5_pass_74 : decode cX5_pass 74 = .ok (.getfield 54, 3) := by decide +kernel
theorem dX5_pass_77 : decode cX5_pass 77 = .ok (.ireturn, 1) := by decide +kernel
theorem dX5_hour_0 : decode cX5_hour 0 = .ok (.aload_n 0, 1) := by decide +kernel
theorem dX5_hour_1 : decode cX5_hour 1 = .ok (.getfield 54, 3) := by decide +kernel
theorem dX5_hour_4 : decode cX5_hour 4 = .ok (.ireturn, 1) := by decide +kernel
theorem dX5_ofSheet_0 : decode cX5_ofSheet 0 = .ok (.aload_n 0, 1) := by decide +kernel
theorem dX5_ofSheet_1 : decode cX5_ofSheet 1 = .ok (.iload_n 1, 1) := by decide +kernel
theorem dX5_ofSheet_2 : decode cX5_ofSheet 2 = .ok (.invokevirtual 98, 3) := by decide +kernel
theorem dX5_ofSheet_5 : decode cX5_ofSheet 5 = .ok (.astore_n 3, 1) := by decide +kernel
theorem dX5_ofSheet_6 : decode cX5_ofSheet 6 = .ok (.iload_n 2, 1) := by decide +kernel
theorem dX5_ofSheet_7 : decode cX5_ofSheet 7 = .ok (.tableswitch 69 0 3 #[29, 42, 47, 52], 29) := by decide +kernel
theorem dX5_ofSheet_36 : decode cX5_ofSheet 36 = .ok (.aload_n 3, 1) := by decide +kernel
theorem dX5_ofSheet_37 : decode cX5_ofSheet 37 = .ok (.getfield 144, 3) := by decide +kernel
theorem dX5_ofSheet_40 : decode cX5_ofSheet 40 = .ok (.ifCond .eq 7, 3) := by decide +kernel
theorem dX5_ofSheet_43 : decode cX5_ofSheet 43 = .ok (.iconst 1, 1) := by decide +kernel
theorem dX5_ofSheet_44 : decode cX5_ofSheet 44 = .ok (.goto 4, 3) := by decide +kernel
theorem dX5_ofSheet_47 : decode cX5_ofSheet 47 = .ok (.iconst 0, 1) := by decide +kernel
theorem dX5_ofSheet_48 : decode cX5_ofSheet 48 = .ok (.ireturn, 1) := by decide +kernel
theorem dX5_ofSheet_49 : decode cX5_ofSheet 49 = .ok (.aload_n 3, 1) := by decide +kernel
theorem dX5_ofSheet_50 : decode cX5_ofSheet 50 = .ok (.getfield 148, 3) := by decide +kernel
theorem dX5_ofSheet_53 : decode cX5_ofSheet 53 = .ok (.ireturn, 1) := by decide +kernel
theorem dX5_ofSheet_54 : decode cX5_ofSheet 54 = .ok (.aload_n 3, 1) := by decide +kernel
theorem dX5_ofSheet_55 : decode cX5_ofSheet 55 = .ok (.invokevirtual 151, 3) := by decide +kernel
theorem dX5_ofSheet_58 : decode cX5_ofSheet 58 = .ok (.ireturn, 1) := by decide +kernel
theorem dX5_ofSheet_59 : decode cX5_ofSheet 59 = .ok (.aload_n 0, 1) := by decide +kernel
theorem dX5_ofSheet_60 : decode cX5_ofSheet 60 = .ok (.getfield 40, 3) := by decide +kernel
theorem dX5_ofSheet_63 : decode cX5_ofSheet 63 = .ok (.iload_n 1, 1) := by decide +kernel
theorem dX5_ofSheet_64 : decode cX5_ofSheet 64 = .ok (.if_icmp .ne 10, 3) := by decide +kernel
theorem dX5_ofSheet_67 : decode cX5_ofSheet 67 = .ok (.aload_n 0, 1) := by decide +kernel
theorem dX5_ofSheet_68 : decode cX5_ofSheet 68 = .ok (.getfield 154, 3) := by decide +kernel
theorem dX5_ofSheet_71 : decode cX5_ofSheet 71 = .ok (.goto 4, 3) := by decide +kernel
theorem dX5_ofSheet_74 : decode cX5_ofSheet 74 = .ok (.iconst 0, 1) := by decide +kernel
theorem dX5_ofSheet_75 : decode cX5_ofSheet 75 = .ok (.ireturn, 1) := by decide +kernel
theorem dX5_ofSheet_76 : decode cX5_ofSheet 76 = .ok (.new 57, 3) := by decide +kernel
theorem dX5_ofSheet_79 : decode cX5_ofSheet 79 = .ok (.dup, 1) := by decide +kernel
theorem dX5_ofSheet_80 : decode cX5_ofSheet 80 = .ok (.ldc 157, 2) := by decide +kernel
theorem dX5_ofSheet_82 : decode cX5_ofSheet 82 = .ok (.invokespecial 61, 3) := by decide +kernel
theorem dX5_ofSheet_85 : decode cX5_ofSheet 85 = .ok (.athrow, 1) := by decide +kernel
theorem dX5_wear_0 : decode cX5_wear 0 = .ok (.aload_n 0, 1) := by decide +kernel
theorem dX5_wear_1 : decode cX5_wear 1 = .ok (.iload_n 1, 1) := by decide +kernel
theorem dX5_wear_2 : decode cX5_wear 2 = .ok (.invokevirtual 98, 3) := by decide +kernel
theorem dX5_wear_5 : decode cX5_wear 5 = .ok (.astore 4, 2) := by decide +kernel
theorem dX5_wear_7 : decode cX5_wear 7 = .ok (.iload_n 2, 1) := by decide +kernel
theorem dX5_wear_8 : decode cX5_wear 8 = .ok (.iload_n 3, 1) := by decide +kernel
theorem dX5_wear_9 : decode cX5_wear 9 = .ok (.invokestatic 159, 3) := by decide +kernel
theorem dX5_wear_12 : decode cX5_wear 12 = .ok (.ifCond .ne 13, 3) := by decide +kernel
theorem dX5_wear_15 : decode cX5_wear 15 = .ok (.new 47, 3) := by decide +kernel
theorem dX5_wear_18 : decode cX5_wear 18 = .ok (.dup, 1) := by decide +kernel
theorem dX5_wear_19 : decode cX5_wear 19 = .ok (.ldc 163, 2) := by decide +kernel
theorem dX5_wear_21 : decode cX5_wear 21 = .ok (.invokespecial 51, 3) := by decide +kernel
theorem dX5_wear_24 : decode cX5_wear 24 = .ok (.athrow, 1) := by decide +kernel
theorem dX5_wear_25 : decode cX5_wear 25 = .ok (.aload 4, 2) := by decide +kernel
theorem dX5_wear_27 : decode cX5_wear 27 = .ok (.iload_n 2, 1) := by decide +kernel
theorem dX5_wear_28 : decode cX5_wear 28 = .ok (.iload_n 3, 1) := by decide +kernel
theorem dX5_wear_29 : decode cX5_wear 29 = .ok (.invokevirtual 165, 3) := by decide +kernel
theorem dX5_wear_32 : decode cX5_wear 32 = .ok (.ireturn, 1) := by decide +kernel
theorem dX5_ofGame_0 : decode cX5_ofGame 0 = .ok (.aload_n 0, 1) := by decide +kernel
theorem dX5_ofGame_1 : decode cX5_ofGame 1 = .ok (.iload_n 1, 1) := by decide +kernel
theorem dX5_ofGame_2 : decode cX5_ofGame 2 = .ok (.invokevirtual 75, 3) := by decide +kernel
theorem dX5_ofGame_5 : decode cX5_ofGame 5 = .ok (.astore_n 3, 1) := by decide +kernel
theorem dX5_ofGame_6 : decode cX5_ofGame 6 = .ok (.iload_n 2, 1) := by decide +kernel
theorem dX5_ofGame_7 : decode cX5_ofGame 7 = .ok (.tableswitch 85 0 7 #[45, 50, 55, 60, 65, 70, 75, 80], 45) := by decide +kernel
theorem dX5_ofGame_52 : decode cX5_ofGame 52 = .ok (.aload_n 3, 1) := by decide +kernel
theorem dX5_ofGame_53 : decode cX5_ofGame 53 = .ok (.getfield 114, 3) := by decide +kernel
theorem dX5_ofGame_56 : decode cX5_ofGame 56 = .ok (.ireturn, 1) := by decide +kernel
theorem dX5_ofGame_57 : decode cX5_ofGame 57 = .ok (.aload_n 3, 1) := by decide +kernel
theorem dX5_ofGame_58 : decode cX5_ofGame 58 = .ok (.getfield 169, 3) := by decide +kernel
theorem dX5_ofGame_61 : decode cX5_ofGame 61 = .ok (.ireturn, 1) := by decide +kernel
theorem dX5_ofGame_62 : decode cX5_ofGame 62 = .ok (.aload_n 3, 1) := by decide +kernel
theorem dX5_ofGame_63 : decode cX5_ofGame 63 = .ok (.getfield 95, 3) := by decide +kernel
theorem dX5_ofGame_66 : decode cX5_ofGame 66 = .ok (.ireturn, 1) := by decide +kernel
theorem dX5_ofGame_67 : decode cX5_ofGame 67 = .ok (.aload_n 3, 1) := by decide +kernel
theorem dX5_ofGame_68 : decode cX5_ofGame 68 = .ok (.getfield 172, 3) := by decide +kernel
theorem dX5_ofGame_71 : decode cX5_ofGame 71 = .ok (.ireturn, 1) := by decide +kernel
theorem dX5_ofGame_72 : decode cX5_ofGame 72 = .ok (.aload_n 3, 1) := by decide +kernel
theorem dX5_ofGame_73 : decode cX5_ofGame 73 = .ok (.getfield 175, 3) := by decide +kernel
theorem dX5_ofGame_76 : decode cX5_ofGame 76 = .ok (.ireturn, 1) := by decide +kernel
theorem dX5_ofGame_77 : decode cX5_ofGame 77 = .ok (.aload_n 3, 1) := by decide +kernel
theorem dX5_ofGame_78 : decode cX5_ofGame 78 = .ok (.getfield 178, 3) := by decide +kernel
theorem dX5_ofGame_81 : decode cX5_ofGame 81 = .ok (.ireturn, 1) := by decide +kernel
theorem dX5_ofGame_82 : decode cX5_ofGame 82 = .ok (.aload_n 3, 1) := by decide +kernel
theorem dX5_ofGame_83 : decode cX5_ofGame 83 = .ok (.invokevirtual 181, 3) := by decide +kernel
theorem dX5_ofGame_86 : decode cX5_ofGame 86 = .ok (.ireturn, 1) := by decide +kernel
theorem dX5_ofGame_87 : decode cX5_ofGame 87 = .ok (.aload_n 3, 1) := by decide +kernel
theorem dX5_ofGame_88 : decode cX5_ofGame 88 = .ok (.getfield 184, 3) := by decide +kernel
theorem dX5_ofGame_91 : decode cX5_ofGame 91 = .ok (.ireturn, 1) := by decide +kernel
theorem dX5_ofGame_92 : decode cX5_ofGame 92 = .ok (.new 57, 3) := by decide +kernel
theorem dX5_ofGame_95 : decode cX5_ofGame 95 = .ok (.dup, 1) := by decide +kernel
theorem dX5_ofGame_96 : decode cX5_ofGame 96 = .ok (.ldc 157, 2) := by decide +kernel
theorem dX5_ofGame_98 : decode cX5_ofGame 98 = .ok (.invokespecial 61, 3) := by decide +kernel
theorem dX5_ofGame_101 : decode cX5_ofGame 101 = .ok (.athrow, 1) := by decide +kernel
theorem dX5_stone_0 : decode cX5_stone 0 = .ok (.aload_n 0, 1) := by decide +kernel
theorem dX5_stone_1 : decode cX5_stone 1 = .ok (.iload_n 1, 1) := by decide +kernel
theorem dX5_stone_2 : decode cX5_stone 2 = .ok (.invokevirtual 75, 3) := by decide +kernel
theorem dX5_stone_5 : decode cX5_stone 5 = .ok (.astore 4, 2) := by decide +kernel
theorem dX5_stone_7 : decode cX5_stone 7 = .ok (.iload_n 2, 1) := by decide +kernel
theorem dX5_stone_8 : decode cX5_stone 8 = .ok (.iconst 0, 1) := by decide +kernel
theorem dX5_stone_9 : decode cX5_stone 9 = .ok (.iconst 1, 1) := by decide +kernel
theorem dX5_stone_10 : decode cX5_stone 10 = .ok (.invokestatic 43, 3) := by decide +kernel
theorem dX5_stone_13 : decode cX5_stone 13 = .ok (.ifCond .eq 12, 3) := by decide +kernel
theorem dX5_stone_16 : decode cX5_stone 16 = .ok (.iload_n 3, 1) := by decide +kernel
theorem dX5_stone_17 : decode cX5_stone 17 = .ok (.iconst 0, 1) := by decide +kernel
theorem dX5_stone_18 : decode cX5_stone 18 = .ok (.iconst 2, 1) := by decide +kernel
theorem dX5_stone_19 : decode cX5_stone 19 = .ok (.invokestatic 43, 3) := by decide +kernel
theorem dX5_stone_22 : decode cX5_stone 22 = .ok (.ifCond .ne 13, 3) := by decide +kernel
theorem dX5_stone_25 : decode cX5_stone 25 = .ok (.new 47, 3) := by decide +kernel
theorem dX5_stone_28 : decode cX5_stone 28 = .ok (.dup, 1) := by decide +kernel
theorem dX5_stone_29 : decode cX5_stone 29 = .ok (.ldc 187, 2) := by decide +kernel
theorem dX5_stone_31 : decode cX5_stone 31 = .ok (.invokespecial 51, 3) := by decide +kernel
theorem dX5_stone_34 : decode cX5_stone 34 = .ok (.athrow, 1) := by decide +kernel
theorem dX5_stone_35 : decode cX5_stone 35 = .ok (.aload 4, 2) := by decide +kernel
theorem dX5_stone_37 : decode cX5_stone 37 = .ok (.getfield 102, 3) := by decide +kernel
theorem dX5_stone_40 : decode cX5_stone 40 = .ok (.iload_n 2, 1) := by decide +kernel
theorem dX5_stone_41 : decode cX5_stone 41 = .ok (.iconst 3, 1) := by decide +kernel
theorem dX5_stone_42 : decode cX5_stone 42 = .ok (.imul, 1) := by decide +kernel
theorem dX5_stone_43 : decode cX5_stone 43 = .ok (.iload_n 3, 1) := by decide +kernel
theorem dX5_stone_44 : decode cX5_stone 44 = .ok (.iadd, 1) := by decide +kernel
theorem dX5_stone_45 : decode cX5_stone 45 = .ok (.invokevirtual 189, 3) := by decide +kernel
theorem dX5_stone_48 : decode cX5_stone 48 = .ok (.ireturn, 1) := by decide +kernel
theorem dX5_wouldScore_0 : decode cX5_wouldScore 0 = .ok (.aload_n 0, 1) := by decide +kernel
theorem dX5_wouldScore_1 : decode cX5_wouldScore 1 = .ok (.iload_n 1, 1) := by decide +kernel
theorem dX5_wouldScore_2 : decode cX5_wouldScore 2 = .ok (.invokevirtual 75, 3) := by decide +kernel
theorem dX5_wouldScore_5 : decode cX5_wouldScore 5 = .ok (.getfield 102, 3) := by decide +kernel
theorem dX5_wouldScore_8 : decode cX5_wouldScore 8 = .ok (.invokevirtual 192, 3) := by decide +kernel
theorem dX5_wouldScore_11 : decode cX5_wouldScore 11 = .ok (.ireturn, 1) := by decide +kernel
theorem dX5_wouldScoreAnew_0 : decode cX5_wouldScoreAnew 0 = .ok (.aload_n 0, 1) := by decide +kernel
theorem dX5_wouldScoreAnew_1 : decode cX5_wouldScoreAnew 1 = .ok (.iload_n 1, 1) := by decide +kernel
theorem dX5_wouldScoreAnew_2 : decode cX5_wouldScoreAnew 2 = .ok (.invokevirtual 75, 3) := by decide +kernel
theorem dX5_wouldScoreAnew_5 : decode cX5_wouldScoreAnew 5 = .ok (.getfield 102, 3) := by decide +kernel
theorem dX5_wouldScoreAnew_8 : decode cX5_wouldScoreAnew 8 = .ok (.invokevirtual 195, 3) := by decide +kernel
theorem dX5_wouldScoreAnew_11 : decode cX5_wouldScoreAnew 11 = .ok (.ireturn, 1) := by decide +kernel
theorem dX5_tries_0 : decode cX5_tries 0 = .ok (.aload_n 0, 1) := by decide +kernel
theorem dX5_tries_1 : decode cX5_tries 1 = .ok (.iload_n 1, 1) := by decide +kernel
theorem dX5_tries_2 : decode cX5_tries 2 = .ok (.invokevirtual 75, 3) := by decide +kernel
theorem dX5_tries_5 : decode cX5_tries 5 = .ok (.astore 7, 2) := by decide +kernel
theorem dX5_tries_7 : decode cX5_tries 7 = .ok (.iload_n 2, 1) := by decide +kernel
theorem dX5_tries_8 : decode cX5_tries 8 = .ok (.iload_n 3, 1) := by decide +kernel
theorem dX5_tries_9 : decode cX5_tries 9 = .ok (.iload 4, 2) := by decide +kernel
theorem dX5_tries_11 : decode cX5_tries 11 = .ok (.iload 5, 2) := by decide +kernel
theorem dX5_tries_13 : decode cX5_tries 13 = .ok (.iload 6, 2) := by decide +kernel
theorem dX5_tries_15 : decode cX5_tries 15 = .ok (.invokestatic 79, 3) := by decide +kernel
theorem dX5_tries_18 : decode cX5_tries 18 = .ok (.ifCond .ne 13, 3) := by decide +kernel
theorem dX5_tries_21 : decode cX5_tries 21 = .ok (.new 57, 3) := by decide +kernel
theorem dX5_tries_24 : decode cX5_tries 24 = .ok (.dup, 1) := by decide +kernel
theorem dX5_tries_25 : decode cX5_tries 25 = .ok (.ldc 83, 2) := by decide +kernel
theorem dX5_tries_27 : decode cX5_tries 27 = .ok (.invokespecial 61, 3) := by decide +kernel
theorem dX5_tries_30 : decode cX5_tries 30 = .ok (.athrow, 1) := by decide +kernel
theorem dX5_tries_31 : decode cX5_tries 31 = .ok (.aload 7, 2) := by decide +kernel
theorem dX5_tries_33 : decode cX5_tries 33 = .ok (.invokevirtual 85, 3) := by decide +kernel
theorem dX5_tries_36 : decode cX5_tries 36 = .ok (.ifCond .ne 13, 3) := by decide +kernel
theorem dX5_tries_39 : decode cX5_tries 39 = .ok (.new 65, 3) := by decide +kernel
theorem dX5_tries_42 : decode cX5_tries 42 = .ok (.dup, 1) := by decide +kernel
theorem dX5_tries_43 : decode cX5_tries 43 = .ok (.ldc 89, 2) := by decide +kernel
theorem dX5_tries_45 : decode cX5_tries 45 = .ok (.invokespecial 69, 3) := by decide +kernel
theorem dX5_tries_48 : decode cX5_tries 48 = .ok (.athrow, 1) := by decide +kernel
theorem dX5_tries_49 : decode cX5_tries 49 = .ok (.aload_n 0, 1) := by decide +kernel
theorem dX5_tries_50 : decode cX5_tries 50 = .ok (.getfield 32, 3) := by decide +kernel
theorem dX5_tries_53 : decode cX5_tries 53 = .ok (.iload_n 2, 1) := by decide +kernel
theorem dX5_tries_54 : decode cX5_tries 54 = .ok (.iload_n 3, 1) := by decide +kernel
theorem dX5_tries_55 : decode cX5_tries 55 = .ok (.iload 4, 2) := by decide +kernel
theorem dX5_tries_57 : decode cX5_tries 57 = .ok (.iload 5, 2) := by decide +kernel
theorem dX5_tries_59 : decode cX5_tries 59 = .ok (.iload 6, 2) := by decide +kernel
theorem dX5_tries_61 : decode cX5_tries 61 = .ok (.invokevirtual 91, 3) := by decide +kernel
theorem dX5_tries_64 : decode cX5_tries 64 = .ok (.aload_n 0, 1) := by decide +kernel
theorem dX5_tries_65 : decode cX5_tries 65 = .ok (.getfield 32, 3) := by decide +kernel
theorem dX5_tries_68 : decode cX5_tries 68 = .ok (.aload_n 0, 1) := by decide +kernel
theorem dX5_tries_69 : decode cX5_tries 69 = .ok (.aload 7, 2) := by decide +kernel
theorem dX5_tries_71 : decode cX5_tries 71 = .ok (.getfield 95, 3) := by decide +kernel
theorem dX5_tries_74 : decode cX5_tries 74 = .ok (.invokevirtual 98, 3) := by decide +kernel
theorem dX5_tries_77 : decode cX5_tries 77 = .ok (.aload 7, 2) := by decide +kernel
theorem dX5_tries_79 : decode cX5_tries 79 = .ok (.getfield 102, 3) := by decide +kernel
theorem dX5_tries_82 : decode cX5_tries 82 = .ok (.aload 7, 2) := by decide +kernel
theorem dX5_tries_84 : decode cX5_tries 84 = .ok (.invokevirtual 106, 3) := by decide +kernel
theorem dX5_tries_87 : decode cX5_tries 87 = .ok (.iconst 0, 1) := by decide +kernel
theorem dX5_tries_88 : decode cX5_tries 88 = .ok (.invokevirtual 110, 3) := by decide +kernel
theorem dX5_tries_91 : decode cX5_tries 91 = .ok (.ireturn, 1) := by decide +kernel
theorem dX5_advice_0 : decode cX5_advice 0 = .ok (.aload_n 0, 1) := by decide +kernel
theorem dX5_advice_1 : decode cX5_advice 1 = .ok (.iload_n 1, 1) := by decide +kernel
theorem dX5_advice_2 : decode cX5_advice 2 = .ok (.invokevirtual 75, 3) := by decide +kernel
theorem dX5_advice_5 : decode cX5_advice 5 = .ok (.astore_n 2, 1) := by decide +kernel
theorem dX5_advice_6 : decode cX5_advice 6 = .ok (.aload_n 2, 1) := by decide +kernel
theorem dX5_advice_7 : decode cX5_advice 7 = .ok (.getfield 114, 3) := by decide +kernel
theorem dX5_advice_10 : decode cX5_advice 10 = .ok (.iconst 2, 1) := by decide +kernel
theorem dX5_advice_11 : decode cX5_advice 11 = .ok (.if_icmp .eq 13, 3) := by decide +kernel
theorem dX5_advice_14 : decode cX5_advice 14 = .ok (.new 65, 3) := by decide +kernel
theorem dX5_advice_17 : decode cX5_advice 17 = .ok (.dup, 1) := by decide +kernel
theorem dX5_advice_18 : decode cX5_advice 18 = .ok (.ldc 198, 2) := by decide +kernel
theorem dX5_advice_20 : decode cX5_advice 20 = .ok (.invokespecial 69, 3) := by decide +kernel
theorem dX5_advice_23 : decode cX5_advice 23 = .ok (.athrow, 1) := by decide +kernel
theorem dX5_advice_24 : decode cX5_advice 24 = .ok (.iconst (-1), 1) := by decide +kernel
theorem dX5_advice_25 : decode cX5_advice 25 = .ok (.istore_n 3, 1) := by decide +kernel
theorem dX5_advice_26 : decode cX5_advice 26 = .ok (.iconst 0, 1) := by decide +kernel
theorem dX5_advice_27 : decode cX5_advice 27 = .ok (.istore 4, 2) := by decide +kernel
theorem dX5_advice_29 : decode cX5_advice 29 = .ok (.iconst 0, 1) := by decide +kernel
theorem dX5_advice_30 : decode cX5_advice 30 = .ok (.istore 5, 2) := by decide +kernel
theorem dX5_advice_32 : decode cX5_advice 32 = .ok (.iload 5, 2) := by decide +kernel
theorem dX5_advice_34 : decode cX5_advice 34 = .ok (.bipush 9, 2) := by decide +kernel
theorem dX5_advice_36 : decode cX5_advice 36 = .ok (.if_icmp .ge 95, 3) := by decide +kernel
theorem dX5_advice_39 : decode cX5_advice 39 = .ok (.bipush 40, 2) := by decide +kernel
theorem dX5_advice_41 : decode cX5_advice 41 = .ok (.istore 6, 2) := by decide +kernel
theorem dX5_advice_43 : decode cX5_advice 43 = .ok (.iload 6, 2) := by decide +kernel
theorem dX5_advice_45 : decode cX5_advice 45 = .ok (.bipush 80, 2) := by decide +kernel
theorem dX5_advice_47 : decode cX5_advice 47 = .ok (.if_icmp .gt 78, 3) := by decide +kernel
theorem dX5_advice_50 : decode cX5_advice 50 = .ok (.iconst (-1), 1) := by decide +kernel
theorem dX5_advice_51 : decode cX5_advice 51 = .ok (.istore 7, 2) := by decide +kernel
theorem dX5_advice_53 : decode cX5_advice 53 = .ok (.iload 7, 2) := by decide +kernel
theorem dX5_advice_55 : decode cX5_advice 55 = .ok (.iconst 1, 1) := by decide +kernel
theorem dX5_advice_56 : decode cX5_advice 56 = .ok (.if_icmp .gt 63, 3) := by decide +kernel
theorem dX5_advice_59 : decode cX5_advice 59 = .ok (.aload_n 0, 1) := by decide +kernel
theorem dX5_advice_60 : decode cX5_advice 60 = .ok (.aload_n 2, 1) := by decide +kernel
theorem dX5_advice_61 : decode cX5_advice 61 = .ok (.iload 5, 2) := by decide +kernel
theorem dX5_advice_63 : decode cX5_advice 63 = .ok (.iload 6, 2) := by decide +kernel
theorem dX5_advice_65 : decode cX5_advice 65 = .ok (.iload 7, 2) := by decide +kernel
theorem dX5_advice_67 : decode cX5_advice 67 = .ok (.invokevirtual 200, 3) := by decide +kernel
theorem dX5_advice_70 : decode cX5_advice 70 = .ok (.istore 8, 2) := by decide +kernel
theorem dX5_advice_72 : decode cX5_advice 72 = .ok (.iload_n 3, 1) := by decide +kernel
theorem dX5_advice_73 : decode cX5_advice 73 = .ok (.iconst (-1), 1) := by decide +kernel
theorem dX5_advice_74 : decode cX5_advice 74 = .ok (.if_icmp .eq 10, 3) := by decide +kernel
theorem dX5_advice_77 : decode cX5_advice 77 = .ok (.iload 8, 2) := by decide +kernel
theorem dX5_advice_79 : decode cX5_advice 79 = .ok (.iload 4, 2) := by decide +kernel
theorem dX5_advice_81 : decode cX5_advice 81 = .ok (.if_icmp .le 32, 3) := by decide +kernel
theorem dX5_advice_84 : decode cX5_advice 84 = .ok (.sipush 1000, 3) := by decide +kernel
theorem dX5_advice_87 : decode cX5_advice 87 = .ok (.iload 5, 2) := by decide +kernel
theorem dX5_advice_89 : decode cX5_advice 89 = .ok (.imul, 1) := by decide +kernel
theorem dX5_advice_90 : decode cX5_advice 90 = .ok (.bipush 10, 2) := by decide +kernel
theorem dX5_advice_92 : decode cX5_advice 92 = .ok (.iload 6, 2) := by decide +kernel
theorem dX5_advice_94 : decode cX5_advice 94 = .ok (.imul, 1) := by decide +kernel
theorem dX5_advice_95 : decode cX5_advice 95 = .ok (.iadd, 1) := by decide +kernel
theorem dX5_advice_96 : decode cX5_advice 96 = .ok (.iload 7, 2) := by decide +kernel
theorem dX5_advice_98 : decode cX5_advice 98 = .ok (.iconst 1, 1) := by decide +kernel
theorem dX5_advice_99 : decode cX5_advice 99 = .ok (.if_icmp .ne 7, 3) := by decide +kernel
theorem dX5_advice_102 : decode cX5_advice 102 = .ok (.iconst 1, 1) := by decide +kernel
theorem dX5_advice_103 : decode cX5_advice 103 = .ok (.goto 4, 3) := by decide +kernel
theorem dX5_advice_106 : decode cX5_advice 106 = .ok (.iconst 0, 1) := by decide +kernel
theorem dX5_advice_107 : decode cX5_advice 107 = .ok (.iadd, 1) := by decide +kernel
theorem dX5_advice_108 : decode cX5_advice 108 = .ok (.istore_n 3, 1) := by decide +kernel
theorem dX5_advice_109 : decode cX5_advice 109 = .ok (.iload 8, 2) := by decide +kernel
theorem dX5_advice_111 : decode cX5_advice 111 = .ok (.istore 4, 2) := by decide +kernel
theorem dX5_advice_113 : decode cX5_advice 113 = .ok (.iinc 7 2, 3) := by decide +kernel
theorem dX5_advice_116 : decode cX5_advice 116 = .ok (.goto (-63), 3) := by decide +kernel
theorem dX5_advice_119 : decode cX5_advice 119 = .ok (.iinc 6 10, 3) := by decide +kernel
theorem dX5_advice_122 : decode cX5_advice 122 = .ok (.goto (-79), 3) := by decide +kernel
theorem dX5_advice_125 : decode cX5_advice 125 = .ok (.iinc 5 1, 3) := by decide +kernel
theorem dX5_advice_128 : decode cX5_advice 128 = .ok (.goto (-96), 3) := by decide +kernel
theorem dX5_advice_131 : decode cX5_advice 131 = .ok (.iload_n 3, 1) := by decide +kernel
theorem dX5_advice_132 : decode cX5_advice 132 = .ok (.ireturn, 1) := by decide +kernel
theorem dX5_standing_0 : decode cX5_standing 0 = .ok (.iload_n 1, 1) := by decide +kernel
theorem dX5_standing_1 : decode cX5_standing 1 = .ok (.iconst 0, 1) := by decide +kernel
theorem dX5_standing_2 : decode cX5_standing 2 = .ok (.iconst 5, 1) := by decide +kernel
theorem dX5_standing_3 : decode cX5_standing 3 = .ok (.invokestatic 43, 3) := by decide +kernel
theorem dX5_standing_6 : decode cX5_standing 6 = .ok (.ifCond .ne 13, 3) := by decide +kernel
theorem dX5_standing_9 : decode cX5_standing 9 = .ok (.new 47, 3) := by decide +kernel
theorem dX5_standing_12 : decode cX5_standing 12 = .ok (.dup, 1) := by decide +kernel
theorem dX5_standing_13 : decode cX5_standing 13 = .ok (.ldc 204, 2) := by decide +kernel
theorem dX5_standing_15 : decode cX5_standing 15 = .ok (.invokespecial 51, 3) := by decide +kernel
theorem dX5_standing_18 : decode cX5_standing 18 = .ok (.athrow, 1) := by decide +kernel
theorem dX5_standing_19 : decode cX5_standing 19 = .ok (.iconst (-1), 1) := by decide +kernel
theorem dX5_standing_20 : decode cX5_standing 20 = .ok (.istore_n 2, 1) := by decide +kernel
theorem dX5_standing_21 : decode cX5_standing 21 = .ok (.iconst 0, 1) := by decide +kernel
theorem dX5_standing_22 : decode cX5_standing 22 = .ok (.istore_n 3, 1) := by decide +kernel
theorem dX5_standing_23 : decode cX5_standing 23 = .ok (.iload_n 3, 1) := by decide +kernel
theorem dX5_standing_24 : decode cX5_standing 24 = .ok (.bipush 6, 2) := by decide +kernel
theorem dX5_standing_26 : decode cX5_standing 26 = .ok (.if_icmp .ge 20, 3) := by decide +kernel
theorem dX5_standing_29 : decode cX5_standing 29 = .ok (.aload_n 0, 1) := by decide +kernel
theorem dX5_standing_30 : decode cX5_standing 30 = .ok (.iload_n 3, 1) := by decide +kernel
theorem dX5_standing_31 : decode cX5_standing 31 = .ok (.invokevirtual 206, 3) := by decide +kernel
theorem dX5_standing_34 : decode cX5_standing 34 = .ok (.iload_n 1, 1) := by decide +kernel
theorem dX5_standing_35 : decode cX5_standing 35 = .ok (.if_icmp .ne 5, 3) := by decide +kernel
end
section
theorem dX5_standing_38 : decode cX5_standing 38 = .ok (.iload_n 3, 1) := by decide +kernel
theorem dX5_standing_39 : decode cX5_standing 39 = .ok (.istore_n 2, 1) := by decide +kernel
theorem dX5_standing_40 : decode cX5_standing 40 = .ok (.iinc 3 1, 3) := by decide +kernel
theorem dX5_standing_43 : decode cX5_standing 43 = .ok (.goto (-20), 3) := by decide +kernel
theorem dX5_standing_46 : decode cX5_standing 46 = .ok (.iload_n 2, 1) := by decide +kernel
theorem dX5_standing_47 : decode cX5_standing 47 = .ok (.ireturn, 1) := by decide +kernel
theorem dX5_ofTeam_0 : decode cX5_ofTeam 0 = .ok (.aload_n 0, 1) := by decide +kernel
theorem dX5_ofTeam_1 : decode cX5_ofTeam 1 = .ok (.iload_n 1, 1) := by decide +kernel
theorem dX5_ofTeam_2 : decode cX5_ofTeam 2 = .ok (.invokevirtual 209, 3) := by decide +kernel
theorem dX5_ofTeam_5 : decode cX5_ofTeam 5 = .ok (.astore_n 3, 1) := by decide +kernel
theorem dX5_ofTeam_6 : decode cX5_ofTeam 6 = .ok (.iload_n 2, 1) := by decide +kernel
theorem dX5_ofTeam_7 : decode cX5_ofTeam 7 = .ok (.tableswitch 40 0 2 #[25, 30, 35], 25) := by decide +kernel
theorem dX5_ofTeam_32 : decode cX5_ofTeam 32 = .ok (.aload_n 3, 1) := by decide +kernel
theorem dX5_ofTeam_33 : decode cX5_ofTeam 33 = .ok (.getfield 213, 3) := by decide +kernel
theorem dX5_ofTeam_36 : decode cX5_ofTeam 36 = .ok (.ireturn, 1) := by decide +kernel
theorem dX5_ofTeam_37 : decode cX5_ofTeam 37 = .ok (.aload_n 3, 1) := by decide +kernel
theorem dX5_ofTeam_38 : decode cX5_ofTeam 38 = .ok (.getfield 216, 3) := by decide +kernel
theorem dX5_ofTeam_41 : decode cX5_ofTeam 41 = .ok (.ireturn, 1) := by decide +kernel
theorem dX5_ofTeam_42 : decode cX5_ofTeam 42 = .ok (.aload_n 3, 1) := by decide +kernel
theorem dX5_ofTeam_43 : decode cX5_ofTeam 43 = .ok (.getfield 219, 3) := by decide +kernel
theorem dX5_ofTeam_46 : decode cX5_ofTeam 46 = .ok (.ireturn, 1) := by decide +kernel
theorem dX5_ofTeam_47 : decode cX5_ofTeam 47 = .ok (.new 57, 3) := by decide +kernel
theorem dX5_ofTeam_50 : decode cX5_ofTeam 50 = .ok (.dup, 1) := by decide +kernel
theorem dX5_ofTeam_51 : decode cX5_ofTeam 51 = .ok (.ldc 157, 2) := by decide +kernel
theorem dX5_ofTeam_53 : decode cX5_ofTeam 53 = .ok (.invokespecial 61, 3) := by decide +kernel
theorem dX5_ofTeam_56 : decode cX5_ofTeam 56 = .ok (.athrow, 1) := by decide +kernel
theorem dX5_isWithin_0 : decode cX5_isWithin 0 = .ok (.iload_n 0, 1) := by decide +kernel
theorem dX5_isWithin_1 : decode cX5_isWithin 1 = .ok (.iload_n 1, 1) := by decide +kernel
theorem dX5_isWithin_2 : decode cX5_isWithin 2 = .ok (.if_icmp .lt 12, 3) := by decide +kernel
theorem dX5_isWithin_5 : decode cX5_isWithin 5 = .ok (.iload_n 0, 1) := by decide +kernel
theorem dX5_isWithin_6 : decode cX5_isWithin 6 = .ok (.iload_n 2, 1) := by decide +kernel
theorem dX5_isWithin_7 : decode cX5_isWithin 7 = .ok (.if_icmp .gt 7, 3) := by decide +kernel
theorem dX5_isWithin_10 : decode cX5_isWithin 10 = .ok (.iconst 1, 1) := by decide +kernel
theorem dX5_isWithin_11 : decode cX5_isWithin 11 = .ok (.goto 4, 3) := by decide +kernel
theorem dX5_isWithin_14 : decode cX5_isWithin 14 = .ok (.iconst 0, 1) := by decide +kernel
theorem dX5_isWithin_15 : decode cX5_isWithin 15 = .ok (.ireturn, 1) := by decide +kernel
theorem dX5_isCell_0 : decode cX5_isCell 0 = .ok (.iload_n 0, 1) := by decide +kernel
theorem dX5_isCell_1 : decode cX5_isCell 1 = .ok (.iconst 0, 1) := by decide +kernel
theorem dX5_isCell_2 : decode cX5_isCell 2 = .ok (.bipush 8, 2) := by decide +kernel
theorem dX5_isCell_4 : decode cX5_isCell 4 = .ok (.invokestatic 43, 3) := by decide +kernel
theorem dX5_isCell_7 : decode cX5_isCell 7 = .ok (.ifCond .eq 17, 3) := by decide +kernel
theorem dX5_isCell_10 : decode cX5_isCell 10 = .ok (.iload_n 1, 1) := by decide +kernel
theorem dX5_isCell_11 : decode cX5_isCell 11 = .ok (.iconst 0, 1) := by decide +kernel
theorem dX5_isCell_12 : decode cX5_isCell 12 = .ok (.bipush 60, 2) := by decide +kernel
theorem dX5_isCell_14 : decode cX5_isCell 14 = .ok (.invokestatic 43, 3) := by decide +kernel
theorem dX5_isCell_17 : decode cX5_isCell 17 = .ok (.ifCond .eq 7, 3) := by decide +kernel
theorem dX5_isCell_20 : decode cX5_isCell 20 = .ok (.iconst 1, 1) := by decide +kernel
theorem dX5_isCell_21 : decode cX5_isCell 21 = .ok (.goto 4, 3) := by decide +kernel
theorem dX5_isCell_24 : decode cX5_isCell 24 = .ok (.iconst 0, 1) := by decide +kernel
theorem dX5_isCell_25 : decode cX5_isCell 25 = .ok (.ireturn, 1) := by decide +kernel
theorem dX5_isShot_0 : decode cX5_isShot 0 = .ok (.iload_n 0, 1) := by decide +kernel
theorem dX5_isShot_1 : decode cX5_isShot 1 = .ok (.iconst 0, 1) := by decide +kernel
theorem dX5_isShot_2 : decode cX5_isShot 2 = .ok (.bipush 8, 2) := by decide +kernel
theorem dX5_isShot_4 : decode cX5_isShot 4 = .ok (.invokestatic 43, 3) := by decide +kernel
theorem dX5_isShot_7 : decode cX5_isShot 7 = .ok (.ifCond .eq 48, 3) := by decide +kernel
theorem dX5_isShot_10 : decode cX5_isShot 10 = .ok (.iload_n 1, 1) := by decide +kernel
theorem dX5_isShot_11 : decode cX5_isShot 11 = .ok (.iconst 1, 1) := by decide +kernel
theorem dX5_isShot_12 : decode cX5_isShot 12 = .ok (.bipush 100, 2) := by decide +kernel
theorem dX5_isShot_14 : decode cX5_isShot 14 = .ok (.invokestatic 43, 3) := by decide +kernel
theorem dX5_isShot_17 : decode cX5_isShot 17 = .ok (.ifCond .eq 38, 3) := by decide +kernel
theorem dX5_isShot_20 : decode cX5_isShot 20 = .ok (.iload_n 2, 1) := by decide +kernel
theorem dX5_isShot_21 : decode cX5_isShot 21 = .ok (.iconst (-1), 1) := by decide +kernel
theorem dX5_isShot_22 : decode cX5_isShot 22 = .ok (.if_icmp .eq 8, 3) := by decide +kernel
theorem dX5_isShot_25 : decode cX5_isShot 25 = .ok (.iload_n 2, 1) := by decide +kernel
theorem dX5_isShot_26 : decode cX5_isShot 26 = .ok (.iconst 1, 1) := by decide +kernel
theorem dX5_isShot_27 : decode cX5_isShot 27 = .ok (.if_icmp .ne 28, 3) := by decide +kernel
theorem dX5_isShot_30 : decode cX5_isShot 30 = .ok (.iload_n 3, 1) := by decide +kernel
theorem dX5_isShot_31 : decode cX5_isShot 31 = .ok (.iconst 0, 1) := by decide +kernel
theorem dX5_isShot_32 : decode cX5_isShot 32 = .ok (.bipush 60, 2) := by decide +kernel
theorem dX5_isShot_34 : decode cX5_isShot 34 = .ok (.invokestatic 43, 3) := by decide +kernel
theorem dX5_isShot_37 : decode cX5_isShot 37 = .ok (.ifCond .eq 18, 3) := by decide +kernel
theorem dX5_isShot_40 : decode cX5_isShot 40 = .ok (.iload 4, 2) := by decide +kernel
theorem dX5_isShot_42 : decode cX5_isShot 42 = .ok (.iconst 0, 1) := by decide +kernel
theorem dX5_isShot_43 : decode cX5_isShot 43 = .ok (.bipush 60, 2) := by decide +kernel
theorem dX5_isShot_45 : decode cX5_isShot 45 = .ok (.invokestatic 43, 3) := by decide +kernel
theorem dX5_isShot_48 : decode cX5_isShot 48 = .ok (.ifCond .eq 7, 3) := by decide +kernel
theorem dX5_isShot_51 : decode cX5_isShot 51 = .ok (.iconst 1, 1) := by decide +kernel
theorem dX5_isShot_52 : decode cX5_isShot 52 = .ok (.goto 4, 3) := by decide +kernel
theorem dX5_isShot_55 : decode cX5_isShot 55 = .ok (.iconst 0, 1) := by decide +kernel
theorem dX5_isShot_56 : decode cX5_isShot 56 = .ok (.ireturn, 1) := by decide +kernel
theorem dX5_distanceOf_0 : decode cX5_distanceOf 0 = .ok (.iload_n 0, 1) := by decide +kernel
theorem dX5_distanceOf_1 : decode cX5_distanceOf 1 = .ok (.ifCond .ge 6, 3) := by decide +kernel
theorem dX5_distanceOf_4 : decode cX5_distanceOf 4 = .ok (.bipush 30, 2) := by decide +kernel
theorem dX5_distanceOf_6 : decode cX5_distanceOf 6 = .ok (.ireturn, 1) := by decide +kernel
theorem dX5_distanceOf_7 : decode cX5_distanceOf 7 = .ok (.iconst 2, 1) := by decide +kernel
theorem dX5_distanceOf_8 : decode cX5_distanceOf 8 = .ok (.iload_n 0, 1) := by decide +kernel
theorem dX5_distanceOf_9 : decode cX5_distanceOf 9 = .ok (.bipush 100, 2) := by decide +kernel
theorem dX5_distanceOf_11 : decode cX5_distanceOf 11 = .ok (.idiv, 1) := by decide +kernel
theorem dX5_distanceOf_12 : decode cX5_distanceOf 12 = .ok (.iconst 4, 1) := by decide +kernel
theorem dX5_distanceOf_13 : decode cX5_distanceOf 13 = .ok (.isub, 1) := by decide +kernel
theorem dX5_distanceOf_14 : decode cX5_distanceOf 14 = .ok (.invokestatic 222, 3) := by decide +kernel
theorem dX5_distanceOf_17 : decode cX5_distanceOf 17 = .ok (.imul, 1) := by decide +kernel
theorem dX5_distanceOf_18 : decode cX5_distanceOf 18 = .ok (.istore_n 1, 1) := by decide +kernel
theorem dX5_distanceOf_19 : decode cX5_distanceOf 19 = .ok (.iload_n 0, 1) := by decide +kernel
theorem dX5_distanceOf_20 : decode cX5_distanceOf 20 = .ok (.bipush 100, 2) := by decide +kernel
theorem dX5_distanceOf_22 : decode cX5_distanceOf 22 = .ok (.irem, 1) := by decide +kernel
theorem dX5_distanceOf_23 : decode cX5_distanceOf 23 = .ok (.bipush 50, 2) := by decide +kernel
theorem dX5_distanceOf_25 : decode cX5_distanceOf 25 = .ok (.isub, 1) := by decide +kernel
theorem dX5_distanceOf_26 : decode cX5_distanceOf 26 = .ok (.invokestatic 222, 3) := by decide +kernel
theorem dX5_distanceOf_29 : decode cX5_distanceOf 29 = .ok (.istore_n 2, 1) := by decide +kernel
theorem dX5_distanceOf_30 : decode cX5_distanceOf 30 = .ok (.iload_n 1, 1) := by decide +kernel
theorem dX5_distanceOf_31 : decode cX5_distanceOf 31 = .ok (.iload_n 2, 1) := by decide +kernel
theorem dX5_distanceOf_32 : decode cX5_distanceOf 32 = .ok (.iadd, 1) := by decide +kernel
theorem dX5_distanceOf_33 : decode cX5_distanceOf 33 = .ok (.bipush 30, 2) := by decide +kernel
theorem dX5_distanceOf_35 : decode cX5_distanceOf 35 = .ok (.invokestatic 227, 3) := by decide +kernel
theorem dX5_distanceOf_38 : decode cX5_distanceOf 38 = .ok (.ireturn, 1) := by decide +kernel
theorem dX5_gameOf_0 : decode cX5_gameOf 0 = .ok (.iload_n 1, 1) := by decide +kernel
theorem dX5_gameOf_1 : decode cX5_gameOf 1 = .ok (.ifCond .lt 21, 3) := by decide +kernel
theorem dX5_gameOf_4 : decode cX5_gameOf 4 = .ok (.iload_n 1, 1) := by decide +kernel
theorem dX5_gameOf_5 : decode cX5_gameOf 5 = .ok (.aload_n 0, 1) := by decide +kernel
theorem dX5_gameOf_6 : decode cX5_gameOf 6 = .ok (.getfield 25, 3) := by decide +kernel
theorem dX5_gameOf_9 : decode cX5_gameOf 9 = .ok (.arraylength, 1) := by decide +kernel
theorem dX5_gameOf_10 : decode cX5_gameOf 10 = .ok (.if_icmp .ge 12, 3) := by decide +kernel
theorem dX5_gameOf_13 : decode cX5_gameOf 13 = .ok (.aload_n 0, 1) := by decide +kernel
theorem dX5_gameOf_14 : decode cX5_gameOf 14 = .ok (.getfield 25, 3) := by decide +kernel
theorem dX5_gameOf_17 : decode cX5_gameOf 17 = .ok (.iload_n 1, 1) := by decide +kernel
theorem dX5_gameOf_18 : decode cX5_gameOf 18 = .ok (.aaload, 1) := by decide +kernel
theorem dX5_gameOf_19 : decode cX5_gameOf 19 = .ok (.goto 4, 3) := by decide +kernel
theorem dX5_gameOf_22 : decode cX5_gameOf 22 = .ok (.aconst_null, 1) := by decide +kernel
theorem dX5_gameOf_23 : decode cX5_gameOf 23 = .ok (.astore_n 2, 1) := by decide +kernel
theorem dX5_gameOf_24 : decode cX5_gameOf 24 = .ok (.aload_n 2, 1) := by decide +kernel
theorem dX5_gameOf_25 : decode cX5_gameOf 25 = .ok (.ifnonnull 13, 3) := by decide +kernel
theorem dX5_gameOf_28 : decode cX5_gameOf 28 = .ok (.new 47, 3) := by decide +kernel
theorem dX5_gameOf_31 : decode cX5_gameOf 31 = .ok (.dup, 1) := by decide +kernel
theorem dX5_gameOf_32 : decode cX5_gameOf 32 = .ok (.ldc 230, 2) := by decide +kernel
theorem dX5_gameOf_34 : decode cX5_gameOf 34 = .ok (.invokespecial 51, 3) := by decide +kernel
theorem dX5_gameOf_37 : decode cX5_gameOf 37 = .ok (.athrow, 1) := by decide +kernel
theorem dX5_gameOf_38 : decode cX5_gameOf 38 = .ok (.aload_n 2, 1) := by decide +kernel
theorem dX5_gameOf_39 : decode cX5_gameOf 39 = .ok (.areturn, 1) := by decide +kernel
theorem dX5_sheetOf_0 : decode cX5_sheetOf 0 = .ok (.iload_n 1, 1) := by decide +kernel
theorem dX5_sheetOf_1 : decode cX5_sheetOf 1 = .ok (.ifCond .lt 21, 3) := by decide +kernel
theorem dX5_sheetOf_4 : decode cX5_sheetOf 4 = .ok (.iload_n 1, 1) := by decide +kernel
theorem dX5_sheetOf_5 : decode cX5_sheetOf 5 = .ok (.aload_n 0, 1) := by decide +kernel
theorem dX5_sheetOf_6 : decode cX5_sheetOf 6 = .ok (.getfield 11, 3) := by decide +kernel
theorem dX5_sheetOf_9 : decode cX5_sheetOf 9 = .ok (.arraylength, 1) := by decide +kernel
theorem dX5_sheetOf_10 : decode cX5_sheetOf 10 = .ok (.if_icmp .ge 12, 3) := by decide +kernel
theorem dX5_sheetOf_13 : decode cX5_sheetOf 13 = .ok (.aload_n 0, 1) := by decide +kernel
theorem dX5_sheetOf_14 : decode cX5_sheetOf 14 = .ok (.getfield 11, 3) := by decide +kernel
theorem dX5_sheetOf_17 : decode cX5_sheetOf 17 = .ok (.iload_n 1, 1) := by decide +kernel
theorem dX5_sheetOf_18 : decode cX5_sheetOf 18 = .ok (.aaload, 1) := by decide +kernel
theorem dX5_sheetOf_19 : decode cX5_sheetOf 19 = .ok (.goto 4, 3) := by decide +kernel
theorem dX5_sheetOf_22 : decode cX5_sheetOf 22 = .ok (.aconst_null, 1) := by decide +kernel
theorem dX5_sheetOf_23 : decode cX5_sheetOf 23 = .ok (.astore_n 2, 1) := by decide +kernel
theorem dX5_sheetOf_24 : decode cX5_sheetOf 24 = .ok (.aload_n 2, 1) := by decide +kernel
theorem dX5_sheetOf_25 : decode cX5_sheetOf 25 = .ok (.ifnonnull 13, 3) := by decide +kernel
theorem dX5_sheetOf_28 : decode cX5_sheetOf 28 = .ok (.new 47, 3) := by decide +kernel
theorem dX5_sheetOf_31 : decode cX5_sheetOf 31 = .ok (.dup, 1) := by decide +kernel
theorem dX5_sheetOf_32 : decode cX5_sheetOf 32 = .ok (.ldc 232, 2) := by decide +kernel
theorem dX5_sheetOf_34 : decode cX5_sheetOf 34 = .ok (.invokespecial 51, 3) := by decide +kernel
theorem dX5_sheetOf_37 : decode cX5_sheetOf 37 = .ok (.athrow, 1) := by decide +kernel
theorem dX5_sheetOf_38 : decode cX5_sheetOf 38 = .ok (.aload_n 2, 1) := by decide +kernel
theorem dX5_sheetOf_39 : decode cX5_sheetOf 39 = .ok (.areturn, 1) := by decide +kernel
theorem dX5_teamOf_0 : decode cX5_teamOf 0 = .ok (.iload_n 1, 1) := by decide +kernel
theorem dX5_teamOf_1 : decode cX5_teamOf 1 = .ok (.ifCond .lt 21, 3) := by decide +kernel
theorem dX5_teamOf_4 : decode cX5_teamOf 4 = .ok (.iload_n 1, 1) := by decide +kernel
theorem dX5_teamOf_5 : decode cX5_teamOf 5 = .ok (.aload_n 0, 1) := by decide +kernel
theorem dX5_teamOf_6 : decode cX5_teamOf 6 = .ok (.getfield 18, 3) := by decide +kernel
theorem dX5_teamOf_9 : decode cX5_teamOf 9 = .ok (.arraylength, 1) := by decide +kernel
theorem dX5_teamOf_10 : decode cX5_teamOf 10 = .ok (.if_icmp .ge 12, 3) := by decide +kernel
theorem dX5_teamOf_13 : decode cX5_teamOf 13 = .ok (.aload_n 0, 1) := by decide +kernel
theorem dX5_teamOf_14 : decode cX5_teamOf 14 = .ok (.getfield 18, 3) := by decide +kernel
theorem dX5_teamOf_17 : decode cX5_teamOf 17 = .ok (.iload_n 1, 1) := by decide +kernel
theorem dX5_teamOf_18 : decode cX5_teamOf 18 = .ok (.aaload, 1) := by decide +kernel
theorem dX5_teamOf_19 : decode cX5_teamOf 19 = .ok (.goto 4, 3) := by decide +kernel
theorem dX5_teamOf_22 : decode cX5_teamOf 22 = .ok (.aconst_null, 1) := by decide +kernel
theorem dX5_teamOf_23 : decode cX5_teamOf 23 = .ok (.astore_n 2, 1) := by decide +kernel
theorem dX5_teamOf_24 : decode cX5_teamOf 24 = .ok (.aload_n 2, 1) := by decide +kernel
theorem dX5_teamOf_25 : decode cX5_teamOf 25 = .ok (.ifnonnull 13, 3) := by decide +kernel
theorem dX5_teamOf_28 : decode cX5_teamOf 28 = .ok (.new 47, 3) := by decide +kernel
theorem dX5_teamOf_31 : decode cX5_teamOf 31 = .ok (.dup, 1) := by decide +kernel
theorem dX5_teamOf_32 : decode cX5_teamOf 32 = .ok (.ldc 234, 2) := by decide +kernel
theorem dX5_teamOf_34 : decode cX5_teamOf 34 = .ok (.invokespecial 51, 3) := by decide +kernel
theorem dX5_teamOf_37 : decode cX5_teamOf 37 = .ok (.athrow, 1) := by decide +kernel
theorem dX5_teamOf_38 : decode cX5_teamOf 38 = .ok (.aload_n 2, 1) := by decide +kernel
theorem dX5_teamOf_39 : decode cX5_teamOf 39 = .ok (.areturn, 1) := by decide +kernel
theorem dX5_settleDraw_0 : decode cX5_settleDraw 0 = .ok (.aload_n 0, 1) := by decide +kernel
theorem dX5_settleDraw_1 : decode cX5_settleDraw 1 = .ok (.aload_n 1, 1) := by decide +kernel
theorem dX5_settleDraw_2 : decode cX5_settleDraw 2 = .ok (.invokevirtual 181, 3) := by decide +kernel
theorem dX5_settleDraw_5 : decode cX5_settleDraw 5 = .ok (.ifCond .ne 10, 3) := by decide +kernel
theorem dX5_settleDraw_8 : decode cX5_settleDraw 8 = .ok (.aload_n 1, 1) := by decide +kernel
theorem dX5_settleDraw_9 : decode cX5_settleDraw 9 = .ok (.getfield 236, 3) := by decide +kernel
theorem dX5_settleDraw_12 : decode cX5_settleDraw 12 = .ok (.goto 7, 3) := by decide +kernel
theorem dX5_settleDraw_15 : decode cX5_settleDraw 15 = .ok (.aload_n 1, 1) := by decide +kernel
theorem dX5_settleDraw_16 : decode cX5_settleDraw 16 = .ok (.getfield 239, 3) := by decide +kernel
theorem dX5_settleDraw_19 : decode cX5_settleDraw 19 = .ok (.invokevirtual 209, 3) := by decide +kernel
theorem dX5_settleDraw_22 : decode cX5_settleDraw 22 = .ok (.astore_n 3, 1) := by decide +kernel
theorem dX5_settleDraw_23 : decode cX5_settleDraw 23 = .ok (.aload_n 3, 1) := by decide +kernel
theorem dX5_settleDraw_24 : decode cX5_settleDraw 24 = .ok (.dup, 1) := by decide +kernel
theorem dX5_settleDraw_25 : decode cX5_settleDraw 25 = .ok (.getfield 216, 3) := by decide +kernel
theorem dX5_settleDraw_28 : decode cX5_settleDraw 28 = .ok (.iconst 1, 1) := by decide +kernel
theorem dX5_settleDraw_29 : decode cX5_settleDraw 29 = .ok (.iadd, 1) := by decide +kernel
theorem dX5_settleDraw_30 : decode cX5_settleDraw 30 = .ok (.putfield 216, 3) := by decide +kernel
theorem dX5_settleDraw_33 : decode cX5_settleDraw 33 = .ok (.aload_n 3, 1) := by decide +kernel
theorem dX5_settleDraw_34 : decode cX5_settleDraw 34 = .ok (.dup, 1) := by decide +kernel
theorem dX5_settleDraw_35 : decode cX5_settleDraw 35 = .ok (.getfield 219, 3) := by decide +kernel
theorem dX5_settleDraw_38 : decode cX5_settleDraw 38 = .ok (.iload_n 2, 1) := by decide +kernel
theorem dX5_settleDraw_39 : decode cX5_settleDraw 39 = .ok (.iadd, 1) := by decide +kernel
theorem dX5_settleDraw_40 : decode cX5_settleDraw 40 = .ok (.putfield 219, 3) := by decide +kernel
theorem dX5_settleDraw_43 : decode cX5_settleDraw 43 = .ok (.aload_n 1, 1) := by decide +kernel
theorem dX5_settleDraw_44 : decode cX5_settleDraw 44 = .ok (.iload_n 2, 1) := by decide +kernel
theorem dX5_settleDraw_45 : decode cX5_settleDraw 45 = .ok (.invokevirtual 242, 3) := by decide +kernel
theorem dX5_settleDraw_48 : decode cX5_settleDraw 48 = .ok (.return_, 1) := by decide +kernel
theorem dX5_settleStone_0 : decode cX5_settleStone 0 = .ok (.aload_n 1, 1) := by decide +kernel
theorem dX5_settleStone_1 : decode cX5_settleStone 1 = .ok (.dup, 1) := by decide +kernel
theorem dX5_settleStone_2 : decode cX5_settleStone 2 = .ok (.getfield 246, 3) := by decide +kernel
theorem dX5_settleStone_5 : decode cX5_settleStone 5 = .ok (.iconst 1, 1) := by decide +kernel
theorem dX5_settleStone_6 : decode cX5_settleStone 6 = .ok (.iadd, 1) := by decide +kernel
theorem dX5_settleStone_7 : decode cX5_settleStone 7 = .ok (.putfield 246, 3) := by decide +kernel
theorem dX5_settleStone_10 : decode cX5_settleStone 10 = .ok (.aload_n 1, 1) := by decide +kernel
theorem dX5_settleStone_11 : decode cX5_settleStone 11 = .ok (.getfield 246, 3) := by decide +kernel
theorem dX5_settleStone_14 : decode cX5_settleStone 14 = .ok (.bipush 6, 2) := by decide +kernel
theorem dX5_settleStone_16 : decode cX5_settleStone 16 = .ok (.if_icmp .ge 4, 3) := by decide +kernel
theorem dX5_settleStone_19 : decode cX5_settleStone 19 = .ok (.return_, 1) := by decide +kernel
theorem dX5_settleStone_20 : decode cX5_settleStone 20 = .ok (.aload_n 1, 1) := by decide +kernel
theorem dX5_settleStone_21 : decode cX5_settleStone 21 = .ok (.invokevirtual 249, 3) := by decide +kernel
theorem dX5_settleStone_24 : decode cX5_settleStone 24 = .ok (.aload_n 1, 1) := by decide +kernel
theorem dX5_settleStone_25 : decode cX5_settleStone 25 = .ok (.getfield 178, 3) := by decide +kernel
theorem dX5_settleStone_28 : decode cX5_settleStone 28 = .ok (.iconst 4, 1) := by decide +kernel
theorem dX5_settleStone_29 : decode cX5_settleStone 29 = .ok (.if_icmp .ne 8, 3) := by decide +kernel
theorem dX5_settleStone_32 : decode cX5_settleStone 32 = .ok (.aload_n 0, 1) := by decide +kernel
theorem dX5_settleStone_33 : decode cX5_settleStone 33 = .ok (.aload_n 1, 1) := by decide +kernel
theorem dX5_settleStone_34 : decode cX5_settleStone 34 = .ok (.invokevirtual 252, 3) := by decide +kernel
theorem dX5_settleStone_37 : decode cX5_settleStone 37 = .ok (.return_, 1) := by decide +kernel
theorem dX5_closeGame_0 : decode cX5_closeGame 0 = .ok (.aload_n 1, 1) := by decide +kernel
theorem dX5_closeGame_1 : decode cX5_closeGame 1 = .ok (.iconst 3, 1) := by decide +kernel
theorem dX5_closeGame_2 : decode cX5_closeGame 2 = .ok (.putfield 114, 3) := by decide +kernel
theorem dX5_closeGame_5 : decode cX5_closeGame 5 = .ok (.aload_n 1, 1) := by decide +kernel
theorem dX5_closeGame_6 : decode cX5_closeGame 6 = .ok (.iconst (-1), 1) := by decide +kernel
theorem dX5_closeGame_7 : decode cX5_closeGame 7 = .ok (.putfield 184, 3) := by decide +kernel
theorem dX5_closeGame_10 : decode cX5_closeGame 10 = .ok (.aload_n 0, 1) := by decide +kernel
theorem dX5_closeGame_11 : decode cX5_closeGame 11 = .ok (.aload_n 1, 1) := by decide +kernel
theorem dX5_closeGame_12 : decode cX5_closeGame 12 = .ok (.getfield 95, 3) := by decide +kernel
theorem dX5_closeGame_15 : decode cX5_closeGame 15 = .ok (.invokevirtual 98, 3) := by decide +kernel
theorem dX5_closeGame_18 : decode cX5_closeGame 18 = .ok (.iconst (-1), 1) := by decide +kernel
theorem dX5_closeGame_19 : decode cX5_closeGame 19 = .ok (.putfield 148, 3) := by decide +kernel
theorem dX5_closeGame_22 : decode cX5_closeGame 22 = .ok (.aload_n 1, 1) := by decide +kernel
theorem dX5_closeGame_23 : decode cX5_closeGame 23 = .ok (.getfield 172, 3) := by decide +kernel
theorem dX5_closeGame_26 : decode cX5_closeGame 26 = .ok (.aload_n 1, 1) := by decide +kernel
theorem dX5_closeGame_27 : decode cX5_closeGame 27 = .ok (.getfield 175, 3) := by decide +kernel
theorem dX5_closeGame_30 : decode cX5_closeGame 30 = .ok (.if_icmp .le 23, 3) := by decide +kernel
theorem dX5_closeGame_33 : decode cX5_closeGame 33 = .ok (.aload_n 0, 1) := by decide +kernel
theorem dX5_closeGame_34 : decode cX5_closeGame 34 = .ok (.aload_n 1, 1) := by decide +kernel
theorem dX5_closeGame_35 : decode cX5_closeGame 35 = .ok (.getfield 236, 3) := by decide +kernel
theorem dX5_closeGame_38 : decode cX5_closeGame 38 = .ok (.invokevirtual 209, 3) := by decide +kernel
theorem dX5_closeGame_41 : decode cX5_closeGame 41 = .ok (.dup, 1) := by decide +kernel
theorem dX5_closeGame_42 : decode cX5_closeGame 42 = .ok (.getfield 213, 3) := by decide +kernel
theorem dX5_closeGame_45 : decode cX5_closeGame 45 = .ok (.iconst 1, 1) := by decide +kernel
theorem dX5_closeGame_46 : decode cX5_closeGame 46 = .ok (.iadd, 1) := by decide +kernel
theorem dX5_closeGame_47 : decode cX5_closeGame 47 = .ok (.putfield 213, 3) := by decide +kernel
theorem dX5_closeGame_50 : decode cX5_closeGame 50 = .ok (.goto 31, 3) := by decide +kernel
theorem dX5_closeGame_53 : decode cX5_closeGame 53 = .ok (.aload_n 1, 1) := by decide +kernel
theorem dX5_closeGame_54 : decode cX5_closeGame 54 = .ok (.getfield 175, 3) := by decide +kernel
theorem dX5_closeGame_57 : decode cX5_closeGame 57 = .ok (.aload_n 1, 1) := by decide +kernel
theorem dX5_closeGame_58 : decode cX5_closeGame 58 = .ok (.getfield 172, 3) := by decide +kernel
theorem dX5_closeGame_61 : decode cX5_closeGame 61 = .ok (.if_icmp .le 20, 3) := by decide +kernel
theorem dX5_closeGame_64 : decode cX5_closeGame 64 = .ok (.aload_n 0, 1) := by decide +kernel
theorem dX5_closeGame_65 : decode cX5_closeGame 65 = .ok (.aload_n 1, 1) := by decide +kernel
theorem dX5_closeGame_66 : decode cX5_closeGame 66 = .ok (.getfield 239, 3) := by decide +kernel
theorem dX5_closeGame_69 : decode cX5_closeGame 69 = .ok (.invokevirtual 209, 3) := by decide +kernel
theorem dX5_closeGame_72 : decode cX5_closeGame 72 = .ok (.dup, 1) := by decide +kernel
theorem dX5_closeGame_73 : decode cX5_closeGame 73 = .ok (.getfield 213, 3) := by decide +kernel
theorem dX5_closeGame_76 : decode cX5_closeGame 76 = .ok (.iconst 1, 1) := by decide +kernel
theorem dX5_closeGame_77 : decode cX5_closeGame 77 = .ok (.iadd, 1) := by decide +kernel
theorem dX5_closeGame_78 : decode cX5_closeGame 78 = .ok (.putfield 213, 3) := by decide +kernel
theorem dX5_closeGame_81 : decode cX5_closeGame 81 = .ok (.return_, 1) := by decide +kernel
theorem dX5_workAnHour_0 : decode cX5_workAnHour 0 = .ok (.aload_n 0, 1) := by decide +kernel
theorem dX5_workAnHour_1 : decode cX5_workAnHour 1 = .ok (.getfield 154, 3) := by decide +kernel
theorem dX5_workAnHour_4 : decode cX5_workAnHour 4 = .ok (.ifCond .le 13, 3) := by decide +kernel
theorem dX5_workAnHour_7 : decode cX5_workAnHour 7 = .ok (.aload_n 0, 1) := by decide +kernel
theorem dX5_workAnHour_8 : decode cX5_workAnHour 8 = .ok (.dup, 1) := by decide +kernel
theorem dX5_workAnHour_9 : decode cX5_workAnHour 9 = .ok (.getfield 154, 3) := by decide +kernel
theorem dX5_workAnHour_12 : decode cX5_workAnHour 12 = .ok (.iconst 1, 1) := by decide +kernel
theorem dX5_workAnHour_13 : decode cX5_workAnHour 13 = .ok (.isub, 1) := by decide +kernel
theorem dX5_workAnHour_14 : decode cX5_workAnHour 14 = .ok (.putfield 154, 3) := by decide +kernel
theorem dX5_workAnHour_17 : decode cX5_workAnHour 17 = .ok (.aload_n 0, 1) := by decide +kernel
theorem dX5_workAnHour_18 : decode cX5_workAnHour 18 = .ok (.getfield 154, 3) := by decide +kernel
theorem dX5_workAnHour_21 : decode cX5_workAnHour 21 = .ok (.ifCond .le 4, 3) := by decide +kernel
theorem dX5_workAnHour_24 : decode cX5_workAnHour 24 = .ok (.return_, 1) := by decide +kernel
theorem dX5_workAnHour_25 : decode cX5_workAnHour 25 = .ok (.aload_n 0, 1) := by decide +kernel
theorem dX5_workAnHour_26 : decode cX5_workAnHour 26 = .ok (.getfield 40, 3) := by decide +kernel
theorem dX5_workAnHour_29 : decode cX5_workAnHour 29 = .ok (.iconst (-1), 1) := by decide +kernel
theorem dX5_workAnHour_30 : decode cX5_workAnHour 30 = .ok (.if_icmp .eq 14, 3) := by decide +kernel
theorem dX5_workAnHour_33 : decode cX5_workAnHour 33 = .ok (.aload_n 0, 1) := by decide +kernel
theorem dX5_workAnHour_34 : decode cX5_workAnHour 34 = .ok (.aload_n 0, 1) := by decide +kernel
theorem dX5_workAnHour_35 : decode cX5_workAnHour 35 = .ok (.getfield 40, 3) := by decide +kernel
theorem dX5_workAnHour_38 : decode cX5_workAnHour 38 = .ok (.invokevirtual 98, 3) := by decide +kernel
theorem dX5_workAnHour_41 : decode cX5_workAnHour 41 = .ok (.invokevirtual 255, 3) := by decide +kernel
theorem dX5_workAnHour_44 : decode cX5_workAnHour 44 = .ok (.aload_n 0, 1) := by decide +kernel
theorem dX5_workAnHour_45 : decode cX5_workAnHour 45 = .ok (.aload_n 0, 1) := by decide +kernel
theorem dX5_workAnHour_46 : decode cX5_workAnHour 46 = .ok (.invokevirtual 258, 3) := by decide +kernel
theorem dX5_workAnHour_49 : decode cX5_workAnHour 49 = .ok (.putfield 40, 3) := by decide +kernel
theorem dX5_workAnHour_52 : decode cX5_workAnHour 52 = .ok (.aload_n 0, 1) := by decide +kernel
theorem dX5_workAnHour_53 : decode cX5_workAnHour 53 = .ok (.getfield 40, 3) := by decide +kernel
theorem dX5_workAnHour_56 : decode cX5_workAnHour 56 = .ok (.iconst (-1), 1) := by decide +kernel
theorem dX5_workAnHour_57 : decode cX5_workAnHour 57 = .ok (.if_icmp .eq 11, 3) := by decide +kernel
theorem dX5_workAnHour_60 : decode cX5_workAnHour 60 = .ok (.aload_n 0, 1) := by decide +kernel
theorem dX5_workAnHour_61 : decode cX5_workAnHour 61 = .ok (.aload_n 0, 1) := by decide +kernel
theorem dX5_workAnHour_62 : decode cX5_workAnHour 62 = .ok (.getfield 36, 3) := by decide +kernel
theorem dX5_workAnHour_65 : decode cX5_workAnHour 65 = .ok (.putfield 154, 3) := by decide +kernel
theorem dX5_workAnHour_68 : decode cX5_workAnHour 68 = .ok (.return_, 1) := by decide +kernel
theorem dX5_sheetToMake_0 : decode cX5_sheetToMake 0 = .ok (.iconst (-1), 1) := by decide +kernel
theorem dX5_sheetToMake_1 : decode cX5_sheetToMake 1 = .ok (.istore_n 1, 1) := by decide +kernel
theorem dX5_sheetToMake_2 : decode cX5_sheetToMake 2 = .ok (.iconst 0, 1) := by decide +kernel
theorem dX5_sheetToMake_3 : decode cX5_sheetToMake 3 = .ok (.istore_n 2, 1) := by decide +kernel
theorem dX5_sheetToMake_4 : decode cX5_sheetToMake 4 = .ok (.iconst 0, 1) := by decide +kernel
theorem dX5_sheetToMake_5 : decode cX5_sheetToMake 5 = .ok (.istore_n 3, 1) := by decide +kernel
theorem dX5_sheetToMake_6 : decode cX5_sheetToMake 6 = .ok (.iload_n 3, 1) := by decide +kernel
theorem dX5_sheetToMake_7 : decode cX5_sheetToMake 7 = .ok (.iconst 3, 1) := by decide +kernel
theorem dX5_sheetToMake_8 : decode cX5_sheetToMake 8 = .ok (.if_icmp .ge 59, 3) := by decide +kernel
theorem dX5_sheetToMake_11 : decode cX5_sheetToMake 11 = .ok (.aload_n 0, 1) := by decide +kernel
theorem dX5_sheetToMake_12 : decode cX5_sheetToMake 12 = .ok (.iload_n 3, 1) := by decide +kernel
theorem dX5_sheetToMake_13 : decode cX5_sheetToMake 13 = .ok (.invokevirtual 98, 3) := by decide +kernel
theorem dX5_sheetToMake_16 : decode cX5_sheetToMake 16 = .ok (.astore 4, 2) := by decide +kernel
theorem dX5_sheetToMake_18 : decode cX5_sheetToMake 18 = .ok (.aload 4, 2) := by decide +kernel
theorem dX5_sheetToMake_20 : decode cX5_sheetToMake 20 = .ok (.getfield 144, 3) := by decide +kernel
theorem dX5_sheetToMake_23 : decode cX5_sheetToMake 23 = .ok (.ifCond .ne 38, 3) := by decide +kernel
theorem dX5_sheetToMake_26 : decode cX5_sheetToMake 26 = .ok (.aload 4, 2) := by decide +kernel
theorem dX5_sheetToMake_28 : decode cX5_sheetToMake 28 = .ok (.getfield 148, 3) := by decide +kernel
theorem dX5_sheetToMake_31 : decode cX5_sheetToMake 31 = .ok (.iconst (-1), 1) := by decide +kernel
theorem dX5_sheetToMake_32 : decode cX5_sheetToMake 32 = .ok (.if_icmp .eq 6, 3) := by decide +kernel
theorem dX5_sheetToMake_35 : decode cX5_sheetToMake 35 = .ok (.goto 26, 3) := by decide +kernel
theorem dX5_sheetToMake_38 : decode cX5_sheetToMake 38 = .ok (.aload_n 0, 1) := by decide +kernel
theorem dX5_sheetToMake_39 : decode cX5_sheetToMake 39 = .ok (.iload_n 3, 1) := by decide +kernel
theorem dX5_sheetToMake_40 : decode cX5_sheetToMake 40 = .ok (.invokevirtual 261, 3) := by decide +kernel
theorem dX5_sheetToMake_43 : decode cX5_sheetToMake 43 = .ok (.istore 5, 2) := by decide +kernel
theorem dX5_sheetToMake_45 : decode cX5_sheetToMake 45 = .ok (.iload_n 1, 1) := by decide +kernel
theorem dX5_sheetToMake_46 : decode cX5_sheetToMake 46 = .ok (.iconst (-1), 1) := by decide +kernel
theorem dX5_sheetToMake_47 : decode cX5_sheetToMake 47 = .ok (.if_icmp .eq 9, 3) := by decide +kernel
theorem dX5_sheetToMake_50 : decode cX5_sheetToMake 50 = .ok (.iload 5, 2) := by decide +kernel
theorem dX5_sheetToMake_52 : decode cX5_sheetToMake 52 = .ok (.iload_n 2, 1) := by decide +kernel
theorem dX5_sheetToMake_53 : decode cX5_sheetToMake 53 = .ok (.if_icmp .ge 8, 3) := by decide +kernel
theorem dX5_sheetToMake_56 : decode cX5_sheetToMake 56 = .ok (.iload_n 3, 1) := by decide +kernel
theorem dX5_sheetToMake_57 : decode cX5_sheetToMake 57 = .ok (.istore_n 1, 1) := by decide +kernel
theorem dX5_sheetToMake_58 : decode cX5_sheetToMake 58 = .ok (.iload 5, 2) := by decide +kernel
theorem dX5_sheetToMake_60 : decode cX5_sheetToMake 60 = .ok (.istore_n 2, 1) := by decide +kernel
theorem dX5_sheetToMake_61 : decode cX5_sheetToMake 61 = .ok (.iinc 3 1, 3) := by decide +kernel
theorem dX5_sheetToMake_64 : decode cX5_sheetToMake 64 = .ok (.goto (-58), 3) := by decide +kernel
theorem dX5_sheetToMake_67 : decode cX5_sheetToMake 67 = .ok (.iload_n 1, 1) := by decide +kernel
theorem dX5_sheetToMake_68 : decode cX5_sheetToMake 68 = .ok (.ireturn, 1) := by decide +kernel
theorem dX5_leastHourWished_0 : decode cX5_leastHourWished 0 = .ok (.sipush 19998, 3) := by decide +kernel
theorem dX5_leastHourWished_3 : decode cX5_leastHourWished 3 = .ok (.istore_n 2, 1) := by decide +kernel
theorem dX5_leastHourWished_4 : decode cX5_leastHourWished 4 = .ok (.iconst 0, 1) := by decide +kernel
theorem dX5_leastHourWished_5 : decode cX5_leastHourWished 5 = .ok (.istore_n 3, 1) := by decide +kernel
theorem dX5_leastHourWished_6 : decode cX5_leastHourWished 6 = .ok (.iload_n 3, 1) := by decide +kernel
theorem dX5_leastHourWished_7 : decode cX5_leastHourWished 7 = .ok (.aload_n 0, 1) := by decide +kernel
theorem dX5_leastHourWished_8 : decode cX5_leastHourWished 8 = .ok (.getfield 25, 3) := by decide +kernel
theorem dX5_leastHourWished_11 : decode cX5_leastHourWished 11 = .ok (.arraylength, 1) := by decide +kernel
theorem dX5_leastHourWished_12 : decode cX5_leastHourWished 12 = .ok (.if_icmp .ge 49, 3) := by decide +kernel
theorem dX5_leastHourWished_15 : decode cX5_leastHourWished 15 = .ok (.aload_n 0, 1) := by decide +kernel
theorem dX5_leastHourWished_16 : decode cX5_leastHourWished 16 = .ok (.getfield 25, 3) := by decide +kernel
theorem dX5_leastHourWished_19 : decode cX5_leastHourWished 19 = .ok (.iload_n 3, 1) := by decide +kernel
theorem dX5_leastHourWished_20 : decode cX5_leastHourWished 20 = .ok (.aaload, 1) := by decide +kernel
theorem dX5_leastHourWished_21 : decode cX5_leastHourWished 21 = .ok (.astore 4, 2) := by decide +kernel
theorem dX5_leastHourWished_23 : decode cX5_leastHourWished 23 = .ok (.aload 4, 2) := by decide +kernel
theorem dX5_leastHourWished_25 : decode cX5_leastHourWished 25 = .ok (.ifnull 30, 3) := by decide +kernel
theorem dX5_leastHourWished_28 : decode cX5_leastHourWished 28 = .ok (.aload 4, 2) := by decide +kernel
theorem dX5_leastHourWished_30 : decode cX5_leastHourWished 30 = .ok (.getfield 114, 3) := by decide +kernel
theorem dX5_leastHourWished_33 : decode cX5_leastHourWished 33 = .ok (.ifCond .ne 22, 3) := by decide +kernel
theorem dX5_leastHourWished_36 : decode cX5_leastHourWished 36 = .ok (.aload 4, 2) := by decide +kernel
theorem dX5_leastHourWished_38 : decode cX5_leastHourWished 38 = .ok (.getfield 264, 3) := by decide +kernel
theorem dX5_leastHourWished_41 : decode cX5_leastHourWished 41 = .ok (.iload_n 1, 1) := by decide +kernel
theorem dX5_leastHourWished_42 : decode cX5_leastHourWished 42 = .ok (.if_icmp .ne 13, 3) := by decide +kernel
theorem dX5_leastHourWished_45 : decode cX5_leastHourWished 45 = .ok (.iload_n 2, 1) := by decide +kernel
theorem dX5_leastHourWished_46 : decode cX5_leastHourWished 46 = .ok (.aload 4, 2) := by decide +kernel
theorem dX5_leastHourWished_48 : decode cX5_leastHourWished 48 = .ok (.getfield 169, 3) := by decide +kernel
theorem dX5_leastHourWished_51 : decode cX5_leastHourWished 51 = .ok (.invokestatic 227, 3) := by decide +kernel
theorem dX5_leastHourWished_54 : decode cX5_leastHourWished 54 = .ok (.istore_n 2, 1) := by decide +kernel
theorem dX5_leastHourWished_55 : decode cX5_leastHourWished 55 = .ok (.iinc 3 1, 3) := by decide +kernel
theorem dX5_leastHourWished_58 : decode cX5_leastHourWished 58 = .ok (.goto (-52), 3) := by decide +kernel
theorem dX5_leastHourWished_61 : decode cX5_leastHourWished 61 = .ok (.iload_n 2, 1) := by decide +kernel
theorem dX5_leastHourWished_62 : decode cX5_leastHourWished 62 = .ok (.ireturn, 1) := by decide +kernel
theorem dX5_beginGames_0 : decode cX5_beginGames 0 = .ok (.iconst 0, 1) := by decide +kernel
theorem dX5_beginGames_1 : decode cX5_beginGames 1 = .ok (.istore_n 1, 1) := by decide +kernel
theorem dX5_beginGames_2 : decode cX5_beginGames 2 = .ok (.iload_n 1, 1) := by decide +kernel
theorem dX5_beginGames_3 : decode cX5_beginGames 3 = .ok (.aload_n 0, 1) := by decide +kernel
theorem dX5_beginGames_4 : decode cX5_beginGames 4 = .ok (.getfield 25, 3) := by decide +kernel
theorem dX5_beginGames_7 : decode cX5_beginGames 7 = .ok (.arraylength, 1) := by decide +kernel
theorem dX5_beginGames_8 : decode cX5_beginGames 8 = .ok (.if_icmp .ge 97, 3) := by decide +kernel
theorem dX5_beginGames_11 : decode cX5_beginGames 11 = .ok (.aload_n 0, 1) := by decide +kernel
theorem dX5_beginGames_12 : decode cX5_beginGames 12 = .ok (.getfield 25, 3) := by decide +kernel
theorem dX5_beginGames_15 : decode cX5_beginGames 15 = .ok (.iload_n 1, 1) := by decide +kernel
theorem dX5_beginGames_16 : decode cX5_beginGames 16 = .ok (.aaload, 1) := by decide +kernel
theorem dX5_beginGames_17 : decode cX5_beginGames 17 = .ok (.astore_n 2, 1) := by decide +kernel
theorem dX5_beginGames_18 : decode cX5_beginGames 18 = .ok (.aload_n 2, 1) := by decide +kernel
theorem dX5_beginGames_19 : decode cX5_beginGames 19 = .ok (.ifnull 80, 3) := by decide +kernel
theorem dX5_beginGames_22 : decode cX5_beginGames 22 = .ok (.aload_n 2, 1) := by decide +kernel
theorem dX5_beginGames_23 : decode cX5_beginGames 23 = .ok (.getfield 114, 3) := by decide +kernel
theorem dX5_beginGames_26 : decode cX5_beginGames 26 = .ok (.ifCond .ne 73, 3) := by decide +kernel
theorem dX5_beginGames_29 : decode cX5_beginGames 29 = .ok (.aload_n 2, 1) := by decide +kernel
theorem dX5_beginGames_30 : decode cX5_beginGames 30 = .ok (.getfield 169, 3) := by decide +kernel
theorem dX5_beginGames_33 : decode cX5_beginGames 33 = .ok (.aload_n 0, 1) := by decide +kernel
theorem dX5_beginGames_34 : decode cX5_beginGames 34 = .ok (.getfield 54, 3) := by decide +kernel
theorem dX5_beginGames_37 : decode cX5_beginGames 37 = .ok (.if_icmp .le 6, 3) := by decide +kernel
theorem dX5_beginGames_40 : decode cX5_beginGames 40 = .ok (.goto 59, 3) := by decide +kernel
theorem dX5_beginGames_43 : decode cX5_beginGames 43 = .ok (.aload_n 0, 1) := by decide +kernel
theorem dX5_beginGames_44 : decode cX5_beginGames 44 = .ok (.aload_n 2, 1) := by decide +kernel
theorem dX5_beginGames_45 : decode cX5_beginGames 45 = .ok (.getfield 264, 3) := by decide +kernel
theorem dX5_beginGames_48 : decode cX5_beginGames 48 = .ok (.invokevirtual 267, 3) := by decide +kernel
theorem dX5_beginGames_51 : decode cX5_beginGames 51 = .ok (.istore_n 3, 1) := by decide +kernel
theorem dX5_beginGames_52 : decode cX5_beginGames 52 = .ok (.iload_n 3, 1) := by decide +kernel
theorem dX5_beginGames_53 : decode cX5_beginGames 53 = .ok (.iconst (-1), 1) := by decide +kernel
theorem dX5_beginGames_54 : decode cX5_beginGames 54 = .ok (.if_icmp .ne 16, 3) := by decide +kernel
theorem dX5_beginGames_57 : decode cX5_beginGames 57 = .ok (.aload_n 2, 1) := by decide +kernel
theorem dX5_beginGames_58 : decode cX5_beginGames 58 = .ok (.dup, 1) := by decide +kernel
theorem dX5_beginGames_59 : decode cX5_beginGames 59 = .ok (.getfield 169, 3) := by decide +kernel
theorem dX5_beginGames_62 : decode cX5_beginGames 62 = .ok (.iconst 1, 1) := by decide +kernel
theorem dX5_beginGames_63 : decode cX5_beginGames 63 = .ok (.iadd, 1) := by decide +kernel
theorem dX5_beginGames_64 : decode cX5_beginGames 64 = .ok (.putfield 169, 3) := by decide +kernel
theorem dX5_beginGames_67 : decode cX5_beginGames 67 = .ok (.goto 32, 3) := by decide +kernel
theorem dX5_beginGames_70 : decode cX5_beginGames 70 = .ok (.aload_n 0, 1) := by decide +kernel
theorem dX5_beginGames_71 : decode cX5_beginGames 71 = .ok (.iload_n 3, 1) := by decide +kernel
theorem dX5_beginGames_72 : decode cX5_beginGames 72 = .ok (.invokevirtual 98, 3) := by decide +kernel
theorem dX5_beginGames_75 : decode cX5_beginGames 75 = .ok (.astore 4, 2) := by decide +kernel
theorem dX5_beginGames_77 : decode cX5_beginGames 77 = .ok (.aload 4, 2) := by decide +kernel
theorem dX5_beginGames_79 : decode cX5_beginGames 79 = .ok (.iconst 0, 1) := by decide +kernel
theorem dX5_beginGames_80 : decode cX5_beginGames 80 = .ok (.putfield 144, 3) := by decide +kernel
theorem dX5_beginGames_83 : decode cX5_beginGames 83 = .ok (.aload 4, 2) := by decide +kernel
theorem dX5_beginGames_85 : decode cX5_beginGames 85 = .ok (.iload_n 1, 1) := by decide +kernel
theorem dX5_beginGames_86 : decode cX5_beginGames 86 = .ok (.putfield 148, 3) := by decide +kernel
theorem dX5_beginGames_89 : decode cX5_beginGames 89 = .ok (.aload_n 2, 1) := by decide +kernel
theorem dX5_beginGames_90 : decode cX5_beginGames 90 = .ok (.iload_n 3, 1) := by decide +kernel
theorem dX5_beginGames_91 : decode cX5_beginGames 91 = .ok (.putfield 95, 3) := by decide +kernel
theorem dX5_beginGames_94 : decode cX5_beginGames 94 = .ok (.aload_n 2, 1) := by decide +kernel
theorem dX5_beginGames_95 : decode cX5_beginGames 95 = .ok (.iconst 1, 1) := by decide +kernel
theorem dX5_beginGames_96 : decode cX5_beginGames 96 = .ok (.putfield 114, 3) := by decide +kernel
theorem dX5_beginGames_99 : decode cX5_beginGames 99 = .ok (.iinc 1 1, 3) := by decide +kernel
theorem dX5_beginGames_102 : decode cX5_beginGames 102 = .ok (.goto (-100), 3) := by decide +kernel
theorem dX5_beginGames_105 : decode cX5_beginGames 105 = .ok (.return_, 1) := by decide +kernel
theorem dX5_sheetToPlay_0 : decode cX5_sheetToPlay 0 = .ok (.aload_n 0, 1) := by decide +kernel
theorem dX5_sheetToPlay_1 : decode cX5_sheetToPlay 1 = .ok (.iload_n 1, 1) := by decide +kernel
theorem dX5_sheetToPlay_2 : decode cX5_sheetToPlay 2 = .ok (.invokevirtual 98, 3) := by decide +kernel
theorem dX5_sheetToPlay_5 : decode cX5_sheetToPlay 5 = .ok (.invokevirtual 270, 3) := by decide +kernel
theorem dX5_sheetToPlay_8 : decode cX5_sheetToPlay 8 = .ok (.ifCond .eq 5, 3) := by decide +kernel
theorem dX5_sheetToPlay_11 : decode cX5_sheetToPlay 11 = .ok (.iload_n 1, 1) := by decide +kernel
theorem dX5_sheetToPlay_12 : decode cX5_sheetToPlay 12 = .ok (.ireturn, 1) := by decide +kernel
theorem dX5_sheetToPlay_13 : decode cX5_sheetToPlay 13 = .ok (.iconst 0, 1) := by decide +kernel
theorem dX5_sheetToPlay_14 : decode cX5_sheetToPlay 14 = .ok (.istore_n 2, 1) := by decide +kernel
theorem dX5_sheetToPlay_15 : decode cX5_sheetToPlay 15 = .ok (.iload_n 2, 1) := by decide +kernel
theorem dX5_sheetToPlay_16 : decode cX5_sheetToPlay 16 = .ok (.iconst 3, 1) := by decide +kernel
theorem dX5_sheetToPlay_17 : decode cX5_sheetToPlay 17 = .ok (.if_icmp .ge 22, 3) := by decide +kernel
theorem dX5_sheetToPlay_20 : decode cX5_sheetToPlay 20 = .ok (.aload_n 0, 1) := by decide +kernel
theorem dX5_sheetToPlay_21 : decode cX5_sheetToPlay 21 = .ok (.iload_n 2, 1) := by decide +kernel
theorem dX5_sheetToPlay_22 : decode cX5_sheetToPlay 22 = .ok (.invokevirtual 98, 3) := by decide +kernel
theorem dX5_sheetToPlay_25 : decode cX5_sheetToPlay 25 = .ok (.invokevirtual 270, 3) := by decide +kernel
theorem dX5_sheetToPlay_28 : decode cX5_sheetToPlay 28 = .ok (.ifCond .eq 5, 3) := by decide +kernel
theorem dX5_sheetToPlay_31 : decode cX5_sheetToPlay 31 = .ok (.iload_n 2, 1) := by decide +kernel
theorem dX5_sheetToPlay_32 : decode cX5_sheetToPlay 32 = .ok (.ireturn, 1) := by decide +kernel
theorem dX5_sheetToPlay_33 : decode cX5_sheetToPlay 33 = .ok (.iinc 2 1, 3) := by decide +kernel
theorem dX5_sheetToPlay_36 : decode cX5_sheetToPlay 36 = .ok (.goto (-21), 3) := by decide +kernel
theorem dX5_sheetToPlay_39 : decode cX5_sheetToPlay 39 = .ok (.iconst (-1), 1) := by decide +kernel
theorem dX5_sheetToPlay_40 : decode cX5_sheetToPlay 40 = .ok (.ireturn, 1) := by decide +kernel
theorem dX5_worthOfShot_0 : decode cX5_worthOfShot 0 = .ok (.aload_n 0, 1) := by decide +kernel
theorem dX5_worthOfShot_1 : decode cX5_worthOfShot 1 = .ok (.aload_n 1, 1) := by decide +kernel
theorem dX5_worthOfShot_2 : decode cX5_worthOfShot 2 = .ok (.iload_n 2, 1) := by decide +kernel
theorem dX5_worthOfShot_3 : decode cX5_worthOfShot 3 = .ok (.iload_n 3, 1) := by decide +kernel
theorem dX5_worthOfShot_4 : decode cX5_worthOfShot 4 = .ok (.iload 4, 2) := by decide +kernel
theorem dX5_worthOfShot_6 : decode cX5_worthOfShot 6 = .ok (.invokevirtual 273, 3) := by decide +kernel
theorem dX5_worthOfShot_9 : decode cX5_worthOfShot 9 = .ok (.istore 5, 2) := by decide +kernel
theorem dX5_worthOfShot_11 : decode cX5_worthOfShot 11 = .ok (.iload 5, 2) := by decide +kernel
theorem dX5_worthOfShot_13 : decode cX5_worthOfShot 13 = .ok (.aload_n 0, 1) := by decide +kernel
theorem dX5_worthOfShot_14 : decode cX5_worthOfShot 14 = .ok (.aload_n 1, 1) := by decide +kernel
theorem dX5_worthOfShot_15 : decode cX5_worthOfShot 15 = .ok (.iload_n 2, 1) := by decide +kernel
theorem dX5_worthOfShot_16 : decode cX5_worthOfShot 16 = .ok (.iload_n 3, 1) := by decide +kernel
theorem dX5_worthOfShot_17 : decode cX5_worthOfShot 17 = .ok (.iconst 5, 1) := by decide +kernel
theorem dX5_worthOfShot_18 : decode cX5_worthOfShot 18 = .ok (.isub, 1) := by decide +kernel
theorem dX5_worthOfShot_19 : decode cX5_worthOfShot 19 = .ok (.iload 4, 2) := by decide +kernel
theorem dX5_worthOfShot_21 : decode cX5_worthOfShot 21 = .ok (.invokevirtual 273, 3) := by decide +kernel
theorem dX5_worthOfShot_24 : decode cX5_worthOfShot 24 = .ok (.invokestatic 227, 3) := by decide +kernel
theorem dX5_worthOfShot_27 : decode cX5_worthOfShot 27 = .ok (.istore 5, 2) := by decide +kernel
theorem dX5_worthOfShot_29 : decode cX5_worthOfShot 29 = .ok (.iload 5, 2) := by decide +kernel
theorem dX5_worthOfShot_31 : decode cX5_worthOfShot 31 = .ok (.aload_n 0, 1) := by decide +kernel
theorem dX5_worthOfShot_32 : decode cX5_worthOfShot 32 = .ok (.aload_n 1, 1) := by decide +kernel
theorem dX5_worthOfShot_33 : decode cX5_worthOfShot 33 = .ok (.iload_n 2, 1) := by decide +kernel
theorem dX5_worthOfShot_34 : decode cX5_worthOfShot 34 = .ok (.iload_n 3, 1) := by decide +kernel
theorem dX5_worthOfShot_35 : decode cX5_worthOfShot 35 = .ok (.iconst 5, 1) := by decide +kernel
theorem dX5_worthOfShot_36 : decode cX5_worthOfShot 36 = .ok (.iadd, 1) := by decide +kernel
theorem dX5_worthOfShot_37 : decode cX5_worthOfShot 37 = .ok (.iload 4, 2) := by decide +kernel
theorem dX5_worthOfShot_39 : decode cX5_worthOfShot 39 = .ok (.invokevirtual 273, 3) := by decide +kernel
theorem dX5_worthOfShot_42 : decode cX5_worthOfShot 42 = .ok (.invokestatic 227, 3) := by decide +kernel
theorem dX5_worthOfShot_45 : decode cX5_worthOfShot 45 = .ok (.ireturn, 1) := by decide +kernel
theorem dX5_worthOfTry_0 : decode cX5_worthOfTry 0 = .ok (.aload_n 0, 1) := by decide +kernel
theorem dX5_worthOfTry_1 : decode cX5_worthOfTry 1 = .ok (.getfield 32, 3) := by decide +kernel
theorem dX5_worthOfTry_4 : decode cX5_worthOfTry 4 = .ok (.iload_n 2, 1) := by decide +kernel
theorem dX5_worthOfTry_5 : decode cX5_worthOfTry 5 = .ok (.iload_n 3, 1) := by decide +kernel
theorem dX5_worthOfTry_6 : decode cX5_worthOfTry 6 = .ok (.iload 4, 2) := by decide +kernel
theorem dX5_worthOfTry_8 : decode cX5_worthOfTry 8 = .ok (.iconst 1, 1) := by decide +kernel
theorem dX5_worthOfTry_9 : decode cX5_worthOfTry 9 = .ok (.iconst 0, 1) := by decide +kernel
theorem dX5_worthOfTry_10 : decode cX5_worthOfTry 10 = .ok (.invokevirtual 91, 3) := by decide +kernel
theorem dX5_worthOfTry_13 : decode cX5_worthOfTry 13 = .ok (.aload_n 0, 1) := by decide +kernel
theorem dX5_worthOfTry_14 : decode cX5_worthOfTry 14 = .ok (.getfield 32, 3) := by decide +kernel
theorem dX5_worthOfTry_17 : decode cX5_worthOfTry 17 = .ok (.aload_n 0, 1) := by decide +kernel
theorem dX5_worthOfTry_18 : decode cX5_worthOfTry 18 = .ok (.aload_n 1, 1) := by decide +kernel
theorem dX5_worthOfTry_19 : decode cX5_worthOfTry 19 = .ok (.getfield 95, 3) := by decide +kernel
theorem dX5_worthOfTry_22 : decode cX5_worthOfTry 22 = .ok (.invokevirtual 98, 3) := by decide +kernel
theorem dX5_worthOfTry_25 : decode cX5_worthOfTry 25 = .ok (.aload_n 1, 1) := by decide +kernel
theorem dX5_worthOfTry_26 : decode cX5_worthOfTry 26 = .ok (.getfield 102, 3) := by decide +kernel
theorem dX5_worthOfTry_29 : decode cX5_worthOfTry 29 = .ok (.aload_n 1, 1) := by decide +kernel
theorem dX5_worthOfTry_30 : decode cX5_worthOfTry 30 = .ok (.invokevirtual 106, 3) := by decide +kernel
theorem dX5_worthOfTry_33 : decode cX5_worthOfTry 33 = .ok (.iconst 0, 1) := by decide +kernel
theorem dX5_worthOfTry_34 : decode cX5_worthOfTry 34 = .ok (.invokevirtual 110, 3) := by decide +kernel
theorem dX5_worthOfTry_37 : decode cX5_worthOfTry 37 = .ok (.pop, 1) := by decide +kernel
theorem dX5_worthOfTry_38 : decode cX5_worthOfTry 38 = .ok (.aload_n 0, 1) := by decide +kernel
theorem dX5_worthOfTry_39 : decode cX5_worthOfTry 39 = .ok (.getfield 32, 3) := by decide +kernel
theorem dX5_worthOfTry_42 : decode cX5_worthOfTry 42 = .ok (.getfield 125, 3) := by decide +kernel
theorem dX5_worthOfTry_45 : decode cX5_worthOfTry 45 = .ok (.invokevirtual 192, 3) := by decide +kernel
theorem dX5_worthOfTry_48 : decode cX5_worthOfTry 48 = .ok (.istore 5, 2) := by decide +kernel
theorem dX5_worthOfTry_50 : decode cX5_worthOfTry 50 = .ok (.aload_n 1, 1) := by decide +kernel
theorem dX5_worthOfTry_51 : decode cX5_worthOfTry 51 = .ok (.invokevirtual 181, 3) := by decide +kernel
theorem dX5_worthOfTry_54 : decode cX5_worthOfTry 54 = .ok (.ifCond .ne 8, 3) := by decide +kernel
theorem dX5_worthOfTry_57 : decode cX5_worthOfTry 57 = .ok (.iload 5, 2) := by decide +kernel
theorem dX5_worthOfTry_59 : decode cX5_worthOfTry 59 = .ok (.goto 6, 3) := by decide +kernel
theorem dX5_worthOfTry_62 : decode cX5_worthOfTry 62 = .ok (.iload 5, 2) := by decide +kernel
theorem dX5_worthOfTry_64 : decode cX5_worthOfTry 64 = .ok (.ineg, 1) := by decide +kernel
theorem dX5_worthOfTry_65 : decode cX5_worthOfTry 65 = .ok (.ireturn, 1) := by decide +kernel
theorem dX5_teamsAheadOf_0 : decode cX5_teamsAheadOf 0 = .ok (.iconst 0, 1) := by decide +kernel
theorem dX5_teamsAheadOf_1 : decode cX5_teamsAheadOf 1 = .ok (.istore_n 2, 1) := by decide +kernel
theorem dX5_teamsAheadOf_2 : decode cX5_teamsAheadOf 2 = .ok (.iconst 0, 1) := by decide +kernel
theorem dX5_teamsAheadOf_3 : decode cX5_teamsAheadOf 3 = .ok (.istore_n 3, 1) := by decide +kernel
theorem dX5_teamsAheadOf_4 : decode cX5_teamsAheadOf 4 = .ok (.iload_n 3, 1) := by decide +kernel
theorem dX5_teamsAheadOf_5 : decode cX5_teamsAheadOf 5 = .ok (.bipush 6, 2) := by decide +kernel
theorem dX5_teamsAheadOf_7 : decode cX5_teamsAheadOf 7 = .ok (.if_icmp .ge 26, 3) := by decide +kernel
theorem dX5_teamsAheadOf_10 : decode cX5_teamsAheadOf 10 = .ok (.iload_n 3, 1) := by decide +kernel
theorem dX5_teamsAheadOf_11 : decode cX5_teamsAheadOf 11 = .ok (.iload_n 1, 1) := by decide +kernel
theorem dX5_teamsAheadOf_12 : decode cX5_teamsAheadOf 12 = .ok (.if_icmp .eq 15, 3) := by decide +kernel
theorem dX5_teamsAheadOf_15 : decode cX5_teamsAheadOf 15 = .ok (.aload_n 0, 1) := by decide +kernel
theorem dX5_teamsAheadOf_16 : decode cX5_teamsAheadOf 16 = .ok (.iload_n 3, 1) := by decide +kernel
theorem dX5_teamsAheadOf_17 : decode cX5_teamsAheadOf 17 = .ok (.iload_n 1, 1) := by decide +kernel
theorem dX5_teamsAheadOf_18 : decode cX5_teamsAheadOf 18 = .ok (.invokevirtual 276, 3) := by decide +kernel
theorem dX5_teamsAheadOf_21 : decode cX5_teamsAheadOf 21 = .ok (.ifCond .eq 6, 3) := by decide +kernel
theorem dX5_teamsAheadOf_24 : decode cX5_teamsAheadOf 24 = .ok (.iinc 2 1, 3) := by decide +kernel
theorem dX5_teamsAheadOf_27 : decode cX5_teamsAheadOf 27 = .ok (.iinc 3 1, 3) := by decide +kernel
theorem dX5_teamsAheadOf_30 : decode cX5_teamsAheadOf 30 = .ok (.goto (-26), 3) := by decide +kernel
theorem dX5_teamsAheadOf_33 : decode cX5_teamsAheadOf 33 = .ok (.iload_n 2, 1) := by decide +kernel
theorem dX5_teamsAheadOf_34 : decode cX5_teamsAheadOf 34 = .ok (.ireturn, 1) := by decide +kernel
theorem dX5_isAhead_0 : decode cX5_isAhead 0 = .ok (.aload_n 0, 1) := by decide +kernel
theorem dX5_isAhead_1 : decode cX5_isAhead 1 = .ok (.iload_n 1, 1) := by decide +kernel
theorem dX5_isAhead_2 : decode cX5_isAhead 2 = .ok (.invokevirtual 209, 3) := by decide +kernel
theorem dX5_isAhead_5 : decode cX5_isAhead 5 = .ok (.astore_n 3, 1) := by decide +kernel
theorem dX5_isAhead_6 : decode cX5_isAhead 6 = .ok (.aload_n 0, 1) := by decide +kernel
theorem dX5_isAhead_7 : decode cX5_isAhead 7 = .ok (.iload_n 2, 1) := by decide +kernel
theorem dX5_isAhead_8 : decode cX5_isAhead 8 = .ok (.invokevirtual 209, 3) := by decide +kernel
theorem dX5_isAhead_11 : decode cX5_isAhead 11 = .ok (.astore 4, 2) := by decide +kernel
theorem dX5_isAhead_13 : decode cX5_isAhead 13 = .ok (.aload_n 3, 1) := by decide +kernel
theorem dX5_isAhead_14 : decode cX5_isAhead 14 = .ok (.getfield 213, 3) := by decide +kernel
theorem dX5_isAhead_17 : decode cX5_isAhead 17 = .ok (.aload 4, 2) := by decide +kernel
theorem dX5_isAhead_19 : decode cX5_isAhead 19 = .ok (.getfield 213, 3) := by decide +kernel
theorem dX5_isAhead_22 : decode cX5_isAhead 22 = .ok (.if_icmp .eq 21, 3) := by decide +kernel
theorem dX5_isAhead_25 : decode cX5_isAhead 25 = .ok (.aload_n 3, 1) := by decide +kernel
theorem dX5_isAhead_26 : decode cX5_isAhead 26 = .ok (.getfield 213, 3) := by decide +kernel
theorem dX5_isAhead_29 : decode cX5_isAhead 29 = .ok (.aload 4, 2) := by decide +kernel
theorem dX5_isAhead_31 : decode cX5_isAhead 31 = .ok (.getfield 213, 3) := by decide +kernel
theorem dX5_isAhead_34 : decode cX5_isAhead 34 = .ok (.if_icmp .le 7, 3) := by decide +kernel
theorem dX5_isAhead_37 : decode cX5_isAhead 37 = .ok (.iconst 1, 1) := by decide +kernel
theorem dX5_isAhead_38 : decode cX5_isAhead 38 = .ok (.goto 4, 3) := by decide +kernel
theorem dX5_isAhead_41 : decode cX5_isAhead 41 = .ok (.iconst 0, 1) := by decide +kernel
theorem dX5_isAhead_42 : decode cX5_isAhead 42 = .ok (.ireturn, 1) := by decide +kernel
theorem dX5_isAhead_43 : decode cX5_isAhead 43 = .ok (.aload_n 3, 1) := by decide +kernel
theorem dX5_isAhead_44 : decode cX5_isAhead 44 = .ok (.invokevirtual 279, 3) := by decide +kernel
theorem dX5_isAhead_47 : decode cX5_isAhead 47 = .ok (.aload 4, 2) := by decide +kernel
theorem dX5_isAhead_49 : decode cX5_isAhead 49 = .ok (.invokevirtual 279, 3) := by decide +kernel
theorem dX5_isAhead_52 : decode cX5_isAhead 52 = .ok (.if_icmp .eq 21, 3) := by decide +kernel
theorem dX5_isAhead_55 : decode cX5_isAhead 55 = .ok (.aload_n 3, 1) := by decide +kernel
theorem dX5_isAhead_56 : decode cX5_isAhead 56 = .ok (.invokevirtual 279, 3) := by decide +kernel
theorem dX5_isAhead_59 : decode cX5_isAhead 59 = .ok (.aload 4, 2) := by decide +kernel
theorem dX5_isAhead_61 : decode cX5_isAhead 61 = .ok (.invokevirtual 279, 3) := by decide +kernel
theorem dX5_isAhead_64 : decode cX5_isAhead 64 = .ok (.if_icmp .ge 7, 3) := by decide +kernel
theorem dX5_isAhead_67 : decode cX5_isAhead 67 = .ok (.iconst 1, 1) := by decide +kernel
theorem dX5_isAhead_68 : decode cX5_isAhead 68 = .ok (.goto 4, 3) := by decide +kernel
theorem dX5_isAhead_71 : decode cX5_isAhead 71 = .ok (.iconst 0, 1) := by decide +kernel
theorem dX5_isAhead_72 : decode cX5_isAhead 72 = .ok (.ireturn, 1) := by decide +kernel
theorem dX5_isAhead_73 : decode cX5_isAhead 73 = .ok (.iload_n 1, 1) := by decide +kernel
theorem dX5_isAhead_74 : decode cX5_isAhead 74 = .ok (.iload_n 2, 1) := by decide +kernel
theorem dX5_isAhead_75 : decode cX5_isAhead 75 = .ok (.if_icmp .ge 7, 3) := by decide +kernel
theorem dX5_isAhead_78 : decode cX5_isAhead 78 = .ok (.iconst 1, 1) := by decide +kernel
theorem dX5_isAhead_79 : decode cX5_isAhead 79 = .ok (.goto 4, 3) := by decide +kernel
theorem dX5_isAhead_82 : decode cX5_isAhead 82 = .ok (.iconst 0, 1) := by decide +kernel
theorem dX5_isAhead_83 : decode cX5_isAhead 83 = .ok (.ireturn, 1) := by decide +kernel
theorem dX6_init_0 : decode cX6_init 0 = .ok (.aload_n 0, 1) := by decide +kernel
theorem dX6_init_1 : decode cX6_init 1 = .ok (.invokespecial 1, 3) := by decide +kernel
theorem dX6_init_4 : decode cX6_init 4 = .ok (.aload_n 0, 1) := by decide +kernel
theorem dX6_init_5 : decode cX6_init 5 = .ok (.iconst 2, 1) := by decide +kernel
theorem dX6_init_6 : decode cX6_init 6 = .ok (.putfield 7, 3) := by decide +kernel
theorem dX6_init_9 : decode cX6_init 9 = .ok (.aload_n 0, 1) := by decide +kernel
theorem dX6_init_10 : decode cX6_init 10 = .ok (.iconst (-1), 1) := by decide +kernel
theorem dX6_init_11 : decode cX6_init 11 = .ok (.putfield 13, 3) := by decide +kernel
theorem dX6_init_14 : decode cX6_init 14 = .ok (.aload_n 0, 1) := by decide +kernel
theorem dX6_init_15 : decode cX6_init 15 = .ok (.sipush 1647, 3) := by decide +kernel
theorem dX6_init_18 : decode cX6_init 18 = .ok (.newarray .int, 2) := by decide +kernel
theorem dX6_init_20 : decode cX6_init 20 = .ok (.putfield 16, 3) := by decide +kernel
theorem dX6_init_23 : decode cX6_init 23 = .ok (.aload_n 0, 1) := by decide +kernel
theorem dX6_init_24 : decode cX6_init 24 = .ok (.iconst 3, 1) := by decide +kernel
theorem dX6_init_25 : decode cX6_init 25 = .ok (.newarray .boolean, 2) := by decide +kernel
theorem dX6_init_27 : decode cX6_init 27 = .ok (.putfield 20, 3) := by decide +kernel
theorem dX6_init_30 : decode cX6_init 30 = .ok (.aload_n 0, 1) := by decide +kernel
theorem dX6_init_31 : decode cX6_init 31 = .ok (.iconst 3, 1) := by decide +kernel
theorem dX6_init_32 : decode cX6_init 32 = .ok (.newarray .int, 2) := by decide +kernel
theorem dX6_init_34 : decode cX6_init 34 = .ok (.putfield 24, 3) := by decide +kernel
theorem dX6_init_37 : decode cX6_init 37 = .ok (.aload_n 0, 1) := by decide +kernel
theorem dX6_init_38 : decode cX6_init 38 = .ok (.bipush 12, 2) := by decide +kernel
theorem dX6_init_40 : decode cX6_init 40 = .ok (.newarray .int, 2) := by decide +kernel
theorem dX6_init_42 : decode cX6_init 42 = .ok (.putfield 27, 3) := by decide +kernel
theorem dX6_init_45 : decode cX6_init 45 = .ok (.aload_n 0, 1) := by decide +kernel
theorem dX6_init_46 : decode cX6_init 46 = .ok (.bipush 12, 2) := by decide +kernel
theorem dX6_init_48 : decode cX6_init 48 = .ok (.newarray .int, 2) := by decide +kernel
theorem dX6_init_50 : decode cX6_init 50 = .ok (.putfield 30, 3) := by decide +kernel
theorem dX6_init_53 : decode cX6_init 53 = .ok (.aload_n 0, 1) := by decide +kernel
theorem dX6_init_54 : decode cX6_init 54 = .ok (.bipush 12, 2) := by decide +kernel
theorem dX6_init_56 : decode cX6_init 56 = .ok (.newarray .int, 2) := by decide +kernel
theorem dX6_init_58 : decode cX6_init 58 = .ok (.putfield 33, 3) := by decide +kernel
theorem dX6_init_61 : decode cX6_init 61 = .ok (.aload_n 0, 1) := by decide +kernel
theorem dX6_init_62 : decode cX6_init 62 = .ok (.bipush 12, 2) := by decide +kernel
theorem dX6_init_64 : decode cX6_init 64 = .ok (.newarray .int, 2) := by decide +kernel
theorem dX6_init_66 : decode cX6_init 66 = .ok (.putfield 36, 3) := by decide +kernel
theorem dX6_init_69 : decode cX6_init 69 = .ok (.aload_n 0, 1) := by decide +kernel
theorem dX6_init_70 : decode cX6_init 70 = .ok (.bipush 12, 2) := by decide +kernel
theorem dX6_init_72 : decode cX6_init 72 = .ok (.newarray .int, 2) := by decide +kernel
theorem dX6_init_74 : decode cX6_init 74 = .ok (.putfield 39, 3) := by decide +kernel
theorem dX6_init_77 : decode cX6_init 77 = .ok (.aload_n 0, 1) := by decide +kernel
theorem dX6_init_78 : decode cX6_init 78 = .ok (.bipush 12, 2) := by decide +kernel
theorem dX6_init_80 : decode cX6_init 80 = .ok (.newarray .int, 2) := by decide +kernel
theorem dX6_init_82 : decode cX6_init 82 = .ok (.putfield 42, 3) := by decide +kernel
theorem dX6_init_85 : decode cX6_init 85 = .ok (.aload_n 0, 1) := by decide +kernel
theorem dX6_init_86 : decode cX6_init 86 = .ok (.bipush 24, 2) := by decide +kernel
theorem dX6_init_88 : decode cX6_init 88 = .ok (.newarray .int, 2) := by decide +kernel
theorem dX6_init_90 : decode cX6_init 90 = .ok (.putfield 45, 3) := by decide +kernel
theorem dX6_init_93 : decode cX6_init 93 = .ok (.aload_n 0, 1) := by decide +kernel
theorem dX6_init_94 : decode cX6_init 94 = .ok (.bipush 12, 2) := by decide +kernel
theorem dX6_init_96 : decode cX6_init 96 = .ok (.newarray .int, 2) := by decide +kernel
theorem dX6_init_98 : decode cX6_init 98 = .ok (.putfield 48, 3) := by decide +kernel
theorem dX6_init_101 : decode cX6_init 101 = .ok (.aload_n 0, 1) := by decide +kernel
theorem dX6_init_102 : decode cX6_init 102 = .ok (.bipush 12, 2) := by decide +kernel
theorem dX6_init_104 : decode cX6_init 104 = .ok (.newarray .int, 2) := by decide +kernel
theorem dX6_init_106 : decode cX6_init 106 = .ok (.putfield 51, 3) := by decide +kernel
theorem dX6_init_109 : decode cX6_init 109 = .ok (.aload_n 0, 1) := by decide +kernel
theorem dX6_init_110 : decode cX6_init 110 = .ok (.bipush 12, 2) := by decide +kernel
theorem dX6_init_112 : decode cX6_init 112 = .ok (.newarray .int, 2) := by decide +kernel
theorem dX6_init_114 : decode cX6_init 114 = .ok (.putfield 54, 3) := by decide +kernel
theorem dX6_init_117 : decode cX6_init 117 = .ok (.aload_n 0, 1) := by decide +kernel
theorem dX6_init_118 : decode cX6_init 118 = .ok (.bipush 12, 2) := by decide +kernel
theorem dX6_init_120 : decode cX6_init 120 = .ok (.newarray .int, 2) := by decide +kernel
theorem dX6_init_122 : decode cX6_init 122 = .ok (.putfield 57, 3) := by decide +kernel
theorem dX6_init_125 : decode cX6_init 125 = .ok (.aload_n 0, 1) := by decide +kernel
theorem dX6_init_126 : decode cX6_init 126 = .ok (.bipush 72, 2) := by decide +kernel
theorem dX6_init_128 : decode cX6_init 128 = .ok (.newarray .int, 2) := by decide +kernel
theorem dX6_init_130 : decode cX6_init 130 = .ok (.putfield 60, 3) := by decide +kernel
theorem dX6_init_133 : decode cX6_init 133 = .ok (.aload_n 0, 1) := by decide +kernel
theorem dX6_init_134 : decode cX6_init 134 = .ok (.bipush 6, 2) := by decide +kernel
theorem dX6_init_136 : decode cX6_init 136 = .ok (.newarray .int, 2) := by decide +kernel
theorem dX6_init_138 : decode cX6_init 138 = .ok (.putfield 63, 3) := by decide +kernel
theorem dX6_init_141 : decode cX6_init 141 = .ok (.aload_n 0, 1) := by decide +kernel
theorem dX6_init_142 : decode cX6_init 142 = .ok (.bipush 6, 2) := by decide +kernel
theorem dX6_init_144 : decode cX6_init 144 = .ok (.newarray .int, 2) := by decide +kernel
theorem dX6_init_146 : decode cX6_init 146 = .ok (.putfield 66, 3) := by decide +kernel
theorem dX6_init_149 : decode cX6_init 149 = .ok (.aload_n 0, 1) := by decide +kernel
theorem dX6_init_150 : decode cX6_init 150 = .ok (.bipush 6, 2) := by decide +kernel
theorem dX6_init_152 : decode cX6_init 152 = .ok (.newarray .int, 2) := by decide +kernel
theorem dX6_init_154 : decode cX6_init 154 = .ok (.putfield 69, 3) := by decide +kernel
theorem dX6_init_157 : decode cX6_init 157 = .ok (.aload_n 0, 1) := by decide +kernel
theorem dX6_init_158 : decode cX6_init 158 = .ok (.sipush 549, 3) := by decide +kernel
theorem dX6_init_161 : decode cX6_init 161 = .ok (.newarray .int, 2) := by decide +kernel
theorem dX6_init_163 : decode cX6_init 163 = .ok (.putfield 72, 3) := by decide +kernel
theorem dX6_init_166 : decode cX6_init 166 = .ok (.aload_n 0, 1) := by decide +kernel
theorem dX6_init_167 : decode cX6_init 167 = .ok (.bipush 6, 2) := by decide +kernel
theorem dX6_init_169 : decode cX6_init 169 = .ok (.newarray .int, 2) := by decide +kernel
theorem dX6_init_171 : decode cX6_init 171 = .ok (.putfield 75, 3) := by decide +kernel
theorem dX6_init_174 : decode cX6_init 174 = .ok (.aload_n 0, 1) := by decide +kernel
theorem dX6_init_175 : decode cX6_init 175 = .ok (.bipush 6, 2) := by decide +kernel
theorem dX6_init_177 : decode cX6_init 177 = .ok (.newarray .int, 2) := by decide +kernel
theorem dX6_init_179 : decode cX6_init 179 = .ok (.putfield 78, 3) := by decide +kernel
theorem dX6_init_182 : decode cX6_init 182 = .ok (.aload_n 0, 1) := by decide +kernel
theorem dX6_init_183 : decode cX6_init 183 = .ok (.bipush 12, 2) := by decide +kernel
theorem dX6_init_185 : decode cX6_init 185 = .ok (.newarray .boolean, 2) := by decide +kernel
theorem dX6_init_187 : decode cX6_init 187 = .ok (.putfield 81, 3) := by decide +kernel
theorem dX6_init_190 : decode cX6_init 190 = .ok (.iconst 0, 1) := by decide +kernel
theorem dX6_init_191 : decode cX6_init 191 = .ok (.istore_n 1, 1) := by decide +kernel
theorem dX6_init_192 : decode cX6_init 192 = .ok (.iload_n 1, 1) := by decide +kernel
theorem dX6_init_193 : decode cX6_init 193 = .ok (.iconst 3, 1) := by decide +kernel
theorem dX6_init_194 : decode cX6_init 194 = .ok (.if_icmp .ge 16, 3) := by decide +kernel
theorem dX6_init_197 : decode cX6_init 197 = .ok (.aload_n 0, 1) := by decide +kernel
theorem dX6_init_198 : decode cX6_init 198 = .ok (.getfield 24, 3) := by decide +kernel
theorem dX6_init_201 : decode cX6_init 201 = .ok (.iload_n 1, 1) := by decide +kernel
theorem dX6_init_202 : decode cX6_init 202 = .ok (.iconst (-1), 1) := by decide +kernel
theorem dX6_init_203 : decode cX6_init 203 = .ok (.iastore, 1) := by decide +kernel
theorem dX6_init_204 : decode cX6_init 204 = .ok (.iinc 1 1, 3) := by decide +kernel
theorem dX6_init_207 : decode cX6_init 207 = .ok (.goto (-15), 3) := by decide +kernel
theorem dX6_init_210 : decode cX6_init 210 = .ok (.return_, 1) := by decide +kernel
theorem dX6_thrown_0 : decode cX6_thrown 0 = .ok (.aload_n 0, 1) := by decide +kernel
theorem dX6_thrown_1 : decode cX6_thrown 1 = .ok (.getfield 84, 3) := by decide +kernel
theorem dX6_thrown_4 : decode cX6_thrown 4 = .ok (.ireturn, 1) := by decide +kernel
theorem dX6_asked_0 : decode cX6_asked 0 = .ok (.aload_n 0, 1) := by decide +kernel
theorem dX6_asked_1 : decode cX6_asked 1 = .ok (.iload_n 1, 1) := by decide +kernel
theorem dX6_asked_2 : decode cX6_asked 2 = .ok (.ifCond .eq 7, 3) := by decide +kernel
theorem dX6_asked_5 : decode cX6_asked 5 = .ok (.iconst 0, 1) := by decide +kernel
theorem dX6_asked_6 : decode cX6_asked 6 = .ok (.goto 4, 3) := by decide +kernel
theorem dX6_asked_9 : decode cX6_asked 9 = .ok (.iconst 1, 1) := by decide +kernel
theorem dX6_asked_10 : decode cX6_asked 10 = .ok (.putfield 84, 3) := by decide +kernel
theorem dX6_asked_13 : decode cX6_asked 13 = .ok (.iload_n 1, 1) := by decide +kernel
theorem dX6_asked_14 : decode cX6_asked 14 = .ok (.ireturn, 1) := by decide +kernel
theorem dX6_asked__0 : decode cX6_asked_ 0 = .ok (.aload_n 0, 1) := by decide +kernel
theorem dX6_asked__1 : decode cX6_asked_ 1 = .ok (.iload_n 1, 1) := by decide +kernel
theorem dX6_asked__2 : decode cX6_asked_ 2 = .ok (.ifCond .ne 7, 3) := by decide +kernel
theorem dX6_asked__5 : decode cX6_asked_ 5 = .ok (.iconst 1, 1) := by decide +kernel
theorem dX6_asked__6 : decode cX6_asked_ 6 = .ok (.goto 12, 3) := by decide +kernel
theorem dX6_asked__9 : decode cX6_asked_ 9 = .ok (.iload_n 2, 1) := by decide +kernel
theorem dX6_asked__10 : decode cX6_asked_ 10 = .ok (.ifCond .eq 7, 3) := by decide +kernel
theorem dX6_asked__13 : decode cX6_asked_ 13 = .ok (.iconst 0, 1) := by decide +kernel
theorem dX6_asked__14 : decode cX6_asked_ 14 = .ok (.goto 4, 3) := by decide +kernel
theorem dX6_asked__17 : decode cX6_asked_ 17 = .ok (.iconst 2, 1) := by decide +kernel
theorem dX6_asked__18 : decode cX6_asked_ 18 = .ok (.putfield 84, 3) := by decide +kernel
theorem dX6_asked__21 : decode cX6_asked_ 21 = .ok (.aload_n 0, 1) := by decide +kernel
theorem dX6_asked__22 : decode cX6_asked_ 22 = .ok (.getfield 84, 3) := by decide +kernel
theorem dX6_asked__25 : decode cX6_asked_ 25 = .ok (.ifCond .ne 7, 3) := by decide +kernel
theorem dX6_asked__28 : decode cX6_asked_ 28 = .ok (.iconst 1, 1) := by decide +kernel
theorem dX6_asked__29 : decode cX6_asked_ 29 = .ok (.goto 4, 3) := by decide +kernel
theorem dX6_asked__32 : decode cX6_asked_ 32 = .ok (.iconst 0, 1) := by decide +kernel
theorem dX6_asked__33 : decode cX6_asked_ 33 = .ok (.ireturn, 1) := by decide +kernel
theorem dX6_asked___0 : decode cX6_asked__ 0 = .ok (.aload_n 0, 1) := by decide +kernel
theorem dX6_asked___1 : decode cX6_asked__ 1 = .ok (.iload_n 1, 1) := by decide +kernel
theorem dX6_asked___2 : decode cX6_asked__ 2 = .ok (.ifCond .ne 7, 3) := by decide +kernel
theorem dX6_asked___5 : decode cX6_asked__ 5 = .ok (.iconst 1, 1) := by decide +kernel
theorem dX6_asked___6 : decode cX6_asked__ 6 = .ok (.goto 20, 3) := by decide +kernel
theorem dX6_asked___9 : decode cX6_asked__ 9 = .ok (.iload_n 2, 1) := by decide +kernel
theorem dX6_asked___10 : decode cX6_asked__ 10 = .ok (.ifCond .ne 7, 3) := by decide +kernel
theorem dX6_asked___13 : decode cX6_asked__ 13 = .ok (.iconst 2, 1) := by decide +kernel
theorem dX6_asked___14 : decode cX6_asked__ 14 = .ok (.goto 12, 3) := by decide +kernel
theorem dX6_asked___17 : decode cX6_asked__ 17 = .ok (.iload_n 3, 1) := by decide +kernel
theorem dX6_asked___18 : decode cX6_asked__ 18 = .ok (.ifCond .eq 7, 3) := by decide +kernel
theorem dX6_asked___21 : decode cX6_asked__ 21 = .ok (.iconst 0, 1) := by decide +kernel
theorem dX6_asked___22 : decode cX6_asked__ 22 = .ok (.goto 4, 3) := by decide +kernel
theorem dX6_asked___25 : decode cX6_asked__ 25 = .ok (.iconst 3, 1) := by decide +kernel
theorem dX6_asked___26 : decode cX6_asked__ 26 = .ok (.putfield 84, 3) := by decide +kernel
theorem dX6_asked___29 : decode cX6_asked__ 29 = .ok (.aload_n 0, 1) := by decide +kernel
theorem dX6_asked___30 : decode cX6_asked__ 30 = .ok (.getfield 84, 3) := by decide +kernel
theorem dX6_asked___33 : decode cX6_asked__ 33 = .ok (.ifCond .ne 7, 3) := by decide +kernel
theorem dX6_asked___36 : decode cX6_asked__ 36 = .ok (.iconst 1, 1) := by decide +kernel
theorem dX6_asked___37 : decode cX6_asked__ 37 = .ok (.goto 4, 3) := by decide +kernel
theorem dX6_asked___40 : decode cX6_asked__ 40 = .ok (.iconst 0, 1) := by decide +kernel
theorem dX6_asked___41 : decode cX6_asked__ 41 = .ok (.ireturn, 1) := by decide +kernel
theorem dX6_in_0 : decode cX6_in 0 = .ok (.iload_n 0, 1) := by decide +kernel
theorem dX6_in_1 : decode cX6_in 1 = .ok (.iload_n 1, 1) := by decide +kernel
theorem dX6_in_2 : decode cX6_in 2 = .ok (.if_icmp .lt 12, 3) := by decide +kernel
theorem dX6_in_5 : decode cX6_in 5 = .ok (.iload_n 0, 1) := by decide +kernel
theorem dX6_in_6 : decode cX6_in 6 = .ok (.iload_n 2, 1) := by decide +kernel
theorem dX6_in_7 : decode cX6_in 7 = .ok (.if_icmp .gt 7, 3) := by decide +kernel
theorem dX6_in_10 : decode cX6_in 10 = .ok (.iconst 1, 1) := by decide +kernel
theorem dX6_in_11 : decode cX6_in 11 = .ok (.goto 4, 3) := by decide +kernel
theorem dX6_in_14 : decode cX6_in 14 = .ok (.iconst 0, 1) := by decide +kernel
theorem dX6_in_15 : decode cX6_in 15 = .ok (.ireturn, 1) := by decide +kernel
theorem dX6_isGame_0 : decode cX6_isGame 0 = .ok (.iload_n 1, 1) := by decide +kernel
theorem dX6_isGame_1 : decode cX6_isGame 1 = .ok (.iconst 0, 1) := by decide +kernel
theorem dX6_isGame_2 : decode cX6_isGame 2 = .ok (.aload_n 0, 1) := by decide +kernel
theorem dX6_isGame_3 : decode cX6_isGame 3 = .ok (.getfield 87, 3) := by decide +kernel
theorem dX6_isGame_6 : decode cX6_isGame 6 = .ok (.iconst 1, 1) := by decide +kernel
theorem dX6_isGame_7 : decode cX6_isGame 7 = .ok (.isub, 1) := by decide +kernel
theorem dX6_isGame_8 : decode cX6_isGame 8 = .ok (.invokestatic 90, 3) := by decide +kernel
theorem dX6_isGame_11 : decode cX6_isGame 11 = .ok (.ireturn, 1) := by decide +kernel
theorem dX6_isTeam_0 : decode cX6_isTeam 0 = .ok (.iload_n 0, 1) := by decide +kernel
theorem dX6_isTeam_1 : decode cX6_isTeam 1 = .ok (.iconst 0, 1) := by decide +kernel
theorem dX6_isTeam_2 : decode cX6_isTeam 2 = .ok (.iconst 5, 1) := by decide +kernel
theorem dX6_isTeam_3 : decode cX6_isTeam 3 = .ok (.invokestatic 90, 3) := by decide +kernel
theorem dX6_isTeam_6 : decode cX6_isTeam 6 = .ok (.ireturn, 1) := by decide +kernel
theorem dX6_isSheet_0 : decode cX6_isSheet 0 = .ok (.iload_n 0, 1) := by decide +kernel
theorem dX6_isSheet_1 : decode cX6_isSheet 1 = .ok (.iconst 0, 1) := by decide +kernel
theorem dX6_isSheet_2 : decode cX6_isSheet 2 = .ok (.iconst 2, 1) := by decide +kernel
theorem dX6_isSheet_3 : decode cX6_isSheet 3 = .ok (.invokestatic 90, 3) := by decide +kernel
theorem dX6_isSheet_6 : decode cX6_isSheet 6 = .ok (.ireturn, 1) := by decide +kernel
theorem dX6_plan_0 : decode cX6_plan 0 = .ok (.aload_n 0, 1) := by decide +kernel
theorem dX6_plan_1 : decode cX6_plan 1 = .ok (.iload_n 1, 1) := by decide +kernel
theorem dX6_plan_2 : decode cX6_plan 2 = .ok (.invokestatic 94, 3) := by decide +kernel
theorem dX6_plan_5 : decode cX6_plan 5 = .ok (.ifCond .eq 22, 3) := by decide +kernel
theorem dX6_plan_8 : decode cX6_plan 8 = .ok (.iload_n 2, 1) := by decide +kernel
theorem dX6_plan_9 : decode cX6_plan 9 = .ok (.invokestatic 94, 3) := by decide +kernel
theorem dX6_plan_12 : decode cX6_plan 12 = .ok (.ifCond .eq 15, 3) := by decide +kernel
theorem dX6_plan_15 : decode cX6_plan 15 = .ok (.iload 4, 2) := by decide +kernel
theorem dX6_plan_17 : decode cX6_plan 17 = .ok (.invokestatic 98, 3) := by decide +kernel
theorem dX6_plan_20 : decode cX6_plan 20 = .ok (.ifCond .eq 7, 3) := by decide +kernel
theorem dX6_plan_23 : decode cX6_plan 23 = .ok (.iconst 1, 1) := by decide +kernel
theorem dX6_plan_24 : decode cX6_plan 24 = .ok (.goto 4, 3) := by decide +kernel
theorem dX6_plan_27 : decode cX6_plan 27 = .ok (.iconst 0, 1) := by decide +kernel
theorem dX6_plan_28 : decode cX6_plan 28 = .ok (.iload_n 1, 1) := by decide +kernel
theorem dX6_plan_29 : decode cX6_plan 29 = .ok (.iload_n 2, 1) := by decide +kernel
theorem dX6_plan_30 : decode cX6_plan 30 = .ok (.if_icmp .eq 23, 3) := by decide +kernel
theorem dX6_plan_33 : decode cX6_plan 33 = .ok (.iload_n 3, 1) := by decide +kernel
theorem dX6_plan_34 : decode cX6_plan 34 = .ok (.aload_n 0, 1) := by decide +kernel
theorem dX6_plan_35 : decode cX6_plan 35 = .ok (.getfield 101, 3) := by decide +kernel
theorem dX6_plan_38 : decode cX6_plan 38 = .ok (.iconst 1, 1) := by decide +kernel
theorem dX6_plan_39 : decode cX6_plan 39 = .ok (.iadd, 1) := by decide +kernel
theorem dX6_plan_40 : decode cX6_plan 40 = .ok (.sipush 9999, 3) := by decide +kernel
theorem dX6_plan_43 : decode cX6_plan 43 = .ok (.invokestatic 90, 3) := by decide +kernel
theorem dX6_plan_46 : decode cX6_plan 46 = .ok (.ifCond .eq 7, 3) := by decide +kernel
theorem dX6_plan_49 : decode cX6_plan 49 = .ok (.iconst 1, 1) := by decide +kernel
theorem dX6_plan_50 : decode cX6_plan 50 = .ok (.goto 4, 3) := by decide +kernel
theorem dX6_plan_53 : decode cX6_plan 53 = .ok (.iconst 0, 1) := by decide +kernel
theorem dX6_plan_54 : decode cX6_plan 54 = .ok (.aload_n 0, 1) := by decide +kernel
theorem dX6_plan_55 : decode cX6_plan 55 = .ok (.getfield 87, 3) := by decide +kernel
theorem dX6_plan_58 : decode cX6_plan 58 = .ok (.bipush 12, 2) := by decide +kernel
theorem dX6_plan_60 : decode cX6_plan 60 = .ok (.if_icmp .ge 7, 3) := by decide +kernel
theorem dX6_plan_63 : decode cX6_plan 63 = .ok (.iconst 1, 1) := by decide +kernel
theorem dX6_plan_64 : decode cX6_plan 64 = .ok (.goto 4, 3) := by decide +kernel
theorem dX6_plan_67 : decode cX6_plan 67 = .ok (.iconst 0, 1) := by decide +kernel
theorem dX6_plan_68 : decode cX6_plan 68 = .ok (.invokevirtual 104, 3) := by decide +kernel
theorem dX6_plan_71 : decode cX6_plan 71 = .ok (.ifCond .ne 5, 3) := by decide +kernel
theorem dX6_plan_74 : decode cX6_plan 74 = .ok (.iconst 0, 1) := by decide +kernel
theorem dX6_plan_75 : decode cX6_plan 75 = .ok (.ireturn, 1) := by decide +kernel
theorem dX6_plan_76 : decode cX6_plan 76 = .ok (.aload_n 0, 1) := by decide +kernel
theorem dX6_plan_77 : decode cX6_plan 77 = .ok (.getfield 30, 3) := by decide +kernel
theorem dX6_plan_80 : decode cX6_plan 80 = .ok (.aload_n 0, 1) := by decide +kernel
theorem dX6_plan_81 : decode cX6_plan 81 = .ok (.getfield 87, 3) := by decide +kernel
theorem dX6_plan_84 : decode cX6_plan 84 = .ok (.iload_n 1, 1) := by decide +kernel
theorem dX6_plan_85 : decode cX6_plan 85 = .ok (.iastore, 1) := by decide +kernel
theorem dX6_plan_86 : decode cX6_plan 86 = .ok (.aload_n 0, 1) := by decide +kernel
theorem dX6_plan_87 : decode cX6_plan 87 = .ok (.getfield 33, 3) := by decide +kernel
theorem dX6_plan_90 : decode cX6_plan 90 = .ok (.aload_n 0, 1) := by decide +kernel
theorem dX6_plan_91 : decode cX6_plan 91 = .ok (.getfield 87, 3) := by decide +kernel
theorem dX6_plan_94 : decode cX6_plan 94 = .ok (.iload_n 2, 1) := by decide +kernel
theorem dX6_plan_95 : decode cX6_plan 95 = .ok (.iastore, 1) := by decide +kernel
theorem dX6_plan_96 : decode cX6_plan 96 = .ok (.aload_n 0, 1) := by decide +kernel
theorem dX6_plan_97 : decode cX6_plan 97 = .ok (.getfield 36, 3) := by decide +kernel
theorem dX6_plan_100 : decode cX6_plan 100 = .ok (.aload_n 0, 1) := by decide +kernel
theorem dX6_plan_101 : decode cX6_plan 101 = .ok (.getfield 87, 3) := by decide +kernel
theorem dX6_plan_104 : decode cX6_plan 104 = .ok (.iload_n 3, 1) := by decide +kernel
theorem dX6_plan_105 : decode cX6_plan 105 = .ok (.iastore, 1) := by decide +kernel
theorem dX6_plan_106 : decode cX6_plan 106 = .ok (.aload_n 0, 1) := by decide +kernel
theorem dX6_plan_107 : decode cX6_plan 107 = .ok (.getfield 39, 3) := by decide +kernel
theorem dX6_plan_110 : decode cX6_plan 110 = .ok (.aload_n 0, 1) := by decide +kernel
theorem dX6_plan_111 : decode cX6_plan 111 = .ok (.getfield 87, 3) := by decide +kernel
theorem dX6_plan_114 : decode cX6_plan 114 = .ok (.iload 4, 2) := by decide +kernel
theorem dX6_plan_116 : decode cX6_plan 116 = .ok (.iastore, 1) := by decide +kernel
theorem dX6_plan_117 : decode cX6_plan 117 = .ok (.aload_n 0, 1) := by decide +kernel
theorem dX6_plan_118 : decode cX6_plan 118 = .ok (.getfield 42, 3) := by decide +kernel
theorem dX6_plan_121 : decode cX6_plan 121 = .ok (.aload_n 0, 1) := by decide +kernel
theorem dX6_plan_122 : decode cX6_plan 122 = .ok (.getfield 87, 3) := by decide +kernel
theorem dX6_plan_125 : decode cX6_plan 125 = .ok (.iconst (-1), 1) := by decide +kernel
theorem dX6_plan_126 : decode cX6_plan 126 = .ok (.iastore, 1) := by decide +kernel
theorem dX6_plan_127 : decode cX6_plan 127 = .ok (.iconst 0, 1) := by decide +kernel
theorem dX6_plan_128 : decode cX6_plan 128 = .ok (.istore 5, 2) := by decide +kernel
theorem dX6_plan_130 : decode cX6_plan 130 = .ok (.iload 5, 2) := by decide +kernel
theorem dX6_plan_132 : decode cX6_plan 132 = .ok (.bipush 6, 2) := by decide +kernel
theorem dX6_plan_134 : decode cX6_plan 134 = .ok (.if_icmp .ge 25, 3) := by decide +kernel
theorem dX6_plan_137 : decode cX6_plan 137 = .ok (.aload_n 0, 1) := by decide +kernel
theorem dX6_plan_138 : decode cX6_plan 138 = .ok (.getfield 60, 3) := by decide +kernel
theorem dX6_plan_141 : decode cX6_plan 141 = .ok (.bipush 6, 2) := by decide +kernel
theorem dX6_plan_143 : decode cX6_plan 143 = .ok (.aload_n 0, 1) := by decide +kernel
theorem dX6_plan_144 : decode cX6_plan 144 = .ok (.getfield 87, 3) := by decide +kernel
theorem dX6_plan_147 : decode cX6_plan 147 = .ok (.imul, 1) := by decide +kernel
theorem dX6_plan_148 : decode cX6_plan 148 = .ok (.iload 5, 2) := by decide +kernel
theorem dX6_plan_150 : decode cX6_plan 150 = .ok (.iadd, 1) := by decide +kernel
theorem dX6_plan_151 : decode cX6_plan 151 = .ok (.iconst (-1), 1) := by decide +kernel
theorem dX6_plan_152 : decode cX6_plan 152 = .ok (.iastore, 1) := by decide +kernel
theorem dX6_plan_153 : decode cX6_plan 153 = .ok (.iinc 5 1, 3) := by decide +kernel
theorem dX6_plan_156 : decode cX6_plan 156 = .ok (.goto (-26), 3) := by decide +kernel
theorem dX6_plan_159 : decode cX6_plan 159 = .ok (.aload_n 0, 1) := by decide +kernel
theorem dX6_plan_160 : decode cX6_plan 160 = .ok (.dup, 1) := by decide +kernel
theorem dX6_plan_161 : decode cX6_plan 161 = .ok (.getfield 87, 3) := by decide +kernel
theorem dX6_plan_164 : decode cX6_plan 164 = .ok (.iconst 1, 1) := by decide +kernel
theorem dX6_plan_165 : decode cX6_plan 165 = .ok (.iadd, 1) := by decide +kernel
theorem dX6_plan_166 : decode cX6_plan 166 = .ok (.putfield 87, 3) := by decide +kernel
theorem dX6_plan_169 : decode cX6_plan 169 = .ok (.aload_n 0, 1) := by decide +kernel
theorem dX6_plan_170 : decode cX6_plan 170 = .ok (.getfield 87, 3) := by decide +kernel
theorem dX6_plan_173 : decode cX6_plan 173 = .ok (.iconst 1, 1) := by decide +kernel
theorem dX6_plan_174 : decode cX6_plan 174 = .ok (.isub, 1) := by decide +kernel
theorem dX6_plan_175 : decode cX6_plan 175 = .ok (.ireturn, 1) := by decide +kernel
theorem dX6_crew_0 : decode cX6_crew 0 = .ok (.aload_n 0, 1) := by decide +kernel
theorem dX6_crew_1 : decode cX6_crew 1 = .ok (.iload_n 1, 1) := by decide +kernel
theorem dX6_crew_2 : decode cX6_crew 2 = .ok (.iconst 1, 1) := by decide +kernel
theorem dX6_crew_3 : decode cX6_crew 3 = .ok (.bipush 6, 2) := by decide +kernel
theorem dX6_crew_5 : decode cX6_crew 5 = .ok (.invokestatic 90, 3) := by decide +kernel
theorem dX6_crew_8 : decode cX6_crew 8 = .ok (.invokevirtual 108, 3) := by decide +kernel
theorem dX6_crew_11 : decode cX6_crew 11 = .ok (.ifCond .ne 5, 3) := by decide +kernel
theorem dX6_crew_14 : decode cX6_crew 14 = .ok (.iconst 0, 1) := by decide +kernel
theorem dX6_crew_15 : decode cX6_crew 15 = .ok (.ireturn, 1) := by decide +kernel
theorem dX6_crew_16 : decode cX6_crew 16 = .ok (.aload_n 0, 1) := by decide +kernel
theorem dX6_crew_17 : decode cX6_crew 17 = .ok (.getfield 7, 3) := by decide +kernel
theorem dX6_crew_20 : decode cX6_crew 20 = .ok (.istore_n 2, 1) := by decide +kernel
theorem dX6_crew_21 : decode cX6_crew 21 = .ok (.aload_n 0, 1) := by decide +kernel
theorem dX6_crew_22 : decode cX6_crew 22 = .ok (.iload_n 1, 1) := by decide +kernel
theorem dX6_crew_23 : decode cX6_crew 23 = .ok (.putfield 7, 3) := by decide +kernel
theorem dX6_crew_26 : decode cX6_crew 26 = .ok (.iload_n 2, 1) := by decide +kernel
theorem dX6_crew_27 : decode cX6_crew 27 = .ok (.ireturn, 1) := by decide +kernel
theorem dX6_takesUp_0 : decode cX6_takesUp 0 = .ok (.iconst 0, 1) := by decide +kernel
theorem dX6_takesUp_1 : decode cX6_takesUp 1 = .ok (.istore_n 2, 1) := by decide +kernel
theorem dX6_takesUp_2 : decode cX6_takesUp 2 = .ok (.iload_n 2, 1) := by decide +kernel
theorem dX6_takesUp_3 : decode cX6_takesUp 3 = .ok (.sipush 549, 3) := by decide +kernel
theorem dX6_takesUp_6 : decode cX6_takesUp 6 = .ok (.if_icmp .ge 32, 3) := by decide +kernel
theorem dX6_takesUp_9 : decode cX6_takesUp 9 = .ok (.aload_n 0, 1) := by decide +kernel
theorem dX6_takesUp_10 : decode cX6_takesUp 10 = .ok (.getfield 72, 3) := by decide +kernel
theorem dX6_takesUp_13 : decode cX6_takesUp 13 = .ok (.iload_n 2, 1) := by decide +kernel
theorem dX6_takesUp_14 : decode cX6_takesUp 14 = .ok (.aload_n 0, 1) := by decide +kernel
theorem dX6_takesUp_15 : decode cX6_takesUp 15 = .ok (.getfield 16, 3) := by decide +kernel
theorem dX6_takesUp_18 : decode cX6_takesUp 18 = .ok (.sipush 549, 3) := by decide +kernel
theorem dX6_takesUp_21 : decode cX6_takesUp 21 = .ok (.aload_n 0, 1) := by decide +kernel
theorem dX6_takesUp_22 : decode cX6_takesUp 22 = .ok (.getfield 42, 3) := by decide +kernel
theorem dX6_takesUp_25 : decode cX6_takesUp 25 = .ok (.iload_n 1, 1) := by decide +kernel
theorem dX6_takesUp_26 : decode cX6_takesUp 26 = .ok (.iaload, 1) := by decide +kernel
theorem dX6_takesUp_27 : decode cX6_takesUp 27 = .ok (.imul, 1) := by decide +kernel
theorem dX6_takesUp_28 : decode cX6_takesUp 28 = .ok (.iload_n 2, 1) := by decide +kernel
theorem dX6_takesUp_29 : decode cX6_takesUp 29 = .ok (.iadd, 1) := by decide +kernel
theorem dX6_takesUp_30 : decode cX6_takesUp 30 = .ok (.iaload, 1) := by decide +kernel
theorem dX6_takesUp_31 : decode cX6_takesUp 31 = .ok (.iastore, 1) := by decide +kernel
theorem dX6_takesUp_32 : decode cX6_takesUp 32 = .ok (.iinc 2 1, 3) := by decide +kernel
theorem dX6_takesUp_35 : decode cX6_takesUp 35 = .ok (.goto (-33), 3) := by decide +kernel
theorem dX6_takesUp_38 : decode cX6_takesUp 38 = .ok (.iconst 0, 1) := by decide +kernel
theorem dX6_takesUp_39 : decode cX6_takesUp 39 = .ok (.istore_n 2, 1) := by decide +kernel
theorem dX6_takesUp_40 : decode cX6_takesUp 40 = .ok (.iload_n 2, 1) := by decide +kernel
theorem dX6_takesUp_41 : decode cX6_takesUp 41 = .ok (.bipush 6, 2) := by decide +kernel
theorem dX6_takesUp_43 : decode cX6_takesUp 43 = .ok (.if_icmp .ge 26, 3) := by decide +kernel
theorem dX6_takesUp_46 : decode cX6_takesUp 46 = .ok (.aload_n 0, 1) := by decide +kernel
theorem dX6_takesUp_47 : decode cX6_takesUp 47 = .ok (.getfield 75, 3) := by decide +kernel
theorem dX6_takesUp_50 : decode cX6_takesUp 50 = .ok (.iload_n 2, 1) := by decide +kernel
theorem dX6_takesUp_51 : decode cX6_takesUp 51 = .ok (.aload_n 0, 1) := by decide +kernel
theorem dX6_takesUp_52 : decode cX6_takesUp 52 = .ok (.getfield 60, 3) := by decide +kernel
theorem dX6_takesUp_55 : decode cX6_takesUp 55 = .ok (.bipush 6, 2) := by decide +kernel
theorem dX6_takesUp_57 : decode cX6_takesUp 57 = .ok (.iload_n 1, 1) := by decide +kernel
theorem dX6_takesUp_58 : decode cX6_takesUp 58 = .ok (.imul, 1) := by decide +kernel
theorem dX6_takesUp_59 : decode cX6_takesUp 59 = .ok (.iload_n 2, 1) := by decide +kernel
theorem dX6_takesUp_60 : decode cX6_takesUp 60 = .ok (.iadd, 1) := by decide +kernel
theorem dX6_takesUp_61 : decode cX6_takesUp 61 = .ok (.iaload, 1) := by decide +kernel
theorem dX6_takesUp_62 : decode cX6_takesUp 62 = .ok (.iastore, 1) := by decide +kernel
theorem dX6_takesUp_63 : decode cX6_takesUp 63 = .ok (.iinc 2 1, 3) := by decide +kernel
theorem dX6_takesUp_66 : decode cX6_takesUp 66 = .ok (.goto (-26), 3) := by decide +kernel
theorem dX6_takesUp_69 : decode cX6_takesUp 69 = .ok (.return_, 1) := by decide +kernel
theorem dX6_stoneAt_0 : decode cX6_stoneAt 0 = .ok (.iconst (-1), 1) := by decide +kernel
theorem dX6_stoneAt_1 : decode cX6_stoneAt 1 = .ok (.istore_n 3, 1) := by decide +kernel
theorem dX6_stoneAt_2 : decode cX6_stoneAt 2 = .ok (.iconst 0, 1) := by decide +kernel
theorem dX6_stoneAt_3 : decode cX6_stoneAt 3 = .ok (.istore 4, 2) := by decide +kernel
theorem dX6_stoneAt_5 : decode cX6_stoneAt 5 = .ok (.iload 4, 2) := by decide +kernel
theorem dX6_stoneAt_7 : decode cX6_stoneAt 7 = .ok (.bipush 6, 2) := by decide +kernel
theorem dX6_stoneAt_9 : decode cX6_stoneAt 9 = .ok (.if_icmp .ge 32, 3) := by decide +kernel
theorem dX6_stoneAt_12 : decode cX6_stoneAt 12 = .ok (.aload_n 0, 1) := by decide +kernel
theorem dX6_stoneAt_13 : decode cX6_stoneAt 13 = .ok (.getfield 75, 3) := by decide +kernel
theorem dX6_stoneAt_16 : decode cX6_stoneAt 16 = .ok (.iload 4, 2) := by decide +kernel
theorem dX6_stoneAt_18 : decode cX6_stoneAt 18 = .ok (.iaload, 1) := by decide +kernel
theorem dX6_stoneAt_19 : decode cX6_stoneAt 19 = .ok (.bipush 100, 2) := by decide +kernel
theorem dX6_stoneAt_21 : decode cX6_stoneAt 21 = .ok (.iload_n 1, 1) := by decide +kernel
theorem dX6_stoneAt_22 : decode cX6_stoneAt 22 = .ok (.imul, 1) := by decide +kernel
theorem dX6_stoneAt_23 : decode cX6_stoneAt 23 = .ok (.iload_n 2, 1) := by decide +kernel
theorem dX6_stoneAt_24 : decode cX6_stoneAt 24 = .ok (.iadd, 1) := by decide +kernel
theorem dX6_stoneAt_25 : decode cX6_stoneAt 25 = .ok (.if_icmp .ne 8, 3) := by decide +kernel
theorem dX6_stoneAt_28 : decode cX6_stoneAt 28 = .ok (.iload 4, 2) := by decide +kernel
theorem dX6_stoneAt_30 : decode cX6_stoneAt 30 = .ok (.goto 4, 3) := by decide +kernel
theorem dX6_stoneAt_33 : decode cX6_stoneAt 33 = .ok (.iload_n 3, 1) := by decide +kernel
theorem dX6_stoneAt_34 : decode cX6_stoneAt 34 = .ok (.istore_n 3, 1) := by decide +kernel
theorem dX6_stoneAt_35 : decode cX6_stoneAt 35 = .ok (.iinc 4 1, 3) := by decide +kernel
theorem dX6_stoneAt_38 : decode cX6_stoneAt 38 = .ok (.goto (-33), 3) := by decide +kernel
theorem dX6_stoneAt_41 : decode cX6_stoneAt 41 = .ok (.iload_n 3, 1) := by decide +kernel
theorem dX6_stoneAt_42 : decode cX6_stoneAt 42 = .ok (.ireturn, 1) := by decide +kernel
theorem dX6_goes_0 : decode cX6_goes 0 = .ok (.iload_n 1, 1) := by decide +kernel
theorem dX6_goes_1 : decode cX6_goes 1 = .ok (.istore 7, 2) := by decide +kernel
theorem dX6_goes_3 : decode cX6_goes 3 = .ok (.iload_n 2, 1) := by decide +kernel
theorem dX6_goes_4 : decode cX6_goes 4 = .ok (.istore 8, 2) := by decide +kernel
theorem dX6_goes_6 : decode cX6_goes 6 = .ok (.iconst 0, 1) := by decide +kernel
theorem dX6_goes_7 : decode cX6_goes 7 = .ok (.istore 9, 2) := by decide +kernel
theorem dX6_goes_9 : decode cX6_goes 9 = .ok (.bipush 10, 2) := by decide +kernel
theorem dX6_goes_11 : decode cX6_goes 11 = .ok (.iload_n 3, 1) := by decide +kernel
theorem dX6_goes_12 : decode cX6_goes 12 = .ok (.imul, 1) := by decide +kernel
theorem dX6_goes_13 : decode cX6_goes 13 = .ok (.istore 10, 2) := by decide +kernel
theorem dX6_goes_15 : decode cX6_goes 15 = .ok (.iload 4, 2) := by decide +kernel
theorem dX6_goes_17 : decode cX6_goes 17 = .ok (.istore 11, 2) := by decide +kernel
theorem dX6_goes_19 : decode cX6_goes 19 = .ok (.iload 5, 2) := by decide +kernel
theorem dX6_goes_21 : decode cX6_goes 21 = .ok (.istore 12, 2) := by decide +kernel
theorem dX6_goes_23 : decode cX6_goes 23 = .ok (.iload 6, 2) := by decide +kernel
theorem dX6_goes_25 : decode cX6_goes 25 = .ok (.istore 13, 2) := by decide +kernel
theorem dX6_goes_27 : decode cX6_goes 27 = .ok (.iload 7, 2) := by decide +kernel
theorem dX6_goes_29 : decode cX6_goes 29 = .ok (.iconst (-1), 1) := by decide +kernel
theorem dX6_goes_30 : decode cX6_goes 30 = .ok (.if_icmp .eq 444, 3) := by decide +kernel
theorem dX6_goes_33 : decode cX6_goes 33 = .ok (.iconst (-1), 1) := by decide +kernel
theorem dX6_goes_34 : decode cX6_goes 34 = .ok (.istore 14, 2) := by decide +kernel
theorem dX6_goes_36 : decode cX6_goes 36 = .ok (.iconst 0, 1) := by decide +kernel
theorem dX6_goes_37 : decode cX6_goes 37 = .ok (.istore 15, 2) := by decide +kernel
theorem dX6_goes_39 : decode cX6_goes 39 = .ok (.iconst 0, 1) := by decide +kernel
theorem dX6_goes_40 : decode cX6_goes 40 = .ok (.istore 16, 2) := by decide +kernel
theorem dX6_goes_42 : decode cX6_goes 42 = .ok (.iconst 0, 1) := by decide +kernel
theorem dX6_goes_43 : decode cX6_goes 43 = .ok (.istore 17, 2) := by decide +kernel
theorem dX6_goes_45 : decode cX6_goes 45 = .ok (.iconst 1, 1) := by decide +kernel
theorem dX6_goes_46 : decode cX6_goes 46 = .ok (.istore 18, 2) := by decide +kernel
theorem dX6_goes_48 : decode cX6_goes 48 = .ok (.aload_n 0, 1) := by decide +kernel
theorem dX6_goes_49 : decode cX6_goes 49 = .ok (.getfield 75, 3) := by decide +kernel
theorem dX6_goes_52 : decode cX6_goes 52 = .ok (.iload 7, 2) := by decide +kernel
theorem dX6_goes_54 : decode cX6_goes 54 = .ok (.iconst (-1), 1) := by decide +kernel
theorem dX6_goes_55 : decode cX6_goes 55 = .ok (.iastore, 1) := by decide +kernel
theorem dX6_goes_56 : decode cX6_goes 56 = .ok (.iload 18, 2) := by decide +kernel
theorem dX6_goes_58 : decode cX6_goes 58 = .ok (.ifCond .eq 335, 3) := by decide +kernel
theorem dX6_goes_61 : decode cX6_goes 61 = .ok (.bipush 61, 2) := by decide +kernel
theorem dX6_goes_63 : decode cX6_goes 63 = .ok (.iload 8, 2) := by decide +kernel
theorem dX6_goes_65 : decode cX6_goes 65 = .ok (.imul, 1) := by decide +kernel
theorem dX6_goes_66 : decode cX6_goes 66 = .ok (.iload 9, 2) := by decide +kernel
theorem dX6_goes_68 : decode cX6_goes 68 = .ok (.iadd, 1) := by decide +kernel
theorem dX6_goes_69 : decode cX6_goes 69 = .ok (.iconst 1, 1) := by decide +kernel
theorem dX6_goes_70 : decode cX6_goes 70 = .ok (.iadd, 1) := by decide +kernel
theorem dX6_goes_71 : decode cX6_goes 71 = .ok (.istore 19, 2) := by decide +kernel
theorem dX6_goes_73 : decode cX6_goes 73 = .ok (.bipush 10, 2) := by decide +kernel
theorem dX6_goes_75 : decode cX6_goes 75 = .ok (.aload_n 0, 1) := by decide +kernel
theorem dX6_goes_76 : decode cX6_goes 76 = .ok (.getfield 72, 3) := by decide +kernel
theorem dX6_goes_79 : decode cX6_goes 79 = .ok (.iload 19, 2) := by decide +kernel
theorem dX6_goes_81 : decode cX6_goes 81 = .ok (.iaload, 1) := by decide +kernel
theorem dX6_goes_82 : decode cX6_goes 82 = .ok (.iadd, 1) := by decide +kernel
theorem dX6_goes_83 : decode cX6_goes 83 = .ok (.iload 9, 2) := by decide +kernel
theorem dX6_goes_85 : decode cX6_goes 85 = .ok (.iconst 1, 1) := by decide +kernel
theorem dX6_goes_86 : decode cX6_goes 86 = .ok (.iadd, 1) := by decide +kernel
theorem dX6_goes_87 : decode cX6_goes 87 = .ok (.iload 12, 2) := by decide +kernel
theorem dX6_goes_89 : decode cX6_goes 89 = .ok (.iload 13, 2) := by decide +kernel
theorem dX6_goes_91 : decode cX6_goes 91 = .ok (.invokestatic 90, 3) := by decide +kernel
theorem dX6_goes_94 : decode cX6_goes 94 = .ok (.ifCond .eq 7, 3) := by decide +kernel
theorem dX6_goes_97 : decode cX6_goes 97 = .ok (.iconst 3, 1) := by decide +kernel
theorem dX6_goes_98 : decode cX6_goes 98 = .ok (.goto 4, 3) := by decide +kernel
theorem dX6_goes_101 : decode cX6_goes 101 = .ok (.iconst 0, 1) := by decide +kernel
theorem dX6_goes_102 : decode cX6_goes 102 = .ok (.isub, 1) := by decide +kernel
theorem dX6_goes_103 : decode cX6_goes 103 = .ok (.istore 20, 2) := by decide +kernel
theorem dX6_goes_105 : decode cX6_goes 105 = .ok (.aload_n 0, 1) := by decide +kernel
theorem dX6_goes_106 : decode cX6_goes 106 = .ok (.iload 8, 2) := by decide +kernel
theorem dX6_goes_108 : decode cX6_goes 108 = .ok (.iload 9, 2) := by decide +kernel
theorem dX6_goes_110 : decode cX6_goes 110 = .ok (.iconst 1, 1) := by decide +kernel
theorem dX6_goes_111 : decode cX6_goes 111 = .ok (.iadd, 1) := by decide +kernel
theorem dX6_goes_112 : decode cX6_goes 112 = .ok (.invokevirtual 111, 3) := by decide +kernel
theorem dX6_goes_115 : decode cX6_goes 115 = .ok (.istore 21, 2) := by decide +kernel
theorem dX6_goes_117 : decode cX6_goes 117 = .ok (.iload 10, 2) := by decide +kernel
theorem dX6_goes_119 : decode cX6_goes 119 = .ok (.iload 20, 2) := by decide +kernel
theorem dX6_goes_121 : decode cX6_goes 121 = .ok (.if_icmp .ge 9, 3) := by decide +kernel
theorem dX6_goes_124 : decode cX6_goes 124 = .ok (.iconst 0, 1) := by decide +kernel
theorem dX6_goes_125 : decode cX6_goes 125 = .ok (.istore 18, 2) := by decide +kernel
theorem dX6_goes_127 : decode cX6_goes 127 = .ok (.goto 263, 3) := by decide +kernel
theorem dX6_goes_130 : decode cX6_goes 130 = .ok (.iload 21, 2) := by decide +kernel
theorem dX6_goes_132 : decode cX6_goes 132 = .ok (.iconst (-1), 1) := by decide +kernel
theorem dX6_goes_133 : decode cX6_goes 133 = .ok (.if_icmp .eq 21, 3) := by decide +kernel
theorem dX6_goes_136 : decode cX6_goes 136 = .ok (.iload 21, 2) := by decide +kernel
theorem dX6_goes_138 : decode cX6_goes 138 = .ok (.istore 14, 2) := by decide +kernel
theorem dX6_goes_140 : decode cX6_goes 140 = .ok (.iload 10, 2) := by decide +kernel
theorem dX6_goes_142 : decode cX6_goes 142 = .ok (.iconst 3, 1) := by decide +kernel
theorem dX6_goes_143 : decode cX6_goes 143 = .ok (.imul, 1) := by decide +kernel
theorem dX6_goes_144 : decode cX6_goes 144 = .ok (.iconst 4, 1) := by decide +kernel
theorem dX6_goes_145 : decode cX6_goes 145 = .ok (.idiv, 1) := by decide +kernel
theorem dX6_goes_146 : decode cX6_goes 146 = .ok (.istore 15, 2) := by decide +kernel
theorem dX6_goes_148 : decode cX6_goes 148 = .ok (.iconst 0, 1) := by decide +kernel
theorem dX6_goes_149 : decode cX6_goes 149 = .ok (.istore 18, 2) := by decide +kernel
theorem dX6_goes_151 : decode cX6_goes 151 = .ok (.goto 239, 3) := by decide +kernel
theorem dX6_goes_154 : decode cX6_goes 154 = .ok (.iinc 9 1, 3) := by decide +kernel
theorem dX6_goes_157 : decode cX6_goes 157 = .ok (.iload 10, 2) := by decide +kernel
theorem dX6_goes_159 : decode cX6_goes 159 = .ok (.iload 20, 2) := by decide +kernel
theorem dX6_goes_161 : decode cX6_goes 161 = .ok (.isub, 1) := by decide +kernel
theorem dX6_goes_162 : decode cX6_goes 162 = .ok (.istore 10, 2) := by decide +kernel
theorem dX6_goes_164 : decode cX6_goes 164 = .ok (.aload_n 0, 1) := by decide +kernel
theorem dX6_goes_165 : decode cX6_goes 165 = .ok (.getfield 72, 3) := by decide +kernel
theorem dX6_goes_168 : decode cX6_goes 168 = .ok (.iload 19, 2) := by decide +kernel
theorem dX6_goes_170 : decode cX6_goes 170 = .ok (.dup2, 1) := by decide +kernel
theorem dX6_goes_171 : decode cX6_goes 171 = .ok (.iaload, 1) := by decide +kernel
theorem dX6_goes_172 : decode cX6_goes 172 = .ok (.aload_n 0, 1) := by decide +kernel
theorem dX6_goes_173 : decode cX6_goes 173 = .ok (.getfield 72, 3) := by decide +kernel
theorem dX6_goes_176 : decode cX6_goes 176 = .ok (.iload 19, 2) := by decide +kernel
theorem dX6_goes_178 : decode cX6_goes 178 = .ok (.iaload, 1) := by decide +kernel
theorem dX6_goes_179 : decode cX6_goes 179 = .ok (.bipush 9, 2) := by decide +kernel
theorem dX6_goes_181 : decode cX6_goes 181 = .ok (.if_icmp .ge 7, 3) := by decide +kernel
theorem dX6_goes_184 : decode cX6_goes 184 = .ok (.iconst 1, 1) := by decide +kernel
theorem dX6_goes_185 : decode cX6_goes 185 = .ok (.goto 4, 3) := by decide +kernel
theorem dX6_goes_188 : decode cX6_goes 188 = .ok (.iconst 0, 1) := by decide +kernel
theorem dX6_goes_189 : decode cX6_goes 189 = .ok (.iadd, 1) := by decide +kernel
theorem dX6_goes_190 : decode cX6_goes 190 = .ok (.iastore, 1) := by decide +kernel
theorem dX6_goes_191 : decode cX6_goes 191 = .ok (.iload 9, 2) := by decide +kernel
theorem dX6_goes_193 : decode cX6_goes 193 = .ok (.iload 12, 2) := by decide +kernel
theorem dX6_goes_195 : decode cX6_goes 195 = .ok (.iload 13, 2) := by decide +kernel
theorem dX6_goes_197 : decode cX6_goes 197 = .ok (.invokestatic 90, 3) := by decide +kernel
theorem dX6_goes_200 : decode cX6_goes 200 = .ok (.istore 22, 2) := by decide +kernel
theorem dX6_goes_202 : decode cX6_goes 202 = .ok (.iload 16, 2) := by decide +kernel
theorem dX6_goes_204 : decode cX6_goes 204 = .ok (.iload 22, 2) := by decide +kernel
theorem dX6_goes_206 : decode cX6_goes 206 = .ok (.ifCond .eq 7, 3) := by decide +kernel
theorem dX6_goes_209 : decode cX6_goes 209 = .ok (.iconst 0, 1) := by decide +kernel
theorem dX6_goes_210 : decode cX6_goes 210 = .ok (.goto 4, 3) := by decide +kernel
theorem dX6_goes_213 : decode cX6_goes 213 = .ok (.iconst 1, 1) := by decide +kernel
theorem dX6_goes_214 : decode cX6_goes 214 = .ok (.iadd, 1) := by decide +kernel
theorem dX6_goes_215 : decode cX6_goes 215 = .ok (.istore 16, 2) := by decide +kernel
theorem dX6_goes_217 : decode cX6_goes 217 = .ok (.iload 9, 2) := by decide +kernel
theorem dX6_goes_219 : decode cX6_goes 219 = .ok (.bipush 60, 2) := by decide +kernel
theorem dX6_goes_221 : decode cX6_goes 221 = .ok (.if_icmp .ne 7, 3) := by decide +kernel
theorem dX6_goes_224 : decode cX6_goes 224 = .ok (.iconst 1, 1) := by decide +kernel
theorem dX6_goes_225 : decode cX6_goes 225 = .ok (.goto 4, 3) := by decide +kernel
theorem dX6_goes_228 : decode cX6_goes 228 = .ok (.iconst 0, 1) := by decide +kernel
theorem dX6_goes_229 : decode cX6_goes 229 = .ok (.istore 17, 2) := by decide +kernel
theorem dX6_goes_231 : decode cX6_goes 231 = .ok (.iload 17, 2) := by decide +kernel
theorem dX6_goes_233 : decode cX6_goes 233 = .ok (.ifCond .ne 7, 3) := by decide +kernel
theorem dX6_goes_236 : decode cX6_goes 236 = .ok (.iconst 1, 1) := by decide +kernel
theorem dX6_goes_237 : decode cX6_goes 237 = .ok (.goto 4, 3) := by decide +kernel
theorem dX6_goes_240 : decode cX6_goes 240 = .ok (.iconst 0, 1) := by decide +kernel
theorem dX6_goes_241 : decode cX6_goes 241 = .ok (.istore 18, 2) := by decide +kernel
theorem dX6_goes_243 : decode cX6_goes 243 = .ok (.iload 18, 2) := by decide +kernel
theorem dX6_goes_245 : decode cX6_goes 245 = .ok (.ifCond .eq 145, 3) := by decide +kernel
theorem dX6_goes_248 : decode cX6_goes 248 = .ok (.iload 11, 2) := by decide +kernel
theorem dX6_goes_250 : decode cX6_goes 250 = .ok (.ifCond .eq 140, 3) := by decide +kernel
theorem dX6_goes_253 : decode cX6_goes 253 = .ok (.iload 22, 2) := by decide +kernel
theorem dX6_goes_255 : decode cX6_goes 255 = .ok (.ifCond .ne 135, 3) := by decide +kernel
theorem dX6_goes_258 : decode cX6_goes 258 = .ok (.iload 16, 2) := by decide +kernel
theorem dX6_goes_260 : decode cX6_goes 260 = .ok (.bipush 12, 2) := by decide +kernel
theorem dX6_goes_262 : decode cX6_goes 262 = .ok (.if_icmp .ge 18, 3) := by decide +kernel
theorem dX6_goes_265 : decode cX6_goes 265 = .ok (.iload 10, 2) := by decide +kernel
theorem dX6_goes_267 : decode cX6_goes 267 = .ok (.sipush 300, 3) := by decide +kernel
theorem dX6_goes_270 : decode cX6_goes 270 = .ok (.if_icmp .ge 120, 3) := by decide +kernel
theorem dX6_goes_273 : decode cX6_goes 273 = .ok (.iload 16, 2) := by decide +kernel
theorem dX6_goes_275 : decode cX6_goes 275 = .ok (.bipush 6, 2) := by decide +kernel
theorem dX6_goes_277 : decode cX6_goes 277 = .ok (.if_icmp .lt 113, 3) := by decide +kernel
theorem dX6_goes_280 : decode cX6_goes 280 = .ok (.iload 8, 2) := by decide +kernel
theorem dX6_goes_282 : decode cX6_goes 282 = .ok (.iload 11, 2) := by decide +kernel
theorem dX6_goes_284 : decode cX6_goes 284 = .ok (.iadd, 1) := by decide +kernel
theorem dX6_goes_285 : decode cX6_goes 285 = .ok (.iconst 0, 1) := by decide +kernel
theorem dX6_goes_286 : decode cX6_goes 286 = .ok (.bipush 8, 2) := by decide +kernel
theorem dX6_goes_288 : decode cX6_goes 288 = .ok (.invokestatic 90, 3) := by decide +kernel
theorem dX6_goes_291 : decode cX6_goes 291 = .ok (.ifCond .eq 17, 3) := by decide +kernel
theorem dX6_goes_294 : decode cX6_goes 294 = .ok (.aload_n 0, 1) := by decide +kernel
theorem dX6_goes_295 : decode cX6_goes 295 = .ok (.iload 8, 2) := by decide +kernel
theorem dX6_goes_297 : decode cX6_goes 297 = .ok (.iload 11, 2) := by decide +kernel
theorem dX6_goes_299 : decode cX6_goes 299 = .ok (.iadd, 1) := by decide +kernel
theorem dX6_goes_300 : decode cX6_goes 300 = .ok (.iload 9, 2) := by decide +kernel
theorem dX6_goes_302 : decode cX6_goes 302 = .ok (.invokevirtual 111, 3) := by decide +kernel
theorem dX6_goes_305 : decode cX6_goes 305 = .ok (.goto 4, 3) := by decide +kernel
theorem dX6_goes_308 : decode cX6_goes 308 = .ok (.iconst (-1), 1) := by decide +kernel
theorem dX6_goes_309 : decode cX6_goes 309 = .ok (.istore 23, 2) := by decide +kernel
theorem dX6_goes_311 : decode cX6_goes 311 = .ok (.iload 8, 2) := by decide +kernel
theorem dX6_goes_313 : decode cX6_goes 313 = .ok (.iload 11, 2) := by decide +kernel
theorem dX6_goes_315 : decode cX6_goes 315 = .ok (.iadd, 1) := by decide +kernel
theorem dX6_goes_316 : decode cX6_goes 316 = .ok (.iconst 0, 1) := by decide +kernel
theorem dX6_goes_317 : decode cX6_goes 317 = .ok (.bipush 8, 2) := by decide +kernel
theorem dX6_goes_319 : decode cX6_goes 319 = .ok (.invokestatic 90, 3) := by decide +kernel
theorem dX6_goes_322 : decode cX6_goes 322 = .ok (.ifCond .ne 7, 3) := by decide +kernel
theorem dX6_goes_325 : decode cX6_goes 325 = .ok (.iconst 1, 1) := by decide +kernel
theorem dX6_goes_326 : decode cX6_goes 326 = .ok (.goto 4, 3) := by decide +kernel
theorem dX6_goes_329 : decode cX6_goes 329 = .ok (.iconst 0, 1) := by decide +kernel
theorem dX6_goes_330 : decode cX6_goes 330 = .ok (.istore 17, 2) := by decide +kernel
theorem dX6_goes_332 : decode cX6_goes 332 = .ok (.iload 17, 2) := by decide +kernel
theorem dX6_goes_334 : decode cX6_goes 334 = .ok (.ifCond .ne 13, 3) := by decide +kernel
theorem dX6_goes_337 : decode cX6_goes 337 = .ok (.iload 23, 2) := by decide +kernel
theorem dX6_goes_339 : decode cX6_goes 339 = .ok (.iconst (-1), 1) := by decide +kernel
theorem dX6_goes_340 : decode cX6_goes 340 = .ok (.if_icmp .ne 7, 3) := by decide +kernel
theorem dX6_goes_343 : decode cX6_goes 343 = .ok (.iconst 1, 1) := by decide +kernel
theorem dX6_goes_344 : decode cX6_goes 344 = .ok (.goto 4, 3) := by decide +kernel
theorem dX6_goes_347 : decode cX6_goes 347 = .ok (.iconst 0, 1) := by decide +kernel
theorem dX6_goes_348 : decode cX6_goes 348 = .ok (.istore 18, 2) := by decide +kernel
theorem dX6_goes_350 : decode cX6_goes 350 = .ok (.iload 23, 2) := by decide +kernel
theorem dX6_goes_352 : decode cX6_goes 352 = .ok (.istore 14, 2) := by decide +kernel
theorem dX6_goes_354 : decode cX6_goes 354 = .ok (.iload 23, 2) := by decide +kernel
theorem dX6_goes_356 : decode cX6_goes 356 = .ok (.iconst (-1), 1) := by decide +kernel
theorem dX6_goes_357 : decode cX6_goes 357 = .ok (.if_icmp .ne 8, 3) := by decide +kernel
theorem dX6_goes_360 : decode cX6_goes 360 = .ok (.iload 15, 2) := by decide +kernel
theorem dX6_goes_362 : decode cX6_goes 362 = .ok (.goto 7, 3) := by decide +kernel
theorem dX6_goes_365 : decode cX6_goes 365 = .ok (.iload 10, 2) := by decide +kernel
theorem dX6_goes_367 : decode cX6_goes 367 = .ok (.iconst 2, 1) := by decide +kernel
theorem dX6_goes_368 : decode cX6_goes 368 = .ok (.idiv, 1) := by decide +kernel
theorem dX6_goes_369 : decode cX6_goes 369 = .ok (.istore 15, 2) := by decide +kernel
theorem dX6_goes_371 : decode cX6_goes 371 = .ok (.iload 8, 2) := by decide +kernel
theorem dX6_goes_373 : decode cX6_goes 373 = .ok (.iload 18, 2) := by decide +kernel
theorem dX6_goes_375 : decode cX6_goes 375 = .ok (.ifCond .eq 8, 3) := by decide +kernel
theorem dX6_goes_378 : decode cX6_goes 378 = .ok (.iload 11, 2) := by decide +kernel
theorem dX6_goes_380 : decode cX6_goes 380 = .ok (.goto 4, 3) := by decide +kernel
theorem dX6_goes_383 : decode cX6_goes 383 = .ok (.iconst 0, 1) := by decide +kernel
theorem dX6_goes_384 : decode cX6_goes 384 = .ok (.iadd, 1) := by decide +kernel
theorem dX6_goes_385 : decode cX6_goes 385 = .ok (.istore 8, 2) := by decide +kernel
theorem dX6_goes_387 : decode cX6_goes 387 = .ok (.iconst 0, 1) := by decide +kernel
theorem dX6_goes_388 : decode cX6_goes 388 = .ok (.istore 16, 2) := by decide +kernel
theorem dX6_goes_390 : decode cX6_goes 390 = .ok (.goto (-334), 3) := by decide +kernel
theorem dX6_goes_393 : decode cX6_goes 393 = .ok (.aload_n 0, 1) := by decide +kernel
theorem dX6_goes_394 : decode cX6_goes 394 = .ok (.getfield 75, 3) := by decide +kernel
theorem dX6_goes_397 : decode cX6_goes 397 = .ok (.iload 7, 2) := by decide +kernel
theorem dX6_goes_399 : decode cX6_goes 399 = .ok (.iload 17, 2) := by decide +kernel
theorem dX6_goes_401 : decode cX6_goes 401 = .ok (.ifCond .ne 10, 3) := by decide +kernel
theorem dX6_goes_404 : decode cX6_goes 404 = .ok (.iload 9, 2) := by decide +kernel
theorem dX6_goes_406 : decode cX6_goes 406 = .ok (.bipush 30, 2) := by decide +kernel
theorem dX6_goes_408 : decode cX6_goes 408 = .ok (.if_icmp .ge 7, 3) := by decide +kernel
theorem dX6_goes_411 : decode cX6_goes 411 = .ok (.iconst (-1), 1) := by decide +kernel
theorem dX6_goes_412 : decode cX6_goes 412 = .ok (.goto 11, 3) := by decide +kernel
theorem dX6_goes_415 : decode cX6_goes 415 = .ok (.bipush 100, 2) := by decide +kernel
theorem dX6_goes_417 : decode cX6_goes 417 = .ok (.iload 8, 2) := by decide +kernel
theorem dX6_goes_419 : decode cX6_goes 419 = .ok (.imul, 1) := by decide +kernel
theorem dX6_goes_420 : decode cX6_goes 420 = .ok (.iload 9, 2) := by decide +kernel
theorem dX6_goes_422 : decode cX6_goes 422 = .ok (.iadd, 1) := by decide +kernel
theorem dX6_goes_423 : decode cX6_goes 423 = .ok (.iastore, 1) := by decide +kernel
theorem dX6_goes_424 : decode cX6_goes 424 = .ok (.iload 14, 2) := by decide +kernel
theorem dX6_goes_426 : decode cX6_goes 426 = .ok (.istore 7, 2) := by decide +kernel
theorem dX6_goes_428 : decode cX6_goes 428 = .ok (.iload 14, 2) := by decide +kernel
theorem dX6_goes_430 : decode cX6_goes 430 = .ok (.iconst (-1), 1) := by decide +kernel
theorem dX6_goes_431 : decode cX6_goes 431 = .ok (.if_icmp .eq 40, 3) := by decide +kernel
theorem dX6_goes_434 : decode cX6_goes 434 = .ok (.aload_n 0, 1) := by decide +kernel
theorem dX6_goes_435 : decode cX6_goes 435 = .ok (.getfield 75, 3) := by decide +kernel
theorem dX6_goes_438 : decode cX6_goes 438 = .ok (.iload 14, 2) := by decide +kernel
theorem dX6_goes_440 : decode cX6_goes 440 = .ok (.iaload, 1) := by decide +kernel
theorem dX6_goes_441 : decode cX6_goes 441 = .ok (.bipush 100, 2) := by decide +kernel
theorem dX6_goes_443 : decode cX6_goes 443 = .ok (.idiv, 1) := by decide +kernel
theorem dX6_goes_444 : decode cX6_goes 444 = .ok (.istore 8, 2) := by decide +kernel
theorem dX6_goes_446 : decode cX6_goes 446 = .ok (.aload_n 0, 1) := by decide +kernel
theorem dX6_goes_447 : decode cX6_goes 447 = .ok (.getfield 75, 3) := by decide +kernel
theorem dX6_goes_450 : decode cX6_goes 450 = .ok (.iload 14, 2) := by decide +kernel
theorem dX6_goes_452 : decode cX6_goes 452 = .ok (.iaload, 1) := by decide +kernel
theorem dX6_goes_453 : decode cX6_goes 453 = .ok (.bipush 100, 2) := by decide +kernel
theorem dX6_goes_455 : decode cX6_goes 455 = .ok (.irem, 1) := by decide +kernel
theorem dX6_goes_456 : decode cX6_goes 456 = .ok (.istore 9, 2) := by decide +kernel
theorem dX6_goes_458 : decode cX6_goes 458 = .ok (.iload 15, 2) := by decide +kernel
theorem dX6_goes_460 : decode cX6_goes 460 = .ok (.istore 10, 2) := by decide +kernel
theorem dX6_goes_462 : decode cX6_goes 462 = .ok (.iconst 0, 1) := by decide +kernel
theorem dX6_goes_463 : decode cX6_goes 463 = .ok (.istore 11, 2) := by decide +kernel
theorem dX6_goes_465 : decode cX6_goes 465 = .ok (.iconst 1, 1) := by decide +kernel
theorem dX6_goes_466 : decode cX6_goes 466 = .ok (.istore 12, 2) := by decide +kernel
theorem dX6_goes_468 : decode cX6_goes 468 = .ok (.iconst 0, 1) := by decide +kernel
theorem dX6_goes_469 : decode cX6_goes 469 = .ok (.istore 13, 2) := by decide +kernel
theorem dX6_goes_471 : decode cX6_goes 471 = .ok (.goto (-444), 3) := by decide +kernel
theorem dX6_goes_474 : decode cX6_goes 474 = .ok (.return_, 1) := by decide +kernel
theorem dX6_distance_0 : decode cX6_distance 0 = .ok (.iload_n 0, 1) := by decide +kernel
theorem dX6_distance_1 : decode cX6_distance 1 = .ok (.bipush 100, 2) := by decide +kernel
theorem dX6_distance_3 : decode cX6_distance 3 = .ok (.idiv, 1) := by decide +kernel
theorem dX6_distance_4 : decode cX6_distance 4 = .ok (.iconst 4, 1) := by decide +kernel
theorem dX6_distance_5 : decode cX6_distance 5 = .ok (.isub, 1) := by decide +kernel
theorem dX6_distance_6 : decode cX6_distance 6 = .ok (.istore_n 1, 1) := by decide +kernel
theorem dX6_distance_7 : decode cX6_distance 7 = .ok (.iload_n 0, 1) := by decide +kernel
theorem dX6_distance_8 : decode cX6_distance 8 = .ok (.bipush 100, 2) := by decide +kernel
theorem dX6_distance_10 : decode cX6_distance 10 = .ok (.irem, 1) := by decide +kernel
theorem dX6_distance_11 : decode cX6_distance 11 = .ok (.bipush 50, 2) := by decide +kernel
theorem dX6_distance_13 : decode cX6_distance 13 = .ok (.isub, 1) := by decide +kernel
theorem dX6_distance_14 : decode cX6_distance 14 = .ok (.istore_n 2, 1) := by decide +kernel
theorem dX6_distance_15 : decode cX6_distance 15 = .ok (.iload_n 0, 1) := by decide +kernel
theorem dX6_distance_16 : decode cX6_distance 16 = .ok (.iconst (-1), 1) := by decide +kernel
theorem dX6_distance_17 : decode cX6_distance 17 = .ok (.if_icmp .ne 9, 3) := by decide +kernel
theorem dX6_distance_20 : decode cX6_distance 20 = .ok (.sipush 1000, 3) := by decide +kernel
theorem dX6_distance_23 : decode cX6_distance 23 = .ok (.goto 26, 3) := by decide +kernel
theorem dX6_distance_26 : decode cX6_distance 26 = .ok (.iconst 2, 1) := by decide +kernel
theorem dX6_distance_27 : decode cX6_distance 27 = .ok (.iload_n 1, 1) := by decide +kernel
theorem dX6_distance_28 : decode cX6_distance 28 = .ok (.ifCond .ge 8, 3) := by decide +kernel
theorem dX6_distance_31 : decode cX6_distance 31 = .ok (.iload_n 1, 1) := by decide +kernel
theorem dX6_distance_32 : decode cX6_distance 32 = .ok (.ineg, 1) := by decide +kernel
theorem dX6_distance_33 : decode cX6_distance 33 = .ok (.goto 4, 3) := by decide +kernel
theorem dX6_distance_36 : decode cX6_distance 36 = .ok (.iload_n 1, 1) := by decide +kernel
theorem dX6_distance_37 : decode cX6_distance 37 = .ok (.imul, 1) := by decide +kernel
theorem dX6_distance_38 : decode cX6_distance 38 = .ok (.iload_n 2, 1) := by decide +kernel
theorem dX6_distance_39 : decode cX6_distance 39 = .ok (.ifCond .ge 8, 3) := by decide +kernel
theorem dX6_distance_42 : decode cX6_distance 42 = .ok (.iload_n 2, 1) := by decide +kernel
theorem dX6_distance_43 : decode cX6_distance 43 = .ok (.ineg, 1) := by decide +kernel
theorem dX6_distance_44 : decode cX6_distance 44 = .ok (.goto 4, 3) := by decide +kernel
theorem dX6_distance_47 : decode cX6_distance 47 = .ok (.iload_n 2, 1) := by decide +kernel
theorem dX6_distance_48 : decode cX6_distance 48 = .ok (.iadd, 1) := by decide +kernel
theorem dX6_distance_49 : decode cX6_distance 49 = .ok (.ireturn, 1) := by decide +kernel
theorem dX6_scored_0 : decode cX6_scored 0 = .ok (.bipush 11, 2) := by decide +kernel
theorem dX6_scored_2 : decode cX6_scored 2 = .ok (.istore_n 1, 1) := by decide +kernel
theorem dX6_scored_3 : decode cX6_scored 3 = .ok (.bipush 11, 2) := by decide +kernel
theorem dX6_scored_5 : decode cX6_scored 5 = .ok (.istore_n 2, 1) := by decide +kernel
theorem dX6_scored_6 : decode cX6_scored 6 = .ok (.iconst 0, 1) := by decide +kernel
theorem dX6_scored_7 : decode cX6_scored 7 = .ok (.istore_n 3, 1) := by decide +kernel
theorem dX6_scored_8 : decode cX6_scored 8 = .ok (.iload_n 3, 1) := by decide +kernel
theorem dX6_scored_9 : decode cX6_scored 9 = .ok (.bipush 6, 2) := by decide +kernel
theorem dX6_scored_11 : decode cX6_scored 11 = .ok (.if_icmp .ge 56, 3) := by decide +kernel
theorem dX6_scored_14 : decode cX6_scored 14 = .ok (.aload_n 0, 1) := by decide +kernel
theorem dX6_scored_15 : decode cX6_scored 15 = .ok (.getfield 75, 3) := by decide +kernel
theorem dX6_scored_18 : decode cX6_scored 18 = .ok (.iload_n 3, 1) := by decide +kernel
theorem dX6_scored_19 : decode cX6_scored 19 = .ok (.iaload, 1) := by decide +kernel
theorem dX6_scored_20 : decode cX6_scored 20 = .ok (.invokestatic 115, 3) := by decide +kernel
theorem dX6_scored_23 : decode cX6_scored 23 = .ok (.istore 4, 2) := by decide +kernel
theorem dX6_scored_25 : decode cX6_scored 25 = .ok (.iload_n 3, 1) := by decide +kernel
theorem dX6_scored_26 : decode cX6_scored 26 = .ok (.iconst 3, 1) := by decide +kernel
theorem dX6_scored_27 : decode cX6_scored 27 = .ok (.if_icmp .ge 14, 3) := by decide +kernel
theorem dX6_scored_30 : decode cX6_scored 30 = .ok (.iload 4, 2) := by decide +kernel
theorem dX6_scored_32 : decode cX6_scored 32 = .ok (.iload_n 1, 1) := by decide +kernel
theorem dX6_scored_33 : decode cX6_scored 33 = .ok (.if_icmp .ge 8, 3) := by decide +kernel
theorem dX6_scored_36 : decode cX6_scored 36 = .ok (.iload 4, 2) := by decide +kernel
theorem dX6_scored_38 : decode cX6_scored 38 = .ok (.goto 4, 3) := by decide +kernel
theorem dX6_scored_41 : decode cX6_scored 41 = .ok (.iload_n 1, 1) := by decide +kernel
theorem dX6_scored_42 : decode cX6_scored 42 = .ok (.istore_n 1, 1) := by decide +kernel
theorem dX6_scored_43 : decode cX6_scored 43 = .ok (.iload_n 3, 1) := by decide +kernel
theorem dX6_scored_44 : decode cX6_scored 44 = .ok (.iconst 3, 1) := by decide +kernel
theorem dX6_scored_45 : decode cX6_scored 45 = .ok (.if_icmp .lt 14, 3) := by decide +kernel
theorem dX6_scored_48 : decode cX6_scored 48 = .ok (.iload 4, 2) := by decide +kernel
theorem dX6_scored_50 : decode cX6_scored 50 = .ok (.iload_n 2, 1) := by decide +kernel
theorem dX6_scored_51 : decode cX6_scored 51 = .ok (.if_icmp .ge 8, 3) := by decide +kernel
theorem dX6_scored_54 : decode cX6_scored 54 = .ok (.iload 4, 2) := by decide +kernel
theorem dX6_scored_56 : decode cX6_scored 56 = .ok (.goto 4, 3) := by decide +kernel
theorem dX6_scored_59 : decode cX6_scored 59 = .ok (.iload_n 2, 1) := by decide +kernel
theorem dX6_scored_60 : decode cX6_scored 60 = .ok (.istore_n 2, 1) := by decide +kernel
theorem dX6_scored_61 : decode cX6_scored 61 = .ok (.iinc 3 1, 3) := by decide +kernel
theorem dX6_scored_64 : decode cX6_scored 64 = .ok (.goto (-56), 3) := by decide +kernel
theorem dX6_scored_67 : decode cX6_scored 67 = .ok (.iconst 0, 1) := by decide +kernel
theorem dX6_scored_68 : decode cX6_scored 68 = .ok (.istore_n 3, 1) := by decide +kernel
theorem dX6_scored_69 : decode cX6_scored 69 = .ok (.iconst 0, 1) := by decide +kernel
theorem dX6_scored_70 : decode cX6_scored 70 = .ok (.istore 4, 2) := by decide +kernel
theorem dX6_scored_72 : decode cX6_scored 72 = .ok (.iload 4, 2) := by decide +kernel
theorem dX6_scored_74 : decode cX6_scored 74 = .ok (.bipush 6, 2) := by decide +kernel
theorem dX6_scored_76 : decode cX6_scored 76 = .ok (.if_icmp .ge 71, 3) := by decide +kernel
theorem dX6_scored_79 : decode cX6_scored 79 = .ok (.aload_n 0, 1) := by decide +kernel
theorem dX6_scored_80 : decode cX6_scored 80 = .ok (.getfield 75, 3) := by decide +kernel
theorem dX6_scored_83 : decode cX6_scored 83 = .ok (.iload 4, 2) := by decide +kernel
theorem dX6_scored_85 : decode cX6_scored 85 = .ok (.iaload, 1) := by decide +kernel
theorem dX6_scored_86 : decode cX6_scored 86 = .ok (.invokestatic 115, 3) := by decide +kernel
theorem dX6_scored_89 : decode cX6_scored 89 = .ok (.istore 5, 2) := by decide +kernel
theorem dX6_scored_91 : decode cX6_scored 91 = .ok (.iload_n 3, 1) := by decide +kernel
theorem dX6_scored_92 : decode cX6_scored 92 = .ok (.iload_n 1, 1) := by decide +kernel
theorem dX6_scored_93 : decode cX6_scored 93 = .ok (.iload_n 2, 1) := by decide +kernel
theorem dX6_scored_94 : decode cX6_scored 94 = .ok (.if_icmp .ge 19, 3) := by decide +kernel
theorem dX6_scored_97 : decode cX6_scored 97 = .ok (.iload 4, 2) := by decide +kernel
theorem dX6_scored_99 : decode cX6_scored 99 = .ok (.iconst 3, 1) := by decide +kernel
theorem dX6_scored_100 : decode cX6_scored 100 = .ok (.if_icmp .ge 13, 3) := by decide +kernel
theorem dX6_scored_103 : decode cX6_scored 103 = .ok (.iload 5, 2) := by decide +kernel
theorem dX6_scored_105 : decode cX6_scored 105 = .ok (.iload_n 2, 1) := by decide +kernel
theorem dX6_scored_106 : decode cX6_scored 106 = .ok (.if_icmp .ge 7, 3) := by decide +kernel
theorem dX6_scored_109 : decode cX6_scored 109 = .ok (.iconst 1, 1) := by decide +kernel
theorem dX6_scored_110 : decode cX6_scored 110 = .ok (.goto 4, 3) := by decide +kernel
theorem dX6_scored_113 : decode cX6_scored 113 = .ok (.iconst 0, 1) := by decide +kernel
theorem dX6_scored_114 : decode cX6_scored 114 = .ok (.iadd, 1) := by decide +kernel
theorem dX6_scored_115 : decode cX6_scored 115 = .ok (.istore_n 3, 1) := by decide +kernel
theorem dX6_scored_116 : decode cX6_scored 116 = .ok (.iload_n 3, 1) := by decide +kernel
theorem dX6_scored_117 : decode cX6_scored 117 = .ok (.iload_n 2, 1) := by decide +kernel
end
section
theorem dX6_scored_118 : decode cX6_scored 118 = .ok (.iload_n 1, 1) := by decide +kernel
theorem dX6_scored_119 : decode cX6_scored 119 = .ok (.if_icmp .ge 19, 3) := by decide +kernel
theorem dX6_scored_122 : decode cX6_scored 122 = .ok (.iload 4, 2) := by decide +kernel
theorem dX6_scored_124 : decode cX6_scored 124 = .ok (.iconst 3, 1) := by decide +kernel
theorem dX6_scored_125 : decode cX6_scored 125 = .ok (.if_icmp .lt 13, 3) := by decide +kernel
theorem dX6_scored_128 : decode cX6_scored 128 = .ok (.iload 5, 2) := by decide +kernel
theorem dX6_scored_130 : decode cX6_scored 130 = .ok (.iload_n 1, 1) := by decide +kernel
theorem dX6_scored_131 : decode cX6_scored 131 = .ok (.if_icmp .ge 7, 3) := by decide +kernel
theorem dX6_scored_134 : decode cX6_scored 134 = .ok (.iconst 1, 1) := by decide +kernel
theorem dX6_scored_135 : decode cX6_scored 135 = .ok (.goto 4, 3) := by decide +kernel
theorem dX6_scored_138 : decode cX6_scored 138 = .ok (.iconst 0, 1) := by decide +kernel
theorem dX6_scored_139 : decode cX6_scored 139 = .ok (.isub, 1) := by decide +kernel
theorem dX6_scored_140 : decode cX6_scored 140 = .ok (.istore_n 3, 1) := by decide +kernel
theorem dX6_scored_141 : decode cX6_scored 141 = .ok (.iinc 4 1, 3) := by decide +kernel
theorem dX6_scored_144 : decode cX6_scored 144 = .ok (.goto (-72), 3) := by decide +kernel
theorem dX6_scored_147 : decode cX6_scored 147 = .ok (.iload_n 3, 1) := by decide +kernel
theorem dX6_scored_148 : decode cX6_scored 148 = .ok (.ireturn, 1) := by decide +kernel
theorem dX6_turnOf_0 : decode cX6_turnOf 0 = .ok (.aload_n 0, 1) := by decide +kernel
theorem dX6_turnOf_1 : decode cX6_turnOf 1 = .ok (.getfield 51, 3) := by decide +kernel
theorem dX6_turnOf_4 : decode cX6_turnOf 4 = .ok (.iload_n 1, 1) := by decide +kernel
theorem dX6_turnOf_5 : decode cX6_turnOf 5 = .ok (.iaload, 1) := by decide +kernel
theorem dX6_turnOf_6 : decode cX6_turnOf 6 = .ok (.iconst 2, 1) := by decide +kernel
theorem dX6_turnOf_7 : decode cX6_turnOf 7 = .ok (.irem, 1) := by decide +kernel
theorem dX6_turnOf_8 : decode cX6_turnOf 8 = .ok (.istore_n 2, 1) := by decide +kernel
theorem dX6_turnOf_9 : decode cX6_turnOf 9 = .ok (.aload_n 0, 1) := by decide +kernel
theorem dX6_turnOf_10 : decode cX6_turnOf 10 = .ok (.getfield 27, 3) := by decide +kernel
theorem dX6_turnOf_13 : decode cX6_turnOf 13 = .ok (.iload_n 1, 1) := by decide +kernel
theorem dX6_turnOf_14 : decode cX6_turnOf 14 = .ok (.iaload, 1) := by decide +kernel
theorem dX6_turnOf_15 : decode cX6_turnOf 15 = .ok (.iconst 1, 1) := by decide +kernel
theorem dX6_turnOf_16 : decode cX6_turnOf 16 = .ok (.if_icmp .ne 12, 3) := by decide +kernel
theorem dX6_turnOf_19 : decode cX6_turnOf 19 = .ok (.aload_n 0, 1) := by decide +kernel
theorem dX6_turnOf_20 : decode cX6_turnOf 20 = .ok (.getfield 51, 3) := by decide +kernel
theorem dX6_turnOf_23 : decode cX6_turnOf 23 = .ok (.iload_n 1, 1) := by decide +kernel
theorem dX6_turnOf_24 : decode cX6_turnOf 24 = .ok (.iaload, 1) := by decide +kernel
theorem dX6_turnOf_25 : decode cX6_turnOf 25 = .ok (.goto 33, 3) := by decide +kernel
theorem dX6_turnOf_28 : decode cX6_turnOf 28 = .ok (.aload_n 0, 1) := by decide +kernel
theorem dX6_turnOf_29 : decode cX6_turnOf 29 = .ok (.getfield 27, 3) := by decide +kernel
theorem dX6_turnOf_32 : decode cX6_turnOf 32 = .ok (.iload_n 1, 1) := by decide +kernel
theorem dX6_turnOf_33 : decode cX6_turnOf 33 = .ok (.iaload, 1) := by decide +kernel
theorem dX6_turnOf_34 : decode cX6_turnOf 34 = .ok (.iconst 2, 1) := by decide +kernel
theorem dX6_turnOf_35 : decode cX6_turnOf 35 = .ok (.if_icmp .ne 22, 3) := by decide +kernel
theorem dX6_turnOf_38 : decode cX6_turnOf 38 = .ok (.aload_n 0, 1) := by decide +kernel
theorem dX6_turnOf_39 : decode cX6_turnOf 39 = .ok (.getfield 54, 3) := by decide +kernel
theorem dX6_turnOf_42 : decode cX6_turnOf 42 = .ok (.iload_n 1, 1) := by decide +kernel
theorem dX6_turnOf_43 : decode cX6_turnOf 43 = .ok (.iaload, 1) := by decide +kernel
theorem dX6_turnOf_44 : decode cX6_turnOf 44 = .ok (.ifCond .ne 9, 3) := by decide +kernel
theorem dX6_turnOf_47 : decode cX6_turnOf 47 = .ok (.iconst 1, 1) := by decide +kernel
theorem dX6_turnOf_48 : decode cX6_turnOf 48 = .ok (.iload_n 2, 1) := by decide +kernel
theorem dX6_turnOf_49 : decode cX6_turnOf 49 = .ok (.isub, 1) := by decide +kernel
theorem dX6_turnOf_50 : decode cX6_turnOf 50 = .ok (.goto 8, 3) := by decide +kernel
theorem dX6_turnOf_53 : decode cX6_turnOf 53 = .ok (.iload_n 2, 1) := by decide +kernel
theorem dX6_turnOf_54 : decode cX6_turnOf 54 = .ok (.goto 4, 3) := by decide +kernel
theorem dX6_turnOf_57 : decode cX6_turnOf 57 = .ok (.iconst (-1), 1) := by decide +kernel
theorem dX6_turnOf_58 : decode cX6_turnOf 58 = .ok (.ireturn, 1) := by decide +kernel
theorem dX6_slotOf_0 : decode cX6_slotOf 0 = .ok (.iconst 3, 1) := by decide +kernel
theorem dX6_slotOf_1 : decode cX6_slotOf 1 = .ok (.aload_n 0, 1) := by decide +kernel
theorem dX6_slotOf_2 : decode cX6_slotOf 2 = .ok (.iload_n 1, 1) := by decide +kernel
theorem dX6_slotOf_3 : decode cX6_slotOf 3 = .ok (.invokevirtual 119, 3) := by decide +kernel
theorem dX6_slotOf_6 : decode cX6_slotOf 6 = .ok (.imul, 1) := by decide +kernel
theorem dX6_slotOf_7 : decode cX6_slotOf 7 = .ok (.aload_n 0, 1) := by decide +kernel
theorem dX6_slotOf_8 : decode cX6_slotOf 8 = .ok (.getfield 27, 3) := by decide +kernel
theorem dX6_slotOf_11 : decode cX6_slotOf 11 = .ok (.iload_n 1, 1) := by decide +kernel
theorem dX6_slotOf_12 : decode cX6_slotOf 12 = .ok (.iaload, 1) := by decide +kernel
theorem dX6_slotOf_13 : decode cX6_slotOf 13 = .ok (.iconst 2, 1) := by decide +kernel
theorem dX6_slotOf_14 : decode cX6_slotOf 14 = .ok (.if_icmp .ne 14, 3) := by decide +kernel
theorem dX6_slotOf_17 : decode cX6_slotOf 17 = .ok (.aload_n 0, 1) := by decide +kernel
theorem dX6_slotOf_18 : decode cX6_slotOf 18 = .ok (.getfield 51, 3) := by decide +kernel
theorem dX6_slotOf_21 : decode cX6_slotOf 21 = .ok (.iload_n 1, 1) := by decide +kernel
theorem dX6_slotOf_22 : decode cX6_slotOf 22 = .ok (.iaload, 1) := by decide +kernel
theorem dX6_slotOf_23 : decode cX6_slotOf 23 = .ok (.iconst 2, 1) := by decide +kernel
theorem dX6_slotOf_24 : decode cX6_slotOf 24 = .ok (.idiv, 1) := by decide +kernel
theorem dX6_slotOf_25 : decode cX6_slotOf 25 = .ok (.goto 4, 3) := by decide +kernel
theorem dX6_slotOf_28 : decode cX6_slotOf 28 = .ok (.iconst 0, 1) := by decide +kernel
theorem dX6_slotOf_29 : decode cX6_slotOf 29 = .ok (.iadd, 1) := by decide +kernel
theorem dX6_slotOf_30 : decode cX6_slotOf 30 = .ok (.ireturn, 1) := by decide +kernel
theorem dX6_isShot_0 : decode cX6_isShot 0 = .ok (.iload_n 0, 1) := by decide +kernel
theorem dX6_isShot_1 : decode cX6_isShot 1 = .ok (.iconst 0, 1) := by decide +kernel
theorem dX6_isShot_2 : decode cX6_isShot 2 = .ok (.bipush 8, 2) := by decide +kernel
theorem dX6_isShot_4 : decode cX6_isShot 4 = .ok (.invokestatic 90, 3) := by decide +kernel
theorem dX6_isShot_7 : decode cX6_isShot 7 = .ok (.ifCond .eq 48, 3) := by decide +kernel
theorem dX6_isShot_10 : decode cX6_isShot 10 = .ok (.iload_n 1, 1) := by decide +kernel
theorem dX6_isShot_11 : decode cX6_isShot 11 = .ok (.iconst 1, 1) := by decide +kernel
theorem dX6_isShot_12 : decode cX6_isShot 12 = .ok (.bipush 100, 2) := by decide +kernel
theorem dX6_isShot_14 : decode cX6_isShot 14 = .ok (.invokestatic 90, 3) := by decide +kernel
theorem dX6_isShot_17 : decode cX6_isShot 17 = .ok (.ifCond .eq 38, 3) := by decide +kernel
theorem dX6_isShot_20 : decode cX6_isShot 20 = .ok (.iload_n 2, 1) := by decide +kernel
theorem dX6_isShot_21 : decode cX6_isShot 21 = .ok (.iconst (-1), 1) := by decide +kernel
theorem dX6_isShot_22 : decode cX6_isShot 22 = .ok (.if_icmp .eq 8, 3) := by decide +kernel
theorem dX6_isShot_25 : decode cX6_isShot 25 = .ok (.iload_n 2, 1) := by decide +kernel
theorem dX6_isShot_26 : decode cX6_isShot 26 = .ok (.iconst 1, 1) := by decide +kernel
theorem dX6_isShot_27 : decode cX6_isShot 27 = .ok (.if_icmp .ne 28, 3) := by decide +kernel
theorem dX6_isShot_30 : decode cX6_isShot 30 = .ok (.iload_n 3, 1) := by decide +kernel
theorem dX6_isShot_31 : decode cX6_isShot 31 = .ok (.iconst 0, 1) := by decide +kernel
theorem dX6_isShot_32 : decode cX6_isShot 32 = .ok (.bipush 60, 2) := by decide +kernel
theorem dX6_isShot_34 : decode cX6_isShot 34 = .ok (.invokestatic 90, 3) := by decide +kernel
theorem dX6_isShot_37 : decode cX6_isShot 37 = .ok (.ifCond .eq 18, 3) := by decide +kernel
theorem dX6_isShot_40 : decode cX6_isShot 40 = .ok (.iload 4, 2) := by decide +kernel
theorem dX6_isShot_42 : decode cX6_isShot 42 = .ok (.iconst 0, 1) := by decide +kernel
theorem dX6_isShot_43 : decode cX6_isShot 43 = .ok (.bipush 60, 2) := by decide +kernel
theorem dX6_isShot_45 : decode cX6_isShot 45 = .ok (.invokestatic 90, 3) := by decide +kernel
theorem dX6_isShot_48 : decode cX6_isShot 48 = .ok (.ifCond .eq 7, 3) := by decide +kernel
theorem dX6_isShot_51 : decode cX6_isShot 51 = .ok (.iconst 1, 1) := by decide +kernel
theorem dX6_isShot_52 : decode cX6_isShot 52 = .ok (.goto 4, 3) := by decide +kernel
theorem dX6_isShot_55 : decode cX6_isShot 55 = .ok (.iconst 0, 1) := by decide +kernel
theorem dX6_isShot_56 : decode cX6_isShot 56 = .ok (.ireturn, 1) := by decide +kernel
theorem dX6_throwsAt_0 : decode cX6_throwsAt 0 = .ok (.aload_n 0, 1) := by decide +kernel
theorem dX6_throwsAt_1 : decode cX6_throwsAt 1 = .ok (.getfield 27, 3) := by decide +kernel
theorem dX6_throwsAt_4 : decode cX6_throwsAt 4 = .ok (.iload_n 1, 1) := by decide +kernel
theorem dX6_throwsAt_5 : decode cX6_throwsAt 5 = .ok (.iaload, 1) := by decide +kernel
theorem dX6_throwsAt_6 : decode cX6_throwsAt 6 = .ok (.iconst 1, 1) := by decide +kernel
theorem dX6_throwsAt_7 : decode cX6_throwsAt 7 = .ok (.if_icmp .eq 13, 3) := by decide +kernel
theorem dX6_throwsAt_10 : decode cX6_throwsAt 10 = .ok (.aload_n 0, 1) := by decide +kernel
theorem dX6_throwsAt_11 : decode cX6_throwsAt 11 = .ok (.getfield 27, 3) := by decide +kernel
theorem dX6_throwsAt_14 : decode cX6_throwsAt 14 = .ok (.iload_n 1, 1) := by decide +kernel
theorem dX6_throwsAt_15 : decode cX6_throwsAt 15 = .ok (.iaload, 1) := by decide +kernel
theorem dX6_throwsAt_16 : decode cX6_throwsAt 16 = .ok (.iconst 2, 1) := by decide +kernel
theorem dX6_throwsAt_17 : decode cX6_throwsAt 17 = .ok (.if_icmp .ne 7, 3) := by decide +kernel
theorem dX6_throwsAt_20 : decode cX6_throwsAt 20 = .ok (.iconst 1, 1) := by decide +kernel
theorem dX6_throwsAt_21 : decode cX6_throwsAt 21 = .ok (.goto 4, 3) := by decide +kernel
theorem dX6_throwsAt_24 : decode cX6_throwsAt 24 = .ok (.iconst 0, 1) := by decide +kernel
theorem dX6_throwsAt_25 : decode cX6_throwsAt 25 = .ok (.ireturn, 1) := by decide +kernel
theorem dX6_ends_0 : decode cX6_ends 0 = .ok (.aload_n 0, 1) := by decide +kernel
theorem dX6_ends_1 : decode cX6_ends 1 = .ok (.invokevirtual 122, 3) := by decide +kernel
theorem dX6_ends_4 : decode cX6_ends 4 = .ok (.istore_n 2, 1) := by decide +kernel
theorem dX6_ends_5 : decode cX6_ends 5 = .ok (.aload_n 0, 1) := by decide +kernel
theorem dX6_ends_6 : decode cX6_ends 6 = .ok (.getfield 45, 3) := by decide +kernel
theorem dX6_ends_9 : decode cX6_ends 9 = .ok (.iconst 2, 1) := by decide +kernel
theorem dX6_ends_10 : decode cX6_ends 10 = .ok (.iload_n 1, 1) := by decide +kernel
theorem dX6_ends_11 : decode cX6_ends 11 = .ok (.imul, 1) := by decide +kernel
theorem dX6_ends_12 : decode cX6_ends 12 = .ok (.dup2, 1) := by decide +kernel
theorem dX6_ends_13 : decode cX6_ends 13 = .ok (.iaload, 1) := by decide +kernel
theorem dX6_ends_14 : decode cX6_ends 14 = .ok (.iload_n 2, 1) := by decide +kernel
theorem dX6_ends_15 : decode cX6_ends 15 = .ok (.ifCond .le 7, 3) := by decide +kernel
theorem dX6_ends_18 : decode cX6_ends 18 = .ok (.iload_n 2, 1) := by decide +kernel
theorem dX6_ends_19 : decode cX6_ends 19 = .ok (.goto 4, 3) := by decide +kernel
theorem dX6_ends_22 : decode cX6_ends 22 = .ok (.iconst 0, 1) := by decide +kernel
theorem dX6_ends_23 : decode cX6_ends 23 = .ok (.iadd, 1) := by decide +kernel
theorem dX6_ends_24 : decode cX6_ends 24 = .ok (.iastore, 1) := by decide +kernel
theorem dX6_ends_25 : decode cX6_ends 25 = .ok (.aload_n 0, 1) := by decide +kernel
theorem dX6_ends_26 : decode cX6_ends 26 = .ok (.getfield 45, 3) := by decide +kernel
theorem dX6_ends_29 : decode cX6_ends 29 = .ok (.iconst 2, 1) := by decide +kernel
theorem dX6_ends_30 : decode cX6_ends 30 = .ok (.iload_n 1, 1) := by decide +kernel
theorem dX6_ends_31 : decode cX6_ends 31 = .ok (.imul, 1) := by decide +kernel
theorem dX6_ends_32 : decode cX6_ends 32 = .ok (.iconst 1, 1) := by decide +kernel
theorem dX6_ends_33 : decode cX6_ends 33 = .ok (.iadd, 1) := by decide +kernel
theorem dX6_ends_34 : decode cX6_ends 34 = .ok (.dup2, 1) := by decide +kernel
theorem dX6_ends_35 : decode cX6_ends 35 = .ok (.iaload, 1) := by decide +kernel
theorem dX6_ends_36 : decode cX6_ends 36 = .ok (.iload_n 2, 1) := by decide +kernel
theorem dX6_ends_37 : decode cX6_ends 37 = .ok (.ifCond .ge 7, 3) := by decide +kernel
theorem dX6_ends_40 : decode cX6_ends 40 = .ok (.iload_n 2, 1) := by decide +kernel
theorem dX6_ends_41 : decode cX6_ends 41 = .ok (.goto 4, 3) := by decide +kernel
theorem dX6_ends_44 : decode cX6_ends 44 = .ok (.iconst 0, 1) := by decide +kernel
theorem dX6_ends_45 : decode cX6_ends 45 = .ok (.isub, 1) := by decide +kernel
theorem dX6_ends_46 : decode cX6_ends 46 = .ok (.iastore, 1) := by decide +kernel
theorem dX6_ends_47 : decode cX6_ends 47 = .ok (.aload_n 0, 1) := by decide +kernel
theorem dX6_ends_48 : decode cX6_ends 48 = .ok (.getfield 54, 3) := by decide +kernel
theorem dX6_ends_51 : decode cX6_ends 51 = .ok (.iload_n 1, 1) := by decide +kernel
theorem dX6_ends_52 : decode cX6_ends 52 = .ok (.iload_n 2, 1) := by decide +kernel
theorem dX6_ends_53 : decode cX6_ends 53 = .ok (.ifCond .le 7, 3) := by decide +kernel
theorem dX6_ends_56 : decode cX6_ends 56 = .ok (.iconst 1, 1) := by decide +kernel
theorem dX6_ends_57 : decode cX6_ends 57 = .ok (.goto 17, 3) := by decide +kernel
theorem dX6_ends_60 : decode cX6_ends 60 = .ok (.iload_n 2, 1) := by decide +kernel
theorem dX6_ends_61 : decode cX6_ends 61 = .ok (.ifCond .ge 7, 3) := by decide +kernel
theorem dX6_ends_64 : decode cX6_ends 64 = .ok (.iconst 0, 1) := by decide +kernel
theorem dX6_ends_65 : decode cX6_ends 65 = .ok (.goto 9, 3) := by decide +kernel
theorem dX6_ends_68 : decode cX6_ends 68 = .ok (.aload_n 0, 1) := by decide +kernel
theorem dX6_ends_69 : decode cX6_ends 69 = .ok (.getfield 54, 3) := by decide +kernel
theorem dX6_ends_72 : decode cX6_ends 72 = .ok (.iload_n 1, 1) := by decide +kernel
theorem dX6_ends_73 : decode cX6_ends 73 = .ok (.iaload, 1) := by decide +kernel
theorem dX6_ends_74 : decode cX6_ends 74 = .ok (.iastore, 1) := by decide +kernel
theorem dX6_ends_75 : decode cX6_ends 75 = .ok (.aload_n 0, 1) := by decide +kernel
theorem dX6_ends_76 : decode cX6_ends 76 = .ok (.getfield 48, 3) := by decide +kernel
theorem dX6_ends_79 : decode cX6_ends 79 = .ok (.iload_n 1, 1) := by decide +kernel
theorem dX6_ends_80 : decode cX6_ends 80 = .ok (.dup2, 1) := by decide +kernel
theorem dX6_ends_81 : decode cX6_ends 81 = .ok (.iaload, 1) := by decide +kernel
theorem dX6_ends_82 : decode cX6_ends 82 = .ok (.iconst 1, 1) := by decide +kernel
theorem dX6_ends_83 : decode cX6_ends 83 = .ok (.iadd, 1) := by decide +kernel
theorem dX6_ends_84 : decode cX6_ends 84 = .ok (.iastore, 1) := by decide +kernel
theorem dX6_ends_85 : decode cX6_ends 85 = .ok (.aload_n 0, 1) := by decide +kernel
theorem dX6_ends_86 : decode cX6_ends 86 = .ok (.getfield 51, 3) := by decide +kernel
theorem dX6_ends_89 : decode cX6_ends 89 = .ok (.iload_n 1, 1) := by decide +kernel
theorem dX6_ends_90 : decode cX6_ends 90 = .ok (.iconst 0, 1) := by decide +kernel
theorem dX6_ends_91 : decode cX6_ends 91 = .ok (.iastore, 1) := by decide +kernel
theorem dX6_ends_92 : decode cX6_ends 92 = .ok (.iconst 0, 1) := by decide +kernel
theorem dX6_ends_93 : decode cX6_ends 93 = .ok (.istore_n 3, 1) := by decide +kernel
theorem dX6_ends_94 : decode cX6_ends 94 = .ok (.iload_n 3, 1) := by decide +kernel
theorem dX6_ends_95 : decode cX6_ends 95 = .ok (.bipush 6, 2) := by decide +kernel
theorem dX6_ends_97 : decode cX6_ends 97 = .ok (.if_icmp .ge 21, 3) := by decide +kernel
theorem dX6_ends_100 : decode cX6_ends 100 = .ok (.aload_n 0, 1) := by decide +kernel
theorem dX6_ends_101 : decode cX6_ends 101 = .ok (.getfield 60, 3) := by decide +kernel
theorem dX6_ends_104 : decode cX6_ends 104 = .ok (.bipush 6, 2) := by decide +kernel
theorem dX6_ends_106 : decode cX6_ends 106 = .ok (.iload_n 1, 1) := by decide +kernel
theorem dX6_ends_107 : decode cX6_ends 107 = .ok (.imul, 1) := by decide +kernel
theorem dX6_ends_108 : decode cX6_ends 108 = .ok (.iload_n 3, 1) := by decide +kernel
theorem dX6_ends_109 : decode cX6_ends 109 = .ok (.iadd, 1) := by decide +kernel
theorem dX6_ends_110 : decode cX6_ends 110 = .ok (.iconst (-1), 1) := by decide +kernel
theorem dX6_ends_111 : decode cX6_ends 111 = .ok (.iastore, 1) := by decide +kernel
theorem dX6_ends_112 : decode cX6_ends 112 = .ok (.iinc 3 1, 3) := by decide +kernel
theorem dX6_ends_115 : decode cX6_ends 115 = .ok (.goto (-21), 3) := by decide +kernel
theorem dX6_ends_118 : decode cX6_ends 118 = .ok (.aload_n 0, 1) := by decide +kernel
theorem dX6_ends_119 : decode cX6_ends 119 = .ok (.getfield 48, 3) := by decide +kernel
theorem dX6_ends_122 : decode cX6_ends 122 = .ok (.iload_n 1, 1) := by decide +kernel
theorem dX6_ends_123 : decode cX6_ends 123 = .ok (.iaload, 1) := by decide +kernel
theorem dX6_ends_124 : decode cX6_ends 124 = .ok (.iconst 4, 1) := by decide +kernel
theorem dX6_ends_125 : decode cX6_ends 125 = .ok (.if_icmp .ne 102, 3) := by decide +kernel
theorem dX6_ends_128 : decode cX6_ends 128 = .ok (.aload_n 0, 1) := by decide +kernel
theorem dX6_ends_129 : decode cX6_ends 129 = .ok (.getfield 27, 3) := by decide +kernel
theorem dX6_ends_132 : decode cX6_ends 132 = .ok (.iload_n 1, 1) := by decide +kernel
theorem dX6_ends_133 : decode cX6_ends 133 = .ok (.iconst 3, 1) := by decide +kernel
theorem dX6_ends_134 : decode cX6_ends 134 = .ok (.iastore, 1) := by decide +kernel
theorem dX6_ends_135 : decode cX6_ends 135 = .ok (.aload_n 0, 1) := by decide +kernel
theorem dX6_ends_136 : decode cX6_ends 136 = .ok (.getfield 24, 3) := by decide +kernel
theorem dX6_ends_139 : decode cX6_ends 139 = .ok (.aload_n 0, 1) := by decide +kernel
theorem dX6_ends_140 : decode cX6_ends 140 = .ok (.getfield 42, 3) := by decide +kernel
theorem dX6_ends_143 : decode cX6_ends 143 = .ok (.iload_n 1, 1) := by decide +kernel
theorem dX6_ends_144 : decode cX6_ends 144 = .ok (.iaload, 1) := by decide +kernel
theorem dX6_ends_145 : decode cX6_ends 145 = .ok (.iconst (-1), 1) := by decide +kernel
theorem dX6_ends_146 : decode cX6_ends 146 = .ok (.iastore, 1) := by decide +kernel
theorem dX6_ends_147 : decode cX6_ends 147 = .ok (.aload_n 0, 1) := by decide +kernel
theorem dX6_ends_148 : decode cX6_ends 148 = .ok (.getfield 63, 3) := by decide +kernel
theorem dX6_ends_151 : decode cX6_ends 151 = .ok (.aload_n 0, 1) := by decide +kernel
theorem dX6_ends_152 : decode cX6_ends 152 = .ok (.getfield 30, 3) := by decide +kernel
theorem dX6_ends_155 : decode cX6_ends 155 = .ok (.iload_n 1, 1) := by decide +kernel
theorem dX6_ends_156 : decode cX6_ends 156 = .ok (.iaload, 1) := by decide +kernel
theorem dX6_ends_157 : decode cX6_ends 157 = .ok (.dup2, 1) := by decide +kernel
theorem dX6_ends_158 : decode cX6_ends 158 = .ok (.iaload, 1) := by decide +kernel
theorem dX6_ends_159 : decode cX6_ends 159 = .ok (.aload_n 0, 1) := by decide +kernel
theorem dX6_ends_160 : decode cX6_ends 160 = .ok (.getfield 45, 3) := by decide +kernel
theorem dX6_ends_163 : decode cX6_ends 163 = .ok (.iconst 2, 1) := by decide +kernel
theorem dX6_ends_164 : decode cX6_ends 164 = .ok (.iload_n 1, 1) := by decide +kernel
theorem dX6_ends_165 : decode cX6_ends 165 = .ok (.imul, 1) := by decide +kernel
theorem dX6_ends_166 : decode cX6_ends 166 = .ok (.iaload, 1) := by decide +kernel
theorem dX6_ends_167 : decode cX6_ends 167 = .ok (.aload_n 0, 1) := by decide +kernel
theorem dX6_ends_168 : decode cX6_ends 168 = .ok (.getfield 45, 3) := by decide +kernel
theorem dX6_ends_171 : decode cX6_ends 171 = .ok (.iconst 2, 1) := by decide +kernel
theorem dX6_ends_172 : decode cX6_ends 172 = .ok (.iload_n 1, 1) := by decide +kernel
theorem dX6_ends_173 : decode cX6_ends 173 = .ok (.imul, 1) := by decide +kernel
theorem dX6_ends_174 : decode cX6_ends 174 = .ok (.iconst 1, 1) := by decide +kernel
theorem dX6_ends_175 : decode cX6_ends 175 = .ok (.iadd, 1) := by decide +kernel
theorem dX6_ends_176 : decode cX6_ends 176 = .ok (.iaload, 1) := by decide +kernel
theorem dX6_ends_177 : decode cX6_ends 177 = .ok (.if_icmp .le 7, 3) := by decide +kernel
theorem dX6_ends_180 : decode cX6_ends 180 = .ok (.iconst 1, 1) := by decide +kernel
theorem dX6_ends_181 : decode cX6_ends 181 = .ok (.goto 4, 3) := by decide +kernel
theorem dX6_ends_184 : decode cX6_ends 184 = .ok (.iconst 0, 1) := by decide +kernel
theorem dX6_ends_185 : decode cX6_ends 185 = .ok (.iadd, 1) := by decide +kernel
theorem dX6_ends_186 : decode cX6_ends 186 = .ok (.iastore, 1) := by decide +kernel
theorem dX6_ends_187 : decode cX6_ends 187 = .ok (.aload_n 0, 1) := by decide +kernel
theorem dX6_ends_188 : decode cX6_ends 188 = .ok (.getfield 63, 3) := by decide +kernel
theorem dX6_ends_191 : decode cX6_ends 191 = .ok (.aload_n 0, 1) := by decide +kernel
theorem dX6_ends_192 : decode cX6_ends 192 = .ok (.getfield 33, 3) := by decide +kernel
theorem dX6_ends_195 : decode cX6_ends 195 = .ok (.iload_n 1, 1) := by decide +kernel
theorem dX6_ends_196 : decode cX6_ends 196 = .ok (.iaload, 1) := by decide +kernel
theorem dX6_ends_197 : decode cX6_ends 197 = .ok (.dup2, 1) := by decide +kernel
theorem dX6_ends_198 : decode cX6_ends 198 = .ok (.iaload, 1) := by decide +kernel
theorem dX6_ends_199 : decode cX6_ends 199 = .ok (.aload_n 0, 1) := by decide +kernel
theorem dX6_ends_200 : decode cX6_ends 200 = .ok (.getfield 45, 3) := by decide +kernel
theorem dX6_ends_203 : decode cX6_ends 203 = .ok (.iconst 2, 1) := by decide +kernel
theorem dX6_ends_204 : decode cX6_ends 204 = .ok (.iload_n 1, 1) := by decide +kernel
theorem dX6_ends_205 : decode cX6_ends 205 = .ok (.imul, 1) := by decide +kernel
theorem dX6_ends_206 : decode cX6_ends 206 = .ok (.iaload, 1) := by decide +kernel
theorem dX6_ends_207 : decode cX6_ends 207 = .ok (.aload_n 0, 1) := by decide +kernel
theorem dX6_ends_208 : decode cX6_ends 208 = .ok (.getfield 45, 3) := by decide +kernel
theorem dX6_ends_211 : decode cX6_ends 211 = .ok (.iconst 2, 1) := by decide +kernel
theorem dX6_ends_212 : decode cX6_ends 212 = .ok (.iload_n 1, 1) := by decide +kernel
theorem dX6_ends_213 : decode cX6_ends 213 = .ok (.imul, 1) := by decide +kernel
theorem dX6_ends_214 : decode cX6_ends 214 = .ok (.iconst 1, 1) := by decide +kernel
theorem dX6_ends_215 : decode cX6_ends 215 = .ok (.iadd, 1) := by decide +kernel
theorem dX6_ends_216 : decode cX6_ends 216 = .ok (.iaload, 1) := by decide +kernel
theorem dX6_ends_217 : decode cX6_ends 217 = .ok (.if_icmp .ge 7, 3) := by decide +kernel
theorem dX6_ends_220 : decode cX6_ends 220 = .ok (.iconst 1, 1) := by decide +kernel
theorem dX6_ends_221 : decode cX6_ends 221 = .ok (.goto 4, 3) := by decide +kernel
theorem dX6_ends_224 : decode cX6_ends 224 = .ok (.iconst 0, 1) := by decide +kernel
theorem dX6_ends_225 : decode cX6_ends 225 = .ok (.iadd, 1) := by decide +kernel
theorem dX6_ends_226 : decode cX6_ends 226 = .ok (.iastore, 1) := by decide +kernel
theorem dX6_ends_227 : decode cX6_ends 227 = .ok (.return_, 1) := by decide +kernel
theorem dX6_shoot_0 : decode cX6_shoot 0 = .ok (.aload_n 0, 1) := by decide +kernel
theorem dX6_shoot_1 : decode cX6_shoot 1 = .ok (.iload_n 1, 1) := by decide +kernel
theorem dX6_shoot_2 : decode cX6_shoot 2 = .ok (.invokevirtual 126, 3) := by decide +kernel
theorem dX6_shoot_5 : decode cX6_shoot 5 = .ok (.istore 7, 2) := by decide +kernel
theorem dX6_shoot_7 : decode cX6_shoot 7 = .ok (.aload_n 0, 1) := by decide +kernel
theorem dX6_shoot_8 : decode cX6_shoot 8 = .ok (.iload 7, 2) := by decide +kernel
theorem dX6_shoot_10 : decode cX6_shoot 10 = .ok (.iload_n 2, 1) := by decide +kernel
theorem dX6_shoot_11 : decode cX6_shoot 11 = .ok (.iload_n 3, 1) := by decide +kernel
theorem dX6_shoot_12 : decode cX6_shoot 12 = .ok (.iload 4, 2) := by decide +kernel
theorem dX6_shoot_14 : decode cX6_shoot 14 = .ok (.iload 5, 2) := by decide +kernel
theorem dX6_shoot_16 : decode cX6_shoot 16 = .ok (.iload 6, 2) := by decide +kernel
theorem dX6_shoot_18 : decode cX6_shoot 18 = .ok (.invokestatic 129, 3) := by decide +kernel
theorem dX6_shoot_21 : decode cX6_shoot 21 = .ok (.iload 7, 2) := by decide +kernel
theorem dX6_shoot_23 : decode cX6_shoot 23 = .ok (.ifCond .eq 15, 3) := by decide +kernel
theorem dX6_shoot_26 : decode cX6_shoot 26 = .ok (.aload_n 0, 1) := by decide +kernel
theorem dX6_shoot_27 : decode cX6_shoot 27 = .ok (.iload_n 1, 1) := by decide +kernel
theorem dX6_shoot_28 : decode cX6_shoot 28 = .ok (.invokevirtual 133, 3) := by decide +kernel
theorem dX6_shoot_31 : decode cX6_shoot 31 = .ok (.ifCond .eq 7, 3) := by decide +kernel
theorem dX6_shoot_34 : decode cX6_shoot 34 = .ok (.iconst 1, 1) := by decide +kernel
theorem dX6_shoot_35 : decode cX6_shoot 35 = .ok (.goto 4, 3) := by decide +kernel
theorem dX6_shoot_38 : decode cX6_shoot 38 = .ok (.iconst 0, 1) := by decide +kernel
theorem dX6_shoot_39 : decode cX6_shoot 39 = .ok (.invokevirtual 104, 3) := by decide +kernel
theorem dX6_shoot_42 : decode cX6_shoot 42 = .ok (.ifCond .ne 5, 3) := by decide +kernel
theorem dX6_shoot_45 : decode cX6_shoot 45 = .ok (.iconst 0, 1) := by decide +kernel
theorem dX6_shoot_46 : decode cX6_shoot 46 = .ok (.ireturn, 1) := by decide +kernel
theorem dX6_shoot_47 : decode cX6_shoot 47 = .ok (.aload_n 0, 1) := by decide +kernel
theorem dX6_shoot_48 : decode cX6_shoot 48 = .ok (.iload_n 1, 1) := by decide +kernel
theorem dX6_shoot_49 : decode cX6_shoot 49 = .ok (.invokevirtual 136, 3) := by decide +kernel
theorem dX6_shoot_52 : decode cX6_shoot 52 = .ok (.aload_n 0, 1) := by decide +kernel
theorem dX6_shoot_53 : decode cX6_shoot 53 = .ok (.iload_n 1, 1) := by decide +kernel
theorem dX6_shoot_54 : decode cX6_shoot 54 = .ok (.invokevirtual 140, 3) := by decide +kernel
theorem dX6_shoot_57 : decode cX6_shoot 57 = .ok (.istore 8, 2) := by decide +kernel
theorem dX6_shoot_59 : decode cX6_shoot 59 = .ok (.aload_n 0, 1) := by decide +kernel
theorem dX6_shoot_60 : decode cX6_shoot 60 = .ok (.iload 8, 2) := by decide +kernel
theorem dX6_shoot_62 : decode cX6_shoot 62 = .ok (.iload_n 2, 1) := by decide +kernel
theorem dX6_shoot_63 : decode cX6_shoot 63 = .ok (.iload_n 3, 1) := by decide +kernel
theorem dX6_shoot_64 : decode cX6_shoot 64 = .ok (.iload 4, 2) := by decide +kernel
theorem dX6_shoot_66 : decode cX6_shoot 66 = .ok (.iload 5, 2) := by decide +kernel
theorem dX6_shoot_68 : decode cX6_shoot 68 = .ok (.iload 6, 2) := by decide +kernel
theorem dX6_shoot_70 : decode cX6_shoot 70 = .ok (.invokevirtual 143, 3) := by decide +kernel
theorem dX6_shoot_73 : decode cX6_shoot 73 = .ok (.iconst 0, 1) := by decide +kernel
theorem dX6_shoot_74 : decode cX6_shoot 74 = .ok (.istore 9, 2) := by decide +kernel
theorem dX6_shoot_76 : decode cX6_shoot 76 = .ok (.iload 9, 2) := by decide +kernel
theorem dX6_shoot_78 : decode cX6_shoot 78 = .ok (.sipush 549, 3) := by decide +kernel
theorem dX6_shoot_81 : decode cX6_shoot 81 = .ok (.if_icmp .ge 34, 3) := by decide +kernel
theorem dX6_shoot_84 : decode cX6_shoot 84 = .ok (.aload_n 0, 1) := by decide +kernel
theorem dX6_shoot_85 : decode cX6_shoot 85 = .ok (.getfield 16, 3) := by decide +kernel
theorem dX6_shoot_88 : decode cX6_shoot 88 = .ok (.sipush 549, 3) := by decide +kernel
theorem dX6_shoot_91 : decode cX6_shoot 91 = .ok (.aload_n 0, 1) := by decide +kernel
theorem dX6_shoot_92 : decode cX6_shoot 92 = .ok (.getfield 42, 3) := by decide +kernel
theorem dX6_shoot_95 : decode cX6_shoot 95 = .ok (.iload_n 1, 1) := by decide +kernel
theorem dX6_shoot_96 : decode cX6_shoot 96 = .ok (.iaload, 1) := by decide +kernel
theorem dX6_shoot_97 : decode cX6_shoot 97 = .ok (.imul, 1) := by decide +kernel
theorem dX6_shoot_98 : decode cX6_shoot 98 = .ok (.iload 9, 2) := by decide +kernel
theorem dX6_shoot_100 : decode cX6_shoot 100 = .ok (.iadd, 1) := by decide +kernel
theorem dX6_shoot_101 : decode cX6_shoot 101 = .ok (.aload_n 0, 1) := by decide +kernel
theorem dX6_shoot_102 : decode cX6_shoot 102 = .ok (.getfield 72, 3) := by decide +kernel
theorem dX6_shoot_105 : decode cX6_shoot 105 = .ok (.iload 9, 2) := by decide +kernel
theorem dX6_shoot_107 : decode cX6_shoot 107 = .ok (.iaload, 1) := by decide +kernel
theorem dX6_shoot_108 : decode cX6_shoot 108 = .ok (.iastore, 1) := by decide +kernel
theorem dX6_shoot_109 : decode cX6_shoot 109 = .ok (.iinc 9 1, 3) := by decide +kernel
theorem dX6_shoot_112 : decode cX6_shoot 112 = .ok (.goto (-36), 3) := by decide +kernel
theorem dX6_shoot_115 : decode cX6_shoot 115 = .ok (.aload_n 0, 1) := by decide +kernel
theorem dX6_shoot_116 : decode cX6_shoot 116 = .ok (.getfield 75, 3) := by decide +kernel
theorem dX6_shoot_119 : decode cX6_shoot 119 = .ok (.iload 8, 2) := by decide +kernel
theorem dX6_shoot_121 : decode cX6_shoot 121 = .ok (.iaload, 1) := by decide +kernel
theorem dX6_shoot_122 : decode cX6_shoot 122 = .ok (.istore 9, 2) := by decide +kernel
theorem dX6_shoot_124 : decode cX6_shoot 124 = .ok (.aload_n 0, 1) := by decide +kernel
theorem dX6_shoot_125 : decode cX6_shoot 125 = .ok (.iload_n 1, 1) := by decide +kernel
theorem dX6_shoot_126 : decode cX6_shoot 126 = .ok (.invokevirtual 119, 3) := by decide +kernel
theorem dX6_shoot_129 : decode cX6_shoot 129 = .ok (.ifCond .ne 12, 3) := by decide +kernel
theorem dX6_shoot_132 : decode cX6_shoot 132 = .ok (.aload_n 0, 1) := by decide +kernel
theorem dX6_shoot_133 : decode cX6_shoot 133 = .ok (.getfield 30, 3) := by decide +kernel
theorem dX6_shoot_136 : decode cX6_shoot 136 = .ok (.iload_n 1, 1) := by decide +kernel
theorem dX6_shoot_137 : decode cX6_shoot 137 = .ok (.iaload, 1) := by decide +kernel
theorem dX6_shoot_138 : decode cX6_shoot 138 = .ok (.goto 9, 3) := by decide +kernel
theorem dX6_shoot_141 : decode cX6_shoot 141 = .ok (.aload_n 0, 1) := by decide +kernel
theorem dX6_shoot_142 : decode cX6_shoot 142 = .ok (.getfield 33, 3) := by decide +kernel
theorem dX6_shoot_145 : decode cX6_shoot 145 = .ok (.iload_n 1, 1) := by decide +kernel
theorem dX6_shoot_146 : decode cX6_shoot 146 = .ok (.iaload, 1) := by decide +kernel
theorem dX6_shoot_147 : decode cX6_shoot 147 = .ok (.istore 10, 2) := by decide +kernel
theorem dX6_shoot_149 : decode cX6_shoot 149 = .ok (.aload_n 0, 1) := by decide +kernel
theorem dX6_shoot_150 : decode cX6_shoot 150 = .ok (.getfield 51, 3) := by decide +kernel
theorem dX6_shoot_153 : decode cX6_shoot 153 = .ok (.iload_n 1, 1) := by decide +kernel
theorem dX6_shoot_154 : decode cX6_shoot 154 = .ok (.dup2, 1) := by decide +kernel
theorem dX6_shoot_155 : decode cX6_shoot 155 = .ok (.iaload, 1) := by decide +kernel
theorem dX6_shoot_156 : decode cX6_shoot 156 = .ok (.iconst 1, 1) := by decide +kernel
theorem dX6_shoot_157 : decode cX6_shoot 157 = .ok (.iadd, 1) := by decide +kernel
theorem dX6_shoot_158 : decode cX6_shoot 158 = .ok (.iastore, 1) := by decide +kernel
theorem dX6_shoot_159 : decode cX6_shoot 159 = .ok (.aload_n 0, 1) := by decide +kernel
theorem dX6_shoot_160 : decode cX6_shoot 160 = .ok (.getfield 27, 3) := by decide +kernel
theorem dX6_shoot_163 : decode cX6_shoot 163 = .ok (.iload_n 1, 1) := by decide +kernel
theorem dX6_shoot_164 : decode cX6_shoot 164 = .ok (.iaload, 1) := by decide +kernel
theorem dX6_shoot_165 : decode cX6_shoot 165 = .ok (.iconst 1, 1) := by decide +kernel
theorem dX6_shoot_166 : decode cX6_shoot 166 = .ok (.if_icmp .ne 126, 3) := by decide +kernel
theorem dX6_shoot_169 : decode cX6_shoot 169 = .ok (.iload 9, 2) := by decide +kernel
theorem dX6_shoot_171 : decode cX6_shoot 171 = .ok (.invokestatic 115, 3) := by decide +kernel
theorem dX6_shoot_174 : decode cX6_shoot 174 = .ok (.bipush 30, 2) := by decide +kernel
theorem dX6_shoot_176 : decode cX6_shoot 176 = .ok (.if_icmp .ge 11, 3) := by decide +kernel
theorem dX6_shoot_179 : decode cX6_shoot 179 = .ok (.iload 9, 2) := by decide +kernel
theorem dX6_shoot_181 : decode cX6_shoot 181 = .ok (.invokestatic 115, 3) := by decide +kernel
theorem dX6_shoot_184 : decode cX6_shoot 184 = .ok (.goto 5, 3) := by decide +kernel
theorem dX6_shoot_187 : decode cX6_shoot 187 = .ok (.bipush 30, 2) := by decide +kernel
theorem dX6_shoot_189 : decode cX6_shoot 189 = .ok (.istore 11, 2) := by decide +kernel
theorem dX6_shoot_191 : decode cX6_shoot 191 = .ok (.aload_n 0, 1) := by decide +kernel
theorem dX6_shoot_192 : decode cX6_shoot 192 = .ok (.getfield 66, 3) := by decide +kernel
theorem dX6_shoot_195 : decode cX6_shoot 195 = .ok (.iload 10, 2) := by decide +kernel
theorem dX6_shoot_197 : decode cX6_shoot 197 = .ok (.dup2, 1) := by decide +kernel
theorem dX6_shoot_198 : decode cX6_shoot 198 = .ok (.iaload, 1) := by decide +kernel
theorem dX6_shoot_199 : decode cX6_shoot 199 = .ok (.iconst 1, 1) := by decide +kernel
theorem dX6_shoot_200 : decode cX6_shoot 200 = .ok (.iadd, 1) := by decide +kernel
theorem dX6_shoot_201 : decode cX6_shoot 201 = .ok (.iastore, 1) := by decide +kernel
theorem dX6_shoot_202 : decode cX6_shoot 202 = .ok (.aload_n 0, 1) := by decide +kernel
theorem dX6_shoot_203 : decode cX6_shoot 203 = .ok (.getfield 69, 3) := by decide +kernel
theorem dX6_shoot_206 : decode cX6_shoot 206 = .ok (.iload 10, 2) := by decide +kernel
theorem dX6_shoot_208 : decode cX6_shoot 208 = .ok (.dup2, 1) := by decide +kernel
theorem dX6_shoot_209 : decode cX6_shoot 209 = .ok (.iaload, 1) := by decide +kernel
theorem dX6_shoot_210 : decode cX6_shoot 210 = .ok (.iload 11, 2) := by decide +kernel
theorem dX6_shoot_212 : decode cX6_shoot 212 = .ok (.iadd, 1) := by decide +kernel
theorem dX6_shoot_213 : decode cX6_shoot 213 = .ok (.iastore, 1) := by decide +kernel
theorem dX6_shoot_214 : decode cX6_shoot 214 = .ok (.aload_n 0, 1) := by decide +kernel
theorem dX6_shoot_215 : decode cX6_shoot 215 = .ok (.getfield 54, 3) := by decide +kernel
theorem dX6_shoot_218 : decode cX6_shoot 218 = .ok (.iload_n 1, 1) := by decide +kernel
theorem dX6_shoot_219 : decode cX6_shoot 219 = .ok (.aload_n 0, 1) := by decide +kernel
theorem dX6_shoot_220 : decode cX6_shoot 220 = .ok (.getfield 51, 3) := by decide +kernel
theorem dX6_shoot_223 : decode cX6_shoot 223 = .ok (.iload_n 1, 1) := by decide +kernel
theorem dX6_shoot_224 : decode cX6_shoot 224 = .ok (.iaload, 1) := by decide +kernel
theorem dX6_shoot_225 : decode cX6_shoot 225 = .ok (.iconst 2, 1) := by decide +kernel
theorem dX6_shoot_226 : decode cX6_shoot 226 = .ok (.if_icmp .ne 18, 3) := by decide +kernel
theorem dX6_shoot_229 : decode cX6_shoot 229 = .ok (.aload_n 0, 1) := by decide +kernel
theorem dX6_shoot_230 : decode cX6_shoot 230 = .ok (.getfield 57, 3) := by decide +kernel
theorem dX6_shoot_233 : decode cX6_shoot 233 = .ok (.iload_n 1, 1) := by decide +kernel
theorem dX6_shoot_234 : decode cX6_shoot 234 = .ok (.iaload, 1) := by decide +kernel
theorem dX6_shoot_235 : decode cX6_shoot 235 = .ok (.iload 11, 2) := by decide +kernel
theorem dX6_shoot_237 : decode cX6_shoot 237 = .ok (.if_icmp .ge 7, 3) := by decide +kernel
theorem dX6_shoot_240 : decode cX6_shoot 240 = .ok (.iconst 0, 1) := by decide +kernel
theorem dX6_shoot_241 : decode cX6_shoot 241 = .ok (.goto 4, 3) := by decide +kernel
theorem dX6_shoot_244 : decode cX6_shoot 244 = .ok (.iconst 1, 1) := by decide +kernel
theorem dX6_shoot_245 : decode cX6_shoot 245 = .ok (.iastore, 1) := by decide +kernel
theorem dX6_shoot_246 : decode cX6_shoot 246 = .ok (.aload_n 0, 1) := by decide +kernel
theorem dX6_shoot_247 : decode cX6_shoot 247 = .ok (.getfield 57, 3) := by decide +kernel
theorem dX6_shoot_250 : decode cX6_shoot 250 = .ok (.iload_n 1, 1) := by decide +kernel
theorem dX6_shoot_251 : decode cX6_shoot 251 = .ok (.iload 11, 2) := by decide +kernel
theorem dX6_shoot_253 : decode cX6_shoot 253 = .ok (.iastore, 1) := by decide +kernel
theorem dX6_shoot_254 : decode cX6_shoot 254 = .ok (.aload_n 0, 1) := by decide +kernel
theorem dX6_shoot_255 : decode cX6_shoot 255 = .ok (.getfield 27, 3) := by decide +kernel
theorem dX6_shoot_258 : decode cX6_shoot 258 = .ok (.iload_n 1, 1) := by decide +kernel
theorem dX6_shoot_259 : decode cX6_shoot 259 = .ok (.aload_n 0, 1) := by decide +kernel
theorem dX6_shoot_260 : decode cX6_shoot 260 = .ok (.getfield 51, 3) := by decide +kernel
theorem dX6_shoot_263 : decode cX6_shoot 263 = .ok (.iload_n 1, 1) := by decide +kernel
theorem dX6_shoot_264 : decode cX6_shoot 264 = .ok (.iaload, 1) := by decide +kernel
theorem dX6_shoot_265 : decode cX6_shoot 265 = .ok (.iconst 2, 1) := by decide +kernel
theorem dX6_shoot_266 : decode cX6_shoot 266 = .ok (.if_icmp .ne 7, 3) := by decide +kernel
theorem dX6_shoot_269 : decode cX6_shoot 269 = .ok (.iconst 2, 1) := by decide +kernel
theorem dX6_shoot_270 : decode cX6_shoot 270 = .ok (.goto 4, 3) := by decide +kernel
theorem dX6_shoot_273 : decode cX6_shoot 273 = .ok (.iconst 1, 1) := by decide +kernel
theorem dX6_shoot_274 : decode cX6_shoot 274 = .ok (.iastore, 1) := by decide +kernel
theorem dX6_shoot_275 : decode cX6_shoot 275 = .ok (.aload_n 0, 1) := by decide +kernel
theorem dX6_shoot_276 : decode cX6_shoot 276 = .ok (.getfield 51, 3) := by decide +kernel
theorem dX6_shoot_279 : decode cX6_shoot 279 = .ok (.iload_n 1, 1) := by decide +kernel
theorem dX6_shoot_280 : decode cX6_shoot 280 = .ok (.aload_n 0, 1) := by decide +kernel
theorem dX6_shoot_281 : decode cX6_shoot 281 = .ok (.getfield 51, 3) := by decide +kernel
theorem dX6_shoot_284 : decode cX6_shoot 284 = .ok (.iload_n 1, 1) := by decide +kernel
theorem dX6_shoot_285 : decode cX6_shoot 285 = .ok (.iaload, 1) := by decide +kernel
theorem dX6_shoot_286 : decode cX6_shoot 286 = .ok (.iconst 2, 1) := by decide +kernel
theorem dX6_shoot_287 : decode cX6_shoot 287 = .ok (.irem, 1) := by decide +kernel
theorem dX6_shoot_288 : decode cX6_shoot 288 = .ok (.iastore, 1) := by decide +kernel
theorem dX6_shoot_289 : decode cX6_shoot 289 = .ok (.iload 9, 2) := by decide +kernel
theorem dX6_shoot_291 : decode cX6_shoot 291 = .ok (.ireturn, 1) := by decide +kernel
theorem dX6_shoot_292 : decode cX6_shoot 292 = .ok (.iconst 0, 1) := by decide +kernel
theorem dX6_shoot_293 : decode cX6_shoot 293 = .ok (.istore 11, 2) := by decide +kernel
theorem dX6_shoot_295 : decode cX6_shoot 295 = .ok (.iload 11, 2) := by decide +kernel
theorem dX6_shoot_297 : decode cX6_shoot 297 = .ok (.bipush 6, 2) := by decide +kernel
theorem dX6_shoot_299 : decode cX6_shoot 299 = .ok (.if_icmp .ge 28, 3) := by decide +kernel
theorem dX6_shoot_302 : decode cX6_shoot 302 = .ok (.aload_n 0, 1) := by decide +kernel
theorem dX6_shoot_303 : decode cX6_shoot 303 = .ok (.getfield 60, 3) := by decide +kernel
theorem dX6_shoot_306 : decode cX6_shoot 306 = .ok (.bipush 6, 2) := by decide +kernel
theorem dX6_shoot_308 : decode cX6_shoot 308 = .ok (.iload_n 1, 1) := by decide +kernel
theorem dX6_shoot_309 : decode cX6_shoot 309 = .ok (.imul, 1) := by decide +kernel
theorem dX6_shoot_310 : decode cX6_shoot 310 = .ok (.iload 11, 2) := by decide +kernel
theorem dX6_shoot_312 : decode cX6_shoot 312 = .ok (.iadd, 1) := by decide +kernel
theorem dX6_shoot_313 : decode cX6_shoot 313 = .ok (.aload_n 0, 1) := by decide +kernel
theorem dX6_shoot_314 : decode cX6_shoot 314 = .ok (.getfield 75, 3) := by decide +kernel
theorem dX6_shoot_317 : decode cX6_shoot 317 = .ok (.iload 11, 2) := by decide +kernel
theorem dX6_shoot_319 : decode cX6_shoot 319 = .ok (.iaload, 1) := by decide +kernel
theorem dX6_shoot_320 : decode cX6_shoot 320 = .ok (.iastore, 1) := by decide +kernel
theorem dX6_shoot_321 : decode cX6_shoot 321 = .ok (.iinc 11 1, 3) := by decide +kernel
theorem dX6_shoot_324 : decode cX6_shoot 324 = .ok (.goto (-29), 3) := by decide +kernel
theorem dX6_shoot_327 : decode cX6_shoot 327 = .ok (.aload_n 0, 1) := by decide +kernel
theorem dX6_shoot_328 : decode cX6_shoot 328 = .ok (.getfield 51, 3) := by decide +kernel
theorem dX6_shoot_331 : decode cX6_shoot 331 = .ok (.iload_n 1, 1) := by decide +kernel
theorem dX6_shoot_332 : decode cX6_shoot 332 = .ok (.iaload, 1) := by decide +kernel
theorem dX6_shoot_333 : decode cX6_shoot 333 = .ok (.bipush 6, 2) := by decide +kernel
theorem dX6_shoot_335 : decode cX6_shoot 335 = .ok (.if_icmp .ne 8, 3) := by decide +kernel
theorem dX6_shoot_338 : decode cX6_shoot 338 = .ok (.aload_n 0, 1) := by decide +kernel
theorem dX6_shoot_339 : decode cX6_shoot 339 = .ok (.iload_n 1, 1) := by decide +kernel
theorem dX6_shoot_340 : decode cX6_shoot 340 = .ok (.invokevirtual 147, 3) := by decide +kernel
theorem dX6_shoot_343 : decode cX6_shoot 343 = .ok (.iload 9, 2) := by decide +kernel
theorem dX6_shoot_345 : decode cX6_shoot 345 = .ok (.ireturn, 1) := by decide +kernel
theorem dX6_tries_0 : decode cX6_tries 0 = .ok (.aload_n 0, 1) := by decide +kernel
theorem dX6_tries_1 : decode cX6_tries 1 = .ok (.iload_n 1, 1) := by decide +kernel
theorem dX6_tries_2 : decode cX6_tries 2 = .ok (.invokevirtual 126, 3) := by decide +kernel
theorem dX6_tries_5 : decode cX6_tries 5 = .ok (.istore 7, 2) := by decide +kernel
theorem dX6_tries_7 : decode cX6_tries 7 = .ok (.aload_n 0, 1) := by decide +kernel
theorem dX6_tries_8 : decode cX6_tries 8 = .ok (.iload 7, 2) := by decide +kernel
theorem dX6_tries_10 : decode cX6_tries 10 = .ok (.iload_n 2, 1) := by decide +kernel
theorem dX6_tries_11 : decode cX6_tries 11 = .ok (.iload_n 3, 1) := by decide +kernel
theorem dX6_tries_12 : decode cX6_tries 12 = .ok (.iload 4, 2) := by decide +kernel
theorem dX6_tries_14 : decode cX6_tries 14 = .ok (.iload 5, 2) := by decide +kernel
theorem dX6_tries_16 : decode cX6_tries 16 = .ok (.iload 6, 2) := by decide +kernel
theorem dX6_tries_18 : decode cX6_tries 18 = .ok (.invokestatic 129, 3) := by decide +kernel
theorem dX6_tries_21 : decode cX6_tries 21 = .ok (.iload 7, 2) := by decide +kernel
theorem dX6_tries_23 : decode cX6_tries 23 = .ok (.ifCond .eq 15, 3) := by decide +kernel
theorem dX6_tries_26 : decode cX6_tries 26 = .ok (.aload_n 0, 1) := by decide +kernel
theorem dX6_tries_27 : decode cX6_tries 27 = .ok (.iload_n 1, 1) := by decide +kernel
theorem dX6_tries_28 : decode cX6_tries 28 = .ok (.invokevirtual 133, 3) := by decide +kernel
theorem dX6_tries_31 : decode cX6_tries 31 = .ok (.ifCond .eq 7, 3) := by decide +kernel
theorem dX6_tries_34 : decode cX6_tries 34 = .ok (.iconst 1, 1) := by decide +kernel
theorem dX6_tries_35 : decode cX6_tries 35 = .ok (.goto 4, 3) := by decide +kernel
theorem dX6_tries_38 : decode cX6_tries 38 = .ok (.iconst 0, 1) := by decide +kernel
theorem dX6_tries_39 : decode cX6_tries 39 = .ok (.invokevirtual 104, 3) := by decide +kernel
theorem dX6_tries_42 : decode cX6_tries 42 = .ok (.ifCond .ne 5, 3) := by decide +kernel
theorem dX6_tries_45 : decode cX6_tries 45 = .ok (.iconst 0, 1) := by decide +kernel
theorem dX6_tries_46 : decode cX6_tries 46 = .ok (.ireturn, 1) := by decide +kernel
theorem dX6_tries_47 : decode cX6_tries 47 = .ok (.aload_n 0, 1) := by decide +kernel
theorem dX6_tries_48 : decode cX6_tries 48 = .ok (.iload_n 1, 1) := by decide +kernel
theorem dX6_tries_49 : decode cX6_tries 49 = .ok (.invokevirtual 136, 3) := by decide +kernel
theorem dX6_tries_52 : decode cX6_tries 52 = .ok (.aload_n 0, 1) := by decide +kernel
theorem dX6_tries_53 : decode cX6_tries 53 = .ok (.iload_n 1, 1) := by decide +kernel
theorem dX6_tries_54 : decode cX6_tries 54 = .ok (.invokevirtual 140, 3) := by decide +kernel
theorem dX6_tries_57 : decode cX6_tries 57 = .ok (.istore 8, 2) := by decide +kernel
theorem dX6_tries_59 : decode cX6_tries 59 = .ok (.aload_n 0, 1) := by decide +kernel
theorem dX6_tries_60 : decode cX6_tries 60 = .ok (.iload 8, 2) := by decide +kernel
theorem dX6_tries_62 : decode cX6_tries 62 = .ok (.iload_n 2, 1) := by decide +kernel
theorem dX6_tries_63 : decode cX6_tries 63 = .ok (.iload_n 3, 1) := by decide +kernel
theorem dX6_tries_64 : decode cX6_tries 64 = .ok (.iload 4, 2) := by decide +kernel
theorem dX6_tries_66 : decode cX6_tries 66 = .ok (.iload 5, 2) := by decide +kernel
theorem dX6_tries_68 : decode cX6_tries 68 = .ok (.iload 6, 2) := by decide +kernel
theorem dX6_tries_70 : decode cX6_tries 70 = .ok (.invokevirtual 143, 3) := by decide +kernel
theorem dX6_tries_73 : decode cX6_tries 73 = .ok (.aload_n 0, 1) := by decide +kernel
theorem dX6_tries_74 : decode cX6_tries 74 = .ok (.getfield 75, 3) := by decide +kernel
theorem dX6_tries_77 : decode cX6_tries 77 = .ok (.iload 8, 2) := by decide +kernel
theorem dX6_tries_79 : decode cX6_tries 79 = .ok (.iaload, 1) := by decide +kernel
theorem dX6_tries_80 : decode cX6_tries 80 = .ok (.ireturn, 1) := by decide +kernel
theorem dX6_isFree_0 : decode cX6_isFree 0 = .ok (.aload_n 0, 1) := by decide +kernel
theorem dX6_isFree_1 : decode cX6_isFree 1 = .ok (.getfield 24, 3) := by decide +kernel
theorem dX6_isFree_4 : decode cX6_isFree 4 = .ok (.iload_n 1, 1) := by decide +kernel
theorem dX6_isFree_5 : decode cX6_isFree 5 = .ok (.iaload, 1) := by decide +kernel
theorem dX6_isFree_6 : decode cX6_isFree 6 = .ok (.iconst (-1), 1) := by decide +kernel
theorem dX6_isFree_7 : decode cX6_isFree 7 = .ok (.if_icmp .ne 7, 3) := by decide +kernel
theorem dX6_isFree_10 : decode cX6_isFree 10 = .ok (.iconst 1, 1) := by decide +kernel
theorem dX6_isFree_11 : decode cX6_isFree 11 = .ok (.goto 4, 3) := by decide +kernel
theorem dX6_isFree_14 : decode cX6_isFree 14 = .ok (.iconst 0, 1) := by decide +kernel
theorem dX6_isFree_15 : decode cX6_isFree 15 = .ok (.ireturn, 1) := by decide +kernel
theorem dX6_wanted_0 : decode cX6_wanted 0 = .ok (.iconst (-1), 1) := by decide +kernel
theorem dX6_wanted_1 : decode cX6_wanted 1 = .ok (.istore_n 1, 1) := by decide +kernel
theorem dX6_wanted_2 : decode cX6_wanted 2 = .ok (.iconst 0, 1) := by decide +kernel
theorem dX6_wanted_3 : decode cX6_wanted 3 = .ok (.istore_n 2, 1) := by decide +kernel
theorem dX6_wanted_4 : decode cX6_wanted 4 = .ok (.iconst 0, 1) := by decide +kernel
theorem dX6_wanted_5 : decode cX6_wanted 5 = .ok (.istore_n 3, 1) := by decide +kernel
theorem dX6_wanted_6 : decode cX6_wanted 6 = .ok (.iload_n 3, 1) := by decide +kernel
theorem dX6_wanted_7 : decode cX6_wanted 7 = .ok (.iconst 3, 1) := by decide +kernel
theorem dX6_wanted_8 : decode cX6_wanted 8 = .ok (.if_icmp .ge 112, 3) := by decide +kernel
theorem dX6_wanted_11 : decode cX6_wanted 11 = .ok (.sipush 10099, 3) := by decide +kernel
theorem dX6_wanted_14 : decode cX6_wanted 14 = .ok (.istore 4, 2) := by decide +kernel
theorem dX6_wanted_16 : decode cX6_wanted 16 = .ok (.iconst 0, 1) := by decide +kernel
theorem dX6_wanted_17 : decode cX6_wanted 17 = .ok (.istore 5, 2) := by decide +kernel
theorem dX6_wanted_19 : decode cX6_wanted 19 = .ok (.iload 5, 2) := by decide +kernel
theorem dX6_wanted_21 : decode cX6_wanted 21 = .ok (.aload_n 0, 1) := by decide +kernel
theorem dX6_wanted_22 : decode cX6_wanted 22 = .ok (.getfield 87, 3) := by decide +kernel
theorem dX6_wanted_25 : decode cX6_wanted 25 = .ok (.if_icmp .ge 56, 3) := by decide +kernel
theorem dX6_wanted_28 : decode cX6_wanted 28 = .ok (.aload_n 0, 1) := by decide +kernel
theorem dX6_wanted_29 : decode cX6_wanted 29 = .ok (.getfield 27, 3) := by decide +kernel
theorem dX6_wanted_32 : decode cX6_wanted 32 = .ok (.iload 5, 2) := by decide +kernel
theorem dX6_wanted_34 : decode cX6_wanted 34 = .ok (.iaload, 1) := by decide +kernel
theorem dX6_wanted_35 : decode cX6_wanted 35 = .ok (.ifCond .ne 36, 3) := by decide +kernel
theorem dX6_wanted_38 : decode cX6_wanted 38 = .ok (.aload_n 0, 1) := by decide +kernel
theorem dX6_wanted_39 : decode cX6_wanted 39 = .ok (.getfield 39, 3) := by decide +kernel
theorem dX6_wanted_42 : decode cX6_wanted 42 = .ok (.iload 5, 2) := by decide +kernel
theorem dX6_wanted_44 : decode cX6_wanted 44 = .ok (.iaload, 1) := by decide +kernel
theorem dX6_wanted_45 : decode cX6_wanted 45 = .ok (.iload_n 3, 1) := by decide +kernel
theorem dX6_wanted_46 : decode cX6_wanted 46 = .ok (.if_icmp .ne 25, 3) := by decide +kernel
theorem dX6_wanted_49 : decode cX6_wanted 49 = .ok (.aload_n 0, 1) := by decide +kernel
theorem dX6_wanted_50 : decode cX6_wanted 50 = .ok (.getfield 36, 3) := by decide +kernel
theorem dX6_wanted_53 : decode cX6_wanted 53 = .ok (.iload 5, 2) := by decide +kernel
theorem dX6_wanted_55 : decode cX6_wanted 55 = .ok (.iaload, 1) := by decide +kernel
theorem dX6_wanted_56 : decode cX6_wanted 56 = .ok (.iload 4, 2) := by decide +kernel
theorem dX6_wanted_58 : decode cX6_wanted 58 = .ok (.if_icmp .ge 13, 3) := by decide +kernel
theorem dX6_wanted_61 : decode cX6_wanted 61 = .ok (.aload_n 0, 1) := by decide +kernel
theorem dX6_wanted_62 : decode cX6_wanted 62 = .ok (.getfield 36, 3) := by decide +kernel
theorem dX6_wanted_65 : decode cX6_wanted 65 = .ok (.iload 5, 2) := by decide +kernel
theorem dX6_wanted_67 : decode cX6_wanted 67 = .ok (.iaload, 1) := by decide +kernel
theorem dX6_wanted_68 : decode cX6_wanted 68 = .ok (.goto 5, 3) := by decide +kernel
theorem dX6_wanted_71 : decode cX6_wanted 71 = .ok (.iload 4, 2) := by decide +kernel
theorem dX6_wanted_73 : decode cX6_wanted 73 = .ok (.istore 4, 2) := by decide +kernel
theorem dX6_wanted_75 : decode cX6_wanted 75 = .ok (.iinc 5 1, 3) := by decide +kernel
theorem dX6_wanted_78 : decode cX6_wanted 78 = .ok (.goto (-59), 3) := by decide +kernel
theorem dX6_wanted_81 : decode cX6_wanted 81 = .ok (.aload_n 0, 1) := by decide +kernel
theorem dX6_wanted_82 : decode cX6_wanted 82 = .ok (.iload_n 3, 1) := by decide +kernel
theorem dX6_wanted_83 : decode cX6_wanted 83 = .ok (.invokevirtual 149, 3) := by decide +kernel
theorem dX6_wanted_86 : decode cX6_wanted 86 = .ok (.ifCond .eq 28, 3) := by decide +kernel
theorem dX6_wanted_89 : decode cX6_wanted 89 = .ok (.aload_n 0, 1) := by decide +kernel
theorem dX6_wanted_90 : decode cX6_wanted 90 = .ok (.getfield 20, 3) := by decide +kernel
theorem dX6_wanted_93 : decode cX6_wanted 93 = .ok (.iload_n 3, 1) := by decide +kernel
theorem dX6_wanted_94 : decode cX6_wanted 94 = .ok (.baload, 1) := by decide +kernel
theorem dX6_wanted_95 : decode cX6_wanted 95 = .ok (.ifCond .eq 19, 3) := by decide +kernel
theorem dX6_wanted_98 : decode cX6_wanted 98 = .ok (.iload_n 1, 1) := by decide +kernel
theorem dX6_wanted_99 : decode cX6_wanted 99 = .ok (.iconst (-1), 1) := by decide +kernel
theorem dX6_wanted_100 : decode cX6_wanted 100 = .ok (.if_icmp .eq 9, 3) := by decide +kernel
theorem dX6_wanted_103 : decode cX6_wanted 103 = .ok (.iload 4, 2) := by decide +kernel
theorem dX6_wanted_105 : decode cX6_wanted 105 = .ok (.iload_n 2, 1) := by decide +kernel
theorem dX6_wanted_106 : decode cX6_wanted 106 = .ok (.if_icmp .ge 8, 3) := by decide +kernel
theorem dX6_wanted_109 : decode cX6_wanted 109 = .ok (.iload_n 3, 1) := by decide +kernel
theorem dX6_wanted_110 : decode cX6_wanted 110 = .ok (.istore_n 1, 1) := by decide +kernel
theorem dX6_wanted_111 : decode cX6_wanted 111 = .ok (.iload 4, 2) := by decide +kernel
theorem dX6_wanted_113 : decode cX6_wanted 113 = .ok (.istore_n 2, 1) := by decide +kernel
theorem dX6_wanted_114 : decode cX6_wanted 114 = .ok (.iinc 3 1, 3) := by decide +kernel
theorem dX6_wanted_117 : decode cX6_wanted 117 = .ok (.goto (-111), 3) := by decide +kernel
theorem dX6_wanted_120 : decode cX6_wanted 120 = .ok (.iload_n 1, 1) := by decide +kernel
theorem dX6_wanted_121 : decode cX6_wanted 121 = .ok (.ireturn, 1) := by decide +kernel
theorem dX6_begins_0 : decode cX6_begins 0 = .ok (.iconst 0, 1) := by decide +kernel
theorem dX6_begins_1 : decode cX6_begins 1 = .ok (.istore_n 1, 1) := by decide +kernel
theorem dX6_begins_2 : decode cX6_begins 2 = .ok (.iload_n 1, 1) := by decide +kernel
theorem dX6_begins_3 : decode cX6_begins 3 = .ok (.aload_n 0, 1) := by decide +kernel
theorem dX6_begins_4 : decode cX6_begins 4 = .ok (.getfield 87, 3) := by decide +kernel
theorem dX6_begins_7 : decode cX6_begins 7 = .ok (.if_icmp .ge 42, 3) := by decide +kernel
theorem dX6_begins_10 : decode cX6_begins 10 = .ok (.aload_n 0, 1) := by decide +kernel
theorem dX6_begins_11 : decode cX6_begins 11 = .ok (.getfield 81, 3) := by decide +kernel
theorem dX6_begins_14 : decode cX6_begins 14 = .ok (.iload_n 1, 1) := by decide +kernel
theorem dX6_begins_15 : decode cX6_begins 15 = .ok (.aload_n 0, 1) := by decide +kernel
theorem dX6_begins_16 : decode cX6_begins 16 = .ok (.getfield 27, 3) := by decide +kernel
theorem dX6_begins_19 : decode cX6_begins 19 = .ok (.iload_n 1, 1) := by decide +kernel
theorem dX6_begins_20 : decode cX6_begins 20 = .ok (.iaload, 1) := by decide +kernel
theorem dX6_begins_21 : decode cX6_begins 21 = .ok (.ifCond .ne 16, 3) := by decide +kernel
theorem dX6_begins_24 : decode cX6_begins 24 = .ok (.aload_n 0, 1) := by decide +kernel
theorem dX6_begins_25 : decode cX6_begins 25 = .ok (.getfield 36, 3) := by decide +kernel
theorem dX6_begins_28 : decode cX6_begins 28 = .ok (.iload_n 1, 1) := by decide +kernel
theorem dX6_begins_29 : decode cX6_begins 29 = .ok (.iaload, 1) := by decide +kernel
theorem dX6_begins_30 : decode cX6_begins 30 = .ok (.aload_n 0, 1) := by decide +kernel
theorem dX6_begins_31 : decode cX6_begins 31 = .ok (.getfield 101, 3) := by decide +kernel
theorem dX6_begins_34 : decode cX6_begins 34 = .ok (.if_icmp .le 7, 3) := by decide +kernel
theorem dX6_begins_37 : decode cX6_begins 37 = .ok (.iconst 1, 1) := by decide +kernel
theorem dX6_begins_38 : decode cX6_begins 38 = .ok (.goto 4, 3) := by decide +kernel
theorem dX6_begins_41 : decode cX6_begins 41 = .ok (.iconst 0, 1) := by decide +kernel
theorem dX6_begins_42 : decode cX6_begins 42 = .ok (.bastore, 1) := by decide +kernel
theorem dX6_begins_43 : decode cX6_begins 43 = .ok (.iinc 1 1, 3) := by decide +kernel
theorem dX6_begins_46 : decode cX6_begins 46 = .ok (.goto (-44), 3) := by decide +kernel
theorem dX6_begins_49 : decode cX6_begins 49 = .ok (.iconst 0, 1) := by decide +kernel
theorem dX6_begins_50 : decode cX6_begins 50 = .ok (.istore_n 1, 1) := by decide +kernel
theorem dX6_begins_51 : decode cX6_begins 51 = .ok (.iload_n 1, 1) := by decide +kernel
theorem dX6_begins_52 : decode cX6_begins 52 = .ok (.iconst (-1), 1) := by decide +kernel
theorem dX6_begins_53 : decode cX6_begins 53 = .ok (.if_icmp .eq 205, 3) := by decide +kernel
theorem dX6_begins_56 : decode cX6_begins 56 = .ok (.iconst (-1), 1) := by decide +kernel
theorem dX6_begins_57 : decode cX6_begins 57 = .ok (.istore_n 1, 1) := by decide +kernel
theorem dX6_begins_58 : decode cX6_begins 58 = .ok (.iconst 0, 1) := by decide +kernel
theorem dX6_begins_59 : decode cX6_begins 59 = .ok (.istore_n 2, 1) := by decide +kernel
theorem dX6_begins_60 : decode cX6_begins 60 = .ok (.iload_n 2, 1) := by decide +kernel
theorem dX6_begins_61 : decode cX6_begins 61 = .ok (.aload_n 0, 1) := by decide +kernel
theorem dX6_begins_62 : decode cX6_begins 62 = .ok (.getfield 87, 3) := by decide +kernel
theorem dX6_begins_65 : decode cX6_begins 65 = .ok (.if_icmp .ge 44, 3) := by decide +kernel
theorem dX6_begins_68 : decode cX6_begins 68 = .ok (.aload_n 0, 1) := by decide +kernel
theorem dX6_begins_69 : decode cX6_begins 69 = .ok (.getfield 81, 3) := by decide +kernel
theorem dX6_begins_72 : decode cX6_begins 72 = .ok (.iload_n 2, 1) := by decide +kernel
theorem dX6_begins_73 : decode cX6_begins 73 = .ok (.baload, 1) := by decide +kernel
theorem dX6_begins_74 : decode cX6_begins 74 = .ok (.ifCond .ne 27, 3) := by decide +kernel
theorem dX6_begins_77 : decode cX6_begins 77 = .ok (.iload_n 1, 1) := by decide +kernel
theorem dX6_begins_78 : decode cX6_begins 78 = .ok (.iconst (-1), 1) := by decide +kernel
theorem dX6_begins_79 : decode cX6_begins 79 = .ok (.if_icmp .eq 18, 3) := by decide +kernel
theorem dX6_begins_82 : decode cX6_begins 82 = .ok (.aload_n 0, 1) := by decide +kernel
theorem dX6_begins_83 : decode cX6_begins 83 = .ok (.getfield 36, 3) := by decide +kernel
theorem dX6_begins_86 : decode cX6_begins 86 = .ok (.iload_n 2, 1) := by decide +kernel
theorem dX6_begins_87 : decode cX6_begins 87 = .ok (.iaload, 1) := by decide +kernel
theorem dX6_begins_88 : decode cX6_begins 88 = .ok (.aload_n 0, 1) := by decide +kernel
theorem dX6_begins_89 : decode cX6_begins 89 = .ok (.getfield 36, 3) := by decide +kernel
theorem dX6_begins_92 : decode cX6_begins 92 = .ok (.iload_n 1, 1) := by decide +kernel
theorem dX6_begins_93 : decode cX6_begins 93 = .ok (.iaload, 1) := by decide +kernel
theorem dX6_begins_94 : decode cX6_begins 94 = .ok (.if_icmp .ge 7, 3) := by decide +kernel
theorem dX6_begins_97 : decode cX6_begins 97 = .ok (.iload_n 2, 1) := by decide +kernel
theorem dX6_begins_98 : decode cX6_begins 98 = .ok (.goto 4, 3) := by decide +kernel
theorem dX6_begins_101 : decode cX6_begins 101 = .ok (.iload_n 1, 1) := by decide +kernel
theorem dX6_begins_102 : decode cX6_begins 102 = .ok (.istore_n 1, 1) := by decide +kernel
theorem dX6_begins_103 : decode cX6_begins 103 = .ok (.iinc 2 1, 3) := by decide +kernel
theorem dX6_begins_106 : decode cX6_begins 106 = .ok (.goto (-46), 3) := by decide +kernel
theorem dX6_begins_109 : decode cX6_begins 109 = .ok (.iload_n 1, 1) := by decide +kernel
theorem dX6_begins_110 : decode cX6_begins 110 = .ok (.iconst (-1), 1) := by decide +kernel
theorem dX6_begins_111 : decode cX6_begins 111 = .ok (.if_icmp .eq (-60), 3) := by decide +kernel
theorem dX6_begins_114 : decode cX6_begins 114 = .ok (.aload_n 0, 1) := by decide +kernel
theorem dX6_begins_115 : decode cX6_begins 115 = .ok (.getfield 81, 3) := by decide +kernel
theorem dX6_begins_118 : decode cX6_begins 118 = .ok (.iload_n 1, 1) := by decide +kernel
theorem dX6_begins_119 : decode cX6_begins 119 = .ok (.iconst 1, 1) := by decide +kernel
theorem dX6_begins_120 : decode cX6_begins 120 = .ok (.bastore, 1) := by decide +kernel
theorem dX6_begins_121 : decode cX6_begins 121 = .ok (.aload_n 0, 1) := by decide +kernel
theorem dX6_begins_122 : decode cX6_begins 122 = .ok (.aload_n 0, 1) := by decide +kernel
theorem dX6_begins_123 : decode cX6_begins 123 = .ok (.getfield 39, 3) := by decide +kernel
theorem dX6_begins_126 : decode cX6_begins 126 = .ok (.iload_n 1, 1) := by decide +kernel
theorem dX6_begins_127 : decode cX6_begins 127 = .ok (.iaload, 1) := by decide +kernel
theorem dX6_begins_128 : decode cX6_begins 128 = .ok (.invokevirtual 149, 3) := by decide +kernel
theorem dX6_begins_131 : decode cX6_begins 131 = .ok (.ifCond .eq 26, 3) := by decide +kernel
theorem dX6_begins_134 : decode cX6_begins 134 = .ok (.aload_n 0, 1) := by decide +kernel
theorem dX6_begins_135 : decode cX6_begins 135 = .ok (.getfield 20, 3) := by decide +kernel
theorem dX6_begins_138 : decode cX6_begins 138 = .ok (.aload_n 0, 1) := by decide +kernel
theorem dX6_begins_139 : decode cX6_begins 139 = .ok (.getfield 39, 3) := by decide +kernel
theorem dX6_begins_142 : decode cX6_begins 142 = .ok (.iload_n 1, 1) := by decide +kernel
theorem dX6_begins_143 : decode cX6_begins 143 = .ok (.iaload, 1) := by decide +kernel
theorem dX6_begins_144 : decode cX6_begins 144 = .ok (.baload, 1) := by decide +kernel
theorem dX6_begins_145 : decode cX6_begins 145 = .ok (.ifCond .ne 12, 3) := by decide +kernel
theorem dX6_begins_148 : decode cX6_begins 148 = .ok (.aload_n 0, 1) := by decide +kernel
theorem dX6_begins_149 : decode cX6_begins 149 = .ok (.getfield 39, 3) := by decide +kernel
theorem dX6_begins_152 : decode cX6_begins 152 = .ok (.iload_n 1, 1) := by decide +kernel
theorem dX6_begins_153 : decode cX6_begins 153 = .ok (.iaload, 1) := by decide +kernel
theorem dX6_begins_154 : decode cX6_begins 154 = .ok (.goto 4, 3) := by decide +kernel
theorem dX6_begins_157 : decode cX6_begins 157 = .ok (.iconst (-1), 1) := by decide +kernel
theorem dX6_begins_158 : decode cX6_begins 158 = .ok (.istore_n 2, 1) := by decide +kernel
theorem dX6_begins_159 : decode cX6_begins 159 = .ok (.iconst 2, 1) := by decide +kernel
theorem dX6_begins_160 : decode cX6_begins 160 = .ok (.istore_n 3, 1) := by decide +kernel
theorem dX6_begins_161 : decode cX6_begins 161 = .ok (.iload_n 3, 1) := by decide +kernel
theorem dX6_begins_162 : decode cX6_begins 162 = .ok (.ifCond .lt 47, 3) := by decide +kernel
theorem dX6_begins_165 : decode cX6_begins 165 = .ok (.iload_n 2, 1) := by decide +kernel
theorem dX6_begins_166 : decode cX6_begins 166 = .ok (.iconst (-1), 1) := by decide +kernel
theorem dX6_begins_167 : decode cX6_begins 167 = .ok (.if_icmp .eq 13, 3) := by decide +kernel
theorem dX6_begins_170 : decode cX6_begins 170 = .ok (.iload_n 2, 1) := by decide +kernel
theorem dX6_begins_171 : decode cX6_begins 171 = .ok (.aload_n 0, 1) := by decide +kernel
theorem dX6_begins_172 : decode cX6_begins 172 = .ok (.getfield 39, 3) := by decide +kernel
theorem dX6_begins_175 : decode cX6_begins 175 = .ok (.iload_n 1, 1) := by decide +kernel
theorem dX6_begins_176 : decode cX6_begins 176 = .ok (.iaload, 1) := by decide +kernel
theorem dX6_begins_177 : decode cX6_begins 177 = .ok (.if_icmp .eq 32, 3) := by decide +kernel
theorem dX6_begins_180 : decode cX6_begins 180 = .ok (.aload_n 0, 1) := by decide +kernel
theorem dX6_begins_181 : decode cX6_begins 181 = .ok (.iload_n 3, 1) := by decide +kernel
theorem dX6_begins_182 : decode cX6_begins 182 = .ok (.invokevirtual 149, 3) := by decide +kernel
theorem dX6_begins_185 : decode cX6_begins 185 = .ok (.ifCond .eq 16, 3) := by decide +kernel
theorem dX6_begins_188 : decode cX6_begins 188 = .ok (.aload_n 0, 1) := by decide +kernel
theorem dX6_begins_189 : decode cX6_begins 189 = .ok (.getfield 20, 3) := by decide +kernel
theorem dX6_begins_192 : decode cX6_begins 192 = .ok (.iload_n 3, 1) := by decide +kernel
theorem dX6_begins_193 : decode cX6_begins 193 = .ok (.baload, 1) := by decide +kernel
theorem dX6_begins_194 : decode cX6_begins 194 = .ok (.ifCond .ne 7, 3) := by decide +kernel
theorem dX6_begins_197 : decode cX6_begins 197 = .ok (.iload_n 3, 1) := by decide +kernel
theorem dX6_begins_198 : decode cX6_begins 198 = .ok (.goto 4, 3) := by decide +kernel
theorem dX6_begins_201 : decode cX6_begins 201 = .ok (.iload_n 2, 1) := by decide +kernel
theorem dX6_begins_202 : decode cX6_begins 202 = .ok (.istore_n 2, 1) := by decide +kernel
theorem dX6_begins_203 : decode cX6_begins 203 = .ok (.iinc 3 (-1), 3) := by decide +kernel
theorem dX6_begins_206 : decode cX6_begins 206 = .ok (.goto (-45), 3) := by decide +kernel
theorem dX6_begins_209 : decode cX6_begins 209 = .ok (.iload_n 2, 1) := by decide +kernel
theorem dX6_begins_210 : decode cX6_begins 210 = .ok (.iconst (-1), 1) := by decide +kernel
theorem dX6_begins_211 : decode cX6_begins 211 = .ok (.if_icmp .ne 16, 3) := by decide +kernel
theorem dX6_begins_214 : decode cX6_begins 214 = .ok (.aload_n 0, 1) := by decide +kernel
theorem dX6_begins_215 : decode cX6_begins 215 = .ok (.getfield 36, 3) := by decide +kernel
theorem dX6_begins_218 : decode cX6_begins 218 = .ok (.iload_n 1, 1) := by decide +kernel
theorem dX6_begins_219 : decode cX6_begins 219 = .ok (.dup2, 1) := by decide +kernel
theorem dX6_begins_220 : decode cX6_begins 220 = .ok (.iaload, 1) := by decide +kernel
theorem dX6_begins_221 : decode cX6_begins 221 = .ok (.iconst 1, 1) := by decide +kernel
theorem dX6_begins_222 : decode cX6_begins 222 = .ok (.iadd, 1) := by decide +kernel
theorem dX6_begins_223 : decode cX6_begins 223 = .ok (.iastore, 1) := by decide +kernel
theorem dX6_begins_224 : decode cX6_begins 224 = .ok (.goto 31, 3) := by decide +kernel
theorem dX6_begins_227 : decode cX6_begins 227 = .ok (.aload_n 0, 1) := by decide +kernel
theorem dX6_begins_228 : decode cX6_begins 228 = .ok (.getfield 27, 3) := by decide +kernel
theorem dX6_begins_231 : decode cX6_begins 231 = .ok (.iload_n 1, 1) := by decide +kernel
theorem dX6_begins_232 : decode cX6_begins 232 = .ok (.iconst 1, 1) := by decide +kernel
theorem dX6_begins_233 : decode cX6_begins 233 = .ok (.iastore, 1) := by decide +kernel
theorem dX6_begins_234 : decode cX6_begins 234 = .ok (.aload_n 0, 1) := by decide +kernel
theorem dX6_begins_235 : decode cX6_begins 235 = .ok (.getfield 42, 3) := by decide +kernel
theorem dX6_begins_238 : decode cX6_begins 238 = .ok (.iload_n 1, 1) := by decide +kernel
theorem dX6_begins_239 : decode cX6_begins 239 = .ok (.iload_n 2, 1) := by decide +kernel
theorem dX6_begins_240 : decode cX6_begins 240 = .ok (.iastore, 1) := by decide +kernel
theorem dX6_begins_241 : decode cX6_begins 241 = .ok (.aload_n 0, 1) := by decide +kernel
theorem dX6_begins_242 : decode cX6_begins 242 = .ok (.getfield 24, 3) := by decide +kernel
theorem dX6_begins_245 : decode cX6_begins 245 = .ok (.iload_n 2, 1) := by decide +kernel
theorem dX6_begins_246 : decode cX6_begins 246 = .ok (.iload_n 1, 1) := by decide +kernel
theorem dX6_begins_247 : decode cX6_begins 247 = .ok (.iastore, 1) := by decide +kernel
theorem dX6_begins_248 : decode cX6_begins 248 = .ok (.aload_n 0, 1) := by decide +kernel
theorem dX6_begins_249 : decode cX6_begins 249 = .ok (.getfield 20, 3) := by decide +kernel
theorem dX6_begins_252 : decode cX6_begins 252 = .ok (.iload_n 2, 1) := by decide +kernel
theorem dX6_begins_253 : decode cX6_begins 253 = .ok (.iconst 1, 1) := by decide +kernel
theorem dX6_begins_254 : decode cX6_begins 254 = .ok (.bastore, 1) := by decide +kernel
theorem dX6_begins_255 : decode cX6_begins 255 = .ok (.goto (-204), 3) := by decide +kernel
theorem dX6_begins_258 : decode cX6_begins 258 = .ok (.return_, 1) := by decide +kernel
theorem dX6_passes_0 : decode cX6_passes 0 = .ok (.aload_n 0, 1) := by decide +kernel
theorem dX6_passes_1 : decode cX6_passes 1 = .ok (.dup, 1) := by decide +kernel
theorem dX6_passes_2 : decode cX6_passes 2 = .ok (.getfield 101, 3) := by decide +kernel
theorem dX6_passes_5 : decode cX6_passes 5 = .ok (.iconst 1, 1) := by decide +kernel
theorem dX6_passes_6 : decode cX6_passes 6 = .ok (.iadd, 1) := by decide +kernel
theorem dX6_passes_7 : decode cX6_passes 7 = .ok (.putfield 101, 3) := by decide +kernel
theorem dX6_passes_10 : decode cX6_passes 10 = .ok (.aload_n 0, 1) := by decide +kernel
theorem dX6_passes_11 : decode cX6_passes 11 = .ok (.getfield 13, 3) := by decide +kernel
theorem dX6_passes_14 : decode cX6_passes 14 = .ok (.iconst (-1), 1) := by decide +kernel
theorem dX6_passes_15 : decode cX6_passes 15 = .ok (.if_icmp .eq 66, 3) := by decide +kernel
theorem dX6_passes_18 : decode cX6_passes 18 = .ok (.aload_n 0, 1) := by decide +kernel
theorem dX6_passes_19 : decode cX6_passes 19 = .ok (.dup, 1) := by decide +kernel
theorem dX6_passes_20 : decode cX6_passes 20 = .ok (.getfield 152, 3) := by decide +kernel
theorem dX6_passes_23 : decode cX6_passes 23 = .ok (.iconst 1, 1) := by decide +kernel
theorem dX6_passes_24 : decode cX6_passes 24 = .ok (.isub, 1) := by decide +kernel
theorem dX6_passes_25 : decode cX6_passes 25 = .ok (.putfield 152, 3) := by decide +kernel
theorem dX6_passes_28 : decode cX6_passes 28 = .ok (.aload_n 0, 1) := by decide +kernel
theorem dX6_passes_29 : decode cX6_passes 29 = .ok (.getfield 152, 3) := by decide +kernel
theorem dX6_passes_32 : decode cX6_passes 32 = .ok (.ifCond .ne 49, 3) := by decide +kernel
theorem dX6_passes_35 : decode cX6_passes 35 = .ok (.aload_n 0, 1) := by decide +kernel
theorem dX6_passes_36 : decode cX6_passes 36 = .ok (.getfield 20, 3) := by decide +kernel
theorem dX6_passes_39 : decode cX6_passes 39 = .ok (.aload_n 0, 1) := by decide +kernel
theorem dX6_passes_40 : decode cX6_passes 40 = .ok (.getfield 13, 3) := by decide +kernel
theorem dX6_passes_43 : decode cX6_passes 43 = .ok (.iconst 0, 1) := by decide +kernel
theorem dX6_passes_44 : decode cX6_passes 44 = .ok (.bastore, 1) := by decide +kernel
theorem dX6_passes_45 : decode cX6_passes 45 = .ok (.iconst 0, 1) := by decide +kernel
theorem dX6_passes_46 : decode cX6_passes 46 = .ok (.istore_n 1, 1) := by decide +kernel
theorem dX6_passes_47 : decode cX6_passes 47 = .ok (.iload_n 1, 1) := by decide +kernel
theorem dX6_passes_48 : decode cX6_passes 48 = .ok (.sipush 549, 3) := by decide +kernel
theorem dX6_passes_51 : decode cX6_passes 51 = .ok (.if_icmp .ge 25, 3) := by decide +kernel
theorem dX6_passes_54 : decode cX6_passes 54 = .ok (.aload_n 0, 1) := by decide +kernel
theorem dX6_passes_55 : decode cX6_passes 55 = .ok (.getfield 16, 3) := by decide +kernel
theorem dX6_passes_58 : decode cX6_passes 58 = .ok (.sipush 549, 3) := by decide +kernel
theorem dX6_passes_61 : decode cX6_passes 61 = .ok (.aload_n 0, 1) := by decide +kernel
theorem dX6_passes_62 : decode cX6_passes 62 = .ok (.getfield 13, 3) := by decide +kernel
theorem dX6_passes_65 : decode cX6_passes 65 = .ok (.imul, 1) := by decide +kernel
theorem dX6_passes_66 : decode cX6_passes 66 = .ok (.iload_n 1, 1) := by decide +kernel
theorem dX6_passes_67 : decode cX6_passes 67 = .ok (.iadd, 1) := by decide +kernel
theorem dX6_passes_68 : decode cX6_passes 68 = .ok (.iconst 0, 1) := by decide +kernel
theorem dX6_passes_69 : decode cX6_passes 69 = .ok (.iastore, 1) := by decide +kernel
theorem dX6_passes_70 : decode cX6_passes 70 = .ok (.iinc 1 1, 3) := by decide +kernel
theorem dX6_passes_73 : decode cX6_passes 73 = .ok (.goto (-26), 3) := by decide +kernel
theorem dX6_passes_76 : decode cX6_passes 76 = .ok (.aload_n 0, 1) := by decide +kernel
theorem dX6_passes_77 : decode cX6_passes 77 = .ok (.iconst (-1), 1) := by decide +kernel
theorem dX6_passes_78 : decode cX6_passes 78 = .ok (.putfield 13, 3) := by decide +kernel
theorem dX6_passes_81 : decode cX6_passes 81 = .ok (.aload_n 0, 1) := by decide +kernel
theorem dX6_passes_82 : decode cX6_passes 82 = .ok (.getfield 13, 3) := by decide +kernel
theorem dX6_passes_85 : decode cX6_passes 85 = .ok (.iconst (-1), 1) := by decide +kernel
theorem dX6_passes_86 : decode cX6_passes 86 = .ok (.if_icmp .ne 19, 3) := by decide +kernel
theorem dX6_passes_89 : decode cX6_passes 89 = .ok (.aload_n 0, 1) := by decide +kernel
theorem dX6_passes_90 : decode cX6_passes 90 = .ok (.aload_n 0, 1) := by decide +kernel
theorem dX6_passes_91 : decode cX6_passes 91 = .ok (.invokevirtual 155, 3) := by decide +kernel
theorem dX6_passes_94 : decode cX6_passes 94 = .ok (.putfield 13, 3) := by decide +kernel
theorem dX6_passes_97 : decode cX6_passes 97 = .ok (.aload_n 0, 1) := by decide +kernel
theorem dX6_passes_98 : decode cX6_passes 98 = .ok (.aload_n 0, 1) := by decide +kernel
theorem dX6_passes_99 : decode cX6_passes 99 = .ok (.getfield 7, 3) := by decide +kernel
theorem dX6_passes_102 : decode cX6_passes 102 = .ok (.putfield 152, 3) := by decide +kernel
theorem dX6_passes_105 : decode cX6_passes 105 = .ok (.aload_n 0, 1) := by decide +kernel
theorem dX6_passes_106 : decode cX6_passes 106 = .ok (.invokevirtual 158, 3) := by decide +kernel
theorem dX6_passes_109 : decode cX6_passes 109 = .ok (.return_, 1) := by decide +kernel
theorem dX6_pass_0 : decode cX6_pass 0 = .ok (.iload_n 1, 1) := by decide +kernel
theorem dX6_pass_1 : decode cX6_pass 1 = .ok (.iconst 1, 1) := by decide +kernel
theorem dX6_pass_2 : decode cX6_pass 2 = .ok (.bipush 48, 2) := by decide +kernel
theorem dX6_pass_4 : decode cX6_pass 4 = .ok (.invokestatic 90, 3) := by decide +kernel
theorem dX6_pass_7 : decode cX6_pass 7 = .ok (.istore_n 2, 1) := by decide +kernel
theorem dX6_pass_8 : decode cX6_pass 8 = .ok (.aload_n 0, 1) := by decide +kernel
theorem dX6_pass_9 : decode cX6_pass 9 = .ok (.iload_n 2, 1) := by decide +kernel
theorem dX6_pass_10 : decode cX6_pass 10 = .ok (.iload_n 2, 1) := by decide +kernel
theorem dX6_pass_11 : decode cX6_pass 11 = .ok (.ifCond .eq 19, 3) := by decide +kernel
theorem dX6_pass_14 : decode cX6_pass 14 = .ok (.aload_n 0, 1) := by decide +kernel
theorem dX6_pass_15 : decode cX6_pass 15 = .ok (.getfield 101, 3) := by decide +kernel
theorem dX6_pass_18 : decode cX6_pass 18 = .ok (.iload_n 1, 1) := by decide +kernel
theorem dX6_pass_19 : decode cX6_pass 19 = .ok (.iadd, 1) := by decide +kernel
theorem dX6_pass_20 : decode cX6_pass 20 = .ok (.sipush 9999, 3) := by decide +kernel
theorem dX6_pass_23 : decode cX6_pass 23 = .ok (.if_icmp .gt 7, 3) := by decide +kernel
theorem dX6_pass_26 : decode cX6_pass 26 = .ok (.iconst 1, 1) := by decide +kernel
theorem dX6_pass_27 : decode cX6_pass 27 = .ok (.goto 4, 3) := by decide +kernel
theorem dX6_pass_30 : decode cX6_pass 30 = .ok (.iconst 0, 1) := by decide +kernel
theorem dX6_pass_31 : decode cX6_pass 31 = .ok (.invokevirtual 161, 3) := by decide +kernel
theorem dX6_pass_34 : decode cX6_pass 34 = .ok (.ifCond .ne 5, 3) := by decide +kernel
theorem dX6_pass_37 : decode cX6_pass 37 = .ok (.iconst 0, 1) := by decide +kernel
theorem dX6_pass_38 : decode cX6_pass 38 = .ok (.ireturn, 1) := by decide +kernel
theorem dX6_pass_39 : decode cX6_pass 39 = .ok (.iconst 0, 1) := by decide +kernel
theorem dX6_pass_40 : decode cX6_pass 40 = .ok (.istore_n 3, 1) := by decide +kernel
theorem dX6_pass_41 : decode cX6_pass 41 = .ok (.iload_n 3, 1) := by decide +kernel
theorem dX6_pass_42 : decode cX6_pass 42 = .ok (.iload_n 1, 1) := by decide +kernel
theorem dX6_pass_43 : decode cX6_pass 43 = .ok (.if_icmp .ge 13, 3) := by decide +kernel
theorem dX6_pass_46 : decode cX6_pass 46 = .ok (.aload_n 0, 1) := by decide +kernel
theorem dX6_pass_47 : decode cX6_pass 47 = .ok (.invokevirtual 164, 3) := by decide +kernel
theorem dX6_pass_50 : decode cX6_pass 50 = .ok (.iinc 3 1, 3) := by decide +kernel
theorem dX6_pass_53 : decode cX6_pass 53 = .ok (.goto (-12), 3) := by decide +kernel
theorem dX6_pass_56 : decode cX6_pass 56 = .ok (.aload_n 0, 1) := by decide +kernel
theorem dX6_pass_57 : decode cX6_pass 57 = .ok (.getfield 101, 3) := by decide +kernel
theorem dX6_pass_60 : decode cX6_pass 60 = .ok (.ireturn, 1) := by decide +kernel
theorem dX6_hour_0 : decode cX6_hour 0 = .ok (.aload_n 0, 1) := by decide +kernel
theorem dX6_hour_1 : decode cX6_hour 1 = .ok (.iconst 0, 1) := by decide +kernel
theorem dX6_hour_2 : decode cX6_hour 2 = .ok (.putfield 84, 3) := by decide +kernel
theorem dX6_hour_5 : decode cX6_hour 5 = .ok (.aload_n 0, 1) := by decide +kernel
theorem dX6_hour_6 : decode cX6_hour 6 = .ok (.getfield 101, 3) := by decide +kernel
theorem dX6_hour_9 : decode cX6_hour 9 = .ok (.ireturn, 1) := by decide +kernel
theorem dX6_ofSheet_0 : decode cX6_ofSheet 0 = .ok (.aload_n 0, 1) := by decide +kernel
theorem dX6_ofSheet_1 : decode cX6_ofSheet 1 = .ok (.iload_n 1, 1) := by decide +kernel
theorem dX6_ofSheet_2 : decode cX6_ofSheet 2 = .ok (.invokestatic 98, 3) := by decide +kernel
theorem dX6_ofSheet_5 : decode cX6_ofSheet 5 = .ok (.iload_n 2, 1) := by decide +kernel
theorem dX6_ofSheet_6 : decode cX6_ofSheet 6 = .ok (.iconst 0, 1) := by decide +kernel
theorem dX6_ofSheet_7 : decode cX6_ofSheet 7 = .ok (.iconst 3, 1) := by decide +kernel
theorem dX6_ofSheet_8 : decode cX6_ofSheet 8 = .ok (.invokestatic 90, 3) := by decide +kernel
theorem dX6_ofSheet_11 : decode cX6_ofSheet 11 = .ok (.invokevirtual 161, 3) := by decide +kernel
theorem dX6_ofSheet_14 : decode cX6_ofSheet 14 = .ok (.ifCond .ne 5, 3) := by decide +kernel
theorem dX6_ofSheet_17 : decode cX6_ofSheet 17 = .ok (.iconst 0, 1) := by decide +kernel
theorem dX6_ofSheet_18 : decode cX6_ofSheet 18 = .ok (.ireturn, 1) := by decide +kernel
theorem dX6_ofSheet_19 : decode cX6_ofSheet 19 = .ok (.iconst 0, 1) := by decide +kernel
theorem dX6_ofSheet_20 : decode cX6_ofSheet 20 = .ok (.istore_n 3, 1) := by decide +kernel
theorem dX6_ofSheet_21 : decode cX6_ofSheet 21 = .ok (.iconst 0, 1) := by decide +kernel
theorem dX6_ofSheet_22 : decode cX6_ofSheet 22 = .ok (.istore 4, 2) := by decide +kernel
theorem dX6_ofSheet_24 : decode cX6_ofSheet 24 = .ok (.iload 4, 2) := by decide +kernel
theorem dX6_ofSheet_26 : decode cX6_ofSheet 26 = .ok (.sipush 549, 3) := by decide +kernel
theorem dX6_ofSheet_29 : decode cX6_ofSheet 29 = .ok (.if_icmp .ge 25, 3) := by decide +kernel
theorem dX6_ofSheet_32 : decode cX6_ofSheet 32 = .ok (.iload_n 3, 1) := by decide +kernel
theorem dX6_ofSheet_33 : decode cX6_ofSheet 33 = .ok (.aload_n 0, 1) := by decide +kernel
theorem dX6_ofSheet_34 : decode cX6_ofSheet 34 = .ok (.getfield 16, 3) := by decide +kernel
theorem dX6_ofSheet_37 : decode cX6_ofSheet 37 = .ok (.sipush 549, 3) := by decide +kernel
theorem dX6_ofSheet_40 : decode cX6_ofSheet 40 = .ok (.iload_n 1, 1) := by decide +kernel
theorem dX6_ofSheet_41 : decode cX6_ofSheet 41 = .ok (.imul, 1) := by decide +kernel
theorem dX6_ofSheet_42 : decode cX6_ofSheet 42 = .ok (.iload 4, 2) := by decide +kernel
theorem dX6_ofSheet_44 : decode cX6_ofSheet 44 = .ok (.iadd, 1) := by decide +kernel
theorem dX6_ofSheet_45 : decode cX6_ofSheet 45 = .ok (.iaload, 1) := by decide +kernel
theorem dX6_ofSheet_46 : decode cX6_ofSheet 46 = .ok (.iadd, 1) := by decide +kernel
theorem dX6_ofSheet_47 : decode cX6_ofSheet 47 = .ok (.istore_n 3, 1) := by decide +kernel
theorem dX6_ofSheet_48 : decode cX6_ofSheet 48 = .ok (.iinc 4 1, 3) := by decide +kernel
theorem dX6_ofSheet_51 : decode cX6_ofSheet 51 = .ok (.goto (-27), 3) := by decide +kernel
theorem dX6_ofSheet_54 : decode cX6_ofSheet 54 = .ok (.iload_n 2, 1) := by decide +kernel
theorem dX6_ofSheet_55 : decode cX6_ofSheet 55 = .ok (.ifCond .ne 20, 3) := by decide +kernel
theorem dX6_ofSheet_58 : decode cX6_ofSheet 58 = .ok (.aload_n 0, 1) := by decide +kernel
theorem dX6_ofSheet_59 : decode cX6_ofSheet 59 = .ok (.getfield 20, 3) := by decide +kernel
theorem dX6_ofSheet_62 : decode cX6_ofSheet 62 = .ok (.iload_n 1, 1) := by decide +kernel
theorem dX6_ofSheet_63 : decode cX6_ofSheet 63 = .ok (.baload, 1) := by decide +kernel
theorem dX6_ofSheet_64 : decode cX6_ofSheet 64 = .ok (.ifCond .eq 7, 3) := by decide +kernel
theorem dX6_ofSheet_67 : decode cX6_ofSheet 67 = .ok (.iconst 0, 1) := by decide +kernel
theorem dX6_ofSheet_68 : decode cX6_ofSheet 68 = .ok (.goto 46, 3) := by decide +kernel
theorem dX6_ofSheet_71 : decode cX6_ofSheet 71 = .ok (.iconst 1, 1) := by decide +kernel
theorem dX6_ofSheet_72 : decode cX6_ofSheet 72 = .ok (.goto 42, 3) := by decide +kernel
theorem dX6_ofSheet_75 : decode cX6_ofSheet 75 = .ok (.iload_n 2, 1) := by decide +kernel
theorem dX6_ofSheet_76 : decode cX6_ofSheet 76 = .ok (.iconst 1, 1) := by decide +kernel
theorem dX6_ofSheet_77 : decode cX6_ofSheet 77 = .ok (.if_icmp .ne 12, 3) := by decide +kernel
theorem dX6_ofSheet_80 : decode cX6_ofSheet 80 = .ok (.aload_n 0, 1) := by decide +kernel
theorem dX6_ofSheet_81 : decode cX6_ofSheet 81 = .ok (.getfield 24, 3) := by decide +kernel
theorem dX6_ofSheet_84 : decode cX6_ofSheet 84 = .ok (.iload_n 1, 1) := by decide +kernel
theorem dX6_ofSheet_85 : decode cX6_ofSheet 85 = .ok (.iaload, 1) := by decide +kernel
theorem dX6_ofSheet_86 : decode cX6_ofSheet 86 = .ok (.goto 28, 3) := by decide +kernel
theorem dX6_ofSheet_89 : decode cX6_ofSheet 89 = .ok (.iload_n 2, 1) := by decide +kernel
theorem dX6_ofSheet_90 : decode cX6_ofSheet 90 = .ok (.iconst 2, 1) := by decide +kernel
theorem dX6_ofSheet_91 : decode cX6_ofSheet 91 = .ok (.if_icmp .ne 7, 3) := by decide +kernel
theorem dX6_ofSheet_94 : decode cX6_ofSheet 94 = .ok (.iload_n 3, 1) := by decide +kernel
theorem dX6_ofSheet_95 : decode cX6_ofSheet 95 = .ok (.goto 19, 3) := by decide +kernel
theorem dX6_ofSheet_98 : decode cX6_ofSheet 98 = .ok (.aload_n 0, 1) := by decide +kernel
theorem dX6_ofSheet_99 : decode cX6_ofSheet 99 = .ok (.getfield 13, 3) := by decide +kernel
theorem dX6_ofSheet_102 : decode cX6_ofSheet 102 = .ok (.iload_n 1, 1) := by decide +kernel
theorem dX6_ofSheet_103 : decode cX6_ofSheet 103 = .ok (.if_icmp .ne 10, 3) := by decide +kernel
theorem dX6_ofSheet_106 : decode cX6_ofSheet 106 = .ok (.aload_n 0, 1) := by decide +kernel
theorem dX6_ofSheet_107 : decode cX6_ofSheet 107 = .ok (.getfield 152, 3) := by decide +kernel
theorem dX6_ofSheet_110 : decode cX6_ofSheet 110 = .ok (.goto 4, 3) := by decide +kernel
theorem dX6_ofSheet_113 : decode cX6_ofSheet 113 = .ok (.iconst 0, 1) := by decide +kernel
theorem dX6_ofSheet_114 : decode cX6_ofSheet 114 = .ok (.ireturn, 1) := by decide +kernel
theorem dX6_wear_0 : decode cX6_wear 0 = .ok (.aload_n 0, 1) := by decide +kernel
theorem dX6_wear_1 : decode cX6_wear 1 = .ok (.iload_n 1, 1) := by decide +kernel
theorem dX6_wear_2 : decode cX6_wear 2 = .ok (.invokestatic 98, 3) := by decide +kernel
theorem dX6_wear_5 : decode cX6_wear 5 = .ok (.ifCond .eq 27, 3) := by decide +kernel
theorem dX6_wear_8 : decode cX6_wear 8 = .ok (.iload_n 2, 1) := by decide +kernel
theorem dX6_wear_9 : decode cX6_wear 9 = .ok (.iconst 0, 1) := by decide +kernel
theorem dX6_wear_10 : decode cX6_wear 10 = .ok (.bipush 8, 2) := by decide +kernel
theorem dX6_wear_12 : decode cX6_wear 12 = .ok (.invokestatic 90, 3) := by decide +kernel
theorem dX6_wear_15 : decode cX6_wear 15 = .ok (.ifCond .eq 17, 3) := by decide +kernel
theorem dX6_wear_18 : decode cX6_wear 18 = .ok (.iload_n 3, 1) := by decide +kernel
theorem dX6_wear_19 : decode cX6_wear 19 = .ok (.iconst 0, 1) := by decide +kernel
theorem dX6_wear_20 : decode cX6_wear 20 = .ok (.bipush 60, 2) := by decide +kernel
theorem dX6_wear_22 : decode cX6_wear 22 = .ok (.invokestatic 90, 3) := by decide +kernel
theorem dX6_wear_25 : decode cX6_wear 25 = .ok (.ifCond .eq 7, 3) := by decide +kernel
theorem dX6_wear_28 : decode cX6_wear 28 = .ok (.iconst 1, 1) := by decide +kernel
theorem dX6_wear_29 : decode cX6_wear 29 = .ok (.goto 4, 3) := by decide +kernel
theorem dX6_wear_32 : decode cX6_wear 32 = .ok (.iconst 0, 1) := by decide +kernel
theorem dX6_wear_33 : decode cX6_wear 33 = .ok (.invokevirtual 108, 3) := by decide +kernel
theorem dX6_wear_36 : decode cX6_wear 36 = .ok (.ifCond .eq 23, 3) := by decide +kernel
theorem dX6_wear_39 : decode cX6_wear 39 = .ok (.aload_n 0, 1) := by decide +kernel
theorem dX6_wear_40 : decode cX6_wear 40 = .ok (.getfield 16, 3) := by decide +kernel
theorem dX6_wear_43 : decode cX6_wear 43 = .ok (.sipush 549, 3) := by decide +kernel
theorem dX6_wear_46 : decode cX6_wear 46 = .ok (.iload_n 1, 1) := by decide +kernel
theorem dX6_wear_47 : decode cX6_wear 47 = .ok (.imul, 1) := by decide +kernel
theorem dX6_wear_48 : decode cX6_wear 48 = .ok (.bipush 61, 2) := by decide +kernel
theorem dX6_wear_50 : decode cX6_wear 50 = .ok (.iload_n 2, 1) := by decide +kernel
theorem dX6_wear_51 : decode cX6_wear 51 = .ok (.imul, 1) := by decide +kernel
theorem dX6_wear_52 : decode cX6_wear 52 = .ok (.iadd, 1) := by decide +kernel
theorem dX6_wear_53 : decode cX6_wear 53 = .ok (.iload_n 3, 1) := by decide +kernel
theorem dX6_wear_54 : decode cX6_wear 54 = .ok (.iadd, 1) := by decide +kernel
theorem dX6_wear_55 : decode cX6_wear 55 = .ok (.iaload, 1) := by decide +kernel
theorem dX6_wear_56 : decode cX6_wear 56 = .ok (.goto 4, 3) := by decide +kernel
theorem dX6_wear_59 : decode cX6_wear 59 = .ok (.iconst 0, 1) := by decide +kernel
theorem dX6_wear_60 : decode cX6_wear 60 = .ok (.ireturn, 1) := by decide +kernel
theorem dX6_ofGame_0 : decode cX6_ofGame 0 = .ok (.aload_n 0, 1) := by decide +kernel
theorem dX6_ofGame_1 : decode cX6_ofGame 1 = .ok (.aload_n 0, 1) := by decide +kernel
theorem dX6_ofGame_2 : decode cX6_ofGame 2 = .ok (.iload_n 1, 1) := by decide +kernel
theorem dX6_ofGame_3 : decode cX6_ofGame 3 = .ok (.invokevirtual 126, 3) := by decide +kernel
theorem dX6_ofGame_6 : decode cX6_ofGame 6 = .ok (.iload_n 2, 1) := by decide +kernel
theorem dX6_ofGame_7 : decode cX6_ofGame 7 = .ok (.iconst 0, 1) := by decide +kernel
theorem dX6_ofGame_8 : decode cX6_ofGame 8 = .ok (.bipush 7, 2) := by decide +kernel
theorem dX6_ofGame_10 : decode cX6_ofGame 10 = .ok (.invokestatic 90, 3) := by decide +kernel
theorem dX6_ofGame_13 : decode cX6_ofGame 13 = .ok (.invokevirtual 161, 3) := by decide +kernel
theorem dX6_ofGame_16 : decode cX6_ofGame 16 = .ok (.ifCond .ne 5, 3) := by decide +kernel
theorem dX6_ofGame_19 : decode cX6_ofGame 19 = .ok (.iconst 0, 1) := by decide +kernel
theorem dX6_ofGame_20 : decode cX6_ofGame 20 = .ok (.ireturn, 1) := by decide +kernel
theorem dX6_ofGame_21 : decode cX6_ofGame 21 = .ok (.iload_n 2, 1) := by decide +kernel
theorem dX6_ofGame_22 : decode cX6_ofGame 22 = .ok (.ifCond .ne 12, 3) := by decide +kernel
theorem dX6_ofGame_25 : decode cX6_ofGame 25 = .ok (.aload_n 0, 1) := by decide +kernel
theorem dX6_ofGame_26 : decode cX6_ofGame 26 = .ok (.getfield 27, 3) := by decide +kernel
theorem dX6_ofGame_29 : decode cX6_ofGame 29 = .ok (.iload_n 1, 1) := by decide +kernel
theorem dX6_ofGame_30 : decode cX6_ofGame 30 = .ok (.iaload, 1) := by decide +kernel
theorem dX6_ofGame_31 : decode cX6_ofGame 31 = .ok (.goto 99, 3) := by decide +kernel
theorem dX6_ofGame_34 : decode cX6_ofGame 34 = .ok (.iload_n 2, 1) := by decide +kernel
theorem dX6_ofGame_35 : decode cX6_ofGame 35 = .ok (.iconst 1, 1) := by decide +kernel
theorem dX6_ofGame_36 : decode cX6_ofGame 36 = .ok (.if_icmp .ne 12, 3) := by decide +kernel
theorem dX6_ofGame_39 : decode cX6_ofGame 39 = .ok (.aload_n 0, 1) := by decide +kernel
theorem dX6_ofGame_40 : decode cX6_ofGame 40 = .ok (.getfield 36, 3) := by decide +kernel
theorem dX6_ofGame_43 : decode cX6_ofGame 43 = .ok (.iload_n 1, 1) := by decide +kernel
theorem dX6_ofGame_44 : decode cX6_ofGame 44 = .ok (.iaload, 1) := by decide +kernel
theorem dX6_ofGame_45 : decode cX6_ofGame 45 = .ok (.goto 85, 3) := by decide +kernel
theorem dX6_ofGame_48 : decode cX6_ofGame 48 = .ok (.iload_n 2, 1) := by decide +kernel
theorem dX6_ofGame_49 : decode cX6_ofGame 49 = .ok (.iconst 2, 1) := by decide +kernel
theorem dX6_ofGame_50 : decode cX6_ofGame 50 = .ok (.if_icmp .ne 12, 3) := by decide +kernel
theorem dX6_ofGame_53 : decode cX6_ofGame 53 = .ok (.aload_n 0, 1) := by decide +kernel
theorem dX6_ofGame_54 : decode cX6_ofGame 54 = .ok (.getfield 42, 3) := by decide +kernel
theorem dX6_ofGame_57 : decode cX6_ofGame 57 = .ok (.iload_n 1, 1) := by decide +kernel
theorem dX6_ofGame_58 : decode cX6_ofGame 58 = .ok (.iaload, 1) := by decide +kernel
theorem dX6_ofGame_59 : decode cX6_ofGame 59 = .ok (.goto 71, 3) := by decide +kernel
theorem dX6_ofGame_62 : decode cX6_ofGame 62 = .ok (.iload_n 2, 1) := by decide +kernel
theorem dX6_ofGame_63 : decode cX6_ofGame 63 = .ok (.iconst 5, 1) := by decide +kernel
theorem dX6_ofGame_64 : decode cX6_ofGame 64 = .ok (.if_icmp .ge 18, 3) := by decide +kernel
theorem dX6_ofGame_67 : decode cX6_ofGame 67 = .ok (.aload_n 0, 1) := by decide +kernel
theorem dX6_ofGame_68 : decode cX6_ofGame 68 = .ok (.getfield 45, 3) := by decide +kernel
theorem dX6_ofGame_71 : decode cX6_ofGame 71 = .ok (.iconst 2, 1) := by decide +kernel
theorem dX6_ofGame_72 : decode cX6_ofGame 72 = .ok (.iload_n 1, 1) := by decide +kernel
theorem dX6_ofGame_73 : decode cX6_ofGame 73 = .ok (.imul, 1) := by decide +kernel
theorem dX6_ofGame_74 : decode cX6_ofGame 74 = .ok (.iload_n 2, 1) := by decide +kernel
theorem dX6_ofGame_75 : decode cX6_ofGame 75 = .ok (.iadd, 1) := by decide +kernel
theorem dX6_ofGame_76 : decode cX6_ofGame 76 = .ok (.iconst 3, 1) := by decide +kernel
theorem dX6_ofGame_77 : decode cX6_ofGame 77 = .ok (.isub, 1) := by decide +kernel
theorem dX6_ofGame_78 : decode cX6_ofGame 78 = .ok (.iaload, 1) := by decide +kernel
theorem dX6_ofGame_79 : decode cX6_ofGame 79 = .ok (.goto 51, 3) := by decide +kernel
theorem dX6_ofGame_82 : decode cX6_ofGame 82 = .ok (.iload_n 2, 1) := by decide +kernel
theorem dX6_ofGame_83 : decode cX6_ofGame 83 = .ok (.iconst 5, 1) := by decide +kernel
theorem dX6_ofGame_84 : decode cX6_ofGame 84 = .ok (.if_icmp .ne 12, 3) := by decide +kernel
theorem dX6_ofGame_87 : decode cX6_ofGame 87 = .ok (.aload_n 0, 1) := by decide +kernel
theorem dX6_ofGame_88 : decode cX6_ofGame 88 = .ok (.getfield 48, 3) := by decide +kernel
theorem dX6_ofGame_91 : decode cX6_ofGame 91 = .ok (.iload_n 1, 1) := by decide +kernel
theorem dX6_ofGame_92 : decode cX6_ofGame 92 = .ok (.iaload, 1) := by decide +kernel
theorem dX6_ofGame_93 : decode cX6_ofGame 93 = .ok (.goto 37, 3) := by decide +kernel
theorem dX6_ofGame_96 : decode cX6_ofGame 96 = .ok (.iload_n 2, 1) := by decide +kernel
theorem dX6_ofGame_97 : decode cX6_ofGame 97 = .ok (.bipush 6, 2) := by decide +kernel
theorem dX6_ofGame_99 : decode cX6_ofGame 99 = .ok (.if_icmp .ne 11, 3) := by decide +kernel
theorem dX6_ofGame_102 : decode cX6_ofGame 102 = .ok (.aload_n 0, 1) := by decide +kernel
theorem dX6_ofGame_103 : decode cX6_ofGame 103 = .ok (.iload_n 1, 1) := by decide +kernel
theorem dX6_ofGame_104 : decode cX6_ofGame 104 = .ok (.invokevirtual 119, 3) := by decide +kernel
theorem dX6_ofGame_107 : decode cX6_ofGame 107 = .ok (.goto 23, 3) := by decide +kernel
theorem dX6_ofGame_110 : decode cX6_ofGame 110 = .ok (.aload_n 0, 1) := by decide +kernel
theorem dX6_ofGame_111 : decode cX6_ofGame 111 = .ok (.getfield 27, 3) := by decide +kernel
theorem dX6_ofGame_114 : decode cX6_ofGame 114 = .ok (.iload_n 1, 1) := by decide +kernel
theorem dX6_ofGame_115 : decode cX6_ofGame 115 = .ok (.iaload, 1) := by decide +kernel
theorem dX6_ofGame_116 : decode cX6_ofGame 116 = .ok (.iconst 2, 1) := by decide +kernel
theorem dX6_ofGame_117 : decode cX6_ofGame 117 = .ok (.if_icmp .ne 12, 3) := by decide +kernel
theorem dX6_ofGame_120 : decode cX6_ofGame 120 = .ok (.aload_n 0, 1) := by decide +kernel
theorem dX6_ofGame_121 : decode cX6_ofGame 121 = .ok (.getfield 54, 3) := by decide +kernel
theorem dX6_ofGame_124 : decode cX6_ofGame 124 = .ok (.iload_n 1, 1) := by decide +kernel
theorem dX6_ofGame_125 : decode cX6_ofGame 125 = .ok (.iaload, 1) := by decide +kernel
theorem dX6_ofGame_126 : decode cX6_ofGame 126 = .ok (.goto 4, 3) := by decide +kernel
theorem dX6_ofGame_129 : decode cX6_ofGame 129 = .ok (.iconst (-1), 1) := by decide +kernel
theorem dX6_ofGame_130 : decode cX6_ofGame 130 = .ok (.ireturn, 1) := by decide +kernel
theorem dX6_stone_0 : decode cX6_stone 0 = .ok (.aload_n 0, 1) := by decide +kernel
theorem dX6_stone_1 : decode cX6_stone 1 = .ok (.aload_n 0, 1) := by decide +kernel
theorem dX6_stone_2 : decode cX6_stone 2 = .ok (.iload_n 1, 1) := by decide +kernel
theorem dX6_stone_3 : decode cX6_stone 3 = .ok (.invokevirtual 126, 3) := by decide +kernel
theorem dX6_stone_6 : decode cX6_stone 6 = .ok (.ifCond .eq 25, 3) := by decide +kernel
theorem dX6_stone_9 : decode cX6_stone 9 = .ok (.iload_n 2, 1) := by decide +kernel
theorem dX6_stone_10 : decode cX6_stone 10 = .ok (.iconst 0, 1) := by decide +kernel
theorem dX6_stone_11 : decode cX6_stone 11 = .ok (.iconst 1, 1) := by decide +kernel
theorem dX6_stone_12 : decode cX6_stone 12 = .ok (.invokestatic 90, 3) := by decide +kernel
theorem dX6_stone_15 : decode cX6_stone 15 = .ok (.ifCond .eq 16, 3) := by decide +kernel
theorem dX6_stone_18 : decode cX6_stone 18 = .ok (.iload_n 3, 1) := by decide +kernel
theorem dX6_stone_19 : decode cX6_stone 19 = .ok (.iconst 0, 1) := by decide +kernel
theorem dX6_stone_20 : decode cX6_stone 20 = .ok (.iconst 2, 1) := by decide +kernel
theorem dX6_stone_21 : decode cX6_stone 21 = .ok (.invokestatic 90, 3) := by decide +kernel
theorem dX6_stone_24 : decode cX6_stone 24 = .ok (.ifCond .eq 7, 3) := by decide +kernel
theorem dX6_stone_27 : decode cX6_stone 27 = .ok (.iconst 1, 1) := by decide +kernel
theorem dX6_stone_28 : decode cX6_stone 28 = .ok (.goto 4, 3) := by decide +kernel
theorem dX6_stone_31 : decode cX6_stone 31 = .ok (.iconst 0, 1) := by decide +kernel
theorem dX6_stone_32 : decode cX6_stone 32 = .ok (.invokevirtual 108, 3) := by decide +kernel
theorem dX6_stone_35 : decode cX6_stone 35 = .ok (.ifCond .eq 21, 3) := by decide +kernel
theorem dX6_stone_38 : decode cX6_stone 38 = .ok (.aload_n 0, 1) := by decide +kernel
theorem dX6_stone_39 : decode cX6_stone 39 = .ok (.getfield 60, 3) := by decide +kernel
theorem dX6_stone_42 : decode cX6_stone 42 = .ok (.bipush 6, 2) := by decide +kernel
theorem dX6_stone_44 : decode cX6_stone 44 = .ok (.iload_n 1, 1) := by decide +kernel
theorem dX6_stone_45 : decode cX6_stone 45 = .ok (.imul, 1) := by decide +kernel
theorem dX6_stone_46 : decode cX6_stone 46 = .ok (.iconst 3, 1) := by decide +kernel
theorem dX6_stone_47 : decode cX6_stone 47 = .ok (.iload_n 2, 1) := by decide +kernel
theorem dX6_stone_48 : decode cX6_stone 48 = .ok (.imul, 1) := by decide +kernel
theorem dX6_stone_49 : decode cX6_stone 49 = .ok (.iadd, 1) := by decide +kernel
theorem dX6_stone_50 : decode cX6_stone 50 = .ok (.iload_n 3, 1) := by decide +kernel
theorem dX6_stone_51 : decode cX6_stone 51 = .ok (.iadd, 1) := by decide +kernel
theorem dX6_stone_52 : decode cX6_stone 52 = .ok (.iaload, 1) := by decide +kernel
theorem dX6_stone_53 : decode cX6_stone 53 = .ok (.goto 4, 3) := by decide +kernel
theorem dX6_stone_56 : decode cX6_stone 56 = .ok (.iconst 0, 1) := by decide +kernel
theorem dX6_stone_57 : decode cX6_stone 57 = .ok (.ireturn, 1) := by decide +kernel
theorem dX6_scoreOf_0 : decode cX6_scoreOf 0 = .ok (.iconst 0, 1) := by decide +kernel
theorem dX6_scoreOf_1 : decode cX6_scoreOf 1 = .ok (.istore_n 2, 1) := by decide +kernel
theorem dX6_scoreOf_2 : decode cX6_scoreOf 2 = .ok (.iload_n 2, 1) := by decide +kernel
theorem dX6_scoreOf_3 : decode cX6_scoreOf 3 = .ok (.bipush 6, 2) := by decide +kernel
theorem dX6_scoreOf_5 : decode cX6_scoreOf 5 = .ok (.if_icmp .ge 26, 3) := by decide +kernel
theorem dX6_scoreOf_8 : decode cX6_scoreOf 8 = .ok (.aload_n 0, 1) := by decide +kernel
theorem dX6_scoreOf_9 : decode cX6_scoreOf 9 = .ok (.getfield 75, 3) := by decide +kernel
theorem dX6_scoreOf_12 : decode cX6_scoreOf 12 = .ok (.iload_n 2, 1) := by decide +kernel
theorem dX6_scoreOf_13 : decode cX6_scoreOf 13 = .ok (.aload_n 0, 1) := by decide +kernel
theorem dX6_scoreOf_14 : decode cX6_scoreOf 14 = .ok (.getfield 60, 3) := by decide +kernel
theorem dX6_scoreOf_17 : decode cX6_scoreOf 17 = .ok (.bipush 6, 2) := by decide +kernel
theorem dX6_scoreOf_19 : decode cX6_scoreOf 19 = .ok (.iload_n 1, 1) := by decide +kernel
theorem dX6_scoreOf_20 : decode cX6_scoreOf 20 = .ok (.imul, 1) := by decide +kernel
theorem dX6_scoreOf_21 : decode cX6_scoreOf 21 = .ok (.iload_n 2, 1) := by decide +kernel
theorem dX6_scoreOf_22 : decode cX6_scoreOf 22 = .ok (.iadd, 1) := by decide +kernel
theorem dX6_scoreOf_23 : decode cX6_scoreOf 23 = .ok (.iaload, 1) := by decide +kernel
theorem dX6_scoreOf_24 : decode cX6_scoreOf 24 = .ok (.iastore, 1) := by decide +kernel
theorem dX6_scoreOf_25 : decode cX6_scoreOf 25 = .ok (.iinc 2 1, 3) := by decide +kernel
theorem dX6_scoreOf_28 : decode cX6_scoreOf 28 = .ok (.goto (-26), 3) := by decide +kernel
theorem dX6_scoreOf_31 : decode cX6_scoreOf 31 = .ok (.aload_n 0, 1) := by decide +kernel
theorem dX6_scoreOf_32 : decode cX6_scoreOf 32 = .ok (.getfield 27, 3) := by decide +kernel
theorem dX6_scoreOf_35 : decode cX6_scoreOf 35 = .ok (.iload_n 1, 1) := by decide +kernel
theorem dX6_scoreOf_36 : decode cX6_scoreOf 36 = .ok (.iaload, 1) := by decide +kernel
theorem dX6_scoreOf_37 : decode cX6_scoreOf 37 = .ok (.iconst 2, 1) := by decide +kernel
theorem dX6_scoreOf_38 : decode cX6_scoreOf 38 = .ok (.if_icmp .ne 10, 3) := by decide +kernel
theorem dX6_scoreOf_41 : decode cX6_scoreOf 41 = .ok (.aload_n 0, 1) := by decide +kernel
theorem dX6_scoreOf_42 : decode cX6_scoreOf 42 = .ok (.invokevirtual 122, 3) := by decide +kernel
theorem dX6_scoreOf_45 : decode cX6_scoreOf 45 = .ok (.goto 4, 3) := by decide +kernel
theorem dX6_scoreOf_48 : decode cX6_scoreOf 48 = .ok (.iconst 0, 1) := by decide +kernel
theorem dX6_scoreOf_49 : decode cX6_scoreOf 49 = .ok (.ireturn, 1) := by decide +kernel
theorem dX6_wouldScore_0 : decode cX6_wouldScore 0 = .ok (.aload_n 0, 1) := by decide +kernel
theorem dX6_wouldScore_1 : decode cX6_wouldScore 1 = .ok (.aload_n 0, 1) := by decide +kernel
theorem dX6_wouldScore_2 : decode cX6_wouldScore 2 = .ok (.iload_n 1, 1) := by decide +kernel
theorem dX6_wouldScore_3 : decode cX6_wouldScore 3 = .ok (.invokevirtual 126, 3) := by decide +kernel
theorem dX6_wouldScore_6 : decode cX6_wouldScore 6 = .ok (.invokevirtual 108, 3) := by decide +kernel
theorem dX6_wouldScore_9 : decode cX6_wouldScore 9 = .ok (.ifCond .eq 11, 3) := by decide +kernel
theorem dX6_wouldScore_12 : decode cX6_wouldScore 12 = .ok (.aload_n 0, 1) := by decide +kernel
theorem dX6_wouldScore_13 : decode cX6_wouldScore 13 = .ok (.iload_n 1, 1) := by decide +kernel
theorem dX6_wouldScore_14 : decode cX6_wouldScore 14 = .ok (.invokevirtual 167, 3) := by decide +kernel
theorem dX6_wouldScore_17 : decode cX6_wouldScore 17 = .ok (.goto 4, 3) := by decide +kernel
theorem dX6_wouldScore_20 : decode cX6_wouldScore 20 = .ok (.iconst 0, 1) := by decide +kernel
theorem dX6_wouldScore_21 : decode cX6_wouldScore 21 = .ok (.ireturn, 1) := by decide +kernel
theorem dX6_wouldScoreAnew_0 : decode cX6_wouldScoreAnew 0 = .ok (.aload_n 0, 1) := by decide +kernel
theorem dX6_wouldScoreAnew_1 : decode cX6_wouldScoreAnew 1 = .ok (.aload_n 0, 1) := by decide +kernel
theorem dX6_wouldScoreAnew_2 : decode cX6_wouldScoreAnew 2 = .ok (.iload_n 1, 1) := by decide +kernel
theorem dX6_wouldScoreAnew_3 : decode cX6_wouldScoreAnew 3 = .ok (.invokevirtual 126, 3) := by decide +kernel
theorem dX6_wouldScoreAnew_6 : decode cX6_wouldScoreAnew 6 = .ok (.invokevirtual 108, 3) := by decide +kernel
theorem dX6_wouldScoreAnew_9 : decode cX6_wouldScoreAnew 9 = .ok (.ifCond .eq 11, 3) := by decide +kernel
theorem dX6_wouldScoreAnew_12 : decode cX6_wouldScoreAnew 12 = .ok (.aload_n 0, 1) := by decide +kernel
theorem dX6_wouldScoreAnew_13 : decode cX6_wouldScoreAnew 13 = .ok (.iload_n 1, 1) := by decide +kernel
theorem dX6_wouldScoreAnew_14 : decode cX6_wouldScoreAnew 14 = .ok (.invokevirtual 167, 3) := by decide +kernel
theorem dX6_wouldScoreAnew_17 : decode cX6_wouldScoreAnew 17 = .ok (.goto 4, 3) := by decide +kernel
theorem dX6_wouldScoreAnew_20 : decode cX6_wouldScoreAnew 20 = .ok (.iconst 0, 1) := by decide +kernel
theorem dX6_wouldScoreAnew_21 : decode cX6_wouldScoreAnew 21 = .ok (.ireturn, 1) := by decide +kernel
theorem dX6_worth_0 : decode cX6_worth 0 = .ok (.aload_n 0, 1) := by decide +kernel
theorem dX6_worth_1 : decode cX6_worth 1 = .ok (.iload_n 1, 1) := by decide +kernel
theorem dX6_worth_2 : decode cX6_worth 2 = .ok (.invokevirtual 136, 3) := by decide +kernel
theorem dX6_worth_5 : decode cX6_worth 5 = .ok (.aload_n 0, 1) := by decide +kernel
theorem dX6_worth_6 : decode cX6_worth 6 = .ok (.aload_n 0, 1) := by decide +kernel
theorem dX6_worth_7 : decode cX6_worth 7 = .ok (.iload_n 1, 1) := by decide +kernel
theorem dX6_worth_8 : decode cX6_worth 8 = .ok (.invokevirtual 140, 3) := by decide +kernel
theorem dX6_worth_11 : decode cX6_worth 11 = .ok (.iload_n 2, 1) := by decide +kernel
theorem dX6_worth_12 : decode cX6_worth 12 = .ok (.iload_n 3, 1) := by decide +kernel
theorem dX6_worth_13 : decode cX6_worth 13 = .ok (.iload 4, 2) := by decide +kernel
theorem dX6_worth_15 : decode cX6_worth 15 = .ok (.iconst 1, 1) := by decide +kernel
theorem dX6_worth_16 : decode cX6_worth 16 = .ok (.iconst 0, 1) := by decide +kernel
theorem dX6_worth_17 : decode cX6_worth 17 = .ok (.invokevirtual 143, 3) := by decide +kernel
theorem dX6_worth_20 : decode cX6_worth 20 = .ok (.aload_n 0, 1) := by decide +kernel
theorem dX6_worth_21 : decode cX6_worth 21 = .ok (.iload_n 1, 1) := by decide +kernel
theorem dX6_worth_22 : decode cX6_worth 22 = .ok (.invokevirtual 119, 3) := by decide +kernel
theorem dX6_worth_25 : decode cX6_worth 25 = .ok (.ifCond .ne 10, 3) := by decide +kernel
theorem dX6_worth_28 : decode cX6_worth 28 = .ok (.aload_n 0, 1) := by decide +kernel
theorem dX6_worth_29 : decode cX6_worth 29 = .ok (.invokevirtual 122, 3) := by decide +kernel
theorem dX6_worth_32 : decode cX6_worth 32 = .ok (.goto 8, 3) := by decide +kernel
theorem dX6_worth_35 : decode cX6_worth 35 = .ok (.aload_n 0, 1) := by decide +kernel
theorem dX6_worth_36 : decode cX6_worth 36 = .ok (.invokevirtual 122, 3) := by decide +kernel
theorem dX6_worth_39 : decode cX6_worth 39 = .ok (.ineg, 1) := by decide +kernel
theorem dX6_worth_40 : decode cX6_worth 40 = .ok (.ireturn, 1) := by decide +kernel
theorem dX6_advice_0 : decode cX6_advice 0 = .ok (.aload_n 0, 1) := by decide +kernel
theorem dX6_advice_1 : decode cX6_advice 1 = .ok (.iload_n 1, 1) := by decide +kernel
theorem dX6_advice_2 : decode cX6_advice 2 = .ok (.invokevirtual 126, 3) := by decide +kernel
theorem dX6_advice_5 : decode cX6_advice 5 = .ok (.istore_n 2, 1) := by decide +kernel
theorem dX6_advice_6 : decode cX6_advice 6 = .ok (.aload_n 0, 1) := by decide +kernel
theorem dX6_advice_7 : decode cX6_advice 7 = .ok (.iload_n 2, 1) := by decide +kernel
theorem dX6_advice_8 : decode cX6_advice 8 = .ok (.iload_n 2, 1) := by decide +kernel
theorem dX6_advice_9 : decode cX6_advice 9 = .ok (.ifCond .eq 17, 3) := by decide +kernel
theorem dX6_advice_12 : decode cX6_advice 12 = .ok (.aload_n 0, 1) := by decide +kernel
theorem dX6_advice_13 : decode cX6_advice 13 = .ok (.getfield 27, 3) := by decide +kernel
theorem dX6_advice_16 : decode cX6_advice 16 = .ok (.iload_n 1, 1) := by decide +kernel
theorem dX6_advice_17 : decode cX6_advice 17 = .ok (.iaload, 1) := by decide +kernel
theorem dX6_advice_18 : decode cX6_advice 18 = .ok (.iconst 2, 1) := by decide +kernel
theorem dX6_advice_19 : decode cX6_advice 19 = .ok (.if_icmp .ne 7, 3) := by decide +kernel
theorem dX6_advice_22 : decode cX6_advice 22 = .ok (.iconst 1, 1) := by decide +kernel
theorem dX6_advice_23 : decode cX6_advice 23 = .ok (.goto 4, 3) := by decide +kernel
theorem dX6_advice_26 : decode cX6_advice 26 = .ok (.iconst 0, 1) := by decide +kernel
theorem dX6_advice_27 : decode cX6_advice 27 = .ok (.invokevirtual 161, 3) := by decide +kernel
theorem dX6_advice_30 : decode cX6_advice 30 = .ok (.ifCond .ne 5, 3) := by decide +kernel
theorem dX6_advice_33 : decode cX6_advice 33 = .ok (.iconst 0, 1) := by decide +kernel
theorem dX6_advice_34 : decode cX6_advice 34 = .ok (.ireturn, 1) := by decide +kernel
theorem dX6_advice_35 : decode cX6_advice 35 = .ok (.iconst (-1), 1) := by decide +kernel
theorem dX6_advice_36 : decode cX6_advice 36 = .ok (.istore_n 3, 1) := by decide +kernel
theorem dX6_advice_37 : decode cX6_advice 37 = .ok (.iconst 0, 1) := by decide +kernel
theorem dX6_advice_38 : decode cX6_advice 38 = .ok (.istore 4, 2) := by decide +kernel
theorem dX6_advice_40 : decode cX6_advice 40 = .ok (.iconst 0, 1) := by decide +kernel
theorem dX6_advice_41 : decode cX6_advice 41 = .ok (.istore 5, 2) := by decide +kernel
theorem dX6_advice_43 : decode cX6_advice 43 = .ok (.iload 5, 2) := by decide +kernel
theorem dX6_advice_45 : decode cX6_advice 45 = .ok (.bipush 90, 2) := by decide +kernel
theorem dX6_advice_47 : decode cX6_advice 47 = .ok (.if_icmp .ge 153, 3) := by decide +kernel
theorem dX6_advice_50 : decode cX6_advice 50 = .ok (.iload 5, 2) := by decide +kernel
theorem dX6_advice_52 : decode cX6_advice 52 = .ok (.bipush 10, 2) := by decide +kernel
theorem dX6_advice_54 : decode cX6_advice 54 = .ok (.idiv, 1) := by decide +kernel
theorem dX6_advice_55 : decode cX6_advice 55 = .ok (.istore 6, 2) := by decide +kernel
theorem dX6_advice_57 : decode cX6_advice 57 = .ok (.bipush 40, 2) := by decide +kernel
theorem dX6_advice_59 : decode cX6_advice 59 = .ok (.iload 5, 2) := by decide +kernel
theorem dX6_advice_61 : decode cX6_advice 61 = .ok (.iconst 2, 1) := by decide +kernel
theorem dX6_advice_62 : decode cX6_advice 62 = .ok (.idiv, 1) := by decide +kernel
theorem dX6_advice_63 : decode cX6_advice 63 = .ok (.iconst 5, 1) := by decide +kernel
theorem dX6_advice_64 : decode cX6_advice 64 = .ok (.irem, 1) := by decide +kernel
theorem dX6_advice_65 : decode cX6_advice 65 = .ok (.bipush 10, 2) := by decide +kernel
theorem dX6_advice_67 : decode cX6_advice 67 = .ok (.imul, 1) := by decide +kernel
theorem dX6_advice_68 : decode cX6_advice 68 = .ok (.iadd, 1) := by decide +kernel
theorem dX6_advice_69 : decode cX6_advice 69 = .ok (.istore 7, 2) := by decide +kernel
theorem dX6_advice_71 : decode cX6_advice 71 = .ok (.iload 5, 2) := by decide +kernel
theorem dX6_advice_73 : decode cX6_advice 73 = .ok (.iconst 2, 1) := by decide +kernel
theorem dX6_advice_74 : decode cX6_advice 74 = .ok (.irem, 1) := by decide +kernel
theorem dX6_advice_75 : decode cX6_advice 75 = .ok (.ifCond .ne 7, 3) := by decide +kernel
theorem dX6_advice_78 : decode cX6_advice 78 = .ok (.iconst (-1), 1) := by decide +kernel
theorem dX6_advice_79 : decode cX6_advice 79 = .ok (.goto 4, 3) := by decide +kernel
theorem dX6_advice_82 : decode cX6_advice 82 = .ok (.iconst 1, 1) := by decide +kernel
theorem dX6_advice_83 : decode cX6_advice 83 = .ok (.istore 8, 2) := by decide +kernel
theorem dX6_advice_85 : decode cX6_advice 85 = .ok (.aload_n 0, 1) := by decide +kernel
theorem dX6_advice_86 : decode cX6_advice 86 = .ok (.iload_n 1, 1) := by decide +kernel
theorem dX6_advice_87 : decode cX6_advice 87 = .ok (.iload 6, 2) := by decide +kernel
theorem dX6_advice_89 : decode cX6_advice 89 = .ok (.iload 7, 2) := by decide +kernel
theorem dX6_advice_91 : decode cX6_advice 91 = .ok (.iload 8, 2) := by decide +kernel
theorem dX6_advice_93 : decode cX6_advice 93 = .ok (.invokevirtual 170, 3) := by decide +kernel
theorem dX6_advice_96 : decode cX6_advice 96 = .ok (.istore 9, 2) := by decide +kernel
theorem dX6_advice_98 : decode cX6_advice 98 = .ok (.aload_n 0, 1) := by decide +kernel
theorem dX6_advice_99 : decode cX6_advice 99 = .ok (.iload_n 1, 1) := by decide +kernel
theorem dX6_advice_100 : decode cX6_advice 100 = .ok (.iload 6, 2) := by decide +kernel
theorem dX6_advice_102 : decode cX6_advice 102 = .ok (.iload 7, 2) := by decide +kernel
theorem dX6_advice_104 : decode cX6_advice 104 = .ok (.iconst 5, 1) := by decide +kernel
theorem dX6_advice_105 : decode cX6_advice 105 = .ok (.isub, 1) := by decide +kernel
theorem dX6_advice_106 : decode cX6_advice 106 = .ok (.iload 8, 2) := by decide +kernel
theorem dX6_advice_108 : decode cX6_advice 108 = .ok (.invokevirtual 170, 3) := by decide +kernel
theorem dX6_advice_111 : decode cX6_advice 111 = .ok (.istore 10, 2) := by decide +kernel
theorem dX6_advice_113 : decode cX6_advice 113 = .ok (.aload_n 0, 1) := by decide +kernel
theorem dX6_advice_114 : decode cX6_advice 114 = .ok (.iload_n 1, 1) := by decide +kernel
theorem dX6_advice_115 : decode cX6_advice 115 = .ok (.iload 6, 2) := by decide +kernel
theorem dX6_advice_117 : decode cX6_advice 117 = .ok (.iload 7, 2) := by decide +kernel
theorem dX6_advice_119 : decode cX6_advice 119 = .ok (.iconst 5, 1) := by decide +kernel
theorem dX6_advice_120 : decode cX6_advice 120 = .ok (.iadd, 1) := by decide +kernel
theorem dX6_advice_121 : decode cX6_advice 121 = .ok (.iload 8, 2) := by decide +kernel
theorem dX6_advice_123 : decode cX6_advice 123 = .ok (.invokevirtual 170, 3) := by decide +kernel
theorem dX6_advice_126 : decode cX6_advice 126 = .ok (.istore 11, 2) := by decide +kernel
theorem dX6_advice_128 : decode cX6_advice 128 = .ok (.iload 10, 2) := by decide +kernel
theorem dX6_advice_130 : decode cX6_advice 130 = .ok (.iload 9, 2) := by decide +kernel
theorem dX6_advice_132 : decode cX6_advice 132 = .ok (.if_icmp .ge 8, 3) := by decide +kernel
theorem dX6_advice_135 : decode cX6_advice 135 = .ok (.iload 10, 2) := by decide +kernel
theorem dX6_advice_137 : decode cX6_advice 137 = .ok (.goto 5, 3) := by decide +kernel
theorem dX6_advice_140 : decode cX6_advice 140 = .ok (.iload 9, 2) := by decide +kernel
theorem dX6_advice_142 : decode cX6_advice 142 = .ok (.istore 9, 2) := by decide +kernel
theorem dX6_advice_144 : decode cX6_advice 144 = .ok (.iload 11, 2) := by decide +kernel
theorem dX6_advice_146 : decode cX6_advice 146 = .ok (.iload 9, 2) := by decide +kernel
theorem dX6_advice_148 : decode cX6_advice 148 = .ok (.if_icmp .ge 8, 3) := by decide +kernel
theorem dX6_advice_151 : decode cX6_advice 151 = .ok (.iload 11, 2) := by decide +kernel
theorem dX6_advice_153 : decode cX6_advice 153 = .ok (.goto 5, 3) := by decide +kernel
theorem dX6_advice_156 : decode cX6_advice 156 = .ok (.iload 9, 2) := by decide +kernel
theorem dX6_advice_158 : decode cX6_advice 158 = .ok (.istore 9, 2) := by decide +kernel
theorem dX6_advice_160 : decode cX6_advice 160 = .ok (.iload_n 3, 1) := by decide +kernel
theorem dX6_advice_161 : decode cX6_advice 161 = .ok (.iconst (-1), 1) := by decide +kernel
theorem dX6_advice_162 : decode cX6_advice 162 = .ok (.if_icmp .eq 10, 3) := by decide +kernel
theorem dX6_advice_165 : decode cX6_advice 165 = .ok (.iload 9, 2) := by decide +kernel
theorem dX6_advice_167 : decode cX6_advice 167 = .ok (.iload 4, 2) := by decide +kernel
theorem dX6_advice_169 : decode cX6_advice 169 = .ok (.if_icmp .le 25, 3) := by decide +kernel
theorem dX6_advice_172 : decode cX6_advice 172 = .ok (.sipush 1000, 3) := by decide +kernel
theorem dX6_advice_175 : decode cX6_advice 175 = .ok (.iload 6, 2) := by decide +kernel
theorem dX6_advice_177 : decode cX6_advice 177 = .ok (.imul, 1) := by decide +kernel
theorem dX6_advice_178 : decode cX6_advice 178 = .ok (.bipush 10, 2) := by decide +kernel
theorem dX6_advice_180 : decode cX6_advice 180 = .ok (.iload 7, 2) := by decide +kernel
theorem dX6_advice_182 : decode cX6_advice 182 = .ok (.imul, 1) := by decide +kernel
theorem dX6_advice_183 : decode cX6_advice 183 = .ok (.iadd, 1) := by decide +kernel
theorem dX6_advice_184 : decode cX6_advice 184 = .ok (.iload 5, 2) := by decide +kernel
theorem dX6_advice_186 : decode cX6_advice 186 = .ok (.iconst 2, 1) := by decide +kernel
theorem dX6_advice_187 : decode cX6_advice 187 = .ok (.irem, 1) := by decide +kernel
theorem dX6_advice_188 : decode cX6_advice 188 = .ok (.iadd, 1) := by decide +kernel
theorem dX6_advice_189 : decode cX6_advice 189 = .ok (.istore_n 3, 1) := by decide +kernel
theorem dX6_advice_190 : decode cX6_advice 190 = .ok (.iload 9, 2) := by decide +kernel
theorem dX6_advice_192 : decode cX6_advice 192 = .ok (.istore 4, 2) := by decide +kernel
theorem dX6_advice_194 : decode cX6_advice 194 = .ok (.iinc 5 1, 3) := by decide +kernel
theorem dX6_advice_197 : decode cX6_advice 197 = .ok (.goto (-154), 3) := by decide +kernel
theorem dX6_advice_200 : decode cX6_advice 200 = .ok (.iload_n 3, 1) := by decide +kernel
theorem dX6_advice_201 : decode cX6_advice 201 = .ok (.ireturn, 1) := by decide +kernel
theorem dX6_average_0 : decode cX6_average 0 = .ok (.aload_n 0, 1) := by decide +kernel
theorem dX6_average_1 : decode cX6_average 1 = .ok (.getfield 66, 3) := by decide +kernel
theorem dX6_average_4 : decode cX6_average 4 = .ok (.iload_n 1, 1) := by decide +kernel
theorem dX6_average_5 : decode cX6_average 5 = .ok (.iaload, 1) := by decide +kernel
theorem dX6_average_6 : decode cX6_average 6 = .ok (.ifCond .ne 8, 3) := by decide +kernel
theorem dX6_average_9 : decode cX6_average 9 = .ok (.bipush 30, 2) := by decide +kernel
theorem dX6_average_11 : decode cX6_average 11 = .ok (.goto 16, 3) := by decide +kernel
theorem dX6_average_14 : decode cX6_average 14 = .ok (.aload_n 0, 1) := by decide +kernel
theorem dX6_average_15 : decode cX6_average 15 = .ok (.getfield 69, 3) := by decide +kernel
theorem dX6_average_18 : decode cX6_average 18 = .ok (.iload_n 1, 1) := by decide +kernel
theorem dX6_average_19 : decode cX6_average 19 = .ok (.iaload, 1) := by decide +kernel
theorem dX6_average_20 : decode cX6_average 20 = .ok (.aload_n 0, 1) := by decide +kernel
theorem dX6_average_21 : decode cX6_average 21 = .ok (.getfield 66, 3) := by decide +kernel
theorem dX6_average_24 : decode cX6_average 24 = .ok (.iload_n 1, 1) := by decide +kernel
theorem dX6_average_25 : decode cX6_average 25 = .ok (.iaload, 1) := by decide +kernel
theorem dX6_average_26 : decode cX6_average 26 = .ok (.idiv, 1) := by decide +kernel
theorem dX6_average_27 : decode cX6_average 27 = .ok (.ireturn, 1) := by decide +kernel
theorem dX6_standing_0 : decode cX6_standing 0 = .ok (.aload_n 0, 1) := by decide +kernel
theorem dX6_standing_1 : decode cX6_standing 1 = .ok (.iload_n 1, 1) := by decide +kernel
theorem dX6_standing_2 : decode cX6_standing 2 = .ok (.iconst 0, 1) := by decide +kernel
theorem dX6_standing_3 : decode cX6_standing 3 = .ok (.iconst 5, 1) := by decide +kernel
theorem dX6_standing_4 : decode cX6_standing 4 = .ok (.invokestatic 90, 3) := by decide +kernel
theorem dX6_standing_7 : decode cX6_standing 7 = .ok (.invokevirtual 108, 3) := by decide +kernel
theorem dX6_standing_10 : decode cX6_standing 10 = .ok (.ifCond .ne 5, 3) := by decide +kernel
theorem dX6_standing_13 : decode cX6_standing 13 = .ok (.iconst 0, 1) := by decide +kernel
theorem dX6_standing_14 : decode cX6_standing 14 = .ok (.ireturn, 1) := by decide +kernel
theorem dX6_standing_15 : decode cX6_standing 15 = .ok (.iconst 0, 1) := by decide +kernel
theorem dX6_standing_16 : decode cX6_standing 16 = .ok (.istore_n 2, 1) := by decide +kernel
theorem dX6_standing_17 : decode cX6_standing 17 = .ok (.iload_n 2, 1) := by decide +kernel
theorem dX6_standing_18 : decode cX6_standing 18 = .ok (.bipush 6, 2) := by decide +kernel
theorem dX6_standing_20 : decode cX6_standing 20 = .ok (.if_icmp .ge 120, 3) := by decide +kernel
theorem dX6_standing_23 : decode cX6_standing 23 = .ok (.iconst 0, 1) := by decide +kernel
theorem dX6_standing_24 : decode cX6_standing 24 = .ok (.istore_n 3, 1) := by decide +kernel
theorem dX6_standing_25 : decode cX6_standing 25 = .ok (.iconst 0, 1) := by decide +kernel
theorem dX6_standing_26 : decode cX6_standing 26 = .ok (.istore 4, 2) := by decide +kernel
theorem dX6_standing_28 : decode cX6_standing 28 = .ok (.iload 4, 2) := by decide +kernel
theorem dX6_standing_30 : decode cX6_standing 30 = .ok (.bipush 6, 2) := by decide +kernel
theorem dX6_standing_32 : decode cX6_standing 32 = .ok (.if_icmp .ge 95, 3) := by decide +kernel
theorem dX6_standing_35 : decode cX6_standing 35 = .ok (.aload_n 0, 1) := by decide +kernel
theorem dX6_standing_36 : decode cX6_standing 36 = .ok (.getfield 63, 3) := by decide +kernel
theorem dX6_standing_39 : decode cX6_standing 39 = .ok (.iload 4, 2) := by decide +kernel
theorem dX6_standing_41 : decode cX6_standing 41 = .ok (.iaload, 1) := by decide +kernel
theorem dX6_standing_42 : decode cX6_standing 42 = .ok (.aload_n 0, 1) := by decide +kernel
theorem dX6_standing_43 : decode cX6_standing 43 = .ok (.getfield 63, 3) := by decide +kernel
theorem dX6_standing_46 : decode cX6_standing 46 = .ok (.iload_n 2, 1) := by decide +kernel
theorem dX6_standing_47 : decode cX6_standing 47 = .ok (.iaload, 1) := by decide +kernel
theorem dX6_standing_48 : decode cX6_standing 48 = .ok (.if_icmp .ne 41, 3) := by decide +kernel
end
section
theorem dX6_standing_51 : decode cX6_standing 51 = .ok (.aload_n 0, 1) := by decide +kernel
theorem dX6_standing_52 : decode cX6_standing 52 = .ok (.iload 4, 2) := by decide +kernel
theorem dX6_standing_54 : decode cX6_standing 54 = .ok (.invokevirtual 174, 3) := by decide +kernel
theorem dX6_standing_57 : decode cX6_standing 57 = .ok (.aload_n 0, 1) := by decide +kernel
theorem dX6_standing_58 : decode cX6_standing 58 = .ok (.iload_n 2, 1) := by decide +kernel
theorem dX6_standing_59 : decode cX6_standing 59 = .ok (.invokevirtual 174, 3) := by decide +kernel
theorem dX6_standing_62 : decode cX6_standing 62 = .ok (.if_icmp .lt 23, 3) := by decide +kernel
theorem dX6_standing_65 : decode cX6_standing 65 = .ok (.aload_n 0, 1) := by decide +kernel
theorem dX6_standing_66 : decode cX6_standing 66 = .ok (.iload 4, 2) := by decide +kernel
theorem dX6_standing_68 : decode cX6_standing 68 = .ok (.invokevirtual 174, 3) := by decide +kernel
theorem dX6_standing_71 : decode cX6_standing 71 = .ok (.aload_n 0, 1) := by decide +kernel
theorem dX6_standing_72 : decode cX6_standing 72 = .ok (.iload_n 2, 1) := by decide +kernel
theorem dX6_standing_73 : decode cX6_standing 73 = .ok (.invokevirtual 174, 3) := by decide +kernel
theorem dX6_standing_76 : decode cX6_standing 76 = .ok (.if_icmp .ne 13, 3) := by decide +kernel
theorem dX6_standing_79 : decode cX6_standing 79 = .ok (.iload 4, 2) := by decide +kernel
theorem dX6_standing_81 : decode cX6_standing 81 = .ok (.iload_n 2, 1) := by decide +kernel
theorem dX6_standing_82 : decode cX6_standing 82 = .ok (.if_icmp .ge 7, 3) := by decide +kernel
theorem dX6_standing_85 : decode cX6_standing 85 = .ok (.iconst 1, 1) := by decide +kernel
theorem dX6_standing_86 : decode cX6_standing 86 = .ok (.goto 4, 3) := by decide +kernel
theorem dX6_standing_89 : decode cX6_standing 89 = .ok (.iconst 0, 1) := by decide +kernel
theorem dX6_standing_90 : decode cX6_standing 90 = .ok (.istore 5, 2) := by decide +kernel
theorem dX6_standing_92 : decode cX6_standing 92 = .ok (.iload_n 3, 1) := by decide +kernel
theorem dX6_standing_93 : decode cX6_standing 93 = .ok (.aload_n 0, 1) := by decide +kernel
theorem dX6_standing_94 : decode cX6_standing 94 = .ok (.getfield 63, 3) := by decide +kernel
theorem dX6_standing_97 : decode cX6_standing 97 = .ok (.iload 4, 2) := by decide +kernel
theorem dX6_standing_99 : decode cX6_standing 99 = .ok (.iaload, 1) := by decide +kernel
theorem dX6_standing_100 : decode cX6_standing 100 = .ok (.aload_n 0, 1) := by decide +kernel
theorem dX6_standing_101 : decode cX6_standing 101 = .ok (.getfield 63, 3) := by decide +kernel
theorem dX6_standing_104 : decode cX6_standing 104 = .ok (.iload_n 2, 1) := by decide +kernel
theorem dX6_standing_105 : decode cX6_standing 105 = .ok (.iaload, 1) := by decide +kernel
theorem dX6_standing_106 : decode cX6_standing 106 = .ok (.if_icmp .gt 8, 3) := by decide +kernel
theorem dX6_standing_109 : decode cX6_standing 109 = .ok (.iload 5, 2) := by decide +kernel
theorem dX6_standing_111 : decode cX6_standing 111 = .ok (.ifCond .eq 7, 3) := by decide +kernel
theorem dX6_standing_114 : decode cX6_standing 114 = .ok (.iconst 1, 1) := by decide +kernel
theorem dX6_standing_115 : decode cX6_standing 115 = .ok (.goto 4, 3) := by decide +kernel
theorem dX6_standing_118 : decode cX6_standing 118 = .ok (.iconst 0, 1) := by decide +kernel
theorem dX6_standing_119 : decode cX6_standing 119 = .ok (.iadd, 1) := by decide +kernel
theorem dX6_standing_120 : decode cX6_standing 120 = .ok (.istore_n 3, 1) := by decide +kernel
theorem dX6_standing_121 : decode cX6_standing 121 = .ok (.iinc 4 1, 3) := by decide +kernel
theorem dX6_standing_124 : decode cX6_standing 124 = .ok (.goto (-96), 3) := by decide +kernel
theorem dX6_standing_127 : decode cX6_standing 127 = .ok (.aload_n 0, 1) := by decide +kernel
theorem dX6_standing_128 : decode cX6_standing 128 = .ok (.getfield 78, 3) := by decide +kernel
theorem dX6_standing_131 : decode cX6_standing 131 = .ok (.iload_n 3, 1) := by decide +kernel
theorem dX6_standing_132 : decode cX6_standing 132 = .ok (.iload_n 2, 1) := by decide +kernel
theorem dX6_standing_133 : decode cX6_standing 133 = .ok (.iastore, 1) := by decide +kernel
theorem dX6_standing_134 : decode cX6_standing 134 = .ok (.iinc 2 1, 3) := by decide +kernel
theorem dX6_standing_137 : decode cX6_standing 137 = .ok (.goto (-120), 3) := by decide +kernel
theorem dX6_standing_140 : decode cX6_standing 140 = .ok (.aload_n 0, 1) := by decide +kernel
theorem dX6_standing_141 : decode cX6_standing 141 = .ok (.getfield 78, 3) := by decide +kernel
theorem dX6_standing_144 : decode cX6_standing 144 = .ok (.iload_n 1, 1) := by decide +kernel
theorem dX6_standing_145 : decode cX6_standing 145 = .ok (.iaload, 1) := by decide +kernel
theorem dX6_standing_146 : decode cX6_standing 146 = .ok (.ireturn, 1) := by decide +kernel
theorem dX6_ofTeam_0 : decode cX6_ofTeam 0 = .ok (.aload_n 0, 1) := by decide +kernel
theorem dX6_ofTeam_1 : decode cX6_ofTeam 1 = .ok (.iload_n 1, 1) := by decide +kernel
theorem dX6_ofTeam_2 : decode cX6_ofTeam 2 = .ok (.invokestatic 94, 3) := by decide +kernel
theorem dX6_ofTeam_5 : decode cX6_ofTeam 5 = .ok (.iload_n 2, 1) := by decide +kernel
theorem dX6_ofTeam_6 : decode cX6_ofTeam 6 = .ok (.iconst 0, 1) := by decide +kernel
theorem dX6_ofTeam_7 : decode cX6_ofTeam 7 = .ok (.iconst 2, 1) := by decide +kernel
theorem dX6_ofTeam_8 : decode cX6_ofTeam 8 = .ok (.invokestatic 90, 3) := by decide +kernel
theorem dX6_ofTeam_11 : decode cX6_ofTeam 11 = .ok (.invokevirtual 161, 3) := by decide +kernel
theorem dX6_ofTeam_14 : decode cX6_ofTeam 14 = .ok (.ifCond .ne 5, 3) := by decide +kernel
theorem dX6_ofTeam_17 : decode cX6_ofTeam 17 = .ok (.iconst 0, 1) := by decide +kernel
theorem dX6_ofTeam_18 : decode cX6_ofTeam 18 = .ok (.ireturn, 1) := by decide +kernel
theorem dX6_ofTeam_19 : decode cX6_ofTeam 19 = .ok (.iload_n 2, 1) := by decide +kernel
theorem dX6_ofTeam_20 : decode cX6_ofTeam 20 = .ok (.ifCond .ne 12, 3) := by decide +kernel
theorem dX6_ofTeam_23 : decode cX6_ofTeam 23 = .ok (.aload_n 0, 1) := by decide +kernel
theorem dX6_ofTeam_24 : decode cX6_ofTeam 24 = .ok (.getfield 63, 3) := by decide +kernel
theorem dX6_ofTeam_27 : decode cX6_ofTeam 27 = .ok (.iload_n 1, 1) := by decide +kernel
theorem dX6_ofTeam_28 : decode cX6_ofTeam 28 = .ok (.iaload, 1) := by decide +kernel
theorem dX6_ofTeam_29 : decode cX6_ofTeam 29 = .ok (.goto 23, 3) := by decide +kernel
theorem dX6_ofTeam_32 : decode cX6_ofTeam 32 = .ok (.iload_n 2, 1) := by decide +kernel
theorem dX6_ofTeam_33 : decode cX6_ofTeam 33 = .ok (.iconst 1, 1) := by decide +kernel
theorem dX6_ofTeam_34 : decode cX6_ofTeam 34 = .ok (.if_icmp .ne 12, 3) := by decide +kernel
theorem dX6_ofTeam_37 : decode cX6_ofTeam 37 = .ok (.aload_n 0, 1) := by decide +kernel
theorem dX6_ofTeam_38 : decode cX6_ofTeam 38 = .ok (.getfield 66, 3) := by decide +kernel
theorem dX6_ofTeam_41 : decode cX6_ofTeam 41 = .ok (.iload_n 1, 1) := by decide +kernel
theorem dX6_ofTeam_42 : decode cX6_ofTeam 42 = .ok (.iaload, 1) := by decide +kernel
theorem dX6_ofTeam_43 : decode cX6_ofTeam 43 = .ok (.goto 9, 3) := by decide +kernel
theorem dX6_ofTeam_46 : decode cX6_ofTeam 46 = .ok (.aload_n 0, 1) := by decide +kernel
theorem dX6_ofTeam_47 : decode cX6_ofTeam 47 = .ok (.getfield 69, 3) := by decide +kernel
theorem dX6_ofTeam_50 : decode cX6_ofTeam 50 = .ok (.iload_n 1, 1) := by decide +kernel
theorem dX6_ofTeam_51 : decode cX6_ofTeam 51 = .ok (.iaload, 1) := by decide +kernel
theorem dX6_ofTeam_52 : decode cX6_ofTeam 52 = .ok (.ireturn, 1) := by decide +kernel
theorem dJ9_abs_0f7a4_0 : decode cJ9_abs_0f7a4 0 = .ok (.iload_n 0, 1) := by decide +kernel
theorem dJ9_abs_0f7a4_1 : decode cJ9_abs_0f7a4 1 = .ok (.ifCond .ge 8, 3) := by decide +kernel
theorem dJ9_abs_0f7a4_4 : decode cJ9_abs_0f7a4 4 = .ok (.iload_n 0, 1) := by decide +kernel
theorem dJ9_abs_0f7a4_5 : decode cJ9_abs_0f7a4 5 = .ok (.ineg, 1) := by decide +kernel
theorem dJ9_abs_0f7a4_6 : decode cJ9_abs_0f7a4 6 = .ok (.goto 4, 3) := by decide +kernel
theorem dJ9_abs_0f7a4_9 : decode cJ9_abs_0f7a4 9 = .ok (.iload_n 0, 1) := by decide +kernel
theorem dJ9_abs_0f7a4_10 : decode cJ9_abs_0f7a4 10 = .ok (.ireturn, 1) := by decide +kernel
theorem dJ9_min_7cf53_0 : decode cJ9_min_7cf53 0 = .ok (.iload_n 0, 1) := by decide +kernel
theorem dJ9_min_7cf53_1 : decode cJ9_min_7cf53 1 = .ok (.iload_n 1, 1) := by decide +kernel
theorem dJ9_min_7cf53_2 : decode cJ9_min_7cf53 2 = .ok (.if_icmp .gt 7, 3) := by decide +kernel
theorem dJ9_min_7cf53_5 : decode cJ9_min_7cf53 5 = .ok (.iload_n 0, 1) := by decide +kernel
theorem dJ9_min_7cf53_6 : decode cJ9_min_7cf53 6 = .ok (.goto 4, 3) := by decide +kernel
theorem dJ9_min_7cf53_9 : decode cJ9_min_7cf53 9 = .ok (.iload_n 1, 1) := by decide +kernel
theorem dJ9_min_7cf53_10 : decode cJ9_min_7cf53 10 = .ok (.ireturn, 1) := by decide +kernel
theorem dL_plan_0 : decode cL_plan 0 = .ok (.aload 5, 2) := by decide +kernel
theorem dL_plan_2 : decode cL_plan 2 = .ok (.iconst 0, 1) := by decide +kernel
theorem dL_plan_3 : decode cL_plan 3 = .ok (.aload_n 0, 1) := by decide +kernel
theorem dL_plan_4 : decode cL_plan 4 = .ok (.iload_n 1, 1) := by decide +kernel
theorem dL_plan_5 : decode cL_plan 5 = .ok (.iload_n 2, 1) := by decide +kernel
theorem dL_plan_6 : decode cL_plan 6 = .ok (.iload_n 3, 1) := by decide +kernel
theorem dL_plan_7 : decode cL_plan 7 = .ok (.iload 4, 2) := by decide +kernel
theorem dL_plan_9 : decode cL_plan 9 = .ok (.invokevirtual 7, 3) := by decide +kernel
theorem dL_plan_12 : decode cL_plan 12 = .ok (.i2l, 1) := by decide +kernel
theorem dL_plan_13 : decode cL_plan 13 = .ok (.lastore, 1) := by decide +kernel
theorem dL_plan_14 : decode cL_plan 14 = .ok (.goto 15, 3) := by decide +kernel
theorem dL_plan_17 : decode cL_plan 17 = .ok (.astore 6, 2) := by decide +kernel
theorem dL_plan_19 : decode cL_plan 19 = .ok (.iconst 1, 1) := by decide +kernel
theorem dL_plan_20 : decode cL_plan 20 = .ok (.ireturn, 1) := by decide +kernel
theorem dL_plan_21 : decode cL_plan 21 = .ok (.astore 6, 2) := by decide +kernel
theorem dL_plan_23 : decode cL_plan 23 = .ok (.iconst 2, 1) := by decide +kernel
theorem dL_plan_24 : decode cL_plan 24 = .ok (.ireturn, 1) := by decide +kernel
theorem dL_plan_25 : decode cL_plan 25 = .ok (.astore 6, 2) := by decide +kernel
theorem dL_plan_27 : decode cL_plan 27 = .ok (.iconst 3, 1) := by decide +kernel
theorem dL_plan_28 : decode cL_plan 28 = .ok (.ireturn, 1) := by decide +kernel
theorem dL_plan_29 : decode cL_plan 29 = .ok (.iconst 0, 1) := by decide +kernel
theorem dL_plan_30 : decode cL_plan 30 = .ok (.ireturn, 1) := by decide +kernel
theorem dL_crew_0 : decode cL_crew 0 = .ok (.aload_n 2, 1) := by decide +kernel
theorem dL_crew_1 : decode cL_crew 1 = .ok (.iconst 0, 1) := by decide +kernel
theorem dL_crew_2 : decode cL_crew 2 = .ok (.aload_n 0, 1) := by decide +kernel
theorem dL_crew_3 : decode cL_crew 3 = .ok (.iload_n 1, 1) := by decide +kernel
theorem dL_crew_4 : decode cL_crew 4 = .ok (.invokevirtual 19, 3) := by decide +kernel
theorem dL_crew_7 : decode cL_crew 7 = .ok (.i2l, 1) := by decide +kernel
theorem dL_crew_8 : decode cL_crew 8 = .ok (.lastore, 1) := by decide +kernel
theorem dL_crew_9 : decode cL_crew 9 = .ok (.goto 6, 3) := by decide +kernel
theorem dL_crew_12 : decode cL_crew 12 = .ok (.astore_n 3, 1) := by decide +kernel
theorem dL_crew_13 : decode cL_crew 13 = .ok (.iconst 1, 1) := by decide +kernel
theorem dL_crew_14 : decode cL_crew 14 = .ok (.ireturn, 1) := by decide +kernel
theorem dL_crew_15 : decode cL_crew 15 = .ok (.iconst 0, 1) := by decide +kernel
theorem dL_crew_16 : decode cL_crew 16 = .ok (.ireturn, 1) := by decide +kernel
theorem dL_shoot_0 : decode cL_shoot 0 = .ok (.aload 7, 2) := by decide +kernel
theorem dL_shoot_2 : decode cL_shoot 2 = .ok (.iconst 0, 1) := by decide +kernel
theorem dL_shoot_3 : decode cL_shoot 3 = .ok (.aload_n 0, 1) := by decide +kernel
theorem dL_shoot_4 : decode cL_shoot 4 = .ok (.iload_n 1, 1) := by decide +kernel
theorem dL_shoot_5 : decode cL_shoot 5 = .ok (.iload_n 2, 1) := by decide +kernel
theorem dL_shoot_6 : decode cL_shoot 6 = .ok (.iload_n 3, 1) := by decide +kernel
theorem dL_shoot_7 : decode cL_shoot 7 = .ok (.iload 4, 2) := by decide +kernel
theorem dL_shoot_9 : decode cL_shoot 9 = .ok (.iload 5, 2) := by decide +kernel
theorem dL_shoot_11 : decode cL_shoot 11 = .ok (.iload 6, 2) := by decide +kernel
theorem dL_shoot_13 : decode cL_shoot 13 = .ok (.invokevirtual 23, 3) := by decide +kernel
theorem dL_shoot_16 : decode cL_shoot 16 = .ok (.i2l, 1) := by decide +kernel
theorem dL_shoot_17 : decode cL_shoot 17 = .ok (.lastore, 1) := by decide +kernel
theorem dL_shoot_18 : decode cL_shoot 18 = .ok (.goto 15, 3) := by decide +kernel
theorem dL_shoot_21 : decode cL_shoot 21 = .ok (.astore 8, 2) := by decide +kernel
theorem dL_shoot_23 : decode cL_shoot 23 = .ok (.iconst 1, 1) := by decide +kernel
theorem dL_shoot_24 : decode cL_shoot 24 = .ok (.ireturn, 1) := by decide +kernel
theorem dL_shoot_25 : decode cL_shoot 25 = .ok (.astore 8, 2) := by decide +kernel
theorem dL_shoot_27 : decode cL_shoot 27 = .ok (.iconst 2, 1) := by decide +kernel
theorem dL_shoot_28 : decode cL_shoot 28 = .ok (.ireturn, 1) := by decide +kernel
theorem dL_shoot_29 : decode cL_shoot 29 = .ok (.astore 8, 2) := by decide +kernel
theorem dL_shoot_31 : decode cL_shoot 31 = .ok (.iconst 3, 1) := by decide +kernel
theorem dL_shoot_32 : decode cL_shoot 32 = .ok (.ireturn, 1) := by decide +kernel
theorem dL_shoot_33 : decode cL_shoot 33 = .ok (.iconst 0, 1) := by decide +kernel
theorem dL_shoot_34 : decode cL_shoot 34 = .ok (.ireturn, 1) := by decide +kernel
theorem dL_pass_0 : decode cL_pass 0 = .ok (.aload_n 2, 1) := by decide +kernel
theorem dL_pass_1 : decode cL_pass 1 = .ok (.iconst 0, 1) := by decide +kernel
theorem dL_pass_2 : decode cL_pass 2 = .ok (.aload_n 0, 1) := by decide +kernel
theorem dL_pass_3 : decode cL_pass 3 = .ok (.iload_n 1, 1) := by decide +kernel
theorem dL_pass_4 : decode cL_pass 4 = .ok (.invokevirtual 27, 3) := by decide +kernel
theorem dL_pass_7 : decode cL_pass 7 = .ok (.i2l, 1) := by decide +kernel
theorem dL_pass_8 : decode cL_pass 8 = .ok (.lastore, 1) := by decide +kernel
theorem dL_pass_9 : decode cL_pass 9 = .ok (.goto 9, 3) := by decide +kernel
theorem dL_pass_12 : decode cL_pass 12 = .ok (.astore_n 3, 1) := by decide +kernel
theorem dL_pass_13 : decode cL_pass 13 = .ok (.iconst 1, 1) := by decide +kernel
theorem dL_pass_14 : decode cL_pass 14 = .ok (.ireturn, 1) := by decide +kernel
theorem dL_pass_15 : decode cL_pass 15 = .ok (.astore_n 3, 1) := by decide +kernel
theorem dL_pass_16 : decode cL_pass 16 = .ok (.iconst 2, 1) := by decide +kernel
theorem dL_pass_17 : decode cL_pass 17 = .ok (.ireturn, 1) := by decide +kernel
theorem dL_pass_18 : decode cL_pass 18 = .ok (.iconst 0, 1) := by decide +kernel
theorem dL_pass_19 : decode cL_pass 19 = .ok (.ireturn, 1) := by decide +kernel
theorem dL_ofSheet_0 : decode cL_ofSheet 0 = .ok (.aload_n 3, 1) := by decide +kernel
theorem dL_ofSheet_1 : decode cL_ofSheet 1 = .ok (.iconst 0, 1) := by decide +kernel
theorem dL_ofSheet_2 : decode cL_ofSheet 2 = .ok (.aload_n 0, 1) := by decide +kernel
theorem dL_ofSheet_3 : decode cL_ofSheet 3 = .ok (.iload_n 1, 1) := by decide +kernel
theorem dL_ofSheet_4 : decode cL_ofSheet 4 = .ok (.iload_n 2, 1) := by decide +kernel
theorem dL_ofSheet_5 : decode cL_ofSheet 5 = .ok (.invokevirtual 30, 3) := by decide +kernel
theorem dL_ofSheet_8 : decode cL_ofSheet 8 = .ok (.i2l, 1) := by decide +kernel
theorem dL_ofSheet_9 : decode cL_ofSheet 9 = .ok (.lastore, 1) := by decide +kernel
theorem dL_ofSheet_10 : decode cL_ofSheet 10 = .ok (.goto 11, 3) := by decide +kernel
theorem dL_ofSheet_13 : decode cL_ofSheet 13 = .ok (.astore 4, 2) := by decide +kernel
theorem dL_ofSheet_15 : decode cL_ofSheet 15 = .ok (.iconst 1, 1) := by decide +kernel
theorem dL_ofSheet_16 : decode cL_ofSheet 16 = .ok (.ireturn, 1) := by decide +kernel
theorem dL_ofSheet_17 : decode cL_ofSheet 17 = .ok (.astore 4, 2) := by decide +kernel
theorem dL_ofSheet_19 : decode cL_ofSheet 19 = .ok (.iconst 2, 1) := by decide +kernel
theorem dL_ofSheet_20 : decode cL_ofSheet 20 = .ok (.ireturn, 1) := by decide +kernel
theorem dL_ofSheet_21 : decode cL_ofSheet 21 = .ok (.iconst 0, 1) := by decide +kernel
theorem dL_ofSheet_22 : decode cL_ofSheet 22 = .ok (.ireturn, 1) := by decide +kernel
theorem dL_wear_0 : decode cL_wear 0 = .ok (.aload 4, 2) := by decide +kernel
theorem dL_wear_2 : decode cL_wear 2 = .ok (.iconst 0, 1) := by decide +kernel
theorem dL_wear_3 : decode cL_wear 3 = .ok (.aload_n 0, 1) := by decide +kernel
theorem dL_wear_4 : decode cL_wear 4 = .ok (.iload_n 1, 1) := by decide +kernel
theorem dL_wear_5 : decode cL_wear 5 = .ok (.iload_n 2, 1) := by decide +kernel
theorem dL_wear_6 : decode cL_wear 6 = .ok (.iload_n 3, 1) := by decide +kernel
theorem dL_wear_7 : decode cL_wear 7 = .ok (.invokevirtual 34, 3) := by decide +kernel
theorem dL_wear_10 : decode cL_wear 10 = .ok (.i2l, 1) := by decide +kernel
theorem dL_wear_11 : decode cL_wear 11 = .ok (.lastore, 1) := by decide +kernel
theorem dL_wear_12 : decode cL_wear 12 = .ok (.goto 7, 3) := by decide +kernel
theorem dL_wear_15 : decode cL_wear 15 = .ok (.astore 5, 2) := by decide +kernel
theorem dL_wear_17 : decode cL_wear 17 = .ok (.iconst 1, 1) := by decide +kernel
theorem dL_wear_18 : decode cL_wear 18 = .ok (.ireturn, 1) := by decide +kernel
theorem dL_wear_19 : decode cL_wear 19 = .ok (.iconst 0, 1) := by decide +kernel
theorem dL_wear_20 : decode cL_wear 20 = .ok (.ireturn, 1) := by decide +kernel
theorem dL_ofGame_0 : decode cL_ofGame 0 = .ok (.aload_n 3, 1) := by decide +kernel
theorem dL_ofGame_1 : decode cL_ofGame 1 = .ok (.iconst 0, 1) := by decide +kernel
theorem dL_ofGame_2 : decode cL_ofGame 2 = .ok (.aload_n 0, 1) := by decide +kernel
theorem dL_ofGame_3 : decode cL_ofGame 3 = .ok (.iload_n 1, 1) := by decide +kernel
theorem dL_ofGame_4 : decode cL_ofGame 4 = .ok (.iload_n 2, 1) := by decide +kernel
theorem dL_ofGame_5 : decode cL_ofGame 5 = .ok (.invokevirtual 38, 3) := by decide +kernel
theorem dL_ofGame_8 : decode cL_ofGame 8 = .ok (.i2l, 1) := by decide +kernel
theorem dL_ofGame_9 : decode cL_ofGame 9 = .ok (.lastore, 1) := by decide +kernel
theorem dL_ofGame_10 : decode cL_ofGame 10 = .ok (.goto 11, 3) := by decide +kernel
theorem dL_ofGame_13 : decode cL_ofGame 13 = .ok (.astore 4, 2) := by decide +kernel
theorem dL_ofGame_15 : decode cL_ofGame 15 = .ok (.iconst 1, 1) := by decide +kernel
theorem dL_ofGame_16 : decode cL_ofGame 16 = .ok (.ireturn, 1) := by decide +kernel
theorem dL_ofGame_17 : decode cL_ofGame 17 = .ok (.astore 4, 2) := by decide +kernel
theorem dL_ofGame_19 : decode cL_ofGame 19 = .ok (.iconst 2, 1) := by decide +kernel
theorem dL_ofGame_20 : decode cL_ofGame 20 = .ok (.ireturn, 1) := by decide +kernel
theorem dL_ofGame_21 : decode cL_ofGame 21 = .ok (.iconst 0, 1) := by decide +kernel
theorem dL_ofGame_22 : decode cL_ofGame 22 = .ok (.ireturn, 1) := by decide +kernel
theorem dL_stone_0 : decode cL_stone 0 = .ok (.aload 4, 2) := by decide +kernel
theorem dL_stone_2 : decode cL_stone 2 = .ok (.iconst 0, 1) := by decide +kernel
theorem dL_stone_3 : decode cL_stone 3 = .ok (.aload_n 0, 1) := by decide +kernel
theorem dL_stone_4 : decode cL_stone 4 = .ok (.iload_n 1, 1) := by decide +kernel
theorem dL_stone_5 : decode cL_stone 5 = .ok (.iload_n 2, 1) := by decide +kernel
theorem dL_stone_6 : decode cL_stone 6 = .ok (.iload_n 3, 1) := by decide +kernel
theorem dL_stone_7 : decode cL_stone 7 = .ok (.invokevirtual 41, 3) := by decide +kernel
theorem dL_stone_10 : decode cL_stone 10 = .ok (.i2l, 1) := by decide +kernel
theorem dL_stone_11 : decode cL_stone 11 = .ok (.lastore, 1) := by decide +kernel
theorem dL_stone_12 : decode cL_stone 12 = .ok (.goto 7, 3) := by decide +kernel
theorem dL_stone_15 : decode cL_stone 15 = .ok (.astore 5, 2) := by decide +kernel
theorem dL_stone_17 : decode cL_stone 17 = .ok (.iconst 1, 1) := by decide +kernel
theorem dL_stone_18 : decode cL_stone 18 = .ok (.ireturn, 1) := by decide +kernel
theorem dL_stone_19 : decode cL_stone 19 = .ok (.iconst 0, 1) := by decide +kernel
theorem dL_stone_20 : decode cL_stone 20 = .ok (.ireturn, 1) := by decide +kernel
theorem dL_wouldScore_0 : decode cL_wouldScore 0 = .ok (.aload_n 2, 1) := by decide +kernel
theorem dL_wouldScore_1 : decode cL_wouldScore 1 = .ok (.iconst 0, 1) := by decide +kernel
theorem dL_wouldScore_2 : decode cL_wouldScore 2 = .ok (.aload_n 0, 1) := by decide +kernel
theorem dL_wouldScore_3 : decode cL_wouldScore 3 = .ok (.iload_n 1, 1) := by decide +kernel
theorem dL_wouldScore_4 : decode cL_wouldScore 4 = .ok (.invokevirtual 44, 3) := by decide +kernel
theorem dL_wouldScore_7 : decode cL_wouldScore 7 = .ok (.i2l, 1) := by decide +kernel
theorem dL_wouldScore_8 : decode cL_wouldScore 8 = .ok (.lastore, 1) := by decide +kernel
theorem dL_wouldScore_9 : decode cL_wouldScore 9 = .ok (.goto 6, 3) := by decide +kernel
theorem dL_wouldScore_12 : decode cL_wouldScore 12 = .ok (.astore_n 3, 1) := by decide +kernel
theorem dL_wouldScore_13 : decode cL_wouldScore 13 = .ok (.iconst 1, 1) := by decide +kernel
theorem dL_wouldScore_14 : decode cL_wouldScore 14 = .ok (.ireturn, 1) := by decide +kernel
theorem dL_wouldScore_15 : decode cL_wouldScore 15 = .ok (.iconst 0, 1) := by decide +kernel
theorem dL_wouldScore_16 : decode cL_wouldScore 16 = .ok (.ireturn, 1) := by decide +kernel
theorem dL_wouldScoreAnew_0 : decode cL_wouldScoreAnew 0 = .ok (.aload_n 2, 1) := by decide +kernel
theorem dL_wouldScoreAnew_1 : decode cL_wouldScoreAnew 1 = .ok (.iconst 0, 1) := by decide +kernel
theorem dL_wouldScoreAnew_2 : decode cL_wouldScoreAnew 2 = .ok (.aload_n 0, 1) := by decide +kernel
theorem dL_wouldScoreAnew_3 : decode cL_wouldScoreAnew 3 = .ok (.iload_n 1, 1) := by decide +kernel
theorem dL_wouldScoreAnew_4 : decode cL_wouldScoreAnew 4 = .ok (.invokevirtual 47, 3) := by decide +kernel
theorem dL_wouldScoreAnew_7 : decode cL_wouldScoreAnew 7 = .ok (.i2l, 1) := by decide +kernel
theorem dL_wouldScoreAnew_8 : decode cL_wouldScoreAnew 8 = .ok (.lastore, 1) := by decide +kernel
theorem dL_wouldScoreAnew_9 : decode cL_wouldScoreAnew 9 = .ok (.goto 6, 3) := by decide +kernel
theorem dL_wouldScoreAnew_12 : decode cL_wouldScoreAnew 12 = .ok (.astore_n 3, 1) := by decide +kernel
theorem dL_wouldScoreAnew_13 : decode cL_wouldScoreAnew 13 = .ok (.iconst 1, 1) := by decide +kernel
theorem dL_wouldScoreAnew_14 : decode cL_wouldScoreAnew 14 = .ok (.ireturn, 1) := by decide +kernel
theorem dL_wouldScoreAnew_15 : decode cL_wouldScoreAnew 15 = .ok (.iconst 0, 1) := by decide +kernel
theorem dL_wouldScoreAnew_16 : decode cL_wouldScoreAnew 16 = .ok (.ireturn, 1) := by decide +kernel
theorem dL_tries_0 : decode cL_tries 0 = .ok (.aload 7, 2) := by decide +kernel
theorem dL_tries_2 : decode cL_tries 2 = .ok (.iconst 0, 1) := by decide +kernel
theorem dL_tries_3 : decode cL_tries 3 = .ok (.aload_n 0, 1) := by decide +kernel
theorem dL_tries_4 : decode cL_tries 4 = .ok (.iload_n 1, 1) := by decide +kernel
theorem dL_tries_5 : decode cL_tries 5 = .ok (.iload_n 2, 1) := by decide +kernel
theorem dL_tries_6 : decode cL_tries 6 = .ok (.iload_n 3, 1) := by decide +kernel
theorem dL_tries_7 : decode cL_tries 7 = .ok (.iload 4, 2) := by decide +kernel
theorem dL_tries_9 : decode cL_tries 9 = .ok (.iload 5, 2) := by decide +kernel
theorem dL_tries_11 : decode cL_tries 11 = .ok (.iload 6, 2) := by decide +kernel
theorem dL_tries_13 : decode cL_tries 13 = .ok (.invokevirtual 50, 3) := by decide +kernel
theorem dL_tries_16 : decode cL_tries 16 = .ok (.i2l, 1) := by decide +kernel
theorem dL_tries_17 : decode cL_tries 17 = .ok (.lastore, 1) := by decide +kernel
theorem dL_tries_18 : decode cL_tries 18 = .ok (.goto 15, 3) := by decide +kernel
theorem dL_tries_21 : decode cL_tries 21 = .ok (.astore 8, 2) := by decide +kernel
theorem dL_tries_23 : decode cL_tries 23 = .ok (.iconst 1, 1) := by decide +kernel
theorem dL_tries_24 : decode cL_tries 24 = .ok (.ireturn, 1) := by decide +kernel
theorem dL_tries_25 : decode cL_tries 25 = .ok (.astore 8, 2) := by decide +kernel
theorem dL_tries_27 : decode cL_tries 27 = .ok (.iconst 2, 1) := by decide +kernel
theorem dL_tries_28 : decode cL_tries 28 = .ok (.ireturn, 1) := by decide +kernel
theorem dL_tries_29 : decode cL_tries 29 = .ok (.astore 8, 2) := by decide +kernel
theorem dL_tries_31 : decode cL_tries 31 = .ok (.iconst 3, 1) := by decide +kernel
theorem dL_tries_32 : decode cL_tries 32 = .ok (.ireturn, 1) := by decide +kernel
theorem dL_tries_33 : decode cL_tries 33 = .ok (.iconst 0, 1) := by decide +kernel
theorem dL_tries_34 : decode cL_tries 34 = .ok (.ireturn, 1) := by decide +kernel
theorem dL_advice_0 : decode cL_advice 0 = .ok (.aload_n 2, 1) := by decide +kernel
theorem dL_advice_1 : decode cL_advice 1 = .ok (.iconst 0, 1) := by decide +kernel
theorem dL_advice_2 : decode cL_advice 2 = .ok (.aload_n 0, 1) := by decide +kernel
theorem dL_advice_3 : decode cL_advice 3 = .ok (.iload_n 1, 1) := by decide +kernel
theorem dL_advice_4 : decode cL_advice 4 = .ok (.invokevirtual 53, 3) := by decide +kernel
theorem dL_advice_7 : decode cL_advice 7 = .ok (.i2l, 1) := by decide +kernel
theorem dL_advice_8 : decode cL_advice 8 = .ok (.lastore, 1) := by decide +kernel
theorem dL_advice_9 : decode cL_advice 9 = .ok (.goto 9, 3) := by decide +kernel
theorem dL_advice_12 : decode cL_advice 12 = .ok (.astore_n 3, 1) := by decide +kernel
theorem dL_advice_13 : decode cL_advice 13 = .ok (.iconst 1, 1) := by decide +kernel
theorem dL_advice_14 : decode cL_advice 14 = .ok (.ireturn, 1) := by decide +kernel
theorem dL_advice_15 : decode cL_advice 15 = .ok (.astore_n 3, 1) := by decide +kernel
theorem dL_advice_16 : decode cL_advice 16 = .ok (.iconst 2, 1) := by decide +kernel
theorem dL_advice_17 : decode cL_advice 17 = .ok (.ireturn, 1) := by decide +kernel
theorem dL_advice_18 : decode cL_advice 18 = .ok (.iconst 0, 1) := by decide +kernel
theorem dL_advice_19 : decode cL_advice 19 = .ok (.ireturn, 1) := by decide +kernel
theorem dL_standing_0 : decode cL_standing 0 = .ok (.aload_n 2, 1) := by decide +kernel
theorem dL_standing_1 : decode cL_standing 1 = .ok (.iconst 0, 1) := by decide +kernel
theorem dL_standing_2 : decode cL_standing 2 = .ok (.aload_n 0, 1) := by decide +kernel
theorem dL_standing_3 : decode cL_standing 3 = .ok (.iload_n 1, 1) := by decide +kernel
theorem dL_standing_4 : decode cL_standing 4 = .ok (.invokevirtual 56, 3) := by decide +kernel
theorem dL_standing_7 : decode cL_standing 7 = .ok (.i2l, 1) := by decide +kernel
theorem dL_standing_8 : decode cL_standing 8 = .ok (.lastore, 1) := by decide +kernel
theorem dL_standing_9 : decode cL_standing 9 = .ok (.goto 6, 3) := by decide +kernel
theorem dL_standing_12 : decode cL_standing 12 = .ok (.astore_n 3, 1) := by decide +kernel
theorem dL_standing_13 : decode cL_standing 13 = .ok (.iconst 1, 1) := by decide +kernel
theorem dL_standing_14 : decode cL_standing 14 = .ok (.ireturn, 1) := by decide +kernel
theorem dL_standing_15 : decode cL_standing 15 = .ok (.iconst 0, 1) := by decide +kernel
theorem dL_standing_16 : decode cL_standing 16 = .ok (.ireturn, 1) := by decide +kernel
theorem dL_ofTeam_0 : decode cL_ofTeam 0 = .ok (.aload_n 3, 1) := by decide +kernel
theorem dL_ofTeam_1 : decode cL_ofTeam 1 = .ok (.iconst 0, 1) := by decide +kernel
theorem dL_ofTeam_2 : decode cL_ofTeam 2 = .ok (.aload_n 0, 1) := by decide +kernel
theorem dL_ofTeam_3 : decode cL_ofTeam 3 = .ok (.iload_n 1, 1) := by decide +kernel
theorem dL_ofTeam_4 : decode cL_ofTeam 4 = .ok (.iload_n 2, 1) := by decide +kernel
theorem dL_ofTeam_5 : decode cL_ofTeam 5 = .ok (.invokevirtual 59, 3) := by decide +kernel
theorem dL_ofTeam_8 : decode cL_ofTeam 8 = .ok (.i2l, 1) := by decide +kernel
theorem dL_ofTeam_9 : decode cL_ofTeam 9 = .ok (.lastore, 1) := by decide +kernel
theorem dL_ofTeam_10 : decode cL_ofTeam 10 = .ok (.goto 11, 3) := by decide +kernel
theorem dL_ofTeam_13 : decode cL_ofTeam 13 = .ok (.astore 4, 2) := by decide +kernel
theorem dL_ofTeam_15 : decode cL_ofTeam 15 = .ok (.iconst 1, 1) := by decide +kernel
theorem dL_ofTeam_16 : decode cL_ofTeam 16 = .ok (.ireturn, 1) := by decide +kernel
theorem dL_ofTeam_17 : decode cL_ofTeam 17 = .ok (.astore 4, 2) := by decide +kernel
theorem dL_ofTeam_19 : decode cL_ofTeam 19 = .ok (.iconst 2, 1) := by decide +kernel
theorem dL_ofTeam_20 : decode cL_ofTeam 20 = .ok (.ireturn, 1) := by decide +kernel
theorem dL_ofTeam_21 : decode cL_ofTeam 21 = .ok (.iconst 0, 1) := by decide +kernel
theorem dL_ofTeam_22 : decode cL_ofTeam 22 = .ok (.ireturn, 1) := by decide +kernel
theorem dL_law_0 : decode cL_law 0 = .ok (.new 8, 3) := by decide +kernel
theorem dL_law_3 : decode cL_law 3 = .ok (.dup, 1) := by decide +kernel
theorem dL_law_4 : decode cL_law 4 = .ok (.invokespecial 62, 3) := by decide +kernel
theorem dL_law_7 : decode cL_law 7 = .ok (.astore_n 1, 1) := by decide +kernel
theorem dL_law_8 : decode cL_law 8 = .ok (.new 63, 3) := by decide +kernel
theorem dL_law_11 : decode cL_law 11 = .ok (.dup, 1) := by decide +kernel
theorem dL_law_12 : decode cL_law 12 = .ok (.invokespecial 65, 3) := by decide +kernel
theorem dL_law_15 : decode cL_law 15 = .ok (.astore_n 2, 1) := by decide +kernel
theorem dL_law_16 : decode cL_law 16 = .ok (.iconst 1, 1) := by decide +kernel
theorem dL_law_17 : decode cL_law 17 = .ok (.newarray .long, 2) := by decide +kernel
theorem dL_law_19 : decode cL_law 19 = .ok (.astore_n 3, 1) := by decide +kernel
theorem dL_law_20 : decode cL_law 20 = .ok (.iconst 0, 1) := by decide +kernel
theorem dL_law_21 : decode cL_law 21 = .ok (.istore 4, 2) := by decide +kernel
theorem dL_law_23 : decode cL_law 23 = .ok (.iload 4, 2) := by decide +kernel
theorem dL_law_25 : decode cL_law 25 = .ok (.aload_n 0, 1) := by decide +kernel
theorem dL_law_26 : decode cL_law 26 = .ok (.arraylength, 1) := by decide +kernel
theorem dL_law_27 : decode cL_law 27 = .ok (.bipush 7, 2) := by decide +kernel
theorem dL_law_29 : decode cL_law 29 = .ok (.isub, 1) := by decide +kernel
theorem dL_law_30 : decode cL_law 30 = .ok (.if_icmp .gt 1133, 3) := by decide +kernel
theorem dL_law_33 : decode cL_law 33 = .ok (.aload_n 0, 1) := by decide +kernel
theorem dL_law_34 : decode cL_law 34 = .ok (.iload 4, 2) := by decide +kernel
theorem dL_law_36 : decode cL_law 36 = .ok (.iaload, 1) := by decide +kernel
theorem dL_law_37 : decode cL_law 37 = .ok (.bipush 15, 2) := by decide +kernel
theorem dL_law_39 : decode cL_law 39 = .ok (.iand, 1) := by decide +kernel
theorem dL_law_40 : decode cL_law 40 = .ok (.tableswitch 1117 0 14 #[76, 168, 224, 342, 398, 411, 479, 559, 627, 707, 763, 819, 937, 993, 1049], 76) := by decide +kernel
theorem dL_law_116 : decode cL_law 116 = .ok (.aload_n 1, 1) := by decide +kernel
theorem dL_law_117 : decode cL_law 117 = .ok (.aload_n 0, 1) := by decide +kernel
theorem dL_law_118 : decode cL_law 118 = .ok (.iload 4, 2) := by decide +kernel
theorem dL_law_120 : decode cL_law 120 = .ok (.iconst 1, 1) := by decide +kernel
theorem dL_law_121 : decode cL_law 121 = .ok (.iadd, 1) := by decide +kernel
theorem dL_law_122 : decode cL_law 122 = .ok (.iaload, 1) := by decide +kernel
theorem dL_law_123 : decode cL_law 123 = .ok (.aload_n 0, 1) := by decide +kernel
theorem dL_law_124 : decode cL_law 124 = .ok (.iload 4, 2) := by decide +kernel
theorem dL_law_126 : decode cL_law 126 = .ok (.iconst 2, 1) := by decide +kernel
theorem dL_law_127 : decode cL_law 127 = .ok (.iadd, 1) := by decide +kernel
theorem dL_law_128 : decode cL_law 128 = .ok (.iaload, 1) := by decide +kernel
theorem dL_law_129 : decode cL_law 129 = .ok (.aload_n 0, 1) := by decide +kernel
theorem dL_law_130 : decode cL_law 130 = .ok (.iload 4, 2) := by decide +kernel
theorem dL_law_132 : decode cL_law 132 = .ok (.iconst 3, 1) := by decide +kernel
theorem dL_law_133 : decode cL_law 133 = .ok (.iadd, 1) := by decide +kernel
theorem dL_law_134 : decode cL_law 134 = .ok (.iaload, 1) := by decide +kernel
theorem dL_law_135 : decode cL_law 135 = .ok (.aload_n 0, 1) := by decide +kernel
theorem dL_law_136 : decode cL_law 136 = .ok (.iload 4, 2) := by decide +kernel
theorem dL_law_138 : decode cL_law 138 = .ok (.iconst 4, 1) := by decide +kernel
theorem dL_law_139 : decode cL_law 139 = .ok (.iadd, 1) := by decide +kernel
theorem dL_law_140 : decode cL_law 140 = .ok (.iaload, 1) := by decide +kernel
theorem dL_law_141 : decode cL_law 141 = .ok (.aload_n 3, 1) := by decide +kernel
theorem dL_law_142 : decode cL_law 142 = .ok (.invokestatic 66, 3) := by decide +kernel
theorem dL_law_145 : decode cL_law 145 = .ok (.istore 5, 2) := by decide +kernel
theorem dL_law_147 : decode cL_law 147 = .ok (.aload_n 2, 1) := by decide +kernel
theorem dL_law_148 : decode cL_law 148 = .ok (.aload_n 0, 1) := by decide +kernel
theorem dL_law_149 : decode cL_law 149 = .ok (.iload 4, 2) := by decide +kernel
theorem dL_law_151 : decode cL_law 151 = .ok (.iconst 1, 1) := by decide +kernel
theorem dL_law_152 : decode cL_law 152 = .ok (.iadd, 1) := by decide +kernel
theorem dL_law_153 : decode cL_law 153 = .ok (.iaload, 1) := by decide +kernel
theorem dL_law_154 : decode cL_law 154 = .ok (.aload_n 0, 1) := by decide +kernel
theorem dL_law_155 : decode cL_law 155 = .ok (.iload 4, 2) := by decide +kernel
theorem dL_law_157 : decode cL_law 157 = .ok (.iconst 2, 1) := by decide +kernel
theorem dL_law_158 : decode cL_law 158 = .ok (.iadd, 1) := by decide +kernel
theorem dL_law_159 : decode cL_law 159 = .ok (.iaload, 1) := by decide +kernel
theorem dL_law_160 : decode cL_law 160 = .ok (.aload_n 0, 1) := by decide +kernel
theorem dL_law_161 : decode cL_law 161 = .ok (.iload 4, 2) := by decide +kernel
theorem dL_law_163 : decode cL_law 163 = .ok (.iconst 3, 1) := by decide +kernel
theorem dL_law_164 : decode cL_law 164 = .ok (.iadd, 1) := by decide +kernel
theorem dL_law_165 : decode cL_law 165 = .ok (.iaload, 1) := by decide +kernel
theorem dL_law_166 : decode cL_law 166 = .ok (.aload_n 0, 1) := by decide +kernel
theorem dL_law_167 : decode cL_law 167 = .ok (.iload 4, 2) := by decide +kernel
theorem dL_law_169 : decode cL_law 169 = .ok (.iconst 4, 1) := by decide +kernel
theorem dL_law_170 : decode cL_law 170 = .ok (.iadd, 1) := by decide +kernel
theorem dL_law_171 : decode cL_law 171 = .ok (.iaload, 1) := by decide +kernel
theorem dL_law_172 : decode cL_law 172 = .ok (.invokevirtual 71, 3) := by decide +kernel
theorem dL_law_175 : decode cL_law 175 = .ok (.istore 6, 2) := by decide +kernel
theorem dL_law_177 : decode cL_law 177 = .ok (.aload_n 2, 1) := by decide +kernel
theorem dL_law_178 : decode cL_law 178 = .ok (.invokevirtual 72, 3) := by decide +kernel
theorem dL_law_181 : decode cL_law 181 = .ok (.iload 5, 2) := by decide +kernel
theorem dL_law_183 : decode cL_law 183 = .ok (.if_icmp .eq 5, 3) := by decide +kernel
theorem dL_law_186 : decode cL_law 186 = .ok (.iconst 0, 1) := by decide +kernel
theorem dL_law_187 : decode cL_law 187 = .ok (.ireturn, 1) := by decide +kernel
theorem dL_law_188 : decode cL_law 188 = .ok (.iload 5, 2) := by decide +kernel
theorem dL_law_190 : decode cL_law 190 = .ok (.ifCond .ne 15, 3) := by decide +kernel
theorem dL_law_193 : decode cL_law 193 = .ok (.aload_n 3, 1) := by decide +kernel
theorem dL_law_194 : decode cL_law 194 = .ok (.iconst 0, 1) := by decide +kernel
theorem dL_law_195 : decode cL_law 195 = .ok (.laload, 1) := by decide +kernel
theorem dL_law_196 : decode cL_law 196 = .ok (.iload 6, 2) := by decide +kernel
theorem dL_law_198 : decode cL_law 198 = .ok (.i2l, 1) := by decide +kernel
theorem dL_law_199 : decode cL_law 199 = .ok (.lcmp, 1) := by decide +kernel
theorem dL_law_200 : decode cL_law 200 = .ok (.ifCond .eq 5, 3) := by decide +kernel
theorem dL_law_203 : decode cL_law 203 = .ok (.iconst 0, 1) := by decide +kernel
theorem dL_law_204 : decode cL_law 204 = .ok (.ireturn, 1) := by decide +kernel
theorem dL_law_205 : decode cL_law 205 = .ok (.goto 952, 3) := by decide +kernel
theorem dL_law_208 : decode cL_law 208 = .ok (.aload_n 1, 1) := by decide +kernel
theorem dL_law_209 : decode cL_law 209 = .ok (.aload_n 0, 1) := by decide +kernel
theorem dL_law_210 : decode cL_law 210 = .ok (.iload 4, 2) := by decide +kernel
theorem dL_law_212 : decode cL_law 212 = .ok (.iconst 1, 1) := by decide +kernel
theorem dL_law_213 : decode cL_law 213 = .ok (.iadd, 1) := by decide +kernel
theorem dL_law_214 : decode cL_law 214 = .ok (.iaload, 1) := by decide +kernel
theorem dL_law_215 : decode cL_law 215 = .ok (.aload_n 3, 1) := by decide +kernel
theorem dL_law_216 : decode cL_law 216 = .ok (.invokestatic 76, 3) := by decide +kernel
theorem dL_law_219 : decode cL_law 219 = .ok (.istore 5, 2) := by decide +kernel
theorem dL_law_221 : decode cL_law 221 = .ok (.aload_n 2, 1) := by decide +kernel
theorem dL_law_222 : decode cL_law 222 = .ok (.aload_n 0, 1) := by decide +kernel
theorem dL_law_223 : decode cL_law 223 = .ok (.iload 4, 2) := by decide +kernel
theorem dL_law_225 : decode cL_law 225 = .ok (.iconst 1, 1) := by decide +kernel
theorem dL_law_226 : decode cL_law 226 = .ok (.iadd, 1) := by decide +kernel
theorem dL_law_227 : decode cL_law 227 = .ok (.iaload, 1) := by decide +kernel
theorem dL_law_228 : decode cL_law 228 = .ok (.invokevirtual 79, 3) := by decide +kernel
theorem dL_law_231 : decode cL_law 231 = .ok (.istore 6, 2) := by decide +kernel
theorem dL_law_233 : decode cL_law 233 = .ok (.aload_n 2, 1) := by decide +kernel
theorem dL_law_234 : decode cL_law 234 = .ok (.invokevirtual 72, 3) := by decide +kernel
theorem dL_law_237 : decode cL_law 237 = .ok (.iload 5, 2) := by decide +kernel
theorem dL_law_239 : decode cL_law 239 = .ok (.if_icmp .eq 5, 3) := by decide +kernel
theorem dL_law_242 : decode cL_law 242 = .ok (.iconst 0, 1) := by decide +kernel
theorem dL_law_243 : decode cL_law 243 = .ok (.ireturn, 1) := by decide +kernel
theorem dL_law_244 : decode cL_law 244 = .ok (.iload 5, 2) := by decide +kernel
theorem dL_law_246 : decode cL_law 246 = .ok (.ifCond .ne 15, 3) := by decide +kernel
theorem dL_law_249 : decode cL_law 249 = .ok (.aload_n 3, 1) := by decide +kernel
theorem dL_law_250 : decode cL_law 250 = .ok (.iconst 0, 1) := by decide +kernel
theorem dL_law_251 : decode cL_law 251 = .ok (.laload, 1) := by decide +kernel
theorem dL_law_252 : decode cL_law 252 = .ok (.iload 6, 2) := by decide +kernel
theorem dL_law_254 : decode cL_law 254 = .ok (.i2l, 1) := by decide +kernel
theorem dL_law_255 : decode cL_law 255 = .ok (.lcmp, 1) := by decide +kernel
theorem dL_law_256 : decode cL_law 256 = .ok (.ifCond .eq 5, 3) := by decide +kernel
theorem dL_law_259 : decode cL_law 259 = .ok (.iconst 0, 1) := by decide +kernel
theorem dL_law_260 : decode cL_law 260 = .ok (.ireturn, 1) := by decide +kernel
theorem dL_law_261 : decode cL_law 261 = .ok (.goto 896, 3) := by decide +kernel
theorem dL_law_264 : decode cL_law 264 = .ok (.aload_n 1, 1) := by decide +kernel
theorem dL_law_265 : decode cL_law 265 = .ok (.aload_n 0, 1) := by decide +kernel
theorem dL_law_266 : decode cL_law 266 = .ok (.iload 4, 2) := by decide +kernel
theorem dL_law_268 : decode cL_law 268 = .ok (.iconst 1, 1) := by decide +kernel
theorem dL_law_269 : decode cL_law 269 = .ok (.iadd, 1) := by decide +kernel
theorem dL_law_270 : decode cL_law 270 = .ok (.iaload, 1) := by decide +kernel
theorem dL_law_271 : decode cL_law 271 = .ok (.aload_n 0, 1) := by decide +kernel
theorem dL_law_272 : decode cL_law 272 = .ok (.iload 4, 2) := by decide +kernel
theorem dL_law_274 : decode cL_law 274 = .ok (.iconst 2, 1) := by decide +kernel
theorem dL_law_275 : decode cL_law 275 = .ok (.iadd, 1) := by decide +kernel
theorem dL_law_276 : decode cL_law 276 = .ok (.iaload, 1) := by decide +kernel
theorem dL_law_277 : decode cL_law 277 = .ok (.aload_n 0, 1) := by decide +kernel
theorem dL_law_278 : decode cL_law 278 = .ok (.iload 4, 2) := by decide +kernel
theorem dL_law_280 : decode cL_law 280 = .ok (.iconst 3, 1) := by decide +kernel
theorem dL_law_281 : decode cL_law 281 = .ok (.iadd, 1) := by decide +kernel
theorem dL_law_282 : decode cL_law 282 = .ok (.iaload, 1) := by decide +kernel
theorem dL_law_283 : decode cL_law 283 = .ok (.aload_n 0, 1) := by decide +kernel
theorem dL_law_284 : decode cL_law 284 = .ok (.iload 4, 2) := by decide +kernel
theorem dL_law_286 : decode cL_law 286 = .ok (.iconst 4, 1) := by decide +kernel
theorem dL_law_287 : decode cL_law 287 = .ok (.iadd, 1) := by decide +kernel
theorem dL_law_288 : decode cL_law 288 = .ok (.iaload, 1) := by decide +kernel
theorem dL_law_289 : decode cL_law 289 = .ok (.aload_n 0, 1) := by decide +kernel
theorem dL_law_290 : decode cL_law 290 = .ok (.iload 4, 2) := by decide +kernel
theorem dL_law_292 : decode cL_law 292 = .ok (.iconst 5, 1) := by decide +kernel
theorem dL_law_293 : decode cL_law 293 = .ok (.iadd, 1) := by decide +kernel
theorem dL_law_294 : decode cL_law 294 = .ok (.iaload, 1) := by decide +kernel
theorem dL_law_295 : decode cL_law 295 = .ok (.aload_n 0, 1) := by decide +kernel
theorem dL_law_296 : decode cL_law 296 = .ok (.iload 4, 2) := by decide +kernel
theorem dL_law_298 : decode cL_law 298 = .ok (.bipush 6, 2) := by decide +kernel
theorem dL_law_300 : decode cL_law 300 = .ok (.iadd, 1) := by decide +kernel
theorem dL_law_301 : decode cL_law 301 = .ok (.iaload, 1) := by decide +kernel
theorem dL_law_302 : decode cL_law 302 = .ok (.aload_n 3, 1) := by decide +kernel
theorem dL_law_303 : decode cL_law 303 = .ok (.invokestatic 80, 3) := by decide +kernel
theorem dL_law_306 : decode cL_law 306 = .ok (.istore 5, 2) := by decide +kernel
theorem dL_law_308 : decode cL_law 308 = .ok (.aload_n 2, 1) := by decide +kernel
theorem dL_law_309 : decode cL_law 309 = .ok (.aload_n 0, 1) := by decide +kernel
theorem dL_law_310 : decode cL_law 310 = .ok (.iload 4, 2) := by decide +kernel
theorem dL_law_312 : decode cL_law 312 = .ok (.iconst 1, 1) := by decide +kernel
theorem dL_law_313 : decode cL_law 313 = .ok (.iadd, 1) := by decide +kernel
theorem dL_law_314 : decode cL_law 314 = .ok (.iaload, 1) := by decide +kernel
theorem dL_law_315 : decode cL_law 315 = .ok (.aload_n 0, 1) := by decide +kernel
theorem dL_law_316 : decode cL_law 316 = .ok (.iload 4, 2) := by decide +kernel
theorem dL_law_318 : decode cL_law 318 = .ok (.iconst 2, 1) := by decide +kernel
theorem dL_law_319 : decode cL_law 319 = .ok (.iadd, 1) := by decide +kernel
theorem dL_law_320 : decode cL_law 320 = .ok (.iaload, 1) := by decide +kernel
theorem dL_law_321 : decode cL_law 321 = .ok (.aload_n 0, 1) := by decide +kernel
theorem dL_law_322 : decode cL_law 322 = .ok (.iload 4, 2) := by decide +kernel
theorem dL_law_324 : decode cL_law 324 = .ok (.iconst 3, 1) := by decide +kernel
theorem dL_law_325 : decode cL_law 325 = .ok (.iadd, 1) := by decide +kernel
theorem dL_law_326 : decode cL_law 326 = .ok (.iaload, 1) := by decide +kernel
theorem dL_law_327 : decode cL_law 327 = .ok (.aload_n 0, 1) := by decide +kernel
theorem dL_law_328 : decode cL_law 328 = .ok (.iload 4, 2) := by decide +kernel
theorem dL_law_330 : decode cL_law 330 = .ok (.iconst 4, 1) := by decide +kernel
theorem dL_law_331 : decode cL_law 331 = .ok (.iadd, 1) := by decide +kernel
theorem dL_law_332 : decode cL_law 332 = .ok (.iaload, 1) := by decide +kernel
theorem dL_law_333 : decode cL_law 333 = .ok (.aload_n 0, 1) := by decide +kernel
theorem dL_law_334 : decode cL_law 334 = .ok (.iload 4, 2) := by decide +kernel
theorem dL_law_336 : decode cL_law 336 = .ok (.iconst 5, 1) := by decide +kernel
theorem dL_law_337 : decode cL_law 337 = .ok (.iadd, 1) := by decide +kernel
theorem dL_law_338 : decode cL_law 338 = .ok (.iaload, 1) := by decide +kernel
theorem dL_law_339 : decode cL_law 339 = .ok (.aload_n 0, 1) := by decide +kernel
theorem dL_law_340 : decode cL_law 340 = .ok (.iload 4, 2) := by decide +kernel
theorem dL_law_342 : decode cL_law 342 = .ok (.bipush 6, 2) := by decide +kernel
theorem dL_law_344 : decode cL_law 344 = .ok (.iadd, 1) := by decide +kernel
theorem dL_law_345 : decode cL_law 345 = .ok (.iaload, 1) := by decide +kernel
theorem dL_law_346 : decode cL_law 346 = .ok (.invokevirtual 83, 3) := by decide +kernel
theorem dL_law_349 : decode cL_law 349 = .ok (.istore 6, 2) := by decide +kernel
theorem dL_law_351 : decode cL_law 351 = .ok (.aload_n 2, 1) := by decide +kernel
theorem dL_law_352 : decode cL_law 352 = .ok (.invokevirtual 72, 3) := by decide +kernel
theorem dL_law_355 : decode cL_law 355 = .ok (.iload 5, 2) := by decide +kernel
theorem dL_law_357 : decode cL_law 357 = .ok (.if_icmp .eq 5, 3) := by decide +kernel
theorem dL_law_360 : decode cL_law 360 = .ok (.iconst 0, 1) := by decide +kernel
theorem dL_law_361 : decode cL_law 361 = .ok (.ireturn, 1) := by decide +kernel
theorem dL_law_362 : decode cL_law 362 = .ok (.iload 5, 2) := by decide +kernel
theorem dL_law_364 : decode cL_law 364 = .ok (.ifCond .ne 15, 3) := by decide +kernel
theorem dL_law_367 : decode cL_law 367 = .ok (.aload_n 3, 1) := by decide +kernel
theorem dL_law_368 : decode cL_law 368 = .ok (.iconst 0, 1) := by decide +kernel
theorem dL_law_369 : decode cL_law 369 = .ok (.laload, 1) := by decide +kernel
theorem dL_law_370 : decode cL_law 370 = .ok (.iload 6, 2) := by decide +kernel
theorem dL_law_372 : decode cL_law 372 = .ok (.i2l, 1) := by decide +kernel
theorem dL_law_373 : decode cL_law 373 = .ok (.lcmp, 1) := by decide +kernel
theorem dL_law_374 : decode cL_law 374 = .ok (.ifCond .eq 5, 3) := by decide +kernel
theorem dL_law_377 : decode cL_law 377 = .ok (.iconst 0, 1) := by decide +kernel
theorem dL_law_378 : decode cL_law 378 = .ok (.ireturn, 1) := by decide +kernel
theorem dL_law_379 : decode cL_law 379 = .ok (.goto 778, 3) := by decide +kernel
theorem dL_law_382 : decode cL_law 382 = .ok (.aload_n 1, 1) := by decide +kernel
theorem dL_law_383 : decode cL_law 383 = .ok (.aload_n 0, 1) := by decide +kernel
theorem dL_law_384 : decode cL_law 384 = .ok (.iload 4, 2) := by decide +kernel
theorem dL_law_386 : decode cL_law 386 = .ok (.iconst 1, 1) := by decide +kernel
theorem dL_law_387 : decode cL_law 387 = .ok (.iadd, 1) := by decide +kernel
theorem dL_law_388 : decode cL_law 388 = .ok (.iaload, 1) := by decide +kernel
theorem dL_law_389 : decode cL_law 389 = .ok (.aload_n 3, 1) := by decide +kernel
theorem dL_law_390 : decode cL_law 390 = .ok (.invokestatic 84, 3) := by decide +kernel
theorem dL_law_393 : decode cL_law 393 = .ok (.istore 5, 2) := by decide +kernel
theorem dL_law_395 : decode cL_law 395 = .ok (.aload_n 2, 1) := by decide +kernel
theorem dL_law_396 : decode cL_law 396 = .ok (.aload_n 0, 1) := by decide +kernel
theorem dL_law_397 : decode cL_law 397 = .ok (.iload 4, 2) := by decide +kernel
theorem dL_law_399 : decode cL_law 399 = .ok (.iconst 1, 1) := by decide +kernel
theorem dL_law_400 : decode cL_law 400 = .ok (.iadd, 1) := by decide +kernel
theorem dL_law_401 : decode cL_law 401 = .ok (.iaload, 1) := by decide +kernel
theorem dL_law_402 : decode cL_law 402 = .ok (.invokevirtual 86, 3) := by decide +kernel
theorem dL_law_405 : decode cL_law 405 = .ok (.istore 6, 2) := by decide +kernel
theorem dL_law_407 : decode cL_law 407 = .ok (.aload_n 2, 1) := by decide +kernel
theorem dL_law_408 : decode cL_law 408 = .ok (.invokevirtual 72, 3) := by decide +kernel
theorem dL_law_411 : decode cL_law 411 = .ok (.iload 5, 2) := by decide +kernel
theorem dL_law_413 : decode cL_law 413 = .ok (.if_icmp .eq 5, 3) := by decide +kernel
theorem dL_law_416 : decode cL_law 416 = .ok (.iconst 0, 1) := by decide +kernel
theorem dL_law_417 : decode cL_law 417 = .ok (.ireturn, 1) := by decide +kernel
theorem dL_law_418 : decode cL_law 418 = .ok (.iload 5, 2) := by decide +kernel
theorem dL_law_420 : decode cL_law 420 = .ok (.ifCond .ne 15, 3) := by decide +kernel
theorem dL_law_423 : decode cL_law 423 = .ok (.aload_n 3, 1) := by decide +kernel
theorem dL_law_424 : decode cL_law 424 = .ok (.iconst 0, 1) := by decide +kernel
theorem dL_law_425 : decode cL_law 425 = .ok (.laload, 1) := by decide +kernel
theorem dL_law_426 : decode cL_law 426 = .ok (.iload 6, 2) := by decide +kernel
theorem dL_law_428 : decode cL_law 428 = .ok (.i2l, 1) := by decide +kernel
theorem dL_law_429 : decode cL_law 429 = .ok (.lcmp, 1) := by decide +kernel
theorem dL_law_430 : decode cL_law 430 = .ok (.ifCond .eq 5, 3) := by decide +kernel
theorem dL_law_433 : decode cL_law 433 = .ok (.iconst 0, 1) := by decide +kernel
theorem dL_law_434 : decode cL_law 434 = .ok (.ireturn, 1) := by decide +kernel
theorem dL_law_435 : decode cL_law 435 = .ok (.goto 722, 3) := by decide +kernel
theorem dL_law_438 : decode cL_law 438 = .ok (.aload_n 1, 1) := by decide +kernel
theorem dL_law_439 : decode cL_law 439 = .ok (.invokevirtual 87, 3) := by decide +kernel
theorem dL_law_442 : decode cL_law 442 = .ok (.aload_n 2, 1) := by decide +kernel
theorem dL_law_443 : decode cL_law 443 = .ok (.invokevirtual 90, 3) := by decide +kernel
theorem dL_law_446 : decode cL_law 446 = .ok (.if_icmp .eq 711, 3) := by decide +kernel
theorem dL_law_449 : decode cL_law 449 = .ok (.iconst 0, 1) := by decide +kernel
theorem dL_law_450 : decode cL_law 450 = .ok (.ireturn, 1) := by decide +kernel
theorem dL_law_451 : decode cL_law 451 = .ok (.aload_n 1, 1) := by decide +kernel
theorem dL_law_452 : decode cL_law 452 = .ok (.aload_n 0, 1) := by decide +kernel
theorem dL_law_453 : decode cL_law 453 = .ok (.iload 4, 2) := by decide +kernel
theorem dL_law_455 : decode cL_law 455 = .ok (.iconst 1, 1) := by decide +kernel
theorem dL_law_456 : decode cL_law 456 = .ok (.iadd, 1) := by decide +kernel
theorem dL_law_457 : decode cL_law 457 = .ok (.iaload, 1) := by decide +kernel
theorem dL_law_458 : decode cL_law 458 = .ok (.aload_n 0, 1) := by decide +kernel
theorem dL_law_459 : decode cL_law 459 = .ok (.iload 4, 2) := by decide +kernel
theorem dL_law_461 : decode cL_law 461 = .ok (.iconst 2, 1) := by decide +kernel
theorem dL_law_462 : decode cL_law 462 = .ok (.iadd, 1) := by decide +kernel
theorem dL_law_463 : decode cL_law 463 = .ok (.iaload, 1) := by decide +kernel
theorem dL_law_464 : decode cL_law 464 = .ok (.aload_n 3, 1) := by decide +kernel
theorem dL_law_465 : decode cL_law 465 = .ok (.invokestatic 91, 3) := by decide +kernel
theorem dL_law_468 : decode cL_law 468 = .ok (.istore 5, 2) := by decide +kernel
theorem dL_law_470 : decode cL_law 470 = .ok (.aload_n 2, 1) := by decide +kernel
theorem dL_law_471 : decode cL_law 471 = .ok (.aload_n 0, 1) := by decide +kernel
theorem dL_law_472 : decode cL_law 472 = .ok (.iload 4, 2) := by decide +kernel
theorem dL_law_474 : decode cL_law 474 = .ok (.iconst 1, 1) := by decide +kernel
theorem dL_law_475 : decode cL_law 475 = .ok (.iadd, 1) := by decide +kernel
theorem dL_law_476 : decode cL_law 476 = .ok (.iaload, 1) := by decide +kernel
theorem dL_law_477 : decode cL_law 477 = .ok (.aload_n 0, 1) := by decide +kernel
theorem dL_law_478 : decode cL_law 478 = .ok (.iload 4, 2) := by decide +kernel
theorem dL_law_480 : decode cL_law 480 = .ok (.iconst 2, 1) := by decide +kernel
theorem dL_law_481 : decode cL_law 481 = .ok (.iadd, 1) := by decide +kernel
theorem dL_law_482 : decode cL_law 482 = .ok (.iaload, 1) := by decide +kernel
theorem dL_law_483 : decode cL_law 483 = .ok (.invokevirtual 94, 3) := by decide +kernel
theorem dL_law_486 : decode cL_law 486 = .ok (.istore 6, 2) := by decide +kernel
theorem dL_law_488 : decode cL_law 488 = .ok (.aload_n 2, 1) := by decide +kernel
theorem dL_law_489 : decode cL_law 489 = .ok (.invokevirtual 72, 3) := by decide +kernel
theorem dL_law_492 : decode cL_law 492 = .ok (.iload 5, 2) := by decide +kernel
theorem dL_law_494 : decode cL_law 494 = .ok (.if_icmp .eq 5, 3) := by decide +kernel
theorem dL_law_497 : decode cL_law 497 = .ok (.iconst 0, 1) := by decide +kernel
theorem dL_law_498 : decode cL_law 498 = .ok (.ireturn, 1) := by decide +kernel
theorem dL_law_499 : decode cL_law 499 = .ok (.iload 5, 2) := by decide +kernel
theorem dL_law_501 : decode cL_law 501 = .ok (.ifCond .ne 15, 3) := by decide +kernel
theorem dL_law_504 : decode cL_law 504 = .ok (.aload_n 3, 1) := by decide +kernel
theorem dL_law_505 : decode cL_law 505 = .ok (.iconst 0, 1) := by decide +kernel
theorem dL_law_506 : decode cL_law 506 = .ok (.laload, 1) := by decide +kernel
theorem dL_law_507 : decode cL_law 507 = .ok (.iload 6, 2) := by decide +kernel
theorem dL_law_509 : decode cL_law 509 = .ok (.i2l, 1) := by decide +kernel
theorem dL_law_510 : decode cL_law 510 = .ok (.lcmp, 1) := by decide +kernel
theorem dL_law_511 : decode cL_law 511 = .ok (.ifCond .eq 5, 3) := by decide +kernel
theorem dL_law_514 : decode cL_law 514 = .ok (.iconst 0, 1) := by decide +kernel
theorem dL_law_515 : decode cL_law 515 = .ok (.ireturn, 1) := by decide +kernel
theorem dL_law_516 : decode cL_law 516 = .ok (.goto 641, 3) := by decide +kernel
theorem dL_law_519 : decode cL_law 519 = .ok (.aload_n 1, 1) := by decide +kernel
theorem dL_law_520 : decode cL_law 520 = .ok (.aload_n 0, 1) := by decide +kernel
theorem dL_law_521 : decode cL_law 521 = .ok (.iload 4, 2) := by decide +kernel
theorem dL_law_523 : decode cL_law 523 = .ok (.iconst 1, 1) := by decide +kernel
theorem dL_law_524 : decode cL_law 524 = .ok (.iadd, 1) := by decide +kernel
theorem dL_law_525 : decode cL_law 525 = .ok (.iaload, 1) := by decide +kernel
theorem dL_law_526 : decode cL_law 526 = .ok (.aload_n 0, 1) := by decide +kernel
theorem dL_law_527 : decode cL_law 527 = .ok (.iload 4, 2) := by decide +kernel
theorem dL_law_529 : decode cL_law 529 = .ok (.iconst 2, 1) := by decide +kernel
theorem dL_law_530 : decode cL_law 530 = .ok (.iadd, 1) := by decide +kernel
theorem dL_law_531 : decode cL_law 531 = .ok (.iaload, 1) := by decide +kernel
theorem dL_law_532 : decode cL_law 532 = .ok (.aload_n 0, 1) := by decide +kernel
theorem dL_law_533 : decode cL_law 533 = .ok (.iload 4, 2) := by decide +kernel
theorem dL_law_535 : decode cL_law 535 = .ok (.iconst 3, 1) := by decide +kernel
theorem dL_law_536 : decode cL_law 536 = .ok (.iadd, 1) := by decide +kernel
theorem dL_law_537 : decode cL_law 537 = .ok (.iaload, 1) := by decide +kernel
theorem dL_law_538 : decode cL_law 538 = .ok (.aload_n 3, 1) := by decide +kernel
theorem dL_law_539 : decode cL_law 539 = .ok (.invokestatic 95, 3) := by decide +kernel
theorem dL_law_542 : decode cL_law 542 = .ok (.istore 5, 2) := by decide +kernel
theorem dL_law_544 : decode cL_law 544 = .ok (.aload_n 2, 1) := by decide +kernel
theorem dL_law_545 : decode cL_law 545 = .ok (.aload_n 0, 1) := by decide +kernel
theorem dL_law_546 : decode cL_law 546 = .ok (.iload 4, 2) := by decide +kernel
theorem dL_law_548 : decode cL_law 548 = .ok (.iconst 1, 1) := by decide +kernel
theorem dL_law_549 : decode cL_law 549 = .ok (.iadd, 1) := by decide +kernel
theorem dL_law_550 : decode cL_law 550 = .ok (.iaload, 1) := by decide +kernel
theorem dL_law_551 : decode cL_law 551 = .ok (.aload_n 0, 1) := by decide +kernel
theorem dL_law_552 : decode cL_law 552 = .ok (.iload 4, 2) := by decide +kernel
theorem dL_law_554 : decode cL_law 554 = .ok (.iconst 2, 1) := by decide +kernel
theorem dL_law_555 : decode cL_law 555 = .ok (.iadd, 1) := by decide +kernel
theorem dL_law_556 : decode cL_law 556 = .ok (.iaload, 1) := by decide +kernel
theorem dL_law_557 : decode cL_law 557 = .ok (.aload_n 0, 1) := by decide +kernel
theorem dL_law_558 : decode cL_law 558 = .ok (.iload 4, 2) := by decide +kernel
theorem dL_law_560 : decode cL_law 560 = .ok (.iconst 3, 1) := by decide +kernel
theorem dL_law_561 : decode cL_law 561 = .ok (.iadd, 1) := by decide +kernel
theorem dL_law_562 : decode cL_law 562 = .ok (.iaload, 1) := by decide +kernel
theorem dL_law_563 : decode cL_law 563 = .ok (.invokevirtual 98, 3) := by decide +kernel
theorem dL_law_566 : decode cL_law 566 = .ok (.istore 6, 2) := by decide +kernel
theorem dL_law_568 : decode cL_law 568 = .ok (.aload_n 2, 1) := by decide +kernel
theorem dL_law_569 : decode cL_law 569 = .ok (.invokevirtual 72, 3) := by decide +kernel
theorem dL_law_572 : decode cL_law 572 = .ok (.iload 5, 2) := by decide +kernel
theorem dL_law_574 : decode cL_law 574 = .ok (.if_icmp .eq 5, 3) := by decide +kernel
theorem dL_law_577 : decode cL_law 577 = .ok (.iconst 0, 1) := by decide +kernel
theorem dL_law_578 : decode cL_law 578 = .ok (.ireturn, 1) := by decide +kernel
theorem dL_law_579 : decode cL_law 579 = .ok (.iload 5, 2) := by decide +kernel
theorem dL_law_581 : decode cL_law 581 = .ok (.ifCond .ne 15, 3) := by decide +kernel
theorem dL_law_584 : decode cL_law 584 = .ok (.aload_n 3, 1) := by decide +kernel
theorem dL_law_585 : decode cL_law 585 = .ok (.iconst 0, 1) := by decide +kernel
theorem dL_law_586 : decode cL_law 586 = .ok (.laload, 1) := by decide +kernel
theorem dL_law_587 : decode cL_law 587 = .ok (.iload 6, 2) := by decide +kernel
theorem dL_law_589 : decode cL_law 589 = .ok (.i2l, 1) := by decide +kernel
theorem dL_law_590 : decode cL_law 590 = .ok (.lcmp, 1) := by decide +kernel
theorem dL_law_591 : decode cL_law 591 = .ok (.ifCond .eq 5, 3) := by decide +kernel
theorem dL_law_594 : decode cL_law 594 = .ok (.iconst 0, 1) := by decide +kernel
theorem dL_law_595 : decode cL_law 595 = .ok (.ireturn, 1) := by decide +kernel
theorem dL_law_596 : decode cL_law 596 = .ok (.goto 561, 3) := by decide +kernel
theorem dL_law_599 : decode cL_law 599 = .ok (.aload_n 1, 1) := by decide +kernel
theorem dL_law_600 : decode cL_law 600 = .ok (.aload_n 0, 1) := by decide +kernel
theorem dL_law_601 : decode cL_law 601 = .ok (.iload 4, 2) := by decide +kernel
theorem dL_law_603 : decode cL_law 603 = .ok (.iconst 1, 1) := by decide +kernel
theorem dL_law_604 : decode cL_law 604 = .ok (.iadd, 1) := by decide +kernel
theorem dL_law_605 : decode cL_law 605 = .ok (.iaload, 1) := by decide +kernel
theorem dL_law_606 : decode cL_law 606 = .ok (.aload_n 0, 1) := by decide +kernel
theorem dL_law_607 : decode cL_law 607 = .ok (.iload 4, 2) := by decide +kernel
theorem dL_law_609 : decode cL_law 609 = .ok (.iconst 2, 1) := by decide +kernel
theorem dL_law_610 : decode cL_law 610 = .ok (.iadd, 1) := by decide +kernel
theorem dL_law_611 : decode cL_law 611 = .ok (.iaload, 1) := by decide +kernel
theorem dL_law_612 : decode cL_law 612 = .ok (.aload_n 3, 1) := by decide +kernel
theorem dL_law_613 : decode cL_law 613 = .ok (.invokestatic 99, 3) := by decide +kernel
theorem dL_law_616 : decode cL_law 616 = .ok (.istore 5, 2) := by decide +kernel
theorem dL_law_618 : decode cL_law 618 = .ok (.aload_n 2, 1) := by decide +kernel
theorem dL_law_619 : decode cL_law 619 = .ok (.aload_n 0, 1) := by decide +kernel
theorem dL_law_620 : decode cL_law 620 = .ok (.iload 4, 2) := by decide +kernel
theorem dL_law_622 : decode cL_law 622 = .ok (.iconst 1, 1) := by decide +kernel
theorem dL_law_623 : decode cL_law 623 = .ok (.iadd, 1) := by decide +kernel
theorem dL_law_624 : decode cL_law 624 = .ok (.iaload, 1) := by decide +kernel
theorem dL_law_625 : decode cL_law 625 = .ok (.aload_n 0, 1) := by decide +kernel
theorem dL_law_626 : decode cL_law 626 = .ok (.iload 4, 2) := by decide +kernel
theorem dL_law_628 : decode cL_law 628 = .ok (.iconst 2, 1) := by decide +kernel
theorem dL_law_629 : decode cL_law 629 = .ok (.iadd, 1) := by decide +kernel
theorem dL_law_630 : decode cL_law 630 = .ok (.iaload, 1) := by decide +kernel
theorem dL_law_631 : decode cL_law 631 = .ok (.invokevirtual 101, 3) := by decide +kernel
theorem dL_law_634 : decode cL_law 634 = .ok (.istore 6, 2) := by decide +kernel
theorem dL_law_636 : decode cL_law 636 = .ok (.aload_n 2, 1) := by decide +kernel
theorem dL_law_637 : decode cL_law 637 = .ok (.invokevirtual 72, 3) := by decide +kernel
theorem dL_law_640 : decode cL_law 640 = .ok (.iload 5, 2) := by decide +kernel
theorem dL_law_642 : decode cL_law 642 = .ok (.if_icmp .eq 5, 3) := by decide +kernel
theorem dL_law_645 : decode cL_law 645 = .ok (.iconst 0, 1) := by decide +kernel
theorem dL_law_646 : decode cL_law 646 = .ok (.ireturn, 1) := by decide +kernel
theorem dL_law_647 : decode cL_law 647 = .ok (.iload 5, 2) := by decide +kernel
theorem dL_law_649 : decode cL_law 649 = .ok (.ifCond .ne 15, 3) := by decide +kernel
theorem dL_law_652 : decode cL_law 652 = .ok (.aload_n 3, 1) := by decide +kernel
theorem dL_law_653 : decode cL_law 653 = .ok (.iconst 0, 1) := by decide +kernel
theorem dL_law_654 : decode cL_law 654 = .ok (.laload, 1) := by decide +kernel
theorem dL_law_655 : decode cL_law 655 = .ok (.iload 6, 2) := by decide +kernel
theorem dL_law_657 : decode cL_law 657 = .ok (.i2l, 1) := by decide +kernel
theorem dL_law_658 : decode cL_law 658 = .ok (.lcmp, 1) := by decide +kernel
theorem dL_law_659 : decode cL_law 659 = .ok (.ifCond .eq 5, 3) := by decide +kernel
theorem dL_law_662 : decode cL_law 662 = .ok (.iconst 0, 1) := by decide +kernel
theorem dL_law_663 : decode cL_law 663 = .ok (.ireturn, 1) := by decide +kernel
theorem dL_law_664 : decode cL_law 664 = .ok (.goto 493, 3) := by decide +kernel
theorem dL_law_667 : decode cL_law 667 = .ok (.aload_n 1, 1) := by decide +kernel
theorem dL_law_668 : decode cL_law 668 = .ok (.aload_n 0, 1) := by decide +kernel
theorem dL_law_669 : decode cL_law 669 = .ok (.iload 4, 2) := by decide +kernel
theorem dL_law_671 : decode cL_law 671 = .ok (.iconst 1, 1) := by decide +kernel
theorem dL_law_672 : decode cL_law 672 = .ok (.iadd, 1) := by decide +kernel
theorem dL_law_673 : decode cL_law 673 = .ok (.iaload, 1) := by decide +kernel
theorem dL_law_674 : decode cL_law 674 = .ok (.aload_n 0, 1) := by decide +kernel
theorem dL_law_675 : decode cL_law 675 = .ok (.iload 4, 2) := by decide +kernel
theorem dL_law_677 : decode cL_law 677 = .ok (.iconst 2, 1) := by decide +kernel
theorem dL_law_678 : decode cL_law 678 = .ok (.iadd, 1) := by decide +kernel
theorem dL_law_679 : decode cL_law 679 = .ok (.iaload, 1) := by decide +kernel
theorem dL_law_680 : decode cL_law 680 = .ok (.aload_n 0, 1) := by decide +kernel
theorem dL_law_681 : decode cL_law 681 = .ok (.iload 4, 2) := by decide +kernel
theorem dL_law_683 : decode cL_law 683 = .ok (.iconst 3, 1) := by decide +kernel
theorem dL_law_684 : decode cL_law 684 = .ok (.iadd, 1) := by decide +kernel
theorem dL_law_685 : decode cL_law 685 = .ok (.iaload, 1) := by decide +kernel
theorem dL_law_686 : decode cL_law 686 = .ok (.aload_n 3, 1) := by decide +kernel
theorem dL_law_687 : decode cL_law 687 = .ok (.invokestatic 102, 3) := by decide +kernel
theorem dL_law_690 : decode cL_law 690 = .ok (.istore 5, 2) := by decide +kernel
theorem dL_law_692 : decode cL_law 692 = .ok (.aload_n 2, 1) := by decide +kernel
theorem dL_law_693 : decode cL_law 693 = .ok (.aload_n 0, 1) := by decide +kernel
theorem dL_law_694 : decode cL_law 694 = .ok (.iload 4, 2) := by decide +kernel
theorem dL_law_696 : decode cL_law 696 = .ok (.iconst 1, 1) := by decide +kernel
theorem dL_law_697 : decode cL_law 697 = .ok (.iadd, 1) := by decide +kernel
theorem dL_law_698 : decode cL_law 698 = .ok (.iaload, 1) := by decide +kernel
theorem dL_law_699 : decode cL_law 699 = .ok (.aload_n 0, 1) := by decide +kernel
theorem dL_law_700 : decode cL_law 700 = .ok (.iload 4, 2) := by decide +kernel
theorem dL_law_702 : decode cL_law 702 = .ok (.iconst 2, 1) := by decide +kernel
theorem dL_law_703 : decode cL_law 703 = .ok (.iadd, 1) := by decide +kernel
theorem dL_law_704 : decode cL_law 704 = .ok (.iaload, 1) := by decide +kernel
theorem dL_law_705 : decode cL_law 705 = .ok (.aload_n 0, 1) := by decide +kernel
theorem dL_law_706 : decode cL_law 706 = .ok (.iload 4, 2) := by decide +kernel
theorem dL_law_708 : decode cL_law 708 = .ok (.iconst 3, 1) := by decide +kernel
theorem dL_law_709 : decode cL_law 709 = .ok (.iadd, 1) := by decide +kernel
theorem dL_law_710 : decode cL_law 710 = .ok (.iaload, 1) := by decide +kernel
theorem dL_law_711 : decode cL_law 711 = .ok (.invokevirtual 104, 3) := by decide +kernel
theorem dL_law_714 : decode cL_law 714 = .ok (.istore 6, 2) := by decide +kernel
theorem dL_law_716 : decode cL_law 716 = .ok (.aload_n 2, 1) := by decide +kernel
theorem dL_law_717 : decode cL_law 717 = .ok (.invokevirtual 72, 3) := by decide +kernel
theorem dL_law_720 : decode cL_law 720 = .ok (.iload 5, 2) := by decide +kernel
theorem dL_law_722 : decode cL_law 722 = .ok (.if_icmp .eq 5, 3) := by decide +kernel
theorem dL_law_725 : decode cL_law 725 = .ok (.iconst 0, 1) := by decide +kernel
theorem dL_law_726 : decode cL_law 726 = .ok (.ireturn, 1) := by decide +kernel
theorem dL_law_727 : decode cL_law 727 = .ok (.iload 5, 2) := by decide +kernel
theorem dL_law_729 : decode cL_law 729 = .ok (.ifCond .ne 15, 3) := by decide +kernel
theorem dL_law_732 : decode cL_law 732 = .ok (.aload_n 3, 1) := by decide +kernel
theorem dL_law_733 : decode cL_law 733 = .ok (.iconst 0, 1) := by decide +kernel
theorem dL_law_734 : decode cL_law 734 = .ok (.laload, 1) := by decide +kernel
theorem dL_law_735 : decode cL_law 735 = .ok (.iload 6, 2) := by decide +kernel
theorem dL_law_737 : decode cL_law 737 = .ok (.i2l, 1) := by decide +kernel
theorem dL_law_738 : decode cL_law 738 = .ok (.lcmp, 1) := by decide +kernel
theorem dL_law_739 : decode cL_law 739 = .ok (.ifCond .eq 5, 3) := by decide +kernel
theorem dL_law_742 : decode cL_law 742 = .ok (.iconst 0, 1) := by decide +kernel
theorem dL_law_743 : decode cL_law 743 = .ok (.ireturn, 1) := by decide +kernel
theorem dL_law_744 : decode cL_law 744 = .ok (.goto 413, 3) := by decide +kernel
theorem dL_law_747 : decode cL_law 747 = .ok (.aload_n 1, 1) := by decide +kernel
theorem dL_law_748 : decode cL_law 748 = .ok (.aload_n 0, 1) := by decide +kernel
theorem dL_law_749 : decode cL_law 749 = .ok (.iload 4, 2) := by decide +kernel
theorem dL_law_751 : decode cL_law 751 = .ok (.iconst 1, 1) := by decide +kernel
theorem dL_law_752 : decode cL_law 752 = .ok (.iadd, 1) := by decide +kernel
theorem dL_law_753 : decode cL_law 753 = .ok (.iaload, 1) := by decide +kernel
theorem dL_law_754 : decode cL_law 754 = .ok (.aload_n 3, 1) := by decide +kernel
theorem dL_law_755 : decode cL_law 755 = .ok (.invokestatic 105, 3) := by decide +kernel
theorem dL_law_758 : decode cL_law 758 = .ok (.istore 5, 2) := by decide +kernel
theorem dL_law_760 : decode cL_law 760 = .ok (.aload_n 2, 1) := by decide +kernel
theorem dL_law_761 : decode cL_law 761 = .ok (.aload_n 0, 1) := by decide +kernel
theorem dL_law_762 : decode cL_law 762 = .ok (.iload 4, 2) := by decide +kernel
theorem dL_law_764 : decode cL_law 764 = .ok (.iconst 1, 1) := by decide +kernel
theorem dL_law_765 : decode cL_law 765 = .ok (.iadd, 1) := by decide +kernel
theorem dL_law_766 : decode cL_law 766 = .ok (.iaload, 1) := by decide +kernel
theorem dL_law_767 : decode cL_law 767 = .ok (.invokevirtual 107, 3) := by decide +kernel
theorem dL_law_770 : decode cL_law 770 = .ok (.istore 6, 2) := by decide +kernel
theorem dL_law_772 : decode cL_law 772 = .ok (.aload_n 2, 1) := by decide +kernel
theorem dL_law_773 : decode cL_law 773 = .ok (.invokevirtual 72, 3) := by decide +kernel
theorem dL_law_776 : decode cL_law 776 = .ok (.iload 5, 2) := by decide +kernel
theorem dL_law_778 : decode cL_law 778 = .ok (.if_icmp .eq 5, 3) := by decide +kernel
theorem dL_law_781 : decode cL_law 781 = .ok (.iconst 0, 1) := by decide +kernel
theorem dL_law_782 : decode cL_law 782 = .ok (.ireturn, 1) := by decide +kernel
theorem dL_law_783 : decode cL_law 783 = .ok (.iload 5, 2) := by decide +kernel
theorem dL_law_785 : decode cL_law 785 = .ok (.ifCond .ne 15, 3) := by decide +kernel
theorem dL_law_788 : decode cL_law 788 = .ok (.aload_n 3, 1) := by decide +kernel
theorem dL_law_789 : decode cL_law 789 = .ok (.iconst 0, 1) := by decide +kernel
theorem dL_law_790 : decode cL_law 790 = .ok (.laload, 1) := by decide +kernel
theorem dL_law_791 : decode cL_law 791 = .ok (.iload 6, 2) := by decide +kernel
theorem dL_law_793 : decode cL_law 793 = .ok (.i2l, 1) := by decide +kernel
theorem dL_law_794 : decode cL_law 794 = .ok (.lcmp, 1) := by decide +kernel
theorem dL_law_795 : decode cL_law 795 = .ok (.ifCond .eq 5, 3) := by decide +kernel
theorem dL_law_798 : decode cL_law 798 = .ok (.iconst 0, 1) := by decide +kernel
theorem dL_law_799 : decode cL_law 799 = .ok (.ireturn, 1) := by decide +kernel
theorem dL_law_800 : decode cL_law 800 = .ok (.goto 357, 3) := by decide +kernel
theorem dL_law_803 : decode cL_law 803 = .ok (.aload_n 1, 1) := by decide +kernel
theorem dL_law_804 : decode cL_law 804 = .ok (.aload_n 0, 1) := by decide +kernel
theorem dL_law_805 : decode cL_law 805 = .ok (.iload 4, 2) := by decide +kernel
theorem dL_law_807 : decode cL_law 807 = .ok (.iconst 1, 1) := by decide +kernel
theorem dL_law_808 : decode cL_law 808 = .ok (.iadd, 1) := by decide +kernel
theorem dL_law_809 : decode cL_law 809 = .ok (.iaload, 1) := by decide +kernel
theorem dL_law_810 : decode cL_law 810 = .ok (.aload_n 3, 1) := by decide +kernel
theorem dL_law_811 : decode cL_law 811 = .ok (.invokestatic 108, 3) := by decide +kernel
theorem dL_law_814 : decode cL_law 814 = .ok (.istore 5, 2) := by decide +kernel
theorem dL_law_816 : decode cL_law 816 = .ok (.aload_n 2, 1) := by decide +kernel
theorem dL_law_817 : decode cL_law 817 = .ok (.aload_n 0, 1) := by decide +kernel
theorem dL_law_818 : decode cL_law 818 = .ok (.iload 4, 2) := by decide +kernel
theorem dL_law_820 : decode cL_law 820 = .ok (.iconst 1, 1) := by decide +kernel
theorem dL_law_821 : decode cL_law 821 = .ok (.iadd, 1) := by decide +kernel
theorem dL_law_822 : decode cL_law 822 = .ok (.iaload, 1) := by decide +kernel
theorem dL_law_823 : decode cL_law 823 = .ok (.invokevirtual 110, 3) := by decide +kernel
theorem dL_law_826 : decode cL_law 826 = .ok (.istore 6, 2) := by decide +kernel
theorem dL_law_828 : decode cL_law 828 = .ok (.aload_n 2, 1) := by decide +kernel
theorem dL_law_829 : decode cL_law 829 = .ok (.invokevirtual 72, 3) := by decide +kernel
theorem dL_law_832 : decode cL_law 832 = .ok (.iload 5, 2) := by decide +kernel
theorem dL_law_834 : decode cL_law 834 = .ok (.if_icmp .eq 5, 3) := by decide +kernel
theorem dL_law_837 : decode cL_law 837 = .ok (.iconst 0, 1) := by decide +kernel
theorem dL_law_838 : decode cL_law 838 = .ok (.ireturn, 1) := by decide +kernel
theorem dL_law_839 : decode cL_law 839 = .ok (.iload 5, 2) := by decide +kernel
theorem dL_law_841 : decode cL_law 841 = .ok (.ifCond .ne 15, 3) := by decide +kernel
theorem dL_law_844 : decode cL_law 844 = .ok (.aload_n 3, 1) := by decide +kernel
theorem dL_law_845 : decode cL_law 845 = .ok (.iconst 0, 1) := by decide +kernel
theorem dL_law_846 : decode cL_law 846 = .ok (.laload, 1) := by decide +kernel
theorem dL_law_847 : decode cL_law 847 = .ok (.iload 6, 2) := by decide +kernel
theorem dL_law_849 : decode cL_law 849 = .ok (.i2l, 1) := by decide +kernel
theorem dL_law_850 : decode cL_law 850 = .ok (.lcmp, 1) := by decide +kernel
theorem dL_law_851 : decode cL_law 851 = .ok (.ifCond .eq 5, 3) := by decide +kernel
theorem dL_law_854 : decode cL_law 854 = .ok (.iconst 0, 1) := by decide +kernel
theorem dL_law_855 : decode cL_law 855 = .ok (.ireturn, 1) := by decide +kernel
theorem dL_law_856 : decode cL_law 856 = .ok (.goto 301, 3) := by decide +kernel
theorem dL_law_859 : decode cL_law 859 = .ok (.aload_n 1, 1) := by decide +kernel
theorem dL_law_860 : decode cL_law 860 = .ok (.aload_n 0, 1) := by decide +kernel
theorem dL_law_861 : decode cL_law 861 = .ok (.iload 4, 2) := by decide +kernel
theorem dL_law_863 : decode cL_law 863 = .ok (.iconst 1, 1) := by decide +kernel
theorem dL_law_864 : decode cL_law 864 = .ok (.iadd, 1) := by decide +kernel
theorem dL_law_865 : decode cL_law 865 = .ok (.iaload, 1) := by decide +kernel
theorem dL_law_866 : decode cL_law 866 = .ok (.aload_n 0, 1) := by decide +kernel
theorem dL_law_867 : decode cL_law 867 = .ok (.iload 4, 2) := by decide +kernel
theorem dL_law_869 : decode cL_law 869 = .ok (.iconst 2, 1) := by decide +kernel
theorem dL_law_870 : decode cL_law 870 = .ok (.iadd, 1) := by decide +kernel
theorem dL_law_871 : decode cL_law 871 = .ok (.iaload, 1) := by decide +kernel
theorem dL_law_872 : decode cL_law 872 = .ok (.aload_n 0, 1) := by decide +kernel
theorem dL_law_873 : decode cL_law 873 = .ok (.iload 4, 2) := by decide +kernel
theorem dL_law_875 : decode cL_law 875 = .ok (.iconst 3, 1) := by decide +kernel
theorem dL_law_876 : decode cL_law 876 = .ok (.iadd, 1) := by decide +kernel
theorem dL_law_877 : decode cL_law 877 = .ok (.iaload, 1) := by decide +kernel
theorem dL_law_878 : decode cL_law 878 = .ok (.aload_n 0, 1) := by decide +kernel
theorem dL_law_879 : decode cL_law 879 = .ok (.iload 4, 2) := by decide +kernel
theorem dL_law_881 : decode cL_law 881 = .ok (.iconst 4, 1) := by decide +kernel
theorem dL_law_882 : decode cL_law 882 = .ok (.iadd, 1) := by decide +kernel
theorem dL_law_883 : decode cL_law 883 = .ok (.iaload, 1) := by decide +kernel
theorem dL_law_884 : decode cL_law 884 = .ok (.aload_n 0, 1) := by decide +kernel
theorem dL_law_885 : decode cL_law 885 = .ok (.iload 4, 2) := by decide +kernel
theorem dL_law_887 : decode cL_law 887 = .ok (.iconst 5, 1) := by decide +kernel
theorem dL_law_888 : decode cL_law 888 = .ok (.iadd, 1) := by decide +kernel
theorem dL_law_889 : decode cL_law 889 = .ok (.iaload, 1) := by decide +kernel
theorem dL_law_890 : decode cL_law 890 = .ok (.aload_n 0, 1) := by decide +kernel
theorem dL_law_891 : decode cL_law 891 = .ok (.iload 4, 2) := by decide +kernel
theorem dL_law_893 : decode cL_law 893 = .ok (.bipush 6, 2) := by decide +kernel
theorem dL_law_895 : decode cL_law 895 = .ok (.iadd, 1) := by decide +kernel
theorem dL_law_896 : decode cL_law 896 = .ok (.iaload, 1) := by decide +kernel
theorem dL_law_897 : decode cL_law 897 = .ok (.aload_n 3, 1) := by decide +kernel
theorem dL_law_898 : decode cL_law 898 = .ok (.invokestatic 111, 3) := by decide +kernel
theorem dL_law_901 : decode cL_law 901 = .ok (.istore 5, 2) := by decide +kernel
theorem dL_law_903 : decode cL_law 903 = .ok (.aload_n 2, 1) := by decide +kernel
theorem dL_law_904 : decode cL_law 904 = .ok (.aload_n 0, 1) := by decide +kernel
theorem dL_law_905 : decode cL_law 905 = .ok (.iload 4, 2) := by decide +kernel
theorem dL_law_907 : decode cL_law 907 = .ok (.iconst 1, 1) := by decide +kernel
theorem dL_law_908 : decode cL_law 908 = .ok (.iadd, 1) := by decide +kernel
theorem dL_law_909 : decode cL_law 909 = .ok (.iaload, 1) := by decide +kernel
theorem dL_law_910 : decode cL_law 910 = .ok (.aload_n 0, 1) := by decide +kernel
theorem dL_law_911 : decode cL_law 911 = .ok (.iload 4, 2) := by decide +kernel
theorem dL_law_913 : decode cL_law 913 = .ok (.iconst 2, 1) := by decide +kernel
theorem dL_law_914 : decode cL_law 914 = .ok (.iadd, 1) := by decide +kernel
theorem dL_law_915 : decode cL_law 915 = .ok (.iaload, 1) := by decide +kernel
theorem dL_law_916 : decode cL_law 916 = .ok (.aload_n 0, 1) := by decide +kernel
theorem dL_law_917 : decode cL_law 917 = .ok (.iload 4, 2) := by decide +kernel
theorem dL_law_919 : decode cL_law 919 = .ok (.iconst 3, 1) := by decide +kernel
theorem dL_law_920 : decode cL_law 920 = .ok (.iadd, 1) := by decide +kernel
theorem dL_law_921 : decode cL_law 921 = .ok (.iaload, 1) := by decide +kernel
theorem dL_law_922 : decode cL_law 922 = .ok (.aload_n 0, 1) := by decide +kernel
theorem dL_law_923 : decode cL_law 923 = .ok (.iload 4, 2) := by decide +kernel
theorem dL_law_925 : decode cL_law 925 = .ok (.iconst 4, 1) := by decide +kernel
theorem dL_law_926 : decode cL_law 926 = .ok (.iadd, 1) := by decide +kernel
theorem dL_law_927 : decode cL_law 927 = .ok (.iaload, 1) := by decide +kernel
theorem dL_law_928 : decode cL_law 928 = .ok (.aload_n 0, 1) := by decide +kernel
theorem dL_law_929 : decode cL_law 929 = .ok (.iload 4, 2) := by decide +kernel
theorem dL_law_931 : decode cL_law 931 = .ok (.iconst 5, 1) := by decide +kernel
theorem dL_law_932 : decode cL_law 932 = .ok (.iadd, 1) := by decide +kernel
theorem dL_law_933 : decode cL_law 933 = .ok (.iaload, 1) := by decide +kernel
theorem dL_law_934 : decode cL_law 934 = .ok (.aload_n 0, 1) := by decide +kernel
theorem dL_law_935 : decode cL_law 935 = .ok (.iload 4, 2) := by decide +kernel
theorem dL_law_937 : decode cL_law 937 = .ok (.bipush 6, 2) := by decide +kernel
theorem dL_law_939 : decode cL_law 939 = .ok (.iadd, 1) := by decide +kernel
theorem dL_law_940 : decode cL_law 940 = .ok (.iaload, 1) := by decide +kernel
theorem dL_law_941 : decode cL_law 941 = .ok (.invokevirtual 113, 3) := by decide +kernel
theorem dL_law_944 : decode cL_law 944 = .ok (.istore 6, 2) := by decide +kernel
theorem dL_law_946 : decode cL_law 946 = .ok (.aload_n 2, 1) := by decide +kernel
theorem dL_law_947 : decode cL_law 947 = .ok (.invokevirtual 72, 3) := by decide +kernel
theorem dL_law_950 : decode cL_law 950 = .ok (.iload 5, 2) := by decide +kernel
theorem dL_law_952 : decode cL_law 952 = .ok (.if_icmp .eq 5, 3) := by decide +kernel
theorem dL_law_955 : decode cL_law 955 = .ok (.iconst 0, 1) := by decide +kernel
theorem dL_law_956 : decode cL_law 956 = .ok (.ireturn, 1) := by decide +kernel
theorem dL_law_957 : decode cL_law 957 = .ok (.iload 5, 2) := by decide +kernel
theorem dL_law_959 : decode cL_law 959 = .ok (.ifCond .ne 15, 3) := by decide +kernel
theorem dL_law_962 : decode cL_law 962 = .ok (.aload_n 3, 1) := by decide +kernel
theorem dL_law_963 : decode cL_law 963 = .ok (.iconst 0, 1) := by decide +kernel
theorem dL_law_964 : decode cL_law 964 = .ok (.laload, 1) := by decide +kernel
theorem dL_law_965 : decode cL_law 965 = .ok (.iload 6, 2) := by decide +kernel
theorem dL_law_967 : decode cL_law 967 = .ok (.i2l, 1) := by decide +kernel
theorem dL_law_968 : decode cL_law 968 = .ok (.lcmp, 1) := by decide +kernel
theorem dL_law_969 : decode cL_law 969 = .ok (.ifCond .eq 5, 3) := by decide +kernel
theorem dL_law_972 : decode cL_law 972 = .ok (.iconst 0, 1) := by decide +kernel
theorem dL_law_973 : decode cL_law 973 = .ok (.ireturn, 1) := by decide +kernel
theorem dL_law_974 : decode cL_law 974 = .ok (.goto 183, 3) := by decide +kernel
theorem dL_law_977 : decode cL_law 977 = .ok (.aload_n 1, 1) := by decide +kernel
theorem dL_law_978 : decode cL_law 978 = .ok (.aload_n 0, 1) := by decide +kernel
theorem dL_law_979 : decode cL_law 979 = .ok (.iload 4, 2) := by decide +kernel
theorem dL_law_981 : decode cL_law 981 = .ok (.iconst 1, 1) := by decide +kernel
theorem dL_law_982 : decode cL_law 982 = .ok (.iadd, 1) := by decide +kernel
theorem dL_law_983 : decode cL_law 983 = .ok (.iaload, 1) := by decide +kernel
theorem dL_law_984 : decode cL_law 984 = .ok (.aload_n 3, 1) := by decide +kernel
theorem dL_law_985 : decode cL_law 985 = .ok (.invokestatic 114, 3) := by decide +kernel
theorem dL_law_988 : decode cL_law 988 = .ok (.istore 5, 2) := by decide +kernel
theorem dL_law_990 : decode cL_law 990 = .ok (.aload_n 2, 1) := by decide +kernel
theorem dL_law_991 : decode cL_law 991 = .ok (.aload_n 0, 1) := by decide +kernel
theorem dL_law_992 : decode cL_law 992 = .ok (.iload 4, 2) := by decide +kernel
theorem dL_law_994 : decode cL_law 994 = .ok (.iconst 1, 1) := by decide +kernel
theorem dL_law_995 : decode cL_law 995 = .ok (.iadd, 1) := by decide +kernel
theorem dL_law_996 : decode cL_law 996 = .ok (.iaload, 1) := by decide +kernel
theorem dL_law_997 : decode cL_law 997 = .ok (.invokevirtual 116, 3) := by decide +kernel
theorem dL_law_1000 : decode cL_law 1000 = .ok (.istore 6, 2) := by decide +kernel
theorem dL_law_1002 : decode cL_law 1002 = .ok (.aload_n 2, 1) := by decide +kernel
theorem dL_law_1003 : decode cL_law 1003 = .ok (.invokevirtual 72, 3) := by decide +kernel
theorem dL_law_1006 : decode cL_law 1006 = .ok (.iload 5, 2) := by decide +kernel
theorem dL_law_1008 : decode cL_law 1008 = .ok (.if_icmp .eq 5, 3) := by decide +kernel
theorem dL_law_1011 : decode cL_law 1011 = .ok (.iconst 0, 1) := by decide +kernel
theorem dL_law_1012 : decode cL_law 1012 = .ok (.ireturn, 1) := by decide +kernel
theorem dL_law_1013 : decode cL_law 1013 = .ok (.iload 5, 2) := by decide +kernel
theorem dL_law_1015 : decode cL_law 1015 = .ok (.ifCond .ne 15, 3) := by decide +kernel
theorem dL_law_1018 : decode cL_law 1018 = .ok (.aload_n 3, 1) := by decide +kernel
theorem dL_law_1019 : decode cL_law 1019 = .ok (.iconst 0, 1) := by decide +kernel
theorem dL_law_1020 : decode cL_law 1020 = .ok (.laload, 1) := by decide +kernel
theorem dL_law_1021 : decode cL_law 1021 = .ok (.iload 6, 2) := by decide +kernel
theorem dL_law_1023 : decode cL_law 1023 = .ok (.i2l, 1) := by decide +kernel
theorem dL_law_1024 : decode cL_law 1024 = .ok (.lcmp, 1) := by decide +kernel
theorem dL_law_1025 : decode cL_law 1025 = .ok (.ifCond .eq 5, 3) := by decide +kernel
theorem dL_law_1028 : decode cL_law 1028 = .ok (.iconst 0, 1) := by decide +kernel
theorem dL_law_1029 : decode cL_law 1029 = .ok (.ireturn, 1) := by decide +kernel
theorem dL_law_1030 : decode cL_law 1030 = .ok (.goto 127, 3) := by decide +kernel
theorem dL_law_1033 : decode cL_law 1033 = .ok (.aload_n 1, 1) := by decide +kernel
theorem dL_law_1034 : decode cL_law 1034 = .ok (.aload_n 0, 1) := by decide +kernel
theorem dL_law_1035 : decode cL_law 1035 = .ok (.iload 4, 2) := by decide +kernel
theorem dL_law_1037 : decode cL_law 1037 = .ok (.iconst 1, 1) := by decide +kernel
theorem dL_law_1038 : decode cL_law 1038 = .ok (.iadd, 1) := by decide +kernel
theorem dL_law_1039 : decode cL_law 1039 = .ok (.iaload, 1) := by decide +kernel
theorem dL_law_1040 : decode cL_law 1040 = .ok (.aload_n 3, 1) := by decide +kernel
theorem dL_law_1041 : decode cL_law 1041 = .ok (.invokestatic 117, 3) := by decide +kernel
theorem dL_law_1044 : decode cL_law 1044 = .ok (.istore 5, 2) := by decide +kernel
theorem dL_law_1046 : decode cL_law 1046 = .ok (.aload_n 2, 1) := by decide +kernel
theorem dL_law_1047 : decode cL_law 1047 = .ok (.aload_n 0, 1) := by decide +kernel
theorem dL_law_1048 : decode cL_law 1048 = .ok (.iload 4, 2) := by decide +kernel
theorem dL_law_1050 : decode cL_law 1050 = .ok (.iconst 1, 1) := by decide +kernel
theorem dL_law_1051 : decode cL_law 1051 = .ok (.iadd, 1) := by decide +kernel
theorem dL_law_1052 : decode cL_law 1052 = .ok (.iaload, 1) := by decide +kernel
theorem dL_law_1053 : decode cL_law 1053 = .ok (.invokevirtual 119, 3) := by decide +kernel
theorem dL_law_1056 : decode cL_law 1056 = .ok (.istore 6, 2) := by decide +kernel
theorem dL_law_1058 : decode cL_law 1058 = .ok (.aload_n 2, 1) := by decide +kernel
theorem dL_law_1059 : decode cL_law 1059 = .ok (.invokevirtual 72, 3) := by decide +kernel
theorem dL_law_1062 : decode cL_law 1062 = .ok (.iload 5, 2) := by decide +kernel
theorem dL_law_1064 : decode cL_law 1064 = .ok (.if_icmp .eq 5, 3) := by decide +kernel
theorem dL_law_1067 : decode cL_law 1067 = .ok (.iconst 0, 1) := by decide +kernel
theorem dL_law_1068 : decode cL_law 1068 = .ok (.ireturn, 1) := by decide +kernel
theorem dL_law_1069 : decode cL_law 1069 = .ok (.iload 5, 2) := by decide +kernel
theorem dL_law_1071 : decode cL_law 1071 = .ok (.ifCond .ne 15, 3) := by decide +kernel
theorem dL_law_1074 : decode cL_law 1074 = .ok (.aload_n 3, 1) := by decide +kernel
theorem dL_law_1075 : decode cL_law 1075 = .ok (.iconst 0, 1) := by decide +kernel
theorem dL_law_1076 : decode cL_law 1076 = .ok (.laload, 1) := by decide +kernel
theorem dL_law_1077 : decode cL_law 1077 = .ok (.iload 6, 2) := by decide +kernel
theorem dL_law_1079 : decode cL_law 1079 = .ok (.i2l, 1) := by decide +kernel
theorem dL_law_1080 : decode cL_law 1080 = .ok (.lcmp, 1) := by decide +kernel
theorem dL_law_1081 : decode cL_law 1081 = .ok (.ifCond .eq 5, 3) := by decide +kernel
theorem dL_law_1084 : decode cL_law 1084 = .ok (.iconst 0, 1) := by decide +kernel
theorem dL_law_1085 : decode cL_law 1085 = .ok (.ireturn, 1) := by decide +kernel
theorem dL_law_1086 : decode cL_law 1086 = .ok (.goto 71, 3) := by decide +kernel
theorem dL_law_1089 : decode cL_law 1089 = .ok (.aload_n 1, 1) := by decide +kernel
theorem dL_law_1090 : decode cL_law 1090 = .ok (.aload_n 0, 1) := by decide +kernel
theorem dL_law_1091 : decode cL_law 1091 = .ok (.iload 4, 2) := by decide +kernel
theorem dL_law_1093 : decode cL_law 1093 = .ok (.iconst 1, 1) := by decide +kernel
theorem dL_law_1094 : decode cL_law 1094 = .ok (.iadd, 1) := by decide +kernel
theorem dL_law_1095 : decode cL_law 1095 = .ok (.iaload, 1) := by decide +kernel
theorem dL_law_1096 : decode cL_law 1096 = .ok (.aload_n 0, 1) := by decide +kernel
theorem dL_law_1097 : decode cL_law 1097 = .ok (.iload 4, 2) := by decide +kernel
theorem dL_law_1099 : decode cL_law 1099 = .ok (.iconst 2, 1) := by decide +kernel
theorem dL_law_1100 : decode cL_law 1100 = .ok (.iadd, 1) := by decide +kernel
theorem dL_law_1101 : decode cL_law 1101 = .ok (.iaload, 1) := by decide +kernel
theorem dL_law_1102 : decode cL_law 1102 = .ok (.aload_n 3, 1) := by decide +kernel
theorem dL_law_1103 : decode cL_law 1103 = .ok (.invokestatic 120, 3) := by decide +kernel
theorem dL_law_1106 : decode cL_law 1106 = .ok (.istore 5, 2) := by decide +kernel
theorem dL_law_1108 : decode cL_law 1108 = .ok (.aload_n 2, 1) := by decide +kernel
theorem dL_law_1109 : decode cL_law 1109 = .ok (.aload_n 0, 1) := by decide +kernel
theorem dL_law_1110 : decode cL_law 1110 = .ok (.iload 4, 2) := by decide +kernel
theorem dL_law_1112 : decode cL_law 1112 = .ok (.iconst 1, 1) := by decide +kernel
theorem dL_law_1113 : decode cL_law 1113 = .ok (.iadd, 1) := by decide +kernel
theorem dL_law_1114 : decode cL_law 1114 = .ok (.iaload, 1) := by decide +kernel
theorem dL_law_1115 : decode cL_law 1115 = .ok (.aload_n 0, 1) := by decide +kernel
theorem dL_law_1116 : decode cL_law 1116 = .ok (.iload 4, 2) := by decide +kernel
theorem dL_law_1118 : decode cL_law 1118 = .ok (.iconst 2, 1) := by decide +kernel
theorem dL_law_1119 : decode cL_law 1119 = .ok (.iadd, 1) := by decide +kernel
theorem dL_law_1120 : decode cL_law 1120 = .ok (.iaload, 1) := by decide +kernel
theorem dL_law_1121 : decode cL_law 1121 = .ok (.invokevirtual 122, 3) := by decide +kernel
theorem dL_law_1124 : decode cL_law 1124 = .ok (.istore 6, 2) := by decide +kernel
theorem dL_law_1126 : decode cL_law 1126 = .ok (.aload_n 2, 1) := by decide +kernel
theorem dL_law_1127 : decode cL_law 1127 = .ok (.invokevirtual 72, 3) := by decide +kernel
theorem dL_law_1130 : decode cL_law 1130 = .ok (.iload 5, 2) := by decide +kernel
theorem dL_law_1132 : decode cL_law 1132 = .ok (.if_icmp .eq 5, 3) := by decide +kernel
theorem dL_law_1135 : decode cL_law 1135 = .ok (.iconst 0, 1) := by decide +kernel
theorem dL_law_1136 : decode cL_law 1136 = .ok (.ireturn, 1) := by decide +kernel
theorem dL_law_1137 : decode cL_law 1137 = .ok (.iload 5, 2) := by decide +kernel
theorem dL_law_1139 : decode cL_law 1139 = .ok (.ifCond .ne 15, 3) := by decide +kernel
theorem dL_law_1142 : decode cL_law 1142 = .ok (.aload_n 3, 1) := by decide +kernel
theorem dL_law_1143 : decode cL_law 1143 = .ok (.iconst 0, 1) := by decide +kernel
theorem dL_law_1144 : decode cL_law 1144 = .ok (.laload, 1) := by decide +kernel
theorem dL_law_1145 : decode cL_law 1145 = .ok (.iload 6, 2) := by decide +kernel
theorem dL_law_1147 : decode cL_law 1147 = .ok (.i2l, 1) := by decide +kernel
theorem dL_law_1148 : decode cL_law 1148 = .ok (.lcmp, 1) := by decide +kernel
theorem dL_law_1149 : decode cL_law 1149 = .ok (.ifCond .eq 5, 3) := by decide +kernel
theorem dL_law_1152 : decode cL_law 1152 = .ok (.iconst 0, 1) := by decide +kernel
theorem dL_law_1153 : decode cL_law 1153 = .ok (.ireturn, 1) := by decide +kernel
theorem dL_law_1154 : decode cL_law 1154 = .ok (.goto 3, 3) := by decide +kernel
theorem dL_law_1157 : decode cL_law 1157 = .ok (.iinc 4 7, 3) := by decide +kernel
theorem dL_law_1160 : decode cL_law 1160 = .ok (.goto (-1137), 3) := by decide +kernel
theorem dL_law_1163 : decode cL_law 1163 = .ok (.iconst 1, 1) := by decide +kernel
theorem dL_law_1164 : decode cL_law 1164 = .ok (.ireturn, 1) := by decide +kernel
end
section
/-! THE LAYER J: the heap as a map of nodes. A node has an address and a shape; what it holds is read off a map of whole numbers (node, place). A row an instruction. -/
abbrev jm_M : Type := Int → Int → Int
abbrev jm_S : Type := Int → (Int → Int) → va_E
abbrev jm_W : Type := List Int × (Int → Nat) × jm_S
abbrev jm_E : Type := Launch × va_G × (Nat → ClassId)
abbrev jm_G : Type := Program × Env × Room × State × MethodId × Array Value × List Frame × Method × Code × (State → Prop) × (Nat → Prop)
def jm_i (z : Int) : Int32 := Int32.ofInt z
abbrev jm_v (z : Int) : Value := .int (jm_i z)
abbrev jm_R (z : Int) : Prop := -2147483648 ≤ z ∧ z ≤ 2147483647
def jm_f (w : jm_W) (I : jm_M) (k : Int) : Nat × va_E := (w.2.1 k, w.2.2 k (I k))
def jm_ws (w : jm_W) (I : jm_M) : va_W := w.1.map (jm_f w I)
def jm_A (w : jm_W) (sz : Nat) : Nat → Prop := fun q => (∃ k, k ∈ w.1 ∧ w.2.1 k = q) ∨ sz ≤ q
def jm_up (I : jm_M) (k j v : Int) : jm_M := fun a b => if a = k ∧ b = j then v else I a b
-- shapes: an object (a place holds a number, or the value given), a row of numbers, of references, of longs
def jm_fs : List (Option Value) → Int → (Int → Int) → List Value
  | [], _, _ => []
  | none :: t, j, f => jm_v (f j) :: jm_fs t (j + 1) f
  | some v :: t, j, f => v :: jm_fs t (j + 1) f
def jm_O (ci : Nat) (tm : List (Option Value)) : (Int → Int) → va_E := fun f => .inr (ci, jm_fs tm 0 f)
def jm_Ia (cA : ClassId) (n : Nat) : (Int → Int) → va_E := fun f => .inl (cA, n, .inl (fun j => jm_i (f j)))
def jm_Qa (cA : ClassId) (n : Nat) (g : Nat → Option Nat) : (Int → Int) → va_E := fun _ => .inl (cA, n, .inr (.inr (.inr (.inr g))))
def jm_La (cA : ClassId) (n : Nat) : (Int → Int) → va_E := fun f => .inl (cA, n, .inr (.inl (fun j => Int64.ofInt (f j))))
def jm_t (ca : Nat → ClassId) : List (ClassId × FieldType) := [(ca 0, .int), (ca 1, .boolean), (ca 2, .long), (ca 3, .object RX1), (ca 4, .object RX4), (ca 5, .object RX0)]
-- numbers
theorem jm_i_add (a b : Int) : jm_i a + jm_i b = jm_i (a + b) := (Int32.ofInt_add a b).symm
theorem jm_i_sub (a b : Int) : jm_i a - jm_i b = jm_i (a - b) := (Int32.ofInt_sub a b).symm
theorem jm_i_mul (a b : Int) : jm_i a * jm_i b = jm_i (a * b) := (Int32.ofInt_mul a b).symm
theorem jm_i_neg (a : Int) : -jm_i a = jm_i (-a) := (Int32.ofInt_neg a).symm
theorem jm_i_toInt {a : Int} (h : jm_R a) : (jm_i a).toInt = a := Int32.toInt_ofInt_of_le (by have := h.1; omega) (by have := h.2; omega)
theorem jm_i_of (x : Int32) : jm_i x.toInt = x := Int32.ofInt_toInt x
theorem jm_R_of (x : Int32) : jm_R x.toInt := ⟨by have := Int32.le_toInt x; omega, by have := Int32.toInt_lt x; omega⟩
theorem jm_i_lt {a b : Int} (ha : jm_R a) (hb : jm_R b) : jm_i a < jm_i b ↔ a < b := by rw [Int32.lt_iff_toInt_lt, jm_i_toInt ha, jm_i_toInt hb]
theorem jm_i_le {a b : Int} (ha : jm_R a) (hb : jm_R b) : jm_i a ≤ jm_i b ↔ a ≤ b := by rw [Int32.le_iff_toInt_le, jm_i_toInt ha, jm_i_toInt hb]
theorem jm_i_eq {a b : Int} (ha : jm_R a) (hb : jm_R b) : jm_i a = jm_i b ↔ a = b := by rw [← Int32.toInt_inj, jm_i_toInt ha, jm_i_toInt hb]
theorem jm_i_0 : jm_i 0 = 0 := by decide +kernel
theorem jm_R0 : jm_R 0 := by decide
theorem jm_i_lt0 {a : Int} (ha : jm_R a) : jm_i a < 0 ↔ a < 0 := by rw [← jm_i_0, jm_i_lt ha jm_R0]
theorem jm_i_0le {a : Int} (ha : jm_R a) : 0 ≤ jm_i a ↔ 0 ≤ a := by rw [← jm_i_0, jm_i_le jm_R0 ha]
theorem jm_i_le0 {a : Int} (ha : jm_R a) : jm_i a ≤ 0 ↔ a ≤ 0 := by rw [← jm_i_0, jm_i_le ha jm_R0]
theorem jm_i_0lt {a : Int} (ha : jm_R a) : 0 < jm_i a ↔ 0 < a := by rw [← jm_i_0, jm_i_lt jm_R0 ha]
theorem jm_i_eq0 {a : Int} (ha : jm_R a) : jm_i a = 0 ↔ a = 0 := by rw [← jm_i_0, jm_i_eq ha jm_R0]
theorem jm_i_div {a b : Int} (ha : jm_R a) (hb : jm_R b) : jm_i a / jm_i b = jm_i (a.tdiv b) := by
  unfold jm_i
  exact (Int32.ofInt_tdiv (by have := ha.1; exact this) (by have := ha.2; exact this) (by have := hb.1; exact this) (by have := hb.2; exact this)).symm
theorem jm_i_mod {a b : Int} (ha : jm_R a) (hb : jm_R b) : jm_i a - jm_i a / jm_i b * jm_i b = jm_i (a.tmod b) := by
  rw [jm_i_div ha hb, jm_i_mul, jm_i_sub]
  congr 1
  have := Int.tmod_add_mul_tdiv a b
  rw [Int.mul_comm b] at this
  omega
theorem jm_i_nat {a : Int} (h0 : 0 ≤ a) (h : jm_R a) : (jm_i a).toNatClampNeg = a.toNat := by
  show (jm_i a).toInt.toNat = a.toNat
  rw [jm_i_toInt h]
theorem jm_i_in {a : Int} {n : Nat} (h0 : 0 ≤ a) (h1 : a < n) (h : jm_R a) : vp_in (jm_i a) n := by
  intro h2
  rw [jm_i_lt0 h, jm_i_nat h0 h] at h2
  omega
theorem jm_i_long {a : Int} (h : jm_R a) : (jm_i a).toInt64 = Int64.ofInt a := by
  unfold jm_i
  exact Int32.toInt64_ofInt (by have := h.1; exact this) (by have := h.2; exact this)
theorem jm_nz {z : Int} (h : z = 0 ∨ z = 1) : narrow .boolean (jm_v z) = jm_v z := by rcases h with rfl | rfl <;> decide +kernel
-- fields
theorem jm_fs_get : ∀ (tm : List (Option Value)) (j : Int) (f : Int → Int) (n : Nat), tm[n]? = some none → (jm_fs tm j f)[n]? = some (jm_v (f (j + n)))
  | [], _, _, n, h => by simp at h
  | o :: t, j, f, 0, h => by
    cases o with
    | none => simp [jm_fs]
    | some v => simp at h
  | o :: t, j, f, n + 1, h => by
    have ih := jm_fs_get t (j + 1) f n (by simpa using h)
    have e : j + 1 + (n : Int) = j + ((n + 1 : Nat) : Int) := by omega
    rw [e] at ih
    cases o <;> simpa [jm_fs] using ih
theorem jm_fs_ref : ∀ (tm : List (Option Value)) (j : Int) (f : Int → Int) (n : Nat) (v : Value), tm[n]? = some (some v) → (jm_fs tm j f)[n]? = some v
  | [], _, _, n, v, h => by simp at h
  | o :: t, j, f, 0, v, h => by
    cases o with
    | none => simp at h
    | some u => simp at h; subst h; simp [jm_fs]
  | o :: t, j, f, n + 1, v, h => by
    have ih := jm_fs_ref t (j + 1) f n v (by simpa using h)
    cases o <;> simpa [jm_fs] using ih
theorem jm_fs_congr : ∀ (tm : List (Option Value)) (j : Int) (f g : Int → Int), (∀ n : Nat, tm[n]? = some none → f (j + n) = g (j + n)) → jm_fs tm j f = jm_fs tm j g
  | [], _, _, _, _ => rfl
  | o :: t, j, f, g, h => by
    have ih := jm_fs_congr t (j + 1) f g (fun n hn => by
      have h2 := h (n + 1) (by simpa using hn)
      have e : j + 1 + (n : Int) = j + ((n + 1 : Nat) : Int) := by omega
      rw [e]; exact h2)
    cases o with
    | none =>
      have h0 := h 0 (by simp)
      simp only [Int.natCast_zero, Int.add_zero] at h0
      rw [jm_fs, jm_fs, h0, ih]
    | some v => rw [jm_fs, jm_fs, ih]
theorem jm_fs_len : ∀ (tm : List (Option Value)) (j : Int) (f : Int → Int), (jm_fs tm j f).length = tm.length
  | [], _, _ => rfl
  | o :: t, j, f => by cases o <;> simp [jm_fs, jm_fs_len t]
theorem jm_fs_set : ∀ (tm : List (Option Value)) (j : Int) (f : Int → Int) (n : Nat) (v : Int), tm[n]? = some none → (jm_fs tm j f).set n (jm_v v) = jm_fs tm j (fun b => if b = j + n then v else f b)
  | [], _, _, n, v, h => by simp at h
  | o :: t, j, f, 0, v, h => by
    cases o with
    | none =>
      rw [jm_fs, jm_fs, List.set_cons_zero]
      have e : jm_fs t (j + 1) f = jm_fs t (j + 1) (fun b => if b = j + (0 : Nat) then v else f b) := jm_fs_congr _ _ _ _ (fun n _ => by rw [if_neg (by omega)])
      rw [← e]
      simp
    | some u => simp at h
  | o :: t, j, f, n + 1, v, h => by
    have ih := jm_fs_set t (j + 1) f n v (by simpa using h)
    have e : j + 1 + (n : Int) = j + ((n + 1 : Nat) : Int) := by omega
    rw [e] at ih
    cases o with
    | none => rw [jm_fs, jm_fs, List.set_cons_succ, ih, if_neg (by omega)]
    | some u => rw [jm_fs, jm_fs, List.set_cons_succ, ih]
theorem jm_fs_setr : ∀ (tm : List (Option Value)) (j : Int) (f : Int → Int) (n : Nat) (v : Value), n < tm.length → (jm_fs tm j f).set n v = jm_fs (tm.set n (some v)) j f
  | [], _, _, n, v, h => by simp at h
  | o :: t, j, f, 0, v, h => by cases o <;> simp [jm_fs]
  | o :: t, j, f, n + 1, v, h => by
    have ih := jm_fs_setr t (j + 1) f n v (by simpa using h)
    cases o <;> simp [jm_fs, ih]
-- the list of cells
theorem jm_ws_at {w : jm_W} {I : jm_M} {k : Int} (hk : k ∈ w.1) : ∃ i : Nat, w.1[i]? = some k ∧ (jm_ws w I)[i]? = some (w.2.1 k, w.2.2 k (I k)) := by
  obtain ⟨i, hi⟩ := List.getElem?_of_mem hk
  exact ⟨i, hi, by rw [jm_ws, List.getElem?_map, hi]; rfl⟩
theorem jm_ws_set {A : Nat → Prop} {w w' : jm_W} {I I' : jm_M} {k : Int} {i : Nat} {e : va_E} (hD : va_D A (jm_ws w I)) (hi : w.1[i]? = some k) (h1 : w'.1 = w.1) (h2 : w'.2.1 = w.2.1) (he : e = w'.2.2 k (I' k)) (ho : ∀ a, a ≠ k → w'.2.2 a (I' a) = w.2.2 a (I a)) : (jm_ws w I).set i (w.2.1 k, e) = jm_ws w' I' := by
  have hl : i < w.1.length := (List.getElem?_eq_some_iff.mp hi).1
  refine List.ext_getElem? (fun j => ?_)
  rw [jm_ws, jm_ws, h1, List.getElem?_map]
  by_cases hj : j = i
  · subst hj
    rw [List.getElem?_set_self (by rw [List.length_map]; exact hl), hi, he]
    show _ = some (jm_f w' I' k)
    rw [jm_f, h2]
  · rw [List.getElem?_set_ne (Ne.symm hj), List.getElem?_map]
    cases hjk : w.1[j]? with
    | none => rfl
    | some a =>
      have ha : a ≠ k := by
        intro hak
        subst hak
        have e1 : (jm_ws w I)[j]? = some (jm_f w I a) := by rw [jm_ws, List.getElem?_map, hjk]; rfl
        have e2 : (jm_ws w I)[i]? = some (jm_f w I a) := by rw [jm_ws, List.getElem?_map, hi]; rfl
        exact hj (hD.1 j i _ _ e1 e2 rfl)
      show some (jm_f w I a) = some (jm_f w' I' a)
      rw [jm_f, jm_f, h2, ho a ha]
theorem jm_ws_D {A : Nat → Prop} {w w' : jm_W} {I I' : jm_M} (hD : va_D A (jm_ws w I)) (h1 : w'.1 = w.1) (h2 : w'.2.1 = w.2.1) : va_D A (jm_ws w' I') := by
  have key : ∀ (k : Nat) (q : Nat × va_E), (jm_ws w' I')[k]? = some q → ∃ q0, (jm_ws w I)[k]? = some q0 ∧ q0.1 = q.1 := by
    intro k q hk
    rw [jm_ws, h1, List.getElem?_map] at hk
    cases hj : w.1[k]? with
    | none => rw [hj] at hk; cases hk
    | some a =>
      rw [hj] at hk
      cases hk
      exact ⟨jm_f w I a, by rw [jm_ws, List.getElem?_map, hj]; rfl, by rw [jm_f, jm_f, h2]⟩
  refine ⟨fun i j x y hx hy hxy => ?_, fun k q hk => ?_⟩
  · obtain ⟨x0, h3, h4⟩ := key i x hx
    obtain ⟨y0, h5, h6⟩ := key j y hy
    exact hD.1 i j x0 y0 h3 h5 (h4.trans (hxy.trans h6.symm))
  · obtain ⟨q0, h3, h4⟩ := key k q hk
    rw [← h4]
    exact hD.2 k q0 h3
theorem jm_A_eq (w : jm_W) (I : jm_M) (sz : Nat) : va_A (jm_ws w I) sz = jm_A w sz := by
  funext q
  refine propext ⟨fun h => ?_, fun h => ?_⟩
  · rcases h with ⟨k, e, h⟩ | h
    · rw [jm_ws, List.getElem?_map] at h
      cases hj : w.1[k]? with
      | none => rw [hj] at h; cases h
      | some a =>
        rw [hj] at h
        cases h
        exact Or.inl ⟨a, List.mem_of_getElem? hj, rfl⟩
    · exact Or.inr h
  · rcases h with ⟨a, ha, h⟩ | h
    · obtain ⟨i, hi, e⟩ := jm_ws_at (I := I) ha
      exact Or.inl ⟨i, w.2.2 a (I a), by rw [e, h]⟩
    · exact Or.inr h
-- locals
def jm_lk : List (Nat × Value) → Nat → Option Value
  | [], _ => none
  | (a, v) :: t, i => cond (Nat.beq a i) (some v) (jm_lk t i)
def jm_h (ls : Array Slot) (nL : Nat) (lv : List (Nat × Value)) : Prop := ls.size = nL ∧ lv_wf ls ∧ ∀ (i : Nat) (v : Value), jm_lk lv i = some v → ls[i]? = some (.val v) ∧ v.category = 1
theorem jm_h_at {ls : Array Slot} {nL : Nat} {lv : List (Nat × Value)} {i : Nat} {v : Value} (h : jm_h ls nL lv) (hi : jm_lk lv i = some v) : ls[i]? = some (.val v) := (h.2.2 i v hi).1
def jm_all (lv : List (Nat × Value)) (n : Nat) : List (Nat × Value) := (List.range n).filterMap (fun j => (jm_lk lv j).map (fun v => (j, v)))
theorem jm_h_to {ls : Array Slot} {nL : Nat} {lv : List (Nat × Value)} (h : jm_h ls nL lv) : lv_has ls nL (jm_all lv nL) := by
  refine ⟨h.1, h.2.1, fun q hq => ?_⟩
  obtain ⟨j, -, hj⟩ := List.mem_filterMap.mp hq
  cases hz : jm_lk lv j with
  | none => rw [hz] at hj; cases hj
  | some v =>
    rw [hz] at hj
    cases hj
    exact (h.2.2 j v hz).1
theorem jm_h_st {ls ls' : Array Slot} {nL i : Nat} {v : Value} {lv : List (Nat × Value)} (h : jm_h ls nL lv) (hv : v.category = 1) (h2 : lv_has ls' nL ((i, v) :: (jm_all lv nL).filter (fun q => !(q.1 == i) && !(q.1 + 1 == i && q.2.category == 2)))) : jm_h ls' nL ((i, v) :: lv) := by
  refine ⟨h2.1, h2.2.1, fun j u hj => ?_⟩
  by_cases e : i = j
  · subst e
    have hj' : some v = some u := by simpa [jm_lk] using hj
    cases hj'
    exact ⟨h2.2.2 (i, v) List.mem_cons_self, hv⟩
  · have hj' : jm_lk lv j = some u := by
      have hb : Nat.beq i j = false := by
        cases hq : Nat.beq i j with
        | false => rfl
        | true => exact absurd (Nat.eq_of_beq_eq_true hq) e
      simpa [jm_lk, hb] using hj
    have h3 := h.2.2 j u hj'
    have hlt : j < nL := by rw [← h.1]; exact (Array.getElem?_eq_some_iff.mp h3.1).1
    refine ⟨h2.2.2 (j, u) (List.mem_cons_of_mem _ (List.mem_filter.mpr ⟨List.mem_filterMap.mpr ⟨j, List.mem_range.mpr hlt, by rw [hj']; rfl⟩, ?_⟩)), h3.2⟩
    have e2 : ¬ j = i := fun z => e z.symm
    simp [e2, h3.2]
def jm_subb (l' l : List (Nat × Value)) : Prop := ∀ (i : Nat) (v : Value), jm_lk l' i = some v → jm_lk l i = some v
theorem jm_sub_0 (l : List (Nat × Value)) : jm_subb [] l := fun i v h => by cases h
theorem jm_sub_c {l' l : List (Nat × Value)} {i : Nat} {v : Value} (h : jm_lk l i = some v) (h2 : jm_subb l' l) : jm_subb ((i, v) :: l') l := by
  intro j u hj
  by_cases e : i = j
  · subst e
    have hj' : some v = some u := by simpa [jm_lk] using hj
    cases hj'
    exact h
  · have hb : Nat.beq i j = false := by
      cases hq : Nat.beq i j with
      | false => rfl
      | true => exact absurd (Nat.eq_of_beq_eq_true hq) e
    exact h2 j u (by simpa [jm_lk, hb] using hj)
theorem jm_h_sub {ls : Array Slot} {nL : Nat} {l l' : List (Nat × Value)} (h : jm_h ls nL l) (h2 : jm_subb l' l) : jm_h ls nL l' := ⟨h.1, h.2.1, fun i v hi => h.2.2 i v (h2 i v hi)⟩
theorem jm_h_arg {ls : Array Slot} {nL : Nat} {as : List Value} (hc : ∀ v ∈ as, v.category = 1) (h : lv_has ls nL (lv_args 0 as)) : jm_h ls nL (lv_args 0 as) := by
  refine ⟨h.1, h.2.1, fun i v hi => ?_⟩
  have key : ∀ (l : List (Nat × Value)), jm_lk l i = some v → (i, v) ∈ l := by
    intro l
    induction l with
    | nil => intro h; cases h
    | cons x t ih =>
      obtain ⟨a, u⟩ := x
      intro h
      cases hq : Nat.beq a i with
      | true =>
        have h' : some u = some v := by simpa [jm_lk, hq] using h
        cases h'
        have := Nat.eq_of_beq_eq_true hq
        subst this
        exact List.mem_cons_self
      | false => exact List.mem_cons_of_mem _ (ih (by simpa [jm_lk, hq] using h))
  have hm := key _ hi
  refine ⟨h.2.2 (i, v) hm, hc v ?_⟩
  have key2 : ∀ (vs : List Value) (k : Nat), (i, v) ∈ lv_args k vs → v ∈ vs := by
    intro vs
    induction vs with
    | nil => intro k h; cases h
    | cons x t ih =>
      intro k h
      rw [lv_args] at h
      rcases List.mem_cons.mp h with h | h
      · cases h; exact List.mem_cons_self
      · exact List.mem_cons_of_mem _ (ih _ h)
  exact key2 _ _ hm
end
section
def hk_ab (z : Int) : Int := if 0 ≤ z then z else -z
def hk_mn (a b : Int) : Int := if b < a then b else a
-- what every state has: nest mates, texts, the two statics of Throwable, which classes are which
def jm_bad : List Cond := [.castable "java/lang/IndexOutOfBoundsException" "java/lang/IndexOutOfBoundsException", .castable "java/lang/IllegalArgumentException" "java/lang/IllegalArgumentException", .castable "java/lang/IllegalStateException" "java/lang/IllegalStateException"]
def jm_nest : List (String × Nat × MethodName × String) := [(RX5, 15, yX1_init, RX5), (RX5, 22, yX4_init, RX5), (RX5, 31, yX2_init, RX5), (RX2, 79, yX5_isWithin, RX5), (RX3, 29, yX5_distanceOf, RX5)]
def jm_nc : List (String × String) := [("java/lang/IllegalArgumentException", "java/lang/IndexOutOfBoundsException"), ("java/lang/IllegalStateException", "java/lang/IndexOutOfBoundsException"), ("java/lang/IllegalStateException", "java/lang/IllegalArgumentException")]
def jm_str : List (Nat × String) := [(136, "the hour would be above 9999"), (157, "what is out of range"), (163, "no such cell"), (187, "no such team of the game, or stone"), (198, "the game does not play"), (204, "no such place"), (230, "no such game"), (232, "no such sheet"), (234, "no such team"), (49, "no such team or sheet"), (59, "the same team twice, or hour is out of range"), (67, "there are 12 games"), (73, "hours is out of range"), (83, "the shot is out of range"), (89, "nothing is thrown in this game now")]
def jm_N (A : Nat → Prop) (U : State) : Prop := (∀ w ∈ jm_bad, va_Nw w U) ∧ (∀ t ∈ jm_nest, va_Nw (.methodLinkNest t.1 t.2.1 t.2.2.1 t.2.2.2) U) ∧ (∀ t ∈ jm_nc, va_Nc t.1 t.2 U) ∧ (∀ t ∈ jm_str, ∃ sa, vk_R RX5 t.1 t.2 sa U) ∧ vx_Zq Bundle.tN "UNASSIGNED_STACK" Bundle.steD A U U.heap ∧ vx_Zq Bundle.tN "SUPPRESSED_SENTINEL" Bundle.listD A U U.heap
theorem jm_N_to {A B : Nat → Prop} {s U : State} {locs : List Loc} (h : jm_N A s) (hW : s.WarmedH U.vm) (hS : va_S A s.heap U.heap locs) (hAB : ∀ q, B q → A q) : jm_N B U := by
  obtain ⟨h1, h2, h3, h4, h5, h6⟩ := h
  refine ⟨fun w hw => ?_, fun t ht => va_Nw.warmM hW (h2 t ht), fun t ht => (h3 t ht).moved hW.alike, fun t ht => ?_, ?_, ?_⟩
  · have h0 := h1 w hw
    simp only [jm_bad, List.mem_cons, List.not_mem_nil, or_false] at hw
    rcases hw with rfl | rfl | rfl <;> exact va_Nw.warmC hW h0
  · obtain ⟨sa, hsa⟩ := h4 t ht
    exact ⟨sa, vk_R.warm hW hsa⟩
  · exact ((h5.kept hS.2.1).moved hW.alike).narrow hAB
  · exact ((h6.kept hS.2.1).moved hW.alike).narrow hAB
-- the judgement
def jm_J (E : jm_E) (G : jm_G) (q : Nat × Nat) (w : jm_W) (I : jm_M) (pc : Nat) (lv : List (Nat × Value)) (st : List Value) : Prop :=
  match E, G with
  | (l, D, _), (p, e, R, s, m, args, below, meth, c, Q, A) => ∀ (H : Heap) (locs : List Loc) (ls : Array Slot), (∀ k j, jm_R (I k j)) → va_P D vwCl (jm_ws w I) H → va_D A (jm_ws w I) → va_S A s.heap H locs → jm_h ls c.maxLocals lv → W p l e R s m args below meth c H locs q.1 q.2 Q (F0 m pc ls st)
/-- what a method's frame has while it runs -/
def jm_C (E : jm_E) (G : jm_G) (cc : ByteArray) (nL : Nat) (own : String) (rm : Room) : Prop :=
  match E, G with
  | (_, D, ca), (p, _, R, s, m, args, _, meth, c, _, A) => p.tables.exec = Jvm.exec ∧ c.code = cc ∧ c.maxLocals = nL ∧ s.vm.findClass own = some m.cls ∧ (∀ z ∈ jm_W0, z.before args s = true) ∧ R = rm ∧ va_K D vwCl (jm_t ca) s ∧ (∀ q, s.heap.size ≤ q → A q) ∧ meth.locks = false ∧ jm_N A s
section JR
variable {E : jm_E} {G : jm_G} {q : Nat × Nat} {w : jm_W} {I : jm_M} {pc : Nat} {lv : List (Nat × Value)} {st : List Value} {cc : ByteArray} {nL : Nat} {own : String} {rm : Room}
theorem jm_R_all (k : (∀ k j, jm_R (I k j)) → jm_J E G q w I pc lv st) : jm_J E G q w I pc lv st := by
  obtain ⟨l, D, ca⟩ := E
  obtain ⟨p, e, R, s, m, args, below, meth, c, Q, A⟩ := G
  intro H locs ls hI hP hD hS hl
  exact k hI H locs ls hI hP hD hS hl
theorem jm_lvs {lv' : List (Nat × Value)} (h : jm_subb lv' lv) (k : jm_J E G q w I pc lv' st) : jm_J E G q w I pc lv st := by
  obtain ⟨l, D, ca⟩ := E
  obtain ⟨p, e, R, s, m, args, below, meth, c, Q, A⟩ := G
  intro H locs ls hI hP hD hS hl
  exact k H locs ls hI hP hD hS (jm_h_sub hl h)
theorem jm_wid {q' : Nat × Nat} (h1 : q.1 ≤ q'.1) (h2 : q.2 ≤ q'.2) (k : jm_J E G q' w I pc lv st) : jm_J E G q w I pc lv st := by
  obtain ⟨l, D, ca⟩ := E
  obtain ⟨p, e, R, s, m, args, below, meth, c, Q, A⟩ := G
  intro H locs ls hI hP hD hS hl
  exact W.widen h1 h2 (k H locs ls hI hP hD hS hl)
theorem jm_iconst {n : Int} (C : jm_C E G cc nL own rm) (hd : decode cc pc = .ok (.iconst n, 1)) (k : jm_J E G q w I (pc + 1) lv (jm_v n :: st)) : jm_J E G q w I pc lv st := by
  obtain ⟨l, D, ca⟩ := E
  obtain ⟨p, e, R, s, m, args, below, meth, c, Q, A⟩ := G
  intro H locs ls hI hP hD hS hl
  exact lv_iconst C.1 C.2.1 hd rfl (k H locs ls hI hP hD hS hl)
theorem jm_bipush {n : Int} (C : jm_C E G cc nL own rm) (hd : decode cc pc = .ok (.bipush n, 2)) (hn : (Int8.ofInt n).toInt32 = jm_i n) (k : jm_J E G q w I (pc + 2) lv (jm_v n :: st)) : jm_J E G q w I pc lv st := by
  obtain ⟨l, D, ca⟩ := E
  obtain ⟨p, e, R, s, m, args, below, meth, c, Q, A⟩ := G
  intro H locs ls hI hP hD hS hl
  exact lv_bipush C.1 C.2.1 hd hn (k H locs ls hI hP hD hS hl)
theorem jm_sipush {n : Int} (C : jm_C E G cc nL own rm) (hd : decode cc pc = .ok (.sipush n, 3)) (hn : (Int16.ofInt n).toInt32 = jm_i n) (k : jm_J E G q w I (pc + 3) lv (jm_v n :: st)) : jm_J E G q w I pc lv st := by
  obtain ⟨l, D, ca⟩ := E
  obtain ⟨p, e, R, s, m, args, below, meth, c, Q, A⟩ := G
  intro H locs ls hI hP hD hS hl
  exact lv_sipush C.1 C.2.1 hd hn (k H locs ls hI hP hD hS hl)
theorem jm_iload_n {n : Fin 4} {x : Int32} (C : jm_C E G cc nL own rm) (hd : decode cc pc = .ok (.iload_n n, 1)) (hl0 : jm_lk lv n = some (.int x)) (k : jm_J E G q w I (pc + 1) lv (.int x :: st)) : jm_J E G q w I pc lv st := by
  obtain ⟨l, D, ca⟩ := E
  obtain ⟨p, e, R, s, m, args, below, meth, c, Q, A⟩ := G
  intro H locs ls hI hP hD hS hl
  exact lv_iload_n C.1 C.2.1 hd rfl (jm_h_at hl hl0) (k H locs ls hI hP hD hS hl)
theorem jm_iload {n : Nat} {x : Int32} (C : jm_C E G cc nL own rm) (hd : decode cc pc = .ok (.iload n, 2)) (hl0 : jm_lk lv n = some (.int x)) (k : jm_J E G q w I (pc + 2) lv (.int x :: st)) : jm_J E G q w I pc lv st := by
  obtain ⟨l, D, ca⟩ := E
  obtain ⟨p, e, R, s, m, args, below, meth, c, Q, A⟩ := G
  intro H locs ls hI hP hD hS hl
  exact lv_iload C.1 C.2.1 hd (jm_h_at hl hl0) (k H locs ls hI hP hD hS hl)
theorem jm_aload_n {n : Fin 4} {x : Nat} (C : jm_C E G cc nL own rm) (hd : decode cc pc = .ok (.aload_n n, 1)) (hl0 : jm_lk lv n = some (.ref x)) (k : jm_J E G q w I (pc + 1) lv (.ref x :: st)) : jm_J E G q w I pc lv st := by
  obtain ⟨l, D, ca⟩ := E
  obtain ⟨p, e, R, s, m, args, below, meth, c, Q, A⟩ := G
  intro H locs ls hI hP hD hS hl
  exact lv_aload_n C.1 C.2.1 hd rfl (jm_h_at hl hl0) (k H locs ls hI hP hD hS hl)
theorem jm_aload {n : Nat} {x : Nat} (C : jm_C E G cc nL own rm) (hd : decode cc pc = .ok (.aload n, 2)) (hl0 : jm_lk lv n = some (.ref x)) (k : jm_J E G q w I (pc + 2) lv (.ref x :: st)) : jm_J E G q w I pc lv st := by
  obtain ⟨l, D, ca⟩ := E
  obtain ⟨p, e, R, s, m, args, below, meth, c, Q, A⟩ := G
  intro H locs ls hI hP hD hS hl
  exact lv_aload C.1 C.2.1 hd (jm_h_at hl hl0) (k H locs ls hI hP hD hS hl)
theorem jm_istore_n {n : Fin 4} {x : Int32} (C : jm_C E G cc nL own rm) (hd : decode cc pc = .ok (.istore_n n, 1)) (hn : (n : Nat) < nL) (k : jm_J E G q w I (pc + 1) (((n : Nat), .int x) :: lv) st) : jm_J E G q w I pc lv (.int x :: st) := by
  obtain ⟨l, D, ca⟩ := E
  obtain ⟨p, e, R, s, m, args, below, meth, c, Q, A⟩ := G
  intro H locs ls hI hP hD hS hl
  exact lv_istore_n C.1 C.2.1 hd rfl (jm_h_to hl) (by rw [C.2.2.1]; exact hn) rfl (fun ls' hl' => k H locs ls' hI hP hD hS (jm_h_st hl rfl hl'))
theorem jm_istore {n : Nat} {x : Int32} (C : jm_C E G cc nL own rm) (hd : decode cc pc = .ok (.istore n, 2)) (hn : n < nL) (k : jm_J E G q w I (pc + 2) ((n, .int x) :: lv) st) : jm_J E G q w I pc lv (.int x :: st) := by
  obtain ⟨l, D, ca⟩ := E
  obtain ⟨p, e, R, s, m, args, below, meth, c, Q, A⟩ := G
  intro H locs ls hI hP hD hS hl
  exact lv_istore C.1 C.2.1 hd (jm_h_to hl) (by rw [C.2.2.1]; exact hn) rfl (fun ls' hl' => k H locs ls' hI hP hD hS (jm_h_st hl rfl hl'))
theorem jm_astore_n {n : Fin 4} {x : Nat} (C : jm_C E G cc nL own rm) (hd : decode cc pc = .ok (.astore_n n, 1)) (hn : (n : Nat) < nL) (k : jm_J E G q w I (pc + 1) (((n : Nat), .ref x) :: lv) st) : jm_J E G q w I pc lv (.ref x :: st) := by
  obtain ⟨l, D, ca⟩ := E
  obtain ⟨p, e, R, s, m, args, below, meth, c, Q, A⟩ := G
  intro H locs ls hI hP hD hS hl
  exact lv_astore_n C.1 C.2.1 hd rfl (jm_h_to hl) (by rw [C.2.2.1]; exact hn) rfl (fun ls' hl' => k H locs ls' hI hP hD hS (jm_h_st hl rfl hl'))
theorem jm_astore {n : Nat} {x : Nat} (C : jm_C E G cc nL own rm) (hd : decode cc pc = .ok (.astore n, 2)) (hn : n < nL) (k : jm_J E G q w I (pc + 2) ((n, .ref x) :: lv) st) : jm_J E G q w I pc lv (.ref x :: st) := by
  obtain ⟨l, D, ca⟩ := E
  obtain ⟨p, e, R, s, m, args, below, meth, c, Q, A⟩ := G
  intro H locs ls hI hP hD hS hl
  exact lv_astore C.1 C.2.1 hd (jm_h_to hl) (by rw [C.2.2.1]; exact hn) rfl (fun ls' hl' => k H locs ls' hI hP hD hS (jm_h_st hl rfl hl'))
theorem jm_iinc {n : Nat} {z x : Int} (C : jm_C E G cc nL own rm) (hd : decode cc pc = .ok (.iinc n z, 3)) (hn : n < nL) (hl0 : jm_lk lv n = some (jm_v x)) (k : jm_J E G q w I (pc + 3) ((n, jm_v (x + z)) :: lv) st) : jm_J E G q w I pc lv st := by
  obtain ⟨l, D, ca⟩ := E
  obtain ⟨p, e, R, s, m, args, below, meth, c, Q, A⟩ := G
  intro H locs ls hI hP hD hS hl
  have hn' : n < c.maxLocals := by rw [C.2.2.1]; exact hn
  have hm : (n, jm_v x) ∈ jm_all lv c.maxLocals := List.mem_filterMap.mpr ⟨n, List.mem_range.mpr hn', by rw [hl0]; rfl⟩
  obtain ⟨i, hi⟩ := List.getElem?_of_mem hm
  exact lv_iinc C.1 C.2.1 hd (jm_h_to hl) hi (jm_i_add x z) hn' rfl (fun ls' hl' => k H locs ls' hI hP hD hS (jm_h_st hl rfl hl'))
theorem jm_iadd {a b : Int} (C : jm_C E G cc nL own rm) (hd : decode cc pc = .ok (.iadd, 1)) (k : jm_J E G q w I (pc + 1) lv (jm_v (a + b) :: st)) : jm_J E G q w I pc lv (jm_v b :: jm_v a :: st) := by
  obtain ⟨l, D, ca⟩ := E
  obtain ⟨p, e, R, s, m, args, below, meth, c, Q, A⟩ := G
  intro H locs ls hI hP hD hS hl
  exact lv_iadd C.1 C.2.1 hd (by rw [jm_i_add]; exact k H locs ls hI hP hD hS hl)
theorem jm_isub {a b : Int} (C : jm_C E G cc nL own rm) (hd : decode cc pc = .ok (.isub, 1)) (k : jm_J E G q w I (pc + 1) lv (jm_v (a - b) :: st)) : jm_J E G q w I pc lv (jm_v b :: jm_v a :: st) := by
  obtain ⟨l, D, ca⟩ := E
  obtain ⟨p, e, R, s, m, args, below, meth, c, Q, A⟩ := G
  intro H locs ls hI hP hD hS hl
  exact lv_isub C.1 C.2.1 hd (by rw [jm_i_sub]; exact k H locs ls hI hP hD hS hl)
theorem jm_imul {a b : Int} (C : jm_C E G cc nL own rm) (hd : decode cc pc = .ok (.imul, 1)) (k : jm_J E G q w I (pc + 1) lv (jm_v (a * b) :: st)) : jm_J E G q w I pc lv (jm_v b :: jm_v a :: st) := by
  obtain ⟨l, D, ca⟩ := E
  obtain ⟨p, e, R, s, m, args, below, meth, c, Q, A⟩ := G
  intro H locs ls hI hP hD hS hl
  exact lv_imul C.1 C.2.1 hd (by rw [jm_i_mul]; exact k H locs ls hI hP hD hS hl)
theorem jm_ineg {a : Int} (C : jm_C E G cc nL own rm) (hd : decode cc pc = .ok (.ineg, 1)) (k : jm_J E G q w I (pc + 1) lv (jm_v (-a) :: st)) : jm_J E G q w I pc lv (jm_v a :: st) := by
  obtain ⟨l, D, ca⟩ := E
  obtain ⟨p, e, R, s, m, args, below, meth, c, Q, A⟩ := G
  intro H locs ls hI hP hD hS hl
  refine lv_ineg C.1 C.2.1 hd ?_
  have e0 : jm_i (-a) = -jm_i a := (jm_i_neg a).symm
  have hk := k H locs ls hI hP hD hS hl
  rw [jm_v, e0] at hk
  first | exact hk | (rw [show (0 : Int32) - jm_i a = -jm_i a from by simp]; exact hk)
theorem jm_idiv {a b : Int} (C : jm_C E G cc nL own rm) (hd : decode cc pc = .ok (.idiv, 1)) (ha : jm_R a) (hb : jm_R b) (h0 : b ≠ 0) (k : jm_J E G q w I (pc + 1) lv (jm_v (a.tdiv b) :: st)) : jm_J E G q w I pc lv (jm_v b :: jm_v a :: st) := by
  obtain ⟨l, D, ca⟩ := E
  obtain ⟨p, e, R, s, m, args, below, meth, c, Q, A⟩ := G
  intro H locs ls hI hP hD hS hl
  exact lv_idiv C.1 C.2.1 hd (by rw [jm_i_eq0 hb]; exact h0) (by rw [jm_i_div ha hb]; exact k H locs ls hI hP hD hS hl)
theorem jm_irem {a b : Int} (C : jm_C E G cc nL own rm) (hd : decode cc pc = .ok (.irem, 1)) (ha : jm_R a) (hb : jm_R b) (h0 : b ≠ 0) (k : jm_J E G q w I (pc + 1) lv (jm_v (a.tmod b) :: st)) : jm_J E G q w I pc lv (jm_v b :: jm_v a :: st) := by
  obtain ⟨l, D, ca⟩ := E
  obtain ⟨p, e, R, s, m, args, below, meth, c, Q, A⟩ := G
  intro H locs ls hI hP hD hS hl
  exact lv_irem C.1 C.2.1 hd (by rw [jm_i_eq0 hb]; exact h0) (by rw [jm_i_mod ha hb]; exact k H locs ls hI hP hD hS hl)
theorem jm_dup {v : Value} (C : jm_C E G cc nL own rm) (hd : decode cc pc = .ok (.dup, 1)) (hv : v.category = 1) (k : jm_J E G q w I (pc + 1) lv (v :: v :: st)) : jm_J E G q w I pc lv (v :: st) := by
  obtain ⟨l, D, ca⟩ := E
  obtain ⟨p, e, R, s, m, args, below, meth, c, Q, A⟩ := G
  intro H locs ls hI hP hD hS hl
  exact lv_dup C.1 C.2.1 hd hv (k H locs ls hI hP hD hS hl)
theorem jm_dup2 {v u : Value} (C : jm_C E G cc nL own rm) (hd : decode cc pc = .ok (.dup2, 1)) (hv : v.category = 1) (hu : u.category = 1) (k : jm_J E G q w I (pc + 1) lv (v :: u :: v :: u :: st)) : jm_J E G q w I pc lv (v :: u :: st) := by
  obtain ⟨l, D, ca⟩ := E
  obtain ⟨p, e, R, s, m, args, below, meth, c, Q, A⟩ := G
  intro H locs ls hI hP hD hS hl
  exact lv_dup2_11 C.1 C.2.1 hd hv hu (k H locs ls hI hP hD hS hl)
theorem jm_pop {v : Value} (C : jm_C E G cc nL own rm) (hd : decode cc pc = .ok (.pop, 1)) (hv : v.category = 1) (k : jm_J E G q w I (pc + 1) lv st) : jm_J E G q w I pc lv (v :: st) := by
  obtain ⟨l, D, ca⟩ := E
  obtain ⟨p, e, R, s, m, args, below, meth, c, Q, A⟩ := G
  intro H locs ls hI hP hD hS hl
  exact lv_pop C.1 C.2.1 hd hv (k H locs ls hI hP hD hS hl)
theorem jm_goto {off : Int} (tgt : Nat) (C : jm_C E G cc nL own rm) (hd : decode cc pc = .ok (.goto off, 3)) (ht : (pc : Int) + off = (tgt : Int)) (k : jm_J E G q w I tgt lv st) : jm_J E G q w I pc lv st := by
  obtain ⟨l, D, ca⟩ := E
  obtain ⟨p, e, R, s, m, args, below, meth, c, Q, A⟩ := G
  intro H locs ls hI hP hD hS hl
  exact lv_goto C.1 C.2.1 hd ht (k H locs ls hI hP hD hS hl)
theorem jm_if_eq {a : Int} {off : Int} (tgt : Nat) (C : jm_C E G cc nL own rm) (hd : decode cc pc = .ok (.ifCond .eq off, 3)) (ht : (pc : Int) + off = (tgt : Int)) (ha : jm_R a) (kt : a = 0 → jm_J E G q w I tgt lv st) (kf : ¬ (a = 0) → jm_J E G q w I (pc + 3) lv st) : jm_J E G q w I pc lv (jm_v a :: st) := by
  obtain ⟨l, D, ca⟩ := E
  obtain ⟨p, e, R, s, m, args, below, meth, c, Q, A⟩ := G
  intro H locs ls hI hP hD hS hl
  exact lv_if_eq C.1 C.2.1 hd ht (fun h => kt ((jm_i_eq0 ha).mp h) H locs ls hI hP hD hS hl) (fun h => kf (fun z => h ((jm_i_eq0 ha).mpr z)) H locs ls hI hP hD hS hl)
theorem jm_icmp_eq {a b : Int} {off : Int} (tgt : Nat) (C : jm_C E G cc nL own rm) (hd : decode cc pc = .ok (.if_icmp .eq off, 3)) (ht : (pc : Int) + off = (tgt : Int)) (ha : jm_R a) (hb : jm_R b) (kt : a = b → jm_J E G q w I tgt lv st) (kf : ¬ (a = b) → jm_J E G q w I (pc + 3) lv st) : jm_J E G q w I pc lv (jm_v b :: jm_v a :: st) := by
  obtain ⟨l, D, ca⟩ := E
  obtain ⟨p, e, R, s, m, args, below, meth, c, Q, A⟩ := G
  intro H locs ls hI hP hD hS hl
  exact lv_icmp_eq C.1 C.2.1 hd ht (fun h => kt ((jm_i_eq ha hb).mp h) H locs ls hI hP hD hS hl) (fun h => kf (fun z => h ((jm_i_eq ha hb).mpr z)) H locs ls hI hP hD hS hl)
theorem jm_if_ne {a : Int} {off : Int} (tgt : Nat) (C : jm_C E G cc nL own rm) (hd : decode cc pc = .ok (.ifCond .ne off, 3)) (ht : (pc : Int) + off = (tgt : Int)) (ha : jm_R a) (kt : ¬ (a = 0) → jm_J E G q w I tgt lv st) (kf : a = 0 → jm_J E G q w I (pc + 3) lv st) : jm_J E G q w I pc lv (jm_v a :: st) := by
  obtain ⟨l, D, ca⟩ := E
  obtain ⟨p, e, R, s, m, args, below, meth, c, Q, A⟩ := G
  intro H locs ls hI hP hD hS hl
  exact lv_if_ne C.1 C.2.1 hd ht (fun h => kt (fun z => h ((jm_i_eq0 ha).mpr z)) H locs ls hI hP hD hS hl) (fun h => kf ((jm_i_eq0 ha).mp h) H locs ls hI hP hD hS hl)
theorem jm_icmp_ne {a b : Int} {off : Int} (tgt : Nat) (C : jm_C E G cc nL own rm) (hd : decode cc pc = .ok (.if_icmp .ne off, 3)) (ht : (pc : Int) + off = (tgt : Int)) (ha : jm_R a) (hb : jm_R b) (kt : ¬ (a = b) → jm_J E G q w I tgt lv st) (kf : a = b → jm_J E G q w I (pc + 3) lv st) : jm_J E G q w I pc lv (jm_v b :: jm_v a :: st) := by
  obtain ⟨l, D, ca⟩ := E
  obtain ⟨p, e, R, s, m, args, below, meth, c, Q, A⟩ := G
  intro H locs ls hI hP hD hS hl
  exact lv_icmp_ne C.1 C.2.1 hd ht (fun h => kt (fun z => h ((jm_i_eq ha hb).mpr z)) H locs ls hI hP hD hS hl) (fun h => kf ((jm_i_eq ha hb).mp h) H locs ls hI hP hD hS hl)
theorem jm_if_lt {a : Int} {off : Int} (tgt : Nat) (C : jm_C E G cc nL own rm) (hd : decode cc pc = .ok (.ifCond .lt off, 3)) (ht : (pc : Int) + off = (tgt : Int)) (ha : jm_R a) (kt : a < 0 → jm_J E G q w I tgt lv st) (kf : ¬ (a < 0) → jm_J E G q w I (pc + 3) lv st) : jm_J E G q w I pc lv (jm_v a :: st) := by
  obtain ⟨l, D, ca⟩ := E
  obtain ⟨p, e, R, s, m, args, below, meth, c, Q, A⟩ := G
  intro H locs ls hI hP hD hS hl
  exact lv_if_lt C.1 C.2.1 hd ht (fun h => kt ((jm_i_lt0 ha).mp h) H locs ls hI hP hD hS hl) (fun h => kf (fun z => h ((jm_i_lt0 ha).mpr z)) H locs ls hI hP hD hS hl)
theorem jm_icmp_lt {a b : Int} {off : Int} (tgt : Nat) (C : jm_C E G cc nL own rm) (hd : decode cc pc = .ok (.if_icmp .lt off, 3)) (ht : (pc : Int) + off = (tgt : Int)) (ha : jm_R a) (hb : jm_R b) (kt : a < b → jm_J E G q w I tgt lv st) (kf : ¬ (a < b) → jm_J E G q w I (pc + 3) lv st) : jm_J E G q w I pc lv (jm_v b :: jm_v a :: st) := by
  obtain ⟨l, D, ca⟩ := E
  obtain ⟨p, e, R, s, m, args, below, meth, c, Q, A⟩ := G
  intro H locs ls hI hP hD hS hl
  exact lv_icmp_lt C.1 C.2.1 hd ht (fun h => kt ((jm_i_lt ha hb).mp h) H locs ls hI hP hD hS hl) (fun h => kf (fun z => h ((jm_i_lt ha hb).mpr z)) H locs ls hI hP hD hS hl)
theorem jm_if_ge {a : Int} {off : Int} (tgt : Nat) (C : jm_C E G cc nL own rm) (hd : decode cc pc = .ok (.ifCond .ge off, 3)) (ht : (pc : Int) + off = (tgt : Int)) (ha : jm_R a) (kt : 0 ≤ a → jm_J E G q w I tgt lv st) (kf : ¬ (0 ≤ a) → jm_J E G q w I (pc + 3) lv st) : jm_J E G q w I pc lv (jm_v a :: st) := by
  obtain ⟨l, D, ca⟩ := E
  obtain ⟨p, e, R, s, m, args, below, meth, c, Q, A⟩ := G
  intro H locs ls hI hP hD hS hl
  exact lv_if_ge C.1 C.2.1 hd ht (fun h => kt ((jm_i_0le ha).mp h) H locs ls hI hP hD hS hl) (fun h => kf (fun z => h ((jm_i_0le ha).mpr z)) H locs ls hI hP hD hS hl)
theorem jm_icmp_ge {a b : Int} {off : Int} (tgt : Nat) (C : jm_C E G cc nL own rm) (hd : decode cc pc = .ok (.if_icmp .ge off, 3)) (ht : (pc : Int) + off = (tgt : Int)) (ha : jm_R a) (hb : jm_R b) (kt : b ≤ a → jm_J E G q w I tgt lv st) (kf : ¬ (b ≤ a) → jm_J E G q w I (pc + 3) lv st) : jm_J E G q w I pc lv (jm_v b :: jm_v a :: st) := by
  obtain ⟨l, D, ca⟩ := E
  obtain ⟨p, e, R, s, m, args, below, meth, c, Q, A⟩ := G
  intro H locs ls hI hP hD hS hl
  exact lv_icmp_ge C.1 C.2.1 hd ht (fun h => kt ((jm_i_le hb ha).mp h) H locs ls hI hP hD hS hl) (fun h => kf (fun z => h ((jm_i_le hb ha).mpr z)) H locs ls hI hP hD hS hl)
theorem jm_if_gt {a : Int} {off : Int} (tgt : Nat) (C : jm_C E G cc nL own rm) (hd : decode cc pc = .ok (.ifCond .gt off, 3)) (ht : (pc : Int) + off = (tgt : Int)) (ha : jm_R a) (kt : 0 < a → jm_J E G q w I tgt lv st) (kf : ¬ (0 < a) → jm_J E G q w I (pc + 3) lv st) : jm_J E G q w I pc lv (jm_v a :: st) := by
  obtain ⟨l, D, ca⟩ := E
  obtain ⟨p, e, R, s, m, args, below, meth, c, Q, A⟩ := G
  intro H locs ls hI hP hD hS hl
  exact lv_if_gt C.1 C.2.1 hd ht (fun h => kt ((jm_i_0lt ha).mp h) H locs ls hI hP hD hS hl) (fun h => kf (fun z => h ((jm_i_0lt ha).mpr z)) H locs ls hI hP hD hS hl)
theorem jm_icmp_gt {a b : Int} {off : Int} (tgt : Nat) (C : jm_C E G cc nL own rm) (hd : decode cc pc = .ok (.if_icmp .gt off, 3)) (ht : (pc : Int) + off = (tgt : Int)) (ha : jm_R a) (hb : jm_R b) (kt : b < a → jm_J E G q w I tgt lv st) (kf : ¬ (b < a) → jm_J E G q w I (pc + 3) lv st) : jm_J E G q w I pc lv (jm_v b :: jm_v a :: st) := by
  obtain ⟨l, D, ca⟩ := E
  obtain ⟨p, e, R, s, m, args, below, meth, c, Q, A⟩ := G
  intro H locs ls hI hP hD hS hl
  exact lv_icmp_gt C.1 C.2.1 hd ht (fun h => kt ((jm_i_lt hb ha).mp h) H locs ls hI hP hD hS hl) (fun h => kf (fun z => h ((jm_i_lt hb ha).mpr z)) H locs ls hI hP hD hS hl)
theorem jm_if_le {a : Int} {off : Int} (tgt : Nat) (C : jm_C E G cc nL own rm) (hd : decode cc pc = .ok (.ifCond .le off, 3)) (ht : (pc : Int) + off = (tgt : Int)) (ha : jm_R a) (kt : a ≤ 0 → jm_J E G q w I tgt lv st) (kf : ¬ (a ≤ 0) → jm_J E G q w I (pc + 3) lv st) : jm_J E G q w I pc lv (jm_v a :: st) := by
  obtain ⟨l, D, ca⟩ := E
  obtain ⟨p, e, R, s, m, args, below, meth, c, Q, A⟩ := G
  intro H locs ls hI hP hD hS hl
  exact lv_if_le C.1 C.2.1 hd ht (fun h => kt ((jm_i_le0 ha).mp h) H locs ls hI hP hD hS hl) (fun h => kf (fun z => h ((jm_i_le0 ha).mpr z)) H locs ls hI hP hD hS hl)
theorem jm_icmp_le {a b : Int} {off : Int} (tgt : Nat) (C : jm_C E G cc nL own rm) (hd : decode cc pc = .ok (.if_icmp .le off, 3)) (ht : (pc : Int) + off = (tgt : Int)) (ha : jm_R a) (hb : jm_R b) (kt : a ≤ b → jm_J E G q w I tgt lv st) (kf : ¬ (a ≤ b) → jm_J E G q w I (pc + 3) lv st) : jm_J E G q w I pc lv (jm_v b :: jm_v a :: st) := by
  obtain ⟨l, D, ca⟩ := E
  obtain ⟨p, e, R, s, m, args, below, meth, c, Q, A⟩ := G
  intro H locs ls hI hP hD hS hl
  exact lv_icmp_le C.1 C.2.1 hd ht (fun h => kt ((jm_i_le ha hb).mp h) H locs ls hI hP hD hS hl) (fun h => kf (fun z => h ((jm_i_le ha hb).mpr z)) H locs ls hI hP hD hS hl)
-- fields, rows
theorem jm_get {C0 : String} {T : u_T} {N ci index f : Nat} {tm : List (Option Value)} {k : Int} (jf : Int) (hjf : (f : Int) = jf) (C : jm_C E G cc nL own rm) (hc : vwCl[ci]? = some (C0, T, N)) (hin : ∀ z ∈ u_ws C0 T N, z ∈ jm_W0) (hk : k ∈ w.1) (hs : w.2.2 k = jm_O ci tm) (hf : tm[f]? = some none) (hN : f < N) (hlink : Cond.fieldLink own index (T f).1 (T f).2.1 (T f).2.2.1 ∈ jm_W0) (hd : decode cc pc = .ok (.getfield index, 3)) (kk : jm_R (I k jf) → jm_J E G q w I (pc + 3) lv (jm_v (I k jf) :: st)) : jm_J E G q w I pc lv (.ref (w.2.1 k) :: st) := by
  subst hjf
  obtain ⟨l, D, ca⟩ := E
  obtain ⟨p, e, R, s, m, args, below, meth, c, Q, A⟩ := G
  intro H locs ls hI hP hD hS hl
  obtain ⟨hx, hb, hml, hown, hts, -, hK, -⟩ := C
  obtain ⟨i, -, hi⟩ := jm_ws_at (I := I) hk
  rw [hs] at hi
  have h0 := jm_fs_get tm 0 (I k) f hf
  rw [Int.zero_add] at h0
  exact va_get hx hb hts hin hown hK hP i hi hc f hN (hts _ hlink) (fun _ h => h) h0 hd (kk (hI k f) H locs ls hI hP hD hS hl)
theorem jm_getv {C0 : String} {T : u_T} {N ci index f : Nat} {tm : List (Option Value)} {k : Int} (v : Int) (jf : Int) (hjf : (f : Int) = jf) (hv : I k jf = v) (C : jm_C E G cc nL own rm) (hc : vwCl[ci]? = some (C0, T, N)) (hin : ∀ z ∈ u_ws C0 T N, z ∈ jm_W0) (hk : k ∈ w.1) (hs : w.2.2 k = jm_O ci tm) (hf : tm[f]? = some none) (hN : f < N) (hlink : Cond.fieldLink own index (T f).1 (T f).2.1 (T f).2.2.1 ∈ jm_W0) (hd : decode cc pc = .ok (.getfield index, 3)) (kk : jm_R v → jm_J E G q w I (pc + 3) lv (jm_v v :: st)) : jm_J E G q w I pc lv (.ref (w.2.1 k) :: st) :=
  jm_get jf hjf C hc hin hk hs hf hN hlink hd (by rw [hv]; exact kk)
theorem jm_getr {C0 : String} {T : u_T} {N ci index f : Nat} {tm : List (Option Value)} {k : Int} {v : Value} (C : jm_C E G cc nL own rm) (hc : vwCl[ci]? = some (C0, T, N)) (hin : ∀ z ∈ u_ws C0 T N, z ∈ jm_W0) (hk : k ∈ w.1) (hs : w.2.2 k = jm_O ci tm) (hf : tm[f]? = some (some v)) (hN : f < N) (hlink : Cond.fieldLink own index (T f).1 (T f).2.1 (T f).2.2.1 ∈ jm_W0) (hd : decode cc pc = .ok (.getfield index, 3)) (kk : jm_J E G q w I (pc + 3) lv (v :: st)) : jm_J E G q w I pc lv (.ref (w.2.1 k) :: st) := by
  obtain ⟨l, D, ca⟩ := E
  obtain ⟨p, e, R, s, m, args, below, meth, c, Q, A⟩ := G
  intro H locs ls hI hP hD hS hl
  obtain ⟨hx, hb, hml, hown, hts, -, hK, -⟩ := C
  obtain ⟨i, -, hi⟩ := jm_ws_at (I := I) hk
  rw [hs] at hi
  exact va_get hx hb hts hin hown hK hP i hi hc f hN (hts _ hlink) (fun _ h => h) (jm_fs_ref tm 0 (I k) f v hf) hd (kk H locs ls hI hP hD hS hl)
theorem jm_upR {I : jm_M} {k j v : Int} (hI : ∀ a b, jm_R (I a b)) (hv : jm_R v) : ∀ a b, jm_R (jm_up I k j v a b) := fun a b => by
  unfold jm_up
  split
  · exact hv
  · exact hI a b
/-- a number's place (int or boolean) is written -/
theorem jm_put {C0 : String} {T : u_T} {N ci index f : Nat} {tm : List (Option Value)} {k v : Int} {ty : FieldType} (jf : Int) (hjf : (f : Int) = jf) (C : jm_C E G cc nL own rm) (hc : vwCl[ci]? = some (C0, T, N)) (ty0 : Nat → FieldType) (hty : ∀ k, k < N → parseFieldDescriptor (T k).2.2.1 = some (ty0 k)) (hnm : ∀ a, a < N → ∀ b, b < N → a ≠ b → (T a).2.1 ≠ (T b).2.1) (hin : ∀ z ∈ u_ws C0 T N, z ∈ jm_W0) (hk : k ∈ w.1) (hs : w.2.2 k = jm_O ci tm) (hf : tm[f]? = some none) (hN : f < N) (hlink : Cond.fieldLink own index (T f).1 (T f).2.1 (T f).2.2.1 ∈ jm_W0) (hfin : (T f).2.2.2 = false) (hd0 : parseFieldDescriptor (T f).2.2.1 = some ty) (hn : narrow ty (jm_v v) = jm_v v) (hfit : fits ty (jm_v v) = true) (hd : decode cc pc = .ok (.putfield index, 3)) (hv : jm_R v) (kk : jm_J E G q w (jm_up I k jf v) (pc + 3) lv st) : jm_J E G q w I pc lv (jm_v v :: .ref (w.2.1 k) :: st) := by
  subst hjf
  obtain ⟨l, D, ca⟩ := E
  obtain ⟨p, e, R, s, m, args, below, meth, c, Q, A⟩ := G
  intro H locs ls hI hP hD hS hl
  obtain ⟨hx, hb, hml, hown, hts, -, hK, -⟩ := C
  obtain ⟨i, hi0, hi⟩ := jm_ws_at (I := I) hk
  rw [hs] at hi
  have hlen : f < (jm_fs tm 0 (I k)).length := by rw [jm_fs_len]; exact (List.getElem?_eq_some_iff.mp hf).1
  have hset : (jm_ws w I).set i (w.2.1 k, .inr (ci, (jm_fs tm 0 (I k)).set f (jm_v v))) = jm_ws w (jm_up I k f v) := by
    refine jm_ws_set hD hi0 rfl rfl ?_ (fun a ha => ?_)
    · rw [hs, jm_O, jm_fs_set tm 0 (I k) f v hf]
      congr 3
      funext b
      simp [jm_up]
    · have e0 : ∀ x, jm_up I k x v a = I a := fun x => by funext b; simp [jm_up, ha]
      rw [e0]
  refine va_put hx hb hts hin ty0 hty hnm hown hK hP hD hS i hi hc f hN (hts _ hlink) (fun _ h => h) hfin hd0 hn hfit hlen hd (fun H1 locs1 hP1 hD1 hS1 => ?_)
  rw [hset] at hP1 hD1
  exact kk H1 locs1 ls (jm_upR hI hv) hP1 hD1 hS1 hl
theorem jm_iald {k j : Int} {n : Nat} {cA : ClassId} (C : jm_C E G cc nL own rm) (hk : k ∈ w.1) (hcA : cA = E.2.2 0) (hs : w.2.2 k = jm_Ia cA n) (h0 : 0 ≤ j) (h1 : j < n) (hj : jm_R j) (hd : decode cc pc = .ok (.iaload, 1)) (kk : jm_R (I k j) → jm_J E G q w I (pc + 1) lv (jm_v (I k j) :: st)) : jm_J E G q w I pc lv (jm_v j :: .ref (w.2.1 k) :: st) := by
  obtain ⟨l, D, ca⟩ := E
  obtain ⟨p, e, R, s, m, args, below, meth, c, Q, A⟩ := G
  intro H locs ls hI hP hD hS hl
  obtain ⟨hx, hb, hml, hown, hts, -, hK, -⟩ := C
  obtain ⟨i, -, hi⟩ := jm_ws_at (I := I) hk
  rw [hs] at hi
  refine va_iald hx hb hK hP i 0 hi (by rw [hcA]; rfl) (jm_i_in h0 h1 hj) hd ?_
  rw [jm_i_nat h0 hj]
  show W p l e R s m args below meth c H locs q.1 q.2 Q (F0 m (pc + 1) ls (jm_v (I k (j.toNat : Int)) :: st))
  rw [Int.toNat_of_nonneg h0]
  exact kk (hI k j) H locs ls hI hP hD hS hl
theorem jm_zald {k j : Int} {n : Nat} {cA : ClassId} (C : jm_C E G cc nL own rm) (hk : k ∈ w.1) (hcA : cA = E.2.2 1) (hs : w.2.2 k = jm_Ia cA n) (h0 : 0 ≤ j) (h1 : j < n) (hj : jm_R j) (hd : decode cc pc = .ok (.baload, 1)) (kk : jm_R (I k j) → jm_J E G q w I (pc + 1) lv (jm_v (I k j) :: st)) : jm_J E G q w I pc lv (jm_v j :: .ref (w.2.1 k) :: st) := by
  obtain ⟨l, D, ca⟩ := E
  obtain ⟨p, e, R, s, m, args, below, meth, c, Q, A⟩ := G
  intro H locs ls hI hP hD hS hl
  obtain ⟨hx, hb, hml, hown, hts, -, hK, -⟩ := C
  obtain ⟨i, -, hi⟩ := jm_ws_at (I := I) hk
  rw [hs] at hi
  refine va_zald hx hb hK hP i 1 hi (by rw [hcA]; rfl) (jm_i_in h0 h1 hj) hd ?_
  rw [jm_i_nat h0 hj]
  show W p l e R s m args below meth c H locs q.1 q.2 Q (F0 m (pc + 1) ls (jm_v (I k (j.toNat : Int)) :: st))
  rw [Int.toNat_of_nonneg h0]
  exact kk (hI k j) H locs ls hI hP hD hS hl
theorem jm_aup {f : Int → Int} {j v : Int} (h0 : 0 ≤ j) : upd (fun b : Nat => jm_i (f b)) j.toNat (jm_i v) = fun b : Nat => jm_i (if (b : Int) = j then v else f b) := by
  funext b
  by_cases hb : b = j.toNat
  · have e : (b : Int) = j := by omega
    simp [upd, hb, Int.toNat_of_nonneg h0]
  · have e : ¬ (b : Int) = j := by omega
    simp [upd, hb, e]
theorem jm_iast {k j v : Int} {n : Nat} {cA : ClassId} (C : jm_C E G cc nL own rm) (hk : k ∈ w.1) (hcA : cA = E.2.2 0) (hs : w.2.2 k = jm_Ia cA n) (h0 : 0 ≤ j) (h1 : j < n) (hj : jm_R j) (hd : decode cc pc = .ok (.iastore, 1)) (hv : jm_R v) (kk : jm_J E G q w (jm_up I k j v) (pc + 1) lv st) : jm_J E G q w I pc lv (jm_v v :: jm_v j :: .ref (w.2.1 k) :: st) := by
  obtain ⟨l, D, ca⟩ := E
  obtain ⟨p, e, R, s, m, args, below, meth, c, Q, A⟩ := G
  intro H locs ls hI hP hD hS hl
  obtain ⟨hx, hb, hml, hown, hts, -, hK, -⟩ := C
  obtain ⟨i, hi0, hi⟩ := jm_ws_at (I := I) hk
  rw [hs] at hi
  have hset : (jm_ws w I).set i (w.2.1 k, .inl (cA, n, .inl (upd (fun b : Nat => jm_i (I k b)) (jm_i j).toNatClampNeg (jm_i v)))) = jm_ws w (jm_up I k j v) := by
    refine jm_ws_set hD hi0 rfl rfl ?_ (fun a ha => ?_)
    · rw [hs, jm_i_nat h0 hj, jm_aup h0, jm_Ia]
      congr 5
      funext b
      simp [jm_up]
    · have e0 : ∀ x, jm_up I k x v a = I a := fun x => by funext b; simp [jm_up, ha]
      rw [e0]
  refine va_iast hx hb hK hP hD hS i 0 hi (by rw [hcA]; rfl) (jm_i_in h0 h1 hj) hd (fun H1 locs1 hP1 hD1 hS1 => ?_)
  rw [hset] at hP1 hD1
  exact kk H1 locs1 ls (jm_upR hI hv) hP1 hD1 hS1 hl
theorem jm_zast {k j v : Int} {n : Nat} {cA : ClassId} (C : jm_C E G cc nL own rm) (hk : k ∈ w.1) (hcA : cA = E.2.2 1) (hs : w.2.2 k = jm_Ia cA n) (h0 : 0 ≤ j) (h1 : j < n) (hj : jm_R j) (hd : decode cc pc = .ok (.bastore, 1)) (hv : v = 0 ∨ v = 1) (kk : jm_J E G q w (jm_up I k j v) (pc + 1) lv st) : jm_J E G q w I pc lv (jm_v v :: jm_v j :: .ref (w.2.1 k) :: st) := by
  obtain ⟨l, D, ca⟩ := E
  obtain ⟨p, e, R, s, m, args, below, meth, c, Q, A⟩ := G
  intro H locs ls hI hP hD hS hl
  obtain ⟨hx, hb, hml, hown, hts, -, hK, -⟩ := C
  obtain ⟨i, hi0, hi⟩ := jm_ws_at (I := I) hk
  rw [hs] at hi
  have hnar : vp_nar .boolean (jm_i v) = jm_i v := by rcases hv with rfl | rfl <;> decide +kernel
  have hset : (jm_ws w I).set i (w.2.1 k, .inl (cA, n, .inl (upd (fun b : Nat => jm_i (I k b)) (jm_i j).toNatClampNeg (vp_nar .boolean (jm_i v))))) = jm_ws w (jm_up I k j v) := by
    refine jm_ws_set hD hi0 rfl rfl ?_ (fun a ha => ?_)
    · rw [hs, hnar, jm_i_nat h0 hj, jm_aup h0, jm_Ia]
      congr 5
      funext b
      simp [jm_up]
    · have e0 : ∀ x, jm_up I k x v a = I a := fun x => by funext b; simp [jm_up, ha]
      rw [e0]
  refine va_zast hx hb hK hP hD hS i 1 hi (by rw [hcA]; rfl) (jm_i_in h0 h1 hj) hd (fun H1 locs1 hP1 hD1 hS1 => ?_)
  rw [hset] at hP1 hD1
  exact kk H1 locs1 ls (jm_upR hI (by rcases hv with rfl | rfl <;> decide)) hP1 hD1 hS1 hl
theorem jm_alen {k : Int} {n : Nat} {cA : ClassId} (t : Nat) (N : Int) (hN : (n : Int) = N) {ty : FieldType} (C : jm_C E G cc nL own rm) (hk : k ∈ w.1) (ht : (jm_t E.2.2)[t]? = some (cA, ty)) (hs : w.2.2 k = jm_Ia cA n) (hd : decode cc pc = .ok (.arraylength, 1)) (kk : jm_J E G q w I (pc + 1) lv (jm_v N :: st)) : jm_J E G q w I pc lv (.ref (w.2.1 k) :: st) := by
  subst hN
  obtain ⟨l, D, ca⟩ := E
  obtain ⟨p, e, R, s, m, args, below, meth, c, Q, A⟩ := G
  intro H locs ls hI hP hD hS hl
  obtain ⟨hx, hb, hml, hown, hts, -, hK, -⟩ := C
  obtain ⟨i, -, hi⟩ := jm_ws_at (I := I) hk
  rw [hs] at hi
  exact va_alen hx hb hK hP i t hi ht (v := jm_i n) (by show Int32.ofNat n = Int32.ofInt (n : Int); rfl) hd (kk H locs ls hI hP hD hS hl)
theorem jm_alenq {k : Int} {n : Nat} {cA : ClassId} {g : Nat → Option Nat} (t : Nat) (N : Int) (hN : (n : Int) = N) {ty : FieldType} (C : jm_C E G cc nL own rm) (hk : k ∈ w.1) (ht : (jm_t E.2.2)[t]? = some (cA, ty)) (hs : w.2.2 k = jm_Qa cA n g) (hd : decode cc pc = .ok (.arraylength, 1)) (kk : jm_J E G q w I (pc + 1) lv (jm_v N :: st)) : jm_J E G q w I pc lv (.ref (w.2.1 k) :: st) := by
  subst hN
  obtain ⟨l, D, ca⟩ := E
  obtain ⟨p, e, R, s, m, args, below, meth, c, Q, A⟩ := G
  intro H locs ls hI hP hD hS hl
  obtain ⟨hx, hb, hml, hown, hts, -, hK, -⟩ := C
  obtain ⟨i, -, hi⟩ := jm_ws_at (I := I) hk
  rw [hs] at hi
  exact va_alen hx hb hK hP i t hi ht (v := jm_i n) (by show Int32.ofNat n = Int32.ofInt (n : Int); rfl) hd (kk H locs ls hI hP hD hS hl)
theorem jm_aald {k j : Int} {n : Nat} {cA : ClassId} {g : Nat → Option Nat} (t : Nat) {Cn : String} (C : jm_C E G cc nL own rm) (hk : k ∈ w.1) (ht : (jm_t E.2.2)[t]? = some (cA, .object Cn)) (hs : w.2.2 k = jm_Qa cA n g) (h0 : 0 ≤ j) (h1 : j < n) (hj : jm_R j) (hd : decode cc pc = .ok (.aaload, 1)) (kk : jm_J E G q w I (pc + 1) lv (va_rf (g j.toNat) :: st)) : jm_J E G q w I pc lv (jm_v j :: .ref (w.2.1 k) :: st) := by
  obtain ⟨l, D, ca⟩ := E
  obtain ⟨p, e, R, s, m, args, below, meth, c, Q, A⟩ := G
  intro H locs ls hI hP hD hS hl
  obtain ⟨hx, hb, hml, hown, hts, -, hK, -⟩ := C
  obtain ⟨i, -, hi⟩ := jm_ws_at (I := I) hk
  rw [hs] at hi
  refine va_aldq hx hb hK hP i t hi ht (jm_i_in h0 h1 hj) hd ?_
  rw [jm_i_nat h0 hj]
  exact kk H locs ls hI hP hD hS hl
theorem jm_fz {z : Int} (h : z = 0 ∨ z = 1) : fits .boolean (jm_v z) = true := by rcases h with rfl | rfl <;> decide +kernel
theorem jm_ifnullY {off : Int} (tgt : Nat) (C : jm_C E G cc nL own rm) (hd : decode cc pc = .ok (.ifnull off, 3)) (ht : (pc : Int) + off = (tgt : Int)) (k : jm_J E G q w I tgt lv st) : jm_J E G q w I pc lv (.null :: st) := by
  obtain ⟨l, D, ca⟩ := E
  obtain ⟨p, e, R, s, m, args, below, meth, c, Q, A⟩ := G
  intro H locs ls hI hP hD hS hl
  exact lv_ifnullN C.1 C.2.1 hd ht (k H locs ls hI hP hD hS hl)
theorem jm_ifnullN {x : Nat} {off : Int} (C : jm_C E G cc nL own rm) (hd : decode cc pc = .ok (.ifnull off, 3)) (k : jm_J E G q w I (pc + 3) lv st) : jm_J E G q w I pc lv (.ref x :: st) := by
  obtain ⟨l, D, ca⟩ := E
  obtain ⟨p, e, R, s, m, args, below, meth, c, Q, A⟩ := G
  intro H locs ls hI hP hD hS hl
  exact lv_ifnull C.1 C.2.1 hd (k H locs ls hI hP hD hS hl)
theorem jm_ifnonnullY {x : Nat} {off : Int} (tgt : Nat) (C : jm_C E G cc nL own rm) (hd : decode cc pc = .ok (.ifnonnull off, 3)) (ht : (pc : Int) + off = (tgt : Int)) (k : jm_J E G q w I tgt lv st) : jm_J E G q w I pc lv (.ref x :: st) := by
  obtain ⟨l, D, ca⟩ := E
  obtain ⟨p, e, R, s, m, args, below, meth, c, Q, A⟩ := G
  intro H locs ls hI hP hD hS hl
  exact lv_ifnonnull C.1 C.2.1 hd ht (k H locs ls hI hP hD hS hl)
theorem jm_aconst_null (C : jm_C E G cc nL own rm) (hd : decode cc pc = .ok (.aconst_null, 1)) (k : jm_J E G q w I (pc + 1) lv (.null :: st)) : jm_J E G q w I pc lv st := by
  obtain ⟨l, D, ca⟩ := E
  obtain ⟨p, e, R, s, m, args, below, meth, c, Q, A⟩ := G
  intro H locs ls hI hP hD hS hl
  exact lv_null C.1 C.2.1 hd (k H locs ls hI hP hD hS hl)
theorem jm_ifnonnullN {off : Int} (C : jm_C E G cc nL own rm) (hd : decode cc pc = .ok (.ifnonnull off, 3)) (k : jm_J E G q w I (pc + 3) lv st) : jm_J E G q w I pc lv (.null :: st) := by
  obtain ⟨l, D, ca⟩ := E
  obtain ⟨p, e, R, s, m, args, below, meth, c, Q, A⟩ := G
  intro H locs ls hI hP hD hS hl
  exact lv_ifnonnullN C.1 C.2.1 hd (k H locs ls hI hP hD hS hl)
theorem jm_aload_nN {n : Fin 4} (C : jm_C E G cc nL own rm) (hd : decode cc pc = .ok (.aload_n n, 1)) (hl0 : jm_lk lv n = some .null) (k : jm_J E G q w I (pc + 1) lv (.null :: st)) : jm_J E G q w I pc lv st := by
  obtain ⟨l, D, ca⟩ := E
  obtain ⟨p, e, R, s, m, args, below, meth, c, Q, A⟩ := G
  intro H locs ls hI hP hD hS hl
  exact lv_aload_nN C.1 C.2.1 hd rfl (jm_h_at hl hl0) (k H locs ls hI hP hD hS hl)
theorem jm_astore_nN {n : Fin 4} (C : jm_C E G cc nL own rm) (hd : decode cc pc = .ok (.astore_n n, 1)) (hn : (n : Nat) < nL) (k : jm_J E G q w I (pc + 1) (((n : Nat), .null) :: lv) st) : jm_J E G q w I pc lv (.null :: st) := by
  obtain ⟨l, D, ca⟩ := E
  obtain ⟨p, e, R, s, m, args, below, meth, c, Q, A⟩ := G
  intro H locs ls hI hP hD hS hl
  exact lv_astore_nN C.1 C.2.1 hd rfl (jm_h_to hl) (by rw [C.2.2.1]; exact hn) rfl (fun ls' hl' => k H locs ls' hI hP hD hS (jm_h_st hl rfl hl'))
end JR
-- contracts: the world stays, the numbers may change
def jm_pre (E : jm_E) (w : jm_W) (I : jm_M) (sz : Nat) : State → Prop := fun U => U.heap.size = sz ∧ (∀ k j, jm_R (I k j)) ∧ va_P E.2.1 vwCl (jm_ws w I) U.heap ∧ va_K E.2.1 vwCl (jm_t E.2.2) U ∧ va_D (fun _ => True) (jm_ws w I) ∧ jm_N (jm_A w sz) U
def jm_B (E : jm_E) (w : jm_W) (sz : Nat) (I : jm_M) (t : State) : Prop := (∀ k j, jm_R (I k j)) ∧ va_P E.2.1 vwCl (jm_ws w I) t.heap ∧ va_D (jm_A w sz) (jm_ws w I)
/-- an int (or boolean) comes back -/
def jm_Mi (E : jm_E) (y : MethodName) (ws : List Cond) (rm : Room) (mc ms : Nat) (w : jm_W) (I : jm_M) (as : List Value) (post : jm_M → Int → Prop) : Prop :=
  ∀ sz : Nat, Met E.1 y ws rm (va_Pc as (jm_pre E w I sz)) (va_Qi (fun (r : Int32) (u : jm_M × Int) => r = jm_i u.2 ∧ post u.1 u.2) (fun u t => jm_B E w sz u.1 t) (jm_A w sz)) mc ms (jm_A w sz)
def jm_Mv (E : jm_E) (y : MethodName) (ws : List Cond) (rm : Room) (mc ms : Nat) (w : jm_W) (I : jm_M) (as : List Value) (post : jm_M → Prop) : Prop :=
  ∀ sz : Nat, Met E.1 y ws rm (va_Pc as (jm_pre E w I sz)) (va_Qv (fun u : jm_M => post u) (fun u t => jm_B E w sz u t) (jm_A w sz)) mc ms (jm_A w sz)
def jm_Mr (E : jm_E) (y : MethodName) (ws : List Cond) (rm : Room) (mc ms : Nat) (w : jm_W) (I : jm_M) (as : List Value) (post : jm_M → Int → Prop) : Prop :=
  ∀ sz : Nat, Met E.1 y ws rm (va_Pc as (jm_pre E w I sz)) (va_Qr (fun u : jm_M × Int => post u.1 u.2) (fun u a t => a = w.2.1 u.2 ∧ jm_B E w sz u.1 t) (jm_A w sz)) mc ms (jm_A w sz)
-- ends
def jm_ri (E : jm_E) (G : jm_G) (cc : ByteArray) (rt : FieldType) (mc ms : Nat) (w : jm_W) (post : jm_M → Int → Prop) : Prop :=
  ∀ (I : jm_M) (pc : Nat) (lv : List (Nat × Value)) (z : Int), decode cc pc = .ok (.ireturn, 1) → narrow rt (jm_v z) = jm_v z → post I z → jm_J E G (mc, ms) w I pc lv [jm_v z]
def jm_rv (E : jm_E) (G : jm_G) (cc : ByteArray) (mc ms : Nat) (w : jm_W) (post : jm_M → Prop) : Prop :=
  ∀ (I : jm_M) (pc : Nat) (lv : List (Nat × Value)), decode cc pc = .ok (.return_, 1) → post I → jm_J E G (mc, ms) w I pc lv []
def jm_rr (E : jm_E) (G : jm_G) (cc : ByteArray) (mc ms : Nat) (w : jm_W) (post : jm_M → Int → Prop) : Prop :=
  ∀ (I : jm_M) (pc : Nat) (lv : List (Nat × Value)) (k : Int), decode cc pc = .ok (.areturn, 1) → post I k → jm_J E G (mc, ms) w I pc lv [.ref (w.2.1 k)]
theorem jm_in_i {E : jm_E} {y : MethodName} {ws : List Cond} {rm : Room} {mc ms maxL : Nat} {w : jm_W} {I : jm_M} {as : List Value} {post : jm_M → Int → Prop} {cc : ByteArray} {rt : FieldType} (own : String) (hy : plainName y.cls = true) (hown : y.cls = own) (hw : ws = Cond.code y cc maxL (some rt) :: jm_W0) (hlen : (lg_sl as).length ≤ maxL) (hcat : ∀ v ∈ as, v.category = 1)
    (body : ∀ G : jm_G, jm_C E G cc maxL own rm → jm_ri E G cc rt mc ms w post → (∀ k j, jm_R (I k j)) → jm_J E G (0, 0) w I 0 (lv_args 0 as) []) : jm_Mi E y ws rm mc ms w I as post := by
  subst hown
  obtain ⟨l, D, ca⟩ := E
  intro sz
  refine Met.ofW (cc := cc) (maxL := maxL) (ret := some rt) hy hw ?_
  intro p e s m args below meth c s₁ B hml hv
  obtain ⟨rfl, hsz, hI, hP, hK, hD0, hN⟩ := hv
  have hts0 := atoms_spec (ws := ws) B.pre
  have hts : ∀ z ∈ jm_W0, z.before as.toArray s = true := fun z hz => hts0 z (by rw [hw]; exact List.mem_cons_of_mem _ hz)
  have hown : s.vm.findClass y.cls = some m.cls := findClass_of_methodNamed B.named
  subst hsz
  have hD : va_D (jm_A w s.heap.size) (jm_ws w I) := by rw [← jm_A_eq w I]; exact hD0.self (sz := s.heap.size)
  have hA : ∀ q : Nat, s.heap.size ≤ q → jm_A w s.heap.size q := fun q h => Or.inr h
  have hS : va_S (jm_A w s.heap.size) s.heap s.heap [] := va_S.rf
  have hl := lv_entry as (n := maxL) hlen
  rw [lg_entry_eq]
  have C : jm_C (l, D, ca) (p, e, rm, s, m, as.toArray, below, meth, c, MQ below (va_Qi (fun (r : Int32) (u : jm_M × Int) => r = jm_i u.2 ∧ post u.1 u.2) (fun u t => jm_B (l, D, ca) w s.heap.size u.1 t) (jm_A w s.heap.size)) as.toArray s mc ms (jm_A w s.heap.size), jm_A w s.heap.size) cc maxL y.cls rm := ⟨B.exec, B.bytes, hml, hown, hts, rfl, hK, hA, B.notSynchronized, hN⟩
  refine body (p, e, rm, s, m, as.toArray, below, meth, c, _, jm_A w s.heap.size) C ?_ hI s.heap [] _ hI hP hD hS (by rw [hml]; exact jm_h_arg hcat hl)
  intro I' pc lv z hd hn hp H locs ls hI' hP' hD' hS' hl'
  exact W.zret B.exec B.bytes B.returns hn (fun t ht hW => ⟨⟨jm_i z, (I', z), rfl, ⟨rfl, hp⟩, hI', by rw [ht]; exact hP', hD'⟩, hS'.F ht⟩) hS'.2.2 hd B.notSynchronized
theorem jm_in_v {E : jm_E} {y : MethodName} {ws : List Cond} {rm : Room} {mc ms maxL : Nat} {w : jm_W} {I : jm_M} {as : List Value} {post : jm_M → Prop} {cc : ByteArray} (own : String) (hy : plainName y.cls = true) (hown : y.cls = own) (hw : ws = Cond.code y cc maxL none :: jm_W0) (hlen : (lg_sl as).length ≤ maxL) (hcat : ∀ v ∈ as, v.category = 1)
    (body : ∀ G : jm_G, jm_C E G cc maxL own rm → jm_rv E G cc mc ms w post → (∀ k j, jm_R (I k j)) → jm_J E G (0, 0) w I 0 (lv_args 0 as) []) : jm_Mv E y ws rm mc ms w I as post := by
  subst hown
  obtain ⟨l, D, ca⟩ := E
  intro sz
  refine Met.ofW (cc := cc) (maxL := maxL) (ret := none) hy hw ?_
  intro p e s m args below meth c s₁ B hml hv
  obtain ⟨rfl, hsz, hI, hP, hK, hD0, hN⟩ := hv
  have hts0 := atoms_spec (ws := ws) B.pre
  have hts : ∀ z ∈ jm_W0, z.before as.toArray s = true := fun z hz => hts0 z (by rw [hw]; exact List.mem_cons_of_mem _ hz)
  have hown : s.vm.findClass y.cls = some m.cls := findClass_of_methodNamed B.named
  subst hsz
  have hD : va_D (jm_A w s.heap.size) (jm_ws w I) := by rw [← jm_A_eq w I]; exact hD0.self (sz := s.heap.size)
  have hA : ∀ q : Nat, s.heap.size ≤ q → jm_A w s.heap.size q := fun q h => Or.inr h
  have hS : va_S (jm_A w s.heap.size) s.heap s.heap [] := va_S.rf
  have hl := lv_entry as (n := maxL) hlen
  rw [lg_entry_eq]
  have C : jm_C (l, D, ca) (p, e, rm, s, m, as.toArray, below, meth, c, MQ below (va_Qv (fun u : jm_M => post u) (fun u t => jm_B (l, D, ca) w s.heap.size u t) (jm_A w s.heap.size)) as.toArray s mc ms (jm_A w s.heap.size), jm_A w s.heap.size) cc maxL y.cls rm := ⟨B.exec, B.bytes, hml, hown, hts, rfl, hK, hA, B.notSynchronized, hN⟩
  refine body (p, e, rm, s, m, as.toArray, below, meth, c, _, jm_A w s.heap.size) C ?_ hI s.heap [] _ hI hP hD hS (by rw [hml]; exact jm_h_arg hcat hl)
  intro I' pc lv hd hp H locs ls hI' hP' hD' hS' hl'
  exact W.vret B.exec B.bytes B.returns (fun t ht hW => ⟨⟨I', rfl, hp, hI', by rw [ht]; exact hP', hD'⟩, hS'.F ht⟩) hS'.2.2 hd B.notSynchronized
theorem jm_in_r {E : jm_E} {y : MethodName} {ws : List Cond} {rm : Room} {mc ms maxL : Nat} {w : jm_W} {I : jm_M} {as : List Value} {post : jm_M → Int → Prop} {cc : ByteArray} {Cn : String} (own : String) (hy : plainName y.cls = true) (hown : y.cls = own) (hw : ws = Cond.code y cc maxL (some (.object Cn)) :: jm_W0) (hlen : (lg_sl as).length ≤ maxL) (hcat : ∀ v ∈ as, v.category = 1)
    (body : ∀ G : jm_G, jm_C E G cc maxL own rm → jm_rr E G cc mc ms w post → (∀ k j, jm_R (I k j)) → jm_J E G (0, 0) w I 0 (lv_args 0 as) []) : jm_Mr E y ws rm mc ms w I as post := by
  subst hown
  obtain ⟨l, D, ca⟩ := E
  intro sz
  refine Met.ofW (cc := cc) (maxL := maxL) (ret := some (.object Cn)) hy hw ?_
  intro p e s m args below meth c s₁ B hml hv
  obtain ⟨rfl, hsz, hI, hP, hK, hD0, hN⟩ := hv
  have hts0 := atoms_spec (ws := ws) B.pre
  have hts : ∀ z ∈ jm_W0, z.before as.toArray s = true := fun z hz => hts0 z (by rw [hw]; exact List.mem_cons_of_mem _ hz)
  have hown : s.vm.findClass y.cls = some m.cls := findClass_of_methodNamed B.named
  subst hsz
  have hD : va_D (jm_A w s.heap.size) (jm_ws w I) := by rw [← jm_A_eq w I]; exact hD0.self (sz := s.heap.size)
  have hA : ∀ q : Nat, s.heap.size ≤ q → jm_A w s.heap.size q := fun q h => Or.inr h
  have hS : va_S (jm_A w s.heap.size) s.heap s.heap [] := va_S.rf
  have hl := lv_entry as (n := maxL) hlen
  rw [lg_entry_eq]
  have C : jm_C (l, D, ca) (p, e, rm, s, m, as.toArray, below, meth, c, MQ below (va_Qr (fun u : jm_M × Int => post u.1 u.2) (fun u a t => a = w.2.1 u.2 ∧ jm_B (l, D, ca) w s.heap.size u.1 t) (jm_A w s.heap.size)) as.toArray s mc ms (jm_A w s.heap.size), jm_A w s.heap.size) cc maxL y.cls rm := ⟨B.exec, B.bytes, hml, hown, hts, rfl, hK, hA, B.notSynchronized, hN⟩
  refine body (p, e, rm, s, m, as.toArray, below, meth, c, _, jm_A w s.heap.size) C ?_ hI s.heap [] _ hI hP hD hS (by rw [hml]; exact jm_h_arg hcat hl)
  intro I' pc lv k hd hp H locs ls hI' hP' hD' hS' hl'
  exact W.aret B.exec B.bytes B.returns (Or.inl ⟨_, rfl⟩) (Or.inr ⟨_, rfl⟩) (fun t ht hW => ⟨⟨(I', k), _, rfl, hp, rfl, hI', by rw [ht]; exact hP', hD'⟩, hS'.F ht⟩) hS'.2.2 hd B.notSynchronized
-- calls: what a call has, made once for each kind; what it goes on with
section JC
variable {E : jm_E} {G : jm_G} {q : Nat × Nat} {w : jm_W} {I : jm_M} {pc : Nat} {lv : List (Nat × Value)} {st : List Value} {cc : ByteArray} {nL : Nat} {own : String} {rm : Room}
/-- the call at pc runs y, its arguments As, whatever the heap, so long as it holds the world -/
def jm_run (E : jm_E) (G : jm_G) (q : Nat × Nat) (w : jm_W) (I : jm_M) (pc : Nat) (st rest : List Value) (Qa : Nat → Array Value → State → Outcome → State → Prop) (a : Array Value) (mc ms : Nat) : Prop :=
  match E, G with
  | (l, D, _), (p, e, R, s, m, args, below, meth, c, _, A) => ∀ (H : Heap) (locs : List Loc) (ls : Array Slot), (∀ k j, jm_R (I k j)) → va_P D vwCl (jm_ws w I) H → va_D A (jm_ws w I) → va_S A s.heap H locs → ls.size = c.maxLocals → va_Run p l e R s m args below meth c H locs q.1 q.2 mc ms (F0 m pc ls st) rest (Qa H.size a) (jm_A w H.size)
theorem jm_blind {E : jm_E} {w : jm_W} {I : jm_M} {sz : Nat} {as : List Value} : FrameBlind (va_Pc as (jm_pre E w I sz)) := by
  intro a U g mk h
  obtain ⟨h0, h1, h2, h3, h4, h5, h6⟩ := h
  have hW : U.WarmedH (U.calling g mk a).vm := State.WarmedH.refl U
  have hS : va_S (jm_A w sz) U.heap (U.calling g mk a).heap [] := va_S.rf
  exact ⟨h0, h1, h2, h3, va_K.moved (u := U) (U := U.calling g mk a) (Vm.Alike.refl U.vm) h4, h5, jm_N_to h6 hW hS (fun _ h => h)⟩
theorem jm_pre_at {E : jm_E} {w : jm_W} {I : jm_M} {s U : State} {H : Heap} {locs : List Loc} {A : Nat → Prop} (hI : ∀ k j, jm_R (I k j)) (hP : va_P E.2.1 vwCl (jm_ws w I) H) (hD : va_D A (jm_ws w I)) (hS : va_S A s.heap H locs) (hK : va_K E.2.1 vwCl (jm_t E.2.2) s) (hA : ∀ q, s.heap.size ≤ q → A q) (hN : jm_N A s) (hU : U.heap = H) (hW : s.WarmedH U.vm) : jm_pre E w I H.size U := by
  subst hU
  refine ⟨rfl, hI, hP, hK.moved hW.alike, hD.weaken (fun _ _ _ _ => trivial), jm_N_to hN hW hS (fun x hx => ?_)⟩
  rcases hx with ⟨k, hk, rfl⟩ | hx
  · obtain ⟨i, -, hi⟩ := jm_ws_at (I := I) hk
    exact hD.2 i _ hi
  · exact hA x (Nat.le_trans hS.1 hx)
theorem jm_runV {y : MethodName} {ws : List Cond} {rmc : Room} {mc ms maxL index n ci : Nat} {bytes : ByteArray} {ret : Option FieldType} {As rest : List Value} {k : Int} {tm : List (Option Value)} {C0 : String} {T : u_T} {N : Nat} {Qc : Nat → Array Value → State → Outcome → State → Prop} (C : jm_C E G cc nL own rm)
    (hM : ∀ sz, Met E.1 y ws rmc (va_Pc (.ref (w.2.1 k) :: As) (jm_pre E w I sz)) (Qc sz) mc ms (jm_A w sz)) (hlnk : Cond.methodLink own index y ∈ jm_W0) (hok : jm_okV C0 y bytes maxL ret n) (hw : ws = Cond.code y bytes maxL ret :: jm_W0) (hr : rmc.cells = mc ∧ rmc.slots = ms) (hR : rmc.frames + 1 ≤ rm.frames ∧ 8 + (maxL + 11) + rmc.locals ≤ rm.locals)
    (hc : vwCl[ci]? = some (C0, T, N)) (hk : k ∈ w.1) (hs : w.2.2 k = jm_O ci tm) (hn : As.length = n) (hst : st = As.reverse ++ .ref (w.2.1 k) :: rest) (hcat : (rest.map fun v => v.category).sum ≤ 8) (hd : decode cc pc = .ok (.invokevirtual index, 3)) (hf : q.1 + mc ≤ rm.cells ∧ q.2 + ms ≤ rm.slots) : jm_run E G q w I pc st rest Qc (Value.ref (w.2.1 k) :: As).toArray mc ms := by
  obtain ⟨l, D, ca⟩ := E
  obtain ⟨p, e, R, s, m, args, below, meth, c, Q, A⟩ := G
  intro H locs ls hI hP hD hS hl
  obtain ⟨hx, hb, hml, hown, hts, rfl, hK, hA, hlk, hN⟩ := C
  obtain ⟨i, -, hi⟩ := jm_ws_at (I := I) hk
  rw [hs] at hi
  exact va_runV (nL := nL) (Ts := jm_W0) (own := own) (C := C0) ⟨hx, hb, hml, hown, hts⟩ (hM H.size) (cwV n hts (by rw [hw]; exact jm_gV hlnk hok) hw hr.1 hr.2 ⟨hok.2.2.2.2.1, hok.2.2.2.2.2.1⟩ hR) ⟨jm_blind, va_recv hK hP hc hi, fun U hU hW => ⟨rfl, jm_pre_at hI hP hD hS hK hA hN hU hW⟩⟩ rfl hn (hl.trans hml) hst (lv_room hcat) hd hf
theorem jm_runS {y : MethodName} {ws : List Cond} {rmc : Room} {mc ms maxL index n : Nat} {bytes : ByteArray} {ret : Option FieldType} {As rest : List Value} {Qc : Nat → Array Value → State → Outcome → State → Prop} (C : jm_C E G cc nL own rm)
    (hM : ∀ sz, Met E.1 y ws rmc (va_Pc As (jm_pre E w I sz)) (Qc sz) mc ms (jm_A w sz)) (hlnk : Cond.methodLink own index y ∈ jm_W0) (hok : jm_okS own y bytes maxL ret n) (hw : ws = Cond.code y bytes maxL ret :: jm_W0) (hr : rmc.cells = mc ∧ rmc.slots = ms) (hR : rmc.frames + 1 ≤ rm.frames ∧ 8 + (maxL + 11) + rmc.locals ≤ rm.locals)
    (hn : As.length = n) (hst : st = As.reverse ++ rest) (hcat : (rest.map fun v => v.category).sum ≤ 8) (hd : decode cc pc = .ok (.invokestatic index, 3)) (hf : q.1 + mc ≤ rm.cells ∧ q.2 + ms ≤ rm.slots) : jm_run E G q w I pc st rest Qc As.toArray mc ms := by
  obtain ⟨l, D, ca⟩ := E
  obtain ⟨p, e, R, s, m, args, below, meth, c, Q, A⟩ := G
  intro H locs ls hI hP hD hS hl
  obtain ⟨hx, hb, hml, hown, hts, rfl, hK, hA, hlk, hN⟩ := C
  exact va_runS (nL := nL) (Ts := jm_W0) (own := own) ⟨hx, hb, hml, hown, hts⟩ (hM H.size) (cwS n hts (by rw [hw]; exact jm_gS hlnk hok) hw hr.1 hr.2 ⟨hok.2.2.2.1, hok.2.2.2.2.1⟩ hR) ⟨jm_blind, fun U hU hW => ⟨rfl, jm_pre_at hI hP hD hS hK hA hN hU hW⟩⟩ rfl hn (hl.trans hml) hst (lv_room hcat) hd hf
theorem jm_runSN {y : MethodName} {ws : List Cond} {rmc : Room} {mc ms maxL index n : Nat} {bytes : ByteArray} {ret : Option FieldType} {As rest : List Value} {host : String} {Qc : Nat → Array Value → State → Outcome → State → Prop} (C : jm_C E G cc nL own rm)
    (hM : ∀ sz, Met E.1 y ws rmc (va_Pc As (jm_pre E w I sz)) (Qc sz) mc ms (jm_A w sz)) (hne : (own, index, y, host) ∈ jm_nest) (hok : jm_okS host y bytes maxL ret n) (hw : ws = Cond.code y bytes maxL ret :: jm_W0) (hr : rmc.cells = mc ∧ rmc.slots = ms) (hR : rmc.frames + 1 ≤ rm.frames ∧ 8 + (maxL + 11) + rmc.locals ≤ rm.locals)
    (hn : As.length = n) (hst : st = As.reverse ++ rest) (hcat : (rest.map fun v => v.category).sum ≤ 8) (hd : decode cc pc = .ok (.invokestatic index, 3)) (hf : q.1 + mc ≤ rm.cells ∧ q.2 + ms ≤ rm.slots) : jm_run E G q w I pc st rest Qc As.toArray mc ms := by
  obtain ⟨l, D, ca⟩ := E
  obtain ⟨p, e, R, s, m, args, below, meth, c, Q, A⟩ := G
  intro H locs ls hI hP hD hS hl
  obtain ⟨hx, hb, hml, hown, hts, rfl, hK, hA, hlk, hN⟩ := C
  have hNe := hN.2.1 _ hne
  exact va_runSN (nL := nL) (Ts := jm_W0) (own := own) ⟨hx, hb, hml, hown, hts⟩ (hM H.size) ⟨va_cnB n hts (by rw [hw]; exact jm_gc hok.2.2.1) hw hr.1 hr.2 hNe (by rw [hok.2.2.2.1]; exact hts _ hok.2.1) hok.2.2.2.2.1 hR, hts _ hok.1, trivial⟩ ⟨jm_blind, fun U hU hW => ⟨rfl, jm_pre_at hI hP hD hS hK hA hN hU hW⟩⟩ rfl hn (hl.trans hml) hst (lv_room hcat) hd hf
theorem jm_callAux {A : Nat → Prop} {s : State} {H : Heap} {locs : List Loc} (hD : va_D A (jm_ws w I)) (hA : ∀ q, s.heap.size ≤ q → A q) (hS : va_S A s.heap H locs) : ∀ x, jm_A w H.size x → A x := fun x hx => by
  rcases hx with ⟨k, hk, rfl⟩ | hx
  · obtain ⟨i, -, hi⟩ := jm_ws_at (I := I) hk
    exact hD.2 i _ hi
  · exact hA x (Nat.le_trans hS.1 hx)
theorem jm_calli {rest : List Value} {a : Array Value} {mc ms : Nat} {post : jm_M → Int → Prop} (C : jm_C E G cc nL own rm) (hr : jm_run E G q w I pc st rest (fun sz => va_Qi (fun (r : Int32) (u : jm_M × Int) => r = jm_i u.2 ∧ post u.1 u.2) (fun u t => jm_B E w sz u.1 t) (jm_A w sz)) a mc ms) (kk : ∀ (I' : jm_M) (z : Int), post I' z → jm_J E G (q.1 + mc, q.2 + ms) w I' (pc + 3) lv (jm_v z :: rest)) : jm_J E G q w I pc lv st := by
  obtain ⟨l, D, ca⟩ := E
  obtain ⟨p, e, R, s, m, args, below, meth, c, Q, A⟩ := G
  intro H locs ls hI hP hD hS hl
  obtain ⟨hx, hb, hml, hown, hts, rfl, hK, hA, hlk, hN⟩ := C
  have hF := jm_callAux hD hA hS
  refine va_calli (hr H locs ls hI hP hD hS hl.1) hS (fun x _ h => hF x h) hF (fun r u t H1 locs1 ht hvm hpost hB hz hkeep hS1 => ?_)
  obtain ⟨rfl, hp⟩ := hpost
  obtain ⟨b1, b2, b3⟩ := hB
  rw [ht] at b2
  exact kk u.1 u.2 hp H1 locs1 ls b1 b2 (jm_ws_D hD rfl rfl) hS1 hl
theorem jm_callv {rest : List Value} {a : Array Value} {mc ms : Nat} {post : jm_M → Prop} (C : jm_C E G cc nL own rm) (hr : jm_run E G q w I pc st rest (fun sz => va_Qv (fun u : jm_M => post u) (fun u t => jm_B E w sz u t) (jm_A w sz)) a mc ms) (kk : ∀ I' : jm_M, post I' → jm_J E G (q.1 + mc, q.2 + ms) w I' (pc + 3) lv rest) : jm_J E G q w I pc lv st := by
  obtain ⟨l, D, ca⟩ := E
  obtain ⟨p, e, R, s, m, args, below, meth, c, Q, A⟩ := G
  intro H locs ls hI hP hD hS hl
  obtain ⟨hx, hb, hml, hown, hts, rfl, hK, hA, hlk, hN⟩ := C
  have hF := jm_callAux hD hA hS
  refine va_callv (hr H locs ls hI hP hD hS hl.1) hS (fun x _ h => hF x h) hF (fun u t H1 locs1 ht hvm hpost hB hz hkeep hS1 => ?_)
  obtain ⟨b1, b2, b3⟩ := hB
  rw [ht] at b2
  exact kk u hpost H1 locs1 ls b1 b2 (jm_ws_D hD rfl rfl) hS1 hl
theorem jm_callr {rest : List Value} {a : Array Value} {mc ms : Nat} {post : jm_M → Int → Prop} (C : jm_C E G cc nL own rm) (hr : jm_run E G q w I pc st rest (fun sz => va_Qr (fun u : jm_M × Int => post u.1 u.2) (fun u a t => a = w.2.1 u.2 ∧ jm_B E w sz u.1 t) (jm_A w sz)) a mc ms) (kk : ∀ (I' : jm_M) (k : Int), post I' k → jm_J E G (q.1 + mc, q.2 + ms) w I' (pc + 3) lv (.ref (w.2.1 k) :: rest)) : jm_J E G q w I pc lv st := by
  obtain ⟨l, D, ca⟩ := E
  obtain ⟨p, e, R, s, m, args, below, meth, c, Q, A⟩ := G
  intro H locs ls hI hP hD hS hl
  obtain ⟨hx, hb, hml, hown, hts, rfl, hK, hA, hlk, hN⟩ := C
  have hF := jm_callAux hD hA hS
  refine va_callr (hr H locs ls hI hP hD hS hl.1) hS (fun x _ h => hF x h) hF (fun u x t H1 locs1 ht hvm hpost hB hz hkeep hS1 => ?_)
  obtain ⟨rfl, b1, b2, b3⟩ := hB
  rw [ht] at b2
  exact kk u.1 u.2 hpost H1 locs1 ls b1 b2 (jm_ws_D hD rfl rfl) hS1 hl
theorem jm_min {a b : Int} {index : Nat} (C : jm_C E G cc nL own rm) (hlink : Cond.methodLink own index Lib.Math.min.name ∈ jm_W0) (hstat : Cond.static Lib.Math.min.name ∈ jm_W0) (hini : Cond.initialized "java/lang/Math" ∈ jm_W0) (hcode : Cond.code Lib.Math.min.name Lib.Math.min.code 2 (some .int) ∈ jm_W0) (hfr : 1 ≤ rm.frames) (hlo : (st.map fun v => v.category).sum + 13 ≤ rm.locals) (hc : q.1 ≤ rm.cells) (hsl : q.2 ≤ rm.slots) (hd : decode cc pc = .ok (.invokestatic index, 3)) (ha : jm_R a) (hb0 : jm_R b) (kk : jm_J E G q w I (pc + 3) lv (jm_v (hk_mn a b) :: st)) : jm_J E G q w I pc lv (jm_v b :: jm_v a :: st) := by
  obtain ⟨l, D, ca⟩ := E
  obtain ⟨p, e, R, s, m, args, below, meth, c, Q, A⟩ := G
  intro H locs ls hI hP hD hS hl
  obtain ⟨hx, hb, hml, hown, hts, rfl, hK, hA, hlk, hN⟩ := C
  refine va_mmin hx hb hl.1.symm hown (hts _ hlink) (hts _ hstat) (hts _ hini) (hts _ hcode) hfr hlo hc hsl hd ?_
  have hk := kk H locs ls hI hP hD hS hl
  have e1 : (if jm_i b < jm_i a then jm_i b else jm_i a) = jm_i (hk_mn a b) := by
    unfold hk_mn
    by_cases h : b < a
    · rw [if_pos h, if_pos ((jm_i_lt hb0 ha).mpr h)]
    · rw [if_neg h, if_neg (fun z => h ((jm_i_lt hb0 ha).mp z))]
  rw [e1]
  exact hk
theorem jm_abs {a : Int} {index : Nat} (C : jm_C E G cc nL own rm) (hlink : Cond.methodLink own index Lib.Math.abs.name ∈ jm_W0) (hstat : Cond.static Lib.Math.abs.name ∈ jm_W0) (hini : Cond.initialized "java/lang/Math" ∈ jm_W0) (hcode : Cond.code Lib.Math.abs.name Lib.Math.abs.code 1 (some .int) ∈ jm_W0) (hfr : 1 ≤ rm.frames) (hlo : (st.map fun v => v.category).sum + 13 ≤ rm.locals) (hc : q.1 ≤ rm.cells) (hsl : q.2 ≤ rm.slots) (hd : decode cc pc = .ok (.invokestatic index, 3)) (ha : jm_R a) (kk : jm_J E G q w I (pc + 3) lv (jm_v (hk_ab a) :: st)) : jm_J E G q w I pc lv (jm_v a :: st) := by
  obtain ⟨l, D, ca⟩ := E
  obtain ⟨p, e, R, s, m, args, below, meth, c, Q, A⟩ := G
  intro H locs ls hI hP hD hS hl
  obtain ⟨hx, hb, hml, hown, hts, rfl, hK, hA, hlk, hN⟩ := C
  refine va_mabs hx hb hl.1.symm hown (hts _ hlink) (hts _ hstat) (hts _ hini) (hts _ hcode) hfr hlo hc hsl hd ?_
  have hk := kk H locs ls hI hP hD hS hl
  have e1 : (if 0 ≤ jm_i a then jm_i a else 0 - jm_i a) = jm_i (hk_ab a) := by
    unfold hk_ab
    by_cases h : 0 ≤ a
    · rw [if_pos h, if_pos ((jm_i_0le ha).mpr h)]
    · rw [if_neg h, if_neg (fun z => h ((jm_i_0le ha).mp z)), ← jm_i_0, jm_i_sub]
      congr 1
      omega
  rw [e1]
  exact hk
theorem jm_cVi {mc ms maxL index n : Nat} {y : MethodName} {ws : List Cond} {rmc : Room} {bytes : ByteArray} {ret : Option FieldType} {As : List Value} {ci : Nat} {k : Int} {tm : List (Option Value)} {C0 : String} {T : u_T} {N : Nat} (rest : List Value) {post : jm_M → Int → Prop} (C : jm_C E G cc nL own rm) (hM : jm_Mi E y ws rmc mc ms w I (.ref (w.2.1 k) :: As) post) (hlnk : Cond.methodLink own index y ∈ jm_W0) (hok : jm_okV C0 y bytes maxL ret n) (hw : ws = Cond.code y bytes maxL ret :: jm_W0) (hr : rmc.cells = mc ∧ rmc.slots = ms) (hR : rmc.frames + 1 ≤ rm.frames ∧ 8 + (maxL + 11) + rmc.locals ≤ rm.locals) (hc : vwCl[ci]? = some (C0, T, N)) (hk : k ∈ w.1) (hs : w.2.2 k = jm_O ci tm) (hn : As.length = n) (hst : st = As.reverse ++ .ref (w.2.1 k) :: rest) (hcat : (rest.map fun v => v.category).sum ≤ 8) (hd : decode cc pc = .ok (.invokevirtual index, 3)) (hf : q.1 + mc ≤ rm.cells ∧ q.2 + ms ≤ rm.slots) (kk : ∀ (I' : jm_M) (z : Int), post I' z → jm_J E G (q.1 + mc, q.2 + ms) w I' (pc + 3) lv (jm_v z :: rest)) : jm_J E G q w I pc lv st :=
  jm_calli C (jm_runV C hM hlnk hok hw hr hR hc hk hs hn hst hcat hd hf) kk
theorem jm_cVv {mc ms maxL index n : Nat} {y : MethodName} {ws : List Cond} {rmc : Room} {bytes : ByteArray} {ret : Option FieldType} {As : List Value} {ci : Nat} {k : Int} {tm : List (Option Value)} {C0 : String} {T : u_T} {N : Nat} (rest : List Value) {post : jm_M → Prop} (C : jm_C E G cc nL own rm) (hM : jm_Mv E y ws rmc mc ms w I (.ref (w.2.1 k) :: As) post) (hlnk : Cond.methodLink own index y ∈ jm_W0) (hok : jm_okV C0 y bytes maxL ret n) (hw : ws = Cond.code y bytes maxL ret :: jm_W0) (hr : rmc.cells = mc ∧ rmc.slots = ms) (hR : rmc.frames + 1 ≤ rm.frames ∧ 8 + (maxL + 11) + rmc.locals ≤ rm.locals) (hc : vwCl[ci]? = some (C0, T, N)) (hk : k ∈ w.1) (hs : w.2.2 k = jm_O ci tm) (hn : As.length = n) (hst : st = As.reverse ++ .ref (w.2.1 k) :: rest) (hcat : (rest.map fun v => v.category).sum ≤ 8) (hd : decode cc pc = .ok (.invokevirtual index, 3)) (hf : q.1 + mc ≤ rm.cells ∧ q.2 + ms ≤ rm.slots) (kk : ∀ (I' : jm_M), post I' → jm_J E G (q.1 + mc, q.2 + ms) w I' (pc + 3) lv rest) : jm_J E G q w I pc lv st :=
  jm_callv C (jm_runV C hM hlnk hok hw hr hR hc hk hs hn hst hcat hd hf) kk
theorem jm_cVr {mc ms maxL index n : Nat} {y : MethodName} {ws : List Cond} {rmc : Room} {bytes : ByteArray} {ret : Option FieldType} {As : List Value} {ci : Nat} {k : Int} {tm : List (Option Value)} {C0 : String} {T : u_T} {N : Nat} (rest : List Value) {post : jm_M → Int → Prop} (C : jm_C E G cc nL own rm) (hM : jm_Mr E y ws rmc mc ms w I (.ref (w.2.1 k) :: As) post) (hlnk : Cond.methodLink own index y ∈ jm_W0) (hok : jm_okV C0 y bytes maxL ret n) (hw : ws = Cond.code y bytes maxL ret :: jm_W0) (hr : rmc.cells = mc ∧ rmc.slots = ms) (hR : rmc.frames + 1 ≤ rm.frames ∧ 8 + (maxL + 11) + rmc.locals ≤ rm.locals) (hc : vwCl[ci]? = some (C0, T, N)) (hk : k ∈ w.1) (hs : w.2.2 k = jm_O ci tm) (hn : As.length = n) (hst : st = As.reverse ++ .ref (w.2.1 k) :: rest) (hcat : (rest.map fun v => v.category).sum ≤ 8) (hd : decode cc pc = .ok (.invokevirtual index, 3)) (hf : q.1 + mc ≤ rm.cells ∧ q.2 + ms ≤ rm.slots) (kk : ∀ (I' : jm_M) (z : Int), post I' z → jm_J E G (q.1 + mc, q.2 + ms) w I' (pc + 3) lv (.ref (w.2.1 z) :: rest)) : jm_J E G q w I pc lv st :=
  jm_callr C (jm_runV C hM hlnk hok hw hr hR hc hk hs hn hst hcat hd hf) kk
theorem jm_cVd {maxL index n : Nat} {y : MethodName} {ws : List Cond} {rmc : Room} {bytes : ByteArray} {ret : Option FieldType} {As : List Value} {ci : Nat} {k : Int} {tm : List (Option Value)} {C0 : String} {T : u_T} {N : Nat} (rest : List Value) {g : jm_M} {post : Int → Prop} (C : jm_C E G cc nL own rm) (hM : jm_Mi E y ws rmc 0 0 w I (.ref (w.2.1 k) :: As) (fun I' z => I' = g ∧ post z)) (hlnk : Cond.methodLink own index y ∈ jm_W0) (hok : jm_okV C0 y bytes maxL ret n) (hw : ws = Cond.code y bytes maxL ret :: jm_W0) (hr : rmc.cells = 0 ∧ rmc.slots = 0) (hR : rmc.frames + 1 ≤ rm.frames ∧ 8 + (maxL + 11) + rmc.locals ≤ rm.locals) (hc : vwCl[ci]? = some (C0, T, N)) (hk : k ∈ w.1) (hs : w.2.2 k = jm_O ci tm) (hn : As.length = n) (hst : st = As.reverse ++ .ref (w.2.1 k) :: rest) (hcat : (rest.map fun v => v.category).sum ≤ 8) (hd : decode cc pc = .ok (.invokevirtual index, 3)) (hf : q.1 + 0 ≤ rm.cells ∧ q.2 + 0 ≤ rm.slots) (kk : ∀ (z : Int), post z → jm_J E G q w g (pc + 3) lv (jm_v z :: rest)) : jm_J E G q w I pc lv st :=
  jm_calli (post := fun I' z => I' = g ∧ post z) C (jm_runV C hM hlnk hok hw hr hR hc hk hs hn hst hcat hd hf) (fun I' z h => by obtain ⟨rfl, h⟩ := h; exact kk z h)
theorem jm_cVu {maxL index n : Nat} {y : MethodName} {ws : List Cond} {rmc : Room} {bytes : ByteArray} {ret : Option FieldType} {As : List Value} {ci : Nat} {k : Int} {tm : List (Option Value)} {C0 : String} {T : u_T} {N : Nat} (rest : List Value) {g : jm_M} (C : jm_C E G cc nL own rm) (hM : jm_Mv E y ws rmc 0 0 w I (.ref (w.2.1 k) :: As) (fun I' => I' = g)) (hlnk : Cond.methodLink own index y ∈ jm_W0) (hok : jm_okV C0 y bytes maxL ret n) (hw : ws = Cond.code y bytes maxL ret :: jm_W0) (hr : rmc.cells = 0 ∧ rmc.slots = 0) (hR : rmc.frames + 1 ≤ rm.frames ∧ 8 + (maxL + 11) + rmc.locals ≤ rm.locals) (hc : vwCl[ci]? = some (C0, T, N)) (hk : k ∈ w.1) (hs : w.2.2 k = jm_O ci tm) (hn : As.length = n) (hst : st = As.reverse ++ .ref (w.2.1 k) :: rest) (hcat : (rest.map fun v => v.category).sum ≤ 8) (hd : decode cc pc = .ok (.invokevirtual index, 3)) (hf : q.1 + 0 ≤ rm.cells ∧ q.2 + 0 ≤ rm.slots) (kk : jm_J E G q w g (pc + 3) lv rest) : jm_J E G q w I pc lv st :=
  jm_callv C (jm_runV C hM hlnk hok hw hr hR hc hk hs hn hst hcat hd hf) (fun I' h => by subst h; exact kk)
theorem jm_cVrd {maxL index n : Nat} {y : MethodName} {ws : List Cond} {rmc : Room} {bytes : ByteArray} {ret : Option FieldType} {As : List Value} {ci : Nat} {k : Int} {tm : List (Option Value)} {C0 : String} {T : u_T} {N : Nat} (rest : List Value) {g : jm_M} {kr : Int} (C : jm_C E G cc nL own rm) (hM : jm_Mr E y ws rmc 0 0 w I (.ref (w.2.1 k) :: As) (fun I' z => I' = g ∧ z = kr)) (hlnk : Cond.methodLink own index y ∈ jm_W0) (hok : jm_okV C0 y bytes maxL ret n) (hw : ws = Cond.code y bytes maxL ret :: jm_W0) (hr : rmc.cells = 0 ∧ rmc.slots = 0) (hR : rmc.frames + 1 ≤ rm.frames ∧ 8 + (maxL + 11) + rmc.locals ≤ rm.locals) (hc : vwCl[ci]? = some (C0, T, N)) (hk : k ∈ w.1) (hs : w.2.2 k = jm_O ci tm) (hn : As.length = n) (hst : st = As.reverse ++ .ref (w.2.1 k) :: rest) (hcat : (rest.map fun v => v.category).sum ≤ 8) (hd : decode cc pc = .ok (.invokevirtual index, 3)) (hf : q.1 + 0 ≤ rm.cells ∧ q.2 + 0 ≤ rm.slots) (kk : jm_J E G q w g (pc + 3) lv (.ref (w.2.1 kr) :: rest)) : jm_J E G q w I pc lv st :=
  jm_callr (post := fun I' z => I' = g ∧ z = kr) C (jm_runV C hM hlnk hok hw hr hR hc hk hs hn hst hcat hd hf) (fun I' z h => by obtain ⟨rfl, rfl⟩ := h; exact kk)
theorem jm_cSi {mc ms maxL index n : Nat} {y : MethodName} {ws : List Cond} {rmc : Room} {bytes : ByteArray} {ret : Option FieldType} {As : List Value} (rest : List Value) {post : jm_M → Int → Prop} (C : jm_C E G cc nL own rm) (hM : jm_Mi E y ws rmc mc ms w I (As) post) (hlnk : Cond.methodLink own index y ∈ jm_W0) (hok : jm_okS own y bytes maxL ret n) (hw : ws = Cond.code y bytes maxL ret :: jm_W0) (hr : rmc.cells = mc ∧ rmc.slots = ms) (hR : rmc.frames + 1 ≤ rm.frames ∧ 8 + (maxL + 11) + rmc.locals ≤ rm.locals) (hn : As.length = n) (hst : st = As.reverse ++ rest) (hcat : (rest.map fun v => v.category).sum ≤ 8) (hd : decode cc pc = .ok (.invokestatic index, 3)) (hf : q.1 + mc ≤ rm.cells ∧ q.2 + ms ≤ rm.slots) (kk : ∀ (I' : jm_M) (z : Int), post I' z → jm_J E G (q.1 + mc, q.2 + ms) w I' (pc + 3) lv (jm_v z :: rest)) : jm_J E G q w I pc lv st :=
  jm_calli C (jm_runS C hM hlnk hok hw hr hR hn hst hcat hd hf) kk
theorem jm_cSv {mc ms maxL index n : Nat} {y : MethodName} {ws : List Cond} {rmc : Room} {bytes : ByteArray} {ret : Option FieldType} {As : List Value} (rest : List Value) {post : jm_M → Prop} (C : jm_C E G cc nL own rm) (hM : jm_Mv E y ws rmc mc ms w I (As) post) (hlnk : Cond.methodLink own index y ∈ jm_W0) (hok : jm_okS own y bytes maxL ret n) (hw : ws = Cond.code y bytes maxL ret :: jm_W0) (hr : rmc.cells = mc ∧ rmc.slots = ms) (hR : rmc.frames + 1 ≤ rm.frames ∧ 8 + (maxL + 11) + rmc.locals ≤ rm.locals) (hn : As.length = n) (hst : st = As.reverse ++ rest) (hcat : (rest.map fun v => v.category).sum ≤ 8) (hd : decode cc pc = .ok (.invokestatic index, 3)) (hf : q.1 + mc ≤ rm.cells ∧ q.2 + ms ≤ rm.slots) (kk : ∀ (I' : jm_M), post I' → jm_J E G (q.1 + mc, q.2 + ms) w I' (pc + 3) lv rest) : jm_J E G q w I pc lv st :=
  jm_callv C (jm_runS C hM hlnk hok hw hr hR hn hst hcat hd hf) kk
theorem jm_cSr {mc ms maxL index n : Nat} {y : MethodName} {ws : List Cond} {rmc : Room} {bytes : ByteArray} {ret : Option FieldType} {As : List Value} (rest : List Value) {post : jm_M → Int → Prop} (C : jm_C E G cc nL own rm) (hM : jm_Mr E y ws rmc mc ms w I (As) post) (hlnk : Cond.methodLink own index y ∈ jm_W0) (hok : jm_okS own y bytes maxL ret n) (hw : ws = Cond.code y bytes maxL ret :: jm_W0) (hr : rmc.cells = mc ∧ rmc.slots = ms) (hR : rmc.frames + 1 ≤ rm.frames ∧ 8 + (maxL + 11) + rmc.locals ≤ rm.locals) (hn : As.length = n) (hst : st = As.reverse ++ rest) (hcat : (rest.map fun v => v.category).sum ≤ 8) (hd : decode cc pc = .ok (.invokestatic index, 3)) (hf : q.1 + mc ≤ rm.cells ∧ q.2 + ms ≤ rm.slots) (kk : ∀ (I' : jm_M) (z : Int), post I' z → jm_J E G (q.1 + mc, q.2 + ms) w I' (pc + 3) lv (.ref (w.2.1 z) :: rest)) : jm_J E G q w I pc lv st :=
  jm_callr C (jm_runS C hM hlnk hok hw hr hR hn hst hcat hd hf) kk
theorem jm_cSd {maxL index n : Nat} {y : MethodName} {ws : List Cond} {rmc : Room} {bytes : ByteArray} {ret : Option FieldType} {As : List Value} (rest : List Value) {g : jm_M} {post : Int → Prop} (C : jm_C E G cc nL own rm) (hM : jm_Mi E y ws rmc 0 0 w I (As) (fun I' z => I' = g ∧ post z)) (hlnk : Cond.methodLink own index y ∈ jm_W0) (hok : jm_okS own y bytes maxL ret n) (hw : ws = Cond.code y bytes maxL ret :: jm_W0) (hr : rmc.cells = 0 ∧ rmc.slots = 0) (hR : rmc.frames + 1 ≤ rm.frames ∧ 8 + (maxL + 11) + rmc.locals ≤ rm.locals) (hn : As.length = n) (hst : st = As.reverse ++ rest) (hcat : (rest.map fun v => v.category).sum ≤ 8) (hd : decode cc pc = .ok (.invokestatic index, 3)) (hf : q.1 + 0 ≤ rm.cells ∧ q.2 + 0 ≤ rm.slots) (kk : ∀ (z : Int), post z → jm_J E G q w g (pc + 3) lv (jm_v z :: rest)) : jm_J E G q w I pc lv st :=
  jm_calli (post := fun I' z => I' = g ∧ post z) C (jm_runS C hM hlnk hok hw hr hR hn hst hcat hd hf) (fun I' z h => by obtain ⟨rfl, h⟩ := h; exact kk z h)
theorem jm_cSu {maxL index n : Nat} {y : MethodName} {ws : List Cond} {rmc : Room} {bytes : ByteArray} {ret : Option FieldType} {As : List Value} (rest : List Value) {g : jm_M} (C : jm_C E G cc nL own rm) (hM : jm_Mv E y ws rmc 0 0 w I (As) (fun I' => I' = g)) (hlnk : Cond.methodLink own index y ∈ jm_W0) (hok : jm_okS own y bytes maxL ret n) (hw : ws = Cond.code y bytes maxL ret :: jm_W0) (hr : rmc.cells = 0 ∧ rmc.slots = 0) (hR : rmc.frames + 1 ≤ rm.frames ∧ 8 + (maxL + 11) + rmc.locals ≤ rm.locals) (hn : As.length = n) (hst : st = As.reverse ++ rest) (hcat : (rest.map fun v => v.category).sum ≤ 8) (hd : decode cc pc = .ok (.invokestatic index, 3)) (hf : q.1 + 0 ≤ rm.cells ∧ q.2 + 0 ≤ rm.slots) (kk : jm_J E G q w g (pc + 3) lv rest) : jm_J E G q w I pc lv st :=
  jm_callv C (jm_runS C hM hlnk hok hw hr hR hn hst hcat hd hf) (fun I' h => by subst h; exact kk)
theorem jm_cSrd {maxL index n : Nat} {y : MethodName} {ws : List Cond} {rmc : Room} {bytes : ByteArray} {ret : Option FieldType} {As : List Value} (rest : List Value) {g : jm_M} {kr : Int} (C : jm_C E G cc nL own rm) (hM : jm_Mr E y ws rmc 0 0 w I (As) (fun I' z => I' = g ∧ z = kr)) (hlnk : Cond.methodLink own index y ∈ jm_W0) (hok : jm_okS own y bytes maxL ret n) (hw : ws = Cond.code y bytes maxL ret :: jm_W0) (hr : rmc.cells = 0 ∧ rmc.slots = 0) (hR : rmc.frames + 1 ≤ rm.frames ∧ 8 + (maxL + 11) + rmc.locals ≤ rm.locals) (hn : As.length = n) (hst : st = As.reverse ++ rest) (hcat : (rest.map fun v => v.category).sum ≤ 8) (hd : decode cc pc = .ok (.invokestatic index, 3)) (hf : q.1 + 0 ≤ rm.cells ∧ q.2 + 0 ≤ rm.slots) (kk : jm_J E G q w g (pc + 3) lv (.ref (w.2.1 kr) :: rest)) : jm_J E G q w I pc lv st :=
  jm_callr (post := fun I' z => I' = g ∧ z = kr) C (jm_runS C hM hlnk hok hw hr hR hn hst hcat hd hf) (fun I' z h => by obtain ⟨rfl, rfl⟩ := h; exact kk)
theorem jm_cNi {mc ms maxL index n : Nat} {y : MethodName} {ws : List Cond} {rmc : Room} {bytes : ByteArray} {ret : Option FieldType} {As : List Value} (rest : List Value) {post : jm_M → Int → Prop} (C : jm_C E G cc nL own rm) (hM : jm_Mi E y ws rmc mc ms w I (As) post) (host : String) (hne : (own, index, y, host) ∈ jm_nest) (hok : jm_okS host y bytes maxL ret n) (hw : ws = Cond.code y bytes maxL ret :: jm_W0) (hr : rmc.cells = mc ∧ rmc.slots = ms) (hR : rmc.frames + 1 ≤ rm.frames ∧ 8 + (maxL + 11) + rmc.locals ≤ rm.locals) (hn : As.length = n) (hst : st = As.reverse ++ rest) (hcat : (rest.map fun v => v.category).sum ≤ 8) (hd : decode cc pc = .ok (.invokestatic index, 3)) (hf : q.1 + mc ≤ rm.cells ∧ q.2 + ms ≤ rm.slots) (kk : ∀ (I' : jm_M) (z : Int), post I' z → jm_J E G (q.1 + mc, q.2 + ms) w I' (pc + 3) lv (jm_v z :: rest)) : jm_J E G q w I pc lv st :=
  jm_calli C (jm_runSN (host := host) C hM hne hok hw hr hR hn hst hcat hd hf) kk
theorem jm_cNv {mc ms maxL index n : Nat} {y : MethodName} {ws : List Cond} {rmc : Room} {bytes : ByteArray} {ret : Option FieldType} {As : List Value} (rest : List Value) {post : jm_M → Prop} (C : jm_C E G cc nL own rm) (hM : jm_Mv E y ws rmc mc ms w I (As) post) (host : String) (hne : (own, index, y, host) ∈ jm_nest) (hok : jm_okS host y bytes maxL ret n) (hw : ws = Cond.code y bytes maxL ret :: jm_W0) (hr : rmc.cells = mc ∧ rmc.slots = ms) (hR : rmc.frames + 1 ≤ rm.frames ∧ 8 + (maxL + 11) + rmc.locals ≤ rm.locals) (hn : As.length = n) (hst : st = As.reverse ++ rest) (hcat : (rest.map fun v => v.category).sum ≤ 8) (hd : decode cc pc = .ok (.invokestatic index, 3)) (hf : q.1 + mc ≤ rm.cells ∧ q.2 + ms ≤ rm.slots) (kk : ∀ (I' : jm_M), post I' → jm_J E G (q.1 + mc, q.2 + ms) w I' (pc + 3) lv rest) : jm_J E G q w I pc lv st :=
  jm_callv C (jm_runSN (host := host) C hM hne hok hw hr hR hn hst hcat hd hf) kk
theorem jm_cNr {mc ms maxL index n : Nat} {y : MethodName} {ws : List Cond} {rmc : Room} {bytes : ByteArray} {ret : Option FieldType} {As : List Value} (rest : List Value) {post : jm_M → Int → Prop} (C : jm_C E G cc nL own rm) (hM : jm_Mr E y ws rmc mc ms w I (As) post) (host : String) (hne : (own, index, y, host) ∈ jm_nest) (hok : jm_okS host y bytes maxL ret n) (hw : ws = Cond.code y bytes maxL ret :: jm_W0) (hr : rmc.cells = mc ∧ rmc.slots = ms) (hR : rmc.frames + 1 ≤ rm.frames ∧ 8 + (maxL + 11) + rmc.locals ≤ rm.locals) (hn : As.length = n) (hst : st = As.reverse ++ rest) (hcat : (rest.map fun v => v.category).sum ≤ 8) (hd : decode cc pc = .ok (.invokestatic index, 3)) (hf : q.1 + mc ≤ rm.cells ∧ q.2 + ms ≤ rm.slots) (kk : ∀ (I' : jm_M) (z : Int), post I' z → jm_J E G (q.1 + mc, q.2 + ms) w I' (pc + 3) lv (.ref (w.2.1 z) :: rest)) : jm_J E G q w I pc lv st :=
  jm_callr C (jm_runSN (host := host) C hM hne hok hw hr hR hn hst hcat hd hf) kk
theorem jm_cNd {maxL index n : Nat} {y : MethodName} {ws : List Cond} {rmc : Room} {bytes : ByteArray} {ret : Option FieldType} {As : List Value} (rest : List Value) {g : jm_M} {post : Int → Prop} (C : jm_C E G cc nL own rm) (hM : jm_Mi E y ws rmc 0 0 w I (As) (fun I' z => I' = g ∧ post z)) (host : String) (hne : (own, index, y, host) ∈ jm_nest) (hok : jm_okS host y bytes maxL ret n) (hw : ws = Cond.code y bytes maxL ret :: jm_W0) (hr : rmc.cells = 0 ∧ rmc.slots = 0) (hR : rmc.frames + 1 ≤ rm.frames ∧ 8 + (maxL + 11) + rmc.locals ≤ rm.locals) (hn : As.length = n) (hst : st = As.reverse ++ rest) (hcat : (rest.map fun v => v.category).sum ≤ 8) (hd : decode cc pc = .ok (.invokestatic index, 3)) (hf : q.1 + 0 ≤ rm.cells ∧ q.2 + 0 ≤ rm.slots) (kk : ∀ (z : Int), post z → jm_J E G q w g (pc + 3) lv (jm_v z :: rest)) : jm_J E G q w I pc lv st :=
  jm_calli (post := fun I' z => I' = g ∧ post z) C (jm_runSN (host := host) C hM hne hok hw hr hR hn hst hcat hd hf) (fun I' z h => by obtain ⟨rfl, h⟩ := h; exact kk z h)
theorem jm_cNu {maxL index n : Nat} {y : MethodName} {ws : List Cond} {rmc : Room} {bytes : ByteArray} {ret : Option FieldType} {As : List Value} (rest : List Value) {g : jm_M} (C : jm_C E G cc nL own rm) (hM : jm_Mv E y ws rmc 0 0 w I (As) (fun I' => I' = g)) (host : String) (hne : (own, index, y, host) ∈ jm_nest) (hok : jm_okS host y bytes maxL ret n) (hw : ws = Cond.code y bytes maxL ret :: jm_W0) (hr : rmc.cells = 0 ∧ rmc.slots = 0) (hR : rmc.frames + 1 ≤ rm.frames ∧ 8 + (maxL + 11) + rmc.locals ≤ rm.locals) (hn : As.length = n) (hst : st = As.reverse ++ rest) (hcat : (rest.map fun v => v.category).sum ≤ 8) (hd : decode cc pc = .ok (.invokestatic index, 3)) (hf : q.1 + 0 ≤ rm.cells ∧ q.2 + 0 ≤ rm.slots) (kk : jm_J E G q w g (pc + 3) lv rest) : jm_J E G q w I pc lv st :=
  jm_callv C (jm_runSN (host := host) C hM hne hok hw hr hR hn hst hcat hd hf) (fun I' h => by subst h; exact kk)
theorem jm_cNrd {maxL index n : Nat} {y : MethodName} {ws : List Cond} {rmc : Room} {bytes : ByteArray} {ret : Option FieldType} {As : List Value} (rest : List Value) {g : jm_M} {kr : Int} (C : jm_C E G cc nL own rm) (hM : jm_Mr E y ws rmc 0 0 w I (As) (fun I' z => I' = g ∧ z = kr)) (host : String) (hne : (own, index, y, host) ∈ jm_nest) (hok : jm_okS host y bytes maxL ret n) (hw : ws = Cond.code y bytes maxL ret :: jm_W0) (hr : rmc.cells = 0 ∧ rmc.slots = 0) (hR : rmc.frames + 1 ≤ rm.frames ∧ 8 + (maxL + 11) + rmc.locals ≤ rm.locals) (hn : As.length = n) (hst : st = As.reverse ++ rest) (hcat : (rest.map fun v => v.category).sum ≤ 8) (hd : decode cc pc = .ok (.invokestatic index, 3)) (hf : q.1 + 0 ≤ rm.cells ∧ q.2 + 0 ≤ rm.slots) (kk : jm_J E G q w g (pc + 3) lv (.ref (w.2.1 kr) :: rest)) : jm_J E G q w I pc lv st :=
  jm_callr (post := fun I' z => I' = g ∧ z = kr) C (jm_runSN (host := host) C hM hne hok hw hr hR hn hst hcat hd hf) (fun I' z h => by obtain ⟨rfl, rfl⟩ := h; exact kk)
end JC
end
section
/-! WHAT THE METHODS ANSWER, as functions of whole numbers; which node is what -/
def jm_X3 (E : jm_E) (w : jm_W) (k : Int) : Prop := k ∈ w.1 ∧ w.2.2 k = jm_O 3 [some (.ref (w.2.1 (k + 100)))] ∧ (k + 100) ∈ w.1 ∧ w.2.2 (k + 100) = jm_Ia (E.2.2 0) 6
def jm_X1 (E : jm_E) (w : jm_W) (k : Int) : Prop := k ∈ w.1 ∧ w.2.2 k = jm_O 1 [some (.ref (w.2.1 (k + 100))), none, none] ∧ (k + 100) ∈ w.1 ∧ w.2.2 (k + 100) = jm_Ia (E.2.2 0) 549
def jm_X4 (E : jm_E) (w : jm_W) (k : Int) : Prop := k ∈ w.1 ∧ w.2.2 k = jm_O 4 [none, none, none]
def jm_X0 (E : jm_E) (w : jm_W) (k : Int) : Prop := k ∈ w.1 ∧ w.2.2 k = jm_O 0 [none, none, none, some (.ref (w.2.1 (k + 100))), none, none, none, none, none, none, none, none, none] ∧ jm_X3 E w (k + 100)
def jm_X2 (E : jm_E) (w : jm_W) (k : Int) : Prop := k ∈ w.1 ∧ w.2.2 k = jm_O 2 [some (.ref (w.2.1 (k + 100))), none, none, none, none, none, none, none, none, none] ∧ jm_X3 E w (k + 100)
theorem jm_up_s (I : jm_M) (k j v : Int) : jm_up I k j v k j = v := by simp [jm_up]
theorem jm_up_n {I : jm_M} {k j v a b : Int} (h : a ≠ k ∨ b ≠ j) : jm_up I k j v a b = I a b := by
  unfold jm_up
  rw [if_neg]
  rintro ⟨h1, h2⟩
  rcases h with h | h
  · exact h h1
  · exact h h2
def hk_at (f : Int → Int) (n : Int) : Int := if 0 ≤ n ∧ n < 6 then f n else -1
def hk_dist (p : Int) : Int := if p < 0 then 30 else hk_mn (2 * hk_ab (p.tdiv 100 - 4) + hk_ab (p.tmod 100 - 50)) 30
theorem hk_ab_r (z : Int) : 0 ≤ hk_ab z := by unfold hk_ab; split <;> omega
theorem hk_dist_r (p : Int) : 0 ≤ hk_dist p ∧ hk_dist p ≤ 30 := by
  unfold hk_dist hk_mn
  have h1 := hk_ab_r (p.tdiv 100 - 4)
  have h2 := hk_ab_r (p.tmod 100 - 50)
  split
  · omega
  · split <;> omega
def hk_near (f : Int → Int) (s : Int) : Nat → Int
  | 0 => 11
  | n + 1 => hk_mn (hk_near f s n) (hk_dist (hk_at f (s + n)))
def hk_cntn (f : Int → Int) (s lim : Int) : Nat → Int
  | 0 => 0
  | n + 1 => if hk_dist (hk_at f (s + n)) < lim then hk_cntn f s lim n + 1 else hk_cntn f s lim n
theorem hk_near_r (f : Int → Int) (s : Int) : ∀ n, 0 ≤ hk_near f s n ∧ hk_near f s n ≤ 11
  | 0 => ⟨by unfold hk_near; omega, by unfold hk_near; omega⟩
  | n + 1 => by
    have h1 := hk_near_r f s n
    have h2 := hk_dist_r (hk_at f (s + n))
    unfold hk_near hk_mn
    split <;> omega
theorem hk_cntn_r (f : Int → Int) (s lim : Int) : ∀ n, 0 ≤ hk_cntn f s lim n ∧ hk_cntn f s lim n ≤ n
  | 0 => ⟨by unfold hk_cntn; omega, by unfold hk_cntn; omega⟩
  | n + 1 => by
    have h1 := hk_cntn_r f s lim n
    unfold hk_cntn
    split <;> omega
def hk_score (f : Int → Int) : Int := if hk_near f 0 3 < hk_near f 3 3 then hk_cntn f 0 (hk_near f 3 3) 3 else if hk_near f 3 3 < hk_near f 0 3 then -hk_cntn f 3 (hk_near f 0 3) 3 else 0
def hk_onet (f : Int → Int) (i : Int) : Int := if hk_dist (hk_at f i) ≤ 10 ∧ hk_cntn f (if i < 3 then 3 else 0) (hk_dist (hk_at f i) + 1) 3 = 0 then (if i < 3 then 1 else -1) else 0
def hk_one (f : Int → Int) : Nat → Int
  | 0 => 0
  | n + 1 => hk_one f n + hk_onet f n
def hk_first (f : Int → Int) (p : Int) : Nat → Int → Int
  | 0, _ => -1
  | n + 1, i => if f i = p then i else hk_first f p n (i + 1)
def hk_lie (f : Int → Int) (lane y : Int) : Int := if y < 30 then -1 else hk_first f (100 * lane + y) 6 0
def hk_sum (f : Int → Int) : Nat → Int
  | 0 => 0
  | n + 1 => hk_sum f n + f n
def hk_shot (lane weight turn lo hi : Int) : Prop := 0 ≤ lane ∧ lane ≤ 8 ∧ 1 ≤ weight ∧ weight ≤ 100 ∧ (turn = -1 ∨ turn = 1) ∧ 0 ≤ lo ∧ lo ≤ 60 ∧ 0 ≤ hi ∧ hi ≤ 60
/-- a row's first n places set -/
def hk_fill (I : jm_M) (k : Int) (n : Int) (g : Int → Int) : jm_M := fun a b => if a = k ∧ 0 ≤ b ∧ b < n then g b else I a b
theorem hk_fill_0 (I : jm_M) (k : Int) (g : Int → Int) : hk_fill I k 0 g = I := by
  funext a b
  unfold hk_fill
  rw [if_neg]
  omega
theorem hk_fill_i {I : jm_M} {k n b : Int} {g : Int → Int} (h : 0 ≤ b ∧ b < n) : hk_fill I k n g k b = g b := by unfold hk_fill; rw [if_pos ⟨rfl, h⟩]
theorem hk_fill_o {I : jm_M} {k n a b : Int} {g : Int → Int} (h : a ≠ k ∨ ¬ (0 ≤ b ∧ b < n)) : hk_fill I k n g a b = I a b := by
  unfold hk_fill
  rw [if_neg]
  rintro ⟨h1, h2⟩
  rcases h with h | h
  · exact h h1
  · exact h h2
theorem hk_fill_f {I : jm_M} {k n a : Int} {g : Int → Int} (h : a ≠ k) : hk_fill I k n g a = I a := by funext b; exact hk_fill_o (Or.inl h)
theorem hk_fill_s (I : jm_M) (k : Int) (n : Nat) (g : Int → Int) : jm_up (hk_fill I k n g) k n (g n) = hk_fill I k ((n + 1 : Nat) : Int) g := by
  funext a b
  by_cases h1 : a = k
  · subst h1
    by_cases h2 : b = n
    · subst h2
      rw [jm_up_s, hk_fill_i (by omega)]
    · rw [jm_up_n (Or.inr h2)]
      by_cases h3 : 0 ≤ b ∧ b < n
      · rw [hk_fill_i h3, hk_fill_i (by omega)]
      · rw [hk_fill_o (Or.inr h3), hk_fill_o (Or.inr (by omega))]
  · rw [jm_up_n (Or.inl h1), hk_fill_o (Or.inl h1), hk_fill_o (Or.inl h1)]
theorem hk_fill_R {I : jm_M} {k n : Int} {g : Int → Int} (hI : ∀ a b, jm_R (I a b)) (hg : ∀ b, jm_R (g b)) : ∀ a b, jm_R (hk_fill I k n g a b) := fun a b => by
  unfold hk_fill
  split
  · exact hg b
  · exact hI a b
theorem hk_div (p : Int) (h : 0 ≤ p) : p.tdiv 100 = p / 100 ∧ p.tmod 100 = p % 100 := ⟨Int.tdiv_eq_ediv_of_nonneg h, Int.tmod_eq_emod_of_nonneg h⟩
theorem hk_at_R {I : jm_M} (hI : ∀ a b, jm_R (I a b)) (k n : Int) : jm_R (hk_at (I k) n) := by
  unfold hk_at
  split
  · exact hI k n
  · decide
theorem hk_copy (I : jm_M) (k k2 : Int) (m : Nat) (hm : m < 6) : hk_at (hk_fill I k m (I k2) k2) m = I k2 m := by
  unfold hk_at hk_fill
  rw [if_pos (by omega)]
  split <;> rfl
theorem jm_n_isWithin : (RX2, 79, yX5_isWithin, RX5) ∈ jm_nest := List.mem_of_getElem? (i := 3) rfl
theorem jm_n_distanceOf : (RX3, 29, yX5_distanceOf, RX5) ∈ jm_nest := List.mem_of_getElem? (i := 4) rfl
/-- the slide at k in motion: lane, y, energy, steps, hit -/
def hk_sl (I : jm_M) (k ln y en sp ht : Int) : jm_M := fun a b => if a = k then (if b = 2 then ln else if b = 3 then y else if b = 4 then en else if b = 8 then sp else if b = 9 then ht else I a b) else I a b
theorem hk_sl_g2 (I : jm_M) (k ln y en sp ht : Int) : hk_sl I k ln y en sp ht k 2 = ln := by simp [hk_sl]
theorem hk_sl_g3 (I : jm_M) (k ln y en sp ht : Int) : hk_sl I k ln y en sp ht k 3 = y := by simp [hk_sl]
theorem hk_sl_g4 (I : jm_M) (k ln y en sp ht : Int) : hk_sl I k ln y en sp ht k 4 = en := by simp [hk_sl]
theorem hk_sl_g8 (I : jm_M) (k ln y en sp ht : Int) : hk_sl I k ln y en sp ht k 8 = sp := by simp [hk_sl]
theorem hk_sl_g9 (I : jm_M) (k ln y en sp ht : Int) : hk_sl I k ln y en sp ht k 9 = ht := by simp [hk_sl]
theorem hk_sl_gk (I : jm_M) (k ln y en sp ht b : Int) (h : b ≠ 2 ∧ b ≠ 3 ∧ b ≠ 4 ∧ b ≠ 8 ∧ b ≠ 9) : hk_sl I k ln y en sp ht k b = I k b := by simp [hk_sl, h]
theorem hk_sl_go (I : jm_M) (k ln y en sp ht a b : Int) (h : a ≠ k) : hk_sl I k ln y en sp ht a b = I a b := by simp [hk_sl, h]
theorem hk_sl_f (I : jm_M) (k ln y en sp ht : Int) {a : Int} (h : a ≠ k) : hk_sl I k ln y en sp ht a = I a := by funext b; exact hk_sl_go I k ln y en sp ht a b h
theorem hk_sl_u2 (I : jm_M) (k ln y en sp ht v : Int) : jm_up (hk_sl I k ln y en sp ht) k 2 v = hk_sl I k v y en sp ht := by
  funext a b; unfold jm_up hk_sl; by_cases h1 : a = k <;> by_cases h2 : b = 2 <;> simp [h1, h2]
theorem hk_sl_u3 (I : jm_M) (k ln y en sp ht v : Int) : jm_up (hk_sl I k ln y en sp ht) k 3 v = hk_sl I k ln v en sp ht := by
  funext a b; unfold jm_up hk_sl; by_cases h1 : a = k <;> by_cases h2 : b = 3 <;> simp [h1, h2]
theorem hk_sl_u4 (I : jm_M) (k ln y en sp ht v : Int) : jm_up (hk_sl I k ln y en sp ht) k 4 v = hk_sl I k ln y v sp ht := by
  funext a b; unfold jm_up hk_sl; by_cases h1 : a = k <;> by_cases h2 : b = 4 <;> simp [h1, h2]
theorem hk_sl_u8 (I : jm_M) (k ln y en sp ht v : Int) : jm_up (hk_sl I k ln y en sp ht) k 8 v = hk_sl I k ln y en v ht := by
  funext a b; unfold jm_up hk_sl; by_cases h1 : a = k <;> by_cases h2 : b = 8 <;> simp [h1, h2]
theorem hk_sl_u9 (I : jm_M) (k ln y en sp ht v : Int) : jm_up (hk_sl I k ln y en sp ht) k 9 v = hk_sl I k ln y en sp v := by
  funext a b; unfold jm_up hk_sl; by_cases h1 : a = k <;> by_cases h2 : b = 9 <;> simp [h1, h2]
theorem hk_sl_uo (I : jm_M) (k ln y en sp ht a b v : Int) (h : a ≠ k) : jm_up (hk_sl I k ln y en sp ht) a b v = hk_sl (jm_up I a b v) k ln y en sp ht := by
  funext x z; unfold jm_up hk_sl; by_cases h1 : x = k
  · have h2 : ¬ (x = a ∧ z = b) := fun q => h (q.1.symm.trans h1)
    have h3 : ¬ k = a := fun q => h q.symm
    simp [h1, h3]
  · simp [h1]
theorem hk_sl_self (I : jm_M) (k : Int) : hk_sl I k (I k 2) (I k 3) (I k 4) (I k 8) (I k 9) = I := by
  funext a b; unfold hk_sl; by_cases h : a = k
  · subst h; simp only [if_true]; split
    · rename_i h; rw [h]
    · split
      · rename_i h; rw [h]
      · split
        · rename_i h; rw [h]
        · split
          · rename_i h; rw [h]
          · split
            · rename_i h; rw [h]
            · rfl
  · rw [if_neg h]
def hk_cst (W : Int → Int) (lo hi ln y : Int) : Int := 10 + W (ln * 61 + y) - (if lo ≤ y ∧ y ≤ hi then 3 else 0)
def hk_wr (I : jm_M) (k ks c : Int) : jm_M := if I k 1 ≠ 0 ∧ I (ks + 100) c < 9 then jm_up I (ks + 100) c (I (ks + 100) c + 1) else I
theorem hk_first_r (f : Int → Int) (p : Int) : ∀ (n : Nat) (i : Int), hk_first f p n i = -1 ∨ (i ≤ hk_first f p n i ∧ hk_first f p n i < i + n)
  | 0, _ => Or.inl rfl
  | n + 1, i => by
    have ih := hk_first_r f p n (i + 1)
    unfold hk_first
    split
    · right; omega
    · rcases ih with h | h
      · exact Or.inl h
      · right; omega
theorem hk_lie_r (f : Int → Int) (lane y : Int) : -1 ≤ hk_lie f lane y ∧ hk_lie f lane y < 6 := by
  have h := hk_first_r f (100 * lane + y) 6 0
  unfold hk_lie
  split <;> omega
def hk_rest (ln y : Int) : Int := if y < 30 then -1 else 100 * ln + y
def hk_nside (st th la : Int) : Int := if st = 1 then th else if st = 2 then (if th.tmod 2 = 0 then 1 - la else la) else -1
def hk_draw (I : jm_M) (k d : Int) : jm_M := if I k 11 = 0 then jm_up (jm_up I k 7 d) k 11 1 else jm_up (jm_up (jm_up I k 12 (if I k 7 < d then 0 else 1)) k 11 0) k 5 2
def hk_close (I : jm_M) (k : Int) : jm_M :=
  let sc := hk_score (I (k + 100 + 100))
  let I1 := if 0 < sc then jm_up (jm_up I k 8 (I k 8 + sc)) k 12 1 else if sc < 0 then jm_up (jm_up I k 9 (I k 9 - sc)) k 12 0 else I
  jm_up (jm_up (hk_fill I1 (k + 100 + 100) 6 (fun _ => -1)) k 11 0) k 10 (I k 10 + 1)
theorem hk_wr_n {I : jm_M} {k ks a b c d e lh : Int} (h1 : I k 1 = 0) (hl : lh = -1) : hk_sl I k a b c d lh = hk_sl (hk_wr I k ks e) k a b c d (-1) := by
  unfold hk_wr
  rw [if_neg (fun q => q.1 h1), hl]
theorem hk_wr_y {I : jm_M} {k ks a b c d e lh : Int} (h1 : I k 1 ≠ 0) (hn : ks + 100 ≠ k) (hl : lh = -1) : (if (hk_sl I k a b c d lh) (ks + 100) e < 9 then jm_up (hk_sl I k a b c d lh) (ks + 100) e ((hk_sl I k a b c d lh) (ks + 100) e + 1) else hk_sl I k a b c d lh) = hk_sl (hk_wr I k ks e) k a b c d (-1) := by
  unfold hk_wr
  rw [hk_sl_go _ _ _ _ _ _ _ _ _ hn, hl]
  by_cases h : I (ks + 100) e < 9
  · rw [if_pos h, if_pos ⟨h1, h⟩, hk_sl_uo _ _ _ _ _ _ _ _ _ _ hn]
  · rw [if_neg h, if_neg (fun q => h q.2)]
theorem hk_score_r (f : Int → Int) : -3 ≤ hk_score f ∧ hk_score f ≤ 3 := by
  unfold hk_score
  have h1 := hk_cntn_r f 0 (hk_near f 3 3) 3
  have h2 := hk_cntn_r f 3 (hk_near f 0 3) 3
  split
  · omega
  · split <;> omega
-- a stone on its way: what the wear is then, where it stays, whom it hits, with how much
def hk_wW (W : Int → Int) (c : Int) : Int → Int := fun b => if b = c ∧ W c < 9 then W c + 1 else W b
def hk_T (L : Int → Int → Int) (tn lo hi : Int) : Nat → (Int → Int) → Int → Int → Int → Int → (Int → Int) × Int × Int × Int
  | 0, W, _, _, _, _ => (W, -1, -1, 0)
  | n + 1, W, x, y, en, sp =>
    if en < hk_cst W lo hi x (y + 1) then (W, hk_rest x y, -1, 0)
    else if L x (y + 1) ≠ -1 then (W, hk_rest x y, L x (y + 1), (en * 3).tdiv 4)
    else if 60 ≤ y + 1 then (hk_wW W (x * 61 + (y + 1)), -1, -1, 0)
    else if tn = 0 ∨ (lo ≤ y + 1 ∧ y + 1 ≤ hi) then hk_T L tn lo hi n (hk_wW W (x * 61 + (y + 1))) x (y + 1) (en - hk_cst W lo hi x (y + 1)) sp
    else if 12 ≤ sp + 1 ∨ (en - hk_cst W lo hi x (y + 1) < 300 ∧ 6 ≤ sp + 1) then
      if ¬ (0 ≤ x + tn ∧ x + tn ≤ 8) then (hk_wW W (x * 61 + (y + 1)), -1, -1, 0)
      else if L (x + tn) (y + 1) ≠ -1 then (hk_wW W (x * 61 + (y + 1)), hk_rest x (y + 1), L (x + tn) (y + 1), (en - hk_cst W lo hi x (y + 1)).tdiv 2)
      else hk_T L tn lo hi n (hk_wW W (x * 61 + (y + 1))) (x + tn) (y + 1) (en - hk_cst W lo hi x (y + 1)) 0
    else hk_T L tn lo hi n (hk_wW W (x * 61 + (y + 1))) x (y + 1) (en - hk_cst W lo hi x (y + 1)) (sp + 1)
def hk_agr (U W : Int → Int) (y : Int) : Prop := ∀ x' y', 0 ≤ x' → x' ≤ 8 → y < y' → y' ≤ 60 → U (x' * 61 + y') = W (x' * 61 + y')
def hk_rel (I : jm_M) (k ks : Int) (Iv : jm_M) (W : Int → Int) : Prop := (∀ a, a ≠ ks + 100 → Iv a = I a) ∧ (∀ b, 0 ≤ Iv (ks + 100) b ∧ Iv (ks + 100) b ≤ 9) ∧ (I k 1 ≠ 0 → Iv (ks + 100) = W) ∧ (I k 1 = 0 → Iv (ks + 100) = I (ks + 100))
def hk_gpost (I : jm_M) (k ks : Int) (R : (Int → Int) × Int × Int × Int) (I' : jm_M) (z : Int) : Prop := ∃ (Iv : jm_M) (ln y en sp : Int), I' = hk_sl Iv k ln y en sp R.2.2.1 ∧ z = R.2.1 ∧ (R.2.2.1 ≠ -1 → en = R.2.2.2) ∧ hk_rel I k ks Iv R.1
theorem hk_gp {I : jm_M} {k ks : Int} {R : (Int → Int) × Int × Int × Int} {Iv : jm_M} {W : Int → Int} {ln y en sp p ht gv : Int} (hR : (W, p, ht, gv) = R) (hg : ht ≠ -1 → en = gv) (h : hk_rel I k ks Iv W) : hk_gpost I k ks R (hk_sl Iv k ln y en sp ht) p := by
  subst hR
  exact ⟨Iv, ln, y, en, sp, rfl, rfl, hg, h⟩
theorem hk_wr_o {Iv : jm_M} {k ks c a : Int} (h : a ≠ ks + 100) : hk_wr Iv k ks c a = Iv a := by
  funext b
  unfold hk_wr
  split
  · rw [jm_up_n (Or.inl h)]
  · rfl
theorem hk_wr_s {Iv : jm_M} {k ks c : Int} : hk_wr Iv k ks c (ks + 100) = if Iv k 1 ≠ 0 then hk_wW (Iv (ks + 100)) c else Iv (ks + 100) := by
  funext b
  unfold hk_wr hk_wW
  by_cases h1 : Iv k 1 ≠ 0
  · rw [if_pos h1]
    by_cases h2 : Iv (ks + 100) c < 9
    · rw [if_pos ⟨h1, h2⟩]
      by_cases h3 : b = c
      · subst h3; rw [jm_up_s, if_pos ⟨rfl, h2⟩]
      · rw [jm_up_n (Or.inr h3), if_neg (fun q => h3 q.1)]
    · rw [if_neg (fun q => h2 q.2), if_neg (fun q => h2 q.2)]
  · rw [if_neg h1, if_neg (fun q => h1 q.1)]
theorem hk_rel_wr {I Iv : jm_M} {k ks c : Int} {W : Int → Int} (h : hk_rel I k ks Iv W) (hne : k ≠ ks + 100) : hk_rel I k ks (hk_wr Iv k ks c) (hk_wW W c) := by
  obtain ⟨h1, h2, h3, h4⟩ := h
  have hk1 : Iv k 1 = I k 1 := by rw [h1 k hne]
  refine ⟨fun a ha => (hk_wr_o ha).trans (h1 a ha), fun b => ?_, fun hw => ?_, fun hw => ?_⟩
  · rw [hk_wr_s]
    split
    · unfold hk_wW
      have hb := h2 b
      have hc := h2 c
      split <;> omega
    · exact h2 b
  · rw [hk_wr_s, if_pos (by rw [hk1]; exact hw), h3 hw]
  · rw [hk_wr_s, if_neg (by rw [hk1]; exact fun q => q hw), h4 hw]
theorem hk_agr_wr {Iv : jm_M} {k ks ln y : Int} {W : Int → Int} (h : hk_agr (Iv (ks + 100)) W y) (hl : 0 ≤ ln ∧ ln ≤ 8) (hy : 0 ≤ y ∧ y ≤ 59) : hk_agr ((hk_wr Iv k ks (ln * 61 + (y + 1))) (ks + 100)) (hk_wW W (ln * 61 + (y + 1))) (y + 1) := by
  intro x' y' hx hx2 hy1 hy2
  have h0 := h x' y' hx hx2 (by omega) hy2
  have hne : ¬ x' * 61 + y' = ln * 61 + (y + 1) := by omega
  have e2 : hk_wW W (ln * 61 + (y + 1)) (x' * 61 + y') = W (x' * 61 + y') := by unfold hk_wW; rw [if_neg (fun q => hne q.1)]
  rw [hk_wr_s, e2, ← h0]
  split
  · unfold hk_wW; rw [if_neg (fun q => hne q.1)]
  · rfl
theorem hk_cst_e {U W : Int → Int} {lo hi ln y : Int} (h : U (ln * 61 + y) = W (ln * 61 + y)) : hk_cst U lo hi ln y = hk_cst W lo hi ln y := by unfold hk_cst; rw [h]
theorem hk_cst_r {W : Int → Int} {lo hi ln y : Int} (h : 0 ≤ W (ln * 61 + y) ∧ W (ln * 61 + y) ≤ 9) : 7 ≤ hk_cst W lo hi ln y ∧ hk_cst W lo hi ln y ≤ 19 := by unfold hk_cst; split <;> omega
theorem hk_onet_no {f : Int → Int} {i z : Int} (hz : z = if i < 3 then 3 else 0) (h : 10 < hk_dist (hk_at f i) ∨ ¬ hk_cntn f z (hk_dist (hk_at f i) + 1) 3 = 0) : hk_onet f i = 0 := by
  unfold hk_onet
  rw [← hz, if_neg]
  rintro ⟨h1, h2⟩
  rcases h with h | h
  · omega
  · exact h h2
theorem hk_onet_yes {f : Int → Int} {i z v : Int} (hz : z = if i < 3 then 3 else 0) (h1 : ¬ 10 < hk_dist (hk_at f i)) (h2 : hk_cntn f z (hk_dist (hk_at f i) + 1) 3 = 0) (hv : v = if i < 3 then 1 else -1) : hk_onet f i = v := by
  unfold hk_onet
  rw [← hz, if_pos ⟨by omega, h2⟩, hv]
abbrev rmX0_init : Room := { frames := 3, cells := 0, slots := 0, locals := 61 }
abbrev rmX3_init : Room := { frames := 2, cells := 0, slots := 0, locals := 41 }
abbrev rmX3_takeAway : Room := { frames := 1, cells := 0, slots := 0, locals := 20 }
abbrev rmX0_isOnSheet : Room := { frames := 1, cells := 0, slots := 0, locals := 20 }
abbrev rmX0_nextSide : Room := { frames := 1, cells := 0, slots := 0, locals := 20 }
abbrev rmX0_nextStone : Room := { frames := 2, cells := 0, slots := 0, locals := 40 }
abbrev rmX0_takeDraw : Room := { frames := 1, cells := 0, slots := 0, locals := 20 }
abbrev rmX0_closeEnd : Room := { frames := 4, cells := 0, slots := 0, locals := 88 }
abbrev rmX3_score : Room := { frames := 3, cells := 0, slots := 0, locals := 66 }
abbrev rmX3_nearest : Room := { frames := 2, cells := 0, slots := 0, locals := 42 }
abbrev rmX3_placeOf : Room := { frames := 1, cells := 0, slots := 0, locals := 20 }
abbrev rmX5_distanceOf : Room := { frames := 1, cells := 0, slots := 0, locals := 20 }
abbrev rmX3_countNearer : Room := { frames := 2, cells := 0, slots := 0, locals := 42 }
abbrev rmX1_init : Room := { frames := 1, cells := 0, slots := 0, locals := 20 }
abbrev rmX1_isReady : Room := { frames := 1, cells := 0, slots := 0, locals := 20 }
abbrev rmX1_wornAt : Room := { frames := 1, cells := 0, slots := 0, locals := 20 }
abbrev rmX1_wearDown : Room := { frames := 1, cells := 0, slots := 0, locals := 20 }
abbrev rmX1_allWorn : Room := { frames := 1, cells := 0, slots := 0, locals := 20 }
abbrev rmX1_renew : Room := { frames := 1, cells := 0, slots := 0, locals := 20 }
abbrev rmX2_init : Room := { frames := 3, cells := 0, slots := 0, locals := 61 }
abbrev rmX2_aim : Room := { frames := 1, cells := 0, slots := 0, locals := 20 }
abbrev rmX2_run : Room := { frames := 5, cells := 0, slots := 0, locals := 108 }
abbrev rmX3_copyFrom : Room := { frames := 2, cells := 0, slots := 0, locals := 41 }
abbrev rmX2_glide : Room := { frames := 4, cells := 0, slots := 0, locals := 86 }
abbrev rmX2_stepsForward : Room := { frames := 3, cells := 0, slots := 0, locals := 63 }
abbrev rmX2_isSwept : Room := { frames := 2, cells := 0, slots := 0, locals := 42 }
abbrev rmX5_isWithin : Room := { frames := 1, cells := 0, slots := 0, locals := 20 }
abbrev rmX3_lyingAt : Room := { frames := 1, cells := 0, slots := 0, locals := 20 }
abbrev rmX2_restingPlace : Room := { frames := 1, cells := 0, slots := 0, locals := 20 }
abbrev rmX2_mustMoveAside : Room := { frames := 3, cells := 0, slots := 0, locals := 63 }
abbrev rmX2_movesAside : Room := { frames := 2, cells := 0, slots := 0, locals := 44 }
abbrev rmX3_put : Room := { frames := 1, cells := 0, slots := 0, locals := 20 }
abbrev rmX2_aimPushed : Room := { frames := 1, cells := 0, slots := 0, locals := 20 }
abbrev rmX3_scoreOneByOne : Room := { frames := 3, cells := 0, slots := 0, locals := 66 }
abbrev rmX4_init : Room := { frames := 1, cells := 0, slots := 0, locals := 20 }
abbrev rmX4_lastStonesPerGame : Room := { frames := 1, cells := 0, slots := 0, locals := 20 }
abbrev rmX5_init : Room := { frames := 4, cells := 0, slots := 0, locals := 81 }
abbrev rmX5_plan : Room := { frames := 8, cells := 0, slots := 0, locals := 140 }
abbrev rmX5_crew : Room := { frames := 8, cells := 0, slots := 0, locals := 140 }
abbrev rmX5_shoot : Room := { frames := 11, cells := 0, slots := 0, locals := 204 }
abbrev rmX5_gameOf : Room := { frames := 8, cells := 0, slots := 0, locals := 140 }
abbrev rmX5_isShot : Room := { frames := 2, cells := 0, slots := 0, locals := 42 }
abbrev rmX5_sheetOf : Room := { frames := 8, cells := 0, slots := 0, locals := 140 }
abbrev rmX5_settleDraw : Room := { frames := 9, cells := 0, slots := 0, locals := 162 }
abbrev rmX5_teamOf : Room := { frames := 8, cells := 0, slots := 0, locals := 140 }
abbrev rmX5_settleStone : Room := { frames := 10, cells := 0, slots := 0, locals := 183 }
abbrev rmX5_closeGame : Room := { frames := 9, cells := 0, slots := 0, locals := 162 }
abbrev rmX5_pass : Room := { frames := 11, cells := 0, slots := 0, locals := 208 }
abbrev rmX5_workAnHour : Room := { frames := 10, cells := 0, slots := 0, locals := 187 }
abbrev rmX5_sheetToMake : Room := { frames := 9, cells := 0, slots := 0, locals := 162 }
abbrev rmX5_leastHourWished : Room := { frames := 1, cells := 0, slots := 0, locals := 20 }
abbrev rmX5_beginGames : Room := { frames := 10, cells := 0, slots := 0, locals := 184 }
abbrev rmX5_sheetToPlay : Room := { frames := 9, cells := 0, slots := 0, locals := 162 }
abbrev rmX5_hour : Room := { frames := 1, cells := 0, slots := 0, locals := 20 }
abbrev rmX5_ofSheet : Room := { frames := 9, cells := 0, slots := 0, locals := 162 }
abbrev rmX5_wear : Room := { frames := 9, cells := 0, slots := 0, locals := 162 }
abbrev rmX5_isCell : Room := { frames := 2, cells := 0, slots := 0, locals := 42 }
abbrev rmX5_ofGame : Room := { frames := 9, cells := 0, slots := 0, locals := 162 }
abbrev rmX5_stone : Room := { frames := 9, cells := 0, slots := 0, locals := 162 }
abbrev rmX5_wouldScore : Room := { frames := 9, cells := 0, slots := 0, locals := 162 }
abbrev rmX5_wouldScoreAnew : Room := { frames := 9, cells := 0, slots := 0, locals := 162 }
abbrev rmX5_tries : Room := { frames := 9, cells := 0, slots := 0, locals := 162 }
abbrev rmX5_advice : Room := { frames := 11, cells := 0, slots := 0, locals := 212 }
abbrev rmX5_worthOfShot : Room := { frames := 10, cells := 0, slots := 0, locals := 187 }
abbrev rmX5_worthOfTry : Room := { frames := 9, cells := 0, slots := 0, locals := 162 }
abbrev rmX5_standing : Room := { frames := 11, cells := 0, slots := 0, locals := 209 }
abbrev rmX5_teamsAheadOf : Room := { frames := 10, cells := 0, slots := 0, locals := 186 }
abbrev rmX5_isAhead : Room := { frames := 9, cells := 0, slots := 0, locals := 162 }
abbrev rmX5_ofTeam : Room := { frames := 9, cells := 0, slots := 0, locals := 162 }
abbrev rmX6_init : Room := { frames := 1, cells := 0, slots := 0, locals := 20 }
abbrev rmX6_thrown : Room := { frames := 1, cells := 0, slots := 0, locals := 20 }
abbrev rmX6_asked : Room := { frames := 1, cells := 0, slots := 0, locals := 20 }
abbrev rmX6_asked_ : Room := { frames := 1, cells := 0, slots := 0, locals := 20 }
abbrev rmX6_asked__ : Room := { frames := 1, cells := 0, slots := 0, locals := 20 }
abbrev rmX6_in : Room := { frames := 1, cells := 0, slots := 0, locals := 20 }
abbrev rmX6_isGame : Room := { frames := 2, cells := 0, slots := 0, locals := 42 }
abbrev rmX6_isTeam : Room := { frames := 2, cells := 0, slots := 0, locals := 42 }
abbrev rmX6_isSheet : Room := { frames := 2, cells := 0, slots := 0, locals := 42 }
abbrev rmX6_plan : Room := { frames := 3, cells := 0, slots := 0, locals := 62 }
abbrev rmX6_crew : Room := { frames := 2, cells := 0, slots := 0, locals := 42 }
abbrev rmX6_takesUp : Room := { frames := 1, cells := 0, slots := 0, locals := 20 }
abbrev rmX6_stoneAt : Room := { frames := 1, cells := 0, slots := 0, locals := 20 }
abbrev rmX6_goes : Room := { frames := 2, cells := 0, slots := 0, locals := 44 }
abbrev rmX6_distance : Room := { frames := 1, cells := 0, slots := 0, locals := 20 }
abbrev rmX6_scored : Room := { frames := 2, cells := 0, slots := 0, locals := 42 }
abbrev rmX6_turnOf : Room := { frames := 1, cells := 0, slots := 0, locals := 20 }
abbrev rmX6_slotOf : Room := { frames := 2, cells := 0, slots := 0, locals := 42 }
abbrev rmX6_isShot : Room := { frames := 2, cells := 0, slots := 0, locals := 42 }
abbrev rmX6_throwsAt : Room := { frames := 1, cells := 0, slots := 0, locals := 20 }
abbrev rmX6_ends : Room := { frames := 3, cells := 0, slots := 0, locals := 67 }
abbrev rmX6_shoot : Room := { frames := 4, cells := 0, slots := 0, locals := 90 }
abbrev rmX6_tries : Room := { frames := 3, cells := 0, slots := 0, locals := 87 }
abbrev rmX6_isFree : Room := { frames := 1, cells := 0, slots := 0, locals := 20 }
abbrev rmX6_wanted : Room := { frames := 2, cells := 0, slots := 0, locals := 41 }
abbrev rmX6_begins : Room := { frames := 2, cells := 0, slots := 0, locals := 41 }
abbrev rmX6_passes : Room := { frames := 3, cells := 0, slots := 0, locals := 66 }
abbrev rmX6_pass : Room := { frames := 4, cells := 0, slots := 0, locals := 87 }
abbrev rmX6_hour : Room := { frames := 1, cells := 0, slots := 0, locals := 20 }
abbrev rmX6_ofSheet : Room := { frames := 3, cells := 0, slots := 0, locals := 62 }
abbrev rmX6_wear : Room := { frames := 3, cells := 0, slots := 0, locals := 62 }
abbrev rmX6_ofGame : Room := { frames := 3, cells := 0, slots := 0, locals := 63 }
abbrev rmX6_stone : Room := { frames := 3, cells := 0, slots := 0, locals := 63 }
abbrev rmX6_scoreOf : Room := { frames := 3, cells := 0, slots := 0, locals := 67 }
abbrev rmX6_wouldScore : Room := { frames := 4, cells := 0, slots := 0, locals := 89 }
abbrev rmX6_wouldScoreAnew : Room := { frames := 4, cells := 0, slots := 0, locals := 89 }
abbrev rmX6_worth : Room := { frames := 3, cells := 0, slots := 0, locals := 87 }
abbrev rmX6_advice : Room := { frames := 4, cells := 0, slots := 0, locals := 111 }
abbrev rmX6_average : Room := { frames := 1, cells := 0, slots := 0, locals := 20 }
abbrev rmX6_standing : Room := { frames := 2, cells := 0, slots := 0, locals := 42 }
abbrev rmX6_ofTeam : Room := { frames := 3, cells := 0, slots := 0, locals := 62 }
abbrev rmJ9_abs_0f7a4 : Room := { frames := 1, cells := 0, slots := 0, locals := 20 }
abbrev rmJ9_min_7cf53 : Room := { frames := 1, cells := 0, slots := 0, locals := 20 }
abbrev rmL_plan : Room := { frames := 9, cells := 0, slots := 0, locals := 165 }
abbrev rmL_crew : Room := { frames := 9, cells := 0, slots := 0, locals := 162 }
abbrev rmL_shoot : Room := { frames := 12, cells := 0, slots := 0, locals := 232 }
abbrev rmL_pass : Room := { frames := 12, cells := 0, slots := 0, locals := 230 }
abbrev rmL_ofSheet : Room := { frames := 10, cells := 0, slots := 0, locals := 185 }
abbrev rmL_wear : Room := { frames := 10, cells := 0, slots := 0, locals := 186 }
abbrev rmL_ofGame : Room := { frames := 10, cells := 0, slots := 0, locals := 185 }
abbrev rmL_stone : Room := { frames := 10, cells := 0, slots := 0, locals := 186 }
abbrev rmL_wouldScore : Room := { frames := 10, cells := 0, slots := 0, locals := 183 }
abbrev rmL_wouldScoreAnew : Room := { frames := 10, cells := 0, slots := 0, locals := 183 }
abbrev rmL_tries : Room := { frames := 10, cells := 0, slots := 0, locals := 189 }
abbrev rmL_advice : Room := { frames := 12, cells := 0, slots := 0, locals := 240 }
abbrev rmL_standing : Room := { frames := 12, cells := 0, slots := 0, locals := 232 }
abbrev rmL_ofTeam : Room := { frames := 10, cells := 0, slots := 0, locals := 185 }
abbrev rmL_law : Room := { frames := 13, cells := 0, slots := 0, locals := 269 }
end
section
set_option maxRecDepth 100000 in
set_option maxHeartbeats 4000000 in
theorem kX5_isWithin (E : jm_E) (w : jm_W) (I : jm_M) (v lo hi : Int) (hv : jm_R v) (hlo : jm_R lo) (hhi : jm_R hi) : jm_Mi E yX5_isWithin wX5_isWithin rmX5_isWithin 0 0 w I [jm_v v, jm_v lo, jm_v hi] (fun I' z => I' = I ∧ ((lo ≤ v ∧ v ≤ hi ∧ z = 1) ∨ (¬ (lo ≤ v ∧ v ≤ hi) ∧ z = 0))) := by
  refine jm_in_i (cc := cX5_isWithin) (maxL := 3) (rt := .boolean) RX5 (by decide +kernel) rfl rfl (Nat.le_of_ble_eq_true rfl) (by simp [Value.category]) ?_
  intro G C hR hI
  refine jm_iload_n C dX5_isWithin_0 rfl ?_
  refine jm_iload_n C dX5_isWithin_1 rfl ?_
  refine jm_icmp_lt 14 C dX5_isWithin_2 rfl hv hlo (fun yc1 => ?_) (fun yc1 => ?_)
  · skip
    refine jm_iconst C dX5_isWithin_14 ?_
    exact hR _ _ _ _ dX5_isWithin_15 (jm_nz (by decide)) ⟨rfl, by omega⟩
  · skip
    refine jm_iload_n C dX5_isWithin_5 rfl ?_
    refine jm_iload_n C dX5_isWithin_6 rfl ?_
    refine jm_icmp_gt 14 C dX5_isWithin_7 rfl hv hhi (fun yc2 => ?_) (fun yc2 => ?_)
    · skip
      refine jm_iconst C dX5_isWithin_14 ?_
      exact hR _ _ _ _ dX5_isWithin_15 (jm_nz (by decide)) ⟨rfl, by omega⟩
    · skip
      refine jm_iconst C dX5_isWithin_10 ?_
      refine jm_goto 15 C dX5_isWithin_11 rfl ?_
      exact hR _ _ _ _ dX5_isWithin_15 (jm_nz (by decide)) ⟨rfl, by omega⟩
set_option maxRecDepth 100000 in
set_option maxHeartbeats 4000000 in
theorem kX5_isCell (E : jm_E) (w : jm_W) (I : jm_M) (lane y : Int) (hl : jm_R lane) (hy : jm_R y) : jm_Mi E yX5_isCell wX5_isCell rmX5_isCell 0 0 w I [jm_v lane, jm_v y] (fun I' z => I' = I ∧ (((0 ≤ lane ∧ lane ≤ 8 ∧ 0 ≤ y ∧ y ≤ 60) ∧ z = 1) ∨ (¬ (0 ≤ lane ∧ lane ≤ 8 ∧ 0 ≤ y ∧ y ≤ 60) ∧ z = 0))) := by
  refine jm_in_i (cc := cX5_isCell) (maxL := 2) (rt := .boolean) RX5 (by decide +kernel) rfl rfl (Nat.le_of_ble_eq_true rfl) (by simp [Value.category]) ?_
  intro G C hR hI
  refine jm_iload_n C dX5_isCell_0 rfl ?_
  refine jm_iconst C dX5_isCell_1 ?_
  refine jm_bipush C dX5_isCell_2 (by decide +kernel) ?_
  refine jm_cSd (n := 3) [] C (kX5_isWithin E w I _ _ _ hl (by decide) (by decide)) jw_m_RX5_43 okX5_isWithin rfl ⟨rfl, rfl⟩ ⟨Nat.le_of_ble_eq_true rfl, Nat.le_of_ble_eq_true rfl⟩ rfl rfl (Nat.le_of_ble_eq_true rfl) dX5_isCell_4 ⟨Nat.le_of_ble_eq_true rfl, Nat.le_of_ble_eq_true rfl⟩ (fun yz2 yh1 => ?_)
  refine jm_if_eq 24 C dX5_isCell_7 rfl (by omega) (fun yc3 => ?_) (fun yc3 => ?_)
  · skip
    refine jm_iconst C dX5_isCell_24 ?_
    exact hR _ _ _ _ dX5_isCell_25 (jm_nz (by decide)) ⟨rfl, by omega⟩
  · skip
    refine jm_iload_n C dX5_isCell_10 rfl ?_
    refine jm_iconst C dX5_isCell_11 ?_
    refine jm_bipush C dX5_isCell_12 (by decide +kernel) ?_
    refine jm_cSd (n := 3) [] C (kX5_isWithin E w I _ _ _ hy (by decide) (by decide)) jw_m_RX5_43 okX5_isWithin rfl ⟨rfl, rfl⟩ ⟨Nat.le_of_ble_eq_true rfl, Nat.le_of_ble_eq_true rfl⟩ rfl rfl (Nat.le_of_ble_eq_true rfl) dX5_isCell_14 ⟨Nat.le_of_ble_eq_true rfl, Nat.le_of_ble_eq_true rfl⟩ (fun yz5 yh4 => ?_)
    refine jm_if_eq 24 C dX5_isCell_17 rfl (by omega) (fun yc6 => ?_) (fun yc6 => ?_)
    · skip
      refine jm_iconst C dX5_isCell_24 ?_
      exact hR _ _ _ _ dX5_isCell_25 (jm_nz (by decide)) ⟨rfl, by omega⟩
    · skip
      refine jm_iconst C dX5_isCell_20 ?_
      refine jm_goto 25 C dX5_isCell_21 rfl ?_
      exact hR _ _ _ _ dX5_isCell_25 (jm_nz (by decide)) ⟨rfl, by omega⟩
set_option maxRecDepth 100000 in
set_option maxHeartbeats 4000000 in
theorem kX5_isShot (E : jm_E) (w : jm_W) (I : jm_M) (lane wt tn lo hi : Int) (h1 : jm_R lane) (h2 : jm_R wt) (h3 : jm_R tn) (h4 : jm_R lo) (h5 : jm_R hi) : jm_Mi E yX5_isShot wX5_isShot rmX5_isShot 0 0 w I [jm_v lane, jm_v wt, jm_v tn, jm_v lo, jm_v hi] (fun I' z => I' = I ∧ ((hk_shot lane wt tn lo hi ∧ z = 1) ∨ (¬ hk_shot lane wt tn lo hi ∧ z = 0))) := by
  refine jm_in_i (cc := cX5_isShot) (maxL := 5) (rt := .boolean) RX5 (by decide +kernel) rfl rfl (Nat.le_of_ble_eq_true rfl) (by simp [Value.category]) ?_
  intro G C hR hI
  refine jm_iload_n C dX5_isShot_0 rfl ?_
  refine jm_iconst C dX5_isShot_1 ?_
  refine jm_bipush C dX5_isShot_2 (by decide +kernel) ?_
  refine jm_cSd (n := 3) [] C (kX5_isWithin E w I _ _ _ h1 (by decide) (by decide)) jw_m_RX5_43 okX5_isWithin rfl ⟨rfl, rfl⟩ ⟨Nat.le_of_ble_eq_true rfl, Nat.le_of_ble_eq_true rfl⟩ rfl rfl (Nat.le_of_ble_eq_true rfl) dX5_isShot_4 ⟨Nat.le_of_ble_eq_true rfl, Nat.le_of_ble_eq_true rfl⟩ (fun yz2 yh1 => ?_)
  refine jm_if_eq 55 C dX5_isShot_7 rfl (by omega) (fun yc3 => ?_) (fun yc3 => ?_)
  · skip
    refine jm_iconst C dX5_isShot_55 ?_
    exact hR _ _ _ _ dX5_isShot_56 (jm_nz (by decide)) ⟨rfl, by unfold hk_shot; omega⟩
  · skip
    refine jm_iload_n C dX5_isShot_10 rfl ?_
    refine jm_iconst C dX5_isShot_11 ?_
    refine jm_bipush C dX5_isShot_12 (by decide +kernel) ?_
    refine jm_cSd (n := 3) [] C (kX5_isWithin E w I _ _ _ h2 (by decide) (by decide)) jw_m_RX5_43 okX5_isWithin rfl ⟨rfl, rfl⟩ ⟨Nat.le_of_ble_eq_true rfl, Nat.le_of_ble_eq_true rfl⟩ rfl rfl (Nat.le_of_ble_eq_true rfl) dX5_isShot_14 ⟨Nat.le_of_ble_eq_true rfl, Nat.le_of_ble_eq_true rfl⟩ (fun yz5 yh4 => ?_)
    refine jm_if_eq 55 C dX5_isShot_17 rfl (by omega) (fun yc6 => ?_) (fun yc6 => ?_)
    · skip
      refine jm_iconst C dX5_isShot_55 ?_
      exact hR _ _ _ _ dX5_isShot_56 (jm_nz (by decide)) ⟨rfl, by unfold hk_shot; omega⟩
    · skip
      refine jm_iload_n C dX5_isShot_20 rfl ?_
      refine jm_iconst C dX5_isShot_21 ?_
      refine jm_icmp_eq 30 C dX5_isShot_22 rfl h3 (by decide) (fun yc7 => ?_) (fun yc7 => ?_)
      · skip
        refine jm_iload_n C dX5_isShot_30 rfl ?_
        refine jm_iconst C dX5_isShot_31 ?_
        refine jm_bipush C dX5_isShot_32 (by decide +kernel) ?_
        refine jm_cSd (n := 3) [] C (kX5_isWithin E w I _ _ _ h4 (by decide) (by decide)) jw_m_RX5_43 okX5_isWithin rfl ⟨rfl, rfl⟩ ⟨Nat.le_of_ble_eq_true rfl, Nat.le_of_ble_eq_true rfl⟩ rfl rfl (Nat.le_of_ble_eq_true rfl) dX5_isShot_34 ⟨Nat.le_of_ble_eq_true rfl, Nat.le_of_ble_eq_true rfl⟩ (fun yz9 yh8 => ?_)
        refine jm_if_eq 55 C dX5_isShot_37 rfl (by omega) (fun yc10 => ?_) (fun yc10 => ?_)
        · skip
          refine jm_iconst C dX5_isShot_55 ?_
          exact hR _ _ _ _ dX5_isShot_56 (jm_nz (by decide)) ⟨rfl, by unfold hk_shot; omega⟩
        · skip
          refine jm_iload C dX5_isShot_40 rfl ?_
          refine jm_iconst C dX5_isShot_42 ?_
          refine jm_bipush C dX5_isShot_43 (by decide +kernel) ?_
          refine jm_cSd (n := 3) [] C (kX5_isWithin E w I _ _ _ h5 (by decide) (by decide)) jw_m_RX5_43 okX5_isWithin rfl ⟨rfl, rfl⟩ ⟨Nat.le_of_ble_eq_true rfl, Nat.le_of_ble_eq_true rfl⟩ rfl rfl (Nat.le_of_ble_eq_true rfl) dX5_isShot_45 ⟨Nat.le_of_ble_eq_true rfl, Nat.le_of_ble_eq_true rfl⟩ (fun yz12 yh11 => ?_)
          refine jm_if_eq 55 C dX5_isShot_48 rfl (by omega) (fun yc13 => ?_) (fun yc13 => ?_)
          · skip
            refine jm_iconst C dX5_isShot_55 ?_
            exact hR _ _ _ _ dX5_isShot_56 (jm_nz (by decide)) ⟨rfl, by unfold hk_shot; omega⟩
          · skip
            refine jm_iconst C dX5_isShot_51 ?_
            refine jm_goto 56 C dX5_isShot_52 rfl ?_
            exact hR _ _ _ _ dX5_isShot_56 (jm_nz (by decide)) ⟨rfl, by unfold hk_shot; omega⟩
      · skip
        refine jm_iload_n C dX5_isShot_25 rfl ?_
        refine jm_iconst C dX5_isShot_26 ?_
        refine jm_icmp_ne 55 C dX5_isShot_27 rfl h3 (by decide) (fun yc14 => ?_) (fun yc14 => ?_)
        · skip
          refine jm_iconst C dX5_isShot_55 ?_
          exact hR _ _ _ _ dX5_isShot_56 (jm_nz (by decide)) ⟨rfl, by unfold hk_shot; omega⟩
        · skip
          refine jm_iload_n C dX5_isShot_30 rfl ?_
          refine jm_iconst C dX5_isShot_31 ?_
          refine jm_bipush C dX5_isShot_32 (by decide +kernel) ?_
          refine jm_cSd (n := 3) [] C (kX5_isWithin E w I _ _ _ h4 (by decide) (by decide)) jw_m_RX5_43 okX5_isWithin rfl ⟨rfl, rfl⟩ ⟨Nat.le_of_ble_eq_true rfl, Nat.le_of_ble_eq_true rfl⟩ rfl rfl (Nat.le_of_ble_eq_true rfl) dX5_isShot_34 ⟨Nat.le_of_ble_eq_true rfl, Nat.le_of_ble_eq_true rfl⟩ (fun yz16 yh15 => ?_)
          refine jm_if_eq 55 C dX5_isShot_37 rfl (by omega) (fun yc17 => ?_) (fun yc17 => ?_)
          · skip
            refine jm_iconst C dX5_isShot_55 ?_
            exact hR _ _ _ _ dX5_isShot_56 (jm_nz (by decide)) ⟨rfl, by unfold hk_shot; omega⟩
          · skip
            refine jm_iload C dX5_isShot_40 rfl ?_
            refine jm_iconst C dX5_isShot_42 ?_
            refine jm_bipush C dX5_isShot_43 (by decide +kernel) ?_
            refine jm_cSd (n := 3) [] C (kX5_isWithin E w I _ _ _ h5 (by decide) (by decide)) jw_m_RX5_43 okX5_isWithin rfl ⟨rfl, rfl⟩ ⟨Nat.le_of_ble_eq_true rfl, Nat.le_of_ble_eq_true rfl⟩ rfl rfl (Nat.le_of_ble_eq_true rfl) dX5_isShot_45 ⟨Nat.le_of_ble_eq_true rfl, Nat.le_of_ble_eq_true rfl⟩ (fun yz19 yh18 => ?_)
            refine jm_if_eq 55 C dX5_isShot_48 rfl (by omega) (fun yc20 => ?_) (fun yc20 => ?_)
            · skip
              refine jm_iconst C dX5_isShot_55 ?_
              exact hR _ _ _ _ dX5_isShot_56 (jm_nz (by decide)) ⟨rfl, by unfold hk_shot; omega⟩
            · skip
              refine jm_iconst C dX5_isShot_51 ?_
              refine jm_goto 56 C dX5_isShot_52 rfl ?_
              exact hR _ _ _ _ dX5_isShot_56 (jm_nz (by decide)) ⟨rfl, by unfold hk_shot; omega⟩
set_option maxRecDepth 100000 in
set_option maxHeartbeats 4000000 in
theorem kX5_distanceOf (E : jm_E) (w : jm_W) (I : jm_M) (p : Int) (hp : jm_R p) : jm_Mi E yX5_distanceOf wX5_distanceOf rmX5_distanceOf 0 0 w I [jm_v p] (fun I' z => I' = I ∧ z = hk_dist p) := by
  refine jm_in_i (cc := cX5_distanceOf) (maxL := 3) (rt := .int) RX5 (by decide +kernel) rfl rfl (Nat.le_of_ble_eq_true rfl) (by simp [Value.category]) ?_
  intro G C hR hI
  refine jm_iload_n C dX5_distanceOf_0 rfl ?_
  refine jm_if_ge 7 C dX5_distanceOf_1 rfl hp (fun yc1 => ?_) (fun yc1 => ?_)
  · skip
    have hp0 : 0 ≤ p := by omega
    obtain ⟨hd1, hd2⟩ := hk_div p hp0
    have ha1 := hk_ab_r (p.tdiv 100 - 4)
    have ha2 := hk_ab_r (p.tmod 100 - 50)
    have hb1 : hk_ab (p.tdiv 100 - 4) ≤ 100000000 := by unfold hk_ab; split <;> omega
    have hb2 : hk_ab (p.tmod 100 - 50) ≤ 1000 := by unfold hk_ab; split <;> omega
    refine jm_iconst C dX5_distanceOf_7 ?_
    refine jm_iload_n C dX5_distanceOf_8 rfl ?_
    refine jm_bipush C dX5_distanceOf_9 (by decide +kernel) ?_
    refine jm_idiv C dX5_distanceOf_11 hp (by decide) (by decide) ?_
    refine jm_iconst C dX5_distanceOf_12 ?_
    refine jm_isub C dX5_distanceOf_13 ?_
    refine jm_abs C jw_m_RX5_222 jw_s_abs jw_n_Math jw_c_abs (Nat.le_of_ble_eq_true rfl) (Nat.le_of_ble_eq_true rfl) (Nat.le_of_ble_eq_true rfl) (Nat.le_of_ble_eq_true rfl) dX5_distanceOf_14 (by omega) ?_
    refine jm_imul C dX5_distanceOf_17 ?_
    refine jm_istore_n C dX5_distanceOf_18 (by decide) ?_
    refine jm_iload_n C dX5_distanceOf_19 rfl ?_
    refine jm_bipush C dX5_distanceOf_20 (by decide +kernel) ?_
    refine jm_irem C dX5_distanceOf_22 hp (by decide) (by decide) ?_
    refine jm_bipush C dX5_distanceOf_23 (by decide +kernel) ?_
    refine jm_isub C dX5_distanceOf_25 ?_
    refine jm_abs C jw_m_RX5_222 jw_s_abs jw_n_Math jw_c_abs (Nat.le_of_ble_eq_true rfl) (Nat.le_of_ble_eq_true rfl) (Nat.le_of_ble_eq_true rfl) (Nat.le_of_ble_eq_true rfl) dX5_distanceOf_26 (by omega) ?_
    refine jm_istore_n C dX5_distanceOf_29 (by decide) ?_
    refine jm_iload_n C dX5_distanceOf_30 rfl ?_
    refine jm_iload_n C dX5_distanceOf_31 rfl ?_
    refine jm_iadd C dX5_distanceOf_32 ?_
    refine jm_bipush C dX5_distanceOf_33 (by decide +kernel) ?_
    refine jm_min C jw_m_RX5_227 jw_s_min jw_n_Math jw_c_min (Nat.le_of_ble_eq_true rfl) (Nat.le_of_ble_eq_true rfl) (Nat.le_of_ble_eq_true rfl) (Nat.le_of_ble_eq_true rfl) dX5_distanceOf_35 (by omega) (by decide) ?_
    exact hR _ _ _ _ dX5_distanceOf_38 rfl ⟨rfl, by unfold hk_dist; first | rw [if_pos (by omega)] | (rw [if_neg (by omega)])⟩
  · skip
    refine jm_bipush C dX5_distanceOf_4 (by decide +kernel) ?_
    exact hR _ _ _ _ dX5_distanceOf_6 rfl ⟨rfl, by unfold hk_dist; first | rw [if_pos (by omega)] | (rw [if_neg (by omega)])⟩
set_option maxRecDepth 100000 in
set_option maxHeartbeats 4000000 in
theorem kX3_placeOf (E : jm_E) (w : jm_W) (I : jm_M) (k : Int) (h : jm_X3 E w k) (n : Int) (hn : jm_R n) : jm_Mi E yX3_placeOf wX3_placeOf rmX3_placeOf 0 0 w I [.ref (w.2.1 k), jm_v n] (fun I' z => I' = I ∧ z = hk_at (I (k + 100)) n) := by
  refine jm_in_i (cc := cX3_placeOf) (maxL := 2) (rt := .int) RX3 (by decide +kernel) rfl rfl (Nat.le_of_ble_eq_true rfl) (by simp [Value.category]) ?_
  intro G C hR hI
  refine jm_iload_n C dX3_placeOf_0 rfl ?_
  refine jm_if_lt 22 C dX3_placeOf_1 rfl hn (fun yc1 => ?_) (fun yc1 => ?_)
  · skip
    refine jm_iconst C dX3_placeOf_22 ?_
    exact hR _ _ _ _ dX3_placeOf_23 rfl ⟨rfl, by unfold hk_at; first | rw [if_pos (by omega)] | rw [if_neg (by omega)]⟩
  · skip
    refine jm_iload_n C dX3_placeOf_4 rfl ?_
    refine jm_aload_n C dX3_placeOf_5 rfl ?_
    refine jm_getr (ci := 3) (f := 0) C rfl jw_u_3 h.1 h.2.1 rfl (by decide) jw_f_RX3_9 dX3_placeOf_6 ?_
    refine jm_alen 0 6 rfl C h.2.2.1 rfl h.2.2.2 dX3_placeOf_9 ?_
    refine jm_icmp_ge 22 C dX3_placeOf_10 rfl hn (by decide) (fun yc2 => ?_) (fun yc2 => ?_)
    · skip
      refine jm_iconst C dX3_placeOf_22 ?_
      exact hR _ _ _ _ dX3_placeOf_23 rfl ⟨rfl, by unfold hk_at; first | rw [if_pos (by omega)] | rw [if_neg (by omega)]⟩
    · skip
      refine jm_aload_n C dX3_placeOf_13 rfl ?_
      refine jm_getr (ci := 3) (f := 0) C rfl jw_u_3 h.1 h.2.1 rfl (by decide) jw_f_RX3_9 dX3_placeOf_14 ?_
      refine jm_iload_n C dX3_placeOf_17 rfl ?_
      refine jm_iald C h.2.2.1 rfl h.2.2.2 (by omega) (by omega) (by omega) dX3_placeOf_18 (fun yr3 => ?_)
      refine jm_goto 23 C dX3_placeOf_19 rfl ?_
      exact hR _ _ _ _ dX3_placeOf_23 rfl ⟨rfl, by unfold hk_at; first | rw [if_pos (by omega)] | rw [if_neg (by omega)]⟩
set_option maxRecDepth 100000 in
set_option maxHeartbeats 4000000 in
theorem kX3_put (E : jm_E) (w : jm_W) (I : jm_M) (k : Int) (h : jm_X3 E w k) (n p : Int) (hn : jm_R n) (hp : jm_R p) : jm_Mv E yX3_put wX3_put rmX3_put 0 0 w I [.ref (w.2.1 k), jm_v n, jm_v p] (fun I' => I' = if 0 ≤ n ∧ n < 6 then jm_up I (k + 100) n p else I) := by
  refine jm_in_v (cc := cX3_put) (maxL := 3) RX3 (by decide +kernel) rfl rfl (Nat.le_of_ble_eq_true rfl) (by simp [Value.category]) ?_
  intro G C hR hI
  refine jm_iload_n C dX3_put_0 rfl ?_
  refine jm_if_lt 20 C dX3_put_1 rfl hn (fun yc1 => ?_) (fun yc1 => ?_)
  · skip
    exact hR _ _ _ dX3_put_20 (by first | rw [if_pos (by omega)] | rw [if_neg (by omega)])
  · skip
    refine jm_iload_n C dX3_put_4 rfl ?_
    refine jm_aload_n C dX3_put_5 rfl ?_
    refine jm_getr (ci := 3) (f := 0) C rfl jw_u_3 h.1 h.2.1 rfl (by decide) jw_f_RX3_9 dX3_put_6 ?_
    refine jm_alen 0 6 rfl C h.2.2.1 rfl h.2.2.2 dX3_put_9 ?_
    refine jm_icmp_ge 20 C dX3_put_10 rfl hn (by decide) (fun yc2 => ?_) (fun yc2 => ?_)
    · skip
      exact hR _ _ _ dX3_put_20 (by first | rw [if_pos (by omega)] | rw [if_neg (by omega)])
    · skip
      refine jm_aload_n C dX3_put_13 rfl ?_
      refine jm_getr (ci := 3) (f := 0) C rfl jw_u_3 h.1 h.2.1 rfl (by decide) jw_f_RX3_9 dX3_put_14 ?_
      refine jm_iload_n C dX3_put_17 rfl ?_
      refine jm_iload_n C dX3_put_18 rfl ?_
      refine jm_iast C h.2.2.1 rfl h.2.2.2 (by omega) (by omega) (by omega) dX3_put_19 hp ?_
      exact hR _ _ _ dX3_put_20 (by first | rw [if_pos (by omega)] | rw [if_neg (by omega)])
set_option maxRecDepth 100000 in
set_option maxHeartbeats 4000000 in
theorem kX3_takeAway (E : jm_E) (w : jm_W) (I : jm_M) (k : Int) (h : jm_X3 E w k) : jm_Mv E yX3_takeAway wX3_takeAway rmX3_takeAway 0 0 w I [.ref (w.2.1 k)] (fun I' => I' = hk_fill I (k + 100) 6 (fun _ => -1)) := by
  refine jm_in_v (cc := cX3_takeAway) (maxL := 2) RX3 (by decide +kernel) rfl rfl (Nat.le_of_ble_eq_true rfl) (by simp [Value.category]) ?_
  intro G C hR hI
  refine jm_iconst C dX3_takeAway_0 ?_
  refine jm_istore_n C dX3_takeAway_1 (by decide) ?_
  have lp2 : ∀ (yn : Nat) (m : Nat) (I2 : jm_M), 6 - m < yn → (m ≤ 6) → (I2 = hk_fill I (k + 100) m (fun _ => -1)) → (∀ k j, jm_R (I2 k j)) → jm_J E G (0, 0) w I2 2 [(0, .ref (w.2.1 k)), (1, jm_v ((m : Nat) : Int))] [] := by
    intro yn
    induction yn with
    | zero => intro m I2 hlt hm hI2 hImem; exact absurd hlt (Nat.not_lt_zero _)
    | succ yn ih =>
      intro m I2 hlt hm hI2 hImem
      refine jm_iload_n C dX3_takeAway_2 rfl ?_
      refine jm_aload_n C dX3_takeAway_3 rfl ?_
      refine jm_getr (ci := 3) (f := 0) C rfl jw_u_3 h.1 h.2.1 rfl (by decide) jw_f_RX3_9 dX3_takeAway_4 ?_
      refine jm_alen 0 6 rfl C h.2.2.1 rfl h.2.2.2 dX3_takeAway_7 ?_
      refine jm_icmp_ge 24 C dX3_takeAway_8 rfl (by omega) (by decide) (fun yc1 => ?_) (fun yc1 => ?_)
      · skip
        exact hR _ _ _ dX3_takeAway_24 (by rw [hI2, show m = 6 by omega]; rfl)
      · skip
        refine jm_aload_n C dX3_takeAway_11 rfl ?_
        refine jm_getr (ci := 3) (f := 0) C rfl jw_u_3 h.1 h.2.1 rfl (by decide) jw_f_RX3_9 dX3_takeAway_12 ?_
        refine jm_iload_n C dX3_takeAway_15 rfl ?_
        refine jm_iconst C dX3_takeAway_16 ?_
        refine jm_iast C h.2.2.1 rfl h.2.2.2 (by omega) (by omega) (by omega) dX3_takeAway_17 (by decide) ?_
        refine jm_iinc C dX3_takeAway_18 (by decide) rfl ?_
        refine jm_goto 2 C dX3_takeAway_21 rfl ?_
        refine jm_lvs (lv' := [(0, _), (1, _)]) (jm_sub_c rfl (jm_sub_c rfl (jm_sub_0 _))) ?_
        exact ih (m + 1) _ (by omega) (by omega) (by rw [hI2]; exact hk_fill_s I (k + 100) m (fun _ => -1)) (jm_upR hImem (by decide))
  refine jm_lvs (lv' := [(0, _), (1, _)]) (jm_sub_c rfl (jm_sub_c rfl (jm_sub_0 _))) ?_
  exact lp2 _ 0 _ (Nat.lt_succ_self _) (Nat.zero_le _) (hk_fill_0 _ _ _).symm hI
set_option maxRecDepth 100000 in
set_option maxHeartbeats 4000000 in
theorem kX3_copyFrom (E : jm_E) (w : jm_W) (I : jm_M) (k : Int) (h : jm_X3 E w k) (k2 : Int) (h2 : jm_X3 E w k2) : jm_Mv E yX3_copyFrom wX3_copyFrom rmX3_copyFrom 0 0 w I [.ref (w.2.1 k), .ref (w.2.1 k2)] (fun I' => I' = hk_fill I (k + 100) 6 (I (k2 + 100))) := by
  refine jm_in_v (cc := cX3_copyFrom) (maxL := 3) RX3 (by decide +kernel) rfl rfl (Nat.le_of_ble_eq_true rfl) (by simp [Value.category]) ?_
  intro G C hR hI
  refine jm_iconst C dX3_copyFrom_0 ?_
  refine jm_istore_n C dX3_copyFrom_1 (by decide) ?_
  have lp2 : ∀ (yn : Nat) (m : Nat) (I2 : jm_M), 6 - m < yn → (m ≤ 6) → (I2 = hk_fill I (k + 100) m (I (k2 + 100))) → (∀ k j, jm_R (I2 k j)) → jm_J E G (0, 0) w I2 2 [(0, .ref (w.2.1 k)), (1, .ref (w.2.1 k2)), (2, jm_v ((m : Nat) : Int))] [] := by
    intro yn
    induction yn with
    | zero => intro m I2 hlt hm hI2 hImem; exact absurd hlt (Nat.not_lt_zero _)
    | succ yn ih =>
      intro m I2 hlt hm hI2 hImem
      refine jm_iload_n C dX3_copyFrom_2 rfl ?_
      refine jm_aload_n C dX3_copyFrom_3 rfl ?_
      refine jm_getr (ci := 3) (f := 0) C rfl jw_u_3 h.1 h.2.1 rfl (by decide) jw_f_RX3_9 dX3_copyFrom_4 ?_
      refine jm_alen 0 6 rfl C h.2.2.1 rfl h.2.2.2 dX3_copyFrom_7 ?_
      refine jm_icmp_ge 28 C dX3_copyFrom_8 rfl (by omega) (by decide) (fun yc1 => ?_) (fun yc1 => ?_)
      · skip
        exact hR _ _ _ dX3_copyFrom_28 (by rw [hI2, show m = 6 by omega]; rfl)
      · skip
        refine jm_aload_n C dX3_copyFrom_11 rfl ?_
        refine jm_getr (ci := 3) (f := 0) C rfl jw_u_3 h.1 h.2.1 rfl (by decide) jw_f_RX3_9 dX3_copyFrom_12 ?_
        refine jm_iload_n C dX3_copyFrom_15 rfl ?_
        refine jm_aload_n C dX3_copyFrom_16 rfl ?_
        refine jm_iload_n C dX3_copyFrom_17 rfl ?_
        refine jm_cVd (n := 1) (ci := 3) [jm_v ((m : Nat) : Int), .ref (w.2.1 (k + 100))] C (kX3_placeOf E w I2 _ h2 _ (by omega)) jw_m_RX3_18 okX3_placeOf rfl ⟨rfl, rfl⟩ ⟨Nat.le_of_ble_eq_true rfl, Nat.le_of_ble_eq_true rfl⟩ rfl h2.1 h2.2.1 rfl rfl (Nat.le_of_ble_eq_true rfl) dX3_copyFrom_18 ⟨Nat.le_of_ble_eq_true rfl, Nat.le_of_ble_eq_true rfl⟩ (fun yz3 yh2 => ?_)
        subst yh2
        refine jm_iast C h.2.2.1 rfl h.2.2.2 (by omega) (by omega) (by omega) dX3_copyFrom_21 (hk_at_R hImem (k2 + 100) m) ?_
        refine jm_iinc C dX3_copyFrom_22 (by decide) rfl ?_
        refine jm_goto 2 C dX3_copyFrom_25 rfl ?_
        refine jm_lvs (lv' := [(0, _), (1, _), (2, _)]) (jm_sub_c rfl (jm_sub_c rfl (jm_sub_c rfl (jm_sub_0 _)))) ?_
        exact ih (m + 1) _ (by omega) (by omega) (by rw [hI2]; exact (congrArg (fun z => jm_up (hk_fill I (k + 100) m (I (k2 + 100))) (k + 100) m z) (hk_copy I (k + 100) (k2 + 100) m (by omega))).trans (hk_fill_s I (k + 100) m (I (k2 + 100)))) (jm_upR hImem (hk_at_R hImem (k2 + 100) m))
  refine jm_lvs (lv' := [(0, _), (1, _), (2, _)]) (jm_sub_c rfl (jm_sub_c rfl (jm_sub_c rfl (jm_sub_0 _)))) ?_
  exact lp2 _ 0 _ (Nat.lt_succ_self _) (Nat.zero_le _) (hk_fill_0 _ _ _).symm hI
set_option maxRecDepth 100000 in
set_option maxHeartbeats 4000000 in
theorem kX3_lyingAt (E : jm_E) (w : jm_W) (I : jm_M) (k : Int) (h : jm_X3 E w k) (lane y : Int) (hl : 0 ≤ lane ∧ lane ≤ 8) (hy : 0 ≤ y ∧ y ≤ 60) : jm_Mi E yX3_lyingAt wX3_lyingAt rmX3_lyingAt 0 0 w I [.ref (w.2.1 k), jm_v lane, jm_v y] (fun I' z => I' = I ∧ z = hk_lie (I (k + 100)) lane y) := by
  refine jm_in_i (cc := cX3_lyingAt) (maxL := 5) (rt := .int) RX3 (by decide +kernel) rfl rfl (Nat.le_of_ble_eq_true rfl) (by simp [Value.category]) ?_
  intro G C hR hI
  refine jm_iload_n C dX3_lyingAt_0 rfl ?_
  refine jm_bipush C dX3_lyingAt_1 (by decide +kernel) ?_
  refine jm_icmp_ge 8 C dX3_lyingAt_3 rfl (by omega) (by decide) (fun yc1 => ?_) (fun yc1 => ?_)
  · skip
    refine jm_bipush C dX3_lyingAt_8 (by decide +kernel) ?_
    refine jm_iload_n C dX3_lyingAt_10 rfl ?_
    refine jm_imul C dX3_lyingAt_11 ?_
    refine jm_iload_n C dX3_lyingAt_12 rfl ?_
    refine jm_iadd C dX3_lyingAt_13 ?_
    refine jm_istore_n C dX3_lyingAt_14 (by decide) ?_
    refine jm_iconst C dX3_lyingAt_15 ?_
    refine jm_istore C dX3_lyingAt_16 (by decide) ?_
    have lp18 : ∀ (yn : Nat) (m : Nat), 6 - m < yn → (m ≤ 6) → (hk_first (I (k + 100)) (100 * lane + y) 6 0 = hk_first (I (k + 100)) (100 * lane + y) (6 - m) m) → jm_J E G (0, 0) w I 18 [(0, .ref (w.2.1 k)), (3, jm_v ((100 * lane) + y)), (4, jm_v ((m : Nat) : Int))] [] := by
      intro yn
      induction yn with
      | zero => intro m hlt hm hf; exact absurd hlt (Nat.not_lt_zero _)
      | succ yn ih =>
        intro m hlt hm hf
        have hun : m < 6 → hk_first (I (k + 100)) (100 * lane + y) (6 - m) m = if I (k + 100) m = 100 * lane + y then (m : Int) else hk_first (I (k + 100)) (100 * lane + y) (6 - (m + 1)) ((m + 1 : Nat) : Int) := fun hm6 => by
          rw [show 6 - m = (6 - (m + 1)) + 1 by omega]; rfl
        refine jm_iload C dX3_lyingAt_18 rfl ?_
        refine jm_aload_n C dX3_lyingAt_20 rfl ?_
        refine jm_getr (ci := 3) (f := 0) C rfl jw_u_3 h.1 h.2.1 rfl (by decide) jw_f_RX3_9 dX3_lyingAt_21 ?_
        refine jm_alen 0 6 rfl C h.2.2.1 rfl h.2.2.2 dX3_lyingAt_24 ?_
        refine jm_icmp_ge 48 C dX3_lyingAt_25 rfl (by omega) (by decide) (fun yc2 => ?_) (fun yc2 => ?_)
        · skip
          refine jm_iconst C dX3_lyingAt_48 ?_
          exact hR _ _ _ _ dX3_lyingAt_49 rfl ⟨rfl, by unfold hk_lie; rw [if_neg (by omega), hf, show m = 6 by omega]; rfl⟩
        · skip
          refine jm_aload_n C dX3_lyingAt_28 rfl ?_
          refine jm_getr (ci := 3) (f := 0) C rfl jw_u_3 h.1 h.2.1 rfl (by decide) jw_f_RX3_9 dX3_lyingAt_29 ?_
          refine jm_iload C dX3_lyingAt_32 rfl ?_
          refine jm_iald C h.2.2.1 rfl h.2.2.2 (by omega) (by omega) (by omega) dX3_lyingAt_34 (fun yr3 => ?_)
          refine jm_iload_n C dX3_lyingAt_35 rfl ?_
          refine jm_icmp_ne 42 C dX3_lyingAt_36 rfl (by omega) (by omega) (fun yc4 => ?_) (fun yc4 => ?_)
          · skip
            refine jm_iinc C dX3_lyingAt_42 (by decide) rfl ?_
            refine jm_goto 18 C dX3_lyingAt_45 rfl ?_
            refine jm_lvs (lv' := [(0, _), (3, _), (4, _)]) (jm_sub_c rfl (jm_sub_c rfl (jm_sub_c rfl (jm_sub_0 _)))) ?_
            exact ih (m + 1) (by omega) (by omega) (by rw [hf, hun (by omega), if_neg yc4])
          · skip
            refine jm_iload C dX3_lyingAt_39 rfl ?_
            exact hR _ _ _ _ dX3_lyingAt_41 rfl ⟨rfl, by unfold hk_lie; rw [if_neg (by omega), hf, hun (by omega), if_pos yc4]⟩
    refine jm_lvs (lv' := [(0, _), (3, _), (4, _)]) (jm_sub_c rfl (jm_sub_c rfl (jm_sub_c rfl (jm_sub_0 _)))) ?_
    exact lp18 _ 0 (Nat.lt_succ_self _) (Nat.zero_le _) rfl
  · skip
    refine jm_iconst C dX3_lyingAt_6 ?_
    exact hR _ _ _ _ dX3_lyingAt_7 rfl ⟨rfl, by unfold hk_lie; rw [if_pos (by omega)]⟩
set_option maxRecDepth 100000 in
set_option maxHeartbeats 4000000 in
theorem kX3_nearest (E : jm_E) (w : jm_W) (I : jm_M) (k : Int) (h : jm_X3 E w k) (st : Int) (hst : 0 ≤ st ∧ st ≤ 10) : jm_Mi E yX3_nearest wX3_nearest rmX3_nearest 0 0 w I [.ref (w.2.1 k), jm_v st] (fun I' z => I' = I ∧ z = hk_near (I (k + 100)) st 3) := by
  refine jm_in_i (cc := cX3_nearest) (maxL := 4) (rt := .int) RX3 (by decide +kernel) rfl rfl (Nat.le_of_ble_eq_true rfl) (by simp [Value.category]) ?_
  intro G C hR hI
  refine jm_bipush C dX3_nearest_0 (by decide +kernel) ?_
  refine jm_istore_n C dX3_nearest_2 (by decide) ?_
  refine jm_iconst C dX3_nearest_3 ?_
  refine jm_istore_n C dX3_nearest_4 (by decide) ?_
  have lp5 : ∀ (yn : Nat) (m : Nat) (least : Int), 3 - m < yn → (m ≤ 3) → (least = hk_near (I (k + 100)) st m) → jm_J E G (0, 0) w I 5 [(0, .ref (w.2.1 k)), (1, jm_v st), (2, jm_v least), (3, jm_v ((m : Nat) : Int))] [] := by
    intro yn
    induction yn with
    | zero => intro m least hlt hm hle; exact absurd hlt (Nat.not_lt_zero _)
    | succ yn ih =>
      intro m least hlt hm hle
      have hr := hk_near_r (I (k + 100)) st m
      refine jm_iload_n C dX3_nearest_5 rfl ?_
      refine jm_iconst C dX3_nearest_6 ?_
      refine jm_icmp_ge 31 C dX3_nearest_7 rfl (by omega) (by decide) (fun yc1 => ?_) (fun yc1 => ?_)
      · skip
        refine jm_iload_n C dX3_nearest_31 rfl ?_
        exact hR _ _ _ _ dX3_nearest_32 rfl ⟨rfl, by rw [hle, show m = 3 by omega]⟩
      · skip
        refine jm_iload_n C dX3_nearest_10 rfl ?_
        refine jm_aload_n C dX3_nearest_11 rfl ?_
        refine jm_iload_n C dX3_nearest_12 rfl ?_
        refine jm_iload_n C dX3_nearest_13 rfl ?_
        refine jm_iadd C dX3_nearest_14 ?_
        refine jm_cVd (n := 1) (ci := 3) [jm_v least] C (kX3_placeOf E w I _ h _ (by omega)) jw_m_RX3_18 okX3_placeOf rfl ⟨rfl, rfl⟩ ⟨Nat.le_of_ble_eq_true rfl, Nat.le_of_ble_eq_true rfl⟩ rfl h.1 h.2.1 rfl rfl (Nat.le_of_ble_eq_true rfl) dX3_nearest_15 ⟨Nat.le_of_ble_eq_true rfl, Nat.le_of_ble_eq_true rfl⟩ (fun yz3 yh2 => ?_)
        subst yh2
        have yh2r := hk_at_R hI (k + 100) (st + ((m : Nat) : Int))
        refine jm_cNd (n := 1) [jm_v least] C (kX5_distanceOf E w I _ (by omega)) RX5 jm_n_distanceOf okX5_distanceOf rfl ⟨rfl, rfl⟩ ⟨Nat.le_of_ble_eq_true rfl, Nat.le_of_ble_eq_true rfl⟩ rfl rfl (Nat.le_of_ble_eq_true rfl) dX3_nearest_18 ⟨Nat.le_of_ble_eq_true rfl, Nat.le_of_ble_eq_true rfl⟩ (fun yz5 yh4 => ?_)
        subst yh4
        have yh4r := hk_dist_r (hk_at (I (k + 100)) (st + ((m : Nat) : Int)))
        refine jm_min C jw_m_RX3_32 jw_s_min jw_n_Math jw_c_min (Nat.le_of_ble_eq_true rfl) (Nat.le_of_ble_eq_true rfl) (Nat.le_of_ble_eq_true rfl) (Nat.le_of_ble_eq_true rfl) dX3_nearest_21 (by omega) (by omega) ?_
        refine jm_istore_n C dX3_nearest_24 (by decide) ?_
        refine jm_iinc C dX3_nearest_25 (by decide) rfl ?_
        refine jm_goto 5 C dX3_nearest_28 rfl ?_
        refine jm_lvs (lv' := [(0, _), (1, _), (2, _), (3, _)]) (jm_sub_c rfl (jm_sub_c rfl (jm_sub_c rfl (jm_sub_c rfl (jm_sub_0 _))))) ?_
        exact ih (m + 1) _ (by omega) (by omega) (by rw [hle]; rfl)
  refine jm_lvs (lv' := [(0, _), (1, _), (2, _), (3, _)]) (jm_sub_c rfl (jm_sub_c rfl (jm_sub_c rfl (jm_sub_c rfl (jm_sub_0 _))))) ?_
  exact lp5 _ 0 _ (Nat.lt_succ_self _) (Nat.zero_le _) rfl
set_option maxRecDepth 100000 in
set_option maxHeartbeats 4000000 in
theorem kX3_countNearer (E : jm_E) (w : jm_W) (I : jm_M) (k : Int) (h : jm_X3 E w k) (st lim : Int) (hst : 0 ≤ st ∧ st ≤ 10) (hli : jm_R lim) : jm_Mi E yX3_countNearer wX3_countNearer rmX3_countNearer 0 0 w I [.ref (w.2.1 k), jm_v st, jm_v lim] (fun I' z => I' = I ∧ z = hk_cntn (I (k + 100)) st lim 3) := by
  refine jm_in_i (cc := cX3_countNearer) (maxL := 5) (rt := .int) RX3 (by decide +kernel) rfl rfl (Nat.le_of_ble_eq_true rfl) (by simp [Value.category]) ?_
  intro G C hR hI
  refine jm_iconst C dX3_countNearer_0 ?_
  refine jm_istore_n C dX3_countNearer_1 (by decide) ?_
  refine jm_iconst C dX3_countNearer_2 ?_
  refine jm_istore C dX3_countNearer_3 (by decide) ?_
  have lp5 : ∀ (yn : Nat) (m : Nat) (cnt : Int), 3 - m < yn → (m ≤ 3) → (cnt = hk_cntn (I (k + 100)) st lim m) → jm_J E G (0, 0) w I 5 [(0, .ref (w.2.1 k)), (1, jm_v st), (2, jm_v lim), (3, jm_v cnt), (4, jm_v ((m : Nat) : Int))] [] := by
    intro yn
    induction yn with
    | zero => intro m cnt hlt hm hle; exact absurd hlt (Nat.not_lt_zero _)
    | succ yn ih =>
      intro m cnt hlt hm hle
      refine jm_iload C dX3_countNearer_5 rfl ?_
      refine jm_iconst C dX3_countNearer_7 ?_
      refine jm_icmp_ge 35 C dX3_countNearer_8 rfl (by omega) (by decide) (fun yc1 => ?_) (fun yc1 => ?_)
      · skip
        refine jm_iload_n C dX3_countNearer_35 rfl ?_
        exact hR _ _ _ _ dX3_countNearer_36 rfl ⟨rfl, by rw [hle, show m = 3 by omega]⟩
      · skip
        refine jm_aload_n C dX3_countNearer_11 rfl ?_
        refine jm_iload_n C dX3_countNearer_12 rfl ?_
        refine jm_iload C dX3_countNearer_13 rfl ?_
        refine jm_iadd C dX3_countNearer_15 ?_
        refine jm_cVd (n := 1) (ci := 3) [] C (kX3_placeOf E w I _ h _ (by omega)) jw_m_RX3_18 okX3_placeOf rfl ⟨rfl, rfl⟩ ⟨Nat.le_of_ble_eq_true rfl, Nat.le_of_ble_eq_true rfl⟩ rfl h.1 h.2.1 rfl rfl (Nat.le_of_ble_eq_true rfl) dX3_countNearer_16 ⟨Nat.le_of_ble_eq_true rfl, Nat.le_of_ble_eq_true rfl⟩ (fun yz3 yh2 => ?_)
        subst yh2
        have yh2r := hk_at_R hI (k + 100) (st + ((m : Nat) : Int))
        refine jm_cNd (n := 1) [] C (kX5_distanceOf E w I _ (by omega)) RX5 jm_n_distanceOf okX5_distanceOf rfl ⟨rfl, rfl⟩ ⟨Nat.le_of_ble_eq_true rfl, Nat.le_of_ble_eq_true rfl⟩ rfl rfl (Nat.le_of_ble_eq_true rfl) dX3_countNearer_19 ⟨Nat.le_of_ble_eq_true rfl, Nat.le_of_ble_eq_true rfl⟩ (fun yz5 yh4 => ?_)
        subst yh4
        have yh4r := hk_dist_r (hk_at (I (k + 100)) (st + ((m : Nat) : Int)))
        refine jm_iload_n C dX3_countNearer_22 rfl ?_
        refine jm_icmp_ge 29 C dX3_countNearer_23 rfl (by omega) hli (fun yc6 => ?_) (fun yc6 => ?_)
        · skip
          refine jm_iinc C dX3_countNearer_29 (by decide) rfl ?_
          refine jm_goto 5 C dX3_countNearer_32 rfl ?_
          refine jm_lvs (lv' := [(0, _), (1, _), (2, _), (3, _), (4, _)]) (jm_sub_c rfl (jm_sub_c rfl (jm_sub_c rfl (jm_sub_c rfl (jm_sub_c rfl (jm_sub_0 _)))))) ?_
          exact ih (m + 1) _ (by omega) (by omega) (by rw [hle, hk_cntn]; first | rw [if_pos (by omega)] | rw [if_neg (by omega)])
        · skip
          refine jm_iinc C dX3_countNearer_26 (by decide) rfl ?_
          refine jm_iinc C dX3_countNearer_29 (by decide) rfl ?_
          refine jm_goto 5 C dX3_countNearer_32 rfl ?_
          refine jm_lvs (lv' := [(0, _), (1, _), (2, _), (3, _), (4, _)]) (jm_sub_c rfl (jm_sub_c rfl (jm_sub_c rfl (jm_sub_c rfl (jm_sub_c rfl (jm_sub_0 _)))))) ?_
          exact ih (m + 1) _ (by omega) (by omega) (by rw [hle, hk_cntn]; first | rw [if_pos (by omega)] | rw [if_neg (by omega)])
  refine jm_lvs (lv' := [(0, _), (1, _), (2, _), (3, _), (4, _)]) (jm_sub_c rfl (jm_sub_c rfl (jm_sub_c rfl (jm_sub_c rfl (jm_sub_c rfl (jm_sub_0 _)))))) ?_
  exact lp5 _ 0 _ (Nat.lt_succ_self _) (Nat.zero_le _) rfl
set_option maxRecDepth 100000 in
set_option maxHeartbeats 4000000 in
theorem kX3_score (E : jm_E) (w : jm_W) (I : jm_M) (k : Int) (h : jm_X3 E w k) : jm_Mi E yX3_score wX3_score rmX3_score 0 0 w I [.ref (w.2.1 k)] (fun I' z => I' = I ∧ z = hk_score (I (k + 100))) := by
  refine jm_in_i (cc := cX3_score) (maxL := 3) (rt := .int) RX3 (by decide +kernel) rfl rfl (Nat.le_of_ble_eq_true rfl) (by simp [Value.category]) ?_
  intro G C hR hI
  refine jm_aload_n C dX3_score_0 rfl ?_
  refine jm_iconst C dX3_score_1 ?_
  refine jm_cVd (n := 1) (ci := 3) [] C (kX3_nearest E w I _ h _ (by decide)) jw_m_RX3_22 okX3_nearest rfl ⟨rfl, rfl⟩ ⟨Nat.le_of_ble_eq_true rfl, Nat.le_of_ble_eq_true rfl⟩ rfl h.1 h.2.1 rfl rfl (Nat.le_of_ble_eq_true rfl) dX3_score_2 ⟨Nat.le_of_ble_eq_true rfl, Nat.le_of_ble_eq_true rfl⟩ (fun yz2 yh1 => ?_)
  subst yh1
  have yh1r := hk_near_r (I (k + 100)) 0 3
  refine jm_istore_n C dX3_score_5 (by decide) ?_
  refine jm_aload_n C dX3_score_6 rfl ?_
  refine jm_iconst C dX3_score_7 ?_
  refine jm_cVd (n := 1) (ci := 3) [] C (kX3_nearest E w I _ h _ (by decide)) jw_m_RX3_22 okX3_nearest rfl ⟨rfl, rfl⟩ ⟨Nat.le_of_ble_eq_true rfl, Nat.le_of_ble_eq_true rfl⟩ rfl h.1 h.2.1 rfl rfl (Nat.le_of_ble_eq_true rfl) dX3_score_8 ⟨Nat.le_of_ble_eq_true rfl, Nat.le_of_ble_eq_true rfl⟩ (fun yz4 yh3 => ?_)
  subst yh3
  have yh3r := hk_near_r (I (k + 100)) 3 3
  refine jm_istore_n C dX3_score_11 (by decide) ?_
  refine jm_iload_n C dX3_score_12 rfl ?_
  refine jm_iload_n C dX3_score_13 rfl ?_
  refine jm_icmp_ge 24 C dX3_score_14 rfl (by omega) (by omega) (fun yc5 => ?_) (fun yc5 => ?_)
  · skip
    refine jm_iload_n C dX3_score_24 rfl ?_
    refine jm_iload_n C dX3_score_25 rfl ?_
    refine jm_icmp_ge 39 C dX3_score_26 rfl (by omega) (by omega) (fun yc6 => ?_) (fun yc6 => ?_)
    · skip
      refine jm_iconst C dX3_score_39 ?_
      exact hR _ _ _ _ dX3_score_40 rfl ⟨rfl, by unfold hk_score; first | rw [if_pos (by omega)] | rw [if_neg (by omega), if_pos (by omega)] | rw [if_neg (by omega), if_neg (by omega)]⟩
    · skip
      refine jm_aload_n C dX3_score_29 rfl ?_
      refine jm_iconst C dX3_score_30 ?_
      refine jm_iload_n C dX3_score_31 rfl ?_
      refine jm_cVd (n := 2) (ci := 3) [] C (kX3_countNearer E w I _ h _ _ (by omega) (by omega)) jw_m_RX3_25 okX3_countNearer rfl ⟨rfl, rfl⟩ ⟨Nat.le_of_ble_eq_true rfl, Nat.le_of_ble_eq_true rfl⟩ rfl h.1 h.2.1 rfl rfl (Nat.le_of_ble_eq_true rfl) dX3_score_32 ⟨Nat.le_of_ble_eq_true rfl, Nat.le_of_ble_eq_true rfl⟩ (fun yz8 yh7 => ?_)
      subst yh7
      have yh7r := hk_cntn_r (I (k + 100)) 3 (hk_near (I (k + 100)) 0 3) 3
      refine jm_ineg C dX3_score_35 ?_
      refine jm_goto 40 C dX3_score_36 rfl ?_
      exact hR _ _ _ _ dX3_score_40 rfl ⟨rfl, by unfold hk_score; first | rw [if_pos (by omega)] | rw [if_neg (by omega), if_pos (by omega)] | rw [if_neg (by omega), if_neg (by omega)]⟩
  · skip
    refine jm_aload_n C dX3_score_17 rfl ?_
    refine jm_iconst C dX3_score_18 ?_
    refine jm_iload_n C dX3_score_19 rfl ?_
    refine jm_cVd (n := 2) (ci := 3) [] C (kX3_countNearer E w I _ h _ _ (by omega) (by omega)) jw_m_RX3_25 okX3_countNearer rfl ⟨rfl, rfl⟩ ⟨Nat.le_of_ble_eq_true rfl, Nat.le_of_ble_eq_true rfl⟩ rfl h.1 h.2.1 rfl rfl (Nat.le_of_ble_eq_true rfl) dX3_score_20 ⟨Nat.le_of_ble_eq_true rfl, Nat.le_of_ble_eq_true rfl⟩ (fun yz10 yh9 => ?_)
    subst yh9
    have yh9r := hk_cntn_r (I (k + 100)) 0 (hk_near (I (k + 100)) 3 3) 3
    exact hR _ _ _ _ dX3_score_23 rfl ⟨rfl, by unfold hk_score; first | rw [if_pos (by omega)] | rw [if_neg (by omega), if_pos (by omega)] | rw [if_neg (by omega), if_neg (by omega)]⟩
set_option maxRecDepth 100000 in
set_option maxHeartbeats 4000000 in
theorem kX3_scoreOneByOne (E : jm_E) (w : jm_W) (I : jm_M) (k : Int) (h : jm_X3 E w k) : jm_Mi E yX3_scoreOneByOne wX3_scoreOneByOne rmX3_scoreOneByOne 0 0 w I [.ref (w.2.1 k)] (fun I' z => I' = I ∧ z = hk_one (I (k + 100)) 6) := by
  refine jm_in_i (cc := cX3_scoreOneByOne) (maxL := 6) (rt := .int) RX3 (by decide +kernel) rfl rfl (Nat.le_of_ble_eq_true rfl) (by simp [Value.category]) ?_
  intro G C hR hI
  refine jm_iconst C dX3_scoreOneByOne_0 ?_
  refine jm_istore_n C dX3_scoreOneByOne_1 (by decide) ?_
  refine jm_iconst C dX3_scoreOneByOne_2 ?_
  refine jm_istore_n C dX3_scoreOneByOne_3 (by decide) ?_
  have lp4 : ∀ (yn : Nat) (m : Nat) (sc : Int), 6 - m < yn → (m ≤ 6) → (sc = hk_one (I (k + 100)) m) → jm_J E G (0, 0) w I 4 [(0, .ref (w.2.1 k)), (1, jm_v sc), (2, jm_v ((m : Nat) : Int))] [] := by
    intro yn
    induction yn with
    | zero => intro m sc hlt hm hle; exact absurd hlt (Nat.not_lt_zero _)
    | succ yn ih =>
      intro m sc hlt hm hle
      refine jm_iload_n C dX3_scoreOneByOne_4 rfl ?_
      refine jm_bipush C dX3_scoreOneByOne_5 (by decide +kernel) ?_
      refine jm_icmp_ge 80 C dX3_scoreOneByOne_7 rfl (by omega) (by decide) (fun yc1 => ?_) (fun yc1 => ?_)
      · skip
        refine jm_iload_n C dX3_scoreOneByOne_80 rfl ?_
        exact hR _ _ _ _ dX3_scoreOneByOne_81 rfl ⟨rfl, by rw [hle, show m = 6 by omega]⟩
      · skip
        refine jm_iload_n C dX3_scoreOneByOne_10 rfl ?_
        refine jm_iconst C dX3_scoreOneByOne_11 ?_
        have yj4 : ∀ (yz3 : Int), yz3 = (if 3 ≤ ((m : Nat) : Int) then 0 else 1) → jm_R yz3 → jm_J E G (0, 0) w I 20 [(0, .ref (w.2.1 k)), (1, jm_v sc), (2, jm_v ((m : Nat) : Int))] [jm_v yz3] := by
          intro yz3 eyz3 ryz3
          refine jm_istore_n C dX3_scoreOneByOne_20 (by decide) ?_
          refine jm_aload_n C dX3_scoreOneByOne_21 rfl ?_
          refine jm_iload_n C dX3_scoreOneByOne_22 rfl ?_
          refine jm_cVd (n := 1) (ci := 3) [] C (kX3_placeOf E w I _ h _ (by omega)) jw_m_RX3_18 okX3_placeOf rfl ⟨rfl, rfl⟩ ⟨Nat.le_of_ble_eq_true rfl, Nat.le_of_ble_eq_true rfl⟩ rfl h.1 h.2.1 rfl rfl (Nat.le_of_ble_eq_true rfl) dX3_scoreOneByOne_23 ⟨Nat.le_of_ble_eq_true rfl, Nat.le_of_ble_eq_true rfl⟩ (fun yz6 yh5 => ?_)
          subst yh5
          have yh5r := hk_at_R hI (k + 100) ((m : Nat) : Int)
          refine jm_cNd (n := 1) [] C (kX5_distanceOf E w I _ (by omega)) RX5 jm_n_distanceOf okX5_distanceOf rfl ⟨rfl, rfl⟩ ⟨Nat.le_of_ble_eq_true rfl, Nat.le_of_ble_eq_true rfl⟩ rfl rfl (Nat.le_of_ble_eq_true rfl) dX3_scoreOneByOne_26 ⟨Nat.le_of_ble_eq_true rfl, Nat.le_of_ble_eq_true rfl⟩ (fun yz8 yh7 => ?_)
          subst yh7
          have yh7r := hk_dist_r (hk_at (I (k + 100)) ((m : Nat) : Int))
          refine jm_istore C dX3_scoreOneByOne_29 (by decide) ?_
          refine jm_aload_n C dX3_scoreOneByOne_31 rfl ?_
          refine jm_iload_n C dX3_scoreOneByOne_32 rfl ?_
          have yj11 : ∀ (yz10 : Int), yz10 = (if yz3 = 0 then 0 else 3) → jm_R yz10 → jm_J E G (0, 0) w I 41 [(0, .ref (w.2.1 k)), (1, jm_v sc), (2, jm_v ((m : Nat) : Int)), (3, jm_v yz3), (4, jm_v (hk_dist (hk_at (I (k + 100)) ((m : Nat) : Int))))] [jm_v yz10, .ref (w.2.1 k)] := by
            intro yz10 eyz10 ryz10
            have hz10 : yz10 = if (m : Int) < 3 then 3 else 0 := by
              rcases Int.lt_or_le (m : Int) 3 with q | q
              · rw [eyz10, eyz3, if_neg (show ¬ (3 : Int) ≤ m by omega), if_pos q]; rfl
              · rw [eyz10, eyz3, if_pos q, if_neg (show ¬ (m : Int) < 3 by omega)]; rfl
            refine jm_iload C dX3_scoreOneByOne_41 rfl ?_
            refine jm_iconst C dX3_scoreOneByOne_43 ?_
            refine jm_iadd C dX3_scoreOneByOne_44 ?_
            refine jm_cVd (n := 2) (ci := 3) [] C (kX3_countNearer E w I _ h _ _ (by omega) (by omega)) jw_m_RX3_25 okX3_countNearer rfl ⟨rfl, rfl⟩ ⟨Nat.le_of_ble_eq_true rfl, Nat.le_of_ble_eq_true rfl⟩ rfl h.1 h.2.1 rfl rfl (Nat.le_of_ble_eq_true rfl) dX3_scoreOneByOne_45 ⟨Nat.le_of_ble_eq_true rfl, Nat.le_of_ble_eq_true rfl⟩ (fun yz13 yh12 => ?_)
            subst yh12
            have yh12r := hk_cntn_r (I (k + 100)) yz10 ((hk_dist (hk_at (I (k + 100)) ((m : Nat) : Int))) + 1) 3
            refine jm_istore C dX3_scoreOneByOne_48 (by decide) ?_
            refine jm_iload C dX3_scoreOneByOne_50 rfl ?_
            refine jm_bipush C dX3_scoreOneByOne_52 (by decide +kernel) ?_
            refine jm_icmp_gt 74 C dX3_scoreOneByOne_54 rfl (by omega) (by decide) (fun yc14 => ?_) (fun yc14 => ?_)
            · skip
              refine jm_iinc C dX3_scoreOneByOne_74 (by decide) rfl ?_
              refine jm_goto 4 C dX3_scoreOneByOne_77 rfl ?_
              refine jm_lvs (lv' := [(0, _), (1, _), (2, _)]) (jm_sub_c rfl (jm_sub_c rfl (jm_sub_c rfl (jm_sub_0 _)))) ?_
              exact ih (m + 1) _ (by omega) (by omega) (by rw [hle, hk_one, hk_onet_no hz10 (Or.inl yc14), Int.add_zero])
            · skip
              refine jm_iload C dX3_scoreOneByOne_57 rfl ?_
              refine jm_if_ne 74 C dX3_scoreOneByOne_59 rfl (by omega) (fun yc15 => ?_) (fun yc15 => ?_)
              · skip
                refine jm_iinc C dX3_scoreOneByOne_74 (by decide) rfl ?_
                refine jm_goto 4 C dX3_scoreOneByOne_77 rfl ?_
                refine jm_lvs (lv' := [(0, _), (1, _), (2, _)]) (jm_sub_c rfl (jm_sub_c rfl (jm_sub_c rfl (jm_sub_0 _)))) ?_
                exact ih (m + 1) _ (by omega) (by omega) (by rw [hle, hk_one, hk_onet_no hz10 (Or.inr yc15), Int.add_zero])
              · skip
                refine jm_iload_n C dX3_scoreOneByOne_62 rfl ?_
                refine jm_iload_n C dX3_scoreOneByOne_63 rfl ?_
                have yj18 : ∀ (yz17 : Int), yz17 = (if yz3 = 0 then (-1) else 1) → jm_R yz17 → jm_J E G (0, 0) w I 72 [(0, .ref (w.2.1 k)), (2, jm_v ((m : Nat) : Int))] [jm_v yz17, jm_v sc] := by
                  intro yz17 eyz17 ryz17
                  have hv : yz17 = if (m : Int) < 3 then 1 else -1 := by
                    rcases Int.lt_or_le (m : Int) 3 with q | q
                    · rw [eyz17, eyz3, if_neg (show ¬ (3 : Int) ≤ m by omega), if_pos q]; rfl
                    · rw [eyz17, eyz3, if_pos q, if_neg (show ¬ (m : Int) < 3 by omega)]; rfl
                  refine jm_iadd C dX3_scoreOneByOne_72 ?_
                  refine jm_istore_n C dX3_scoreOneByOne_73 (by decide) ?_
                  refine jm_iinc C dX3_scoreOneByOne_74 (by decide) rfl ?_
                  refine jm_goto 4 C dX3_scoreOneByOne_77 rfl ?_
                  refine jm_lvs (lv' := [(0, _), (1, _), (2, _)]) (jm_sub_c rfl (jm_sub_c rfl (jm_sub_c rfl (jm_sub_0 _)))) ?_
                  exact ih (m + 1) _ (by omega) (by omega) (by rw [hle, hk_one, hk_onet_yes hz10 yc14 yc15 hv])
                refine jm_if_eq 71 C dX3_scoreOneByOne_64 rfl (by omega) (fun yc16 => ?_) (fun yc16 => ?_)
                · skip
                  refine jm_iconst C dX3_scoreOneByOne_71 ?_
                  refine jm_lvs (lv' := [(0, _), (2, _)]) (jm_sub_c rfl (jm_sub_c rfl (jm_sub_0 _))) ?_
                  exact yj18 _ (by rw [if_pos yc16]) (by decide)
                · skip
                  refine jm_iconst C dX3_scoreOneByOne_67 ?_
                  refine jm_goto 72 C dX3_scoreOneByOne_68 rfl ?_
                  refine jm_lvs (lv' := [(0, _), (2, _)]) (jm_sub_c rfl (jm_sub_c rfl (jm_sub_0 _))) ?_
                  exact yj18 _ (by rw [if_neg yc16]) (by decide)
          refine jm_if_eq 40 C dX3_scoreOneByOne_33 rfl (by omega) (fun yc9 => ?_) (fun yc9 => ?_)
          · skip
            refine jm_iconst C dX3_scoreOneByOne_40 ?_
            refine jm_lvs (lv' := [(0, _), (1, _), (2, _), (3, _), (4, _)]) (jm_sub_c rfl (jm_sub_c rfl (jm_sub_c rfl (jm_sub_c rfl (jm_sub_c rfl (jm_sub_0 _)))))) ?_
            exact yj11 _ (by rw [if_pos yc9]) (by decide)
          · skip
            refine jm_iconst C dX3_scoreOneByOne_36 ?_
            refine jm_goto 41 C dX3_scoreOneByOne_37 rfl ?_
            refine jm_lvs (lv' := [(0, _), (1, _), (2, _), (3, _), (4, _)]) (jm_sub_c rfl (jm_sub_c rfl (jm_sub_c rfl (jm_sub_c rfl (jm_sub_c rfl (jm_sub_0 _)))))) ?_
            exact yj11 _ (by rw [if_neg yc9]) (by decide)
        refine jm_icmp_ge 19 C dX3_scoreOneByOne_12 rfl (by omega) (by decide) (fun yc2 => ?_) (fun yc2 => ?_)
        · skip
          refine jm_iconst C dX3_scoreOneByOne_19 ?_
          refine jm_lvs (lv' := [(0, _), (1, _), (2, _)]) (jm_sub_c rfl (jm_sub_c rfl (jm_sub_c rfl (jm_sub_0 _)))) ?_
          exact yj4 _ (by rw [if_pos yc2]) (by decide)
        · skip
          refine jm_iconst C dX3_scoreOneByOne_15 ?_
          refine jm_goto 20 C dX3_scoreOneByOne_16 rfl ?_
          refine jm_lvs (lv' := [(0, _), (1, _), (2, _)]) (jm_sub_c rfl (jm_sub_c rfl (jm_sub_c rfl (jm_sub_0 _)))) ?_
          exact yj4 _ (by rw [if_neg yc2]) (by decide)
  refine jm_lvs (lv' := [(0, _), (1, _), (2, _)]) (jm_sub_c rfl (jm_sub_c rfl (jm_sub_c rfl (jm_sub_0 _)))) ?_
  exact lp4 _ 0 _ (Nat.lt_succ_self _) (Nat.zero_le _) rfl
set_option maxRecDepth 100000 in
set_option maxHeartbeats 4000000 in
theorem kX1_isReady (E : jm_E) (w : jm_W) (I : jm_M) (k : Int) (h : jm_X1 E w k) : jm_Mi E yX1_isReady wX1_isReady rmX1_isReady 0 0 w I [.ref (w.2.1 k)] (fun I' z => I' = I ∧ ((I k 1 ≠ 0 ∧ I k 2 = -1 ∧ z = 1) ∨ (¬ (I k 1 ≠ 0 ∧ I k 2 = -1) ∧ z = 0))) := by
  refine jm_in_i (cc := cX1_isReady) (maxL := 1) (rt := .boolean) RX1 (by decide +kernel) rfl rfl (Nat.le_of_ble_eq_true rfl) (by simp [Value.category]) ?_
  intro G C hR hI
  refine jm_aload_n C dX1_isReady_0 rfl ?_
  refine jm_get (ci := 1) (f := 1) 1 rfl C rfl jw_u_1 h.1 h.2.1 rfl (by decide) jw_f_RX1_15 dX1_isReady_1 (fun yr1 => ?_)
  refine jm_if_eq 19 C dX1_isReady_4 rfl (by omega) (fun yc2 => ?_) (fun yc2 => ?_)
  · skip
    refine jm_iconst C dX1_isReady_19 ?_
    exact hR _ _ _ _ dX1_isReady_20 (jm_nz (by decide)) ⟨rfl, by omega⟩
  · skip
    refine jm_aload_n C dX1_isReady_7 rfl ?_
    refine jm_get (ci := 1) (f := 2) 2 rfl C rfl jw_u_1 h.1 h.2.1 rfl (by decide) jw_f_RX1_19 dX1_isReady_8 (fun yr3 => ?_)
    refine jm_iconst C dX1_isReady_11 ?_
    refine jm_icmp_ne 19 C dX1_isReady_12 rfl (by omega) (by decide) (fun yc4 => ?_) (fun yc4 => ?_)
    · skip
      refine jm_iconst C dX1_isReady_19 ?_
      exact hR _ _ _ _ dX1_isReady_20 (jm_nz (by decide)) ⟨rfl, by omega⟩
    · skip
      refine jm_iconst C dX1_isReady_15 ?_
      refine jm_goto 20 C dX1_isReady_16 rfl ?_
      exact hR _ _ _ _ dX1_isReady_20 (jm_nz (by decide)) ⟨rfl, by omega⟩
set_option maxRecDepth 100000 in
set_option maxHeartbeats 4000000 in
theorem kX1_wornAt (E : jm_E) (w : jm_W) (I : jm_M) (k : Int) (h : jm_X1 E w k) (lane y : Int) (hl : 0 ≤ lane ∧ lane ≤ 8) (hy : 0 ≤ y ∧ y ≤ 60) : jm_Mi E yX1_wornAt wX1_wornAt rmX1_wornAt 0 0 w I [.ref (w.2.1 k), jm_v lane, jm_v y] (fun I' z => I' = I ∧ z = I (k + 100) (lane * 61 + y)) := by
  refine jm_in_i (cc := cX1_wornAt) (maxL := 4) (rt := .int) RX1 (by decide +kernel) rfl rfl (Nat.le_of_ble_eq_true rfl) (by simp [Value.category]) ?_
  intro G C hR hI
  refine jm_iload_n C dX1_wornAt_0 rfl ?_
  refine jm_bipush C dX1_wornAt_1 (by decide +kernel) ?_
  refine jm_imul C dX1_wornAt_3 ?_
  refine jm_iload_n C dX1_wornAt_4 rfl ?_
  refine jm_iadd C dX1_wornAt_5 ?_
  refine jm_istore_n C dX1_wornAt_6 (by decide) ?_
  refine jm_iload_n C dX1_wornAt_7 rfl ?_
  refine jm_if_lt 29 C dX1_wornAt_8 rfl (by omega) (fun yc1 => ?_) (fun yc1 => ?_)
  · skip
    refine jm_iconst C dX1_wornAt_29 ?_
    exact hR _ _ _ _ dX1_wornAt_30 rfl (by first | exact ⟨rfl, rfl⟩ | (exfalso; omega))
  · skip
    refine jm_iload_n C dX1_wornAt_11 rfl ?_
    refine jm_aload_n C dX1_wornAt_12 rfl ?_
    refine jm_getr (ci := 1) (f := 0) C rfl jw_u_1 h.1 h.2.1 rfl (by decide) jw_f_RX1_9 dX1_wornAt_13 ?_
    refine jm_alen 0 549 rfl C h.2.2.1 rfl h.2.2.2 dX1_wornAt_16 ?_
    refine jm_icmp_ge 29 C dX1_wornAt_17 rfl (by omega) (by decide) (fun yc2 => ?_) (fun yc2 => ?_)
    · skip
      refine jm_iconst C dX1_wornAt_29 ?_
      exact hR _ _ _ _ dX1_wornAt_30 rfl (by first | exact ⟨rfl, rfl⟩ | (exfalso; omega))
    · skip
      refine jm_aload_n C dX1_wornAt_20 rfl ?_
      refine jm_getr (ci := 1) (f := 0) C rfl jw_u_1 h.1 h.2.1 rfl (by decide) jw_f_RX1_9 dX1_wornAt_21 ?_
      refine jm_iload_n C dX1_wornAt_24 rfl ?_
      refine jm_iald C h.2.2.1 rfl h.2.2.2 (by omega) (by omega) (by omega) dX1_wornAt_25 (fun yr3 => ?_)
      refine jm_goto 30 C dX1_wornAt_26 rfl ?_
      exact hR _ _ _ _ dX1_wornAt_30 rfl (by first | exact ⟨rfl, rfl⟩ | (exfalso; omega))
set_option maxRecDepth 100000 in
set_option maxHeartbeats 4000000 in
theorem kX1_wearDown (E : jm_E) (w : jm_W) (I : jm_M) (k : Int) (h : jm_X1 E w k) (lane y : Int) (hl : 0 ≤ lane ∧ lane ≤ 8) (hy : 0 ≤ y ∧ y ≤ 60) : jm_Mv E yX1_wearDown wX1_wearDown rmX1_wearDown 0 0 w I [.ref (w.2.1 k), jm_v lane, jm_v y] (fun I' => I' = if I (k + 100) (lane * 61 + y) < 9 then jm_up I (k + 100) (lane * 61 + y) (I (k + 100) (lane * 61 + y) + 1) else I) := by
  refine jm_in_v (cc := cX1_wearDown) (maxL := 4) RX1 (by decide +kernel) rfl rfl (Nat.le_of_ble_eq_true rfl) (by simp [Value.category]) ?_
  intro G C hR hI
  refine jm_iload_n C dX1_wearDown_0 rfl ?_
  refine jm_bipush C dX1_wearDown_1 (by decide +kernel) ?_
  refine jm_imul C dX1_wearDown_3 ?_
  refine jm_iload_n C dX1_wearDown_4 rfl ?_
  refine jm_iadd C dX1_wearDown_5 ?_
  refine jm_istore_n C dX1_wearDown_6 (by decide) ?_
  refine jm_iload_n C dX1_wearDown_7 rfl ?_
  refine jm_if_lt 41 C dX1_wearDown_8 rfl (by omega) (fun yc1 => ?_) (fun yc1 => ?_)
  · skip
    exact hR _ _ _ dX1_wearDown_41 (by first | (exfalso; omega) | rw [if_pos (by omega)] | rw [if_neg (by omega)])
  · skip
    refine jm_iload_n C dX1_wearDown_11 rfl ?_
    refine jm_aload_n C dX1_wearDown_12 rfl ?_
    refine jm_getr (ci := 1) (f := 0) C rfl jw_u_1 h.1 h.2.1 rfl (by decide) jw_f_RX1_9 dX1_wearDown_13 ?_
    refine jm_alen 0 549 rfl C h.2.2.1 rfl h.2.2.2 dX1_wearDown_16 ?_
    refine jm_icmp_ge 41 C dX1_wearDown_17 rfl (by omega) (by decide) (fun yc2 => ?_) (fun yc2 => ?_)
    · skip
      exact hR _ _ _ dX1_wearDown_41 (by first | (exfalso; omega) | rw [if_pos (by omega)] | rw [if_neg (by omega)])
    · skip
      refine jm_aload_n C dX1_wearDown_20 rfl ?_
      refine jm_getr (ci := 1) (f := 0) C rfl jw_u_1 h.1 h.2.1 rfl (by decide) jw_f_RX1_9 dX1_wearDown_21 ?_
      refine jm_iload_n C dX1_wearDown_24 rfl ?_
      refine jm_iald C h.2.2.1 rfl h.2.2.2 (by omega) (by omega) (by omega) dX1_wearDown_25 (fun yr3 => ?_)
      refine jm_bipush C dX1_wearDown_26 (by decide +kernel) ?_
      refine jm_icmp_ge 41 C dX1_wearDown_28 rfl (by omega) (by decide) (fun yc4 => ?_) (fun yc4 => ?_)
      · skip
        exact hR _ _ _ dX1_wearDown_41 (by first | (exfalso; omega) | rw [if_pos (by omega)] | rw [if_neg (by omega)])
      · skip
        refine jm_aload_n C dX1_wearDown_31 rfl ?_
        refine jm_getr (ci := 1) (f := 0) C rfl jw_u_1 h.1 h.2.1 rfl (by decide) jw_f_RX1_9 dX1_wearDown_32 ?_
        refine jm_iload_n C dX1_wearDown_35 rfl ?_
        refine jm_dup2 C dX1_wearDown_36 rfl rfl ?_
        refine jm_iald C h.2.2.1 rfl h.2.2.2 (by omega) (by omega) (by omega) dX1_wearDown_37 (fun yr5 => ?_)
        refine jm_iconst C dX1_wearDown_38 ?_
        refine jm_iadd C dX1_wearDown_39 ?_
        refine jm_iast C h.2.2.1 rfl h.2.2.2 (by omega) (by omega) (by omega) dX1_wearDown_40 (by omega) ?_
        exact hR _ _ _ dX1_wearDown_41 (by first | (exfalso; omega) | rw [if_pos (by omega)] | rw [if_neg (by omega)])
set_option maxRecDepth 100000 in
set_option maxHeartbeats 4000000 in
theorem kX1_allWorn (E : jm_E) (w : jm_W) (I : jm_M) (k : Int) (h : jm_X1 E w k) : jm_Mi E yX1_allWorn wX1_allWorn rmX1_allWorn 0 0 w I [.ref (w.2.1 k)] (fun I' z => I' = I ∧ z = hk_sum (I (k + 100)) 549) := by
  refine jm_in_i (cc := cX1_allWorn) (maxL := 3) (rt := .int) RX1 (by decide +kernel) rfl rfl (Nat.le_of_ble_eq_true rfl) (by simp [Value.category]) ?_
  intro G C hR hI
  refine jm_iconst C dX1_allWorn_0 ?_
  refine jm_istore_n C dX1_allWorn_1 (by decide) ?_
  refine jm_iconst C dX1_allWorn_2 ?_
  refine jm_istore_n C dX1_allWorn_3 (by decide) ?_
  have lp4 : ∀ (yn : Nat) (m : Nat) (sm : Int), 549 - m < yn → (m ≤ 549) → (sm = hk_sum (I (k + 100)) m) → jm_J E G (0, 0) w I 4 [(0, .ref (w.2.1 k)), (1, jm_v sm), (2, jm_v ((m : Nat) : Int))] [] := by
    intro yn
    induction yn with
    | zero => intro m sm hlt hm hle; exact absurd hlt (Nat.not_lt_zero _)
    | succ yn ih =>
      intro m sm hlt hm hle
      refine jm_iload_n C dX1_allWorn_4 rfl ?_
      refine jm_aload_n C dX1_allWorn_5 rfl ?_
      refine jm_getr (ci := 1) (f := 0) C rfl jw_u_1 h.1 h.2.1 rfl (by decide) jw_f_RX1_9 dX1_allWorn_6 ?_
      refine jm_alen 0 549 rfl C h.2.2.1 rfl h.2.2.2 dX1_allWorn_9 ?_
      refine jm_icmp_ge 28 C dX1_allWorn_10 rfl (by omega) (by decide) (fun yc1 => ?_) (fun yc1 => ?_)
      · skip
        refine jm_iload_n C dX1_allWorn_28 rfl ?_
        exact hR _ _ _ _ dX1_allWorn_29 rfl ⟨rfl, by rw [hle, show m = 549 by omega]⟩
      · skip
        refine jm_iload_n C dX1_allWorn_13 rfl ?_
        refine jm_aload_n C dX1_allWorn_14 rfl ?_
        refine jm_getr (ci := 1) (f := 0) C rfl jw_u_1 h.1 h.2.1 rfl (by decide) jw_f_RX1_9 dX1_allWorn_15 ?_
        refine jm_iload_n C dX1_allWorn_18 rfl ?_
        refine jm_iald C h.2.2.1 rfl h.2.2.2 (by omega) (by omega) (by omega) dX1_allWorn_19 (fun yr2 => ?_)
        refine jm_iadd C dX1_allWorn_20 ?_
        refine jm_istore_n C dX1_allWorn_21 (by decide) ?_
        refine jm_iinc C dX1_allWorn_22 (by decide) rfl ?_
        refine jm_goto 4 C dX1_allWorn_25 rfl ?_
        refine jm_lvs (lv' := [(0, _), (1, _), (2, _)]) (jm_sub_c rfl (jm_sub_c rfl (jm_sub_c rfl (jm_sub_0 _)))) ?_
        exact ih (m + 1) _ (by omega) (by omega) (by rw [hle]; rfl)
  refine jm_lvs (lv' := [(0, _), (1, _), (2, _)]) (jm_sub_c rfl (jm_sub_c rfl (jm_sub_c rfl (jm_sub_0 _)))) ?_
  exact lp4 _ 0 _ (Nat.lt_succ_self _) (Nat.zero_le _) rfl
set_option maxRecDepth 100000 in
set_option maxHeartbeats 4000000 in
theorem kX1_renew (E : jm_E) (w : jm_W) (I : jm_M) (k : Int) (h : jm_X1 E w k) : jm_Mv E yX1_renew wX1_renew rmX1_renew 0 0 w I [.ref (w.2.1 k)] (fun I' => I' = hk_fill (jm_up I k 1 1) (k + 100) 549 (fun _ => 0)) := by
  refine jm_in_v (cc := cX1_renew) (maxL := 2) RX1 (by decide +kernel) rfl rfl (Nat.le_of_ble_eq_true rfl) (by simp [Value.category]) ?_
  intro G C hR hI
  refine jm_aload_n C dX1_renew_0 rfl ?_
  refine jm_iconst C dX1_renew_1 ?_
  refine jm_put (ci := 1) (f := 1) (ty := .boolean) 1 rfl C rfl tyX1 tyX1_ok nmX1 jw_u_1 h.1 h.2.1 rfl (by decide) jw_f_RX1_15 rfl (by decide +kernel) (jm_nz (by decide)) (jm_fz (by decide)) dX1_renew_2 (by decide) ?_
  refine jm_iconst C dX1_renew_5 ?_
  refine jm_istore_n C dX1_renew_6 (by decide) ?_
  have lp7 : ∀ (yn : Nat) (m : Nat) (I2 : jm_M), 549 - m < yn → (m ≤ 549) → (I2 = hk_fill (jm_up I k 1 1) (k + 100) m (fun _ => 0)) → (∀ k j, jm_R (I2 k j)) → jm_J E G (0, 0) w I2 7 [(0, .ref (w.2.1 k)), (1, jm_v ((m : Nat) : Int))] [] := by
    intro yn
    induction yn with
    | zero => intro m I2 hlt hm hI2 hImem; exact absurd hlt (Nat.not_lt_zero _)
    | succ yn ih =>
      intro m I2 hlt hm hI2 hImem
      refine jm_iload_n C dX1_renew_7 rfl ?_
      refine jm_aload_n C dX1_renew_8 rfl ?_
      refine jm_getr (ci := 1) (f := 0) C rfl jw_u_1 h.1 h.2.1 rfl (by decide) jw_f_RX1_9 dX1_renew_9 ?_
      refine jm_alen 0 549 rfl C h.2.2.1 rfl h.2.2.2 dX1_renew_12 ?_
      refine jm_icmp_ge 29 C dX1_renew_13 rfl (by omega) (by decide) (fun yc1 => ?_) (fun yc1 => ?_)
      · skip
        exact hR _ _ _ dX1_renew_29 (by rw [hI2, show m = 549 by omega]; rfl)
      · skip
        refine jm_aload_n C dX1_renew_16 rfl ?_
        refine jm_getr (ci := 1) (f := 0) C rfl jw_u_1 h.1 h.2.1 rfl (by decide) jw_f_RX1_9 dX1_renew_17 ?_
        refine jm_iload_n C dX1_renew_20 rfl ?_
        refine jm_iconst C dX1_renew_21 ?_
        refine jm_iast C h.2.2.1 rfl h.2.2.2 (by omega) (by omega) (by omega) dX1_renew_22 (by decide) ?_
        refine jm_iinc C dX1_renew_23 (by decide) rfl ?_
        refine jm_goto 7 C dX1_renew_26 rfl ?_
        refine jm_lvs (lv' := [(0, _), (1, _)]) (jm_sub_c rfl (jm_sub_c rfl (jm_sub_0 _))) ?_
        exact ih (m + 1) _ (by omega) (by omega) (by rw [hI2]; exact hk_fill_s (jm_up I k 1 1) (k + 100) m (fun _ => 0)) (jm_upR hImem (by decide))
  refine jm_lvs (lv' := [(0, _), (1, _)]) (jm_sub_c rfl (jm_sub_c rfl (jm_sub_0 _))) ?_
  exact lp7 _ 0 _ (Nat.lt_succ_self _) (Nat.zero_le _) (hk_fill_0 _ _ _).symm (jm_upR hI (by decide))
set_option maxRecDepth 100000 in
set_option maxHeartbeats 4000000 in
theorem kX4_lastStonesPerGame (E : jm_E) (w : jm_W) (I : jm_M) (k : Int) (h : jm_X4 E w k) : jm_Mi E yX4_lastStonesPerGame wX4_lastStonesPerGame rmX4_lastStonesPerGame 0 0 w I [.ref (w.2.1 k)] (fun I' z => I' = I ∧ z = (if 0 < I k 1 then (I k 2).tdiv (I k 1) else 30)) := by
  refine jm_in_i (cc := cX4_lastStonesPerGame) (maxL := 1) (rt := .int) RX4 (by decide +kernel) rfl rfl (Nat.le_of_ble_eq_true rfl) (by simp [Value.category]) ?_
  intro G C hR hI
  refine jm_aload_n C dX4_lastStonesPerGame_0 rfl ?_
  refine jm_get (ci := 4) (f := 1) 1 rfl C rfl jw_u_4 h.1 h.2 rfl (by decide) jw_f_RX4_9 dX4_lastStonesPerGame_1 (fun yr1 => ?_)
  refine jm_if_le 19 C dX4_lastStonesPerGame_4 rfl (by omega) (fun yc2 => ?_) (fun yc2 => ?_)
  · skip
    refine jm_bipush C dX4_lastStonesPerGame_19 (by decide +kernel) ?_
    exact hR _ _ _ _ dX4_lastStonesPerGame_21 rfl ⟨rfl, by first | rw [if_pos (by omega)] | rw [if_neg (by omega)]⟩
  · skip
    refine jm_aload_n C dX4_lastStonesPerGame_7 rfl ?_
    refine jm_get (ci := 4) (f := 2) 2 rfl C rfl jw_u_4 h.1 h.2 rfl (by decide) jw_f_RX4_15 dX4_lastStonesPerGame_8 (fun yr3 => ?_)
    refine jm_aload_n C dX4_lastStonesPerGame_11 rfl ?_
    refine jm_get (ci := 4) (f := 1) 1 rfl C rfl jw_u_4 h.1 h.2 rfl (by decide) jw_f_RX4_9 dX4_lastStonesPerGame_12 (fun yr4 => ?_)
    refine jm_idiv C dX4_lastStonesPerGame_15 (by omega) (by omega) (by omega) ?_
    refine jm_goto 21 C dX4_lastStonesPerGame_16 rfl ?_
    exact hR _ _ _ _ dX4_lastStonesPerGame_21 rfl ⟨rfl, by first | rw [if_pos (by omega)] | rw [if_neg (by omega)]⟩
end
section
set_option maxRecDepth 100000 in
set_option maxHeartbeats 4000000 in
theorem kX0_isOnSheet (E : jm_E) (w : jm_W) (I : jm_M) (k : Int) (h : jm_X0 E w k) : jm_Mi E yX0_isOnSheet wX0_isOnSheet rmX0_isOnSheet 0 0 w I [.ref (w.2.1 k)] (fun I' z => I' = I ∧ (((I k 5 = 1 ∨ I k 5 = 2) ∧ z = 1) ∨ (¬ (I k 5 = 1 ∨ I k 5 = 2) ∧ z = 0))) := by
  refine jm_in_i (cc := cX0_isOnSheet) (maxL := 1) (rt := .boolean) RX0 (by decide +kernel) rfl rfl (Nat.le_of_ble_eq_true rfl) (by simp [Value.category]) ?_
  intro G C hR hI
  refine jm_aload_n C dX0_isOnSheet_0 rfl ?_
  refine jm_get (ci := 0) (f := 5) 5 rfl C rfl jw_u_0 h.1 h.2.1 rfl (by decide) jw_f_RX0_18 dX0_isOnSheet_1 (fun yr1 => ?_)
  refine jm_iconst C dX0_isOnSheet_4 ?_
  refine jm_icmp_eq 16 C dX0_isOnSheet_5 rfl (by omega) (by decide) (fun yc2 => ?_) (fun yc2 => ?_)
  · skip
    refine jm_iconst C dX0_isOnSheet_16 ?_
    refine jm_goto 21 C dX0_isOnSheet_17 rfl ?_
    exact hR _ _ _ _ dX0_isOnSheet_21 (jm_nz (by decide)) ⟨rfl, by omega⟩
  · skip
    refine jm_aload_n C dX0_isOnSheet_8 rfl ?_
    refine jm_get (ci := 0) (f := 5) 5 rfl C rfl jw_u_0 h.1 h.2.1 rfl (by decide) jw_f_RX0_18 dX0_isOnSheet_9 (fun yr3 => ?_)
    refine jm_iconst C dX0_isOnSheet_12 ?_
    refine jm_icmp_ne 20 C dX0_isOnSheet_13 rfl (by omega) (by decide) (fun yc4 => ?_) (fun yc4 => ?_)
    · skip
      refine jm_iconst C dX0_isOnSheet_20 ?_
      exact hR _ _ _ _ dX0_isOnSheet_21 (jm_nz (by decide)) ⟨rfl, by omega⟩
    · skip
      refine jm_iconst C dX0_isOnSheet_16 ?_
      refine jm_goto 21 C dX0_isOnSheet_17 rfl ?_
      exact hR _ _ _ _ dX0_isOnSheet_21 (jm_nz (by decide)) ⟨rfl, by omega⟩
set_option maxRecDepth 100000 in
set_option maxHeartbeats 4000000 in
theorem kX0_nextSide (E : jm_E) (w : jm_W) (I : jm_M) (k : Int) (h : jm_X0 E w k) : jm_Mi E yX0_nextSide wX0_nextSide rmX0_nextSide 0 0 w I [.ref (w.2.1 k)] (fun I' z => I' = I ∧ z = hk_nside (I k 5) (I k 11) (I k 12)) := by
  refine jm_in_i (cc := cX0_nextSide) (maxL := 1) (rt := .int) RX0 (by decide +kernel) rfl rfl (Nat.le_of_ble_eq_true rfl) (by simp [Value.category]) ?_
  intro G C hR hI
  refine jm_aload_n C dX0_nextSide_0 rfl ?_
  refine jm_get (ci := 0) (f := 5) 5 rfl C rfl jw_u_0 h.1 h.2.1 rfl (by decide) jw_f_RX0_18 dX0_nextSide_1 (fun yr1 => ?_)
  refine jm_iconst C dX0_nextSide_4 ?_
  refine jm_icmp_ne 13 C dX0_nextSide_5 rfl (by omega) (by decide) (fun yc2 => ?_) (fun yc2 => ?_)
  · skip
    refine jm_aload_n C dX0_nextSide_13 rfl ?_
    refine jm_get (ci := 0) (f := 5) 5 rfl C rfl jw_u_0 h.1 h.2.1 rfl (by decide) jw_f_RX0_18 dX0_nextSide_14 (fun yr3 => ?_)
    refine jm_iconst C dX0_nextSide_17 ?_
    refine jm_icmp_ne 44 C dX0_nextSide_18 rfl (by omega) (by decide) (fun yc4 => ?_) (fun yc4 => ?_)
    · skip
      refine jm_iconst C dX0_nextSide_44 ?_
      exact hR _ _ _ _ dX0_nextSide_45 rfl ⟨rfl, by unfold hk_nside; first | rw [if_pos (by omega)] | rw [if_neg (by omega), if_pos (by omega), if_pos (by omega)] | rw [if_neg (by omega), if_pos (by omega), if_neg (by omega)] | rw [if_neg (by omega), if_neg (by omega)]⟩
    · skip
      refine jm_aload_n C dX0_nextSide_21 rfl ?_
      refine jm_get (ci := 0) (f := 11) 11 rfl C rfl jw_u_0 h.1 h.2.1 rfl (by decide) jw_f_RX0_40 dX0_nextSide_22 (fun yr5 => ?_)
      refine jm_iconst C dX0_nextSide_25 ?_
      refine jm_irem C dX0_nextSide_26 (by omega) (by decide) (by decide) ?_
      have hmo := Int.tmod_lt_of_pos (I k 11) (show (0 : Int) < 2 by decide)
      have hmo2 := Int.lt_tmod_of_pos (I k 11) (show (0 : Int) < 2 by decide)
      refine jm_if_ne 39 C dX0_nextSide_27 rfl (by omega) (fun yc6 => ?_) (fun yc6 => ?_)
      · skip
        refine jm_aload_n C dX0_nextSide_39 rfl ?_
        refine jm_get (ci := 0) (f := 12) 12 rfl C rfl jw_u_0 h.1 h.2.1 rfl (by decide) jw_f_RX0_25 dX0_nextSide_40 (fun yr7 => ?_)
        exact hR _ _ _ _ dX0_nextSide_43 rfl ⟨rfl, by unfold hk_nside; first | rw [if_pos (by omega)] | rw [if_neg (by omega), if_pos (by omega), if_pos (by omega)] | rw [if_neg (by omega), if_pos (by omega), if_neg (by omega)] | rw [if_neg (by omega), if_neg (by omega)]⟩
      · skip
        refine jm_iconst C dX0_nextSide_30 ?_
        refine jm_aload_n C dX0_nextSide_31 rfl ?_
        refine jm_get (ci := 0) (f := 12) 12 rfl C rfl jw_u_0 h.1 h.2.1 rfl (by decide) jw_f_RX0_25 dX0_nextSide_32 (fun yr8 => ?_)
        refine jm_isub C dX0_nextSide_35 ?_
        refine jm_goto 43 C dX0_nextSide_36 rfl ?_
        exact hR _ _ _ _ dX0_nextSide_43 rfl ⟨rfl, by unfold hk_nside; first | rw [if_pos (by omega)] | rw [if_neg (by omega), if_pos (by omega), if_pos (by omega)] | rw [if_neg (by omega), if_pos (by omega), if_neg (by omega)] | rw [if_neg (by omega), if_neg (by omega)]⟩
  · skip
    refine jm_aload_n C dX0_nextSide_8 rfl ?_
    refine jm_get (ci := 0) (f := 11) 11 rfl C rfl jw_u_0 h.1 h.2.1 rfl (by decide) jw_f_RX0_40 dX0_nextSide_9 (fun yr9 => ?_)
    exact hR _ _ _ _ dX0_nextSide_12 rfl ⟨rfl, by unfold hk_nside; first | rw [if_pos (by omega)] | rw [if_neg (by omega), if_pos (by omega), if_pos (by omega)] | rw [if_neg (by omega), if_pos (by omega), if_neg (by omega)] | rw [if_neg (by omega), if_neg (by omega)]⟩
set_option maxRecDepth 100000 in
set_option maxHeartbeats 4000000 in
theorem kX0_nextStone (E : jm_E) (w : jm_W) (I : jm_M) (k : Int) (h : jm_X0 E w k) : jm_Mi E yX0_nextStone wX0_nextStone rmX0_nextStone 0 0 w I [.ref (w.2.1 k)] (fun I' z => I' = I ∧ z = hk_nside (I k 5) (I k 11) (I k 12) * 3 + (I k 11).tdiv 2) := by
  refine jm_in_i (cc := cX0_nextStone) (maxL := 1) (rt := .int) RX0 (by decide +kernel) rfl rfl (Nat.le_of_ble_eq_true rfl) (by simp [Value.category]) ?_
  intro G C hR hI
  refine jm_aload_n C dX0_nextStone_0 rfl ?_
  refine jm_cVd (n := 0) (ci := 0) [] C (kX0_nextSide E w I _ h) jw_m_RX0_43 okX0_nextSide rfl ⟨rfl, rfl⟩ ⟨Nat.le_of_ble_eq_true rfl, Nat.le_of_ble_eq_true rfl⟩ rfl h.1 h.2.1 rfl rfl (Nat.le_of_ble_eq_true rfl) dX0_nextStone_1 ⟨Nat.le_of_ble_eq_true rfl, Nat.le_of_ble_eq_true rfl⟩ (fun yz2 yh1 => ?_)
  subst yh1
  refine jm_iconst C dX0_nextStone_4 ?_
  refine jm_imul C dX0_nextStone_5 ?_
  refine jm_aload_n C dX0_nextStone_6 rfl ?_
  refine jm_get (ci := 0) (f := 11) 11 rfl C rfl jw_u_0 h.1 h.2.1 rfl (by decide) jw_f_RX0_40 dX0_nextStone_7 (fun yr3 => ?_)
  refine jm_iconst C dX0_nextStone_10 ?_
  refine jm_idiv C dX0_nextStone_11 (by omega) (by decide) (by decide) ?_
  refine jm_iadd C dX0_nextStone_12 ?_
  exact hR _ _ _ _ dX0_nextStone_13 rfl ⟨rfl, rfl⟩
set_option maxRecDepth 100000 in
set_option maxHeartbeats 4000000 in
theorem kX0_takeDraw (E : jm_E) (w : jm_W) (I : jm_M) (k : Int) (h : jm_X0 E w k) (d : Int) (hd : jm_R d) : jm_Mv E yX0_takeDraw wX0_takeDraw rmX0_takeDraw 0 0 w I [.ref (w.2.1 k), jm_v d] (fun I' => I' = hk_draw I k d) := by
  refine jm_in_v (cc := cX0_takeDraw) (maxL := 2) RX0 (by decide +kernel) rfl rfl (Nat.le_of_ble_eq_true rfl) (by simp [Value.category]) ?_
  intro G C hR hI
  refine jm_aload_n C dX0_takeDraw_0 rfl ?_
  refine jm_get (ci := 0) (f := 11) 11 rfl C rfl jw_u_0 h.1 h.2.1 rfl (by decide) jw_f_RX0_40 dX0_takeDraw_1 (fun yr1 => ?_)
  refine jm_if_ne 18 C dX0_takeDraw_4 rfl (by omega) (fun yc2 => ?_) (fun yc2 => ?_)
  · skip
    refine jm_aload_n C dX0_takeDraw_18 rfl ?_
    refine jm_aload_n C dX0_takeDraw_19 rfl ?_
    refine jm_get (ci := 0) (f := 7) 7 rfl C rfl jw_u_0 h.1 h.2.1 rfl (by decide) jw_f_RX0_47 dX0_takeDraw_20 (fun yr3 => ?_)
    refine jm_iload_n C dX0_takeDraw_23 rfl ?_
    refine jm_icmp_ge 31 C dX0_takeDraw_24 rfl (by omega) hd (fun yc4 => ?_) (fun yc4 => ?_)
    · skip
      refine jm_iconst C dX0_takeDraw_31 ?_
      refine jm_put (ci := 0) (f := 12) (ty := .int) 12 rfl C rfl tyX0 tyX0_ok nmX0 jw_u_0 h.1 h.2.1 rfl (by decide) jw_f_RX0_25 rfl (by decide +kernel) rfl rfl dX0_takeDraw_32 (by decide) ?_
      refine jm_aload_n C dX0_takeDraw_35 rfl ?_
      refine jm_iconst C dX0_takeDraw_36 ?_
      refine jm_put (ci := 0) (f := 11) (ty := .int) 11 rfl C rfl tyX0 tyX0_ok nmX0 jw_u_0 h.1 h.2.1 rfl (by decide) jw_f_RX0_40 rfl (by decide +kernel) rfl rfl dX0_takeDraw_37 (by decide) ?_
      refine jm_aload_n C dX0_takeDraw_40 rfl ?_
      refine jm_iconst C dX0_takeDraw_41 ?_
      refine jm_put (ci := 0) (f := 5) (ty := .int) 5 rfl C rfl tyX0 tyX0_ok nmX0 jw_u_0 h.1 h.2.1 rfl (by decide) jw_f_RX0_18 rfl (by decide +kernel) rfl rfl dX0_takeDraw_42 (by decide) ?_
      exact hR _ _ _ dX0_takeDraw_45 (by unfold hk_draw; first | rw [if_pos (by omega)] | rw [if_neg (by omega), if_pos (by omega)] | rw [if_neg (by omega), if_neg (by omega)])
    · skip
      refine jm_iconst C dX0_takeDraw_27 ?_
      refine jm_goto 32 C dX0_takeDraw_28 rfl ?_
      refine jm_put (ci := 0) (f := 12) (ty := .int) 12 rfl C rfl tyX0 tyX0_ok nmX0 jw_u_0 h.1 h.2.1 rfl (by decide) jw_f_RX0_25 rfl (by decide +kernel) rfl rfl dX0_takeDraw_32 (by decide) ?_
      refine jm_aload_n C dX0_takeDraw_35 rfl ?_
      refine jm_iconst C dX0_takeDraw_36 ?_
      refine jm_put (ci := 0) (f := 11) (ty := .int) 11 rfl C rfl tyX0 tyX0_ok nmX0 jw_u_0 h.1 h.2.1 rfl (by decide) jw_f_RX0_40 rfl (by decide +kernel) rfl rfl dX0_takeDraw_37 (by decide) ?_
      refine jm_aload_n C dX0_takeDraw_40 rfl ?_
      refine jm_iconst C dX0_takeDraw_41 ?_
      refine jm_put (ci := 0) (f := 5) (ty := .int) 5 rfl C rfl tyX0 tyX0_ok nmX0 jw_u_0 h.1 h.2.1 rfl (by decide) jw_f_RX0_18 rfl (by decide +kernel) rfl rfl dX0_takeDraw_42 (by decide) ?_
      exact hR _ _ _ dX0_takeDraw_45 (by unfold hk_draw; first | rw [if_pos (by omega)] | rw [if_neg (by omega), if_pos (by omega)] | rw [if_neg (by omega), if_neg (by omega)])
  · skip
    refine jm_aload_n C dX0_takeDraw_7 rfl ?_
    refine jm_iload_n C dX0_takeDraw_8 rfl ?_
    refine jm_put (ci := 0) (f := 7) (ty := .int) 7 rfl C rfl tyX0 tyX0_ok nmX0 jw_u_0 h.1 h.2.1 rfl (by decide) jw_f_RX0_47 rfl (by decide +kernel) rfl rfl dX0_takeDraw_9 hd ?_
    refine jm_aload_n C dX0_takeDraw_12 rfl ?_
    refine jm_iconst C dX0_takeDraw_13 ?_
    refine jm_put (ci := 0) (f := 11) (ty := .int) 11 rfl C rfl tyX0 tyX0_ok nmX0 jw_u_0 h.1 h.2.1 rfl (by decide) jw_f_RX0_40 rfl (by decide +kernel) rfl rfl dX0_takeDraw_14 (by decide) ?_
    exact hR _ _ _ dX0_takeDraw_17 (by unfold hk_draw; first | rw [if_pos (by omega)] | rw [if_neg (by omega), if_pos (by omega)] | rw [if_neg (by omega), if_neg (by omega)])
set_option maxRecDepth 100000 in
set_option maxHeartbeats 4000000 in
theorem kX0_closeEnd (E : jm_E) (w : jm_W) (I : jm_M) (k : Int) (h : jm_X0 E w k) (h8 : 0 ≤ I k 8 ∧ I k 8 ≤ 100000) (h9 : 0 ≤ I k 9 ∧ I k 9 ≤ 100000) (h10 : 0 ≤ I k 10 ∧ I k 10 ≤ 100000) : jm_Mv E yX0_closeEnd wX0_closeEnd rmX0_closeEnd 0 0 w I [.ref (w.2.1 k)] (fun I' => I' = hk_close I k) := by
  refine jm_in_v (cc := cX0_closeEnd) (maxL := 2) RX0 (by decide +kernel) rfl rfl (Nat.le_of_ble_eq_true rfl) (by simp [Value.category]) ?_
  intro G C hR hI
  have hkk : ¬ k = k + 100 + 100 := by omega
  refine jm_aload_n C dX0_closeEnd_0 rfl ?_
  refine jm_getr (ci := 0) (f := 3) C rfl jw_u_0 h.1 h.2.1 rfl (by decide) jw_f_RX0_12 dX0_closeEnd_1 ?_
  refine jm_cVd (n := 0) (ci := 3) [] C (kX3_score E w I _ h.2.2) jw_m_RX0_50 okX3_score rfl ⟨rfl, rfl⟩ ⟨Nat.le_of_ble_eq_true rfl, Nat.le_of_ble_eq_true rfl⟩ rfl h.2.2.1 h.2.2.2.1 rfl rfl (Nat.le_of_ble_eq_true rfl) dX0_closeEnd_4 ⟨Nat.le_of_ble_eq_true rfl, Nat.le_of_ble_eq_true rfl⟩ (fun yz2 yh1 => ?_)
  subst yh1
  have yh1r := hk_score_r (I ((k + 100) + 100))
  refine jm_istore_n C dX0_closeEnd_7 (by decide) ?_
  refine jm_iload_n C dX0_closeEnd_8 rfl ?_
  refine jm_if_le 30 C dX0_closeEnd_9 rfl (by omega) (fun yc3 => ?_) (fun yc3 => ?_)
  · skip
    refine jm_iload_n C dX0_closeEnd_30 rfl ?_
    refine jm_if_ge 49 C dX0_closeEnd_31 rfl (by omega) (fun yc4 => ?_) (fun yc4 => ?_)
    · skip
      refine jm_aload_n C dX0_closeEnd_49 rfl ?_
      refine jm_getr (ci := 0) (f := 3) C rfl jw_u_0 h.1 h.2.1 rfl (by decide) jw_f_RX0_12 dX0_closeEnd_50 ?_
      refine jm_cVu (n := 0) (ci := 3) [] C (kX3_takeAway E w I _ h.2.2) jw_m_RX0_59 okX3_takeAway rfl ⟨rfl, rfl⟩ ⟨Nat.le_of_ble_eq_true rfl, Nat.le_of_ble_eq_true rfl⟩ rfl h.2.2.1 h.2.2.2.1 rfl rfl (Nat.le_of_ble_eq_true rfl) dX0_closeEnd_53 ⟨Nat.le_of_ble_eq_true rfl, Nat.le_of_ble_eq_true rfl⟩ ?_
      refine jm_aload_n C dX0_closeEnd_56 rfl ?_
      refine jm_iconst C dX0_closeEnd_57 ?_
      refine jm_put (ci := 0) (f := 11) (ty := .int) 11 rfl C rfl tyX0 tyX0_ok nmX0 jw_u_0 h.1 h.2.1 rfl (by decide) jw_f_RX0_40 rfl (by decide +kernel) rfl rfl dX0_closeEnd_58 (by decide) ?_
      refine jm_aload_n C dX0_closeEnd_61 rfl ?_
      refine jm_dup C dX0_closeEnd_62 rfl ?_
      refine jm_getv (ci := 0) (f := 10) (I k 10) 10 rfl (by simp [jm_up, hk_fill, hkk]) C rfl jw_u_0 h.1 h.2.1 rfl (by decide) jw_f_RX0_62 dX0_closeEnd_63 (fun yr7 => ?_)
      refine jm_iconst C dX0_closeEnd_66 ?_
      refine jm_iadd C dX0_closeEnd_67 ?_
      refine jm_put (ci := 0) (f := 10) (ty := .int) 10 rfl C rfl tyX0 tyX0_ok nmX0 jw_u_0 h.1 h.2.1 rfl (by decide) jw_f_RX0_62 rfl (by decide +kernel) rfl rfl dX0_closeEnd_68 (by omega) ?_
      exact hR _ _ _ dX0_closeEnd_71 (by unfold hk_close; dsimp only; first | rw [if_pos (by omega)] | rw [if_neg (by omega), if_pos (by omega)] | rw [if_neg (by omega), if_neg (by omega)])
    · skip
      refine jm_aload_n C dX0_closeEnd_34 rfl ?_
      refine jm_dup C dX0_closeEnd_35 rfl ?_
      refine jm_get (ci := 0) (f := 9) 9 rfl C rfl jw_u_0 h.1 h.2.1 rfl (by decide) jw_f_RX0_56 dX0_closeEnd_36 (fun yr8 => ?_)
      refine jm_iload_n C dX0_closeEnd_39 rfl ?_
      refine jm_isub C dX0_closeEnd_40 ?_
      refine jm_put (ci := 0) (f := 9) (ty := .int) 9 rfl C rfl tyX0 tyX0_ok nmX0 jw_u_0 h.1 h.2.1 rfl (by decide) jw_f_RX0_56 rfl (by decide +kernel) rfl rfl dX0_closeEnd_41 (by omega) ?_
      refine jm_aload_n C dX0_closeEnd_44 rfl ?_
      refine jm_iconst C dX0_closeEnd_45 ?_
      refine jm_put (ci := 0) (f := 12) (ty := .int) 12 rfl C rfl tyX0 tyX0_ok nmX0 jw_u_0 h.1 h.2.1 rfl (by decide) jw_f_RX0_25 rfl (by decide +kernel) rfl rfl dX0_closeEnd_46 (by decide) ?_
      refine jm_aload_n C dX0_closeEnd_49 rfl ?_
      refine jm_getr (ci := 0) (f := 3) C rfl jw_u_0 h.1 h.2.1 rfl (by decide) jw_f_RX0_12 dX0_closeEnd_50 ?_
      refine jm_cVu (n := 0) (ci := 3) [] C (kX3_takeAway E w (jm_up (jm_up I k 9 ((I k 9) - (hk_score (I ((k + 100) + 100))))) k 12 0) _ h.2.2) jw_m_RX0_59 okX3_takeAway rfl ⟨rfl, rfl⟩ ⟨Nat.le_of_ble_eq_true rfl, Nat.le_of_ble_eq_true rfl⟩ rfl h.2.2.1 h.2.2.2.1 rfl rfl (Nat.le_of_ble_eq_true rfl) dX0_closeEnd_53 ⟨Nat.le_of_ble_eq_true rfl, Nat.le_of_ble_eq_true rfl⟩ ?_
      refine jm_aload_n C dX0_closeEnd_56 rfl ?_
      refine jm_iconst C dX0_closeEnd_57 ?_
      refine jm_put (ci := 0) (f := 11) (ty := .int) 11 rfl C rfl tyX0 tyX0_ok nmX0 jw_u_0 h.1 h.2.1 rfl (by decide) jw_f_RX0_40 rfl (by decide +kernel) rfl rfl dX0_closeEnd_58 (by decide) ?_
      refine jm_aload_n C dX0_closeEnd_61 rfl ?_
      refine jm_dup C dX0_closeEnd_62 rfl ?_
      refine jm_getv (ci := 0) (f := 10) (I k 10) 10 rfl (by simp [jm_up, hk_fill, hkk]) C rfl jw_u_0 h.1 h.2.1 rfl (by decide) jw_f_RX0_62 dX0_closeEnd_63 (fun yr11 => ?_)
      refine jm_iconst C dX0_closeEnd_66 ?_
      refine jm_iadd C dX0_closeEnd_67 ?_
      refine jm_put (ci := 0) (f := 10) (ty := .int) 10 rfl C rfl tyX0 tyX0_ok nmX0 jw_u_0 h.1 h.2.1 rfl (by decide) jw_f_RX0_62 rfl (by decide +kernel) rfl rfl dX0_closeEnd_68 (by omega) ?_
      exact hR _ _ _ dX0_closeEnd_71 (by unfold hk_close; dsimp only; first | rw [if_pos (by omega)] | rw [if_neg (by omega), if_pos (by omega)] | rw [if_neg (by omega), if_neg (by omega)])
  · skip
    refine jm_aload_n C dX0_closeEnd_12 rfl ?_
    refine jm_dup C dX0_closeEnd_13 rfl ?_
    refine jm_get (ci := 0) (f := 8) 8 rfl C rfl jw_u_0 h.1 h.2.1 rfl (by decide) jw_f_RX0_53 dX0_closeEnd_14 (fun yr12 => ?_)
    refine jm_iload_n C dX0_closeEnd_17 rfl ?_
    refine jm_iadd C dX0_closeEnd_18 ?_
    refine jm_put (ci := 0) (f := 8) (ty := .int) 8 rfl C rfl tyX0 tyX0_ok nmX0 jw_u_0 h.1 h.2.1 rfl (by decide) jw_f_RX0_53 rfl (by decide +kernel) rfl rfl dX0_closeEnd_19 (by omega) ?_
    refine jm_aload_n C dX0_closeEnd_22 rfl ?_
    refine jm_iconst C dX0_closeEnd_23 ?_
    refine jm_put (ci := 0) (f := 12) (ty := .int) 12 rfl C rfl tyX0 tyX0_ok nmX0 jw_u_0 h.1 h.2.1 rfl (by decide) jw_f_RX0_25 rfl (by decide +kernel) rfl rfl dX0_closeEnd_24 (by decide) ?_
    refine jm_goto 49 C dX0_closeEnd_27 rfl ?_
    refine jm_aload_n C dX0_closeEnd_49 rfl ?_
    refine jm_getr (ci := 0) (f := 3) C rfl jw_u_0 h.1 h.2.1 rfl (by decide) jw_f_RX0_12 dX0_closeEnd_50 ?_
    refine jm_cVu (n := 0) (ci := 3) [] C (kX3_takeAway E w (jm_up (jm_up I k 8 ((I k 8) + (hk_score (I ((k + 100) + 100))))) k 12 1) _ h.2.2) jw_m_RX0_59 okX3_takeAway rfl ⟨rfl, rfl⟩ ⟨Nat.le_of_ble_eq_true rfl, Nat.le_of_ble_eq_true rfl⟩ rfl h.2.2.1 h.2.2.2.1 rfl rfl (Nat.le_of_ble_eq_true rfl) dX0_closeEnd_53 ⟨Nat.le_of_ble_eq_true rfl, Nat.le_of_ble_eq_true rfl⟩ ?_
    refine jm_aload_n C dX0_closeEnd_56 rfl ?_
    refine jm_iconst C dX0_closeEnd_57 ?_
    refine jm_put (ci := 0) (f := 11) (ty := .int) 11 rfl C rfl tyX0 tyX0_ok nmX0 jw_u_0 h.1 h.2.1 rfl (by decide) jw_f_RX0_40 rfl (by decide +kernel) rfl rfl dX0_closeEnd_58 (by decide) ?_
    refine jm_aload_n C dX0_closeEnd_61 rfl ?_
    refine jm_dup C dX0_closeEnd_62 rfl ?_
    refine jm_getv (ci := 0) (f := 10) (I k 10) 10 rfl (by simp [jm_up, hk_fill, hkk]) C rfl jw_u_0 h.1 h.2.1 rfl (by decide) jw_f_RX0_62 dX0_closeEnd_63 (fun yr15 => ?_)
    refine jm_iconst C dX0_closeEnd_66 ?_
    refine jm_iadd C dX0_closeEnd_67 ?_
    refine jm_put (ci := 0) (f := 10) (ty := .int) 10 rfl C rfl tyX0 tyX0_ok nmX0 jw_u_0 h.1 h.2.1 rfl (by decide) jw_f_RX0_62 rfl (by decide +kernel) rfl rfl dX0_closeEnd_68 (by omega) ?_
    exact hR _ _ _ dX0_closeEnd_71 (by unfold hk_close; dsimp only; first | rw [if_pos (by omega)] | rw [if_neg (by omega), if_pos (by omega)] | rw [if_neg (by omega), if_neg (by omega)])
set_option maxRecDepth 100000 in
set_option maxHeartbeats 4000000 in
theorem kX2_aim (E : jm_E) (w : jm_W) (I : jm_M) (k : Int) (h : jm_X2 E w k) (ln wt tn lo hi : Int) (h1 : jm_R ln) (h2 : 0 ≤ wt ∧ wt ≤ 1000) (h3 : jm_R tn) (h4 : jm_R lo) (h5 : jm_R hi) : jm_Mv E yX2_aim wX2_aim rmX2_aim 0 0 w I [.ref (w.2.1 k), jm_v ln, jm_v wt, jm_v tn, jm_v lo, jm_v hi] (fun I' => I' = jm_up (jm_up (jm_up (jm_up (jm_up (jm_up I k 2 ln) k 3 0) k 4 (10 * wt)) k 5 tn) k 6 lo) k 7 hi) := by
  refine jm_in_v (cc := cX2_aim) (maxL := 6) RX2 (by decide +kernel) rfl rfl (Nat.le_of_ble_eq_true rfl) (by simp [Value.category]) ?_
  intro G C hR hI
  refine jm_aload_n C dX2_aim_0 rfl ?_
  refine jm_iload_n C dX2_aim_1 rfl ?_
  refine jm_put (ci := 2) (f := 2) (ty := .int) 2 rfl C rfl tyX2 tyX2_ok nmX2 jw_u_2 h.1 h.2.1 rfl (by decide) jw_f_RX2_22 rfl (by decide +kernel) rfl rfl dX2_aim_2 h1 ?_
  refine jm_aload_n C dX2_aim_5 rfl ?_
  refine jm_iconst C dX2_aim_6 ?_
  refine jm_put (ci := 2) (f := 3) (ty := .int) 3 rfl C rfl tyX2 tyX2_ok nmX2 jw_u_2 h.1 h.2.1 rfl (by decide) jw_f_RX2_25 rfl (by decide +kernel) rfl rfl dX2_aim_7 (by decide) ?_
  refine jm_aload_n C dX2_aim_10 rfl ?_
  refine jm_bipush C dX2_aim_11 (by decide +kernel) ?_
  refine jm_iload_n C dX2_aim_13 rfl ?_
  refine jm_imul C dX2_aim_14 ?_
  refine jm_put (ci := 2) (f := 4) (ty := .int) 4 rfl C rfl tyX2 tyX2_ok nmX2 jw_u_2 h.1 h.2.1 rfl (by decide) jw_f_RX2_28 rfl (by decide +kernel) rfl rfl dX2_aim_15 (by omega) ?_
  refine jm_aload_n C dX2_aim_18 rfl ?_
  refine jm_iload_n C dX2_aim_19 rfl ?_
  refine jm_put (ci := 2) (f := 5) (ty := .int) 5 rfl C rfl tyX2 tyX2_ok nmX2 jw_u_2 h.1 h.2.1 rfl (by decide) jw_f_RX2_31 rfl (by decide +kernel) rfl rfl dX2_aim_20 h3 ?_
  refine jm_aload_n C dX2_aim_23 rfl ?_
  refine jm_iload C dX2_aim_24 rfl ?_
  refine jm_put (ci := 2) (f := 6) (ty := .int) 6 rfl C rfl tyX2 tyX2_ok nmX2 jw_u_2 h.1 h.2.1 rfl (by decide) jw_f_RX2_34 rfl (by decide +kernel) rfl rfl dX2_aim_26 h4 ?_
  refine jm_aload_n C dX2_aim_29 rfl ?_
  refine jm_iload C dX2_aim_30 rfl ?_
  refine jm_put (ci := 2) (f := 7) (ty := .int) 7 rfl C rfl tyX2 tyX2_ok nmX2 jw_u_2 h.1 h.2.1 rfl (by decide) jw_f_RX2_37 rfl (by decide +kernel) rfl rfl dX2_aim_32 h5 ?_
  exact hR _ _ _ dX2_aim_35 rfl
set_option maxRecDepth 100000 in
set_option maxHeartbeats 4000000 in
theorem kX2_aimPushed (E : jm_E) (w : jm_W) (I : jm_M) (k : Int) (h : jm_X2 E w k) (p : Int) (hp : 0 ≤ p ∧ p ≤ 10000) : jm_Mv E yX2_aimPushed wX2_aimPushed rmX2_aimPushed 0 0 w I [.ref (w.2.1 k), jm_v p] (fun I' => I' = jm_up (jm_up (jm_up (jm_up (jm_up I k 2 (p.tdiv 100)) k 3 (p.tmod 100)) k 5 0) k 6 1) k 7 0) := by
  refine jm_in_v (cc := cX2_aimPushed) (maxL := 2) RX2 (by decide +kernel) rfl rfl (Nat.le_of_ble_eq_true rfl) (by simp [Value.category]) ?_
  intro G C hR hI
  obtain ⟨hd1, hd2⟩ := hk_div p hp.1
  refine jm_aload_n C dX2_aimPushed_0 rfl ?_
  refine jm_iload_n C dX2_aimPushed_1 rfl ?_
  refine jm_bipush C dX2_aimPushed_2 (by decide +kernel) ?_
  refine jm_idiv C dX2_aimPushed_4 (by omega) (by decide) (by decide) ?_
  refine jm_put (ci := 2) (f := 2) (ty := .int) 2 rfl C rfl tyX2 tyX2_ok nmX2 jw_u_2 h.1 h.2.1 rfl (by decide) jw_f_RX2_22 rfl (by decide +kernel) rfl rfl dX2_aimPushed_5 (by omega) ?_
  refine jm_aload_n C dX2_aimPushed_8 rfl ?_
  refine jm_iload_n C dX2_aimPushed_9 rfl ?_
  refine jm_bipush C dX2_aimPushed_10 (by decide +kernel) ?_
  refine jm_irem C dX2_aimPushed_12 (by omega) (by decide) (by decide) ?_
  refine jm_put (ci := 2) (f := 3) (ty := .int) 3 rfl C rfl tyX2 tyX2_ok nmX2 jw_u_2 h.1 h.2.1 rfl (by decide) jw_f_RX2_25 rfl (by decide +kernel) rfl rfl dX2_aimPushed_13 (by omega) ?_
  refine jm_aload_n C dX2_aimPushed_16 rfl ?_
  refine jm_iconst C dX2_aimPushed_17 ?_
  refine jm_put (ci := 2) (f := 5) (ty := .int) 5 rfl C rfl tyX2 tyX2_ok nmX2 jw_u_2 h.1 h.2.1 rfl (by decide) jw_f_RX2_31 rfl (by decide +kernel) rfl rfl dX2_aimPushed_18 (by decide) ?_
  refine jm_aload_n C dX2_aimPushed_21 rfl ?_
  refine jm_iconst C dX2_aimPushed_22 ?_
  refine jm_put (ci := 2) (f := 6) (ty := .int) 6 rfl C rfl tyX2 tyX2_ok nmX2 jw_u_2 h.1 h.2.1 rfl (by decide) jw_f_RX2_34 rfl (by decide +kernel) rfl rfl dX2_aimPushed_23 (by decide) ?_
  refine jm_aload_n C dX2_aimPushed_26 rfl ?_
  refine jm_iconst C dX2_aimPushed_27 ?_
  refine jm_put (ci := 2) (f := 7) (ty := .int) 7 rfl C rfl tyX2 tyX2_ok nmX2 jw_u_2 h.1 h.2.1 rfl (by decide) jw_f_RX2_37 rfl (by decide +kernel) rfl rfl dX2_aimPushed_28 (by decide) ?_
  exact hR _ _ _ dX2_aimPushed_31 rfl
set_option maxRecDepth 100000 in
set_option maxHeartbeats 4000000 in
theorem kX2_isSwept (E : jm_E) (w : jm_W) (I : jm_M) (k : Int) (h : jm_X2 E w k) (y : Int) (hy : jm_R y) : jm_Mi E yX2_isSwept wX2_isSwept rmX2_isSwept 0 0 w I [.ref (w.2.1 k), jm_v y] (fun I' z => I' = I ∧ ((I k 6 ≤ y ∧ y ≤ I k 7 ∧ z = 1) ∨ (¬ (I k 6 ≤ y ∧ y ≤ I k 7) ∧ z = 0))) := by
  refine jm_in_i (cc := cX2_isSwept) (maxL := 2) (rt := .boolean) RX2 (by decide +kernel) rfl rfl (Nat.le_of_ble_eq_true rfl) (by simp [Value.category]) ?_
  intro G C hR hI
  refine jm_iload_n C dX2_isSwept_0 rfl ?_
  refine jm_aload_n C dX2_isSwept_1 rfl ?_
  refine jm_get (ci := 2) (f := 6) 6 rfl C rfl jw_u_2 h.1 h.2.1 rfl (by decide) jw_f_RX2_34 dX2_isSwept_2 (fun yr1 => ?_)
  refine jm_aload_n C dX2_isSwept_5 rfl ?_
  refine jm_get (ci := 2) (f := 7) 7 rfl C rfl jw_u_2 h.1 h.2.1 rfl (by decide) jw_f_RX2_37 dX2_isSwept_6 (fun yr2 => ?_)
  refine jm_cNd (n := 3) [] C (kX5_isWithin E w I _ _ _ hy (by omega) (by omega)) RX5 jm_n_isWithin okX5_isWithin rfl ⟨rfl, rfl⟩ ⟨Nat.le_of_ble_eq_true rfl, Nat.le_of_ble_eq_true rfl⟩ rfl rfl (Nat.le_of_ble_eq_true rfl) dX2_isSwept_9 ⟨Nat.le_of_ble_eq_true rfl, Nat.le_of_ble_eq_true rfl⟩ (fun yz4 yh3 => ?_)
  exact hR _ _ _ _ dX2_isSwept_12 (jm_nz (by omega)) ⟨rfl, by omega⟩
set_option maxRecDepth 100000 in
set_option maxHeartbeats 4000000 in
theorem kX2_restingPlace (E : jm_E) (w : jm_W) (I : jm_M) (k : Int) (h : jm_X2 E w k) (h2 : 0 ≤ I k 2 ∧ I k 2 ≤ 8) (h3 : 0 ≤ I k 3 ∧ I k 3 ≤ 60) : jm_Mi E yX2_restingPlace wX2_restingPlace rmX2_restingPlace 0 0 w I [.ref (w.2.1 k)] (fun I' z => I' = I ∧ z = hk_rest (I k 2) (I k 3)) := by
  refine jm_in_i (cc := cX2_restingPlace) (maxL := 1) (rt := .int) RX2 (by decide +kernel) rfl rfl (Nat.le_of_ble_eq_true rfl) (by simp [Value.category]) ?_
  intro G C hR hI
  refine jm_aload_n C dX2_restingPlace_0 rfl ?_
  refine jm_get (ci := 2) (f := 3) 3 rfl C rfl jw_u_2 h.1 h.2.1 rfl (by decide) jw_f_RX2_25 dX2_restingPlace_1 (fun yr1 => ?_)
  refine jm_bipush C dX2_restingPlace_4 (by decide +kernel) ?_
  refine jm_icmp_ge 13 C dX2_restingPlace_6 rfl (by omega) (by decide) (fun yc2 => ?_) (fun yc2 => ?_)
  · skip
    refine jm_bipush C dX2_restingPlace_13 (by decide +kernel) ?_
    refine jm_aload_n C dX2_restingPlace_15 rfl ?_
    refine jm_get (ci := 2) (f := 2) 2 rfl C rfl jw_u_2 h.1 h.2.1 rfl (by decide) jw_f_RX2_22 dX2_restingPlace_16 (fun yr3 => ?_)
    refine jm_imul C dX2_restingPlace_19 ?_
    refine jm_aload_n C dX2_restingPlace_20 rfl ?_
    refine jm_get (ci := 2) (f := 3) 3 rfl C rfl jw_u_2 h.1 h.2.1 rfl (by decide) jw_f_RX2_25 dX2_restingPlace_21 (fun yr4 => ?_)
    refine jm_iadd C dX2_restingPlace_24 ?_
    exact hR _ _ _ _ dX2_restingPlace_25 rfl ⟨rfl, by unfold hk_rest; first | rw [if_pos (by omega)] | rw [if_neg (by omega)]⟩
  · skip
    refine jm_iconst C dX2_restingPlace_9 ?_
    refine jm_goto 25 C dX2_restingPlace_10 rfl ?_
    exact hR _ _ _ _ dX2_restingPlace_25 rfl ⟨rfl, by unfold hk_rest; first | rw [if_pos (by omega)] | rw [if_neg (by omega)]⟩
set_option maxRecDepth 100000 in
set_option maxHeartbeats 4000000 in
theorem kX2_mustMoveAside (E : jm_E) (w : jm_W) (I : jm_M) (k : Int) (h : jm_X2 E w k) (ln y en sp ht : Int) (hy : 0 ≤ y ∧ y ≤ 60) (hsp : 0 ≤ sp ∧ sp ≤ 1000) (hen : jm_R en) : jm_Mi E yX2_mustMoveAside wX2_mustMoveAside rmX2_mustMoveAside 0 0 w (hk_sl I k ln y en sp ht) [.ref (w.2.1 k)] (fun I' z => (I k 5 = 0 ∧ z = 0 ∧ I' = hk_sl I k ln y en sp ht) ∨ (I k 6 ≤ y ∧ y ≤ I k 7 ∧ z = 0 ∧ I' = hk_sl I k ln y en sp ht) ∨ (I k 5 ≠ 0 ∧ ¬ (I k 6 ≤ y ∧ y ≤ I k 7) ∧ (12 ≤ sp + 1 ∨ (en < 300 ∧ 6 ≤ sp + 1)) ∧ z = 1 ∧ I' = hk_sl I k ln y en (sp + 1) ht) ∨ (I k 5 ≠ 0 ∧ ¬ (I k 6 ≤ y ∧ y ≤ I k 7) ∧ ¬ (12 ≤ sp + 1 ∨ (en < 300 ∧ 6 ≤ sp + 1)) ∧ z = 0 ∧ I' = hk_sl I k ln y en (sp + 1) ht)) := by
  refine jm_in_i (cc := cX2_mustMoveAside) (maxL := 1) (rt := .boolean) RX2 (by decide +kernel) rfl rfl (Nat.le_of_ble_eq_true rfl) (by simp [Value.category]) ?_
  intro G C hR hI
  refine jm_aload_n C dX2_mustMoveAside_0 rfl ?_
  refine jm_getv (ci := 2) (f := 5) (I k 5) 5 rfl (hk_sl_gk _ _ _ _ _ _ _ _ (by decide)) C rfl jw_u_2 h.1 h.2.1 rfl (by decide) jw_f_RX2_31 dX2_mustMoveAside_1 (fun yr1 => ?_)
  refine jm_if_eq 18 C dX2_mustMoveAside_4 rfl (by omega) (fun yc2 => ?_) (fun yc2 => ?_)
  · skip
    refine jm_iconst C dX2_mustMoveAside_18 ?_
    exact hR _ _ _ _ dX2_mustMoveAside_19 (jm_nz (by decide)) (by first | exact Or.inl ⟨by omega, rfl, rfl⟩ | exact Or.inr (Or.inl ⟨by omega, by omega, rfl, rfl⟩) | exact Or.inr (Or.inr (Or.inl ⟨by omega, by omega, by omega, rfl, rfl⟩)) | exact Or.inr (Or.inr (Or.inr ⟨by omega, by omega, by omega, rfl, rfl⟩)))
  · skip
    refine jm_aload_n C dX2_mustMoveAside_7 rfl ?_
    refine jm_aload_n C dX2_mustMoveAside_8 rfl ?_
    refine jm_getv (ci := 2) (f := 3) y 3 rfl (hk_sl_g3 _ _ _ _ _ _ _) C rfl jw_u_2 h.1 h.2.1 rfl (by decide) jw_f_RX2_25 dX2_mustMoveAside_9 (fun yr3 => ?_)
    refine jm_cVd (n := 1) (ci := 2) [] C (kX2_isSwept E w (hk_sl I k ln y en sp ht) _ h _ (by omega)) jw_m_RX2_92 okX2_isSwept rfl ⟨rfl, rfl⟩ ⟨Nat.le_of_ble_eq_true rfl, Nat.le_of_ble_eq_true rfl⟩ rfl h.1 h.2.1 rfl rfl (Nat.le_of_ble_eq_true rfl) dX2_mustMoveAside_12 ⟨Nat.le_of_ble_eq_true rfl, Nat.le_of_ble_eq_true rfl⟩ (fun yz5 yh4 => ?_)
    rw [hk_sl_gk _ _ _ _ _ _ _ _ (by decide), hk_sl_gk _ _ _ _ _ _ _ _ (by decide)] at yh4
    refine jm_if_eq 20 C dX2_mustMoveAside_15 rfl (by omega) (fun yc6 => ?_) (fun yc6 => ?_)
    · skip
      refine jm_aload_n C dX2_mustMoveAside_20 rfl ?_
      refine jm_dup C dX2_mustMoveAside_21 rfl ?_
      refine jm_getv (ci := 2) (f := 8) sp 8 rfl (hk_sl_g8 _ _ _ _ _ _ _) C rfl jw_u_2 h.1 h.2.1 rfl (by decide) jw_f_RX2_64 dX2_mustMoveAside_22 (fun yr7 => ?_)
      refine jm_iconst C dX2_mustMoveAside_25 ?_
      refine jm_iadd C dX2_mustMoveAside_26 ?_
      refine jm_put (ci := 2) (f := 8) (ty := .int) 8 rfl C rfl tyX2 tyX2_ok nmX2 jw_u_2 h.1 h.2.1 rfl (by decide) jw_f_RX2_64 rfl (by decide +kernel) rfl rfl dX2_mustMoveAside_27 (by omega) ?_
      rw [hk_sl_u8]
      refine jm_aload_n C dX2_mustMoveAside_30 rfl ?_
      refine jm_getv (ci := 2) (f := 8) (sp + 1) 8 rfl (hk_sl_g8 _ _ _ _ _ _ _) C rfl jw_u_2 h.1 h.2.1 rfl (by decide) jw_f_RX2_64 dX2_mustMoveAside_31 (fun yr8 => ?_)
      refine jm_bipush C dX2_mustMoveAside_34 (by decide +kernel) ?_
      refine jm_icmp_ge 58 C dX2_mustMoveAside_36 rfl (by omega) (by decide) (fun yc9 => ?_) (fun yc9 => ?_)
      · skip
        refine jm_iconst C dX2_mustMoveAside_58 ?_
        refine jm_goto 63 C dX2_mustMoveAside_59 rfl ?_
        exact hR _ _ _ _ dX2_mustMoveAside_63 (jm_nz (by decide)) (by first | exact Or.inl ⟨by omega, rfl, rfl⟩ | exact Or.inr (Or.inl ⟨by omega, by omega, rfl, rfl⟩) | exact Or.inr (Or.inr (Or.inl ⟨by omega, by omega, by omega, rfl, rfl⟩)) | exact Or.inr (Or.inr (Or.inr ⟨by omega, by omega, by omega, rfl, rfl⟩)))
      · skip
        refine jm_aload_n C dX2_mustMoveAside_39 rfl ?_
        refine jm_getv (ci := 2) (f := 4) en 4 rfl (hk_sl_g4 _ _ _ _ _ _ _) C rfl jw_u_2 h.1 h.2.1 rfl (by decide) jw_f_RX2_28 dX2_mustMoveAside_40 (fun yr10 => ?_)
        refine jm_sipush C dX2_mustMoveAside_43 (by decide +kernel) ?_
        refine jm_icmp_ge 62 C dX2_mustMoveAside_46 rfl (by omega) (by decide) (fun yc11 => ?_) (fun yc11 => ?_)
        · skip
          refine jm_iconst C dX2_mustMoveAside_62 ?_
          exact hR _ _ _ _ dX2_mustMoveAside_63 (jm_nz (by decide)) (by first | exact Or.inl ⟨by omega, rfl, rfl⟩ | exact Or.inr (Or.inl ⟨by omega, by omega, rfl, rfl⟩) | exact Or.inr (Or.inr (Or.inl ⟨by omega, by omega, by omega, rfl, rfl⟩)) | exact Or.inr (Or.inr (Or.inr ⟨by omega, by omega, by omega, rfl, rfl⟩)))
        · skip
          refine jm_aload_n C dX2_mustMoveAside_49 rfl ?_
          refine jm_getv (ci := 2) (f := 8) (sp + 1) 8 rfl (hk_sl_g8 _ _ _ _ _ _ _) C rfl jw_u_2 h.1 h.2.1 rfl (by decide) jw_f_RX2_64 dX2_mustMoveAside_50 (fun yr12 => ?_)
          refine jm_bipush C dX2_mustMoveAside_53 (by decide +kernel) ?_
          refine jm_icmp_lt 62 C dX2_mustMoveAside_55 rfl (by omega) (by decide) (fun yc13 => ?_) (fun yc13 => ?_)
          · skip
            refine jm_iconst C dX2_mustMoveAside_62 ?_
            exact hR _ _ _ _ dX2_mustMoveAside_63 (jm_nz (by decide)) (by first | exact Or.inl ⟨by omega, rfl, rfl⟩ | exact Or.inr (Or.inl ⟨by omega, by omega, rfl, rfl⟩) | exact Or.inr (Or.inr (Or.inl ⟨by omega, by omega, by omega, rfl, rfl⟩)) | exact Or.inr (Or.inr (Or.inr ⟨by omega, by omega, by omega, rfl, rfl⟩)))
          · skip
            refine jm_iconst C dX2_mustMoveAside_58 ?_
            refine jm_goto 63 C dX2_mustMoveAside_59 rfl ?_
            exact hR _ _ _ _ dX2_mustMoveAside_63 (jm_nz (by decide)) (by first | exact Or.inl ⟨by omega, rfl, rfl⟩ | exact Or.inr (Or.inl ⟨by omega, by omega, rfl, rfl⟩) | exact Or.inr (Or.inr (Or.inl ⟨by omega, by omega, by omega, rfl, rfl⟩)) | exact Or.inr (Or.inr (Or.inr ⟨by omega, by omega, by omega, rfl, rfl⟩)))
    · skip
      refine jm_iconst C dX2_mustMoveAside_18 ?_
      exact hR _ _ _ _ dX2_mustMoveAside_19 (jm_nz (by decide)) (by first | exact Or.inl ⟨by omega, rfl, rfl⟩ | exact Or.inr (Or.inl ⟨by omega, by omega, rfl, rfl⟩) | exact Or.inr (Or.inr (Or.inl ⟨by omega, by omega, by omega, rfl, rfl⟩)) | exact Or.inr (Or.inr (Or.inr ⟨by omega, by omega, by omega, rfl, rfl⟩)))
set_option maxRecDepth 100000 in
set_option maxHeartbeats 4000000 in
theorem kX2_movesAside (E : jm_E) (w : jm_W) (I : jm_M) (k : Int) (h : jm_X2 E w k) (ln y en sp ht : Int) (hl : 0 ≤ ln + I k 5 ∧ ln + I k 5 ≤ 8) (hl2 : 0 ≤ ln ∧ ln ≤ 8) (hy : 0 ≤ y ∧ y ≤ 60) (hen : 0 ≤ en ∧ en ≤ 100000) : jm_Mi E yX2_movesAside wX2_movesAside rmX2_movesAside 0 0 w (hk_sl I k ln y en sp ht) [.ref (w.2.1 k)] (fun I' z => (hk_lie (I (k + 100 + 100)) (ln + I k 5) y ≠ -1 ∧ z = 0 ∧ I' = hk_sl I k ln y (en.tdiv 2) sp (hk_lie (I (k + 100 + 100)) (ln + I k 5) y)) ∨ (hk_lie (I (k + 100 + 100)) (ln + I k 5) y = -1 ∧ z = 1 ∧ I' = hk_sl I k (ln + I k 5) y en 0 (-1))) := by
  refine jm_in_i (cc := cX2_movesAside) (maxL := 1) (rt := .boolean) RX2 (by decide +kernel) rfl rfl (Nat.le_of_ble_eq_true rfl) (by simp [Value.category]) ?_
  intro G C hR hI
  have hn200 : k + 100 + 100 ≠ k := by omega
  have hte : en.tdiv 2 = en / 2 := Int.tdiv_eq_ediv_of_nonneg hen.1
  refine jm_aload_n C dX2_movesAside_0 rfl ?_
  refine jm_aload_n C dX2_movesAside_1 rfl ?_
  refine jm_getr (ci := 2) (f := 0) C rfl jw_u_2 h.1 h.2.1 rfl (by decide) jw_f_RX2_12 dX2_movesAside_2 ?_
  refine jm_aload_n C dX2_movesAside_5 rfl ?_
  refine jm_getv (ci := 2) (f := 2) ln 2 rfl (hk_sl_g2 _ _ _ _ _ _ _) C rfl jw_u_2 h.1 h.2.1 rfl (by decide) jw_f_RX2_22 dX2_movesAside_6 (fun yr1 => ?_)
  refine jm_aload_n C dX2_movesAside_9 rfl ?_
  refine jm_getv (ci := 2) (f := 5) (I k 5) 5 rfl (hk_sl_gk _ _ _ _ _ _ _ _ (by decide)) C rfl jw_u_2 h.1 h.2.1 rfl (by decide) jw_f_RX2_31 dX2_movesAside_10 (fun yr2 => ?_)
  refine jm_iadd C dX2_movesAside_13 ?_
  refine jm_aload_n C dX2_movesAside_14 rfl ?_
  refine jm_getv (ci := 2) (f := 3) y 3 rfl (hk_sl_g3 _ _ _ _ _ _ _) C rfl jw_u_2 h.1 h.2.1 rfl (by decide) jw_f_RX2_25 dX2_movesAside_15 (fun yr3 => ?_)
  refine jm_cVd (n := 2) (ci := 3) [.ref (w.2.1 k)] C (kX3_lyingAt E w (hk_sl I k ln y en sp ht) _ h.2.2 _ _ (by omega) (by omega)) jw_m_RX2_96 okX3_lyingAt rfl ⟨rfl, rfl⟩ ⟨Nat.le_of_ble_eq_true rfl, Nat.le_of_ble_eq_true rfl⟩ rfl h.2.2.1 h.2.2.2.1 rfl rfl (Nat.le_of_ble_eq_true rfl) dX2_movesAside_18 ⟨Nat.le_of_ble_eq_true rfl, Nat.le_of_ble_eq_true rfl⟩ (fun yz5 yh4 => ?_)
  subst yh4
  rw [hk_sl_f _ _ _ _ _ _ _ hn200]
  have yh4r := hk_lie_r (I (k + 100 + 100)) (ln + (I k 5)) y
  refine jm_put (ci := 2) (f := 9) (ty := .int) 9 rfl C rfl tyX2 tyX2_ok nmX2 jw_u_2 h.1 h.2.1 rfl (by decide) jw_f_RX2_18 rfl (by decide +kernel) rfl rfl dX2_movesAside_21 (by omega) ?_
  rw [hk_sl_u9]
  refine jm_aload_n C dX2_movesAside_24 rfl ?_
  refine jm_getv (ci := 2) (f := 9) (hk_lie (I (k + 100 + 100)) (ln + (I k 5)) y) 9 rfl (hk_sl_g9 _ _ _ _ _ _ _) C rfl jw_u_2 h.1 h.2.1 rfl (by decide) jw_f_RX2_18 dX2_movesAside_25 (fun yr6 => ?_)
  refine jm_iconst C dX2_movesAside_28 ?_
  refine jm_icmp_eq 44 C dX2_movesAside_29 rfl (by omega) (by decide) (fun yc7 => ?_) (fun yc7 => ?_)
  · skip
    refine jm_aload_n C dX2_movesAside_44 rfl ?_
    refine jm_dup C dX2_movesAside_45 rfl ?_
    refine jm_getv (ci := 2) (f := 2) ln 2 rfl (hk_sl_g2 _ _ _ _ _ _ _) C rfl jw_u_2 h.1 h.2.1 rfl (by decide) jw_f_RX2_22 dX2_movesAside_46 (fun yr8 => ?_)
    refine jm_aload_n C dX2_movesAside_49 rfl ?_
    refine jm_getv (ci := 2) (f := 5) (I k 5) 5 rfl (hk_sl_gk _ _ _ _ _ _ _ _ (by decide)) C rfl jw_u_2 h.1 h.2.1 rfl (by decide) jw_f_RX2_31 dX2_movesAside_50 (fun yr9 => ?_)
    refine jm_iadd C dX2_movesAside_53 ?_
    refine jm_put (ci := 2) (f := 2) (ty := .int) 2 rfl C rfl tyX2 tyX2_ok nmX2 jw_u_2 h.1 h.2.1 rfl (by decide) jw_f_RX2_22 rfl (by decide +kernel) rfl rfl dX2_movesAside_54 (by omega) ?_
    rw [hk_sl_u2]
    refine jm_aload_n C dX2_movesAside_57 rfl ?_
    refine jm_iconst C dX2_movesAside_58 ?_
    refine jm_put (ci := 2) (f := 8) (ty := .int) 8 rfl C rfl tyX2 tyX2_ok nmX2 jw_u_2 h.1 h.2.1 rfl (by decide) jw_f_RX2_64 rfl (by decide +kernel) rfl rfl dX2_movesAside_59 (by decide) ?_
    rw [hk_sl_u8]
    refine jm_iconst C dX2_movesAside_62 ?_
    exact hR _ _ _ _ dX2_movesAside_63 (jm_nz (by decide)) (by first | exact Or.inl ⟨by omega, rfl, rfl⟩ | exact Or.inr ⟨by omega, rfl, by rw [show hk_lie (I (k + 100 + 100)) (ln + I k 5) y = -1 by omega]⟩)
  · skip
    refine jm_aload_n C dX2_movesAside_32 rfl ?_
    refine jm_dup C dX2_movesAside_33 rfl ?_
    refine jm_getv (ci := 2) (f := 4) en 4 rfl (hk_sl_g4 _ _ _ _ _ _ _) C rfl jw_u_2 h.1 h.2.1 rfl (by decide) jw_f_RX2_28 dX2_movesAside_34 (fun yr10 => ?_)
    refine jm_iconst C dX2_movesAside_37 ?_
    refine jm_idiv C dX2_movesAside_38 (by omega) (by decide) (by decide) ?_
    refine jm_put (ci := 2) (f := 4) (ty := .int) 4 rfl C rfl tyX2 tyX2_ok nmX2 jw_u_2 h.1 h.2.1 rfl (by decide) jw_f_RX2_28 rfl (by decide +kernel) rfl rfl dX2_movesAside_39 (by omega) ?_
    rw [hk_sl_u4]
    refine jm_iconst C dX2_movesAside_42 ?_
    exact hR _ _ _ _ dX2_movesAside_43 (jm_nz (by decide)) (by first | exact Or.inl ⟨by omega, rfl, rfl⟩ | exact Or.inr ⟨by omega, rfl, by rw [show hk_lie (I (k + 100 + 100)) (ln + I k 5) y = -1 by omega]⟩)
set_option maxRecDepth 100000 in
set_option maxHeartbeats 4000000 in
theorem kX2_stepsForward (E : jm_E) (w : jm_W) (I : jm_M) (k : Int) (h : jm_X2 E w k) (ks : Int) (hs : jm_X1 E w ks) (hne : ks ≠ k) (hnw : ks + 100 ≠ k) (ln y en sp ht : Int) (hl : 0 ≤ ln ∧ ln ≤ 8) (hy : 0 ≤ y ∧ y ≤ 59) (hen : 0 ≤ en ∧ en ≤ 100000) (hw : ∀ c, 0 ≤ I (ks + 100) c ∧ I (ks + 100) c ≤ 9) : jm_Mi E yX2_stepsForward wX2_stepsForward rmX2_stepsForward 0 0 w (hk_sl I k ln y en sp ht) [.ref (w.2.1 k), .ref (w.2.1 ks)] (fun I' z => (en < hk_cst (I (ks + 100)) (I k 6) (I k 7) ln (y + 1) ∧ z = 0 ∧ I' = hk_sl I k ln y en sp ht) ∨ (¬ en < hk_cst (I (ks + 100)) (I k 6) (I k 7) ln (y + 1) ∧ hk_lie (I (k + 100 + 100)) ln (y + 1) ≠ -1 ∧ z = 0 ∧ I' = hk_sl I k ln y ((en * 3).tdiv 4) sp (hk_lie (I (k + 100 + 100)) ln (y + 1))) ∨ (¬ en < hk_cst (I (ks + 100)) (I k 6) (I k 7) ln (y + 1) ∧ hk_lie (I (k + 100 + 100)) ln (y + 1) = -1 ∧ z = 1 ∧ I' = hk_sl (hk_wr I k ks (ln * 61 + (y + 1))) k ln (y + 1) (en - hk_cst (I (ks + 100)) (I k 6) (I k 7) ln (y + 1)) sp (-1))) := by
  refine jm_in_i (cc := cX2_stepsForward) (maxL := 4) (rt := .boolean) RX2 (by decide +kernel) rfl rfl (Nat.le_of_ble_eq_true rfl) (by simp [Value.category]) ?_
  intro G C hR hI
  have hn200 : k + 100 + 100 ≠ k := by omega
  refine jm_aload_n C dX2_stepsForward_0 rfl ?_
  refine jm_getv (ci := 2) (f := 3) y 3 rfl (hk_sl_g3 _ _ _ _ _ _ _) C rfl jw_u_2 h.1 h.2.1 rfl (by decide) jw_f_RX2_25 dX2_stepsForward_1 (fun yr1 => ?_)
  refine jm_iconst C dX2_stepsForward_4 ?_
  refine jm_iadd C dX2_stepsForward_5 ?_
  refine jm_istore_n C dX2_stepsForward_6 (by decide) ?_
  refine jm_bipush C dX2_stepsForward_7 (by decide +kernel) ?_
  refine jm_aload_n C dX2_stepsForward_9 rfl ?_
  refine jm_aload_n C dX2_stepsForward_10 rfl ?_
  refine jm_getv (ci := 2) (f := 2) ln 2 rfl (hk_sl_g2 _ _ _ _ _ _ _) C rfl jw_u_2 h.1 h.2.1 rfl (by decide) jw_f_RX2_22 dX2_stepsForward_11 (fun yr2 => ?_)
  refine jm_iload_n C dX2_stepsForward_14 rfl ?_
  refine jm_cVd (n := 2) (ci := 1) [jm_v 10] C (kX1_wornAt E w (hk_sl I k ln y en sp ht) _ hs _ _ (by omega) (by omega)) jw_m_RX2_86 okX1_wornAt rfl ⟨rfl, rfl⟩ ⟨Nat.le_of_ble_eq_true rfl, Nat.le_of_ble_eq_true rfl⟩ rfl hs.1 hs.2.1 rfl rfl (Nat.le_of_ble_eq_true rfl) dX2_stepsForward_15 ⟨Nat.le_of_ble_eq_true rfl, Nat.le_of_ble_eq_true rfl⟩ (fun yz4 yh3 => ?_)
  subst yh3
  rw [hk_sl_f _ _ _ _ _ _ _ hnw]
  have yh3r := hw (ln * 61 + (y + 1))
  refine jm_iadd C dX2_stepsForward_18 ?_
  refine jm_aload_n C dX2_stepsForward_19 rfl ?_
  refine jm_iload_n C dX2_stepsForward_20 rfl ?_
  refine jm_cVd (n := 1) (ci := 2) [jm_v (10 + (I (ks + 100) (ln * 61 + (y + 1))))] C (kX2_isSwept E w (hk_sl I k ln y en sp ht) _ h _ (by omega)) jw_m_RX2_92 okX2_isSwept rfl ⟨rfl, rfl⟩ ⟨Nat.le_of_ble_eq_true rfl, Nat.le_of_ble_eq_true rfl⟩ rfl h.1 h.2.1 rfl rfl (Nat.le_of_ble_eq_true rfl) dX2_stepsForward_21 ⟨Nat.le_of_ble_eq_true rfl, Nat.le_of_ble_eq_true rfl⟩ (fun yz6 yh5 => ?_)
  rw [hk_sl_gk _ _ _ _ _ _ _ _ (by decide), hk_sl_gk _ _ _ _ _ _ _ _ (by decide)] at yh5
  refine jm_if_eq 31 C dX2_stepsForward_24 rfl (by omega) (fun yc7 => ?_) (fun yc7 => ?_)
  · skip
    have hcst : hk_cst (I (ks + 100)) (I k 6) (I k 7) ln (y + 1) = 10 + I (ks + 100) (ln * 61 + (y + 1)) - 0 := by unfold hk_cst; rw [if_neg (by omega)]
    refine jm_iconst C dX2_stepsForward_31 ?_
    refine jm_isub C dX2_stepsForward_32 ?_
    refine jm_istore_n C dX2_stepsForward_33 (by decide) ?_
    refine jm_aload_n C dX2_stepsForward_34 rfl ?_
    refine jm_getv (ci := 2) (f := 4) en 4 rfl (hk_sl_g4 _ _ _ _ _ _ _) C rfl jw_u_2 h.1 h.2.1 rfl (by decide) jw_f_RX2_28 dX2_stepsForward_35 (fun yr8 => ?_)
    refine jm_iload_n C dX2_stepsForward_38 rfl ?_
    refine jm_icmp_ge 44 C dX2_stepsForward_39 rfl (by omega) (by omega) (fun yc9 => ?_) (fun yc9 => ?_)
    · skip
      refine jm_aload_n C dX2_stepsForward_44 rfl ?_
      refine jm_aload_n C dX2_stepsForward_45 rfl ?_
      refine jm_getr (ci := 2) (f := 0) C rfl jw_u_2 h.1 h.2.1 rfl (by decide) jw_f_RX2_12 dX2_stepsForward_46 ?_
      refine jm_aload_n C dX2_stepsForward_49 rfl ?_
      refine jm_getv (ci := 2) (f := 2) ln 2 rfl (hk_sl_g2 _ _ _ _ _ _ _) C rfl jw_u_2 h.1 h.2.1 rfl (by decide) jw_f_RX2_22 dX2_stepsForward_50 (fun yr10 => ?_)
      refine jm_iload_n C dX2_stepsForward_53 rfl ?_
      refine jm_cVd (n := 2) (ci := 3) [.ref (w.2.1 k)] C (kX3_lyingAt E w (hk_sl I k ln y en sp ht) _ h.2.2 _ _ (by omega) (by omega)) jw_m_RX2_96 okX3_lyingAt rfl ⟨rfl, rfl⟩ ⟨Nat.le_of_ble_eq_true rfl, Nat.le_of_ble_eq_true rfl⟩ rfl h.2.2.1 h.2.2.2.1 rfl rfl (Nat.le_of_ble_eq_true rfl) dX2_stepsForward_54 ⟨Nat.le_of_ble_eq_true rfl, Nat.le_of_ble_eq_true rfl⟩ (fun yz12 yh11 => ?_)
      subst yh11
      rw [hk_sl_f _ _ _ _ _ _ _ hn200]
      have yh11r := hk_lie_r (I (k + 100 + 100)) ln (y + 1)
      refine jm_put (ci := 2) (f := 9) (ty := .int) 9 rfl C rfl tyX2 tyX2_ok nmX2 jw_u_2 h.1 h.2.1 rfl (by decide) jw_f_RX2_18 rfl (by decide +kernel) rfl rfl dX2_stepsForward_57 (by omega) ?_
      rw [hk_sl_u9]
      refine jm_aload_n C dX2_stepsForward_60 rfl ?_
      refine jm_getv (ci := 2) (f := 9) (hk_lie (I (k + 100 + 100)) ln (y + 1)) 9 rfl (hk_sl_g9 _ _ _ _ _ _ _) C rfl jw_u_2 h.1 h.2.1 rfl (by decide) jw_f_RX2_18 dX2_stepsForward_61 (fun yr13 => ?_)
      refine jm_iconst C dX2_stepsForward_64 ?_
      refine jm_icmp_eq 82 C dX2_stepsForward_65 rfl (by omega) (by decide) (fun yc14 => ?_) (fun yc14 => ?_)
      · skip
        refine jm_aload_n C dX2_stepsForward_82 rfl ?_
        refine jm_iload_n C dX2_stepsForward_83 rfl ?_
        refine jm_put (ci := 2) (f := 3) (ty := .int) 3 rfl C rfl tyX2 tyX2_ok nmX2 jw_u_2 h.1 h.2.1 rfl (by decide) jw_f_RX2_25 rfl (by decide +kernel) rfl rfl dX2_stepsForward_84 (by omega) ?_
        rw [hk_sl_u3]
        refine jm_aload_n C dX2_stepsForward_87 rfl ?_
        refine jm_dup C dX2_stepsForward_88 rfl ?_
        refine jm_getv (ci := 2) (f := 4) en 4 rfl (hk_sl_g4 _ _ _ _ _ _ _) C rfl jw_u_2 h.1 h.2.1 rfl (by decide) jw_f_RX2_28 dX2_stepsForward_89 (fun yr15 => ?_)
        refine jm_iload_n C dX2_stepsForward_92 rfl ?_
        refine jm_isub C dX2_stepsForward_93 ?_
        refine jm_put (ci := 2) (f := 4) (ty := .int) 4 rfl C rfl tyX2 tyX2_ok nmX2 jw_u_2 h.1 h.2.1 rfl (by decide) jw_f_RX2_28 rfl (by decide +kernel) rfl rfl dX2_stepsForward_94 (by omega) ?_
        rw [hk_sl_u4]
        refine jm_aload_n C dX2_stepsForward_97 rfl ?_
        refine jm_getv (ci := 2) (f := 1) (I k 1) 1 rfl (hk_sl_gk _ _ _ _ _ _ _ _ (by decide)) C rfl jw_u_2 h.1 h.2.1 rfl (by decide) jw_f_RX2_44 dX2_stepsForward_98 (fun yr16 => ?_)
        refine jm_if_eq 113 C dX2_stepsForward_101 rfl (by omega) (fun yc17 => ?_) (fun yc17 => ?_)
        · skip
          refine jm_iconst C dX2_stepsForward_113 ?_
          exact hR _ _ _ _ dX2_stepsForward_114 (jm_nz (by decide)) (by first | exact Or.inl ⟨by omega, rfl, rfl⟩ | exact Or.inr (Or.inl ⟨by omega, by omega, rfl, rfl⟩) | exact Or.inr (Or.inr ⟨by omega, by omega, rfl, by rw [hcst]; first | exact hk_wr_n (by omega) (by omega) | exact hk_wr_y (by omega) hnw (by omega)⟩))
        · skip
          refine jm_aload_n C dX2_stepsForward_104 rfl ?_
          refine jm_aload_n C dX2_stepsForward_105 rfl ?_
          refine jm_getv (ci := 2) (f := 2) ln 2 rfl (hk_sl_g2 _ _ _ _ _ _ _) C rfl jw_u_2 h.1 h.2.1 rfl (by decide) jw_f_RX2_22 dX2_stepsForward_106 (fun yr18 => ?_)
          refine jm_iload_n C dX2_stepsForward_109 rfl ?_
          refine jm_cVu (n := 2) (ci := 1) [] C (kX1_wearDown E w (hk_sl I k ln (y + 1) (en - ((10 + (I (ks + 100) (ln * 61 + (y + 1)))) - 0)) sp (hk_lie (I (k + 100 + 100)) ln (y + 1))) _ hs _ _ (by omega) (by omega)) jw_m_RX2_99 okX1_wearDown rfl ⟨rfl, rfl⟩ ⟨Nat.le_of_ble_eq_true rfl, Nat.le_of_ble_eq_true rfl⟩ rfl hs.1 hs.2.1 rfl rfl (Nat.le_of_ble_eq_true rfl) dX2_stepsForward_110 ⟨Nat.le_of_ble_eq_true rfl, Nat.le_of_ble_eq_true rfl⟩ ?_
          refine jm_iconst C dX2_stepsForward_113 ?_
          exact hR _ _ _ _ dX2_stepsForward_114 (jm_nz (by decide)) (by first | exact Or.inl ⟨by omega, rfl, rfl⟩ | exact Or.inr (Or.inl ⟨by omega, by omega, rfl, rfl⟩) | exact Or.inr (Or.inr ⟨by omega, by omega, rfl, by rw [hcst]; first | exact hk_wr_n (by omega) (by omega) | exact hk_wr_y (by omega) hnw (by omega)⟩))
      · skip
        have hte : (en * 3).tdiv 4 = en * 3 / 4 := Int.tdiv_eq_ediv_of_nonneg (by omega)
        refine jm_aload_n C dX2_stepsForward_68 rfl ?_
        refine jm_aload_n C dX2_stepsForward_69 rfl ?_
        refine jm_getv (ci := 2) (f := 4) en 4 rfl (hk_sl_g4 _ _ _ _ _ _ _) C rfl jw_u_2 h.1 h.2.1 rfl (by decide) jw_f_RX2_28 dX2_stepsForward_70 (fun yr21 => ?_)
        refine jm_iconst C dX2_stepsForward_73 ?_
        refine jm_imul C dX2_stepsForward_74 ?_
        refine jm_iconst C dX2_stepsForward_75 ?_
        refine jm_idiv C dX2_stepsForward_76 (by omega) (by decide) (by decide) ?_
        refine jm_put (ci := 2) (f := 4) (ty := .int) 4 rfl C rfl tyX2 tyX2_ok nmX2 jw_u_2 h.1 h.2.1 rfl (by decide) jw_f_RX2_28 rfl (by decide +kernel) rfl rfl dX2_stepsForward_77 (by omega) ?_
        rw [hk_sl_u4]
        refine jm_iconst C dX2_stepsForward_80 ?_
        exact hR _ _ _ _ dX2_stepsForward_81 (jm_nz (by decide)) (by first | exact Or.inl ⟨by omega, rfl, rfl⟩ | exact Or.inr (Or.inl ⟨by omega, by omega, rfl, rfl⟩) | exact Or.inr (Or.inr ⟨by omega, by omega, rfl, by rw [hcst]; first | exact hk_wr_n (by omega) (by omega) | exact hk_wr_y (by omega) hnw (by omega)⟩))
    · skip
      refine jm_iconst C dX2_stepsForward_42 ?_
      exact hR _ _ _ _ dX2_stepsForward_43 (jm_nz (by decide)) (by first | exact Or.inl ⟨by omega, rfl, rfl⟩ | exact Or.inr (Or.inl ⟨by omega, by omega, rfl, rfl⟩) | exact Or.inr (Or.inr ⟨by omega, by omega, rfl, by rw [hcst]; first | exact hk_wr_n (by omega) (by omega) | exact hk_wr_y (by omega) hnw (by omega)⟩))
  · skip
    have hcst : hk_cst (I (ks + 100)) (I k 6) (I k 7) ln (y + 1) = 10 + I (ks + 100) (ln * 61 + (y + 1)) - 3 := by unfold hk_cst; rw [if_pos (by omega)]
    refine jm_iconst C dX2_stepsForward_27 ?_
    refine jm_goto 32 C dX2_stepsForward_28 rfl ?_
    refine jm_isub C dX2_stepsForward_32 ?_
    refine jm_istore_n C dX2_stepsForward_33 (by decide) ?_
    refine jm_aload_n C dX2_stepsForward_34 rfl ?_
    refine jm_getv (ci := 2) (f := 4) en 4 rfl (hk_sl_g4 _ _ _ _ _ _ _) C rfl jw_u_2 h.1 h.2.1 rfl (by decide) jw_f_RX2_28 dX2_stepsForward_35 (fun yr22 => ?_)
    refine jm_iload_n C dX2_stepsForward_38 rfl ?_
    refine jm_icmp_ge 44 C dX2_stepsForward_39 rfl (by omega) (by omega) (fun yc23 => ?_) (fun yc23 => ?_)
    · skip
      refine jm_aload_n C dX2_stepsForward_44 rfl ?_
      refine jm_aload_n C dX2_stepsForward_45 rfl ?_
      refine jm_getr (ci := 2) (f := 0) C rfl jw_u_2 h.1 h.2.1 rfl (by decide) jw_f_RX2_12 dX2_stepsForward_46 ?_
      refine jm_aload_n C dX2_stepsForward_49 rfl ?_
      refine jm_getv (ci := 2) (f := 2) ln 2 rfl (hk_sl_g2 _ _ _ _ _ _ _) C rfl jw_u_2 h.1 h.2.1 rfl (by decide) jw_f_RX2_22 dX2_stepsForward_50 (fun yr24 => ?_)
      refine jm_iload_n C dX2_stepsForward_53 rfl ?_
      refine jm_cVd (n := 2) (ci := 3) [.ref (w.2.1 k)] C (kX3_lyingAt E w (hk_sl I k ln y en sp ht) _ h.2.2 _ _ (by omega) (by omega)) jw_m_RX2_96 okX3_lyingAt rfl ⟨rfl, rfl⟩ ⟨Nat.le_of_ble_eq_true rfl, Nat.le_of_ble_eq_true rfl⟩ rfl h.2.2.1 h.2.2.2.1 rfl rfl (Nat.le_of_ble_eq_true rfl) dX2_stepsForward_54 ⟨Nat.le_of_ble_eq_true rfl, Nat.le_of_ble_eq_true rfl⟩ (fun yz26 yh25 => ?_)
      subst yh25
      rw [hk_sl_f _ _ _ _ _ _ _ hn200]
      have yh25r := hk_lie_r (I (k + 100 + 100)) ln (y + 1)
      refine jm_put (ci := 2) (f := 9) (ty := .int) 9 rfl C rfl tyX2 tyX2_ok nmX2 jw_u_2 h.1 h.2.1 rfl (by decide) jw_f_RX2_18 rfl (by decide +kernel) rfl rfl dX2_stepsForward_57 (by omega) ?_
      rw [hk_sl_u9]
      refine jm_aload_n C dX2_stepsForward_60 rfl ?_
      refine jm_getv (ci := 2) (f := 9) (hk_lie (I (k + 100 + 100)) ln (y + 1)) 9 rfl (hk_sl_g9 _ _ _ _ _ _ _) C rfl jw_u_2 h.1 h.2.1 rfl (by decide) jw_f_RX2_18 dX2_stepsForward_61 (fun yr27 => ?_)
      refine jm_iconst C dX2_stepsForward_64 ?_
      refine jm_icmp_eq 82 C dX2_stepsForward_65 rfl (by omega) (by decide) (fun yc28 => ?_) (fun yc28 => ?_)
      · skip
        refine jm_aload_n C dX2_stepsForward_82 rfl ?_
        refine jm_iload_n C dX2_stepsForward_83 rfl ?_
        refine jm_put (ci := 2) (f := 3) (ty := .int) 3 rfl C rfl tyX2 tyX2_ok nmX2 jw_u_2 h.1 h.2.1 rfl (by decide) jw_f_RX2_25 rfl (by decide +kernel) rfl rfl dX2_stepsForward_84 (by omega) ?_
        rw [hk_sl_u3]
        refine jm_aload_n C dX2_stepsForward_87 rfl ?_
        refine jm_dup C dX2_stepsForward_88 rfl ?_
        refine jm_getv (ci := 2) (f := 4) en 4 rfl (hk_sl_g4 _ _ _ _ _ _ _) C rfl jw_u_2 h.1 h.2.1 rfl (by decide) jw_f_RX2_28 dX2_stepsForward_89 (fun yr29 => ?_)
        refine jm_iload_n C dX2_stepsForward_92 rfl ?_
        refine jm_isub C dX2_stepsForward_93 ?_
        refine jm_put (ci := 2) (f := 4) (ty := .int) 4 rfl C rfl tyX2 tyX2_ok nmX2 jw_u_2 h.1 h.2.1 rfl (by decide) jw_f_RX2_28 rfl (by decide +kernel) rfl rfl dX2_stepsForward_94 (by omega) ?_
        rw [hk_sl_u4]
        refine jm_aload_n C dX2_stepsForward_97 rfl ?_
        refine jm_getv (ci := 2) (f := 1) (I k 1) 1 rfl (hk_sl_gk _ _ _ _ _ _ _ _ (by decide)) C rfl jw_u_2 h.1 h.2.1 rfl (by decide) jw_f_RX2_44 dX2_stepsForward_98 (fun yr30 => ?_)
        refine jm_if_eq 113 C dX2_stepsForward_101 rfl (by omega) (fun yc31 => ?_) (fun yc31 => ?_)
        · skip
          refine jm_iconst C dX2_stepsForward_113 ?_
          exact hR _ _ _ _ dX2_stepsForward_114 (jm_nz (by decide)) (by first | exact Or.inl ⟨by omega, rfl, rfl⟩ | exact Or.inr (Or.inl ⟨by omega, by omega, rfl, rfl⟩) | exact Or.inr (Or.inr ⟨by omega, by omega, rfl, by rw [hcst]; first | exact hk_wr_n (by omega) (by omega) | exact hk_wr_y (by omega) hnw (by omega)⟩))
        · skip
          refine jm_aload_n C dX2_stepsForward_104 rfl ?_
          refine jm_aload_n C dX2_stepsForward_105 rfl ?_
          refine jm_getv (ci := 2) (f := 2) ln 2 rfl (hk_sl_g2 _ _ _ _ _ _ _) C rfl jw_u_2 h.1 h.2.1 rfl (by decide) jw_f_RX2_22 dX2_stepsForward_106 (fun yr32 => ?_)
          refine jm_iload_n C dX2_stepsForward_109 rfl ?_
          refine jm_cVu (n := 2) (ci := 1) [] C (kX1_wearDown E w (hk_sl I k ln (y + 1) (en - ((10 + (I (ks + 100) (ln * 61 + (y + 1)))) - 3)) sp (hk_lie (I (k + 100 + 100)) ln (y + 1))) _ hs _ _ (by omega) (by omega)) jw_m_RX2_99 okX1_wearDown rfl ⟨rfl, rfl⟩ ⟨Nat.le_of_ble_eq_true rfl, Nat.le_of_ble_eq_true rfl⟩ rfl hs.1 hs.2.1 rfl rfl (Nat.le_of_ble_eq_true rfl) dX2_stepsForward_110 ⟨Nat.le_of_ble_eq_true rfl, Nat.le_of_ble_eq_true rfl⟩ ?_
          refine jm_iconst C dX2_stepsForward_113 ?_
          exact hR _ _ _ _ dX2_stepsForward_114 (jm_nz (by decide)) (by first | exact Or.inl ⟨by omega, rfl, rfl⟩ | exact Or.inr (Or.inl ⟨by omega, by omega, rfl, rfl⟩) | exact Or.inr (Or.inr ⟨by omega, by omega, rfl, by rw [hcst]; first | exact hk_wr_n (by omega) (by omega) | exact hk_wr_y (by omega) hnw (by omega)⟩))
      · skip
        have hte : (en * 3).tdiv 4 = en * 3 / 4 := Int.tdiv_eq_ediv_of_nonneg (by omega)
        refine jm_aload_n C dX2_stepsForward_68 rfl ?_
        refine jm_aload_n C dX2_stepsForward_69 rfl ?_
        refine jm_getv (ci := 2) (f := 4) en 4 rfl (hk_sl_g4 _ _ _ _ _ _ _) C rfl jw_u_2 h.1 h.2.1 rfl (by decide) jw_f_RX2_28 dX2_stepsForward_70 (fun yr35 => ?_)
        refine jm_iconst C dX2_stepsForward_73 ?_
        refine jm_imul C dX2_stepsForward_74 ?_
        refine jm_iconst C dX2_stepsForward_75 ?_
        refine jm_idiv C dX2_stepsForward_76 (by omega) (by decide) (by decide) ?_
        refine jm_put (ci := 2) (f := 4) (ty := .int) 4 rfl C rfl tyX2 tyX2_ok nmX2 jw_u_2 h.1 h.2.1 rfl (by decide) jw_f_RX2_28 rfl (by decide +kernel) rfl rfl dX2_stepsForward_77 (by omega) ?_
        rw [hk_sl_u4]
        refine jm_iconst C dX2_stepsForward_80 ?_
        exact hR _ _ _ _ dX2_stepsForward_81 (jm_nz (by decide)) (by first | exact Or.inl ⟨by omega, rfl, rfl⟩ | exact Or.inr (Or.inl ⟨by omega, by omega, rfl, rfl⟩) | exact Or.inr (Or.inr ⟨by omega, by omega, rfl, by rw [hcst]; first | exact hk_wr_n (by omega) (by omega) | exact hk_wr_y (by omega) hnw (by omega)⟩))
    · skip
      refine jm_iconst C dX2_stepsForward_42 ?_
      exact hR _ _ _ _ dX2_stepsForward_43 (jm_nz (by decide)) (by first | exact Or.inl ⟨by omega, rfl, rfl⟩ | exact Or.inr (Or.inl ⟨by omega, by omega, rfl, rfl⟩) | exact Or.inr (Or.inr ⟨by omega, by omega, rfl, by rw [hcst]; first | exact hk_wr_n (by omega) (by omega) | exact hk_wr_y (by omega) hnw (by omega)⟩))
end
section
set_option maxRecDepth 100000 in
set_option maxHeartbeats 4000000 in
theorem kX2_glide (E : jm_E) (w : jm_W) (I : jm_M) (k : Int) (h : jm_X2 E w k) (ks : Int) (hs : jm_X1 E w ks) (hne : ks ≠ k) (hnw : ks + 100 ≠ k) (hn3 : k + 100 + 100 ≠ ks + 100) (ln0 y0 en0 sp0 ht0 : Int) (hl0 : 0 ≤ ln0 ∧ ln0 ≤ 8) (hy0 : 0 ≤ y0 ∧ y0 ≤ 59) (hen0 : 0 ≤ en0 ∧ en0 ≤ 100000) (htn : -1 ≤ I k 5 ∧ I k 5 ≤ 1) (hw : ∀ c, 0 ≤ I (ks + 100) c ∧ I (ks + 100) c ≤ 9) : jm_Mi E yX2_glide wX2_glide rmX2_glide 0 0 w (hk_sl I k ln0 y0 en0 sp0 ht0) [.ref (w.2.1 k), .ref (w.2.1 ks)] (fun I' z => hk_gpost I k ks (hk_T (hk_lie (I (k + 100 + 100))) (I k 5) (I k 6) (I k 7) 60 (I (ks + 100)) ln0 y0 en0 0) I' z) := by
  refine jm_in_i (cc := cX2_glide) (maxL := 3) (rt := .int) RX2 (by decide +kernel) rfl rfl (Nat.le_of_ble_eq_true rfl) (by simp [Value.category]) ?_
  intro G C hR hI
  have hkk : k ≠ ks + 100 := fun q => hnw q.symm
  refine jm_aload_n C dX2_glide_0 rfl ?_
  refine jm_iconst C dX2_glide_1 ?_
  refine jm_put (ci := 2) (f := 9) (ty := .int) 9 rfl C rfl tyX2 tyX2_ok nmX2 jw_u_2 h.1 h.2.1 rfl (by decide) jw_f_RX2_18 rfl (by decide +kernel) rfl rfl dX2_glide_2 (by decide) ?_
  rw [hk_sl_u9]
  refine jm_aload_n C dX2_glide_5 rfl ?_
  refine jm_iconst C dX2_glide_6 ?_
  refine jm_put (ci := 2) (f := 8) (ty := .int) 8 rfl C rfl tyX2 tyX2_ok nmX2 jw_u_2 h.1 h.2.1 rfl (by decide) jw_f_RX2_64 rfl (by decide +kernel) rfl rfl dX2_glide_7 (by decide) ?_
  rw [hk_sl_u8]
  refine jm_iconst C dX2_glide_10 ?_
  refine jm_istore_n C dX2_glide_11 (by decide) ?_
  have lp12 : ∀ (yn : Nat) (m : Nat) (Iv : jm_M) (Wv : Int → Int) (ln y en sp : Int), 60 - m < yn → (m ≤ 60) → (hk_T (hk_lie (I (k + 100 + 100))) (I k 5) (I k 6) (I k 7) (60 - m) Wv ln y en sp = hk_T (hk_lie (I (k + 100 + 100))) (I k 5) (I k 6) (I k 7) 60 (I (ks + 100)) ln0 y0 en0 0) → (hk_rel I k ks Iv Wv) → (hk_agr (Iv (ks + 100)) Wv y) → (0 ≤ ln ∧ ln ≤ 8) → (0 ≤ y ∧ y ≤ 59) → (0 ≤ en ∧ en ≤ 100000) → (0 ≤ sp ∧ sp ≤ m) → jm_J E G (0, 0) w (hk_sl Iv k ln y en sp (-1)) 12 [(0, .ref (w.2.1 k)), (1, .ref (w.2.1 ks)), (2, jm_v ((m : Nat) : Int))] [] := by
    intro yn
    induction yn with
    | zero => intro m Iv Wv ln y en sp hlt hm hT hrel hag hln hy hen hsp; exact absurd hlt (Nat.not_lt_zero _)
    | succ yn ih =>
      intro m Iv Wv ln y en sp hlt hm hT hrel hag hln hy hen hsp
      have hIk : Iv k = I k := hrel.1 k hkk
      have hIp : Iv (k + 100 + 100) = I (k + 100 + 100) := hrel.1 _ hn3
      have hcs : hk_cst (Iv (ks + 100)) (I k 6) (I k 7) ln (y + 1) = hk_cst Wv (I k 6) (I k 7) ln (y + 1) := hk_cst_e (hag ln (y + 1) hln.1 hln.2 (by omega) (by omega))
      have hcr : 7 ≤ hk_cst Wv (I k 6) (I k 7) ln (y + 1) ∧ hk_cst Wv (I k 6) (I k 7) ln (y + 1) ≤ 19 := by rw [← hcs]; exact hk_cst_r (hrel.2.1 _)
      refine jm_iload_n C dX2_glide_12 rfl ?_
      refine jm_bipush C dX2_glide_13 (by decide +kernel) ?_
      refine jm_icmp_ge 90 C dX2_glide_15 rfl (by omega) (by decide) (fun yc1 => ?_) (fun yc1 => ?_)
      · skip
        refine jm_iconst C dX2_glide_90 ?_
        exact hR _ _ _ _ dX2_glide_91 rfl (hk_gp (by rw [show 60 - m = 0 by omega] at hT; exact hT) (fun q => absurd rfl q) hrel)
      · skip
        have hT1 := hT
        rw [show 60 - m = (60 - (m + 1)) + 1 by omega, hk_T] at hT1
        refine jm_aload_n C dX2_glide_18 rfl ?_
        refine jm_aload_n C dX2_glide_19 rfl ?_
        refine jm_cVi (n := 1) (ci := 2) [] C (kX2_stepsForward E w Iv _ h _ hs hne hnw _ _ _ _ _ hln hy hen hrel.2.1) jw_m_RX2_67 okX2_stepsForward rfl ⟨rfl, rfl⟩ ⟨Nat.le_of_ble_eq_true rfl, Nat.le_of_ble_eq_true rfl⟩ rfl h.1 h.2.1 rfl rfl (Nat.le_of_ble_eq_true rfl) dX2_glide_20 ⟨Nat.le_of_ble_eq_true rfl, Nat.le_of_ble_eq_true rfl⟩ (fun yI4 yz3 yh2 => ?_)
        simp only [hIk, hIp, hcs] at yh2
        refine jm_if_ne 31 C dX2_glide_23 rfl (by omega) (fun yc5 => ?_) (fun yc5 => ?_)
        · skip
          obtain ⟨ha, hb, rfl⟩ : ¬ en < hk_cst Wv (I k 6) (I k 7) ln (y + 1) ∧ hk_lie (I (k + 100 + 100)) ln (y + 1) = -1 ∧ yI4 = hk_sl (hk_wr Iv k ks (ln * 61 + (y + 1))) k ln (y + 1) (en - hk_cst Wv (I k 6) (I k 7) ln (y + 1)) sp (-1) := by
            rcases yh2 with ⟨a, b, c⟩ | ⟨a, b, c, d⟩ | ⟨a, b, c, d⟩
            · exact absurd b (by omega)
            · exact absurd c (by omega)
            · exact ⟨a, b, d⟩
          rw [if_neg ha, if_neg (fun q => q hb)] at hT1
          obtain ⟨Iw, hIw⟩ : ∃ X, X = hk_wr Iv k ks (ln * 61 + (y + 1)) := ⟨_, rfl⟩
          obtain ⟨e1, he1⟩ : ∃ X, X = en - hk_cst Wv (I k 6) (I k 7) ln (y + 1) := ⟨_, rfl⟩
          rw [← hIw, ← he1]
          rw [← he1] at hT1
          have hrel2 : hk_rel I k ks Iw (hk_wW Wv (ln * 61 + (y + 1))) := by rw [hIw]; exact hk_rel_wr hrel hkk
          have hag2 : hk_agr (Iw (ks + 100)) (hk_wW Wv (ln * 61 + (y + 1))) (y + 1) := by rw [hIw]; exact hk_agr_wr hag hln hy
          have hIk2 : Iw k = I k := hrel2.1 k hkk
          have hIp2 : Iw (k + 100 + 100) = I (k + 100 + 100) := hrel2.1 _ hn3
          refine jm_aload_n C dX2_glide_31 rfl ?_
          refine jm_getv (ci := 2) (f := 3) (y + 1) 3 rfl (hk_sl_g3 _ _ _ _ _ _ _) C rfl jw_u_2 h.1 h.2.1 rfl (by decide) jw_f_RX2_25 dX2_glide_32 (fun yr6 => ?_)
          refine jm_bipush C dX2_glide_35 (by decide +kernel) ?_
          refine jm_icmp_lt 42 C dX2_glide_37 rfl (by omega) (by decide) (fun yc7 => ?_) (fun yc7 => ?_)
          · skip
            rw [if_neg (show ¬ 60 ≤ y + 1 by omega)] at hT1
            refine jm_aload_n C dX2_glide_42 rfl ?_
            refine jm_cVi (n := 0) (ci := 2) [] C (kX2_mustMoveAside E w Iw _ h _ _ _ _ _ (by omega) (by omega) (by omega)) jw_m_RX2_75 okX2_mustMoveAside rfl ⟨rfl, rfl⟩ ⟨Nat.le_of_ble_eq_true rfl, Nat.le_of_ble_eq_true rfl⟩ rfl h.1 h.2.1 rfl rfl (Nat.le_of_ble_eq_true rfl) dX2_glide_43 ⟨Nat.le_of_ble_eq_true rfl, Nat.le_of_ble_eq_true rfl⟩ (fun yI10 yz9 yh8 => ?_)
            simp only [hIk2] at yh8
            refine jm_if_ne 52 C dX2_glide_46 rfl (by omega) (fun yc11 => ?_) (fun yc11 => ?_)
            · skip
              obtain ⟨hd1, hd2, hd3, rfl⟩ : I k 5 ≠ 0 ∧ ¬ (I k 6 ≤ y + 1 ∧ y + 1 ≤ I k 7) ∧ (12 ≤ sp + 1 ∨ (e1 < 300 ∧ 6 ≤ sp + 1)) ∧ yI10 = hk_sl Iw k ln (y + 1) e1 (sp + 1) (-1) := by
                rcases yh8 with ⟨a, b, c⟩ | ⟨a, a2, b, c⟩ | ⟨a, a2, a3, b, c⟩ | ⟨a, a2, a3, b, c⟩
                · exact absurd b (by omega)
                · exact absurd b (by omega)
                · exact ⟨a, a2, a3, c⟩
                · exact absurd b (by omega)
              rw [if_neg (fun q => q.elim hd1 hd2), if_pos hd3] at hT1
              refine jm_aload_n C dX2_glide_52 rfl ?_
              refine jm_getv (ci := 2) (f := 2) ln 2 rfl (hk_sl_g2 _ _ _ _ _ _ _) C rfl jw_u_2 h.1 h.2.1 rfl (by decide) jw_f_RX2_22 dX2_glide_53 (fun yr12 => ?_)
              refine jm_aload_n C dX2_glide_56 rfl ?_
              refine jm_getv (ci := 2) (f := 5) (I k 5) 5 rfl ((hk_sl_gk _ _ _ _ _ _ _ _ (by decide)).trans (congrFun hIk2 _)) C rfl jw_u_2 h.1 h.2.1 rfl (by decide) jw_f_RX2_31 dX2_glide_57 (fun yr13 => ?_)
              refine jm_iadd C dX2_glide_60 ?_
              refine jm_iconst C dX2_glide_61 ?_
              refine jm_bipush C dX2_glide_62 (by decide +kernel) ?_
              refine jm_cNd (n := 3) [] C (kX5_isWithin E w (hk_sl Iw k ln (y + 1) e1 (sp + 1) (-1)) _ _ _ (by omega) (by decide) (by decide)) RX5 jm_n_isWithin okX5_isWithin rfl ⟨rfl, rfl⟩ ⟨Nat.le_of_ble_eq_true rfl, Nat.le_of_ble_eq_true rfl⟩ rfl rfl (Nat.le_of_ble_eq_true rfl) dX2_glide_64 ⟨Nat.le_of_ble_eq_true rfl, Nat.le_of_ble_eq_true rfl⟩ (fun yz15 yh14 => ?_)
              refine jm_if_ne 72 C dX2_glide_67 rfl (by omega) (fun yc16 => ?_) (fun yc16 => ?_)
              · skip
                rw [if_neg (show ¬ ¬ (0 ≤ ln + I k 5 ∧ ln + I k 5 ≤ 8) by omega)] at hT1
                refine jm_aload_n C dX2_glide_72 rfl ?_
                refine jm_cVi (n := 0) (ci := 2) [] C (kX2_movesAside E w Iw _ h _ _ _ _ _ (by rw [hIk2]; omega) hln (by omega) (by omega)) jw_m_RX2_83 okX2_movesAside rfl ⟨rfl, rfl⟩ ⟨Nat.le_of_ble_eq_true rfl, Nat.le_of_ble_eq_true rfl⟩ rfl h.1 h.2.1 rfl rfl (Nat.le_of_ble_eq_true rfl) dX2_glide_73 ⟨Nat.le_of_ble_eq_true rfl, Nat.le_of_ble_eq_true rfl⟩ (fun yI19 yz18 yh17 => ?_)
                simp only [hIk2, hIp2] at yh17
                refine jm_if_ne 84 C dX2_glide_76 rfl (by omega) (fun yc20 => ?_) (fun yc20 => ?_)
                · skip
                  obtain ⟨hb2, rfl⟩ : hk_lie (I (k + 100 + 100)) (ln + I k 5) (y + 1) = -1 ∧ yI19 = hk_sl Iw k (ln + I k 5) (y + 1) e1 0 (-1) := by
                    rcases yh17 with ⟨a, b, c⟩ | ⟨a, b, c⟩
                    · exact absurd b (by omega)
                    · exact ⟨a, c⟩
                  rw [if_neg (fun q => q hb2)] at hT1
                  have hT2 := hT1
                  have hln2 : 0 ≤ ln + I k 5 ∧ ln + I k 5 ≤ 8 := by omega
                  refine jm_iinc C dX2_glide_84 (by decide) rfl ?_
                  refine jm_goto 12 C dX2_glide_87 rfl ?_
                  refine jm_lvs (lv' := [(0, _), (1, _), (2, _)]) (jm_sub_c rfl (jm_sub_c rfl (jm_sub_c rfl (jm_sub_0 _)))) ?_
                  exact ih (m + 1) _ (hk_wW Wv (ln * 61 + (y + 1))) _ _ _ _ (by omega) (by omega) hT2 hrel2 hag2 hln2 (by omega) (by omega) (by omega)
                · skip
                  obtain ⟨hb2, rfl⟩ : hk_lie (I (k + 100 + 100)) (ln + I k 5) (y + 1) ≠ -1 ∧ yI19 = hk_sl Iw k ln (y + 1) (e1.tdiv 2) (sp + 1) (hk_lie (I (k + 100 + 100)) (ln + I k 5) (y + 1)) := by
                    rcases yh17 with ⟨a, b, c⟩ | ⟨a, b, c⟩
                    · exact ⟨a, c⟩
                    · exact absurd b (by omega)
                  rw [if_pos hb2] at hT1
                  refine jm_aload_n C dX2_glide_79 rfl ?_
                  refine jm_cVd (n := 0) (ci := 2) [] C (kX2_restingPlace E w (hk_sl Iw k ln (y + 1) (e1.tdiv 2) (sp + 1) (hk_lie (I (k + 100 + 100)) (ln + I k 5) (y + 1))) _ h (by rw [hk_sl_g2]; omega) (by rw [hk_sl_g3]; omega)) jw_m_RX2_71 okX2_restingPlace rfl ⟨rfl, rfl⟩ ⟨Nat.le_of_ble_eq_true rfl, Nat.le_of_ble_eq_true rfl⟩ rfl h.1 h.2.1 rfl rfl (Nat.le_of_ble_eq_true rfl) dX2_glide_80 ⟨Nat.le_of_ble_eq_true rfl, Nat.le_of_ble_eq_true rfl⟩ (fun yz22 yh21 => ?_)
                  rw [hk_sl_g2, hk_sl_g3] at yh21
                  subst yh21
                  exact hR _ _ _ _ dX2_glide_83 rfl (hk_gp hT1 (fun _ => rfl) hrel2)
              · skip
                refine jm_iconst C dX2_glide_70 ?_
                exact hR _ _ _ _ dX2_glide_71 rfl (hk_gp (by rw [if_pos (show ¬ (0 ≤ ln + I k 5 ∧ ln + I k 5 ≤ 8) by omega)] at hT1; exact hT1) (fun q => absurd rfl q) hrel2)
            · skip
              obtain ⟨sp2, rfl, hT2, hsp2⟩ : ∃ sp2, yI10 = hk_sl Iw k ln (y + 1) e1 sp2 (-1) ∧ hk_T (hk_lie (I (k + 100 + 100))) (I k 5) (I k 6) (I k 7) (60 - (m + 1)) (hk_wW Wv (ln * 61 + (y + 1))) ln (y + 1) e1 sp2 = hk_T (hk_lie (I (k + 100 + 100))) (I k 5) (I k 6) (I k 7) 60 (I (ks + 100)) ln0 y0 en0 0 ∧ (0 ≤ sp2 ∧ sp2 ≤ sp + 1) := by
                rcases yh8 with ⟨a, b, c⟩ | ⟨a, a2, b, c⟩ | ⟨a, a2, a3, b, c⟩ | ⟨a, a2, a3, b, c⟩
                · exact ⟨sp, c, by rw [if_pos (Or.inl a)] at hT1; exact hT1, by omega⟩
                · exact ⟨sp, c, by rw [if_pos (Or.inr ⟨a, a2⟩)] at hT1; exact hT1, by omega⟩
                · exact absurd b (by omega)
                · exact ⟨sp + 1, c, by rw [if_neg (fun q => q.elim a a2), if_neg a3] at hT1; exact hT1, by omega⟩
              have hln2 : 0 ≤ ln ∧ ln ≤ 8 := hln
              refine jm_goto 84 C dX2_glide_49 rfl ?_
              refine jm_iinc C dX2_glide_84 (by decide) rfl ?_
              refine jm_goto 12 C dX2_glide_87 rfl ?_
              refine jm_lvs (lv' := [(0, _), (1, _), (2, _)]) (jm_sub_c rfl (jm_sub_c rfl (jm_sub_c rfl (jm_sub_0 _)))) ?_
              exact ih (m + 1) _ (hk_wW Wv (ln * 61 + (y + 1))) _ _ _ _ (by omega) (by omega) hT2 hrel2 hag2 hln2 (by omega) (by omega) (by omega)
          · skip
            refine jm_iconst C dX2_glide_40 ?_
            exact hR _ _ _ _ dX2_glide_41 rfl (hk_gp (by rw [if_pos (show 60 ≤ y + 1 by omega)] at hT1; exact hT1) (fun q => absurd rfl q) hrel2)
        · skip
          obtain ⟨en2, ht2, rfl, hc⟩ : ∃ en2 ht2, yI4 = hk_sl Iv k ln y en2 sp ht2 ∧ ((en < hk_cst Wv (I k 6) (I k 7) ln (y + 1) ∧ en2 = en ∧ ht2 = -1) ∨ (¬ en < hk_cst Wv (I k 6) (I k 7) ln (y + 1) ∧ hk_lie (I (k + 100 + 100)) ln (y + 1) ≠ -1 ∧ en2 = (en * 3).tdiv 4 ∧ ht2 = hk_lie (I (k + 100 + 100)) ln (y + 1))) := by
            rcases yh2 with ⟨a, b, c⟩ | ⟨a, b, c, d⟩ | ⟨a, b, c, d⟩
            · exact ⟨_, _, c, Or.inl ⟨a, rfl, rfl⟩⟩
            · exact ⟨_, _, d, Or.inr ⟨a, b, rfl, rfl⟩⟩
            · exact absurd c (by omega)
          refine jm_aload_n C dX2_glide_26 rfl ?_
          refine jm_cVd (n := 0) (ci := 2) [] C (kX2_restingPlace E w (hk_sl Iv k ln y en2 sp ht2) _ h (by rw [hk_sl_g2]; omega) (by rw [hk_sl_g3]; omega)) jw_m_RX2_71 okX2_restingPlace rfl ⟨rfl, rfl⟩ ⟨Nat.le_of_ble_eq_true rfl, Nat.le_of_ble_eq_true rfl⟩ rfl h.1 h.2.1 rfl rfl (Nat.le_of_ble_eq_true rfl) dX2_glide_27 ⟨Nat.le_of_ble_eq_true rfl, Nat.le_of_ble_eq_true rfl⟩ (fun yz24 yh23 => ?_)
          rw [hk_sl_g2, hk_sl_g3] at yh23
          subst yh23
          exact hR _ _ _ _ dX2_glide_30 rfl (by
              rcases hc with ⟨a, rfl, rfl⟩ | ⟨a, b, rfl, rfl⟩
              · exact hk_gp (by rw [if_pos a] at hT1; exact hT1) (fun q => absurd rfl q) hrel
              · exact hk_gp (by rw [if_neg a, if_pos b] at hT1; exact hT1) (fun _ => rfl) hrel)
  refine jm_lvs (lv' := [(0, _), (1, _), (2, _)]) (jm_sub_c rfl (jm_sub_c rfl (jm_sub_c rfl (jm_sub_0 _)))) ?_
  exact lp12 _ 0 _ (I (ks + 100)) _ _ _ _ (Nat.lt_succ_self _) (Nat.zero_le _) rfl ⟨fun _ _ => rfl, hw, fun _ => rfl, fun _ => rfl⟩ (fun _ _ _ _ _ _ => rfl) hl0 hy0 hen0 (by omega)
end
section
/-! CHAINS: a stone that is hit goes on -/
def hk_ok (p : Int) : Prop := p = -1 ∨ (30 ≤ p ∧ p ≤ 859 ∧ 30 ≤ p % 100 ∧ p % 100 ≤ 59)
def hk_good (f : Int → Int) : Prop := ∀ i, 0 ≤ i → i < 6 → hk_ok (f i)
def hk_w9 (W : Int → Int) : Prop := ∀ c, 0 ≤ W c ∧ W c ≤ 9
theorem hk_w9_w {W : Int → Int} (h : hk_w9 W) (c : Int) : hk_w9 (hk_wW W c) := fun b => by
  have h1 := h b
  have h2 := h c
  unfold hk_wW
  split <;> omega
theorem hk_ok_rest {x y : Int} (hx : 0 ≤ x ∧ x ≤ 8) (hy : 0 ≤ y ∧ y ≤ 59) : hk_ok (hk_rest x y) := by
  unfold hk_rest hk_ok
  split
  · exact Or.inl rfl
  · right; omega
theorem hk_agr_rf (W : Int → Int) (y : Int) : hk_agr W W y := fun _ _ _ _ _ _ => rfl
theorem hk_agr_up {U W : Int → Int} {y y' : Int} (h : hk_agr U W y) (hy : y ≤ y') : hk_agr U W y' := fun a b h1 h2 h3 h4 => h a b h1 h2 (by omega) h4
theorem hk_agr_tr {U V W : Int → Int} {y : Int} (h : hk_agr U V y) (h2 : hk_agr V W y) : hk_agr U W y := fun a b q1 q2 q3 q4 => (h a b q1 q2 q3 q4).trans (h2 a b q1 q2 q3 q4)
theorem hk_agr_w (W : Int → Int) {ln y : Int} (hl : 0 ≤ ln ∧ ln ≤ 8) (hy : 0 ≤ y ∧ y ≤ 59) : hk_agr (hk_wW W (ln * 61 + (y + 1))) W (y + 1) := by
  intro x' y' hx hx2 hy1 hy2
  have hne : ¬ x' * 61 + y' = ln * 61 + (y + 1) := by omega
  unfold hk_wW
  rw [if_neg (fun q => hne q.1)]
/-- what a way's end has: the place is one, who is hit lies there, no cell behind him is worn -/
def hk_tend (L : Int → Int → Int) (W : Int → Int) (y en : Int) (R : (Int → Int) × Int × Int × Int) : Prop :=
  hk_ok R.2.1 ∧ hk_w9 R.1 ∧ (R.2.2.1 = -1 ∨ ∃ xj yj, 0 ≤ xj ∧ xj ≤ 8 ∧ y < yj ∧ yj ≤ 60 ∧ L xj yj = R.2.2.1 ∧ hk_agr R.1 W yj ∧ 0 ≤ R.2.2.2 ∧ R.2.2.2 ≤ en)
theorem hk_T_all (L : Int → Int → Int) (tn lo hi : Int) : ∀ (n : Nat) (W : Int → Int) (x y en sp : Int), hk_w9 W → 0 ≤ x ∧ x ≤ 8 → 0 ≤ y ∧ y ≤ 59 → 0 ≤ en → hk_tend L W y en (hk_T L tn lo hi n W x y en sp)
  | 0, W, x, y, en, sp, hW, hx, hy, hen => ⟨Or.inl rfl, hW, Or.inl rfl⟩
  | n + 1, W, x, y, en, sp, hW, hx, hy, hen => by
    have hc := hk_cst_r (lo := lo) (hi := hi) (hW (x * 61 + (y + 1)))
    have hW2 := hk_w9_w hW (x * 61 + (y + 1))
    have hag := hk_agr_w W hx hy
    have lift : ∀ {x2 e2 s2 : Int}, 0 ≤ x2 ∧ x2 ≤ 8 → y + 1 ≤ 59 → 0 ≤ e2 → e2 ≤ en → hk_tend L W y en (hk_T L tn lo hi n (hk_wW W (x * 61 + (y + 1))) x2 (y + 1) e2 s2) := by
      intro x2 e2 s2 h1 h2 h3 h4
      obtain ⟨q1, q2, q3⟩ := hk_T_all L tn lo hi n (hk_wW W (x * 61 + (y + 1))) x2 (y + 1) e2 s2 hW2 h1 ⟨by omega, h2⟩ h3
      refine ⟨q1, q2, ?_⟩
      rcases q3 with q3 | ⟨xj, yj, r1, r2, r3, r4, r5, r6, r7, r8⟩
      · exact Or.inl q3
      · exact Or.inr ⟨xj, yj, r1, r2, by omega, r4, r5, hk_agr_tr r6 (hk_agr_up hag (by omega)), r7, by omega⟩
    rw [hk_T]
    by_cases h1 : en < hk_cst W lo hi x (y + 1)
    · rw [if_pos h1]; exact ⟨hk_ok_rest hx hy, hW, Or.inl rfl⟩
    rw [if_neg h1]
    by_cases h2 : L x (y + 1) ≠ -1
    · rw [if_pos h2]
      have e := Int.tdiv_eq_ediv_of_nonneg (a := en * 3) (b := 4) (by omega)
      exact ⟨hk_ok_rest hx hy, hW, Or.inr ⟨x, y + 1, hx.1, hx.2, by omega, by omega, rfl, hk_agr_rf W _, by show 0 ≤ (en * 3).tdiv 4; omega, by show (en * 3).tdiv 4 ≤ en; omega⟩⟩
    rw [if_neg h2]
    by_cases h3 : 60 ≤ y + 1
    · rw [if_pos h3]; exact ⟨Or.inl rfl, hW2, Or.inl rfl⟩
    rw [if_neg h3]
    by_cases h4 : tn = 0 ∨ (lo ≤ y + 1 ∧ y + 1 ≤ hi)
    · rw [if_pos h4]; exact lift hx (by omega) (by omega) (by omega)
    rw [if_neg h4]
    by_cases h5 : 12 ≤ sp + 1 ∨ (en - hk_cst W lo hi x (y + 1) < 300 ∧ 6 ≤ sp + 1)
    · rw [if_pos h5]
      by_cases h6 : ¬ (0 ≤ x + tn ∧ x + tn ≤ 8)
      · rw [if_pos h6]; exact ⟨Or.inl rfl, hW2, Or.inl rfl⟩
      rw [if_neg h6]
      by_cases h7 : L (x + tn) (y + 1) ≠ -1
      · rw [if_pos h7]
        have e := Int.tdiv_eq_ediv_of_nonneg (a := en - hk_cst W lo hi x (y + 1)) (b := 2) (by omega)
        exact ⟨hk_ok_rest hx (by omega), hW2, Or.inr ⟨x + tn, y + 1, by omega, by omega, by omega, by omega, rfl, hag, by show 0 ≤ (en - hk_cst W lo hi x (y + 1)).tdiv 2; omega, by show (en - hk_cst W lo hi x (y + 1)).tdiv 2 ≤ en; omega⟩⟩
      · rw [if_neg h7]; exact lift (by omega) (by omega) (by omega) (by omega)
    · rw [if_neg h5]; exact lift hx (by omega) (by omega) (by omega)
theorem hk_first_in (f : Int → Int) (p : Int) : ∀ (n : Nat) (i : Int), hk_first f p n i ≠ -1 → i ≤ hk_first f p n i ∧ hk_first f p n i < i + n ∧ f (hk_first f p n i) = p
  | 0, _, h => absurd rfl h
  | n + 1, i, h => by
    unfold hk_first at h ⊢
    by_cases h1 : f i = p
    · rw [if_pos h1]; exact ⟨by omega, by omega, h1⟩
    · rw [if_neg h1] at h ⊢
      have ih := hk_first_in f p n (i + 1) h
      exact ⟨by omega, by omega, ih.2.2⟩
theorem hk_lie_in {f : Int → Int} {x y : Int} (h : hk_lie f x y ≠ -1) : 30 ≤ y ∧ 0 ≤ hk_lie f x y ∧ hk_lie f x y < 6 ∧ f (hk_lie f x y) = 100 * x + y := by
  unfold hk_lie at h ⊢
  by_cases h1 : y < 30
  · rw [if_pos h1] at h; exact absurd rfl h
  · rw [if_neg h1] at h ⊢
    have q := hk_first_in f (100 * x + y) 6 0 h
    exact ⟨by omega, q.1, q.2.1, q.2.2⟩
def hk_pt (f : Int → Int) (n v : Int) : Int → Int := fun b => if b = n then v else f b
theorem hk_good_pt {f : Int → Int} (h : hk_good f) (n : Int) {v : Int} (hv : hk_ok v) : hk_good (hk_pt f n v) := fun i h1 h2 => by
  unfold hk_pt
  split
  · exact hv
  · exact h i h1 h2
def hk_chain : Nat → (Int → Int) → (Int → Int) → Int → Int → (Int → Int) × (Int → Int)
  | 0, W, f, _, _ => (W, f)
  | n + 1, W, f, ht, gv =>
    if ht = -1 then (W, f)
    else hk_chain n (hk_T (hk_lie f) 0 1 0 60 W ((hk_at f ht).tdiv 100) ((hk_at f ht).tmod 100) gv 0).1 (hk_pt f ht (hk_T (hk_lie f) 0 1 0 60 W ((hk_at f ht).tdiv 100) ((hk_at f ht).tmod 100) gv 0).2.1) (hk_T (hk_lie f) 0 1 0 60 W ((hk_at f ht).tdiv 100) ((hk_at f ht).tmod 100) gv 0).2.2.1 (hk_T (hk_lie f) 0 1 0 60 W ((hk_at f ht).tdiv 100) ((hk_at f ht).tmod 100) gv 0).2.2.2
/-- a hit: nobody, or one who lies on the sheet, with cells behind him as they were -/
def hk_hit (f : Int → Int) (U W : Int → Int) (ht gv : Int) : Prop := ht = -1 ∨ (0 ≤ ht ∧ ht < 6 ∧ 0 ≤ gv ∧ gv ≤ 1000 ∧ ∃ xj yj, 0 ≤ xj ∧ xj ≤ 8 ∧ 30 ≤ yj ∧ yj ≤ 59 ∧ f ht = 100 * xj + yj ∧ hk_agr U W yj)
theorem hk_hit_of {f : Int → Int} {U W : Int → Int} {y en n : Int} {R : (Int → Int) × Int × Int × Int} (hg : hk_good f) (h : hk_tend (hk_lie f) W y en R) (hen : en ≤ 1000) (hU : ∀ yj, y < yj → hk_agr R.1 W yj → hk_agr U R.1 yj) (hn : ∀ xj yj, y < yj → f n = 100 * xj + yj → 0 ≤ xj → xj ≤ 8 → 30 ≤ yj → yj ≤ 59 → R.2.2.1 = n → False) (v : Int) : hk_hit (hk_pt f n v) U R.1 R.2.2.1 R.2.2.2 := by
  obtain ⟨h1, h2, h3⟩ := h
  rcases h3 with h3 | ⟨xj, yj, r1, r2, r3, r4, r5, r6, r7, r8⟩
  · exact Or.inl h3
  · by_cases h0 : R.2.2.1 = -1
    · exact Or.inl h0
    · have q := hk_lie_in (f := f) (x := xj) (y := yj) (by rw [r5]; exact h0)
      rw [r5] at q
      have ho := hg R.2.2.1 q.2.1 q.2.2.1
      have hyj : yj ≤ 59 := by
        unfold hk_ok at ho
        rw [q.2.2.2] at ho
        omega
      have hne : R.2.2.1 ≠ n := fun e => hn xj yj r3 (by rw [← e]; exact q.2.2.2) r1 r2 q.1 hyj e
      refine Or.inr ⟨q.2.1, q.2.2.1, r7, by omega, xj, yj, r1, r2, q.1, hyj, ?_, hU yj r3 r6⟩
      unfold hk_pt
      rw [if_neg hne]
      exact q.2.2.2
theorem hk_T_agr (L : Int → Int → Int) (tn lo hi : Int) : ∀ (n : Nat) (U W : Int → Int) (x y en sp : Int), hk_agr U W y → 0 ≤ x ∧ x ≤ 8 → 0 ≤ y ∧ y ≤ 59 → (hk_T L tn lo hi n U x y en sp).2 = (hk_T L tn lo hi n W x y en sp).2
  | 0, U, W, x, y, en, sp, h, hx, hy => rfl
  | n + 1, U, W, x, y, en, sp, h, hx, hy => by
    have hU := h x (y + 1) hx.1 hx.2 (by omega) (by omega)
    have hc : hk_cst U lo hi x (y + 1) = hk_cst W lo hi x (y + 1) := hk_cst_e hU
    have hag : hk_agr (hk_wW U (x * 61 + (y + 1))) (hk_wW W (x * 61 + (y + 1))) (y + 1) := by
      intro x' y' h1 h2 h3 h4
      have hne : ¬ x' * 61 + y' = x * 61 + (y + 1) := by omega
      unfold hk_wW
      rw [if_neg (fun q => hne q.1), if_neg (fun q => hne q.1)]
      exact h x' y' h1 h2 (by omega) h4
    rw [hk_T, hk_T, hc]
    by_cases h1 : en < hk_cst W lo hi x (y + 1)
    · rw [if_pos h1, if_pos h1]
    rw [if_neg h1, if_neg h1]
    by_cases h2 : L x (y + 1) ≠ -1
    · rw [if_pos h2, if_pos h2]
    rw [if_neg h2, if_neg h2]
    by_cases h3 : 60 ≤ y + 1
    · rw [if_pos h3, if_pos h3]
    rw [if_neg h3, if_neg h3]
    by_cases h4 : tn = 0 ∨ (lo ≤ y + 1 ∧ y + 1 ≤ hi)
    · rw [if_pos h4, if_pos h4]; exact hk_T_agr L tn lo hi n _ _ _ _ _ _ hag hx (by omega)
    rw [if_neg h4, if_neg h4]
    by_cases h5 : 12 ≤ sp + 1 ∨ (en - hk_cst W lo hi x (y + 1) < 300 ∧ 6 ≤ sp + 1)
    · rw [if_pos h5, if_pos h5]
      by_cases h6 : ¬ (0 ≤ x + tn ∧ x + tn ≤ 8)
      · rw [if_pos h6, if_pos h6]
      rw [if_neg h6, if_neg h6]
      by_cases h7 : L (x + tn) (y + 1) ≠ -1
      · rw [if_pos h7, if_pos h7]
      · rw [if_neg h7, if_neg h7]; exact hk_T_agr L tn lo hi n _ _ _ _ _ _ hag (by omega) (by omega)
    · rw [if_neg h5, if_neg h5]; exact hk_T_agr L tn lo hi n _ _ _ _ _ _ hag hx (by omega)
theorem hk_gp_conv {I : jm_M} {k ks : Int} {R R2 : (Int → Int) × Int × Int × Int} {I' : jm_M} {z : Int} (h : hk_gpost I k ks R I' z) (h2 : R.2 = R2.2) (h1 : I k 1 ≠ 0 → R.1 = R2.1) : hk_gpost I k ks R2 I' z := by
  obtain ⟨Iv, ln, y, en, sp, e1, e2, e3, e4⟩ := h
  rw [h2] at e1 e2 e3
  exact ⟨Iv, ln, y, en, sp, e1, e2, e3, e4.1, e4.2.1, fun q => (e4.2.2.1 q).trans (h1 q), e4.2.2.2⟩
/-- the maps while stones run: the slide, its stones, the sheet's wear may differ from I -/
def hk_rrel (I : jm_M) (k ks wv : Int) (f W : Int → Int) (ht gv : Int) (M : jm_M) : Prop := (∀ a, a ≠ k → a ≠ k + 100 + 100 → a ≠ ks + 100 → M a = I a) ∧ M k 1 = wv ∧ M (k + 100 + 100) = f ∧ M k 9 = ht ∧ (ht ≠ -1 → M k 4 = gv) ∧ (-1 ≤ M k 5 ∧ M k 5 ≤ 1) ∧ hk_w9 (M (ks + 100)) ∧ (wv ≠ 0 → M (ks + 100) = W) ∧ (wv = 0 → M (ks + 100) = I (ks + 100)) ∧ hk_w9 W ∧ hk_good f ∧ hk_hit f (M (ks + 100)) W ht gv
/-- what is left when all lie still -/
def hk_rpost (I : jm_M) (k ks wv : Int) (R : (Int → Int) × (Int → Int)) (M : jm_M) : Prop := (∀ a, a ≠ k → a ≠ k + 100 + 100 → a ≠ ks + 100 → M a = I a) ∧ M (k + 100 + 100) = R.2 ∧ hk_w9 (M (ks + 100)) ∧ (wv ≠ 0 → M (ks + 100) = R.1) ∧ (wv = 0 → M (ks + 100) = I (ks + 100)) ∧ hk_good R.2 ∧ hk_w9 R.1
theorem hk_rrel_post {I M : jm_M} {k ks wv ht gv : Int} {f W : Int → Int} (h : hk_rrel I k ks wv f W ht gv M) : hk_rpost I k ks wv (W, f) M := ⟨h.1, h.2.2.1, h.2.2.2.2.2.2.1, h.2.2.2.2.2.2.2.1, h.2.2.2.2.2.2.2.2.1, h.2.2.2.2.2.2.2.2.2.2.1, h.2.2.2.2.2.2.2.2.2.1⟩
theorem hk_rrel_go {I M : jm_M} {k ks wv n z en y0 : Int} {f W : Int → Int} {R : (Int → Int) × Int × Int × Int} {Iv : jm_M} {ln y e2 sp : Int} (hk1 : k ≠ ks + 100) (hk2 : k + 100 + 100 ≠ ks + 100)
    (hM1 : ∀ a, a ≠ k → a ≠ k + 100 + 100 → a ≠ ks + 100 → M a = I a) (hM2 : M k 1 = wv) (hM3 : M (k + 100 + 100) = f) (hM5 : -1 ≤ M k 5 ∧ M k 5 ≤ 1) (hM7 : wv = 0 → M (ks + 100) = I (ks + 100)) (hag0 : hk_agr (M (ks + 100)) W y0) (hz : z = R.2.1) (hgv : R.2.2.1 ≠ -1 → e2 = R.2.2.2) (hrel : hk_rel M k ks Iv R.1) (hR : hk_tend (hk_lie f) W y0 en R) (hgood : hk_good f) (hen : en ≤ 1000)
    (hn : ∀ xj yj, y0 < yj → f n = 100 * xj + yj → 0 ≤ xj → xj ≤ 8 → 30 ≤ yj → yj ≤ 59 → R.2.2.1 = n → False) : hk_rrel I k ks wv (hk_pt f n z) R.1 R.2.2.1 R.2.2.2 (jm_up (hk_sl Iv k ln y e2 sp R.2.2.1) (k + 100 + 100) n z) := by
  obtain ⟨r1, r2, r3, r4⟩ := hrel
  have hne : k + 100 + 100 ≠ k := by omega
  have hIk : Iv k = M k := r1 k hk1
  have e1 : ∀ a, a ≠ k → a ≠ k + 100 + 100 → jm_up (hk_sl Iv k ln y e2 sp R.2.2.1) (k + 100 + 100) n z a = Iv a := fun a h1 h2 => by
    funext b
    rw [jm_up_n (Or.inl h2), hk_sl_go _ _ _ _ _ _ _ _ _ h1]
  have e2' : ∀ b, jm_up (hk_sl Iv k ln y e2 sp R.2.2.1) (k + 100 + 100) n z k b = hk_sl Iv k ln y e2 sp R.2.2.1 k b := fun b => jm_up_n (Or.inl (fun q => hne q.symm))
  have e3 : jm_up (hk_sl Iv k ln y e2 sp R.2.2.1) (k + 100 + 100) n z (ks + 100) = Iv (ks + 100) := e1 _ (fun q => hk1 q.symm) (fun q => hk2 q.symm)
  have hit : hk_hit (hk_pt f n z) (Iv (ks + 100)) R.1 R.2.2.1 R.2.2.2 := by
    refine hk_hit_of hgood hR hen (fun yj hyj hag => ?_) hn z
    by_cases hw1 : wv = 0
    · rw [r4 (by rw [hM2]; exact hw1)]
      exact fun a b z1 z2 z3 z4 => (hag0 a b z1 z2 (by omega) z4).trans (hag a b z1 z2 z3 z4).symm
    · rw [r3 (by rw [hM2]; exact hw1)]; exact hk_agr_rf _ _
  refine ⟨fun a h1 h2 h3 => by rw [e1 a h1 h2, r1 a h3, hM1 a h1 h2 h3], ?_, ?_, ?_, fun h => ?_, ?_, ?_, fun h => ?_, fun h => ?_, hR.2.1, ?_, ?_⟩
  · rw [e2', hk_sl_gk _ _ _ _ _ _ _ _ (by decide), hIk, hM2]
  · funext b
    unfold hk_pt
    by_cases hb : b = n
    · subst hb; rw [if_pos rfl, jm_up_s]
    · rw [if_neg hb, jm_up_n (Or.inr hb), hk_sl_go _ _ _ _ _ _ _ _ _ hne, r1 _ hk2, hM3]
  · rw [e2', hk_sl_g9]
  · rw [e2', hk_sl_g4]; exact hgv h
  · rw [e2', hk_sl_gk _ _ _ _ _ _ _ _ (by decide), hIk]; exact hM5
  · rw [e3]; exact r2
  · rw [e3]; exact r3 (by rw [hM2]; exact h)
  · rw [e3, r4 (by rw [hM2]; exact h)]; exact hM7 h
  · rw [hz]; exact hk_good_pt hgood n hR.1
  · rw [e3]; exact hit
def hk_F0 (I : jm_M) (k k2 : Int) : Int → Int := hk_fill I (k + 100 + 100) 6 (I (k2 + 100)) (k + 100 + 100)
def hk_R1 (I : jm_M) (k ks k2 : Int) : (Int → Int) × Int × Int × Int := hk_T (hk_lie (hk_F0 I k k2)) (I k 5) (I k 6) (I k 7) 60 (I (ks + 100)) (I k 2) (I k 3) (I k 4) 0
def hk_RR (I : jm_M) (k ks k2 n : Int) : (Int → Int) × (Int → Int) := hk_chain 6 (hk_R1 I k ks k2).1 (hk_pt (hk_F0 I k k2) n (hk_R1 I k ks k2).2.1) (hk_R1 I k ks k2).2.2.1 (hk_R1 I k ks k2).2.2.2
theorem hk_ok_R {p : Int} (h : hk_ok p) : jm_R p := by unfold hk_ok at h; unfold jm_R; omega
end
section
/-- glide over any map -/
theorem kX2_glide2 (E : jm_E) (w : jm_W) (M : jm_M) (k : Int) (h : jm_X2 E w k) (ks : Int) (hs : jm_X1 E w ks) (hne : ks ≠ k) (hnw : ks + 100 ≠ k) (hn3 : k + 100 + 100 ≠ ks + 100) (hl0 : 0 ≤ M k 2 ∧ M k 2 ≤ 8) (hy0 : 0 ≤ M k 3 ∧ M k 3 ≤ 59) (hen0 : 0 ≤ M k 4 ∧ M k 4 ≤ 100000) (htn : -1 ≤ M k 5 ∧ M k 5 ≤ 1) (hw : ∀ c, 0 ≤ M (ks + 100) c ∧ M (ks + 100) c ≤ 9) : jm_Mi E yX2_glide wX2_glide rmX2_glide 0 0 w M [.ref (w.2.1 k), .ref (w.2.1 ks)] (fun I' z => hk_gpost M k ks (hk_T (hk_lie (M (k + 100 + 100))) (M k 5) (M k 6) (M k 7) 60 (M (ks + 100)) (M k 2) (M k 3) (M k 4) 0) I' z) := by
  have q := kX2_glide E w M k h ks hs hne hnw hn3 (M k 2) (M k 3) (M k 4) (M k 8) (M k 9) hl0 hy0 hen0 htn hw
  rw [hk_sl_self] at q
  exact q
set_option maxRecDepth 100000 in
set_option maxHeartbeats 4000000 in
theorem kX2_run (E : jm_E) (w : jm_W) (I : jm_M) (k : Int) (h : jm_X2 E w k) (ks : Int) (hs : jm_X1 E w ks) (k2 : Int) (h2 : jm_X3 E w k2) (hne : ks ≠ k) (hnw : ks + 100 ≠ k) (hn3 : k + 100 + 100 ≠ ks + 100) (n wv : Int) (hn : 0 ≤ n ∧ n < 6) (hwv : wv = 0 ∨ wv = 1) (hl0 : 0 ≤ I k 2 ∧ I k 2 ≤ 8) (hy0 : 0 ≤ I k 3 ∧ I k 3 ≤ 59) (hen0 : 0 ≤ I k 4 ∧ I k 4 ≤ 1000) (htn : -1 ≤ I k 5 ∧ I k 5 ≤ 1) (hw : hk_w9 (I (ks + 100))) (hg : hk_good (I (k2 + 100))) (hfn : I (k2 + 100) n = -1) : jm_Mi E yX2_run wX2_run rmX2_run 0 0 w I [.ref (w.2.1 k), .ref (w.2.1 ks), .ref (w.2.1 k2), jm_v n, jm_v wv] (fun I' z => z = (hk_R1 I k ks k2).2.1 ∧ hk_rpost I k ks wv (hk_RR I k ks k2 n) I') := by
  refine jm_in_i (cc := cX2_run) (maxL := 8) (rt := .int) RX2 (by decide +kernel) rfl rfl (Nat.le_of_ble_eq_true rfl) (by simp [Value.category]) ?_
  intro G C hR hI
  refine jm_aload_n C dX2_run_0 rfl ?_
  refine jm_getr (ci := 2) (f := 0) C rfl jw_u_2 h.1 h.2.1 rfl (by decide) jw_f_RX2_12 dX2_run_1 ?_
  refine jm_aload_n C dX2_run_4 rfl ?_
  refine jm_cVu (n := 1) (ci := 3) [] C (kX3_copyFrom E w I _ h.2.2 _ h2) jw_m_RX2_40 okX3_copyFrom rfl ⟨rfl, rfl⟩ ⟨Nat.le_of_ble_eq_true rfl, Nat.le_of_ble_eq_true rfl⟩ rfl h.2.2.1 h.2.2.2.1 rfl rfl (Nat.le_of_ble_eq_true rfl) dX2_run_5 ⟨Nat.le_of_ble_eq_true rfl, Nat.le_of_ble_eq_true rfl⟩ ?_
  refine jm_aload_n C dX2_run_8 rfl ?_
  refine jm_iload C dX2_run_9 rfl ?_
  refine jm_put (ci := 2) (f := 1) (ty := .boolean) 1 rfl C rfl tyX2 tyX2_ok nmX2 jw_u_2 h.1 h.2.1 rfl (by decide) jw_f_RX2_44 rfl (by decide +kernel) (jm_nz hwv) (jm_fz hwv) dX2_run_11 (by omega) ?_
  obtain ⟨M1, hM1⟩ : ∃ X, X = jm_up (hk_fill I ((k + 100) + 100) 6 (I (k2 + 100))) k 1 wv := ⟨_, rfl⟩
  rw [← hM1]
  have q1 : ∀ b, b ≠ 1 → M1 k b = I k b := fun b hb => by rw [hM1, jm_up_n (Or.inr hb), hk_fill_o (Or.inl (by omega))]
  have q2 : M1 k 1 = wv := by rw [hM1, jm_up_s]
  have q3 : M1 (k + 100 + 100) = hk_F0 I k k2 := by rw [hM1]; funext b; rw [jm_up_n (Or.inl (by omega))]; rfl
  have q4 : ∀ a, a ≠ k → a ≠ k + 100 + 100 → M1 a = I a := fun a h1 h2 => by rw [hM1]; funext b; rw [jm_up_n (Or.inl h1), hk_fill_o (Or.inl h2)]
  have q5 : M1 (ks + 100) = I (ks + 100) := q4 _ hnw (by omega)
  have hR1 : hk_T (hk_lie (M1 (k + 100 + 100))) (M1 k 5) (M1 k 6) (M1 k 7) 60 (M1 (ks + 100)) (M1 k 2) (M1 k 3) (M1 k 4) 0 = hk_R1 I k ks k2 := by rw [q3, q5, q1 5 (by decide), q1 6 (by decide), q1 7 (by decide), q1 2 (by decide), q1 3 (by decide), q1 4 (by decide)]; rfl
  have hgf : hk_good (hk_F0 I k k2) := fun i h1 h2 => by unfold hk_F0; rw [hk_fill_i ⟨h1, h2⟩]; exact hg i h1 h2
  have htd : hk_tend (hk_lie (hk_F0 I k k2)) (I (ks + 100)) (I k 3) (I k 4) (hk_R1 I k ks k2) := hk_T_all (hk_lie (hk_F0 I k k2)) (I k 5) (I k 6) (I k 7) 60 (I (ks + 100)) (I k 2) (I k 3) (I k 4) 0 hw hl0 hy0 hen0.1
  refine jm_aload_n C dX2_run_14 rfl ?_
  refine jm_aload_n C dX2_run_15 rfl ?_
  refine jm_cVi (n := 1) (ci := 2) [] C (kX2_glide2 E w M1 _ h _ hs hne hnw hn3 (by rw [q1 2 (by decide)]; exact hl0) (by rw [q1 3 (by decide)]; exact hy0) (by rw [q1 4 (by decide)]; omega) (by rw [q1 5 (by decide)]; exact htn) (by rw [q5]; exact hw)) jw_m_RX2_48 okX2_glide rfl ⟨rfl, rfl⟩ ⟨Nat.le_of_ble_eq_true rfl, Nat.le_of_ble_eq_true rfl⟩ rfl h.1 h.2.1 rfl rfl (Nat.le_of_ble_eq_true rfl) dX2_run_16 ⟨Nat.le_of_ble_eq_true rfl, Nat.le_of_ble_eq_true rfl⟩ (fun yI5 yz4 yh3 => ?_)
  rw [hR1] at yh3
  obtain ⟨Iv, ln, y, e2, sp, rfl, hz, hgv, hrel⟩ := yh3
  have hrz : jm_R yz4 := by rw [hz]; exact hk_ok_R htd.1
  refine jm_istore C dX2_run_19 (by decide) ?_
  refine jm_aload_n C dX2_run_21 rfl ?_
  refine jm_getr (ci := 2) (f := 0) C rfl jw_u_2 h.1 h.2.1 rfl (by decide) jw_f_RX2_12 dX2_run_22 ?_
  refine jm_iload_n C dX2_run_25 rfl ?_
  refine jm_iload C dX2_run_26 rfl ?_
  refine jm_cVu (n := 2) (ci := 3) [] C (kX3_put E w _ _ h.2.2 _ _ (by omega) hrz) jw_m_RX2_52 okX3_put rfl ⟨rfl, rfl⟩ ⟨Nat.le_of_ble_eq_true rfl, Nat.le_of_ble_eq_true rfl⟩ rfl h.2.2.1 h.2.2.2.1 rfl rfl (Nat.le_of_ble_eq_true rfl) dX2_run_28 ⟨Nat.le_of_ble_eq_true rfl, Nat.le_of_ble_eq_true rfl⟩ ?_
  rw [if_pos hn]
  have hrr : hk_rrel I k ks wv (hk_pt (hk_F0 I k k2) n yz4) (hk_R1 I k ks k2).1 (hk_R1 I k ks k2).2.2.1 (hk_R1 I k ks k2).2.2.2 (jm_up (hk_sl Iv k ln y e2 sp (hk_R1 I k ks k2).2.2.1) (k + 100 + 100) n yz4) :=
    hk_rrel_go (y0 := I k 3) (en := I k 4) (W := I (ks + 100)) (fun q => hnw q.symm) hn3 (fun a h1 h2 h3 => q4 a h1 h2) q2 q3 (by rw [q1 5 (by decide)]; exact htn) (fun _ => q5) (by rw [q5]; exact hk_agr_rf _ _) hz hgv hrel htd hgf hen0.2 (fun xj yj _ h1 h2 h3 h4 h5 _ => by unfold hk_F0 at h1; rw [hk_fill_i hn, hfn] at h1; omega)
  subst hz
  obtain ⟨M2, hM2⟩ : ∃ X, X = jm_up (hk_sl Iv k ln y e2 sp (hk_R1 I k ks k2).2.2.1) (k + 100 + 100) n (hk_R1 I k ks k2).2.1 := ⟨_, rfl⟩
  rw [← hM2] at hrr ⊢
  refine jm_iconst C dX2_run_31 ?_
  refine jm_istore C dX2_run_32 (by decide) ?_
  have lp34 : ∀ (yn : Nat) (m : Nat) (M : jm_M) (f W : Int → Int) (ht gv : Int), 6 - m < yn → (m ≤ 6) → (hk_rrel I k ks wv f W ht gv M) → (hk_chain (6 - m) W f ht gv = hk_RR I k ks k2 n) → jm_J E G (0, 0) w M 34 [(0, .ref (w.2.1 k)), (1, .ref (w.2.1 ks)), (5, jm_v ((hk_R1 I k ks k2).2.1)), (6, jm_v ((m : Nat) : Int))] [] := by
    intro yn
    induction yn with
    | zero => intro m M f W ht gv hlt hm hrr hch; exact absurd hlt (Nat.not_lt_zero _)
    | succ yn ih =>
      intro m M f W ht gv hlt hm hrr hch
      have hM9 : M k 9 = ht := hrr.2.2.2.1
      refine jm_iload C dX2_run_34 rfl ?_
      refine jm_bipush C dX2_run_36 (by decide +kernel) ?_
      refine jm_icmp_ge 88 C dX2_run_38 rfl (by omega) (by decide) (fun yc8 => ?_) (fun yc8 => ?_)
      · skip
        refine jm_iload C dX2_run_88 rfl ?_
        exact hR _ _ _ _ dX2_run_90 rfl ⟨rfl, by
            first
            | (rw [← hch, show 6 - m = 0 by omega]; exact hk_rrel_post hrr)
            | (rw [← hch, show 6 - m = (6 - (m + 1)) + 1 by omega, hk_chain, if_pos (show ht = -1 by omega)]; exact hk_rrel_post hrr)⟩
      · skip
        refine jm_aload_n C dX2_run_41 rfl ?_
        refine jm_getv (ci := 2) (f := 9) ht 9 rfl hM9 C rfl jw_u_2 h.1 h.2.1 rfl (by decide) jw_f_RX2_18 dX2_run_42 (fun yr9 => ?_)
        refine jm_iconst C dX2_run_45 ?_
        refine jm_icmp_eq 88 C dX2_run_46 rfl (by omega) (by decide) (fun yc10 => ?_) (fun yc10 => ?_)
        · skip
          refine jm_iload C dX2_run_88 rfl ?_
          exact hR _ _ _ _ dX2_run_90 rfl ⟨rfl, by
              first
              | (rw [← hch, show 6 - m = 0 by omega]; exact hk_rrel_post hrr)
              | (rw [← hch, show 6 - m = (6 - (m + 1)) + 1 by omega, hk_chain, if_pos (show ht = -1 by omega)]; exact hk_rrel_post hrr)⟩
        · skip
          have hht : ht ≠ -1 := by omega
          obtain ⟨t1, t2, t3, t4, xj, yj, u1, u2, u3, u4, u5, u6⟩ := hrr.2.2.2.2.2.2.2.2.2.2.2.resolve_left hht
          have hat : hk_at f ht = 100 * xj + yj := by unfold hk_at; rw [if_pos ⟨t1, t2⟩]; exact u5
          have hdv : (hk_at f ht).tdiv 100 = xj ∧ (hk_at f ht).tmod 100 = yj := by
            have e := hk_div (hk_at f ht) (by omega)
            omega
          rw [show 6 - m = (6 - (m + 1)) + 1 by omega, hk_chain, if_neg hht] at hch
          have hMp : M (k + 100 + 100) = f := hrr.2.2.1
          refine jm_aload_n C dX2_run_49 rfl ?_
          refine jm_getv (ci := 2) (f := 9) ht 9 rfl hM9 C rfl jw_u_2 h.1 h.2.1 rfl (by decide) jw_f_RX2_18 dX2_run_50 (fun yr11 => ?_)
          refine jm_istore C dX2_run_53 (by decide) ?_
          refine jm_aload_n C dX2_run_55 rfl ?_
          refine jm_aload_n C dX2_run_56 rfl ?_
          refine jm_getr (ci := 2) (f := 0) C rfl jw_u_2 h.1 h.2.1 rfl (by decide) jw_f_RX2_12 dX2_run_57 ?_
          refine jm_iload C dX2_run_60 rfl ?_
          refine jm_cVd (n := 1) (ci := 3) [.ref (w.2.1 k)] C (kX3_placeOf E w M _ h.2.2 _ (by omega)) jw_m_RX2_56 okX3_placeOf rfl ⟨rfl, rfl⟩ ⟨Nat.le_of_ble_eq_true rfl, Nat.le_of_ble_eq_true rfl⟩ rfl h.2.2.1 h.2.2.2.1 rfl rfl (Nat.le_of_ble_eq_true rfl) dX2_run_62 ⟨Nat.le_of_ble_eq_true rfl, Nat.le_of_ble_eq_true rfl⟩ (fun yz13 yh12 => ?_)
          rw [hMp] at yh12
          subst yh12
          refine jm_cVu (n := 1) (ci := 2) [] C (kX2_aimPushed E w M _ h _ (by omega)) jw_m_RX2_60 okX2_aimPushed rfl ⟨rfl, rfl⟩ ⟨Nat.le_of_ble_eq_true rfl, Nat.le_of_ble_eq_true rfl⟩ rfl h.1 h.2.1 rfl rfl (Nat.le_of_ble_eq_true rfl) dX2_run_65 ⟨Nat.le_of_ble_eq_true rfl, Nat.le_of_ble_eq_true rfl⟩ ?_
          obtain ⟨M3, hM3⟩ : ∃ X, X = (jm_up (jm_up (jm_up (jm_up (jm_up M k 2 ((hk_at f ht).tdiv 100)) k 3 ((hk_at f ht).tmod 100)) k 5 0) k 6 1) k 7 0) := ⟨_, rfl⟩
          rw [← hM3]
          have p2 : M3 k 2 = xj := by rw [hM3]; simp [jm_up]; exact hdv.1
          have p3 : M3 k 3 = yj := by rw [hM3]; simp [jm_up]; exact hdv.2
          have p5 : M3 k 5 = 0 := by rw [hM3]; simp [jm_up]
          have p6 : M3 k 6 = 1 := by rw [hM3]; simp [jm_up]
          have p7 : M3 k 7 = 0 := by rw [hM3]; simp [jm_up]
          have p4 : M3 k 4 = gv := by rw [hM3]; simp [jm_up]; exact hrr.2.2.2.2.1 hht
          have p1 : M3 k 1 = wv := by rw [hM3]; simp [jm_up]; exact hrr.2.1
          have pa : ∀ a, a ≠ k → M3 a = M a := fun a ha => by rw [hM3]; funext b; rw [jm_up_n (Or.inl ha), jm_up_n (Or.inl ha), jm_up_n (Or.inl ha), jm_up_n (Or.inl ha), jm_up_n (Or.inl ha)]
          have p8 : M3 (ks + 100) = M (ks + 100) := pa _ hnw
          have p9 : M3 (k + 100 + 100) = f := (pa _ (by omega)).trans hMp
          obtain ⟨R2, hR2⟩ : ∃ X, X = hk_T (hk_lie f) 0 1 0 60 W ((hk_at f ht).tdiv 100) ((hk_at f ht).tmod 100) gv 0 := ⟨_, rfl⟩
          have htd2 : hk_tend (hk_lie f) W yj gv R2 := by rw [hR2, hdv.1, hdv.2]; exact hk_T_all (hk_lie f) 0 1 0 60 W xj yj gv 0 hrr.2.2.2.2.2.2.2.2.2.1 ⟨u1, u2⟩ ⟨by omega, u4⟩ t3
          have hT2 : (hk_T (hk_lie (M3 (k + 100 + 100))) (M3 k 5) (M3 k 6) (M3 k 7) 60 (M3 (ks + 100)) (M3 k 2) (M3 k 3) (M3 k 4) 0).2 = R2.2 := by rw [hR2, p9, p5, p6, p7, p8, p2, p3, p4, hdv.1, hdv.2]; exact hk_T_agr _ _ _ _ 60 _ _ _ _ _ _ u6 ⟨u1, u2⟩ ⟨by omega, u4⟩
          have hT1 : M3 k 1 ≠ 0 → (hk_T (hk_lie (M3 (k + 100 + 100))) (M3 k 5) (M3 k 6) (M3 k 7) 60 (M3 (ks + 100)) (M3 k 2) (M3 k 3) (M3 k 4) 0).1 = R2.1 := fun q => by rw [hR2, p9, p5, p6, p7, p8, p2, p3, p4, hdv.1, hdv.2, hrr.2.2.2.2.2.2.2.1 (by rw [← p1]; exact q)]
          rw [← hR2] at hch
          refine jm_aload_n C dX2_run_68 rfl ?_
          refine jm_getr (ci := 2) (f := 0) C rfl jw_u_2 h.1 h.2.1 rfl (by decide) jw_f_RX2_12 dX2_run_69 ?_
          refine jm_iload C dX2_run_72 rfl ?_
          refine jm_aload_n C dX2_run_74 rfl ?_
          refine jm_aload_n C dX2_run_75 rfl ?_
          refine jm_cVi (n := 1) (ci := 2) [jm_v ht, .ref (w.2.1 (k + 100))] C (kX2_glide2 E w M3 _ h _ hs hne hnw hn3 (by rw [p2]; exact ⟨u1, u2⟩) (by rw [p3]; omega) (by rw [p4]; omega) (by rw [p5]; decide) (by rw [p8]; exact hrr.2.2.2.2.2.2.1)) jw_m_RX2_48 okX2_glide rfl ⟨rfl, rfl⟩ ⟨Nat.le_of_ble_eq_true rfl, Nat.le_of_ble_eq_true rfl⟩ rfl h.1 h.2.1 rfl rfl (Nat.le_of_ble_eq_true rfl) dX2_run_76 ⟨Nat.le_of_ble_eq_true rfl, Nat.le_of_ble_eq_true rfl⟩ (fun yI18 yz17 yh16 => ?_)
          have hconv := hk_gp_conv yh16 hT2 hT1
          obtain ⟨Iv, ln, y, e2, sp, rfl, hz, hgv, hrel⟩ := hconv
          have hrz : jm_R yz17 := by rw [hz]; exact hk_ok_R htd2.1
          refine jm_cVu (n := 2) (ci := 3) [] C (kX3_put E w _ _ h.2.2 _ _ (by omega) hrz) jw_m_RX2_52 okX3_put rfl ⟨rfl, rfl⟩ ⟨Nat.le_of_ble_eq_true rfl, Nat.le_of_ble_eq_true rfl⟩ rfl h.2.2.1 h.2.2.2.1 rfl rfl (Nat.le_of_ble_eq_true rfl) dX2_run_79 ⟨Nat.le_of_ble_eq_true rfl, Nat.le_of_ble_eq_true rfl⟩ ?_
          rw [if_pos (show 0 ≤ ht ∧ ht < 6 from ⟨t1, t2⟩)]
          have hrr2 : hk_rrel I k ks wv (hk_pt f ht yz17) R2.1 R2.2.2.1 R2.2.2.2 (jm_up (hk_sl Iv k ln y e2 sp R2.2.2.1) (k + 100 + 100) ht yz17) :=
            hk_rrel_go (y0 := yj) (en := gv) (W := W) (fun q => hnw q.symm) hn3 (fun a h1 h2 h3 => (pa a h1).trans (hrr.1 a h1 h2 h3)) p1 p9 (by rw [p5]; decide) (fun q => p8.trans (hrr.2.2.2.2.2.2.2.2.1 q)) (by rw [p8]; exact u6) hz hgv hrel htd2 hrr.2.2.2.2.2.2.2.2.2.2.1 t4 (fun xj2 yj2 h0 h1 h2 h3 h4 h5 _ => by rw [u5] at h1; omega)
          subst hz
          refine jm_iinc C dX2_run_82 (by decide) rfl ?_
          refine jm_goto 34 C dX2_run_85 rfl ?_
          refine jm_lvs (lv' := [(0, _), (1, _), (5, _), (6, _)]) (jm_sub_c rfl (jm_sub_c rfl (jm_sub_c rfl (jm_sub_c rfl (jm_sub_0 _))))) ?_
          exact ih (m + 1) _ (hk_pt f ht R2.2.1) R2.1 R2.2.2.1 R2.2.2.2 (by omega) (by omega) hrr2 hch
  refine jm_lvs (lv' := [(0, _), (1, _), (5, _), (6, _)]) (jm_sub_c rfl (jm_sub_c rfl (jm_sub_c rfl (jm_sub_c rfl (jm_sub_0 _))))) ?_
  exact lp34 _ 0 _ (hk_pt (hk_F0 I k k2) n (hk_R1 I k ks k2).2.1) (hk_R1 I k ks k2).1 (hk_R1 I k ks k2).2.2.1 (hk_R1 I k ks k2).2.2.2 (Nat.lt_succ_self _) (Nat.zero_le _) hrr rfl
end
section
/-! THE HOUSE: its node is 0, its rows of references 1 to 3, the slide 4, sheets 10 on, teams 20 on, games 30 on; stones 100 further, their places 200 -/
section JR2
variable {E : jm_E} {G : jm_G} {q : Nat × Nat} {w : jm_W} {I : jm_M} {pc : Nat} {lv : List (Nat × Value)} {st : List Value} {cc : ByteArray} {nL : Nat} {own : String} {rm : Room}
theorem jm_aaldr {k j : Int} {n a : Nat} {cA : ClassId} {g : Nat → Option Nat} (t : Nat) {Cn : String} (hg : g j.toNat = some a) (C : jm_C E G cc nL own rm) (hk : k ∈ w.1) (ht : (jm_t E.2.2)[t]? = some (cA, .object Cn)) (hs : w.2.2 k = jm_Qa cA n g) (h0 : 0 ≤ j) (h1 : j < n) (hj : jm_R j) (hd : decode cc pc = .ok (.aaload, 1)) (kk : jm_J E G q w I (pc + 1) lv (.ref a :: st)) : jm_J E G q w I pc lv (jm_v j :: .ref (w.2.1 k) :: st) :=
  jm_aald t C hk ht hs h0 h1 hj hd (by rw [hg]; exact kk)
theorem jm_aaldN {k j : Int} {n : Nat} {cA : ClassId} {g : Nat → Option Nat} (t : Nat) {Cn : String} (hg : g j.toNat = none) (C : jm_C E G cc nL own rm) (hk : k ∈ w.1) (ht : (jm_t E.2.2)[t]? = some (cA, .object Cn)) (hs : w.2.2 k = jm_Qa cA n g) (h0 : 0 ≤ j) (h1 : j < n) (hj : jm_R j) (hd : decode cc pc = .ok (.aaload, 1)) (kk : jm_J E G q w I (pc + 1) lv (.null :: st)) : jm_J E G q w I pc lv (jm_v j :: .ref (w.2.1 k) :: st) :=
  jm_aald t C hk ht hs h0 h1 hj hd (by rw [hg]; exact kk)
theorem jm_meq {I' : jm_M} (h : I = I') (k : jm_J E G q w I' pc lv st) : jm_J E G q w I pc lv st := by rw [h]; exact k
theorem jm_aloadN {n : Nat} (C : jm_C E G cc nL own rm) (hd : decode cc pc = .ok (.aload n, 2)) (hl0 : jm_lk lv n = some .null) (k : jm_J E G q w I (pc + 2) lv (.null :: st)) : jm_J E G q w I pc lv st := by
  obtain ⟨l, D, ca⟩ := E
  obtain ⟨p, e, R, s, m, args, below, meth, c, Q, A⟩ := G
  intro H locs ls hI hP hD hS hl
  exact lv_aloadN C.1 C.2.1 hd (jm_h_at hl hl0) (k H locs ls hI hP hD hS hl)
theorem jm_astoreN {n : Nat} (C : jm_C E G cc nL own rm) (hd : decode cc pc = .ok (.astore n, 2)) (hn : n < nL) (k : jm_J E G q w I (pc + 2) ((n, .null) :: lv) st) : jm_J E G q w I pc lv (.null :: st) := by
  obtain ⟨l, D, ca⟩ := E
  obtain ⟨p, e, R, s, m, args, below, meth, c, Q, A⟩ := G
  intro H locs ls hI hP hD hS hl
  exact lv_astoreN C.1 C.2.1 hd (jm_h_to hl) (by rw [C.2.2.1]; exact hn) rfl (fun ls' hl' => k H locs ls' hI hP hD hS (jm_h_st hl rfl hl'))
end JR2
def hk_gs (w : jm_W) (b : Int) : Nat → Option Nat := fun i => some (w.2.1 (b + i))
def hk_gg (w : jm_W) (ng : Int) : Nat → Option Nat := fun i => if (i : Int) < ng then some (w.2.1 (30 + i)) else none
theorem hk_gs_at (w : jm_W) (b : Int) {j : Int} (h : 0 ≤ j) : hk_gs w b j.toNat = some (w.2.1 (b + j)) := by unfold hk_gs; rw [Int.toNat_of_nonneg h]
theorem hk_gg_at (w : jm_W) {ng j : Int} (h : 0 ≤ j) (h2 : j < ng) : hk_gg w ng j.toNat = some (w.2.1 (30 + j)) := by unfold hk_gg; rw [Int.toNat_of_nonneg h, if_pos h2]
theorem hk_gg_no (w : jm_W) {ng j : Int} (h : 0 ≤ j) (h2 : ng ≤ j) : hk_gg w ng j.toNat = none := by unfold hk_gg; rw [Int.toNat_of_nonneg h, if_neg (by omega)]
def jm_X5 (E : jm_E) (w : jm_W) (ng : Int) : Prop := (0 ∈ w.1 ∧ w.2.2 0 = jm_O 5 [some (.ref (w.2.1 1)), some (.ref (w.2.1 2)), some (.ref (w.2.1 3)), some (.ref (w.2.1 4)), none, none, none, none, none]) ∧ (1 ∈ w.1 ∧ w.2.2 1 = jm_Qa (E.2.2 3) 3 (hk_gs w 10)) ∧ (2 ∈ w.1 ∧ w.2.2 2 = jm_Qa (E.2.2 4) 6 (hk_gs w 20)) ∧ (3 ∈ w.1 ∧ w.2.2 3 = jm_Qa (E.2.2 5) 12 (hk_gg w ng)) ∧ jm_X2 E w 4 ∧ (∀ i, 0 ≤ i → i < 3 → jm_X1 E w (10 + i)) ∧ (∀ i, 0 ≤ i → i < 6 → jm_X4 E w (20 + i)) ∧ (∀ i, 0 ≤ i → i < ng → jm_X0 E w (30 + i)) ∧ 0 ≤ ng ∧ ng ≤ 12
theorem jm_X5_s {E : jm_E} {w : jm_W} {ng : Int} (h : jm_X5 E w ng) {i : Int} (h1 : 0 ≤ i) (h2 : i < 3) : jm_X1 E w (10 + i) := h.2.2.2.2.2.1 i h1 h2
theorem jm_X5_t {E : jm_E} {w : jm_W} {ng : Int} (h : jm_X5 E w ng) {i : Int} (h1 : 0 ≤ i) (h2 : i < 6) : jm_X4 E w (20 + i) := h.2.2.2.2.2.2.1 i h1 h2
theorem jm_X5_g {E : jm_E} {w : jm_W} {ng : Int} (h : jm_X5 E w ng) {i : Int} (h1 : 0 ≤ i) (h2 : i < ng) : jm_X0 E w (30 + i) := h.2.2.2.2.2.2.2.1 i h1 h2
theorem jm_X5_l {E : jm_E} {w : jm_W} {ng : Int} (h : jm_X5 E w ng) : jm_X2 E w 4 := h.2.2.2.2.1
theorem jm_X5_n {E : jm_E} {w : jm_W} {ng : Int} (h : jm_X5 E w ng) : 0 ≤ ng ∧ ng ≤ 12 := h.2.2.2.2.2.2.2.2
-- rows of six
def hk_eq6 (f g : Int → Int) : Prop := ∀ i, 0 ≤ i → i < 6 → f i = g i
theorem hk_first_c {f g : Int → Int} (p : Int) : ∀ (n : Nat) (i : Int), (∀ j, i ≤ j → j < i + n → f j = g j) → hk_first f p n i = hk_first g p n i
  | 0, _, _ => rfl
  | n + 1, i, h => by
    unfold hk_first
    rw [h i (by omega) (by omega), hk_first_c p n (i + 1) (fun j h1 h2 => h j (by omega) (by omega))]
theorem hk_lie_c {f g : Int → Int} (h : hk_eq6 f g) : hk_lie f = hk_lie g := by
  funext x y
  unfold hk_lie
  rw [hk_first_c _ 6 0 (fun j h1 h2 => h j h1 (by omega))]
theorem hk_at_c {f g : Int → Int} (h : hk_eq6 f g) (n : Int) : hk_at f n = hk_at g n := by
  unfold hk_at
  by_cases hn : 0 ≤ n ∧ n < 6
  · rw [if_pos hn, if_pos hn, h n hn.1 hn.2]
  · rw [if_neg hn, if_neg hn]
theorem hk_pt_c {f g : Int → Int} (h : hk_eq6 f g) (n v : Int) : hk_eq6 (hk_pt f n v) (hk_pt g n v) := fun i h1 h2 => by
  unfold hk_pt
  split
  · rfl
  · exact h i h1 h2
theorem hk_chain_c : ∀ (n : Nat) (W f g : Int → Int) (ht gv : Int), hk_eq6 f g → (hk_chain n W f ht gv).1 = (hk_chain n W g ht gv).1 ∧ hk_eq6 (hk_chain n W f ht gv).2 (hk_chain n W g ht gv).2
  | 0, W, f, g, ht, gv, h => ⟨rfl, h⟩
  | n + 1, W, f, g, ht, gv, h => by
    rw [hk_chain, hk_chain, hk_lie_c h, hk_at_c h]
    by_cases h0 : ht = -1
    · rw [if_pos h0, if_pos h0]; exact ⟨rfl, h⟩
    · rw [if_neg h0, if_neg h0]; exact hk_chain_c n _ _ _ _ _ (hk_pt_c h _ _)
theorem hk_near_c {f g : Int → Int} (h : hk_eq6 f g) (s : Int) : ∀ n, hk_near f s n = hk_near g s n
  | 0 => rfl
  | n + 1 => by rw [hk_near, hk_near, hk_near_c h s n, hk_at_c h]
theorem hk_cntn_c {f g : Int → Int} (h : hk_eq6 f g) (s l : Int) : ∀ n, hk_cntn f s l n = hk_cntn g s l n
  | 0 => rfl
  | n + 1 => by rw [hk_cntn, hk_cntn, hk_cntn_c h s l n, hk_at_c h]
theorem hk_score_c {f g : Int → Int} (h : hk_eq6 f g) : hk_score f = hk_score g := by
  unfold hk_score
  rw [hk_near_c h, hk_near_c h, hk_cntn_c h, hk_cntn_c h]
theorem hk_good_c {f g : Int → Int} (h : hk_eq6 f g) (hf : hk_good f) : hk_good g := fun i h1 h2 => by rw [← h i h1 h2]; exact hf i h1 h2
/-- a throw: where it stays, the wear, the stones -/
def hk_thr (W f : Int → Int) (n ln en tn lo hi : Int) : Int × (Int → Int) × (Int → Int) :=
  ((hk_T (hk_lie f) tn lo hi 60 W ln 0 en 0).2.1, hk_chain 6 (hk_T (hk_lie f) tn lo hi 60 W ln 0 en 0).1 (hk_pt f n (hk_T (hk_lie f) tn lo hi 60 W ln 0 en 0).2.1) (hk_T (hk_lie f) tn lo hi 60 W ln 0 en 0).2.2.1 (hk_T (hk_lie f) tn lo hi 60 W ln 0 en 0).2.2.2)
def hk_r2 (I : jm_M) (k ks wv : Int) (T : Int × (Int → Int) × (Int → Int)) (M : jm_M) : Prop := (∀ a, a ≠ k → a ≠ k + 100 + 100 → a ≠ ks + 100 → M a = I a) ∧ hk_eq6 (M (k + 100 + 100)) T.2.2 ∧ hk_w9 (M (ks + 100)) ∧ (wv ≠ 0 → M (ks + 100) = T.2.1) ∧ (wv = 0 → M (ks + 100) = I (ks + 100)) ∧ hk_good T.2.2
theorem jm_Mi_w {E : jm_E} {y : MethodName} {ws : List Cond} {rm : Room} {mc ms : Nat} {w : jm_W} {I : jm_M} {as : List Value} {p1 p2 : jm_M → Int → Prop} (h : jm_Mi E y ws rm mc ms w I as p1) (hp : ∀ I' z, p1 I' z → p2 I' z) : jm_Mi E y ws rm mc ms w I as p2 := fun sz => MetFree.mono (h sz) (fun _ _ q => q) (fun _ _ _ _ _ _ => trivial) (fun a st o t q0 q => ⟨by
  obtain ⟨⟨⟨r, u, q1, ⟨q2, q3⟩, q4⟩, q5⟩, q6⟩ := q
  exact ⟨⟨r, u, q1, ⟨q2, hp _ _ q3⟩, q4⟩, q5⟩, q.2⟩)
-- standings
def hk_avg (I : jm_M) (t : Int) : Int := if 0 < I (20 + t) 1 then (I (20 + t) 2).tdiv (I (20 + t) 1) else 30
theorem hk_avg_R {I : jm_M} (hI : ∀ a b, jm_R (I a b)) (t : Int) : jm_R (hk_avg I t) := by
  unfold hk_avg
  split
  · rename_i h
    have h2 := hI (20 + t) 2
    rcases Int.le_total 0 (I (20 + t) 2) with q | q
    · rw [Int.tdiv_eq_ediv_of_nonneg q]
      have q1 := Int.ediv_nonneg q (Int.le_of_lt h)
      have q2 := Int.ediv_le_self (I (20 + t) 1) q
      unfold jm_R; omega
    · have e : (I (20 + t) 2).tdiv (I (20 + t) 1) = -((-(I (20 + t) 2)).tdiv (I (20 + t) 1)) := by rw [Int.neg_tdiv, Int.neg_neg]
      rw [e, Int.tdiv_eq_ediv_of_nonneg (by omega)]
      have q1 := Int.ediv_nonneg (a := -(I (20 + t) 2)) (by omega) (Int.le_of_lt h)
      have q2 := Int.ediv_le_self (a := -(I (20 + t) 2)) (I (20 + t) 1) (by omega)
      unfold jm_R; omega
  · decide
def hk_ah (I : jm_M) (a b : Int) : Int := if ¬ I (20 + a) 0 = I (20 + b) 0 then (if I (20 + b) 0 < I (20 + a) 0 then 1 else 0) else if ¬ hk_avg I a = hk_avg I b then (if hk_avg I a < hk_avg I b then 1 else 0) else if a < b then 1 else 0
theorem hk_ah_r (I : jm_M) (a b : Int) : hk_ah I a b = 0 ∨ hk_ah I a b = 1 := by
  unfold hk_ah
  split
  · split <;> simp
  · split
    · split <;> simp
    · split <;> simp
def hk_tah (I : jm_M) (t : Int) : Nat → Int
  | 0 => 0
  | n + 1 => hk_tah I t n + (if (n : Int) = t then 0 else hk_ah I n t)
theorem hk_tah_r (I : jm_M) (t : Int) : ∀ n, 0 ≤ hk_tah I t n ∧ hk_tah I t n ≤ n
  | 0 => ⟨by unfold hk_tah; omega, by unfold hk_tah; omega⟩
  | n + 1 => by
    have h1 := hk_tah_r I t n
    have h2 := hk_ah_r I n t
    unfold hk_tah
    split <;> omega
-- the crew
def hk_lhw (I : jm_M) (ng s : Int) : Nat → Int
  | 0 => 19998
  | n + 1 => if (n : Int) < ng ∧ I (30 + n) 5 = 0 ∧ I (30 + n) 2 = s then hk_mn (hk_lhw I ng s n) (I (30 + n) 4) else hk_lhw I ng s n
end
section
/-- a throw over any map, told by the rows alone -/
theorem kX2_run2 (E : jm_E) (w : jm_W) (I : jm_M) (k : Int) (h : jm_X2 E w k) (ks : Int) (hs : jm_X1 E w ks) (k2 : Int) (h2 : jm_X3 E w k2) (hne : ks ≠ k) (hnw : ks + 100 ≠ k) (hn3 : k + 100 + 100 ≠ ks + 100) (n wv : Int) (hn : 0 ≤ n ∧ n < 6) (hwv : wv = 0 ∨ wv = 1) (ln en tn lo hi : Int) (W f : Int → Int) (e2 : I k 2 = ln) (e3 : I k 3 = 0) (e4 : I k 4 = en) (e5 : I k 5 = tn) (e6 : I k 6 = lo) (e7 : I k 7 = hi) (eW : I (ks + 100) = W) (ef : I (k2 + 100) = f) (hl0 : 0 ≤ ln ∧ ln ≤ 8) (hen0 : 0 ≤ en ∧ en ≤ 1000) (htn : -1 ≤ tn ∧ tn ≤ 1) (hw : hk_w9 W) (hg : hk_good f) (hfn : f n = -1) : jm_Mi E yX2_run wX2_run rmX2_run 0 0 w I [.ref (w.2.1 k), .ref (w.2.1 ks), .ref (w.2.1 k2), jm_v n, jm_v wv] (fun I' z => z = (hk_thr W f n ln en tn lo hi).1 ∧ hk_r2 I k ks wv (hk_thr W f n ln en tn lo hi) I') := by
  subst e2; subst e4; subst e5; subst e6; subst e7; subst eW; subst ef
  refine jm_Mi_w (kX2_run E w I k h ks hs k2 h2 hne hnw hn3 n wv hn hwv hl0 (by omega) hen0 htn hw hg hfn) (fun I' z q => ?_)
  obtain ⟨q1, q2, q3, q4, q5, q6, q7, q8⟩ := q
  have hc : hk_eq6 (hk_F0 I k k2) (I (k2 + 100)) := fun i h1 h2 => by unfold hk_F0; rw [hk_fill_i ⟨h1, by omega⟩]
  have hR : hk_R1 I k ks k2 = hk_T (hk_lie (I (k2 + 100))) (I k 5) (I k 6) (I k 7) 60 (I (ks + 100)) (I k 2) 0 (I k 4) 0 := by unfold hk_R1; rw [hk_lie_c hc, e3]
  have hC := hk_chain_c 6 (hk_R1 I k ks k2).1 _ _ (hk_R1 I k ks k2).2.2.1 (hk_R1 I k ks k2).2.2.2 (hk_pt_c hc n (hk_R1 I k ks k2).2.1)
  have e1 : (hk_RR I k ks k2 n).1 = (hk_thr (I (ks + 100)) (I (k2 + 100)) n (I k 2) (I k 4) (I k 5) (I k 6) (I k 7)).2.1 := by unfold hk_RR hk_thr; rw [hC.1, hR]
  have e2 : hk_eq6 (hk_RR I k ks k2 n).2 (hk_thr (I (ks + 100)) (I (k2 + 100)) n (I k 2) (I k 4) (I k 5) (I k 6) (I k 7)).2.2 := by unfold hk_RR hk_thr; rw [← hR]; exact hC.2
  refine ⟨by rw [q1]; unfold hk_thr; rw [hR], q2, by rw [q3]; exact e2, q4, fun z => (q5 z).trans e1, q6, hk_good_c e2 q7⟩
set_option maxRecDepth 100000 in
set_option maxHeartbeats 4000000 in
theorem kX5_sheetOf (E : jm_E) (w : jm_W) (I : jm_M) (ng : Int) (H : jm_X5 E w ng) (n : Int) (hn : 0 ≤ n ∧ n < 3) : jm_Mr E yX5_sheetOf wX5_sheetOf rmX5_sheetOf 0 0 w I [.ref (w.2.1 0), jm_v n] (fun I' z => I' = I ∧ z = 10 + n) := by
  refine jm_in_r (cc := cX5_sheetOf) (maxL := 3) RX5 (by decide +kernel) rfl rfl (Nat.le_of_ble_eq_true rfl) (by simp [Value.category]) ?_
  intro G C hR hI
  have hng := jm_X5_n H
  refine jm_iload_n C dX5_sheetOf_0 rfl ?_
  refine jm_if_lt 22 C dX5_sheetOf_1 rfl (by omega) (fun yc1 => ?_) (fun yc1 => ?_)
  · skip
    exact absurd yc1 (by omega)
  · skip
    refine jm_iload_n C dX5_sheetOf_4 rfl ?_
    refine jm_aload_n C dX5_sheetOf_5 rfl ?_
    refine jm_getr (ci := 5) (f := 0) C rfl jw_u_5 H.1.1 H.1.2 rfl (by decide) jw_f_RX5_11 dX5_sheetOf_6 ?_
    refine jm_alenq 3 3 rfl C H.2.1.1 rfl H.2.1.2 dX5_sheetOf_9 ?_
    refine jm_icmp_ge 22 C dX5_sheetOf_10 rfl (by omega) (by decide) (fun yc2 => ?_) (fun yc2 => ?_)
    · skip
      exact absurd yc2 (by omega)
    · skip
      refine jm_aload_n C dX5_sheetOf_13 rfl ?_
      refine jm_getr (ci := 5) (f := 0) C rfl jw_u_5 H.1.1 H.1.2 rfl (by decide) jw_f_RX5_11 dX5_sheetOf_14 ?_
      refine jm_iload_n C dX5_sheetOf_17 rfl ?_
      refine jm_aaldr 3 (hk_gs_at w 10 (j := n) (by omega)) C H.2.1.1 rfl H.2.1.2 (by omega) (by omega) (by omega) dX5_sheetOf_18 ?_
      refine jm_goto 23 C dX5_sheetOf_19 rfl ?_
      refine jm_astore_n C dX5_sheetOf_23 (by decide) ?_
      refine jm_aload_n C dX5_sheetOf_24 rfl ?_
      refine jm_ifnonnullY 38 C dX5_sheetOf_25 rfl ?_
      refine jm_aload_n C dX5_sheetOf_38 rfl ?_
      exact hR _ _ _ _ dX5_sheetOf_39 ⟨rfl, rfl⟩
set_option maxRecDepth 100000 in
set_option maxHeartbeats 4000000 in
theorem kX5_teamOf (E : jm_E) (w : jm_W) (I : jm_M) (ng : Int) (H : jm_X5 E w ng) (n : Int) (hn : 0 ≤ n ∧ n < 6) : jm_Mr E yX5_teamOf wX5_teamOf rmX5_teamOf 0 0 w I [.ref (w.2.1 0), jm_v n] (fun I' z => I' = I ∧ z = 20 + n) := by
  refine jm_in_r (cc := cX5_teamOf) (maxL := 3) RX5 (by decide +kernel) rfl rfl (Nat.le_of_ble_eq_true rfl) (by simp [Value.category]) ?_
  intro G C hR hI
  have hng := jm_X5_n H
  refine jm_iload_n C dX5_teamOf_0 rfl ?_
  refine jm_if_lt 22 C dX5_teamOf_1 rfl (by omega) (fun yc1 => ?_) (fun yc1 => ?_)
  · skip
    exact absurd yc1 (by omega)
  · skip
    refine jm_iload_n C dX5_teamOf_4 rfl ?_
    refine jm_aload_n C dX5_teamOf_5 rfl ?_
    refine jm_getr (ci := 5) (f := 1) C rfl jw_u_5 H.1.1 H.1.2 rfl (by decide) jw_f_RX5_18 dX5_teamOf_6 ?_
    refine jm_alenq 4 6 rfl C H.2.2.1.1 rfl H.2.2.1.2 dX5_teamOf_9 ?_
    refine jm_icmp_ge 22 C dX5_teamOf_10 rfl (by omega) (by decide) (fun yc2 => ?_) (fun yc2 => ?_)
    · skip
      exact absurd yc2 (by omega)
    · skip
      refine jm_aload_n C dX5_teamOf_13 rfl ?_
      refine jm_getr (ci := 5) (f := 1) C rfl jw_u_5 H.1.1 H.1.2 rfl (by decide) jw_f_RX5_18 dX5_teamOf_14 ?_
      refine jm_iload_n C dX5_teamOf_17 rfl ?_
      refine jm_aaldr 4 (hk_gs_at w 20 (j := n) (by omega)) C H.2.2.1.1 rfl H.2.2.1.2 (by omega) (by omega) (by omega) dX5_teamOf_18 ?_
      refine jm_goto 23 C dX5_teamOf_19 rfl ?_
      refine jm_astore_n C dX5_teamOf_23 (by decide) ?_
      refine jm_aload_n C dX5_teamOf_24 rfl ?_
      refine jm_ifnonnullY 38 C dX5_teamOf_25 rfl ?_
      refine jm_aload_n C dX5_teamOf_38 rfl ?_
      exact hR _ _ _ _ dX5_teamOf_39 ⟨rfl, rfl⟩
set_option maxRecDepth 100000 in
set_option maxHeartbeats 4000000 in
theorem kX5_isAhead (E : jm_E) (w : jm_W) (I : jm_M) (ng : Int) (H : jm_X5 E w ng) (a b : Int) (ha : 0 ≤ a ∧ a < 6) (hb : 0 ≤ b ∧ b < 6) : jm_Mi E yX5_isAhead wX5_isAhead rmX5_isAhead 0 0 w I [.ref (w.2.1 0), jm_v a, jm_v b] (fun I' z => I' = I ∧ z = hk_ah I a b) := by
  refine jm_in_i (cc := cX5_isAhead) (maxL := 5) (rt := .boolean) RX5 (by decide +kernel) rfl rfl (Nat.le_of_ble_eq_true rfl) (by simp [Value.category]) ?_
  intro G C hR hI
  refine jm_aload_n C dX5_isAhead_0 rfl ?_
  refine jm_iload_n C dX5_isAhead_1 rfl ?_
  refine jm_cVrd (n := 1) (ci := 5) [] C (kX5_teamOf E w I ng H _ (by omega)) jw_m_RX5_209 okX5_teamOf rfl ⟨rfl, rfl⟩ ⟨Nat.le_of_ble_eq_true rfl, Nat.le_of_ble_eq_true rfl⟩ rfl H.1.1 H.1.2 rfl rfl (Nat.le_of_ble_eq_true rfl) dX5_isAhead_2 ⟨Nat.le_of_ble_eq_true rfl, Nat.le_of_ble_eq_true rfl⟩ ?_
  refine jm_astore_n C dX5_isAhead_5 (by decide) ?_
  refine jm_aload_n C dX5_isAhead_6 rfl ?_
  refine jm_iload_n C dX5_isAhead_7 rfl ?_
  refine jm_cVrd (n := 1) (ci := 5) [] C (kX5_teamOf E w I ng H _ (by omega)) jw_m_RX5_209 okX5_teamOf rfl ⟨rfl, rfl⟩ ⟨Nat.le_of_ble_eq_true rfl, Nat.le_of_ble_eq_true rfl⟩ rfl H.1.1 H.1.2 rfl rfl (Nat.le_of_ble_eq_true rfl) dX5_isAhead_8 ⟨Nat.le_of_ble_eq_true rfl, Nat.le_of_ble_eq_true rfl⟩ ?_
  refine jm_astore C dX5_isAhead_11 (by decide) ?_
  refine jm_aload_n C dX5_isAhead_13 rfl ?_
  refine jm_get (ci := 4) (f := 0) 0 rfl C rfl jw_u_4 (jm_X5_t H (i := a) (by omega) (by omega)).1 (jm_X5_t H (i := a) (by omega) (by omega)).2 rfl (by decide) jw_f_RX5_213 dX5_isAhead_14 (fun yr5 => ?_)
  refine jm_aload C dX5_isAhead_17 rfl ?_
  refine jm_get (ci := 4) (f := 0) 0 rfl C rfl jw_u_4 (jm_X5_t H (i := b) (by omega) (by omega)).1 (jm_X5_t H (i := b) (by omega) (by omega)).2 rfl (by decide) jw_f_RX5_213 dX5_isAhead_19 (fun yr6 => ?_)
  refine jm_icmp_eq 43 C dX5_isAhead_22 rfl (by omega) (by omega) (fun yc7 => ?_) (fun yc7 => ?_)
  · skip
    refine jm_aload_n C dX5_isAhead_43 rfl ?_
    refine jm_cVd (n := 0) (ci := 4) [] C (kX4_lastStonesPerGame E w I _ (jm_X5_t H (i := a) (by omega) (by omega))) jw_m_RX5_279 okX4_lastStonesPerGame rfl ⟨rfl, rfl⟩ ⟨Nat.le_of_ble_eq_true rfl, Nat.le_of_ble_eq_true rfl⟩ rfl (jm_X5_t H (i := a) (by omega) (by omega)).1 (jm_X5_t H (i := a) (by omega) (by omega)).2 rfl rfl (Nat.le_of_ble_eq_true rfl) dX5_isAhead_44 ⟨Nat.le_of_ble_eq_true rfl, Nat.le_of_ble_eq_true rfl⟩ (fun yz9 yh8 => ?_)
    rw [show (if 0 < I (20 + a) 1 then (I (20 + a) 2).tdiv (I (20 + a) 1) else 30) = hk_avg I a from rfl] at yh8
    subst yh8
    have yh8r := hk_avg_R hI a
    refine jm_aload C dX5_isAhead_47 rfl ?_
    refine jm_cVd (n := 0) (ci := 4) [jm_v (hk_avg I a)] C (kX4_lastStonesPerGame E w I _ (jm_X5_t H (i := b) (by omega) (by omega))) jw_m_RX5_279 okX4_lastStonesPerGame rfl ⟨rfl, rfl⟩ ⟨Nat.le_of_ble_eq_true rfl, Nat.le_of_ble_eq_true rfl⟩ rfl (jm_X5_t H (i := b) (by omega) (by omega)).1 (jm_X5_t H (i := b) (by omega) (by omega)).2 rfl rfl (Nat.le_of_ble_eq_true rfl) dX5_isAhead_49 ⟨Nat.le_of_ble_eq_true rfl, Nat.le_of_ble_eq_true rfl⟩ (fun yz11 yh10 => ?_)
    rw [show (if 0 < I (20 + b) 1 then (I (20 + b) 2).tdiv (I (20 + b) 1) else 30) = hk_avg I b from rfl] at yh10
    subst yh10
    have yh10r := hk_avg_R hI b
    refine jm_icmp_eq 73 C dX5_isAhead_52 rfl (by omega) (by omega) (fun yc12 => ?_) (fun yc12 => ?_)
    · skip
      refine jm_iload_n C dX5_isAhead_73 rfl ?_
      refine jm_iload_n C dX5_isAhead_74 rfl ?_
      refine jm_icmp_ge 82 C dX5_isAhead_75 rfl (by omega) (by omega) (fun yc13 => ?_) (fun yc13 => ?_)
      · skip
        refine jm_iconst C dX5_isAhead_82 ?_
        exact hR _ _ _ _ dX5_isAhead_83 (jm_nz (by decide)) ⟨rfl, by
            unfold hk_ah
            first
            | rw [if_pos (by omega), if_pos (by omega)]
            | rw [if_pos (by omega), if_neg (by omega)]
            | rw [if_neg (by omega), if_pos (by omega), if_pos (by omega)]
            | rw [if_neg (by omega), if_pos (by omega), if_neg (by omega)]
            | rw [if_neg (by omega), if_neg (by omega), if_pos (by omega)]
            | rw [if_neg (by omega), if_neg (by omega), if_neg (by omega)]⟩
      · skip
        refine jm_iconst C dX5_isAhead_78 ?_
        refine jm_goto 83 C dX5_isAhead_79 rfl ?_
        exact hR _ _ _ _ dX5_isAhead_83 (jm_nz (by decide)) ⟨rfl, by
            unfold hk_ah
            first
            | rw [if_pos (by omega), if_pos (by omega)]
            | rw [if_pos (by omega), if_neg (by omega)]
            | rw [if_neg (by omega), if_pos (by omega), if_pos (by omega)]
            | rw [if_neg (by omega), if_pos (by omega), if_neg (by omega)]
            | rw [if_neg (by omega), if_neg (by omega), if_pos (by omega)]
            | rw [if_neg (by omega), if_neg (by omega), if_neg (by omega)]⟩
    · skip
      refine jm_aload_n C dX5_isAhead_55 rfl ?_
      refine jm_cVd (n := 0) (ci := 4) [] C (kX4_lastStonesPerGame E w I _ (jm_X5_t H (i := a) (by omega) (by omega))) jw_m_RX5_279 okX4_lastStonesPerGame rfl ⟨rfl, rfl⟩ ⟨Nat.le_of_ble_eq_true rfl, Nat.le_of_ble_eq_true rfl⟩ rfl (jm_X5_t H (i := a) (by omega) (by omega)).1 (jm_X5_t H (i := a) (by omega) (by omega)).2 rfl rfl (Nat.le_of_ble_eq_true rfl) dX5_isAhead_56 ⟨Nat.le_of_ble_eq_true rfl, Nat.le_of_ble_eq_true rfl⟩ (fun yz15 yh14 => ?_)
      rw [show (if 0 < I (20 + a) 1 then (I (20 + a) 2).tdiv (I (20 + a) 1) else 30) = hk_avg I a from rfl] at yh14
      subst yh14
      have yh14r := hk_avg_R hI a
      refine jm_aload C dX5_isAhead_59 rfl ?_
      refine jm_cVd (n := 0) (ci := 4) [jm_v (hk_avg I a)] C (kX4_lastStonesPerGame E w I _ (jm_X5_t H (i := b) (by omega) (by omega))) jw_m_RX5_279 okX4_lastStonesPerGame rfl ⟨rfl, rfl⟩ ⟨Nat.le_of_ble_eq_true rfl, Nat.le_of_ble_eq_true rfl⟩ rfl (jm_X5_t H (i := b) (by omega) (by omega)).1 (jm_X5_t H (i := b) (by omega) (by omega)).2 rfl rfl (Nat.le_of_ble_eq_true rfl) dX5_isAhead_61 ⟨Nat.le_of_ble_eq_true rfl, Nat.le_of_ble_eq_true rfl⟩ (fun yz17 yh16 => ?_)
      rw [show (if 0 < I (20 + b) 1 then (I (20 + b) 2).tdiv (I (20 + b) 1) else 30) = hk_avg I b from rfl] at yh16
      subst yh16
      have yh16r := hk_avg_R hI b
      refine jm_icmp_ge 71 C dX5_isAhead_64 rfl (by omega) (by omega) (fun yc18 => ?_) (fun yc18 => ?_)
      · skip
        refine jm_iconst C dX5_isAhead_71 ?_
        exact hR _ _ _ _ dX5_isAhead_72 (jm_nz (by decide)) ⟨rfl, by
            unfold hk_ah
            first
            | rw [if_pos (by omega), if_pos (by omega)]
            | rw [if_pos (by omega), if_neg (by omega)]
            | rw [if_neg (by omega), if_pos (by omega), if_pos (by omega)]
            | rw [if_neg (by omega), if_pos (by omega), if_neg (by omega)]
            | rw [if_neg (by omega), if_neg (by omega), if_pos (by omega)]
            | rw [if_neg (by omega), if_neg (by omega), if_neg (by omega)]⟩
      · skip
        refine jm_iconst C dX5_isAhead_67 ?_
        refine jm_goto 72 C dX5_isAhead_68 rfl ?_
        exact hR _ _ _ _ dX5_isAhead_72 (jm_nz (by decide)) ⟨rfl, by
            unfold hk_ah
            first
            | rw [if_pos (by omega), if_pos (by omega)]
            | rw [if_pos (by omega), if_neg (by omega)]
            | rw [if_neg (by omega), if_pos (by omega), if_pos (by omega)]
            | rw [if_neg (by omega), if_pos (by omega), if_neg (by omega)]
            | rw [if_neg (by omega), if_neg (by omega), if_pos (by omega)]
            | rw [if_neg (by omega), if_neg (by omega), if_neg (by omega)]⟩
  · skip
    refine jm_aload_n C dX5_isAhead_25 rfl ?_
    refine jm_get (ci := 4) (f := 0) 0 rfl C rfl jw_u_4 (jm_X5_t H (i := a) (by omega) (by omega)).1 (jm_X5_t H (i := a) (by omega) (by omega)).2 rfl (by decide) jw_f_RX5_213 dX5_isAhead_26 (fun yr19 => ?_)
    refine jm_aload C dX5_isAhead_29 rfl ?_
    refine jm_get (ci := 4) (f := 0) 0 rfl C rfl jw_u_4 (jm_X5_t H (i := b) (by omega) (by omega)).1 (jm_X5_t H (i := b) (by omega) (by omega)).2 rfl (by decide) jw_f_RX5_213 dX5_isAhead_31 (fun yr20 => ?_)
    refine jm_icmp_le 41 C dX5_isAhead_34 rfl (by omega) (by omega) (fun yc21 => ?_) (fun yc21 => ?_)
    · skip
      refine jm_iconst C dX5_isAhead_41 ?_
      exact hR _ _ _ _ dX5_isAhead_42 (jm_nz (by decide)) ⟨rfl, by
          unfold hk_ah
          first
          | rw [if_pos (by omega), if_pos (by omega)]
          | rw [if_pos (by omega), if_neg (by omega)]
          | rw [if_neg (by omega), if_pos (by omega), if_pos (by omega)]
          | rw [if_neg (by omega), if_pos (by omega), if_neg (by omega)]
          | rw [if_neg (by omega), if_neg (by omega), if_pos (by omega)]
          | rw [if_neg (by omega), if_neg (by omega), if_neg (by omega)]⟩
    · skip
      refine jm_iconst C dX5_isAhead_37 ?_
      refine jm_goto 42 C dX5_isAhead_38 rfl ?_
      exact hR _ _ _ _ dX5_isAhead_42 (jm_nz (by decide)) ⟨rfl, by
          unfold hk_ah
          first
          | rw [if_pos (by omega), if_pos (by omega)]
          | rw [if_pos (by omega), if_neg (by omega)]
          | rw [if_neg (by omega), if_pos (by omega), if_pos (by omega)]
          | rw [if_neg (by omega), if_pos (by omega), if_neg (by omega)]
          | rw [if_neg (by omega), if_neg (by omega), if_pos (by omega)]
          | rw [if_neg (by omega), if_neg (by omega), if_neg (by omega)]⟩
set_option maxRecDepth 100000 in
set_option maxHeartbeats 4000000 in
theorem kX5_teamsAheadOf (E : jm_E) (w : jm_W) (I : jm_M) (ng : Int) (H : jm_X5 E w ng) (t : Int) (ht : 0 ≤ t ∧ t < 6) : jm_Mi E yX5_teamsAheadOf wX5_teamsAheadOf rmX5_teamsAheadOf 0 0 w I [.ref (w.2.1 0), jm_v t] (fun I' z => I' = I ∧ z = hk_tah I t 6) := by
  refine jm_in_i (cc := cX5_teamsAheadOf) (maxL := 4) (rt := .int) RX5 (by decide +kernel) rfl rfl (Nat.le_of_ble_eq_true rfl) (by simp [Value.category]) ?_
  intro G C hR hI
  refine jm_iconst C dX5_teamsAheadOf_0 ?_
  refine jm_istore_n C dX5_teamsAheadOf_1 (by decide) ?_
  refine jm_iconst C dX5_teamsAheadOf_2 ?_
  refine jm_istore_n C dX5_teamsAheadOf_3 (by decide) ?_
  have lp4 : ∀ (yn : Nat) (m : Nat) (cn : Int), 6 - m < yn → (m ≤ 6) → (cn = hk_tah I t m) → jm_J E G (0, 0) w I 4 [(0, .ref (w.2.1 0)), (1, jm_v t), (2, jm_v cn), (3, jm_v ((m : Nat) : Int))] [] := by
    intro yn
    induction yn with
    | zero => intro m cn hlt hm hc; exact absurd hlt (Nat.not_lt_zero _)
    | succ yn ih =>
      intro m cn hlt hm hc
      refine jm_iload_n C dX5_teamsAheadOf_4 rfl ?_
      refine jm_bipush C dX5_teamsAheadOf_5 (by decide +kernel) ?_
      refine jm_icmp_ge 33 C dX5_teamsAheadOf_7 rfl (by omega) (by decide) (fun yc1 => ?_) (fun yc1 => ?_)
      · skip
        refine jm_iload_n C dX5_teamsAheadOf_33 rfl ?_
        exact hR _ _ _ _ dX5_teamsAheadOf_34 rfl ⟨rfl, by rw [hc, show m = 6 by omega]⟩
      · skip
        refine jm_iload_n C dX5_teamsAheadOf_10 rfl ?_
        refine jm_iload_n C dX5_teamsAheadOf_11 rfl ?_
        refine jm_icmp_eq 27 C dX5_teamsAheadOf_12 rfl (by omega) (by omega) (fun yc2 => ?_) (fun yc2 => ?_)
        · skip
          refine jm_iinc C dX5_teamsAheadOf_27 (by decide) rfl ?_
          refine jm_goto 4 C dX5_teamsAheadOf_30 rfl ?_
          refine jm_lvs (lv' := [(0, _), (1, _), (2, _), (3, _)]) (jm_sub_c rfl (jm_sub_c rfl (jm_sub_c rfl (jm_sub_c rfl (jm_sub_0 _))))) ?_
          exact ih (m + 1) _ (by omega) (by omega) (by rw [hc, hk_tah]; first | (rw [if_pos (by omega)]; omega) | (rw [if_neg (by omega)]; omega))
        · skip
          refine jm_aload_n C dX5_teamsAheadOf_15 rfl ?_
          refine jm_iload_n C dX5_teamsAheadOf_16 rfl ?_
          refine jm_iload_n C dX5_teamsAheadOf_17 rfl ?_
          refine jm_cVd (n := 2) (ci := 5) [] C (kX5_isAhead E w I ng H _ _ (by omega) (by omega)) jw_m_RX5_276 okX5_isAhead rfl ⟨rfl, rfl⟩ ⟨Nat.le_of_ble_eq_true rfl, Nat.le_of_ble_eq_true rfl⟩ rfl H.1.1 H.1.2 rfl rfl (Nat.le_of_ble_eq_true rfl) dX5_teamsAheadOf_18 ⟨Nat.le_of_ble_eq_true rfl, Nat.le_of_ble_eq_true rfl⟩ (fun yz4 yh3 => ?_)
          have yh3r := hk_ah_r I ((m : Nat) : Int) t
          refine jm_if_eq 27 C dX5_teamsAheadOf_21 rfl (by omega) (fun yc5 => ?_) (fun yc5 => ?_)
          · skip
            refine jm_iinc C dX5_teamsAheadOf_27 (by decide) rfl ?_
            refine jm_goto 4 C dX5_teamsAheadOf_30 rfl ?_
            refine jm_lvs (lv' := [(0, _), (1, _), (2, _), (3, _)]) (jm_sub_c rfl (jm_sub_c rfl (jm_sub_c rfl (jm_sub_c rfl (jm_sub_0 _))))) ?_
            exact ih (m + 1) _ (by omega) (by omega) (by rw [hc, hk_tah]; first | (rw [if_pos (by omega)]; omega) | (rw [if_neg (by omega)]; omega))
          · skip
            refine jm_iinc C dX5_teamsAheadOf_24 (by decide) rfl ?_
            refine jm_iinc C dX5_teamsAheadOf_27 (by decide) rfl ?_
            refine jm_goto 4 C dX5_teamsAheadOf_30 rfl ?_
            refine jm_lvs (lv' := [(0, _), (1, _), (2, _), (3, _)]) (jm_sub_c rfl (jm_sub_c rfl (jm_sub_c rfl (jm_sub_c rfl (jm_sub_0 _))))) ?_
            exact ih (m + 1) _ (by omega) (by omega) (by rw [hc, hk_tah]; first | (rw [if_pos (by omega)]; omega) | (rw [if_neg (by omega)]; omega))
  refine jm_lvs (lv' := [(0, _), (1, _), (2, _), (3, _)]) (jm_sub_c rfl (jm_sub_c rfl (jm_sub_c rfl (jm_sub_c rfl (jm_sub_0 _))))) ?_
  exact lp4 _ 0 _ (Nat.lt_succ_self _) (Nat.zero_le _) rfl
set_option maxRecDepth 100000 in
set_option maxHeartbeats 4000000 in
theorem kX5_leastHourWished (E : jm_E) (w : jm_W) (I : jm_M) (ng : Int) (H : jm_X5 E w ng) (s : Int) (hs : jm_R s) : jm_Mi E yX5_leastHourWished wX5_leastHourWished rmX5_leastHourWished 0 0 w I [.ref (w.2.1 0), jm_v s] (fun I' z => I' = I ∧ z = hk_lhw I ng s 12) := by
  refine jm_in_i (cc := cX5_leastHourWished) (maxL := 5) (rt := .int) RX5 (by decide +kernel) rfl rfl (Nat.le_of_ble_eq_true rfl) (by simp [Value.category]) ?_
  intro G C hR hI
  have hng := jm_X5_n H
  refine jm_sipush C dX5_leastHourWished_0 (by decide +kernel) ?_
  refine jm_istore_n C dX5_leastHourWished_3 (by decide) ?_
  refine jm_iconst C dX5_leastHourWished_4 ?_
  refine jm_istore_n C dX5_leastHourWished_5 (by decide) ?_
  have lp6 : ∀ (yn : Nat) (m : Nat) (le : Int), 12 - m < yn → (m ≤ 12) → (le = hk_lhw I ng s m) → (jm_R le) → jm_J E G (0, 0) w I 6 [(0, .ref (w.2.1 0)), (1, jm_v s), (2, jm_v le), (3, jm_v ((m : Nat) : Int))] [] := by
    intro yn
    induction yn with
    | zero => intro m le hlt hm hle hler; exact absurd hlt (Nat.not_lt_zero _)
    | succ yn ih =>
      intro m le hlt hm hle hler
      refine jm_iload_n C dX5_leastHourWished_6 rfl ?_
      refine jm_aload_n C dX5_leastHourWished_7 rfl ?_
      refine jm_getr (ci := 5) (f := 2) C rfl jw_u_5 H.1.1 H.1.2 rfl (by decide) jw_f_RX5_25 dX5_leastHourWished_8 ?_
      refine jm_alenq 5 12 rfl C H.2.2.2.1.1 rfl H.2.2.2.1.2 dX5_leastHourWished_11 ?_
      refine jm_icmp_ge 61 C dX5_leastHourWished_12 rfl (by omega) (by decide) (fun yc1 => ?_) (fun yc1 => ?_)
      · skip
        refine jm_iload_n C dX5_leastHourWished_61 rfl ?_
        exact hR _ _ _ _ dX5_leastHourWished_62 rfl ⟨rfl, by rw [hle, show m = 12 by omega]⟩
      · skip
        refine jm_aload_n C dX5_leastHourWished_15 rfl ?_
        refine jm_getr (ci := 5) (f := 2) C rfl jw_u_5 H.1.1 H.1.2 rfl (by decide) jw_f_RX5_25 dX5_leastHourWished_16 ?_
        refine jm_iload_n C dX5_leastHourWished_19 rfl ?_
        rcases Int.lt_or_le ((m : Nat) : Int) ng with hgi | hgi
        · skip
          refine jm_aaldr 5 (hk_gg_at w (j := ((m : Nat) : Int)) (by omega) hgi) C H.2.2.2.1.1 rfl H.2.2.2.1.2 (by omega) (by omega) (by omega) dX5_leastHourWished_20 ?_
          refine jm_astore C dX5_leastHourWished_21 (by decide) ?_
          refine jm_aload C dX5_leastHourWished_23 rfl ?_
          refine jm_ifnullN C dX5_leastHourWished_25 ?_
          refine jm_aload C dX5_leastHourWished_28 rfl ?_
          refine jm_get (ci := 0) (f := 5) 5 rfl C rfl jw_u_0 (jm_X5_g H (i := ((m : Nat) : Int)) (by omega) hgi).1 (jm_X5_g H (i := ((m : Nat) : Int)) (by omega) hgi).2.1 rfl (by decide) jw_f_RX5_114 dX5_leastHourWished_30 (fun yr2 => ?_)
          refine jm_if_ne 55 C dX5_leastHourWished_33 rfl (by omega) (fun yc3 => ?_) (fun yc3 => ?_)
          · skip
            refine jm_iinc C dX5_leastHourWished_55 (by decide) rfl ?_
            refine jm_goto 6 C dX5_leastHourWished_58 rfl ?_
            refine jm_lvs (lv' := [(0, _), (1, _), (2, _), (3, _)]) (jm_sub_c rfl (jm_sub_c rfl (jm_sub_c rfl (jm_sub_c rfl (jm_sub_0 _))))) ?_
            exact ih (m + 1) _ (by omega) (by omega) (by rw [hle, hk_lhw]; first | rw [if_pos (by omega)] | rw [if_neg (by omega)]) (by first | assumption | (unfold hk_mn; split <;> omega))
          · skip
            refine jm_aload C dX5_leastHourWished_36 rfl ?_
            refine jm_get (ci := 0) (f := 2) 2 rfl C rfl jw_u_0 (jm_X5_g H (i := ((m : Nat) : Int)) (by omega) hgi).1 (jm_X5_g H (i := ((m : Nat) : Int)) (by omega) hgi).2.1 rfl (by decide) jw_f_RX5_264 dX5_leastHourWished_38 (fun yr4 => ?_)
            refine jm_iload_n C dX5_leastHourWished_41 rfl ?_
            refine jm_icmp_ne 55 C dX5_leastHourWished_42 rfl (by omega) hs (fun yc5 => ?_) (fun yc5 => ?_)
            · skip
              refine jm_iinc C dX5_leastHourWished_55 (by decide) rfl ?_
              refine jm_goto 6 C dX5_leastHourWished_58 rfl ?_
              refine jm_lvs (lv' := [(0, _), (1, _), (2, _), (3, _)]) (jm_sub_c rfl (jm_sub_c rfl (jm_sub_c rfl (jm_sub_c rfl (jm_sub_0 _))))) ?_
              exact ih (m + 1) _ (by omega) (by omega) (by rw [hle, hk_lhw]; first | rw [if_pos (by omega)] | rw [if_neg (by omega)]) (by first | assumption | (unfold hk_mn; split <;> omega))
            · skip
              refine jm_iload_n C dX5_leastHourWished_45 rfl ?_
              refine jm_aload C dX5_leastHourWished_46 rfl ?_
              refine jm_get (ci := 0) (f := 4) 4 rfl C rfl jw_u_0 (jm_X5_g H (i := ((m : Nat) : Int)) (by omega) hgi).1 (jm_X5_g H (i := ((m : Nat) : Int)) (by omega) hgi).2.1 rfl (by decide) jw_f_RX5_169 dX5_leastHourWished_48 (fun yr6 => ?_)
              refine jm_min C jw_m_RX5_227 jw_s_min jw_n_Math jw_c_min (Nat.le_of_ble_eq_true rfl) (Nat.le_of_ble_eq_true rfl) (Nat.le_of_ble_eq_true rfl) (Nat.le_of_ble_eq_true rfl) dX5_leastHourWished_51 (by omega) (by omega) ?_
              refine jm_istore_n C dX5_leastHourWished_54 (by decide) ?_
              refine jm_iinc C dX5_leastHourWished_55 (by decide) rfl ?_
              refine jm_goto 6 C dX5_leastHourWished_58 rfl ?_
              refine jm_lvs (lv' := [(0, _), (1, _), (2, _), (3, _)]) (jm_sub_c rfl (jm_sub_c rfl (jm_sub_c rfl (jm_sub_c rfl (jm_sub_0 _))))) ?_
              exact ih (m + 1) _ (by omega) (by omega) (by rw [hle, hk_lhw]; first | rw [if_pos (by omega)] | rw [if_neg (by omega)]) (by first | assumption | (unfold hk_mn; split <;> omega))
        · skip
          refine jm_aaldN 5 (hk_gg_no w (j := ((m : Nat) : Int)) (by omega) hgi) C H.2.2.2.1.1 rfl H.2.2.2.1.2 (by omega) (by omega) (by omega) dX5_leastHourWished_20 ?_
          refine jm_astoreN C dX5_leastHourWished_21 (by decide) ?_
          refine jm_aloadN C dX5_leastHourWished_23 rfl ?_
          refine jm_ifnullY 55 C dX5_leastHourWished_25 rfl ?_
          refine jm_iinc C dX5_leastHourWished_55 (by decide) rfl ?_
          refine jm_goto 6 C dX5_leastHourWished_58 rfl ?_
          refine jm_lvs (lv' := [(0, _), (1, _), (2, _), (3, _)]) (jm_sub_c rfl (jm_sub_c rfl (jm_sub_c rfl (jm_sub_c rfl (jm_sub_0 _))))) ?_
          exact ih (m + 1) _ (by omega) (by omega) (by rw [hle, hk_lhw]; first | rw [if_pos (by omega)] | rw [if_neg (by omega)]) (by first | assumption | (unfold hk_mn; split <;> omega))
  refine jm_lvs (lv' := [(0, _), (1, _), (2, _), (3, _)]) (jm_sub_c rfl (jm_sub_c rfl (jm_sub_c rfl (jm_sub_c rfl (jm_sub_0 _))))) ?_
  exact lp6 _ 0 _ (Nat.lt_succ_self _) (Nat.zero_le _) rfl (by decide)
end
