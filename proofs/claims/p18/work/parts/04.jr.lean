def hk_ab (z : Int) : Int := if 0 ≤ z then z else -z
def hk_mn (a b : Int) : Int := if b < a then b else a
-- what every state has: nest mates, texts, the two statics of Throwable, which classes are which
def jm_bad : List Cond := [.castable "java/lang/IndexOutOfBoundsException" "java/lang/IndexOutOfBoundsException", .castable "java/lang/IllegalArgumentException" "java/lang/IllegalArgumentException", .castable "java/lang/IllegalStateException" "java/lang/IllegalStateException", .declares (Bundle.initS "java/lang/RuntimeException"), .declares (Bundle.initS "java/lang/Exception"), .declares (Bundle.initS Bundle.tN)]
def jm_nest : List (String × Nat × MethodName × String) := [(RX5, 15, yX1_init, RX5), (RX5, 22, yX4_init, RX5), (RX5, 31, yX2_init, RX5), (RX2, 79, yX5_isWithin, RX5), (RX3, 29, yX5_distanceOf, RX5)]
def jm_nc : List (String × String) := [("java/lang/IllegalArgumentException", "java/lang/IndexOutOfBoundsException"), ("java/lang/IllegalStateException", "java/lang/IndexOutOfBoundsException"), ("java/lang/IllegalStateException", "java/lang/IllegalArgumentException")]
def jm_str : List (Nat × String) := [(136, "the hour would be above 9999"), (157, "what is out of range"), (163, "no such cell"), (187, "no such team of the game, or stone"), (198, "the game does not play"), (204, "no such place"), (230, "no such game"), (232, "no such sheet"), (234, "no such team"), (49, "no such team or sheet"), (59, "the same team twice, or hour is out of range"), (67, "there are 12 games"), (73, "hours is out of range"), (83, "the shot is out of range"), (89, "nothing is thrown in this game now")]
def jm_N (A : Nat → Prop) (U : State) : Prop := (∀ w ∈ jm_bad, va_Nw w U) ∧ (∀ t ∈ jm_nest, va_Nw (.methodLinkNest t.1 t.2.1 t.2.2.1 t.2.2.2) U) ∧ (∀ t ∈ jm_nc, va_Nc t.1 t.2 U) ∧ (∀ t ∈ jm_str, ∃ sa, vk_R RX5 t.1 t.2 sa U) ∧ vx_Zq Bundle.tN "UNASSIGNED_STACK" Bundle.steD A U U.heap ∧ vx_Zq Bundle.tN "SUPPRESSED_SENTINEL" Bundle.listD A U U.heap
theorem jm_N_to {A B : Nat → Prop} {s U : State} {locs : List Loc} (h : jm_N A s) (hW : s.WarmedH U.vm) (hS : va_S A s.heap U.heap locs) (hAB : ∀ q, B q → A q) : jm_N B U := by
  obtain ⟨h1, h2, h3, h4, h5, h6⟩ := h
  refine ⟨fun w hw => ?_, fun t ht => va_Nw.warmM hW (h2 t ht), fun t ht => (h3 t ht).moved hW.alike, fun t ht => ?_, ?_, ?_⟩
  · have h0 := h1 w hw
    simp only [jm_bad, List.mem_cons, List.not_mem_nil, or_false] at hw
    rcases hw with rfl | rfl | rfl | rfl | rfl | rfl <;> first | exact va_Nw.warmC hW h0 | exact va_Nw.warmD hW h0
  · obtain ⟨sa, hsa⟩ := h4 t ht
    exact ⟨sa, vk_R.warm hW hsa⟩
  · exact ((h5.kept hS.2.1).moved hW.alike).narrow hAB
  · exact ((h6.kept hS.2.1).moved hW.alike).narrow hAB
-- the judgement
def jm_J (E : jm_E) (G : jm_G) (q : Nat × Nat) (w : jm_W) (I : jm_M) (pc : Nat) (lv : List (Nat × Value)) (st : List Value) : Prop :=
  match E, G with
  | (l, D, _), (p, e, R, s, m, args, below, meth, c, Q, A) => ∀ (H : Heap) (locs : List Loc) (ls : Array Slot), (∀ k j, jm_R (I k j)) → va_P D vwCl (jm_ws w I) H → va_D A (jm_ws w I) → va_S A s.heap H locs → jm_h ls c.maxLocals lv → W p l e R s m args below meth c H locs q.1 q.2 Q (F0 m pc ls st)
/-- what a method's frame has while it runs -/
def jm_C (E : jm_E) (G : jm_G) (cc : ByteArray) (nL : Nat) (own : String) (rm : Room) : Prop :=
  match E, G with
  | (_, D, ca), (p, _, R, s, m, args, _, meth, c, _, A) => p.tables.exec = Jvm.exec ∧ c.code = cc ∧ c.maxLocals = nL ∧ s.vm.findClass own = some m.cls ∧ (∀ z ∈ jm_W0, z.before args s = true) ∧ R = rm ∧ va_K D vwCl (jm_t ca) s ∧ (∀ q, s.heap.size ≤ q → A q) ∧ meth.locks = false ∧ jm_N A s
section JR
variable {E : jm_E} {G : jm_G} {q : Nat × Nat} {w : jm_W} {I : jm_M} {pc : Nat} {lv : List (Nat × Value)} {st : List Value} {cc : ByteArray} {nL : Nat} {own : String} {rm : Room}
theorem jm_R_all (k : (∀ k j, jm_R (I k j)) → jm_J E G q w I pc lv st) : jm_J E G q w I pc lv st := by
  obtain ⟨l, D, ca⟩ := E
  obtain ⟨p, e, R, s, m, args, below, meth, c, Q, A⟩ := G
  intro H locs ls hI hP hD hS hl
  exact k hI H locs ls hI hP hD hS hl
theorem jm_lvs {lv' : List (Nat × Value)} (h : jm_subb lv' lv) (k : jm_J E G q w I pc lv' st) : jm_J E G q w I pc lv st := by
  obtain ⟨l, D, ca⟩ := E
  obtain ⟨p, e, R, s, m, args, below, meth, c, Q, A⟩ := G
  intro H locs ls hI hP hD hS hl
  exact k H locs ls hI hP hD hS (jm_h_sub hl h)
theorem jm_wid {q' : Nat × Nat} (h1 : q.1 ≤ q'.1) (h2 : q.2 ≤ q'.2) (k : jm_J E G q' w I pc lv st) : jm_J E G q w I pc lv st := by
  obtain ⟨l, D, ca⟩ := E
  obtain ⟨p, e, R, s, m, args, below, meth, c, Q, A⟩ := G
  intro H locs ls hI hP hD hS hl
  exact W.widen h1 h2 (k H locs ls hI hP hD hS hl)
theorem jm_iconst {n : Int} (C : jm_C E G cc nL own rm) (hd : decode cc pc = .ok (.iconst n, 1)) (k : jm_J E G q w I (pc + 1) lv (jm_v n :: st)) : jm_J E G q w I pc lv st := by
  obtain ⟨l, D, ca⟩ := E
  obtain ⟨p, e, R, s, m, args, below, meth, c, Q, A⟩ := G
  intro H locs ls hI hP hD hS hl
  exact lv_iconst C.1 C.2.1 hd rfl (k H locs ls hI hP hD hS hl)
theorem jm_bipush {n : Int} (C : jm_C E G cc nL own rm) (hd : decode cc pc = .ok (.bipush n, 2)) (hn : (Int8.ofInt n).toInt32 = jm_i n) (k : jm_J E G q w I (pc + 2) lv (jm_v n :: st)) : jm_J E G q w I pc lv st := by
  obtain ⟨l, D, ca⟩ := E
  obtain ⟨p, e, R, s, m, args, below, meth, c, Q, A⟩ := G
  intro H locs ls hI hP hD hS hl
  exact lv_bipush C.1 C.2.1 hd hn (k H locs ls hI hP hD hS hl)
theorem jm_sipush {n : Int} (C : jm_C E G cc nL own rm) (hd : decode cc pc = .ok (.sipush n, 3)) (hn : (Int16.ofInt n).toInt32 = jm_i n) (k : jm_J E G q w I (pc + 3) lv (jm_v n :: st)) : jm_J E G q w I pc lv st := by
  obtain ⟨l, D, ca⟩ := E
  obtain ⟨p, e, R, s, m, args, below, meth, c, Q, A⟩ := G
  intro H locs ls hI hP hD hS hl
  exact lv_sipush C.1 C.2.1 hd hn (k H locs ls hI hP hD hS hl)
theorem jm_iload_n {n : Fin 4} {x : Int32} (C : jm_C E G cc nL own rm) (hd : decode cc pc = .ok (.iload_n n, 1)) (hl0 : jm_lk lv n = some (.int x)) (k : jm_J E G q w I (pc + 1) lv (.int x :: st)) : jm_J E G q w I pc lv st := by
  obtain ⟨l, D, ca⟩ := E
  obtain ⟨p, e, R, s, m, args, below, meth, c, Q, A⟩ := G
  intro H locs ls hI hP hD hS hl
  exact lv_iload_n C.1 C.2.1 hd rfl (jm_h_at hl hl0) (k H locs ls hI hP hD hS hl)
theorem jm_iload {n : Nat} {x : Int32} (C : jm_C E G cc nL own rm) (hd : decode cc pc = .ok (.iload n, 2)) (hl0 : jm_lk lv n = some (.int x)) (k : jm_J E G q w I (pc + 2) lv (.int x :: st)) : jm_J E G q w I pc lv st := by
  obtain ⟨l, D, ca⟩ := E
  obtain ⟨p, e, R, s, m, args, below, meth, c, Q, A⟩ := G
  intro H locs ls hI hP hD hS hl
  exact lv_iload C.1 C.2.1 hd (jm_h_at hl hl0) (k H locs ls hI hP hD hS hl)
theorem jm_aload_n {n : Fin 4} {x : Nat} (C : jm_C E G cc nL own rm) (hd : decode cc pc = .ok (.aload_n n, 1)) (hl0 : jm_lk lv n = some (.ref x)) (k : jm_J E G q w I (pc + 1) lv (.ref x :: st)) : jm_J E G q w I pc lv st := by
  obtain ⟨l, D, ca⟩ := E
  obtain ⟨p, e, R, s, m, args, below, meth, c, Q, A⟩ := G
  intro H locs ls hI hP hD hS hl
  exact lv_aload_n C.1 C.2.1 hd rfl (jm_h_at hl hl0) (k H locs ls hI hP hD hS hl)
theorem jm_aload {n : Nat} {x : Nat} (C : jm_C E G cc nL own rm) (hd : decode cc pc = .ok (.aload n, 2)) (hl0 : jm_lk lv n = some (.ref x)) (k : jm_J E G q w I (pc + 2) lv (.ref x :: st)) : jm_J E G q w I pc lv st := by
  obtain ⟨l, D, ca⟩ := E
  obtain ⟨p, e, R, s, m, args, below, meth, c, Q, A⟩ := G
  intro H locs ls hI hP hD hS hl
  exact lv_aload C.1 C.2.1 hd (jm_h_at hl hl0) (k H locs ls hI hP hD hS hl)
theorem jm_istore_n {n : Fin 4} {x : Int32} (C : jm_C E G cc nL own rm) (hd : decode cc pc = .ok (.istore_n n, 1)) (hn : (n : Nat) < nL) (k : jm_J E G q w I (pc + 1) (((n : Nat), .int x) :: lv) st) : jm_J E G q w I pc lv (.int x :: st) := by
  obtain ⟨l, D, ca⟩ := E
  obtain ⟨p, e, R, s, m, args, below, meth, c, Q, A⟩ := G
  intro H locs ls hI hP hD hS hl
  exact lv_istore_n C.1 C.2.1 hd rfl (jm_h_to hl) (by rw [C.2.2.1]; exact hn) rfl (fun ls' hl' => k H locs ls' hI hP hD hS (jm_h_st hl rfl hl'))
theorem jm_istore {n : Nat} {x : Int32} (C : jm_C E G cc nL own rm) (hd : decode cc pc = .ok (.istore n, 2)) (hn : n < nL) (k : jm_J E G q w I (pc + 2) ((n, .int x) :: lv) st) : jm_J E G q w I pc lv (.int x :: st) := by
  obtain ⟨l, D, ca⟩ := E
  obtain ⟨p, e, R, s, m, args, below, meth, c, Q, A⟩ := G
  intro H locs ls hI hP hD hS hl
  exact lv_istore C.1 C.2.1 hd (jm_h_to hl) (by rw [C.2.2.1]; exact hn) rfl (fun ls' hl' => k H locs ls' hI hP hD hS (jm_h_st hl rfl hl'))
theorem jm_astore_n {n : Fin 4} {x : Nat} (C : jm_C E G cc nL own rm) (hd : decode cc pc = .ok (.astore_n n, 1)) (hn : (n : Nat) < nL) (k : jm_J E G q w I (pc + 1) (((n : Nat), .ref x) :: lv) st) : jm_J E G q w I pc lv (.ref x :: st) := by
  obtain ⟨l, D, ca⟩ := E
  obtain ⟨p, e, R, s, m, args, below, meth, c, Q, A⟩ := G
  intro H locs ls hI hP hD hS hl
  exact lv_astore_n C.1 C.2.1 hd rfl (jm_h_to hl) (by rw [C.2.2.1]; exact hn) rfl (fun ls' hl' => k H locs ls' hI hP hD hS (jm_h_st hl rfl hl'))
theorem jm_astore {n : Nat} {x : Nat} (C : jm_C E G cc nL own rm) (hd : decode cc pc = .ok (.astore n, 2)) (hn : n < nL) (k : jm_J E G q w I (pc + 2) ((n, .ref x) :: lv) st) : jm_J E G q w I pc lv (.ref x :: st) := by
  obtain ⟨l, D, ca⟩ := E
  obtain ⟨p, e, R, s, m, args, below, meth, c, Q, A⟩ := G
  intro H locs ls hI hP hD hS hl
  exact lv_astore C.1 C.2.1 hd (jm_h_to hl) (by rw [C.2.2.1]; exact hn) rfl (fun ls' hl' => k H locs ls' hI hP hD hS (jm_h_st hl rfl hl'))
theorem jm_iinc {n : Nat} {z x : Int} (C : jm_C E G cc nL own rm) (hd : decode cc pc = .ok (.iinc n z, 3)) (hn : n < nL) (hl0 : jm_lk lv n = some (jm_v x)) (k : jm_J E G q w I (pc + 3) ((n, jm_v (x + z)) :: lv) st) : jm_J E G q w I pc lv st := by
  obtain ⟨l, D, ca⟩ := E
  obtain ⟨p, e, R, s, m, args, below, meth, c, Q, A⟩ := G
  intro H locs ls hI hP hD hS hl
  have hn' : n < c.maxLocals := by rw [C.2.2.1]; exact hn
  have hm : (n, jm_v x) ∈ jm_all lv c.maxLocals := List.mem_filterMap.mpr ⟨n, List.mem_range.mpr hn', by rw [hl0]; rfl⟩
  obtain ⟨i, hi⟩ := List.getElem?_of_mem hm
  exact lv_iinc C.1 C.2.1 hd (jm_h_to hl) hi (jm_i_add x z) hn' rfl (fun ls' hl' => k H locs ls' hI hP hD hS (jm_h_st hl rfl hl'))
theorem jm_iadd {a b : Int} (C : jm_C E G cc nL own rm) (hd : decode cc pc = .ok (.iadd, 1)) (k : jm_J E G q w I (pc + 1) lv (jm_v (a + b) :: st)) : jm_J E G q w I pc lv (jm_v b :: jm_v a :: st) := by
  obtain ⟨l, D, ca⟩ := E
  obtain ⟨p, e, R, s, m, args, below, meth, c, Q, A⟩ := G
  intro H locs ls hI hP hD hS hl
  exact lv_iadd C.1 C.2.1 hd (by rw [jm_i_add]; exact k H locs ls hI hP hD hS hl)
theorem jm_isub {a b : Int} (C : jm_C E G cc nL own rm) (hd : decode cc pc = .ok (.isub, 1)) (k : jm_J E G q w I (pc + 1) lv (jm_v (a - b) :: st)) : jm_J E G q w I pc lv (jm_v b :: jm_v a :: st) := by
  obtain ⟨l, D, ca⟩ := E
  obtain ⟨p, e, R, s, m, args, below, meth, c, Q, A⟩ := G
  intro H locs ls hI hP hD hS hl
  exact lv_isub C.1 C.2.1 hd (by rw [jm_i_sub]; exact k H locs ls hI hP hD hS hl)
theorem jm_imul {a b : Int} (C : jm_C E G cc nL own rm) (hd : decode cc pc = .ok (.imul, 1)) (k : jm_J E G q w I (pc + 1) lv (jm_v (a * b) :: st)) : jm_J E G q w I pc lv (jm_v b :: jm_v a :: st) := by
  obtain ⟨l, D, ca⟩ := E
  obtain ⟨p, e, R, s, m, args, below, meth, c, Q, A⟩ := G
  intro H locs ls hI hP hD hS hl
  exact lv_imul C.1 C.2.1 hd (by rw [jm_i_mul]; exact k H locs ls hI hP hD hS hl)
theorem jm_ineg {a : Int} (C : jm_C E G cc nL own rm) (hd : decode cc pc = .ok (.ineg, 1)) (k : jm_J E G q w I (pc + 1) lv (jm_v (-a) :: st)) : jm_J E G q w I pc lv (jm_v a :: st) := by
  obtain ⟨l, D, ca⟩ := E
  obtain ⟨p, e, R, s, m, args, below, meth, c, Q, A⟩ := G
  intro H locs ls hI hP hD hS hl
  refine lv_ineg C.1 C.2.1 hd ?_
  have e0 : jm_i (-a) = -jm_i a := (jm_i_neg a).symm
  have hk := k H locs ls hI hP hD hS hl
  rw [jm_v, e0] at hk
  first | exact hk | (rw [show (0 : Int32) - jm_i a = -jm_i a from by simp]; exact hk)
theorem jm_idiv {a b : Int} (C : jm_C E G cc nL own rm) (hd : decode cc pc = .ok (.idiv, 1)) (ha : jm_R a) (hb : jm_R b) (h0 : b ≠ 0) (k : jm_J E G q w I (pc + 1) lv (jm_v (a.tdiv b) :: st)) : jm_J E G q w I pc lv (jm_v b :: jm_v a :: st) := by
  obtain ⟨l, D, ca⟩ := E
  obtain ⟨p, e, R, s, m, args, below, meth, c, Q, A⟩ := G
  intro H locs ls hI hP hD hS hl
  exact lv_idiv C.1 C.2.1 hd (by rw [jm_i_eq0 hb]; exact h0) (by rw [jm_i_div ha hb]; exact k H locs ls hI hP hD hS hl)
theorem jm_irem {a b : Int} (C : jm_C E G cc nL own rm) (hd : decode cc pc = .ok (.irem, 1)) (ha : jm_R a) (hb : jm_R b) (h0 : b ≠ 0) (k : jm_J E G q w I (pc + 1) lv (jm_v (a.tmod b) :: st)) : jm_J E G q w I pc lv (jm_v b :: jm_v a :: st) := by
  obtain ⟨l, D, ca⟩ := E
  obtain ⟨p, e, R, s, m, args, below, meth, c, Q, A⟩ := G
  intro H locs ls hI hP hD hS hl
  exact lv_irem C.1 C.2.1 hd (by rw [jm_i_eq0 hb]; exact h0) (by rw [jm_i_mod ha hb]; exact k H locs ls hI hP hD hS hl)
theorem jm_dup {v : Value} (C : jm_C E G cc nL own rm) (hd : decode cc pc = .ok (.dup, 1)) (hv : v.category = 1) (k : jm_J E G q w I (pc + 1) lv (v :: v :: st)) : jm_J E G q w I pc lv (v :: st) := by
  obtain ⟨l, D, ca⟩ := E
  obtain ⟨p, e, R, s, m, args, below, meth, c, Q, A⟩ := G
  intro H locs ls hI hP hD hS hl
  exact lv_dup C.1 C.2.1 hd hv (k H locs ls hI hP hD hS hl)
theorem jm_dup2 {v u : Value} (C : jm_C E G cc nL own rm) (hd : decode cc pc = .ok (.dup2, 1)) (hv : v.category = 1) (hu : u.category = 1) (k : jm_J E G q w I (pc + 1) lv (v :: u :: v :: u :: st)) : jm_J E G q w I pc lv (v :: u :: st) := by
  obtain ⟨l, D, ca⟩ := E
  obtain ⟨p, e, R, s, m, args, below, meth, c, Q, A⟩ := G
  intro H locs ls hI hP hD hS hl
  exact lv_dup2_11 C.1 C.2.1 hd hv hu (k H locs ls hI hP hD hS hl)
theorem jm_pop {v : Value} (C : jm_C E G cc nL own rm) (hd : decode cc pc = .ok (.pop, 1)) (hv : v.category = 1) (k : jm_J E G q w I (pc + 1) lv st) : jm_J E G q w I pc lv (v :: st) := by
  obtain ⟨l, D, ca⟩ := E
  obtain ⟨p, e, R, s, m, args, below, meth, c, Q, A⟩ := G
  intro H locs ls hI hP hD hS hl
  exact lv_pop C.1 C.2.1 hd hv (k H locs ls hI hP hD hS hl)
theorem jm_goto {off : Int} (tgt : Nat) (C : jm_C E G cc nL own rm) (hd : decode cc pc = .ok (.goto off, 3)) (ht : (pc : Int) + off = (tgt : Int)) (k : jm_J E G q w I tgt lv st) : jm_J E G q w I pc lv st := by
  obtain ⟨l, D, ca⟩ := E
  obtain ⟨p, e, R, s, m, args, below, meth, c, Q, A⟩ := G
  intro H locs ls hI hP hD hS hl
  exact lv_goto C.1 C.2.1 hd ht (k H locs ls hI hP hD hS hl)
theorem jm_if_eq {a : Int} {off : Int} (tgt : Nat) (C : jm_C E G cc nL own rm) (hd : decode cc pc = .ok (.ifCond .eq off, 3)) (ht : (pc : Int) + off = (tgt : Int)) (ha : jm_R a) (kt : a = 0 → jm_J E G q w I tgt lv st) (kf : ¬ (a = 0) → jm_J E G q w I (pc + 3) lv st) : jm_J E G q w I pc lv (jm_v a :: st) := by
  obtain ⟨l, D, ca⟩ := E
  obtain ⟨p, e, R, s, m, args, below, meth, c, Q, A⟩ := G
  intro H locs ls hI hP hD hS hl
  exact lv_if_eq C.1 C.2.1 hd ht (fun h => kt ((jm_i_eq0 ha).mp h) H locs ls hI hP hD hS hl) (fun h => kf (fun z => h ((jm_i_eq0 ha).mpr z)) H locs ls hI hP hD hS hl)
theorem jm_icmp_eq {a b : Int} {off : Int} (tgt : Nat) (C : jm_C E G cc nL own rm) (hd : decode cc pc = .ok (.if_icmp .eq off, 3)) (ht : (pc : Int) + off = (tgt : Int)) (ha : jm_R a) (hb : jm_R b) (kt : a = b → jm_J E G q w I tgt lv st) (kf : ¬ (a = b) → jm_J E G q w I (pc + 3) lv st) : jm_J E G q w I pc lv (jm_v b :: jm_v a :: st) := by
  obtain ⟨l, D, ca⟩ := E
  obtain ⟨p, e, R, s, m, args, below, meth, c, Q, A⟩ := G
  intro H locs ls hI hP hD hS hl
  exact lv_icmp_eq C.1 C.2.1 hd ht (fun h => kt ((jm_i_eq ha hb).mp h) H locs ls hI hP hD hS hl) (fun h => kf (fun z => h ((jm_i_eq ha hb).mpr z)) H locs ls hI hP hD hS hl)
theorem jm_if_ne {a : Int} {off : Int} (tgt : Nat) (C : jm_C E G cc nL own rm) (hd : decode cc pc = .ok (.ifCond .ne off, 3)) (ht : (pc : Int) + off = (tgt : Int)) (ha : jm_R a) (kt : ¬ (a = 0) → jm_J E G q w I tgt lv st) (kf : a = 0 → jm_J E G q w I (pc + 3) lv st) : jm_J E G q w I pc lv (jm_v a :: st) := by
  obtain ⟨l, D, ca⟩ := E
  obtain ⟨p, e, R, s, m, args, below, meth, c, Q, A⟩ := G
  intro H locs ls hI hP hD hS hl
  exact lv_if_ne C.1 C.2.1 hd ht (fun h => kt (fun z => h ((jm_i_eq0 ha).mpr z)) H locs ls hI hP hD hS hl) (fun h => kf ((jm_i_eq0 ha).mp h) H locs ls hI hP hD hS hl)
theorem jm_icmp_ne {a b : Int} {off : Int} (tgt : Nat) (C : jm_C E G cc nL own rm) (hd : decode cc pc = .ok (.if_icmp .ne off, 3)) (ht : (pc : Int) + off = (tgt : Int)) (ha : jm_R a) (hb : jm_R b) (kt : ¬ (a = b) → jm_J E G q w I tgt lv st) (kf : a = b → jm_J E G q w I (pc + 3) lv st) : jm_J E G q w I pc lv (jm_v b :: jm_v a :: st) := by
  obtain ⟨l, D, ca⟩ := E
  obtain ⟨p, e, R, s, m, args, below, meth, c, Q, A⟩ := G
  intro H locs ls hI hP hD hS hl
  exact lv_icmp_ne C.1 C.2.1 hd ht (fun h => kt (fun z => h ((jm_i_eq ha hb).mpr z)) H locs ls hI hP hD hS hl) (fun h => kf ((jm_i_eq ha hb).mp h) H locs ls hI hP hD hS hl)
theorem jm_if_lt {a : Int} {off : Int} (tgt : Nat) (C : jm_C E G cc nL own rm) (hd : decode cc pc = .ok (.ifCond .lt off, 3)) (ht : (pc : Int) + off = (tgt : Int)) (ha : jm_R a) (kt : a < 0 → jm_J E G q w I tgt lv st) (kf : ¬ (a < 0) → jm_J E G q w I (pc + 3) lv st) : jm_J E G q w I pc lv (jm_v a :: st) := by
  obtain ⟨l, D, ca⟩ := E
  obtain ⟨p, e, R, s, m, args, below, meth, c, Q, A⟩ := G
  intro H locs ls hI hP hD hS hl
  exact lv_if_lt C.1 C.2.1 hd ht (fun h => kt ((jm_i_lt0 ha).mp h) H locs ls hI hP hD hS hl) (fun h => kf (fun z => h ((jm_i_lt0 ha).mpr z)) H locs ls hI hP hD hS hl)
theorem jm_icmp_lt {a b : Int} {off : Int} (tgt : Nat) (C : jm_C E G cc nL own rm) (hd : decode cc pc = .ok (.if_icmp .lt off, 3)) (ht : (pc : Int) + off = (tgt : Int)) (ha : jm_R a) (hb : jm_R b) (kt : a < b → jm_J E G q w I tgt lv st) (kf : ¬ (a < b) → jm_J E G q w I (pc + 3) lv st) : jm_J E G q w I pc lv (jm_v b :: jm_v a :: st) := by
  obtain ⟨l, D, ca⟩ := E
  obtain ⟨p, e, R, s, m, args, below, meth, c, Q, A⟩ := G
  intro H locs ls hI hP hD hS hl
  exact lv_icmp_lt C.1 C.2.1 hd ht (fun h => kt ((jm_i_lt ha hb).mp h) H locs ls hI hP hD hS hl) (fun h => kf (fun z => h ((jm_i_lt ha hb).mpr z)) H locs ls hI hP hD hS hl)
theorem jm_if_ge {a : Int} {off : Int} (tgt : Nat) (C : jm_C E G cc nL own rm) (hd : decode cc pc = .ok (.ifCond .ge off, 3)) (ht : (pc : Int) + off = (tgt : Int)) (ha : jm_R a) (kt : 0 ≤ a → jm_J E G q w I tgt lv st) (kf : ¬ (0 ≤ a) → jm_J E G q w I (pc + 3) lv st) : jm_J E G q w I pc lv (jm_v a :: st) := by
  obtain ⟨l, D, ca⟩ := E
  obtain ⟨p, e, R, s, m, args, below, meth, c, Q, A⟩ := G
  intro H locs ls hI hP hD hS hl
  exact lv_if_ge C.1 C.2.1 hd ht (fun h => kt ((jm_i_0le ha).mp h) H locs ls hI hP hD hS hl) (fun h => kf (fun z => h ((jm_i_0le ha).mpr z)) H locs ls hI hP hD hS hl)
theorem jm_icmp_ge {a b : Int} {off : Int} (tgt : Nat) (C : jm_C E G cc nL own rm) (hd : decode cc pc = .ok (.if_icmp .ge off, 3)) (ht : (pc : Int) + off = (tgt : Int)) (ha : jm_R a) (hb : jm_R b) (kt : b ≤ a → jm_J E G q w I tgt lv st) (kf : ¬ (b ≤ a) → jm_J E G q w I (pc + 3) lv st) : jm_J E G q w I pc lv (jm_v b :: jm_v a :: st) := by
  obtain ⟨l, D, ca⟩ := E
  obtain ⟨p, e, R, s, m, args, below, meth, c, Q, A⟩ := G
  intro H locs ls hI hP hD hS hl
  exact lv_icmp_ge C.1 C.2.1 hd ht (fun h => kt ((jm_i_le hb ha).mp h) H locs ls hI hP hD hS hl) (fun h => kf (fun z => h ((jm_i_le hb ha).mpr z)) H locs ls hI hP hD hS hl)
theorem jm_if_gt {a : Int} {off : Int} (tgt : Nat) (C : jm_C E G cc nL own rm) (hd : decode cc pc = .ok (.ifCond .gt off, 3)) (ht : (pc : Int) + off = (tgt : Int)) (ha : jm_R a) (kt : 0 < a → jm_J E G q w I tgt lv st) (kf : ¬ (0 < a) → jm_J E G q w I (pc + 3) lv st) : jm_J E G q w I pc lv (jm_v a :: st) := by
  obtain ⟨l, D, ca⟩ := E
  obtain ⟨p, e, R, s, m, args, below, meth, c, Q, A⟩ := G
  intro H locs ls hI hP hD hS hl
  exact lv_if_gt C.1 C.2.1 hd ht (fun h => kt ((jm_i_0lt ha).mp h) H locs ls hI hP hD hS hl) (fun h => kf (fun z => h ((jm_i_0lt ha).mpr z)) H locs ls hI hP hD hS hl)
theorem jm_icmp_gt {a b : Int} {off : Int} (tgt : Nat) (C : jm_C E G cc nL own rm) (hd : decode cc pc = .ok (.if_icmp .gt off, 3)) (ht : (pc : Int) + off = (tgt : Int)) (ha : jm_R a) (hb : jm_R b) (kt : b < a → jm_J E G q w I tgt lv st) (kf : ¬ (b < a) → jm_J E G q w I (pc + 3) lv st) : jm_J E G q w I pc lv (jm_v b :: jm_v a :: st) := by
  obtain ⟨l, D, ca⟩ := E
  obtain ⟨p, e, R, s, m, args, below, meth, c, Q, A⟩ := G
  intro H locs ls hI hP hD hS hl
  exact lv_icmp_gt C.1 C.2.1 hd ht (fun h => kt ((jm_i_lt hb ha).mp h) H locs ls hI hP hD hS hl) (fun h => kf (fun z => h ((jm_i_lt hb ha).mpr z)) H locs ls hI hP hD hS hl)
theorem jm_if_le {a : Int} {off : Int} (tgt : Nat) (C : jm_C E G cc nL own rm) (hd : decode cc pc = .ok (.ifCond .le off, 3)) (ht : (pc : Int) + off = (tgt : Int)) (ha : jm_R a) (kt : a ≤ 0 → jm_J E G q w I tgt lv st) (kf : ¬ (a ≤ 0) → jm_J E G q w I (pc + 3) lv st) : jm_J E G q w I pc lv (jm_v a :: st) := by
  obtain ⟨l, D, ca⟩ := E
  obtain ⟨p, e, R, s, m, args, below, meth, c, Q, A⟩ := G
  intro H locs ls hI hP hD hS hl
  exact lv_if_le C.1 C.2.1 hd ht (fun h => kt ((jm_i_le0 ha).mp h) H locs ls hI hP hD hS hl) (fun h => kf (fun z => h ((jm_i_le0 ha).mpr z)) H locs ls hI hP hD hS hl)
theorem jm_icmp_le {a b : Int} {off : Int} (tgt : Nat) (C : jm_C E G cc nL own rm) (hd : decode cc pc = .ok (.if_icmp .le off, 3)) (ht : (pc : Int) + off = (tgt : Int)) (ha : jm_R a) (hb : jm_R b) (kt : a ≤ b → jm_J E G q w I tgt lv st) (kf : ¬ (a ≤ b) → jm_J E G q w I (pc + 3) lv st) : jm_J E G q w I pc lv (jm_v b :: jm_v a :: st) := by
  obtain ⟨l, D, ca⟩ := E
  obtain ⟨p, e, R, s, m, args, below, meth, c, Q, A⟩ := G
  intro H locs ls hI hP hD hS hl
  exact lv_icmp_le C.1 C.2.1 hd ht (fun h => kt ((jm_i_le ha hb).mp h) H locs ls hI hP hD hS hl) (fun h => kf (fun z => h ((jm_i_le ha hb).mpr z)) H locs ls hI hP hD hS hl)
-- fields, rows
theorem jm_get {C0 : String} {T : u_T} {N ci index f : Nat} {tm : List (Option Value)} {k : Int} (jf : Int) (hjf : (f : Int) = jf) (C : jm_C E G cc nL own rm) (hc : vwCl[ci]? = some (C0, T, N)) (hin : ∀ z ∈ u_ws C0 T N, z ∈ jm_W0) (hk : k ∈ w.1) (hs : w.2.2 k = jm_O ci tm) (hf : tm[f]? = some none) (hN : f < N) (hlink : Cond.fieldLink own index (T f).1 (T f).2.1 (T f).2.2.1 ∈ jm_W0) (hd : decode cc pc = .ok (.getfield index, 3)) (kk : jm_R (I k jf) → jm_J E G q w I (pc + 3) lv (jm_v (I k jf) :: st)) : jm_J E G q w I pc lv (.ref (w.2.1 k) :: st) := by
  subst hjf
  obtain ⟨l, D, ca⟩ := E
  obtain ⟨p, e, R, s, m, args, below, meth, c, Q, A⟩ := G
  intro H locs ls hI hP hD hS hl
  obtain ⟨hx, hb, hml, hown, hts, -, hK, -⟩ := C
  obtain ⟨i, -, hi⟩ := jm_ws_at (I := I) hk
  rw [hs] at hi
  have h0 := jm_fs_get tm 0 (I k) f hf
  rw [Int.zero_add] at h0
  exact va_get hx hb hts hin hown hK hP i hi hc f hN (hts _ hlink) (fun _ h => h) h0 hd (kk (hI k f) H locs ls hI hP hD hS hl)
theorem jm_getv {C0 : String} {T : u_T} {N ci index f : Nat} {tm : List (Option Value)} {k : Int} (v : Int) (jf : Int) (hjf : (f : Int) = jf) (hv : I k jf = v) (C : jm_C E G cc nL own rm) (hc : vwCl[ci]? = some (C0, T, N)) (hin : ∀ z ∈ u_ws C0 T N, z ∈ jm_W0) (hk : k ∈ w.1) (hs : w.2.2 k = jm_O ci tm) (hf : tm[f]? = some none) (hN : f < N) (hlink : Cond.fieldLink own index (T f).1 (T f).2.1 (T f).2.2.1 ∈ jm_W0) (hd : decode cc pc = .ok (.getfield index, 3)) (kk : jm_R v → jm_J E G q w I (pc + 3) lv (jm_v v :: st)) : jm_J E G q w I pc lv (.ref (w.2.1 k) :: st) :=
  jm_get jf hjf C hc hin hk hs hf hN hlink hd (by rw [hv]; exact kk)
theorem jm_getr {C0 : String} {T : u_T} {N ci index f : Nat} {tm : List (Option Value)} {k : Int} {v : Value} (C : jm_C E G cc nL own rm) (hc : vwCl[ci]? = some (C0, T, N)) (hin : ∀ z ∈ u_ws C0 T N, z ∈ jm_W0) (hk : k ∈ w.1) (hs : w.2.2 k = jm_O ci tm) (hf : tm[f]? = some (some v)) (hN : f < N) (hlink : Cond.fieldLink own index (T f).1 (T f).2.1 (T f).2.2.1 ∈ jm_W0) (hd : decode cc pc = .ok (.getfield index, 3)) (kk : jm_J E G q w I (pc + 3) lv (v :: st)) : jm_J E G q w I pc lv (.ref (w.2.1 k) :: st) := by
  obtain ⟨l, D, ca⟩ := E
  obtain ⟨p, e, R, s, m, args, below, meth, c, Q, A⟩ := G
  intro H locs ls hI hP hD hS hl
  obtain ⟨hx, hb, hml, hown, hts, -, hK, -⟩ := C
  obtain ⟨i, -, hi⟩ := jm_ws_at (I := I) hk
  rw [hs] at hi
  exact va_get hx hb hts hin hown hK hP i hi hc f hN (hts _ hlink) (fun _ h => h) (jm_fs_ref tm 0 (I k) f v hf) hd (kk H locs ls hI hP hD hS hl)
theorem jm_upR {I : jm_M} {k j v : Int} (hI : ∀ a b, jm_R (I a b)) (hv : jm_R v) : ∀ a b, jm_R (jm_up I k j v a b) := fun a b => by
  unfold jm_up
  split
  · exact hv
  · exact hI a b
/-- a number's place (int or boolean) is written -/
theorem jm_put {C0 : String} {T : u_T} {N ci index f : Nat} {tm : List (Option Value)} {k v : Int} {ty : FieldType} (jf : Int) (hjf : (f : Int) = jf) (C : jm_C E G cc nL own rm) (hc : vwCl[ci]? = some (C0, T, N)) (ty0 : Nat → FieldType) (hty : ∀ k, k < N → parseFieldDescriptor (T k).2.2.1 = some (ty0 k)) (hnm : ∀ a, a < N → ∀ b, b < N → a ≠ b → (T a).2.1 ≠ (T b).2.1) (hin : ∀ z ∈ u_ws C0 T N, z ∈ jm_W0) (hk : k ∈ w.1) (hs : w.2.2 k = jm_O ci tm) (hf : tm[f]? = some none) (hN : f < N) (hlink : Cond.fieldLink own index (T f).1 (T f).2.1 (T f).2.2.1 ∈ jm_W0) (hfin : (T f).2.2.2 = false) (hd0 : parseFieldDescriptor (T f).2.2.1 = some ty) (hn : narrow ty (jm_v v) = jm_v v) (hfit : fits ty (jm_v v) = true) (hd : decode cc pc = .ok (.putfield index, 3)) (hv : jm_R v) (kk : jm_J E G q w (jm_up I k jf v) (pc + 3) lv st) : jm_J E G q w I pc lv (jm_v v :: .ref (w.2.1 k) :: st) := by
  subst hjf
  obtain ⟨l, D, ca⟩ := E
  obtain ⟨p, e, R, s, m, args, below, meth, c, Q, A⟩ := G
  intro H locs ls hI hP hD hS hl
  obtain ⟨hx, hb, hml, hown, hts, -, hK, -⟩ := C
  obtain ⟨i, hi0, hi⟩ := jm_ws_at (I := I) hk
  rw [hs] at hi
  have hlen : f < (jm_fs tm 0 (I k)).length := by rw [jm_fs_len]; exact (List.getElem?_eq_some_iff.mp hf).1
  have hset : (jm_ws w I).set i (w.2.1 k, .inr (ci, (jm_fs tm 0 (I k)).set f (jm_v v))) = jm_ws w (jm_up I k f v) := by
    refine jm_ws_set hD hi0 rfl rfl ?_ (fun a ha => ?_)
    · rw [hs, jm_O, jm_fs_set tm 0 (I k) f v hf]
      congr 3
      funext b
      simp [jm_up]
    · have e0 : ∀ x, jm_up I k x v a = I a := fun x => by funext b; simp [jm_up, ha]
      rw [e0]
  refine va_put hx hb hts hin ty0 hty hnm hown hK hP hD hS i hi hc f hN (hts _ hlink) (fun _ h => h) hfin hd0 hn hfit hlen hd (fun H1 locs1 hP1 hD1 hS1 => ?_)
  rw [hset] at hP1 hD1
  exact kk H1 locs1 ls (jm_upR hI hv) hP1 hD1 hS1 hl
theorem jm_iald {k j : Int} {n : Nat} {cA : ClassId} (C : jm_C E G cc nL own rm) (hk : k ∈ w.1) (hcA : cA = E.2.2 0) (hs : w.2.2 k = jm_Ia cA n) (h0 : 0 ≤ j) (h1 : j < n) (hj : jm_R j) (hd : decode cc pc = .ok (.iaload, 1)) (kk : jm_R (I k j) → jm_J E G q w I (pc + 1) lv (jm_v (I k j) :: st)) : jm_J E G q w I pc lv (jm_v j :: .ref (w.2.1 k) :: st) := by
  obtain ⟨l, D, ca⟩ := E
  obtain ⟨p, e, R, s, m, args, below, meth, c, Q, A⟩ := G
  intro H locs ls hI hP hD hS hl
  obtain ⟨hx, hb, hml, hown, hts, -, hK, -⟩ := C
  obtain ⟨i, -, hi⟩ := jm_ws_at (I := I) hk
  rw [hs] at hi
  refine va_iald hx hb hK hP i 0 hi (by rw [hcA]; rfl) (jm_i_in h0 h1 hj) hd ?_
  rw [jm_i_nat h0 hj]
  show W p l e R s m args below meth c H locs q.1 q.2 Q (F0 m (pc + 1) ls (jm_v (I k (j.toNat : Int)) :: st))
  rw [Int.toNat_of_nonneg h0]
  exact kk (hI k j) H locs ls hI hP hD hS hl
theorem jm_aup {f : Int → Int} {j v : Int} (h0 : 0 ≤ j) : upd (fun b : Nat => jm_i (f b)) j.toNat (jm_i v) = fun b : Nat => jm_i (if (b : Int) = j then v else f b) := by
  funext b
  by_cases hb : b = j.toNat
  · have e : (b : Int) = j := by omega
    simp [upd, hb, Int.toNat_of_nonneg h0]
  · have e : ¬ (b : Int) = j := by omega
    simp [upd, hb, e]
theorem jm_iast {k j v : Int} {n : Nat} {cA : ClassId} (C : jm_C E G cc nL own rm) (hk : k ∈ w.1) (hcA : cA = E.2.2 0) (hs : w.2.2 k = jm_Ia cA n) (h0 : 0 ≤ j) (h1 : j < n) (hj : jm_R j) (hd : decode cc pc = .ok (.iastore, 1)) (hv : jm_R v) (kk : jm_J E G q w (jm_up I k j v) (pc + 1) lv st) : jm_J E G q w I pc lv (jm_v v :: jm_v j :: .ref (w.2.1 k) :: st) := by
  obtain ⟨l, D, ca⟩ := E
  obtain ⟨p, e, R, s, m, args, below, meth, c, Q, A⟩ := G
  intro H locs ls hI hP hD hS hl
  obtain ⟨hx, hb, hml, hown, hts, -, hK, -⟩ := C
  obtain ⟨i, hi0, hi⟩ := jm_ws_at (I := I) hk
  rw [hs] at hi
  have hset : (jm_ws w I).set i (w.2.1 k, .inl (cA, n, .inl (upd (fun b : Nat => jm_i (I k b)) (jm_i j).toNatClampNeg (jm_i v)))) = jm_ws w (jm_up I k j v) := by
    refine jm_ws_set hD hi0 rfl rfl ?_ (fun a ha => ?_)
    · rw [hs, jm_i_nat h0 hj, jm_aup h0, jm_Ia]
      congr 5
      funext b
      simp [jm_up]
    · have e0 : ∀ x, jm_up I k x v a = I a := fun x => by funext b; simp [jm_up, ha]
      rw [e0]
  refine va_iast hx hb hK hP hD hS i 0 hi (by rw [hcA]; rfl) (jm_i_in h0 h1 hj) hd (fun H1 locs1 hP1 hD1 hS1 => ?_)
  rw [hset] at hP1 hD1
  exact kk H1 locs1 ls (jm_upR hI hv) hP1 hD1 hS1 hl
theorem jm_alen {k : Int} {n : Nat} {cA : ClassId} (t : Nat) (N : Int) (hN : (n : Int) = N) {ty : FieldType} (C : jm_C E G cc nL own rm) (hk : k ∈ w.1) (ht : (jm_t E.2.2)[t]? = some (cA, ty)) (hs : w.2.2 k = jm_Ia cA n) (hd : decode cc pc = .ok (.arraylength, 1)) (kk : jm_J E G q w I (pc + 1) lv (jm_v N :: st)) : jm_J E G q w I pc lv (.ref (w.2.1 k) :: st) := by
  subst hN
  obtain ⟨l, D, ca⟩ := E
  obtain ⟨p, e, R, s, m, args, below, meth, c, Q, A⟩ := G
  intro H locs ls hI hP hD hS hl
  obtain ⟨hx, hb, hml, hown, hts, -, hK, -⟩ := C
  obtain ⟨i, -, hi⟩ := jm_ws_at (I := I) hk
  rw [hs] at hi
  exact va_alen hx hb hK hP i t hi ht (v := jm_i n) (by show Int32.ofNat n = Int32.ofInt (n : Int); rfl) hd (kk H locs ls hI hP hD hS hl)
theorem jm_alenq {k : Int} {n : Nat} {cA : ClassId} {g : Nat → Option Nat} (t : Nat) (N : Int) (hN : (n : Int) = N) {ty : FieldType} (C : jm_C E G cc nL own rm) (hk : k ∈ w.1) (ht : (jm_t E.2.2)[t]? = some (cA, ty)) (hs : w.2.2 k = jm_Qa cA n g) (hd : decode cc pc = .ok (.arraylength, 1)) (kk : jm_J E G q w I (pc + 1) lv (jm_v N :: st)) : jm_J E G q w I pc lv (.ref (w.2.1 k) :: st) := by
  subst hN
  obtain ⟨l, D, ca⟩ := E
  obtain ⟨p, e, R, s, m, args, below, meth, c, Q, A⟩ := G
  intro H locs ls hI hP hD hS hl
  obtain ⟨hx, hb, hml, hown, hts, -, hK, -⟩ := C
  obtain ⟨i, -, hi⟩ := jm_ws_at (I := I) hk
  rw [hs] at hi
  exact va_alen hx hb hK hP i t hi ht (v := jm_i n) (by show Int32.ofNat n = Int32.ofInt (n : Int); rfl) hd (kk H locs ls hI hP hD hS hl)
theorem jm_aald {k j : Int} {n : Nat} {cA : ClassId} {g : Nat → Option Nat} (t : Nat) {Cn : String} (C : jm_C E G cc nL own rm) (hk : k ∈ w.1) (ht : (jm_t E.2.2)[t]? = some (cA, .object Cn)) (hs : w.2.2 k = jm_Qa cA n g) (h0 : 0 ≤ j) (h1 : j < n) (hj : jm_R j) (hd : decode cc pc = .ok (.aaload, 1)) (kk : jm_J E G q w I (pc + 1) lv (va_rf (g j.toNat) :: st)) : jm_J E G q w I pc lv (jm_v j :: .ref (w.2.1 k) :: st) := by
  obtain ⟨l, D, ca⟩ := E
  obtain ⟨p, e, R, s, m, args, below, meth, c, Q, A⟩ := G
  intro H locs ls hI hP hD hS hl
  obtain ⟨hx, hb, hml, hown, hts, -, hK, -⟩ := C
  obtain ⟨i, -, hi⟩ := jm_ws_at (I := I) hk
  rw [hs] at hi
  refine va_aldq hx hb hK hP i t hi ht (jm_i_in h0 h1 hj) hd ?_
  rw [jm_i_nat h0 hj]
  exact kk H locs ls hI hP hD hS hl
theorem jm_fz {z : Int} (h : z = 0 ∨ z = 1) : fits .boolean (jm_v z) = true := by rcases h with rfl | rfl <;> decide +kernel
theorem jm_ifnullY {off : Int} (tgt : Nat) (C : jm_C E G cc nL own rm) (hd : decode cc pc = .ok (.ifnull off, 3)) (ht : (pc : Int) + off = (tgt : Int)) (k : jm_J E G q w I tgt lv st) : jm_J E G q w I pc lv (.null :: st) := by
  obtain ⟨l, D, ca⟩ := E
  obtain ⟨p, e, R, s, m, args, below, meth, c, Q, A⟩ := G
  intro H locs ls hI hP hD hS hl
  exact lv_ifnullN C.1 C.2.1 hd ht (k H locs ls hI hP hD hS hl)
theorem jm_ifnullN {x : Nat} {off : Int} (C : jm_C E G cc nL own rm) (hd : decode cc pc = .ok (.ifnull off, 3)) (k : jm_J E G q w I (pc + 3) lv st) : jm_J E G q w I pc lv (.ref x :: st) := by
  obtain ⟨l, D, ca⟩ := E
  obtain ⟨p, e, R, s, m, args, below, meth, c, Q, A⟩ := G
  intro H locs ls hI hP hD hS hl
  exact lv_ifnull C.1 C.2.1 hd (k H locs ls hI hP hD hS hl)
theorem jm_ifnonnullY {x : Nat} {off : Int} (tgt : Nat) (C : jm_C E G cc nL own rm) (hd : decode cc pc = .ok (.ifnonnull off, 3)) (ht : (pc : Int) + off = (tgt : Int)) (k : jm_J E G q w I tgt lv st) : jm_J E G q w I pc lv (.ref x :: st) := by
  obtain ⟨l, D, ca⟩ := E
  obtain ⟨p, e, R, s, m, args, below, meth, c, Q, A⟩ := G
  intro H locs ls hI hP hD hS hl
  exact lv_ifnonnull C.1 C.2.1 hd ht (k H locs ls hI hP hD hS hl)
theorem jm_aconst_null (C : jm_C E G cc nL own rm) (hd : decode cc pc = .ok (.aconst_null, 1)) (k : jm_J E G q w I (pc + 1) lv (.null :: st)) : jm_J E G q w I pc lv st := by
  obtain ⟨l, D, ca⟩ := E
  obtain ⟨p, e, R, s, m, args, below, meth, c, Q, A⟩ := G
  intro H locs ls hI hP hD hS hl
  exact lv_null C.1 C.2.1 hd (k H locs ls hI hP hD hS hl)
theorem jm_ifnonnullN {off : Int} (C : jm_C E G cc nL own rm) (hd : decode cc pc = .ok (.ifnonnull off, 3)) (k : jm_J E G q w I (pc + 3) lv st) : jm_J E G q w I pc lv (.null :: st) := by
  obtain ⟨l, D, ca⟩ := E
  obtain ⟨p, e, R, s, m, args, below, meth, c, Q, A⟩ := G
  intro H locs ls hI hP hD hS hl
  exact lv_ifnonnullN C.1 C.2.1 hd (k H locs ls hI hP hD hS hl)
theorem jm_aload_nN {n : Fin 4} (C : jm_C E G cc nL own rm) (hd : decode cc pc = .ok (.aload_n n, 1)) (hl0 : jm_lk lv n = some .null) (k : jm_J E G q w I (pc + 1) lv (.null :: st)) : jm_J E G q w I pc lv st := by
  obtain ⟨l, D, ca⟩ := E
  obtain ⟨p, e, R, s, m, args, below, meth, c, Q, A⟩ := G
  intro H locs ls hI hP hD hS hl
  exact lv_aload_nN C.1 C.2.1 hd rfl (jm_h_at hl hl0) (k H locs ls hI hP hD hS hl)
theorem jm_astore_nN {n : Fin 4} (C : jm_C E G cc nL own rm) (hd : decode cc pc = .ok (.astore_n n, 1)) (hn : (n : Nat) < nL) (k : jm_J E G q w I (pc + 1) (((n : Nat), .null) :: lv) st) : jm_J E G q w I pc lv (.null :: st) := by
  obtain ⟨l, D, ca⟩ := E
  obtain ⟨p, e, R, s, m, args, below, meth, c, Q, A⟩ := G
  intro H locs ls hI hP hD hS hl
  exact lv_astore_nN C.1 C.2.1 hd rfl (jm_h_to hl) (by rw [C.2.2.1]; exact hn) rfl (fun ls' hl' => k H locs ls' hI hP hD hS (jm_h_st hl rfl hl'))
end JR
-- contracts: the world stays, the numbers may change
def jm_pre (E : jm_E) (w : jm_W) (I : jm_M) (sz : Nat) : State → Prop := fun U => U.heap.size = sz ∧ (∀ k j, jm_R (I k j)) ∧ va_P E.2.1 vwCl (jm_ws w I) U.heap ∧ va_K E.2.1 vwCl (jm_t E.2.2) U ∧ va_D (fun _ => True) (jm_ws w I) ∧ jm_N (jm_A w sz) U
def jm_B (E : jm_E) (w : jm_W) (sz : Nat) (I : jm_M) (t : State) : Prop := (∀ k j, jm_R (I k j)) ∧ va_P E.2.1 vwCl (jm_ws w I) t.heap ∧ va_D (jm_A w sz) (jm_ws w I)
/-- an int (or boolean) comes back -/
def jm_Mi (E : jm_E) (y : MethodName) (ws : List Cond) (rm : Room) (mc ms : Nat) (w : jm_W) (I : jm_M) (as : List Value) (post : jm_M → Int → Prop) : Prop :=
  ∀ sz : Nat, Met E.1 y ws rm (va_Pc as (jm_pre E w I sz)) (va_Qi (fun (r : Int32) (u : jm_M × Int) => r = jm_i u.2 ∧ post u.1 u.2) (fun u t => jm_B E w sz u.1 t) (jm_A w sz)) mc ms (jm_A w sz)
def jm_Mv (E : jm_E) (y : MethodName) (ws : List Cond) (rm : Room) (mc ms : Nat) (w : jm_W) (I : jm_M) (as : List Value) (post : jm_M → Prop) : Prop :=
  ∀ sz : Nat, Met E.1 y ws rm (va_Pc as (jm_pre E w I sz)) (va_Qv (fun u : jm_M => post u) (fun u t => jm_B E w sz u t) (jm_A w sz)) mc ms (jm_A w sz)
def jm_Mr (E : jm_E) (y : MethodName) (ws : List Cond) (rm : Room) (mc ms : Nat) (w : jm_W) (I : jm_M) (as : List Value) (post : jm_M → Int → Prop) : Prop :=
  ∀ sz : Nat, Met E.1 y ws rm (va_Pc as (jm_pre E w I sz)) (va_Qr (fun u : jm_M × Int => post u.1 u.2) (fun u a t => a = w.2.1 u.2 ∧ jm_B E w sz u.1 t) (jm_A w sz)) mc ms (jm_A w sz)
-- ends
def jm_ri (E : jm_E) (G : jm_G) (cc : ByteArray) (rt : FieldType) (mc ms : Nat) (w : jm_W) (post : jm_M → Int → Prop) : Prop :=
  ∀ (I : jm_M) (pc : Nat) (lv : List (Nat × Value)) (z : Int), decode cc pc = .ok (.ireturn, 1) → narrow rt (jm_v z) = jm_v z → post I z → jm_J E G (mc, ms) w I pc lv [jm_v z]
def jm_rv (E : jm_E) (G : jm_G) (cc : ByteArray) (mc ms : Nat) (w : jm_W) (post : jm_M → Prop) : Prop :=
  ∀ (I : jm_M) (pc : Nat) (lv : List (Nat × Value)), decode cc pc = .ok (.return_, 1) → post I → jm_J E G (mc, ms) w I pc lv []
def jm_rr (E : jm_E) (G : jm_G) (cc : ByteArray) (mc ms : Nat) (w : jm_W) (post : jm_M → Int → Prop) : Prop :=
  ∀ (I : jm_M) (pc : Nat) (lv : List (Nat × Value)) (k : Int), decode cc pc = .ok (.areturn, 1) → post I k → jm_J E G (mc, ms) w I pc lv [.ref (w.2.1 k)]
theorem jm_in_i {E : jm_E} {y : MethodName} {ws : List Cond} {rm : Room} {mc ms maxL : Nat} {w : jm_W} {I : jm_M} {as : List Value} {post : jm_M → Int → Prop} {cc : ByteArray} {rt : FieldType} (own : String) (hy : plainName y.cls = true) (hown : y.cls = own) (hw : ws = Cond.code y cc maxL (some rt) :: jm_W0) (hlen : (lg_sl as).length ≤ maxL) (hcat : ∀ v ∈ as, v.category = 1)
    (body : ∀ G : jm_G, jm_C E G cc maxL own rm → jm_ri E G cc rt mc ms w post → (∀ k j, jm_R (I k j)) → jm_J E G (0, 0) w I 0 (lv_args 0 as) []) : jm_Mi E y ws rm mc ms w I as post := by
  subst hown
  obtain ⟨l, D, ca⟩ := E
  intro sz
  refine Met.ofW (cc := cc) (maxL := maxL) (ret := some rt) hy hw ?_
  intro p e s m args below meth c s₁ B hml hv
  obtain ⟨rfl, hsz, hI, hP, hK, hD0, hN⟩ := hv
  have hts0 := atoms_spec (ws := ws) B.pre
  have hts : ∀ z ∈ jm_W0, z.before as.toArray s = true := fun z hz => hts0 z (by rw [hw]; exact List.mem_cons_of_mem _ hz)
  have hown : s.vm.findClass y.cls = some m.cls := findClass_of_methodNamed B.named
  subst hsz
  have hD : va_D (jm_A w s.heap.size) (jm_ws w I) := by rw [← jm_A_eq w I]; exact hD0.self (sz := s.heap.size)
  have hA : ∀ q : Nat, s.heap.size ≤ q → jm_A w s.heap.size q := fun q h => Or.inr h
  have hS : va_S (jm_A w s.heap.size) s.heap s.heap [] := va_S.rf
  have hl := lv_entry as (n := maxL) hlen
  rw [lg_entry_eq]
  have C : jm_C (l, D, ca) (p, e, rm, s, m, as.toArray, below, meth, c, MQ below (va_Qi (fun (r : Int32) (u : jm_M × Int) => r = jm_i u.2 ∧ post u.1 u.2) (fun u t => jm_B (l, D, ca) w s.heap.size u.1 t) (jm_A w s.heap.size)) as.toArray s mc ms (jm_A w s.heap.size), jm_A w s.heap.size) cc maxL y.cls rm := ⟨B.exec, B.bytes, hml, hown, hts, rfl, hK, hA, B.notSynchronized, hN⟩
  refine body (p, e, rm, s, m, as.toArray, below, meth, c, _, jm_A w s.heap.size) C ?_ hI s.heap [] _ hI hP hD hS (by rw [hml]; exact jm_h_arg hcat hl)
  intro I' pc lv z hd hn hp H locs ls hI' hP' hD' hS' hl'
  exact W.zret B.exec B.bytes B.returns hn (fun t ht hW => ⟨⟨jm_i z, (I', z), rfl, ⟨rfl, hp⟩, hI', by rw [ht]; exact hP', hD'⟩, hS'.F ht⟩) hS'.2.2 hd B.notSynchronized
theorem jm_in_v {E : jm_E} {y : MethodName} {ws : List Cond} {rm : Room} {mc ms maxL : Nat} {w : jm_W} {I : jm_M} {as : List Value} {post : jm_M → Prop} {cc : ByteArray} (own : String) (hy : plainName y.cls = true) (hown : y.cls = own) (hw : ws = Cond.code y cc maxL none :: jm_W0) (hlen : (lg_sl as).length ≤ maxL) (hcat : ∀ v ∈ as, v.category = 1)
    (body : ∀ G : jm_G, jm_C E G cc maxL own rm → jm_rv E G cc mc ms w post → (∀ k j, jm_R (I k j)) → jm_J E G (0, 0) w I 0 (lv_args 0 as) []) : jm_Mv E y ws rm mc ms w I as post := by
  subst hown
  obtain ⟨l, D, ca⟩ := E
  intro sz
  refine Met.ofW (cc := cc) (maxL := maxL) (ret := none) hy hw ?_
  intro p e s m args below meth c s₁ B hml hv
  obtain ⟨rfl, hsz, hI, hP, hK, hD0, hN⟩ := hv
  have hts0 := atoms_spec (ws := ws) B.pre
  have hts : ∀ z ∈ jm_W0, z.before as.toArray s = true := fun z hz => hts0 z (by rw [hw]; exact List.mem_cons_of_mem _ hz)
  have hown : s.vm.findClass y.cls = some m.cls := findClass_of_methodNamed B.named
  subst hsz
  have hD : va_D (jm_A w s.heap.size) (jm_ws w I) := by rw [← jm_A_eq w I]; exact hD0.self (sz := s.heap.size)
  have hA : ∀ q : Nat, s.heap.size ≤ q → jm_A w s.heap.size q := fun q h => Or.inr h
  have hS : va_S (jm_A w s.heap.size) s.heap s.heap [] := va_S.rf
  have hl := lv_entry as (n := maxL) hlen
  rw [lg_entry_eq]
  have C : jm_C (l, D, ca) (p, e, rm, s, m, as.toArray, below, meth, c, MQ below (va_Qv (fun u : jm_M => post u) (fun u t => jm_B (l, D, ca) w s.heap.size u t) (jm_A w s.heap.size)) as.toArray s mc ms (jm_A w s.heap.size), jm_A w s.heap.size) cc maxL y.cls rm := ⟨B.exec, B.bytes, hml, hown, hts, rfl, hK, hA, B.notSynchronized, hN⟩
  refine body (p, e, rm, s, m, as.toArray, below, meth, c, _, jm_A w s.heap.size) C ?_ hI s.heap [] _ hI hP hD hS (by rw [hml]; exact jm_h_arg hcat hl)
  intro I' pc lv hd hp H locs ls hI' hP' hD' hS' hl'
  exact W.vret B.exec B.bytes B.returns (fun t ht hW => ⟨⟨I', rfl, hp, hI', by rw [ht]; exact hP', hD'⟩, hS'.F ht⟩) hS'.2.2 hd B.notSynchronized
theorem jm_in_r {E : jm_E} {y : MethodName} {ws : List Cond} {rm : Room} {mc ms maxL : Nat} {w : jm_W} {I : jm_M} {as : List Value} {post : jm_M → Int → Prop} {cc : ByteArray} {Cn : String} (own : String) (hy : plainName y.cls = true) (hown : y.cls = own) (hw : ws = Cond.code y cc maxL (some (.object Cn)) :: jm_W0) (hlen : (lg_sl as).length ≤ maxL) (hcat : ∀ v ∈ as, v.category = 1)
    (body : ∀ G : jm_G, jm_C E G cc maxL own rm → jm_rr E G cc mc ms w post → (∀ k j, jm_R (I k j)) → jm_J E G (0, 0) w I 0 (lv_args 0 as) []) : jm_Mr E y ws rm mc ms w I as post := by
  subst hown
  obtain ⟨l, D, ca⟩ := E
  intro sz
  refine Met.ofW (cc := cc) (maxL := maxL) (ret := some (.object Cn)) hy hw ?_
  intro p e s m args below meth c s₁ B hml hv
  obtain ⟨rfl, hsz, hI, hP, hK, hD0, hN⟩ := hv
  have hts0 := atoms_spec (ws := ws) B.pre
  have hts : ∀ z ∈ jm_W0, z.before as.toArray s = true := fun z hz => hts0 z (by rw [hw]; exact List.mem_cons_of_mem _ hz)
  have hown : s.vm.findClass y.cls = some m.cls := findClass_of_methodNamed B.named
  subst hsz
  have hD : va_D (jm_A w s.heap.size) (jm_ws w I) := by rw [← jm_A_eq w I]; exact hD0.self (sz := s.heap.size)
  have hA : ∀ q : Nat, s.heap.size ≤ q → jm_A w s.heap.size q := fun q h => Or.inr h
  have hS : va_S (jm_A w s.heap.size) s.heap s.heap [] := va_S.rf
  have hl := lv_entry as (n := maxL) hlen
  rw [lg_entry_eq]
  have C : jm_C (l, D, ca) (p, e, rm, s, m, as.toArray, below, meth, c, MQ below (va_Qr (fun u : jm_M × Int => post u.1 u.2) (fun u a t => a = w.2.1 u.2 ∧ jm_B (l, D, ca) w s.heap.size u.1 t) (jm_A w s.heap.size)) as.toArray s mc ms (jm_A w s.heap.size), jm_A w s.heap.size) cc maxL y.cls rm := ⟨B.exec, B.bytes, hml, hown, hts, rfl, hK, hA, B.notSynchronized, hN⟩
  refine body (p, e, rm, s, m, as.toArray, below, meth, c, _, jm_A w s.heap.size) C ?_ hI s.heap [] _ hI hP hD hS (by rw [hml]; exact jm_h_arg hcat hl)
  intro I' pc lv k hd hp H locs ls hI' hP' hD' hS' hl'
  exact W.aret B.exec B.bytes B.returns (Or.inl ⟨_, rfl⟩) (Or.inr ⟨_, rfl⟩) (fun t ht hW => ⟨⟨(I', k), _, rfl, hp, rfl, hI', by rw [ht]; exact hP', hD'⟩, hS'.F ht⟩) hS'.2.2 hd B.notSynchronized
-- calls: what a call has, made once for each kind; what it goes on with
section JC
variable {E : jm_E} {G : jm_G} {q : Nat × Nat} {w : jm_W} {I : jm_M} {pc : Nat} {lv : List (Nat × Value)} {st : List Value} {cc : ByteArray} {nL : Nat} {own : String} {rm : Room}
/-- the call at pc runs y, its arguments As, whatever the heap, so long as it holds the world -/
def jm_run (E : jm_E) (G : jm_G) (q : Nat × Nat) (w : jm_W) (I : jm_M) (pc : Nat) (st rest : List Value) (Qa : Nat → Array Value → State → Outcome → State → Prop) (a : Array Value) (mc ms : Nat) : Prop :=
  match E, G with
  | (l, D, _), (p, e, R, s, m, args, below, meth, c, _, A) => ∀ (H : Heap) (locs : List Loc) (ls : Array Slot), (∀ k j, jm_R (I k j)) → va_P D vwCl (jm_ws w I) H → va_D A (jm_ws w I) → va_S A s.heap H locs → ls.size = c.maxLocals → va_Run p l e R s m args below meth c H locs q.1 q.2 mc ms (F0 m pc ls st) rest (Qa H.size a) (jm_A w H.size)
theorem jm_blind {E : jm_E} {w : jm_W} {I : jm_M} {sz : Nat} {as : List Value} : FrameBlind (va_Pc as (jm_pre E w I sz)) := by
  intro a U g mk h
  obtain ⟨h0, h1, h2, h3, h4, h5, h6⟩ := h
  have hW : U.WarmedH (U.calling g mk a).vm := State.WarmedH.refl U
  have hS : va_S (jm_A w sz) U.heap (U.calling g mk a).heap [] := va_S.rf
  exact ⟨h0, h1, h2, h3, va_K.moved (u := U) (U := U.calling g mk a) (Vm.Alike.refl U.vm) h4, h5, jm_N_to h6 hW hS (fun _ h => h)⟩
theorem jm_pre_at {E : jm_E} {w : jm_W} {I : jm_M} {s U : State} {H : Heap} {locs : List Loc} {A : Nat → Prop} (hI : ∀ k j, jm_R (I k j)) (hP : va_P E.2.1 vwCl (jm_ws w I) H) (hD : va_D A (jm_ws w I)) (hS : va_S A s.heap H locs) (hK : va_K E.2.1 vwCl (jm_t E.2.2) s) (hA : ∀ q, s.heap.size ≤ q → A q) (hN : jm_N A s) (hU : U.heap = H) (hW : s.WarmedH U.vm) : jm_pre E w I H.size U := by
  subst hU
  refine ⟨rfl, hI, hP, hK.moved hW.alike, hD.weaken (fun _ _ _ _ => trivial), jm_N_to hN hW hS (fun x hx => ?_)⟩
  rcases hx with ⟨k, hk, rfl⟩ | hx
  · obtain ⟨i, -, hi⟩ := jm_ws_at (I := I) hk
    exact hD.2 i _ hi
  · exact hA x (Nat.le_trans hS.1 hx)
theorem jm_runV {y : MethodName} {ws : List Cond} {rmc : Room} {mc ms maxL index n ci : Nat} {bytes : ByteArray} {ret : Option FieldType} {As rest : List Value} {k : Int} {tm : List (Option Value)} {C0 : String} {T : u_T} {N : Nat} {Qc : Nat → Array Value → State → Outcome → State → Prop} (C : jm_C E G cc nL own rm)
    (hM : ∀ sz, Met E.1 y ws rmc (va_Pc (.ref (w.2.1 k) :: As) (jm_pre E w I sz)) (Qc sz) mc ms (jm_A w sz)) (hlnk : Cond.methodLink own index y ∈ jm_W0) (hok : jm_okV C0 y bytes maxL ret n) (hw : ws = Cond.code y bytes maxL ret :: jm_W0) (hr : rmc.cells = mc ∧ rmc.slots = ms) (hR : rmc.frames + 1 ≤ rm.frames ∧ 8 + (maxL + 11) + rmc.locals ≤ rm.locals)
    (hc : vwCl[ci]? = some (C0, T, N)) (hk : k ∈ w.1) (hs : w.2.2 k = jm_O ci tm) (hn : As.length = n) (hst : st = As.reverse ++ .ref (w.2.1 k) :: rest) (hcat : (rest.map fun v => v.category).sum ≤ 8) (hd : decode cc pc = .ok (.invokevirtual index, 3)) (hf : q.1 + mc ≤ rm.cells ∧ q.2 + ms ≤ rm.slots) : jm_run E G q w I pc st rest Qc (Value.ref (w.2.1 k) :: As).toArray mc ms := by
  obtain ⟨l, D, ca⟩ := E
  obtain ⟨p, e, R, s, m, args, below, meth, c, Q, A⟩ := G
  intro H locs ls hI hP hD hS hl
  obtain ⟨hx, hb, hml, hown, hts, rfl, hK, hA, hlk, hN⟩ := C
  obtain ⟨i, -, hi⟩ := jm_ws_at (I := I) hk
  rw [hs] at hi
  exact va_runV (nL := nL) (Ts := jm_W0) (own := own) (C := C0) ⟨hx, hb, hml, hown, hts⟩ (hM H.size) (cwV n hts (by rw [hw]; exact jm_gV hlnk hok) hw hr.1 hr.2 ⟨hok.2.2.2.2.1, hok.2.2.2.2.2.1⟩ hR) ⟨jm_blind, va_recv hK hP hc hi, fun U hU hW => ⟨rfl, jm_pre_at hI hP hD hS hK hA hN hU hW⟩⟩ rfl hn (hl.trans hml) hst (lv_room hcat) hd hf
theorem jm_runS {y : MethodName} {ws : List Cond} {rmc : Room} {mc ms maxL index n : Nat} {bytes : ByteArray} {ret : Option FieldType} {As rest : List Value} {Qc : Nat → Array Value → State → Outcome → State → Prop} (C : jm_C E G cc nL own rm)
    (hM : ∀ sz, Met E.1 y ws rmc (va_Pc As (jm_pre E w I sz)) (Qc sz) mc ms (jm_A w sz)) (hlnk : Cond.methodLink own index y ∈ jm_W0) (hok : jm_okS own y bytes maxL ret n) (hw : ws = Cond.code y bytes maxL ret :: jm_W0) (hr : rmc.cells = mc ∧ rmc.slots = ms) (hR : rmc.frames + 1 ≤ rm.frames ∧ 8 + (maxL + 11) + rmc.locals ≤ rm.locals)
    (hn : As.length = n) (hst : st = As.reverse ++ rest) (hcat : (rest.map fun v => v.category).sum ≤ 8) (hd : decode cc pc = .ok (.invokestatic index, 3)) (hf : q.1 + mc ≤ rm.cells ∧ q.2 + ms ≤ rm.slots) : jm_run E G q w I pc st rest Qc As.toArray mc ms := by
  obtain ⟨l, D, ca⟩ := E
  obtain ⟨p, e, R, s, m, args, below, meth, c, Q, A⟩ := G
  intro H locs ls hI hP hD hS hl
  obtain ⟨hx, hb, hml, hown, hts, rfl, hK, hA, hlk, hN⟩ := C
  exact va_runS (nL := nL) (Ts := jm_W0) (own := own) ⟨hx, hb, hml, hown, hts⟩ (hM H.size) (cwS n hts (by rw [hw]; exact jm_gS hlnk hok) hw hr.1 hr.2 ⟨hok.2.2.2.1, hok.2.2.2.2.1⟩ hR) ⟨jm_blind, fun U hU hW => ⟨rfl, jm_pre_at hI hP hD hS hK hA hN hU hW⟩⟩ rfl hn (hl.trans hml) hst (lv_room hcat) hd hf
theorem jm_runSN {y : MethodName} {ws : List Cond} {rmc : Room} {mc ms maxL index n : Nat} {bytes : ByteArray} {ret : Option FieldType} {As rest : List Value} {host : String} {Qc : Nat → Array Value → State → Outcome → State → Prop} (C : jm_C E G cc nL own rm)
    (hM : ∀ sz, Met E.1 y ws rmc (va_Pc As (jm_pre E w I sz)) (Qc sz) mc ms (jm_A w sz)) (hne : (own, index, y, host) ∈ jm_nest) (hok : jm_okS host y bytes maxL ret n) (hw : ws = Cond.code y bytes maxL ret :: jm_W0) (hr : rmc.cells = mc ∧ rmc.slots = ms) (hR : rmc.frames + 1 ≤ rm.frames ∧ 8 + (maxL + 11) + rmc.locals ≤ rm.locals)
    (hn : As.length = n) (hst : st = As.reverse ++ rest) (hcat : (rest.map fun v => v.category).sum ≤ 8) (hd : decode cc pc = .ok (.invokestatic index, 3)) (hf : q.1 + mc ≤ rm.cells ∧ q.2 + ms ≤ rm.slots) : jm_run E G q w I pc st rest Qc As.toArray mc ms := by
  obtain ⟨l, D, ca⟩ := E
  obtain ⟨p, e, R, s, m, args, below, meth, c, Q, A⟩ := G
  intro H locs ls hI hP hD hS hl
  obtain ⟨hx, hb, hml, hown, hts, rfl, hK, hA, hlk, hN⟩ := C
  have hNe := hN.2.1 _ hne
  exact va_runSN (nL := nL) (Ts := jm_W0) (own := own) ⟨hx, hb, hml, hown, hts⟩ (hM H.size) ⟨va_cnB n hts (by rw [hw]; exact jm_gc hok.2.2.1) hw hr.1 hr.2 hNe (by rw [hok.2.2.2.1]; exact hts _ hok.2.1) hok.2.2.2.2.1 hR, hts _ hok.1, trivial⟩ ⟨jm_blind, fun U hU hW => ⟨rfl, jm_pre_at hI hP hD hS hK hA hN hU hW⟩⟩ rfl hn (hl.trans hml) hst (lv_room hcat) hd hf
theorem jm_callAux {A : Nat → Prop} {s : State} {H : Heap} {locs : List Loc} (hD : va_D A (jm_ws w I)) (hA : ∀ q, s.heap.size ≤ q → A q) (hS : va_S A s.heap H locs) : ∀ x, jm_A w H.size x → A x := fun x hx => by
  rcases hx with ⟨k, hk, rfl⟩ | hx
  · obtain ⟨i, -, hi⟩ := jm_ws_at (I := I) hk
    exact hD.2 i _ hi
  · exact hA x (Nat.le_trans hS.1 hx)
theorem jm_calli {rest : List Value} {a : Array Value} {mc ms : Nat} {post : jm_M → Int → Prop} (C : jm_C E G cc nL own rm) (hr : jm_run E G q w I pc st rest (fun sz => va_Qi (fun (r : Int32) (u : jm_M × Int) => r = jm_i u.2 ∧ post u.1 u.2) (fun u t => jm_B E w sz u.1 t) (jm_A w sz)) a mc ms) (kk : ∀ (I' : jm_M) (z : Int), post I' z → jm_J E G (q.1 + mc, q.2 + ms) w I' (pc + 3) lv (jm_v z :: rest)) : jm_J E G q w I pc lv st := by
  obtain ⟨l, D, ca⟩ := E
  obtain ⟨p, e, R, s, m, args, below, meth, c, Q, A⟩ := G
  intro H locs ls hI hP hD hS hl
  obtain ⟨hx, hb, hml, hown, hts, rfl, hK, hA, hlk, hN⟩ := C
  have hF := jm_callAux hD hA hS
  refine va_calli (hr H locs ls hI hP hD hS hl.1) hS (fun x _ h => hF x h) hF (fun r u t H1 locs1 ht hvm hpost hB hz hkeep hS1 => ?_)
  obtain ⟨rfl, hp⟩ := hpost
  obtain ⟨b1, b2, b3⟩ := hB
  rw [ht] at b2
  exact kk u.1 u.2 hp H1 locs1 ls b1 b2 (jm_ws_D hD rfl rfl) hS1 hl
theorem jm_callv {rest : List Value} {a : Array Value} {mc ms : Nat} {post : jm_M → Prop} (C : jm_C E G cc nL own rm) (hr : jm_run E G q w I pc st rest (fun sz => va_Qv (fun u : jm_M => post u) (fun u t => jm_B E w sz u t) (jm_A w sz)) a mc ms) (kk : ∀ I' : jm_M, post I' → jm_J E G (q.1 + mc, q.2 + ms) w I' (pc + 3) lv rest) : jm_J E G q w I pc lv st := by
  obtain ⟨l, D, ca⟩ := E
  obtain ⟨p, e, R, s, m, args, below, meth, c, Q, A⟩ := G
  intro H locs ls hI hP hD hS hl
  obtain ⟨hx, hb, hml, hown, hts, rfl, hK, hA, hlk, hN⟩ := C
  have hF := jm_callAux hD hA hS
  refine va_callv (hr H locs ls hI hP hD hS hl.1) hS (fun x _ h => hF x h) hF (fun u t H1 locs1 ht hvm hpost hB hz hkeep hS1 => ?_)
  obtain ⟨b1, b2, b3⟩ := hB
  rw [ht] at b2
  exact kk u hpost H1 locs1 ls b1 b2 (jm_ws_D hD rfl rfl) hS1 hl
theorem jm_callr {rest : List Value} {a : Array Value} {mc ms : Nat} {post : jm_M → Int → Prop} (C : jm_C E G cc nL own rm) (hr : jm_run E G q w I pc st rest (fun sz => va_Qr (fun u : jm_M × Int => post u.1 u.2) (fun u a t => a = w.2.1 u.2 ∧ jm_B E w sz u.1 t) (jm_A w sz)) a mc ms) (kk : ∀ (I' : jm_M) (k : Int), post I' k → jm_J E G (q.1 + mc, q.2 + ms) w I' (pc + 3) lv (.ref (w.2.1 k) :: rest)) : jm_J E G q w I pc lv st := by
  obtain ⟨l, D, ca⟩ := E
  obtain ⟨p, e, R, s, m, args, below, meth, c, Q, A⟩ := G
  intro H locs ls hI hP hD hS hl
  obtain ⟨hx, hb, hml, hown, hts, rfl, hK, hA, hlk, hN⟩ := C
  have hF := jm_callAux hD hA hS
  refine va_callr (hr H locs ls hI hP hD hS hl.1) hS (fun x _ h => hF x h) hF (fun u x t H1 locs1 ht hvm hpost hB hz hkeep hS1 => ?_)
  obtain ⟨rfl, b1, b2, b3⟩ := hB
  rw [ht] at b2
  exact kk u.1 u.2 hpost H1 locs1 ls b1 b2 (jm_ws_D hD rfl rfl) hS1 hl
theorem jm_min {a b : Int} {index : Nat} (C : jm_C E G cc nL own rm) (hlink : Cond.methodLink own index Lib.Math.min.name ∈ jm_W0) (hstat : Cond.static Lib.Math.min.name ∈ jm_W0) (hini : Cond.initialized "java/lang/Math" ∈ jm_W0) (hcode : Cond.code Lib.Math.min.name Lib.Math.min.code 2 (some .int) ∈ jm_W0) (hfr : 1 ≤ rm.frames) (hlo : (st.map fun v => v.category).sum + 13 ≤ rm.locals) (hc : q.1 ≤ rm.cells) (hsl : q.2 ≤ rm.slots) (hd : decode cc pc = .ok (.invokestatic index, 3)) (ha : jm_R a) (hb0 : jm_R b) (kk : jm_J E G q w I (pc + 3) lv (jm_v (hk_mn a b) :: st)) : jm_J E G q w I pc lv (jm_v b :: jm_v a :: st) := by
  obtain ⟨l, D, ca⟩ := E
  obtain ⟨p, e, R, s, m, args, below, meth, c, Q, A⟩ := G
  intro H locs ls hI hP hD hS hl
  obtain ⟨hx, hb, hml, hown, hts, rfl, hK, hA, hlk, hN⟩ := C
  refine va_mmin hx hb hl.1.symm hown (hts _ hlink) (hts _ hstat) (hts _ hini) (hts _ hcode) hfr hlo hc hsl hd ?_
  have hk := kk H locs ls hI hP hD hS hl
  have e1 : (if jm_i b < jm_i a then jm_i b else jm_i a) = jm_i (hk_mn a b) := by
    unfold hk_mn
    by_cases h : b < a
    · rw [if_pos h, if_pos ((jm_i_lt hb0 ha).mpr h)]
    · rw [if_neg h, if_neg (fun z => h ((jm_i_lt hb0 ha).mp z))]
  rw [e1]
  exact hk
theorem jm_abs {a : Int} {index : Nat} (C : jm_C E G cc nL own rm) (hlink : Cond.methodLink own index Lib.Math.abs.name ∈ jm_W0) (hstat : Cond.static Lib.Math.abs.name ∈ jm_W0) (hini : Cond.initialized "java/lang/Math" ∈ jm_W0) (hcode : Cond.code Lib.Math.abs.name Lib.Math.abs.code 1 (some .int) ∈ jm_W0) (hfr : 1 ≤ rm.frames) (hlo : (st.map fun v => v.category).sum + 13 ≤ rm.locals) (hc : q.1 ≤ rm.cells) (hsl : q.2 ≤ rm.slots) (hd : decode cc pc = .ok (.invokestatic index, 3)) (ha : jm_R a) (kk : jm_J E G q w I (pc + 3) lv (jm_v (hk_ab a) :: st)) : jm_J E G q w I pc lv (jm_v a :: st) := by
  obtain ⟨l, D, ca⟩ := E
  obtain ⟨p, e, R, s, m, args, below, meth, c, Q, A⟩ := G
  intro H locs ls hI hP hD hS hl
  obtain ⟨hx, hb, hml, hown, hts, rfl, hK, hA, hlk, hN⟩ := C
  refine va_mabs hx hb hl.1.symm hown (hts _ hlink) (hts _ hstat) (hts _ hini) (hts _ hcode) hfr hlo hc hsl hd ?_
  have hk := kk H locs ls hI hP hD hS hl
  have e1 : (if 0 ≤ jm_i a then jm_i a else 0 - jm_i a) = jm_i (hk_ab a) := by
    unfold hk_ab
    by_cases h : 0 ≤ a
    · rw [if_pos h, if_pos ((jm_i_0le ha).mpr h)]
    · rw [if_neg h, if_neg (fun z => h ((jm_i_0le ha).mp z)), ← jm_i_0, jm_i_sub]
      congr 1
      omega
  rw [e1]
  exact hk
theorem jm_cVi {mc ms maxL index n : Nat} {y : MethodName} {ws : List Cond} {rmc : Room} {bytes : ByteArray} {ret : Option FieldType} {As : List Value} {ci : Nat} {k : Int} {tm : List (Option Value)} {C0 : String} {T : u_T} {N : Nat} (rest : List Value) {post : jm_M → Int → Prop} (C : jm_C E G cc nL own rm) (hM : jm_Mi E y ws rmc mc ms w I (.ref (w.2.1 k) :: As) post) (hlnk : Cond.methodLink own index y ∈ jm_W0) (hok : jm_okV C0 y bytes maxL ret n) (hw : ws = Cond.code y bytes maxL ret :: jm_W0) (hr : rmc.cells = mc ∧ rmc.slots = ms) (hR : rmc.frames + 1 ≤ rm.frames ∧ 8 + (maxL + 11) + rmc.locals ≤ rm.locals) (hc : vwCl[ci]? = some (C0, T, N)) (hk : k ∈ w.1) (hs : w.2.2 k = jm_O ci tm) (hn : As.length = n) (hst : st = As.reverse ++ .ref (w.2.1 k) :: rest) (hcat : (rest.map fun v => v.category).sum ≤ 8) (hd : decode cc pc = .ok (.invokevirtual index, 3)) (hf : q.1 + mc ≤ rm.cells ∧ q.2 + ms ≤ rm.slots) (kk : ∀ (I' : jm_M) (z : Int), post I' z → jm_J E G (q.1 + mc, q.2 + ms) w I' (pc + 3) lv (jm_v z :: rest)) : jm_J E G q w I pc lv st :=
  jm_calli C (jm_runV C hM hlnk hok hw hr hR hc hk hs hn hst hcat hd hf) kk
theorem jm_cVv {mc ms maxL index n : Nat} {y : MethodName} {ws : List Cond} {rmc : Room} {bytes : ByteArray} {ret : Option FieldType} {As : List Value} {ci : Nat} {k : Int} {tm : List (Option Value)} {C0 : String} {T : u_T} {N : Nat} (rest : List Value) {post : jm_M → Prop} (C : jm_C E G cc nL own rm) (hM : jm_Mv E y ws rmc mc ms w I (.ref (w.2.1 k) :: As) post) (hlnk : Cond.methodLink own index y ∈ jm_W0) (hok : jm_okV C0 y bytes maxL ret n) (hw : ws = Cond.code y bytes maxL ret :: jm_W0) (hr : rmc.cells = mc ∧ rmc.slots = ms) (hR : rmc.frames + 1 ≤ rm.frames ∧ 8 + (maxL + 11) + rmc.locals ≤ rm.locals) (hc : vwCl[ci]? = some (C0, T, N)) (hk : k ∈ w.1) (hs : w.2.2 k = jm_O ci tm) (hn : As.length = n) (hst : st = As.reverse ++ .ref (w.2.1 k) :: rest) (hcat : (rest.map fun v => v.category).sum ≤ 8) (hd : decode cc pc = .ok (.invokevirtual index, 3)) (hf : q.1 + mc ≤ rm.cells ∧ q.2 + ms ≤ rm.slots) (kk : ∀ (I' : jm_M), post I' → jm_J E G (q.1 + mc, q.2 + ms) w I' (pc + 3) lv rest) : jm_J E G q w I pc lv st :=
  jm_callv C (jm_runV C hM hlnk hok hw hr hR hc hk hs hn hst hcat hd hf) kk
theorem jm_cVr {mc ms maxL index n : Nat} {y : MethodName} {ws : List Cond} {rmc : Room} {bytes : ByteArray} {ret : Option FieldType} {As : List Value} {ci : Nat} {k : Int} {tm : List (Option Value)} {C0 : String} {T : u_T} {N : Nat} (rest : List Value) {post : jm_M → Int → Prop} (C : jm_C E G cc nL own rm) (hM : jm_Mr E y ws rmc mc ms w I (.ref (w.2.1 k) :: As) post) (hlnk : Cond.methodLink own index y ∈ jm_W0) (hok : jm_okV C0 y bytes maxL ret n) (hw : ws = Cond.code y bytes maxL ret :: jm_W0) (hr : rmc.cells = mc ∧ rmc.slots = ms) (hR : rmc.frames + 1 ≤ rm.frames ∧ 8 + (maxL + 11) + rmc.locals ≤ rm.locals) (hc : vwCl[ci]? = some (C0, T, N)) (hk : k ∈ w.1) (hs : w.2.2 k = jm_O ci tm) (hn : As.length = n) (hst : st = As.reverse ++ .ref (w.2.1 k) :: rest) (hcat : (rest.map fun v => v.category).sum ≤ 8) (hd : decode cc pc = .ok (.invokevirtual index, 3)) (hf : q.1 + mc ≤ rm.cells ∧ q.2 + ms ≤ rm.slots) (kk : ∀ (I' : jm_M) (z : Int), post I' z → jm_J E G (q.1 + mc, q.2 + ms) w I' (pc + 3) lv (.ref (w.2.1 z) :: rest)) : jm_J E G q w I pc lv st :=
  jm_callr C (jm_runV C hM hlnk hok hw hr hR hc hk hs hn hst hcat hd hf) kk
theorem jm_cVd {maxL index n : Nat} {y : MethodName} {ws : List Cond} {rmc : Room} {bytes : ByteArray} {ret : Option FieldType} {As : List Value} {ci : Nat} {k : Int} {tm : List (Option Value)} {C0 : String} {T : u_T} {N : Nat} (rest : List Value) {g : jm_M} {post : Int → Prop} (C : jm_C E G cc nL own rm) (hM : jm_Mi E y ws rmc 0 0 w I (.ref (w.2.1 k) :: As) (fun I' z => I' = g ∧ post z)) (hlnk : Cond.methodLink own index y ∈ jm_W0) (hok : jm_okV C0 y bytes maxL ret n) (hw : ws = Cond.code y bytes maxL ret :: jm_W0) (hr : rmc.cells = 0 ∧ rmc.slots = 0) (hR : rmc.frames + 1 ≤ rm.frames ∧ 8 + (maxL + 11) + rmc.locals ≤ rm.locals) (hc : vwCl[ci]? = some (C0, T, N)) (hk : k ∈ w.1) (hs : w.2.2 k = jm_O ci tm) (hn : As.length = n) (hst : st = As.reverse ++ .ref (w.2.1 k) :: rest) (hcat : (rest.map fun v => v.category).sum ≤ 8) (hd : decode cc pc = .ok (.invokevirtual index, 3)) (hf : q.1 + 0 ≤ rm.cells ∧ q.2 + 0 ≤ rm.slots) (kk : ∀ (z : Int), post z → jm_J E G q w g (pc + 3) lv (jm_v z :: rest)) : jm_J E G q w I pc lv st :=
  jm_calli (post := fun I' z => I' = g ∧ post z) C (jm_runV C hM hlnk hok hw hr hR hc hk hs hn hst hcat hd hf) (fun I' z h => by obtain ⟨rfl, h⟩ := h; exact kk z h)
theorem jm_cVu {maxL index n : Nat} {y : MethodName} {ws : List Cond} {rmc : Room} {bytes : ByteArray} {ret : Option FieldType} {As : List Value} {ci : Nat} {k : Int} {tm : List (Option Value)} {C0 : String} {T : u_T} {N : Nat} (rest : List Value) {g : jm_M} (C : jm_C E G cc nL own rm) (hM : jm_Mv E y ws rmc 0 0 w I (.ref (w.2.1 k) :: As) (fun I' => I' = g)) (hlnk : Cond.methodLink own index y ∈ jm_W0) (hok : jm_okV C0 y bytes maxL ret n) (hw : ws = Cond.code y bytes maxL ret :: jm_W0) (hr : rmc.cells = 0 ∧ rmc.slots = 0) (hR : rmc.frames + 1 ≤ rm.frames ∧ 8 + (maxL + 11) + rmc.locals ≤ rm.locals) (hc : vwCl[ci]? = some (C0, T, N)) (hk : k ∈ w.1) (hs : w.2.2 k = jm_O ci tm) (hn : As.length = n) (hst : st = As.reverse ++ .ref (w.2.1 k) :: rest) (hcat : (rest.map fun v => v.category).sum ≤ 8) (hd : decode cc pc = .ok (.invokevirtual index, 3)) (hf : q.1 + 0 ≤ rm.cells ∧ q.2 + 0 ≤ rm.slots) (kk : jm_J E G q w g (pc + 3) lv rest) : jm_J E G q w I pc lv st :=
  jm_callv C (jm_runV C hM hlnk hok hw hr hR hc hk hs hn hst hcat hd hf) (fun I' h => by subst h; exact kk)
theorem jm_cVrd {maxL index n : Nat} {y : MethodName} {ws : List Cond} {rmc : Room} {bytes : ByteArray} {ret : Option FieldType} {As : List Value} {ci : Nat} {k : Int} {tm : List (Option Value)} {C0 : String} {T : u_T} {N : Nat} (rest : List Value) {g : jm_M} {kr : Int} (C : jm_C E G cc nL own rm) (hM : jm_Mr E y ws rmc 0 0 w I (.ref (w.2.1 k) :: As) (fun I' z => I' = g ∧ z = kr)) (hlnk : Cond.methodLink own index y ∈ jm_W0) (hok : jm_okV C0 y bytes maxL ret n) (hw : ws = Cond.code y bytes maxL ret :: jm_W0) (hr : rmc.cells = 0 ∧ rmc.slots = 0) (hR : rmc.frames + 1 ≤ rm.frames ∧ 8 + (maxL + 11) + rmc.locals ≤ rm.locals) (hc : vwCl[ci]? = some (C0, T, N)) (hk : k ∈ w.1) (hs : w.2.2 k = jm_O ci tm) (hn : As.length = n) (hst : st = As.reverse ++ .ref (w.2.1 k) :: rest) (hcat : (rest.map fun v => v.category).sum ≤ 8) (hd : decode cc pc = .ok (.invokevirtual index, 3)) (hf : q.1 + 0 ≤ rm.cells ∧ q.2 + 0 ≤ rm.slots) (kk : jm_J E G q w g (pc + 3) lv (.ref (w.2.1 kr) :: rest)) : jm_J E G q w I pc lv st :=
  jm_callr (post := fun I' z => I' = g ∧ z = kr) C (jm_runV C hM hlnk hok hw hr hR hc hk hs hn hst hcat hd hf) (fun I' z h => by obtain ⟨rfl, rfl⟩ := h; exact kk)
theorem jm_cSi {mc ms maxL index n : Nat} {y : MethodName} {ws : List Cond} {rmc : Room} {bytes : ByteArray} {ret : Option FieldType} {As : List Value} (rest : List Value) {post : jm_M → Int → Prop} (C : jm_C E G cc nL own rm) (hM : jm_Mi E y ws rmc mc ms w I (As) post) (hlnk : Cond.methodLink own index y ∈ jm_W0) (hok : jm_okS own y bytes maxL ret n) (hw : ws = Cond.code y bytes maxL ret :: jm_W0) (hr : rmc.cells = mc ∧ rmc.slots = ms) (hR : rmc.frames + 1 ≤ rm.frames ∧ 8 + (maxL + 11) + rmc.locals ≤ rm.locals) (hn : As.length = n) (hst : st = As.reverse ++ rest) (hcat : (rest.map fun v => v.category).sum ≤ 8) (hd : decode cc pc = .ok (.invokestatic index, 3)) (hf : q.1 + mc ≤ rm.cells ∧ q.2 + ms ≤ rm.slots) (kk : ∀ (I' : jm_M) (z : Int), post I' z → jm_J E G (q.1 + mc, q.2 + ms) w I' (pc + 3) lv (jm_v z :: rest)) : jm_J E G q w I pc lv st :=
  jm_calli C (jm_runS C hM hlnk hok hw hr hR hn hst hcat hd hf) kk
theorem jm_cSv {mc ms maxL index n : Nat} {y : MethodName} {ws : List Cond} {rmc : Room} {bytes : ByteArray} {ret : Option FieldType} {As : List Value} (rest : List Value) {post : jm_M → Prop} (C : jm_C E G cc nL own rm) (hM : jm_Mv E y ws rmc mc ms w I (As) post) (hlnk : Cond.methodLink own index y ∈ jm_W0) (hok : jm_okS own y bytes maxL ret n) (hw : ws = Cond.code y bytes maxL ret :: jm_W0) (hr : rmc.cells = mc ∧ rmc.slots = ms) (hR : rmc.frames + 1 ≤ rm.frames ∧ 8 + (maxL + 11) + rmc.locals ≤ rm.locals) (hn : As.length = n) (hst : st = As.reverse ++ rest) (hcat : (rest.map fun v => v.category).sum ≤ 8) (hd : decode cc pc = .ok (.invokestatic index, 3)) (hf : q.1 + mc ≤ rm.cells ∧ q.2 + ms ≤ rm.slots) (kk : ∀ (I' : jm_M), post I' → jm_J E G (q.1 + mc, q.2 + ms) w I' (pc + 3) lv rest) : jm_J E G q w I pc lv st :=
  jm_callv C (jm_runS C hM hlnk hok hw hr hR hn hst hcat hd hf) kk
theorem jm_cSr {mc ms maxL index n : Nat} {y : MethodName} {ws : List Cond} {rmc : Room} {bytes : ByteArray} {ret : Option FieldType} {As : List Value} (rest : List Value) {post : jm_M → Int → Prop} (C : jm_C E G cc nL own rm) (hM : jm_Mr E y ws rmc mc ms w I (As) post) (hlnk : Cond.methodLink own index y ∈ jm_W0) (hok : jm_okS own y bytes maxL ret n) (hw : ws = Cond.code y bytes maxL ret :: jm_W0) (hr : rmc.cells = mc ∧ rmc.slots = ms) (hR : rmc.frames + 1 ≤ rm.frames ∧ 8 + (maxL + 11) + rmc.locals ≤ rm.locals) (hn : As.length = n) (hst : st = As.reverse ++ rest) (hcat : (rest.map fun v => v.category).sum ≤ 8) (hd : decode cc pc = .ok (.invokestatic index, 3)) (hf : q.1 + mc ≤ rm.cells ∧ q.2 + ms ≤ rm.slots) (kk : ∀ (I' : jm_M) (z : Int), post I' z → jm_J E G (q.1 + mc, q.2 + ms) w I' (pc + 3) lv (.ref (w.2.1 z) :: rest)) : jm_J E G q w I pc lv st :=
  jm_callr C (jm_runS C hM hlnk hok hw hr hR hn hst hcat hd hf) kk
theorem jm_cSd {maxL index n : Nat} {y : MethodName} {ws : List Cond} {rmc : Room} {bytes : ByteArray} {ret : Option FieldType} {As : List Value} (rest : List Value) {g : jm_M} {post : Int → Prop} (C : jm_C E G cc nL own rm) (hM : jm_Mi E y ws rmc 0 0 w I (As) (fun I' z => I' = g ∧ post z)) (hlnk : Cond.methodLink own index y ∈ jm_W0) (hok : jm_okS own y bytes maxL ret n) (hw : ws = Cond.code y bytes maxL ret :: jm_W0) (hr : rmc.cells = 0 ∧ rmc.slots = 0) (hR : rmc.frames + 1 ≤ rm.frames ∧ 8 + (maxL + 11) + rmc.locals ≤ rm.locals) (hn : As.length = n) (hst : st = As.reverse ++ rest) (hcat : (rest.map fun v => v.category).sum ≤ 8) (hd : decode cc pc = .ok (.invokestatic index, 3)) (hf : q.1 + 0 ≤ rm.cells ∧ q.2 + 0 ≤ rm.slots) (kk : ∀ (z : Int), post z → jm_J E G q w g (pc + 3) lv (jm_v z :: rest)) : jm_J E G q w I pc lv st :=
  jm_calli (post := fun I' z => I' = g ∧ post z) C (jm_runS C hM hlnk hok hw hr hR hn hst hcat hd hf) (fun I' z h => by obtain ⟨rfl, h⟩ := h; exact kk z h)
theorem jm_cSu {maxL index n : Nat} {y : MethodName} {ws : List Cond} {rmc : Room} {bytes : ByteArray} {ret : Option FieldType} {As : List Value} (rest : List Value) {g : jm_M} (C : jm_C E G cc nL own rm) (hM : jm_Mv E y ws rmc 0 0 w I (As) (fun I' => I' = g)) (hlnk : Cond.methodLink own index y ∈ jm_W0) (hok : jm_okS own y bytes maxL ret n) (hw : ws = Cond.code y bytes maxL ret :: jm_W0) (hr : rmc.cells = 0 ∧ rmc.slots = 0) (hR : rmc.frames + 1 ≤ rm.frames ∧ 8 + (maxL + 11) + rmc.locals ≤ rm.locals) (hn : As.length = n) (hst : st = As.reverse ++ rest) (hcat : (rest.map fun v => v.category).sum ≤ 8) (hd : decode cc pc = .ok (.invokestatic index, 3)) (hf : q.1 + 0 ≤ rm.cells ∧ q.2 + 0 ≤ rm.slots) (kk : jm_J E G q w g (pc + 3) lv rest) : jm_J E G q w I pc lv st :=
  jm_callv C (jm_runS C hM hlnk hok hw hr hR hn hst hcat hd hf) (fun I' h => by subst h; exact kk)
theorem jm_cSrd {maxL index n : Nat} {y : MethodName} {ws : List Cond} {rmc : Room} {bytes : ByteArray} {ret : Option FieldType} {As : List Value} (rest : List Value) {g : jm_M} {kr : Int} (C : jm_C E G cc nL own rm) (hM : jm_Mr E y ws rmc 0 0 w I (As) (fun I' z => I' = g ∧ z = kr)) (hlnk : Cond.methodLink own index y ∈ jm_W0) (hok : jm_okS own y bytes maxL ret n) (hw : ws = Cond.code y bytes maxL ret :: jm_W0) (hr : rmc.cells = 0 ∧ rmc.slots = 0) (hR : rmc.frames + 1 ≤ rm.frames ∧ 8 + (maxL + 11) + rmc.locals ≤ rm.locals) (hn : As.length = n) (hst : st = As.reverse ++ rest) (hcat : (rest.map fun v => v.category).sum ≤ 8) (hd : decode cc pc = .ok (.invokestatic index, 3)) (hf : q.1 + 0 ≤ rm.cells ∧ q.2 + 0 ≤ rm.slots) (kk : jm_J E G q w g (pc + 3) lv (.ref (w.2.1 kr) :: rest)) : jm_J E G q w I pc lv st :=
  jm_callr (post := fun I' z => I' = g ∧ z = kr) C (jm_runS C hM hlnk hok hw hr hR hn hst hcat hd hf) (fun I' z h => by obtain ⟨rfl, rfl⟩ := h; exact kk)
theorem jm_cNi {mc ms maxL index n : Nat} {y : MethodName} {ws : List Cond} {rmc : Room} {bytes : ByteArray} {ret : Option FieldType} {As : List Value} (rest : List Value) {post : jm_M → Int → Prop} (C : jm_C E G cc nL own rm) (hM : jm_Mi E y ws rmc mc ms w I (As) post) (host : String) (hne : (own, index, y, host) ∈ jm_nest) (hok : jm_okS host y bytes maxL ret n) (hw : ws = Cond.code y bytes maxL ret :: jm_W0) (hr : rmc.cells = mc ∧ rmc.slots = ms) (hR : rmc.frames + 1 ≤ rm.frames ∧ 8 + (maxL + 11) + rmc.locals ≤ rm.locals) (hn : As.length = n) (hst : st = As.reverse ++ rest) (hcat : (rest.map fun v => v.category).sum ≤ 8) (hd : decode cc pc = .ok (.invokestatic index, 3)) (hf : q.1 + mc ≤ rm.cells ∧ q.2 + ms ≤ rm.slots) (kk : ∀ (I' : jm_M) (z : Int), post I' z → jm_J E G (q.1 + mc, q.2 + ms) w I' (pc + 3) lv (jm_v z :: rest)) : jm_J E G q w I pc lv st :=
  jm_calli C (jm_runSN (host := host) C hM hne hok hw hr hR hn hst hcat hd hf) kk
theorem jm_cNv {mc ms maxL index n : Nat} {y : MethodName} {ws : List Cond} {rmc : Room} {bytes : ByteArray} {ret : Option FieldType} {As : List Value} (rest : List Value) {post : jm_M → Prop} (C : jm_C E G cc nL own rm) (hM : jm_Mv E y ws rmc mc ms w I (As) post) (host : String) (hne : (own, index, y, host) ∈ jm_nest) (hok : jm_okS host y bytes maxL ret n) (hw : ws = Cond.code y bytes maxL ret :: jm_W0) (hr : rmc.cells = mc ∧ rmc.slots = ms) (hR : rmc.frames + 1 ≤ rm.frames ∧ 8 + (maxL + 11) + rmc.locals ≤ rm.locals) (hn : As.length = n) (hst : st = As.reverse ++ rest) (hcat : (rest.map fun v => v.category).sum ≤ 8) (hd : decode cc pc = .ok (.invokestatic index, 3)) (hf : q.1 + mc ≤ rm.cells ∧ q.2 + ms ≤ rm.slots) (kk : ∀ (I' : jm_M), post I' → jm_J E G (q.1 + mc, q.2 + ms) w I' (pc + 3) lv rest) : jm_J E G q w I pc lv st :=
  jm_callv C (jm_runSN (host := host) C hM hne hok hw hr hR hn hst hcat hd hf) kk
theorem jm_cNr {mc ms maxL index n : Nat} {y : MethodName} {ws : List Cond} {rmc : Room} {bytes : ByteArray} {ret : Option FieldType} {As : List Value} (rest : List Value) {post : jm_M → Int → Prop} (C : jm_C E G cc nL own rm) (hM : jm_Mr E y ws rmc mc ms w I (As) post) (host : String) (hne : (own, index, y, host) ∈ jm_nest) (hok : jm_okS host y bytes maxL ret n) (hw : ws = Cond.code y bytes maxL ret :: jm_W0) (hr : rmc.cells = mc ∧ rmc.slots = ms) (hR : rmc.frames + 1 ≤ rm.frames ∧ 8 + (maxL + 11) + rmc.locals ≤ rm.locals) (hn : As.length = n) (hst : st = As.reverse ++ rest) (hcat : (rest.map fun v => v.category).sum ≤ 8) (hd : decode cc pc = .ok (.invokestatic index, 3)) (hf : q.1 + mc ≤ rm.cells ∧ q.2 + ms ≤ rm.slots) (kk : ∀ (I' : jm_M) (z : Int), post I' z → jm_J E G (q.1 + mc, q.2 + ms) w I' (pc + 3) lv (.ref (w.2.1 z) :: rest)) : jm_J E G q w I pc lv st :=
  jm_callr C (jm_runSN (host := host) C hM hne hok hw hr hR hn hst hcat hd hf) kk
theorem jm_cNd {maxL index n : Nat} {y : MethodName} {ws : List Cond} {rmc : Room} {bytes : ByteArray} {ret : Option FieldType} {As : List Value} (rest : List Value) {g : jm_M} {post : Int → Prop} (C : jm_C E G cc nL own rm) (hM : jm_Mi E y ws rmc 0 0 w I (As) (fun I' z => I' = g ∧ post z)) (host : String) (hne : (own, index, y, host) ∈ jm_nest) (hok : jm_okS host y bytes maxL ret n) (hw : ws = Cond.code y bytes maxL ret :: jm_W0) (hr : rmc.cells = 0 ∧ rmc.slots = 0) (hR : rmc.frames + 1 ≤ rm.frames ∧ 8 + (maxL + 11) + rmc.locals ≤ rm.locals) (hn : As.length = n) (hst : st = As.reverse ++ rest) (hcat : (rest.map fun v => v.category).sum ≤ 8) (hd : decode cc pc = .ok (.invokestatic index, 3)) (hf : q.1 + 0 ≤ rm.cells ∧ q.2 + 0 ≤ rm.slots) (kk : ∀ (z : Int), post z → jm_J E G q w g (pc + 3) lv (jm_v z :: rest)) : jm_J E G q w I pc lv st :=
  jm_calli (post := fun I' z => I' = g ∧ post z) C (jm_runSN (host := host) C hM hne hok hw hr hR hn hst hcat hd hf) (fun I' z h => by obtain ⟨rfl, h⟩ := h; exact kk z h)
theorem jm_cNu {maxL index n : Nat} {y : MethodName} {ws : List Cond} {rmc : Room} {bytes : ByteArray} {ret : Option FieldType} {As : List Value} (rest : List Value) {g : jm_M} (C : jm_C E G cc nL own rm) (hM : jm_Mv E y ws rmc 0 0 w I (As) (fun I' => I' = g)) (host : String) (hne : (own, index, y, host) ∈ jm_nest) (hok : jm_okS host y bytes maxL ret n) (hw : ws = Cond.code y bytes maxL ret :: jm_W0) (hr : rmc.cells = 0 ∧ rmc.slots = 0) (hR : rmc.frames + 1 ≤ rm.frames ∧ 8 + (maxL + 11) + rmc.locals ≤ rm.locals) (hn : As.length = n) (hst : st = As.reverse ++ rest) (hcat : (rest.map fun v => v.category).sum ≤ 8) (hd : decode cc pc = .ok (.invokestatic index, 3)) (hf : q.1 + 0 ≤ rm.cells ∧ q.2 + 0 ≤ rm.slots) (kk : jm_J E G q w g (pc + 3) lv rest) : jm_J E G q w I pc lv st :=
  jm_callv C (jm_runSN (host := host) C hM hne hok hw hr hR hn hst hcat hd hf) (fun I' h => by subst h; exact kk)
theorem jm_cNrd {maxL index n : Nat} {y : MethodName} {ws : List Cond} {rmc : Room} {bytes : ByteArray} {ret : Option FieldType} {As : List Value} (rest : List Value) {g : jm_M} {kr : Int} (C : jm_C E G cc nL own rm) (hM : jm_Mr E y ws rmc 0 0 w I (As) (fun I' z => I' = g ∧ z = kr)) (host : String) (hne : (own, index, y, host) ∈ jm_nest) (hok : jm_okS host y bytes maxL ret n) (hw : ws = Cond.code y bytes maxL ret :: jm_W0) (hr : rmc.cells = 0 ∧ rmc.slots = 0) (hR : rmc.frames + 1 ≤ rm.frames ∧ 8 + (maxL + 11) + rmc.locals ≤ rm.locals) (hn : As.length = n) (hst : st = As.reverse ++ rest) (hcat : (rest.map fun v => v.category).sum ≤ 8) (hd : decode cc pc = .ok (.invokestatic index, 3)) (hf : q.1 + 0 ≤ rm.cells ∧ q.2 + 0 ≤ rm.slots) (kk : jm_J E G q w g (pc + 3) lv (.ref (w.2.1 kr) :: rest)) : jm_J E G q w I pc lv st :=
  jm_callr (post := fun I' z => I' = g ∧ z = kr) C (jm_runSN (host := host) C hM hne hok hw hr hR hn hst hcat hd hf) (fun I' z h => by obtain ⟨rfl, rfl⟩ := h; exact kk)
end JC
