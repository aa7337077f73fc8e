/-! A SECOND HOUSE: its nodes are 1000 further; what holds of the one holds of the other by another naming -/
def hk_s (k : Int) : Int := if 0 ≤ k ∧ k < 300 then k + 1000 else if 1000 ≤ k ∧ k < 1300 then k - 1000 else k
theorem hk_s_a {k : Int} (h : 0 ≤ k ∧ k < 300) : hk_s k = k + 1000 := if_pos h
theorem hk_s_b {k : Int} (h : 1000 ≤ k ∧ k < 1300) : hk_s k = k - 1000 := by unfold hk_s; rw [if_neg (by omega), if_pos h]
theorem hk_s_c {k : Int} (h : ¬ (0 ≤ k ∧ k < 300)) (h2 : ¬ (1000 ≤ k ∧ k < 1300)) : hk_s k = k := by unfold hk_s; rw [if_neg h, if_neg h2]
theorem hk_ss (k : Int) : hk_s (hk_s k) = k := by
  by_cases h : 0 ≤ k ∧ k < 300
  · rw [hk_s_a h, hk_s_b (by omega)]; omega
  · by_cases h2 : 1000 ≤ k ∧ k < 1300
    · rw [hk_s_b h2, hk_s_a (by omega)]; omega
    · rw [hk_s_c h h2, hk_s_c h h2]
def hk_sw (w : jm_W) : jm_W := (w.1.map hk_s, fun k => w.2.1 (hk_s k), fun k => w.2.2 (hk_s k))
def hk_sI (I : jm_M) : jm_M := fun k => I (hk_s k)
theorem hk_sII (I : jm_M) : hk_sI (hk_sI I) = I := by funext k; unfold hk_sI; rw [hk_ss]
theorem hk_sww (w : jm_W) : hk_sw (hk_sw w) = w := by
  obtain ⟨a, b, c⟩ := w
  unfold hk_sw
  refine Prod.ext ?_ (Prod.ext ?_ ?_)
  · show (a.map hk_s).map hk_s = a
    rw [List.map_map]
    have e : (hk_s ∘ hk_s) = id := funext hk_ss
    rw [e, List.map_id]
  · funext k; show b (hk_s (hk_s k)) = b k; rw [hk_ss]
  · funext k; show c (hk_s (hk_s k)) = c k; rw [hk_ss]
theorem hk_sw_m {w : jm_W} {k : Int} : k ∈ (hk_sw w).1 ↔ hk_s k ∈ w.1 := by
  refine ⟨fun h => ?_, fun h => List.mem_map.mpr ⟨hk_s k, h, hk_ss k⟩⟩
  obtain ⟨z, hz, e⟩ := List.mem_map.mp h
  rw [← e, hk_ss]
  exact hz
theorem hk_s_ws (w : jm_W) (I : jm_M) : jm_ws (hk_sw w) (hk_sI I) = jm_ws w I := by
  unfold jm_ws
  show (w.1.map hk_s).map (jm_f (hk_sw w) (hk_sI I)) = _
  rw [List.map_map]
  refine List.map_congr_left (fun k _ => ?_)
  show (w.2.1 (hk_s (hk_s k)), w.2.2 (hk_s (hk_s k)) (I (hk_s (hk_s k)))) = (w.2.1 k, w.2.2 k (I k))
  rw [hk_ss]
theorem hk_s_wsI (w : jm_W) (I : jm_M) : jm_ws (hk_sw w) I = jm_ws w (hk_sI I) := by
  have h := hk_s_ws w (hk_sI I)
  rw [hk_sII] at h
  exact h
theorem hk_s_A (w : jm_W) (sz : Nat) : jm_A (hk_sw w) sz = jm_A w sz := by
  funext q
  refine propext ⟨fun h => ?_, fun h => ?_⟩
  · rcases h with ⟨k, hk, e⟩ | h
    · exact Or.inl ⟨hk_s k, hk_sw_m.mp hk, e⟩
    · exact Or.inr h
  · rcases h with ⟨k, hk, e⟩ | h
    · refine Or.inl ⟨hk_s k, hk_sw_m.mpr (by rw [hk_ss]; exact hk), ?_⟩
      show w.2.1 (hk_s (hk_s k)) = q
      rw [hk_ss]; exact e
    · exact Or.inr h
theorem hk_s_R {I : jm_M} : (∀ k j, jm_R (hk_sI I k j)) = (∀ k j, jm_R (I k j)) := propext ⟨fun h k j => by have z := h (hk_s k) j; unfold hk_sI at z; rw [hk_ss] at z; exact z, fun h k j => h _ _⟩
theorem hk_s_pre (E : jm_E) (w : jm_W) (I : jm_M) (sz : Nat) : jm_pre E (hk_sw w) (hk_sI I) sz = jm_pre E w I sz := by
  unfold jm_pre
  rw [hk_s_ws, hk_s_A, hk_s_R]
theorem hk_s_B {E : jm_E} {w : jm_W} {I' : jm_M} {sz : Nat} {t : State} (h : jm_B E (hk_sw w) sz I' t) : jm_B E w sz (hk_sI I') t := by
  unfold jm_B at h ⊢
  rw [hk_s_wsI, hk_s_A] at h
  exact ⟨by rw [hk_s_R]; exact h.1, h.2⟩
theorem hk_s_Bc {E : jm_E} {w w' : jm_W} {I' : jm_M} {sz : Nat} {t : State} (h : jm_Bc E (hk_sw w) sz w' I' t) : jm_Bc E w sz (hk_sw w') (hk_sI I') t := by
  unfold jm_Bc at h ⊢
  rw [hk_s_A] at h
  rw [hk_s_ws, hk_s_R]
  exact h
theorem jm_Mi_s {E : jm_E} {y : MethodName} {ws : List Cond} {rm : Room} {mc ms : Nat} {w : jm_W} {I : jm_M} {as : List Value} {post : jm_M → Int → Prop} (h : jm_Mi E y ws rm mc ms (hk_sw w) (hk_sI I) as post) : jm_Mi E y ws rm mc ms w I as (fun I' z => post (hk_sI I') z) := fun sz => by
  have h0 := h sz
  rw [hk_s_pre, hk_s_A] at h0
  refine MetFree.mono h0 (fun _ _ q => q) (fun _ _ _ _ _ _ => trivial) (fun a st o t q0 q => ⟨?_, q.2⟩)
  obtain ⟨⟨⟨r, u, q1, ⟨q2, q3⟩, q4⟩, q5⟩, q6⟩ := q
  exact ⟨⟨r, (hk_sI u.1, u.2), q1, ⟨q2, by show post (hk_sI (hk_sI u.1)) u.2; rw [hk_sII]; exact q3⟩, hk_s_B q4⟩, q5⟩
theorem jm_Mw_s {E : jm_E} {y : MethodName} {ws : List Cond} {rm : Room} {mc ms : Nat} {w : jm_W} {I : jm_M} {as : List Value} {post : jm_W → jm_M → Int → Prop} (h : jm_Mw E y ws rm mc ms (hk_sw w) (hk_sI I) as post) : jm_Mw E y ws rm mc ms w I as (fun w' I' z => post (hk_sw w') (hk_sI I') z) := fun sz => by
  have h0 := h sz
  rw [hk_s_pre, hk_s_A] at h0
  refine MetFree.mono h0 (fun _ _ q => q) (fun _ _ _ _ _ _ => trivial) (fun a st o t q0 q => ⟨?_, q.2⟩)
  obtain ⟨⟨⟨r, u, q1, ⟨q2, q3⟩, q4⟩, q5⟩, q6⟩ := q
  exact ⟨⟨r, (hk_sw u.1, hk_sI u.2.1, u.2.2), q1, ⟨q2, by show post (hk_sw (hk_sw u.1)) (hk_sI (hk_sI u.2.1)) u.2.2; rw [hk_sww, hk_sII]; exact q3⟩, hk_s_Bc q4⟩, q5⟩
theorem jm_Mcx_s {X : State → Prop} {E : jm_E} {y : MethodName} {ws : List Cond} {rm : Room} {mc ms : Nat} {w : jm_W} {I : jm_M} {as : List Value} {post : jm_W → jm_M → Prop} (h : jm_Mcx X E y ws rm mc ms (hk_sw w) (hk_sI I) as post) : jm_Mcx X E y ws rm mc ms w I as (fun w' I' => post (hk_sw w') (hk_sI I')) := fun sz => by
  have h0 := h sz
  rw [hk_s_pre, hk_s_A] at h0
  refine MetFree.mono h0 (fun _ _ q => q) (fun _ _ _ _ _ _ => trivial) (fun a st o t q0 q => ⟨?_, q.2⟩)
  obtain ⟨⟨⟨u, q2, q3, q4⟩, q5⟩, q6⟩ := q
  exact ⟨⟨(hk_sw u.1, hk_sI u.2), q2, by show post (hk_sw (hk_sw u.1)) (hk_sI (hk_sI u.2)); rw [hk_sww, hk_sII]; exact q3, hk_s_Bc q4⟩, q5⟩
theorem hk_sw0 (w : jm_W) : (hk_sw w).2.1 0 = w.2.1 1000 := by
  show w.2.1 (hk_s 0) = _
  rw [hk_s_a (by decide)]
  rfl
theorem jm_Mi_p {E : jm_E} {y : MethodName} {ws : List Cond} {rm : Room} {mc ms : Nat} {w : jm_W} {I : jm_M} {as : List Value} {post : jm_M → Int → Prop} (h : jm_Mi E y ws rm mc ms (hk_sw w) (hk_sI I) (.ref ((hk_sw w).2.1 0) :: as) post) : jm_Mi E y ws rm mc ms w I (.ref (w.2.1 1000) :: as) (fun I' z => post (hk_sI I') z) := by
  rw [hk_sw0] at h
  exact jm_Mi_s h
/-- what leaves the map as it was -/
theorem jm_Mi_q {E : jm_E} {y : MethodName} {ws : List Cond} {rm : Room} {mc ms : Nat} {w : jm_W} {I : jm_M} {as : List Value} {v : Int} (h : jm_Mi E y ws rm mc ms (hk_sw w) (hk_sI I) (.ref ((hk_sw w).2.1 0) :: as) (fun I' z => I' = hk_sI I ∧ z = v)) : jm_Mi E y ws rm mc ms w I (.ref (w.2.1 1000) :: as) (fun I' z => I' = I ∧ z = v) := jm_Mi_w (jm_Mi_p h) (fun I' z q => ⟨by have e := congrArg hk_sI q.1; rw [hk_sII, hk_sII] at e; exact e, q.2⟩)
-- a method that is given the script
def jm_xs (b L : Nat) (xs : Nat → Int32) (A : Nat → Prop) (U : State) : Prop := va_X b L xs U U.heap ∧ b < U.heap.size ∧ ¬ A b
def jm_SC (G : jm_G) (b L : Nat) (xs : Nat → Int32) : Prop := match G with | (_, _, _, s, _, _, _, _, _, _, A) => jm_xs b L xs A s
def jm_MiX (b L : Nat) (xs : Nat → Int32) (E : jm_E) (y : MethodName) (ws : List Cond) (rm : Room) (mc ms : Nat) (w : jm_W) (I : jm_M) (as : List Value) (post : jm_M → Int → Prop) : Prop :=
  ∀ sz : Nat, Met E.1 y ws rm (va_Pc as (fun U => jm_pre E w I sz U ∧ jm_xs b L xs (jm_A w sz) U)) (va_Qi (fun (r : Int32) (u : jm_M × Int) => r = jm_i u.2 ∧ post u.1 u.2) (fun u t => jm_B E w sz u.1 t) (jm_A w sz)) mc ms (jm_A w sz)
theorem jm_in_X {b L : Nat} {xs : Nat → Int32} {E : jm_E} {y : MethodName} {ws : List Cond} {rm : Room} {mc ms maxL : Nat} {w : jm_W} {I : jm_M} {as : List Value} {post : jm_M → Int → Prop} {cc : ByteArray} {rt : FieldType} (own : String) (hy : plainName y.cls = true) (hown : y.cls = own) (hw : ws = Cond.code y cc maxL (some rt) :: jm_W0) (hlen : (lg_sl as).length ≤ maxL) (hcat : ∀ v ∈ as, v.category = 1)
    (body : ∀ G : jm_G, jm_C E G cc maxL own rm → jm_SC G b L xs → jm_ri E G cc rt mc ms w post → (∀ k j, jm_R (I k j)) → jm_J E G (0, 0) w I 0 (lv_args 0 as) []) : jm_MiX b L xs E y ws rm mc ms w I as post := by
  subst hown
  obtain ⟨l, D, ca⟩ := E
  intro sz
  refine Met.ofW (cc := cc) (maxL := maxL) (ret := some rt) hy hw ?_
  intro p e s m args below meth c s₁ B hml hv
  obtain ⟨rfl, ⟨hsz, hI, hP, hK, hD0, hN⟩, hX⟩ := hv
  have hts0 := atoms_spec (ws := ws) B.pre
  have hts : ∀ z ∈ jm_W0, z.before as.toArray s = true := fun z hz => hts0 z (by rw [hw]; exact List.mem_cons_of_mem _ hz)
  have hown : s.vm.findClass y.cls = some m.cls := findClass_of_methodNamed B.named
  subst hsz
  have hD : va_D (jm_A w s.heap.size) (jm_ws w I) := by rw [← jm_A_eq w I]; exact hD0.self (sz := s.heap.size)
  have hA : ∀ q : Nat, s.heap.size ≤ q → jm_A w s.heap.size q := fun q h => Or.inr h
  have hS : va_S (jm_A w s.heap.size) s.heap s.heap [] := va_S.rf
  have hl := lv_entry as (n := maxL) hlen
  rw [lg_entry_eq]
  have C : jm_C (l, D, ca) (p, e, rm, s, m, as.toArray, below, meth, c, MQ below (va_Qi (fun (r : Int32) (u : jm_M × Int) => r = jm_i u.2 ∧ post u.1 u.2) (fun u t => jm_B (l, D, ca) w s.heap.size u.1 t) (jm_A w s.heap.size)) as.toArray s mc ms (jm_A w s.heap.size), jm_A w s.heap.size) cc maxL y.cls rm := ⟨B.exec, B.bytes, hml, hown, hts, rfl, hK, hA, B.notSynchronized, hN⟩
  refine body (p, e, rm, s, m, as.toArray, below, meth, c, _, jm_A w s.heap.size) C hX ?_ hI s.heap [] _ hI hP hD hS (by rw [hml]; exact jm_h_arg hcat hl)
  intro I' pc lv z hd hn hp H locs ls hI' hP' hD' hS' hl'
  exact W.zret B.exec B.bytes B.returns hn (fun t ht hW => ⟨⟨jm_i z, (I', z), rfl, ⟨rfl, hp⟩, hI', by rw [ht]; exact hP', hD'⟩, hS'.F ht⟩) hS'.2.2 hd B.notSynchronized
section JXS
variable {E : jm_E} {G : jm_G} {q : Nat × Nat} {w : jm_W} {I : jm_M} {pc : Nat} {lv : List (Nat × Value)} {st : List Value} {cc : ByteArray} {nL : Nat} {own : String} {rm : Room} {b L : Nat} {xs : Nat → Int32}
theorem jm_blindX {as : List Value} {sz : Nat} : FrameBlind (va_Pc as (fun U => jm_pre E w I sz U ∧ jm_xs b L xs (jm_A w sz) U)) := by
  intro a U g mk h
  obtain ⟨h0, h1, h2, h3, h4⟩ := h
  have z := jm_blind (E := E) (w := w) (I := I) (sz := sz) (as := as) a U g mk ⟨h0, h1⟩
  exact ⟨z.1, z.2, va_X.moved (Vm.Alike.refl U.vm) h2, h3, h4⟩
theorem jm_cSX {mc ms maxL index n : Nat} {y : MethodName} {ws : List Cond} {rmc : Room} {bytes : ByteArray} {ret : Option FieldType} {As : List Value} (rest : List Value) {post : jm_M → Int → Prop} (C : jm_C E G cc nL own rm) (S : jm_SC G b L xs) (hM : jm_MiX b L xs E y ws rmc mc ms w I As post) (hlnk : Cond.methodLink own index y ∈ jm_W0) (hok : jm_okS own y bytes maxL ret n) (hw : ws = Cond.code y bytes maxL ret :: jm_W0) (hr : rmc.cells = mc ∧ rmc.slots = ms) (hR : rmc.frames + 1 ≤ rm.frames ∧ 8 + (maxL + 11) + rmc.locals ≤ rm.locals) (hn : As.length = n) (hst : st = As.reverse ++ rest) (hcat : (rest.map fun v => v.category).sum ≤ 8) (hd : decode cc pc = .ok (.invokestatic index, 3)) (hf : q.1 + mc ≤ rm.cells ∧ q.2 + ms ≤ rm.slots) (kk : ∀ (I' : jm_M) (z : Int), post I' z → jm_J E G (q.1 + mc, q.2 + ms) w I' (pc + 3) lv (jm_v z :: rest)) : jm_J E G q w I pc lv st := by
  refine jm_calli (a := As.toArray) (mc := mc) (ms := ms) (post := post) C ?_ kk
  obtain ⟨l, D, ca⟩ := E
  obtain ⟨p, e, R, s, m, args, below, meth, c, Q, A⟩ := G
  intro H locs ls hI hP hD hS hl
  obtain ⟨hx, hb, hml, hown, hts, rfl, hK, hA, hlk, hN⟩ := C
  obtain ⟨s1, s2, s3⟩ := S
  have hF := jm_callAux hD hA hS
  exact va_runS (nL := nL) (Ts := jm_W0) (own := own) ⟨hx, hb, hml, hown, hts⟩ (hM H.size) (cwS n hts (by rw [hw]; exact jm_gS hlnk hok) hw hr.1 hr.2 ⟨hok.2.2.2.1, hok.2.2.2.2.1⟩ hR) ⟨jm_blindX, fun U hU hW => ⟨rfl, jm_pre_at hI hP hD hS hK hA hN hU hW, by
    rw [hU]
    exact va_X.moved hW.alike (va_X.kept s1 (hS.2.1 b s2 s3)), by rw [hU]; exact Nat.lt_of_lt_of_le s2 hS.1, fun z => s3 (hF b z)⟩⟩ rfl hn (hl.trans hml) hst (lv_room hcat) hd hf
theorem jm_sld {j : Int} (C : jm_C E G cc nL own rm) (S : jm_SC G b L xs) (h0 : 0 ≤ j) (h1 : j < L) (hj : jm_R j) (hd : decode cc pc = .ok (.iaload, 1)) (kk : jm_J E G q w I (pc + 1) lv (jm_v (xs j.toNat).toInt :: st)) : jm_J E G q w I pc lv (jm_v j :: .ref b :: st) := by
  obtain ⟨l, D, ca⟩ := E
  obtain ⟨p, e, R, s, m, args, below, meth, c, Q, A⟩ := G
  intro H locs ls hI hP hD hS hl
  obtain ⟨hx, hb, hml, hown, hts, -, hK, -⟩ := C
  obtain ⟨s1, s2, s3⟩ := S
  refine va_sld hx hb s1 s2 s3 hS (jm_i_in h0 h1 hj) hd ?_
  rw [jm_i_nat h0 hj, show Value.int (xs j.toNat) = jm_v (xs j.toNat).toInt from congrArg Value.int (jm_i_of _).symm]
  exact kk H locs ls hI hP hD hS hl
theorem jm_slen (C : jm_C E G cc nL own rm) (S : jm_SC G b L xs) (hd : decode cc pc = .ok (.arraylength, 1)) (kk : jm_J E G q w I (pc + 1) lv (jm_v L :: st)) : jm_J E G q w I pc lv (.ref b :: st) := by
  obtain ⟨l, D, ca⟩ := E
  obtain ⟨p, e, R, s, m, args, below, meth, c, Q, A⟩ := G
  intro H locs ls hI hP hD hS hl
  obtain ⟨hx, hb, hml, hown, hts, -, hK, -⟩ := C
  obtain ⟨s1, s2, s3⟩ := S
  refine va_slen hx hb s1 s2 s3 hS hd ?_
  rw [show Value.int (Int32.ofNat L) = jm_v L from congrArg Value.int (by first | exact (Int32.ofInt_eq_ofNat).symm | rfl)]
  exact kk H locs ls hI hP hD hS hl
theorem jm_iand {a z : Int} (C : jm_C E G cc nL own rm) (hd : decode cc pc = .ok (.iand, 1)) (kk : jm_J E G q w I (pc + 1) lv (jm_v (jm_i a &&& jm_i z).toInt :: st)) : jm_J E G q w I pc lv (jm_v z :: jm_v a :: st) := by
  obtain ⟨l, D, ca⟩ := E
  obtain ⟨p, e, R, s, m, args, below, meth, c, Q, A⟩ := G
  intro H locs ls hI hP hD hS hl
  refine lv_iand C.1 C.2.1 hd ?_
  rw [show Value.int (jm_i a &&& jm_i z) = jm_v (jm_i a &&& jm_i z).toInt from congrArg Value.int (jm_i_of _).symm]
  exact kk H locs ls hI hP hD hS hl
/-- two numbers that are one are not found to differ -/
theorem jm_icmp_ns {a z : Int} {off : Int} (tgt : Nat) (C : jm_C E G cc nL own rm) (hd : decode cc pc = .ok (.if_icmp .ne off, 3)) (ht : (pc : Int) + off = (tgt : Int)) (e : a = z) (k : jm_J E G q w I (pc + 3) lv st) : jm_J E G q w I pc lv (jm_v z :: jm_v a :: st) := by
  subst e
  have e : jm_v (jm_i a).toInt = jm_v a := congrArg Value.int (jm_i_of _)
  rw [← e]
  exact jm_icmp_ne tgt C hd ht (jm_R_of _) (jm_R_of _) (fun h => absurd rfl h) (fun _ => k)
end JXS
