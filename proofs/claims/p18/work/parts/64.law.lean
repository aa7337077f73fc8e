/-! THE LAW'S OWN CALLS: what is thrown is caught -/
def jm_tb (G : jm_G) (hh : List (Nat × Nat × Nat × Nat)) : Prop := match G with | (_, _, _, _, _, _, _, _, c, _, _) => c.exceptionTable.toList = tableOf hh
def jm_okW (C0 : String) (y : MethodName) (bytes : ByteArray) (maxL : Nat) (ret : Option FieldType) (hh : List (Nat × Nat × Nat × Nat)) (n : Nat) : Prop := Cond.static y ∈ jm_W0 ∧ Cond.initialized C0 ∈ jm_W0 ∧ Cond.codeWith y bytes maxL ret hh ∈ jm_W0 ∧ y.cls = C0 ∧ jm_nm y n ∧ plainName y.cls = true
theorem jm_gw {y : MethodName} {bytes : ByteArray} {maxL : Nat} {ret : Option FieldType} {hh : List (Nat × Nat × Nat × Nat)} (h : Cond.codeWith y bytes maxL ret hh ∈ jm_W0) : GoodIn jm_W0 (Cond.codeWith y bytes maxL ret hh :: jm_W0) := fun z hz => (List.mem_cons.mp hz).elim (fun q => by rw [q]; exact ⟨h, jm_W0_good _ h⟩) (fun q => ⟨q, jm_W0_good _ q⟩)
theorem jm_gW {own : String} {index : Nat} {y : MethodName} {bytes : ByteArray} {maxL n : Nat} {ret : Option FieldType} {hh : List (Nat × Nat × Nat × Nat)} (hl : Cond.methodLink own index y ∈ jm_W0) (h : jm_okW own y bytes maxL ret hh n) : GoodIn jm_W0 (va_wsS own index y (Cond.codeWith y bytes maxL ret hh :: jm_W0)) := jm_gl (List.forall_mem_cons.mpr ⟨hl, List.forall_mem_cons.mpr ⟨h.1, List.forall_mem_cons.mpr ⟨by rw [h.2.2.2.1]; exact h.2.1, fun _ q => absurd q List.not_mem_nil⟩⟩⟩) (jm_gw h.2.2.1)
theorem jm_in_w {E : jm_E} {y : MethodName} {ws : List Cond} {rm : Room} {mc ms maxL : Nat} {w : jm_W} {I : jm_M} {as : List Value} {post : jm_M → Int → Prop} {cc : ByteArray} {rt : FieldType} {hh : List (Nat × Nat × Nat × Nat)} (own : String) (hy : plainName y.cls = true) (hown : y.cls = own) (hw : ws = Cond.codeWith y cc maxL (some rt) hh :: jm_W0) (hlen : (lg_sl as).length ≤ maxL) (hcat : ∀ v ∈ as, v.category = 1)
    (body : ∀ G : jm_G, jm_C E G cc maxL own rm → jm_tb G hh → jm_ri E G cc rt mc ms w post → (∀ k j, jm_R (I k j)) → jm_J E G (0, 0) w I 0 (lv_args 0 as) []) : jm_Mi E y ws rm mc ms w I as post := by
  subst hown
  obtain ⟨l, D, ca⟩ := E
  intro sz
  refine va_MetW (cc := cc) (maxL := maxL) (ret := some rt) (hh := hh) hy hw ?_
  intro p e s m args below meth c s₁ B hml hv
  obtain ⟨rfl, hsz, hI, hP, hK, hD0, hN⟩ := hv
  have hts0 := atoms_spec (ws := ws) B.pre
  have htab := vx_table (x := y) B (hts0 _ (by rw [hw]; exact List.mem_cons_self))
  have hts : ∀ z ∈ jm_W0, z.before as.toArray s = true := fun z hz => hts0 z (by rw [hw]; exact List.mem_cons_of_mem _ hz)
  have hown : s.vm.findClass y.cls = some m.cls := findClass_of_methodNamed B.named
  subst hsz
  have hD : va_D (jm_A w s.heap.size) (jm_ws w I) := by rw [← jm_A_eq w I]; exact hD0.self (sz := s.heap.size)
  have hA : ∀ q : Nat, s.heap.size ≤ q → jm_A w s.heap.size q := fun q h => Or.inr h
  have hS : va_S (jm_A w s.heap.size) s.heap s.heap [] := va_S.rf
  have hl := lv_entry as (n := maxL) hlen
  rw [lg_entry_eq]
  have C : jm_C (l, D, ca) (p, e, rm, s, m, as.toArray, below, meth, c, MQ below (va_Qi (fun (r : Int32) (u : jm_M × Int) => r = jm_i u.2 ∧ post u.1 u.2) (fun u t => jm_B (l, D, ca) w s.heap.size u.1 t) (jm_A w s.heap.size)) as.toArray s mc ms (jm_A w s.heap.size), jm_A w s.heap.size) cc maxL y.cls rm := ⟨B.exec, B.bytes, hml, hown, hts, rfl, hK, hA, B.notSynchronized, hN⟩
  refine body (p, e, rm, s, m, as.toArray, below, meth, c, _, jm_A w s.heap.size) C htab ?_ hI s.heap [] _ hI hP hD hS (by rw [hml]; exact jm_h_arg hcat hl)
  intro I' pc lv z hd hn hp H locs ls hI' hP' hD' hS' hl'
  exact W.zret B.exec B.bytes B.returns hn (fun t ht hW => ⟨⟨jm_i z, (I', z), rfl, ⟨rfl, hp⟩, hI', by rw [ht]; exact hP', hD'⟩, hS'.F ht⟩) hS'.2.2 hd B.notSynchronized
section JWR
variable {E : jm_E} {G : jm_G} {q : Nat × Nat} {w : jm_W} {I : jm_M} {pc : Nat} {lv : List (Nat × Value)} {st : List Value} {cc : ByteArray} {nL : Nat} {own : String} {rm : Room}
theorem jm_catch {hh : List (Nat × Nat × Nat × Nat)} {cls : String} (pre : List ExceptionTableEntry) (x : ExceptionTableEntry) (suf : List ExceptionTableEntry) (C : jm_C E G cc nL own rm) (tb : jm_tb G hh) (hsplit : tableOf hh = pre ++ x :: suf) (hpass : ∀ z ∈ pre, z.catchType ≠ 0 ∧ ∃ nm : String, Cond.classLink own z.catchType nm ∈ jm_W0 ∧ (cls, nm) ∈ jm_nc) (hx : covers x pc = true) (h0 : x.catchType ≠ 0) (hlink : Cond.classLink own x.catchType cls ∈ jm_W0) (hcast : Cond.castable cls cls ∈ jm_bad)
    (kk : ∀ a : Nat, jm_J E G q w I x.handlerPc lv [.ref a]) : jm_JX E G q w I pc lv st cls := by
  obtain ⟨l, D, ca⟩ := E
  obtain ⟨p, e, R, s, m, args, below, meth, c, Q, A⟩ := G
  intro H locs ls q9 ce hI hP hD hS hl hce hcv hcl
  obtain ⟨hx0, hb, hml, hown, hts, rfl, hK, hA, hlk, hN⟩ := C
  exact vx_catch hown pre x suf (tb.trans hsplit) (fun z hz => Or.inr ⟨(hpass z hz).1, by obtain ⟨nm, h1, h2⟩ := (hpass z hz).2; exact ⟨nm, hts _ h1, hN.2.2.1 _ h2⟩⟩) hx h0 (hts _ hlink) ((hN.1 _ hcast).use (jm_bad_on _ hcast)) hce hcv hcl (kk q9 H locs ls hI hP hD hS hl)
theorem jm_runW {y : MethodName} {ws : List Cond} {rmc : Room} {mc ms maxL index n : Nat} {bytes : ByteArray} {ret : Option FieldType} {hh : List (Nat × Nat × Nat × Nat)} {As rest : List Value} {Qc : Nat → Array Value → State → Outcome → State → Prop} (C : jm_C E G cc nL own rm)
    (hM : ∀ sz, Met E.1 y ws rmc (va_Pc As (jm_pre E w I sz)) (Qc sz) mc ms (jm_A w sz)) (hlnk : Cond.methodLink own index y ∈ jm_W0) (hok : jm_okW own y bytes maxL ret hh n) (hw : ws = Cond.codeWith y bytes maxL ret hh :: jm_W0) (hr : rmc.cells = mc ∧ rmc.slots = ms) (hR : rmc.frames + 1 ≤ rm.frames ∧ 8 + (maxL + 11) + rmc.locals ≤ rm.locals)
    (hn : As.length = n) (hst : st = As.reverse ++ rest) (hcat : (rest.map fun v => v.category).sum ≤ 8) (hd : decode cc pc = .ok (.invokestatic index, 3)) (hf : q.1 + mc ≤ rm.cells ∧ q.2 + ms ≤ rm.slots) : jm_run E G q w I pc st rest Qc As.toArray mc ms := by
  obtain ⟨l, D, ca⟩ := E
  obtain ⟨p, e, R, s, m, args, below, meth, c, Q, A⟩ := G
  intro H locs ls hI hP hD hS hl
  obtain ⟨hx, hb, hml, hown, hts, rfl, hK, hA, hlk, hN⟩ := C
  exact vx_runSW (nL := nL) (Ts := jm_W0) (own := own) (hh := hh) ⟨hx, hb, hml, hown, hts⟩ (hM H.size) (vx_cwSW n hts (by rw [hw]; exact jm_gW hlnk hok) hw hr.1 hr.2 hok.2.2.2.2.1 hR) ⟨jm_blind, fun U hU hW => ⟨rfl, jm_pre_at hI hP hD hS hK hA hN hU hW⟩⟩ rfl hn (hl.trans hml) hst (lv_room hcat) hd hf
theorem jm_cWi {mc ms maxL index n : Nat} {y : MethodName} {ws : List Cond} {rmc : Room} {bytes : ByteArray} {ret : Option FieldType} {hh : List (Nat × Nat × Nat × Nat)} {As : List Value} (rest : List Value) {post : jm_M → Int → Prop} (C : jm_C E G cc nL own rm) (hM : jm_Mi E y ws rmc mc ms w I (As) post) (hlnk : Cond.methodLink own index y ∈ jm_W0) (hok : jm_okW own y bytes maxL ret hh n) (hw : ws = Cond.codeWith y bytes maxL ret hh :: jm_W0) (hr : rmc.cells = mc ∧ rmc.slots = ms) (hR : rmc.frames + 1 ≤ rm.frames ∧ 8 + (maxL + 11) + rmc.locals ≤ rm.locals) (hn : As.length = n) (hst : st = As.reverse ++ rest) (hcat : (rest.map fun v => v.category).sum ≤ 8) (hd : decode cc pc = .ok (.invokestatic index, 3)) (hf : q.1 + mc ≤ rm.cells ∧ q.2 + ms ≤ rm.slots) (kk : ∀ (I' : jm_M) (z : Int), post I' z → jm_J E G (q.1 + mc, q.2 + ms) w I' (pc + 3) lv (jm_v z :: rest)) : jm_J E G q w I pc lv st :=
  jm_calli C (jm_runW C hM hlnk hok hw hr hR hn hst hcat hd hf) kk
end JWR
set_option maxRecDepth 100000 in
theorem jw_L_RL39 : Cond.classLink RL 39 "java/lang/IndexOutOfBoundsException" ∈ jm_W0 := jm_in 170 rfl rfl
set_option maxRecDepth 100000 in
theorem jw_L_RL41 : Cond.classLink RL 41 "java/lang/IllegalArgumentException" ∈ jm_W0 := jm_in 171 rfl rfl
set_option maxRecDepth 100000 in
theorem jw_L_RL43 : Cond.classLink RL 43 "java/lang/IllegalStateException" ∈ jm_W0 := jm_in 172 rfl rfl
theorem jm_b1 : Cond.castable "java/lang/IndexOutOfBoundsException" "java/lang/IndexOutOfBoundsException" ∈ jm_bad := List.mem_of_getElem? (i := 0) rfl
theorem jm_b2 : Cond.castable "java/lang/IllegalArgumentException" "java/lang/IllegalArgumentException" ∈ jm_bad := List.mem_of_getElem? (i := 1) rfl
theorem jm_b3 : Cond.castable "java/lang/IllegalStateException" "java/lang/IllegalStateException" ∈ jm_bad := List.mem_of_getElem? (i := 2) rfl
theorem jm_c21 : ("java/lang/IllegalArgumentException", "java/lang/IndexOutOfBoundsException") ∈ jm_nc := List.mem_of_getElem? (i := 0) rfl
theorem jm_c31 : ("java/lang/IllegalStateException", "java/lang/IndexOutOfBoundsException") ∈ jm_nc := List.mem_of_getElem? (i := 1) rfl
theorem jm_c32 : ("java/lang/IllegalStateException", "java/lang/IllegalArgumentException") ∈ jm_nc := List.mem_of_getElem? (i := 2) rfl
