/-! METHODS THAT THROW, over the map -/
def jm_ns : List String := ["java/lang/RuntimeException", "java/lang/Exception"]
def jm_XC (E : jm_E) (w : jm_W) (sz : Nat) (px : String → jm_M → Prop) : String → State → State → Prop := vx_X (fun _ : jm_M => True) (fun cls u t => px cls u ∧ jm_B E w sz u t) (jm_A w sz)
def jm_Xi (E : jm_E) (y : MethodName) (ws : List Cond) (rm : Room) (mc ms : Nat) (w : jm_W) (I : jm_M) (as : List Value) (post : jm_M → Int → Prop) (px : String → jm_M → Prop) : Prop :=
  ∀ sz : Nat, vx_Met E.1 y ws rm (va_Pc as (jm_pre E w I sz)) (va_Qi (fun (r : Int32) (u : jm_M × Int) => r = jm_i u.2 ∧ post u.1 u.2) (fun u t => jm_B E w sz u.1 t) (jm_A w sz)) (jm_XC E w sz px) mc ms (jm_A w sz)
def jm_Xr (E : jm_E) (y : MethodName) (ws : List Cond) (rm : Room) (mc ms : Nat) (w : jm_W) (I : jm_M) (as : List Value) (post : jm_M → Int → Prop) (px : String → jm_M → Prop) : Prop :=
  ∀ sz : Nat, vx_Met E.1 y ws rm (va_Pc as (jm_pre E w I sz)) (va_Qr (fun u : jm_M × Int => post u.1 u.2) (fun u a t => a = w.2.1 u.2 ∧ jm_B E w sz u.1 t) (jm_A w sz)) (jm_XC E w sz px) mc ms (jm_A w sz)
/-- thrown over a frame -/
def jm_JX (E : jm_E) (G : jm_G) (q : Nat × Nat) (w : jm_W) (I : jm_M) (pc : Nat) (lv : List (Nat × Value)) (st : List Value) (cls : String) : Prop :=
  match E, G with
  | (l, D, _), (p, e, R, s, m, args, below, meth, c, Q, A) => ∀ (H : Heap) (locs : List Loc) (ls : Array Slot) (q9 : Addr) (ce : Cell), (∀ k j, jm_R (I k j)) → va_P D vwCl (jm_ws w I) H → va_D A (jm_ws w I) → va_S A s.heap H locs → jm_h ls c.maxLocals lv → H[q9]? = some ce → ce.vm = .none → s.vm.findClass cls = some ce.cls → vx_W p l e R s m args below meth c H locs q.1 q.2 Q (F0 m pc ls st) q9
/-- a throw of the method's own, told by its class and its text -/
def jm_tx (E : jm_E) (G : jm_G) (cc : ByteArray) (own : String) (rm : Room) (mc ms : Nat) (w : jm_W) (px : String → jm_M → Prop) : Prop :=
  ∀ (q : Nat × Nat) (I : jm_M) (pc : Nat) (lv : List (Nat × Value)) (st : List Value) (cls text : String) (ik is ic : Nat), Bundle.fit cls = true → Cond.classLink own ik cls ∈ jm_W0 → Cond.initialized cls ∈ jm_W0 → (is, text) ∈ jm_str →
    (∀ w ∈ (vx_atS own ic cls jm_ns).filter goodWord, w ∈ jm_W0) → (∀ w ∈ (vx_atS own ic cls jm_ns).filter (fun w => !goodWord w), w ∈ jm_bad) → (∀ w ∈ Cond.classLink own ik cls :: Cond.initialized cls :: vx_atS own ic cls jm_ns, vx_ot w = true) →
    decode cc pc = .ok (.new ik, 3) → decode cc (pc + 3) = .ok (.dup, 1) → decode cc (pc + 4) = .ok (.ldc is, 2) → decode cc (pc + 6) = .ok (.invokespecial ic, 3) → decode cc (pc + 9) = .ok (.athrow, 1) →
    5 < rm.frames → (st.map fun v => v.category).sum + 82 ≤ rm.locals → (q.1 + 1 ≤ rm.cells ∧ q.2 + 6 ≤ rm.slots) → (q.1 + 1 ≤ mc ∧ q.2 + 6 ≤ ms) → px cls I → jm_J E G q w I pc lv st
/-- what a callee threw goes on to the caller -/
def jm_px (E : jm_E) (G : jm_G) (mc ms : Nat) (w : jm_W) (px : String → jm_M → Prop) : Prop :=
  ∀ (q : Nat × Nat) (I : jm_M) (pc : Nat) (lv : List (Nat × Value)) (st : List Value) (cls : String), q.1 ≤ mc ∧ q.2 ≤ ms → px cls I → jm_JX E G q w I pc lv st cls
theorem jm_bad_on : ∀ z ∈ jm_bad, z.onTables = true := by decide +kernel
theorem jm_tx_of {l : Launch} {D : va_G} {ca : Nat → ClassId} {p : Program} {e : Env} {R : Room} {s : State} {m : MethodId} {args : Array Value} {below : List Frame} {meth : Method} {c : Code} {Qc : Array Value → State → Outcome → State → Prop} {w : jm_W} {mc ms : Nat} {px : String → jm_M → Prop} {cc : ByteArray} {nL : Nat} {own : String} {rm : Room} (hl0 : l.stackTraces = false) (ho5 : own = RX5) (ht : ∀ x ∈ c.exceptionTable.toList, False)
    (C : jm_C (l, D, ca) (p, e, R, s, m, args, below, meth, c, vx_MQ below Qc (jm_XC (l, D, ca) w s.heap.size px) args s mc ms (jm_A w s.heap.size), jm_A w s.heap.size) cc nL own rm) : jm_tx (l, D, ca) (p, e, R, s, m, args, below, meth, c, vx_MQ below Qc (jm_XC (l, D, ca) w s.heap.size px) args s mc ms (jm_A w s.heap.size), jm_A w s.heap.size) cc own rm mc ms w px := by
  intro q I pc lv st cls text ik is ic hfit hk hini hstr hat1 hat2 hgood d0 d3 d4 d6 d9 hRf hRl hRc hmc hp
  intro H locs ls hI hP hD hS hl
  obtain ⟨hx, hb, hml, hown, hts, rfl, hK, hA, hlk, hN⟩ := C
  obtain ⟨sa, hsa⟩ := hN.2.2.2.1 _ hstr
  refine vx_throwS (names := jm_ns) hx hb hl0 hown hfit (by decide +kernel) (hts _ hk) (hts _ hini) (by rw [ho5]; exact hsa) (vx_hat (B := jm_bad) (fun z hz => hts _ (hat1 z hz)) hat2 (fun z hz => (hN.1 z hz).use (jm_bad_on z hz))) hgood hN.2.2.2.2.1 hN.2.2.2.2.2 hS hl.1 d0 d3 d4 d6 d9 (fun x hx => (ht x hx).elim) hRf hRl hRc.1 hRc.2 hlk (fun t hvm hz hkeep => ?_) hS.2.2 hmc.1 hmc.2
  refine ⟨I, trivial, ⟨hp, hI, hP.kept (fun k z hk => hkeep _ (vx_lt hP hk)), hD⟩, Nat.le_trans hS.1 hz, fun z h1 h2 => ?_⟩
  rw [hkeep z (Nat.lt_of_lt_of_le h1 hS.1)]
  exact hS.2.1 z h1 h2
theorem jm_px_of {l : Launch} {D : va_G} {ca : Nat → ClassId} {p : Program} {e : Env} {R : Room} {s : State} {m : MethodId} {args : Array Value} {below : List Frame} {meth : Method} {c : Code} {Qc : Array Value → State → Outcome → State → Prop} {w : jm_W} {mc ms : Nat} {px : String → jm_M → Prop} (ht : ∀ x ∈ c.exceptionTable.toList, False) (hlk : meth.locks = false) :
    jm_px (l, D, ca) (p, e, R, s, m, args, below, meth, c, vx_MQ below Qc (jm_XC (l, D, ca) w s.heap.size px) args s mc ms (jm_A w s.heap.size), jm_A w s.heap.size) mc ms w px := by
  intro q I pc lv st cls hq hp
  intro H locs ls q9 ce hI hP hD hS hl hce hcv hcl
  exact vx_out (fun x hx => (ht x hx).elim) hlk hce hcv hcl (fun t hT hvm => ⟨I, trivial, ⟨hp, hI, by rw [hT]; exact hP, hD⟩, hS.F hT⟩) hS.2.2 hq.1 hq.2
theorem jm_xin_i {E : jm_E} {y : MethodName} {ws : List Cond} {rm : Room} {mc ms maxL : Nat} {w : jm_W} {I : jm_M} {as : List Value} {post : jm_M → Int → Prop} {px : String → jm_M → Prop} {cc : ByteArray} {rt : FieldType} (own : String) (hl0 : E.1.stackTraces = false) (ho5 : own = RX5) (hy : plainName y.cls = true) (hown : y.cls = own) (hw : ws = Cond.code y cc maxL (some rt) :: jm_W0) (hlen : (lg_sl as).length ≤ maxL) (hcat : ∀ v ∈ as, v.category = 1)
    (body : ∀ G : jm_G, jm_C E G cc maxL own rm → jm_ri E G cc rt mc ms w post → jm_tx E G cc own rm mc ms w px → jm_px E G mc ms w px → (∀ k j, jm_R (I k j)) → jm_J E G (0, 0) w I 0 (lv_args 0 as) []) : jm_Xi E y ws rm mc ms w I as post px := by
  subst hown
  obtain ⟨l, D, ca⟩ := E
  intro sz
  refine vx_ofW (cc := cc) (maxL := maxL) (ret := some rt) hy hw ?_
  intro p e s m args below meth c s₁ B hml htb hv
  obtain ⟨rfl, hsz, hI, hP, hK, hD0, hN⟩ := hv
  have hts0 := atoms_spec (ws := ws) B.pre
  have hts : ∀ z ∈ jm_W0, z.before as.toArray s = true := fun z hz => hts0 z (by rw [hw]; exact List.mem_cons_of_mem _ hz)
  have hown : s.vm.findClass y.cls = some m.cls := findClass_of_methodNamed B.named
  subst hsz
  have hD : va_D (jm_A w s.heap.size) (jm_ws w I) := by rw [← jm_A_eq w I]; exact hD0.self (sz := s.heap.size)
  have hA : ∀ q : Nat, s.heap.size ≤ q → jm_A w s.heap.size q := fun q h => Or.inr h
  have hS : va_S (jm_A w s.heap.size) s.heap s.heap [] := va_S.rf
  have hl := lv_entry as (n := maxL) hlen
  rw [lg_entry_eq]
  have C : jm_C (l, D, ca) (p, e, rm, s, m, as.toArray, below, meth, c, vx_MQ below (va_Qi (fun (r : Int32) (u : jm_M × Int) => r = jm_i u.2 ∧ post u.1 u.2) (fun u t => jm_B (l, D, ca) w s.heap.size u.1 t) (jm_A w s.heap.size)) (jm_XC (l, D, ca) w s.heap.size px) as.toArray s mc ms (jm_A w s.heap.size), jm_A w s.heap.size) cc maxL y.cls rm := ⟨B.exec, B.bytes, hml, hown, hts, rfl, hK, hA, B.notSynchronized, hN⟩
  refine body (p, e, rm, s, m, as.toArray, below, meth, c, _, jm_A w s.heap.size) C ?_ (jm_tx_of hl0 ho5 htb C) (jm_px_of htb B.notSynchronized) hI s.heap [] _ hI hP hD hS (by rw [hml]; exact jm_h_arg hcat hl)
  intro I' pc lv z hd hn hp H locs ls hI' hP' hD' hS' hl'
  exact vx_ret (W.zret B.exec B.bytes B.returns hn (fun t ht hW => ⟨⟨jm_i z, (I', z), rfl, ⟨rfl, hp⟩, hI', by rw [ht]; exact hP', hD'⟩, hS'.F ht⟩) hS'.2.2 hd B.notSynchronized)
theorem jm_xin_r {E : jm_E} {y : MethodName} {ws : List Cond} {rm : Room} {mc ms maxL : Nat} {w : jm_W} {I : jm_M} {as : List Value} {post : jm_M → Int → Prop} {px : String → jm_M → Prop} {cc : ByteArray} {Cn : String} (own : String) (hl0 : E.1.stackTraces = false) (ho5 : own = RX5) (hy : plainName y.cls = true) (hown : y.cls = own) (hw : ws = Cond.code y cc maxL (some (.object Cn)) :: jm_W0) (hlen : (lg_sl as).length ≤ maxL) (hcat : ∀ v ∈ as, v.category = 1)
    (body : ∀ G : jm_G, jm_C E G cc maxL own rm → jm_rr E G cc mc ms w post → jm_tx E G cc own rm mc ms w px → jm_px E G mc ms w px → (∀ k j, jm_R (I k j)) → jm_J E G (0, 0) w I 0 (lv_args 0 as) []) : jm_Xr E y ws rm mc ms w I as post px := by
  subst hown
  obtain ⟨l, D, ca⟩ := E
  intro sz
  refine vx_ofW (cc := cc) (maxL := maxL) (ret := some (.object Cn)) hy hw ?_
  intro p e s m args below meth c s₁ B hml htb hv
  obtain ⟨rfl, hsz, hI, hP, hK, hD0, hN⟩ := hv
  have hts0 := atoms_spec (ws := ws) B.pre
  have hts : ∀ z ∈ jm_W0, z.before as.toArray s = true := fun z hz => hts0 z (by rw [hw]; exact List.mem_cons_of_mem _ hz)
  have hown : s.vm.findClass y.cls = some m.cls := findClass_of_methodNamed B.named
  subst hsz
  have hD : va_D (jm_A w s.heap.size) (jm_ws w I) := by rw [← jm_A_eq w I]; exact hD0.self (sz := s.heap.size)
  have hA : ∀ q : Nat, s.heap.size ≤ q → jm_A w s.heap.size q := fun q h => Or.inr h
  have hS : va_S (jm_A w s.heap.size) s.heap s.heap [] := va_S.rf
  have hl := lv_entry as (n := maxL) hlen
  rw [lg_entry_eq]
  have C : jm_C (l, D, ca) (p, e, rm, s, m, as.toArray, below, meth, c, vx_MQ below (va_Qr (fun u : jm_M × Int => post u.1 u.2) (fun u a t => a = w.2.1 u.2 ∧ jm_B (l, D, ca) w s.heap.size u.1 t) (jm_A w s.heap.size)) (jm_XC (l, D, ca) w s.heap.size px) as.toArray s mc ms (jm_A w s.heap.size), jm_A w s.heap.size) cc maxL y.cls rm := ⟨B.exec, B.bytes, hml, hown, hts, rfl, hK, hA, B.notSynchronized, hN⟩
  refine body (p, e, rm, s, m, as.toArray, below, meth, c, _, jm_A w s.heap.size) C ?_ (jm_tx_of hl0 ho5 htb C) (jm_px_of htb B.notSynchronized) hI s.heap [] _ hI hP hD hS (by rw [hml]; exact jm_h_arg hcat hl)
  intro I' pc lv k hd hp H locs ls hI' hP' hD' hS' hl'
  exact vx_ret (W.aret B.exec B.bytes B.returns (Or.inl ⟨_, rfl⟩) (Or.inr ⟨_, rfl⟩) (fun t ht hW => ⟨⟨(I', k), _, rfl, hp, rfl, hI', by rw [ht]; exact hP', hD'⟩, hS'.F ht⟩) hS'.2.2 hd B.notSynchronized)
-- calls of a method that may throw, on an object
section JXC
variable {E : jm_E} {G : jm_G} {q : Nat × Nat} {w : jm_W} {I : jm_M} {pc : Nat} {lv : List (Nat × Value)} {st : List Value} {cc : ByteArray} {nL : Nat} {own : String} {rm : Room}
def jm_xrun (E : jm_E) (G : jm_G) (q : Nat × Nat) (w : jm_W) (I : jm_M) (pc : Nat) (st rest : List Value) (Qa : Nat → Array Value → State → Outcome → State → Prop) (XC : Nat → String → State → State → Prop) (a : Array Value) (mc ms : Nat) : Prop :=
  match E, G with
  | (l, D, _), (p, e, R, s, m, args, below, meth, c, _, A) => ∀ (H : Heap) (locs : List Loc) (ls : Array Slot), (∀ k j, jm_R (I k j)) → va_P D vwCl (jm_ws w I) H → va_D A (jm_ws w I) → va_S A s.heap H locs → ls.size = c.maxLocals → vx_Run p l e R s m args below meth c H locs q.1 q.2 mc ms (F0 m pc ls st) rest (Qa H.size a) (XC H.size) (jm_A w H.size)
theorem jm_xrunV {y : MethodName} {ws : List Cond} {rmc : Room} {mc ms maxL index n ci : Nat} {bytes : ByteArray} {ret : Option FieldType} {As rest : List Value} {k : Int} {tm : List (Option Value)} {C0 : String} {T : u_T} {N : Nat} {Qc : Nat → Array Value → State → Outcome → State → Prop} {XC : Nat → String → State → State → Prop} (C : jm_C E G cc nL own rm)
    (hM : ∀ sz, vx_Met E.1 y ws rmc (va_Pc (.ref (w.2.1 k) :: As) (jm_pre E w I sz)) (Qc sz) (XC sz) mc ms (jm_A w sz)) (hlnk : Cond.methodLink own index y ∈ jm_W0) (hok : jm_okV C0 y bytes maxL ret n) (hw : ws = Cond.code y bytes maxL ret :: jm_W0) (hr : rmc.cells = mc ∧ rmc.slots = ms) (hR : rmc.frames + 1 ≤ rm.frames ∧ 8 + (maxL + 11) + rmc.locals ≤ rm.locals)
    (hc : vwCl[ci]? = some (C0, T, N)) (hk : k ∈ w.1) (hs : w.2.2 k = jm_O ci tm) (hn : As.length = n) (hst : st = As.reverse ++ .ref (w.2.1 k) :: rest) (hcat : (rest.map fun v => v.category).sum ≤ 8) (hd : decode cc pc = .ok (.invokevirtual index, 3)) (hf : q.1 + mc ≤ rm.cells ∧ q.2 + ms ≤ rm.slots) : jm_xrun E G q w I pc st rest Qc XC (Value.ref (w.2.1 k) :: As).toArray mc ms := by
  obtain ⟨l, D, ca⟩ := E
  obtain ⟨p, e, R, s, m, args, below, meth, c, Q, A⟩ := G
  intro H locs ls hI hP hD hS hl
  obtain ⟨hx, hb, hml, hown, hts, rfl, hK, hA, hlk, hN⟩ := C
  obtain ⟨i, -, hi⟩ := jm_ws_at (I := I) hk
  rw [hs] at hi
  exact vx_runV (nL := nL) (Ts := jm_W0) (own := own) (C := C0) ⟨hx, hb, hml, hown, hts⟩ (hM H.size) (cwV n hts (by rw [hw]; exact jm_gV hlnk hok) hw hr.1 hr.2 ⟨hok.2.2.2.2.1, hok.2.2.2.2.2.1⟩ hR) ⟨jm_blind, va_recv hK hP hc hi, fun U hU hW => ⟨rfl, jm_pre_at hI hP hD hS hK hA hN hU hW⟩⟩ rfl hn (hl.trans hml) hst (lv_room hcat) hd hf
theorem jm_xcalli {rest : List Value} {a : Array Value} {mc ms : Nat} {post : jm_M → Int → Prop} {px : String → jm_M → Prop} (C : jm_C E G cc nL own rm) (hr : jm_xrun E G q w I pc st rest (fun sz => va_Qi (fun (r : Int32) (u : jm_M × Int) => r = jm_i u.2 ∧ post u.1 u.2) (fun u t => jm_B E w sz u.1 t) (jm_A w sz)) (fun sz => jm_XC E w sz px) a mc ms) (kx : ∀ (cls : String) (I' : jm_M), px cls I' → jm_JX E G (q.1 + mc, q.2 + ms) w I' pc lv rest cls) (kk : ∀ (I' : jm_M) (z : Int), post I' z → jm_J E G (q.1 + mc, q.2 + ms) w I' (pc + 3) lv (jm_v z :: rest)) : jm_J E G q w I pc lv st := by
  obtain ⟨l, D, ca⟩ := E
  obtain ⟨p, e, R, s, m, args, below, meth, c, Q, A⟩ := G
  intro H locs ls hI hP hD hS hl
  obtain ⟨hx, hb, hml, hown, hts, rfl, hK, hA, hlk, hN⟩ := C
  have hF := jm_callAux hD hA hS
  refine vx_calli (hr H locs ls hI hP hD hS hl.1) hS (fun x _ h => hF x h) hF (fun x _ h => hF x h) (fun E9 ce q9 u t H1 locs1 ht hvm _ hB hz hkeep hS1 hce hcv hcl => ?_) (fun r u t H1 locs1 ht hvm hpost hB hz hkeep hS1 => ?_)
  · obtain ⟨hp, b1, b2, b3⟩ := hB
    rw [ht] at b2
    exact kx E9 u hp H1 locs1 ls q9 ce b1 b2 (jm_ws_D hD rfl rfl) hS1 hl hce hcv hcl
  · obtain ⟨rfl, hp⟩ := hpost
    obtain ⟨b1, b2, b3⟩ := hB
    rw [ht] at b2
    exact kk u.1 u.2 hp H1 locs1 ls b1 b2 (jm_ws_D hD rfl rfl) hS1 hl
theorem jm_vxcallr {p : Program} {l : Launch} {e : Env} {R : Room} {s : State} {m : MethodId} {args : Array Value} {below : List Frame} {meth : Method} {c : Code} {H : Heap} {locs : List Loc} {cells slots : Nat} {Q : State → Prop} {mc ms : Nat} {free : Addr → Prop} {A0 A1 : Nat → Prop} {H0 : Heap} {a : Array Value} {pc : Nat} {ls : Array Slot} {st0 rest : List Value} {S SX : Type} {post : S → Prop} {px : SX → Prop} {B : S → Nat → State → Prop} {BX : String → SX → State → Prop} {AX : Nat → Prop} (hr : vx_Run p l e R s m args below meth c H locs cells slots mc ms (F0 m pc ls st0) rest (va_Qr post B A1 a) (vx_X px BX AX) free) (hS : va_S A0 H0 H locs) (hA : ∀ q, q < H.size → A1 q → A0 q) (hf : ∀ q, free q → A0 q) (hAX : ∀ q, q < H.size → AX q → A0 q)
    (kx : ∀ (E : String) (ce : Cell) (q9 : Addr) (u : SX) (t : State) (H1 : Heap) (locs1 : List Loc), t.heap = H1 → s.vm.Alike t.vm → px u → BX E u t → H.size ≤ H1.size → (∀ q : Nat, q < H.size → ¬ AX q → H1[q]? = H[q]?) → va_S A0 H0 H1 locs1 → H1[q9]? = some ce → ce.vm = .none → s.vm.findClass E = some ce.cls → vx_W p l e R s m args below meth c H1 locs1 (cells + mc) (slots + ms) Q (F0 m pc ls rest) q9)
    (kk : ∀ (u : S) (x : Nat) (t : State) (H1 : Heap) (locs1 : List Loc), t.heap = H1 → s.vm.Alike t.vm → post u → B u x t → H.size ≤ H1.size → (∀ q : Nat, q < H.size → ¬ A1 q → H1[q]? = H[q]?) → va_S A0 H0 H1 locs1 → W p l e R s m args below meth c H1 locs1 (cells + mc) (slots + ms) Q (F0 m (pc + 3) ls (.ref x :: rest))) : W p l e R s m args below meth c H locs cells slots Q (F0 m pc ls st0) := by
  intro T hT X
  rcases hr T hT X with ⟨v, st₀, t, T', L, h0, X', hL, e1, e2, ⟨⟨u, x, hv, hp, hb⟩, hF⟩, st⟩ | ⟨q, st₀, t, T', L, E, ce, h0, X', hL, e1, e2, ⟨u, hp, hb, hF⟩, hce, hcv, hcl, st⟩
  · cases hv
    obtain ⟨k1, k2, k3⟩ := vx_keep h0 e1 hS hA hf hL hF
    obtain ⟨t2, a1, b1⟩ := kk u x t T'.heap (locs ++ L) e1.symm (by rw [← e2]; exact X'.warmed.alike) hp hb k1 k2 k3 T' rfl X'
    exact ⟨t2, st t2 a1, b1⟩
  · obtain ⟨k1, k2, k3⟩ := vx_keep h0 e1 hS hAX hf hL hF
    obtain ⟨t2, a1, b1⟩ := kx E ce q u t T'.heap (locs ++ L) e1.symm (by rw [← e2]; exact X'.warmed.alike) hp hb k1 k2 k3 (by rw [e1]; exact hce) hcv hcl T' rfl X'
    exact ⟨t2, st.trans a1, b1⟩
theorem jm_xcallr {rest : List Value} {a : Array Value} {mc ms : Nat} {post : jm_M → Int → Prop} {px : String → jm_M → Prop} (C : jm_C E G cc nL own rm) (hr : jm_xrun E G q w I pc st rest (fun sz => va_Qr (fun u : jm_M × Int => post u.1 u.2) (fun u a t => a = w.2.1 u.2 ∧ jm_B E w sz u.1 t) (jm_A w sz)) (fun sz => jm_XC E w sz px) a mc ms) (kx : ∀ (cls : String) (I' : jm_M), px cls I' → jm_JX E G (q.1 + mc, q.2 + ms) w I' pc lv rest cls) (kk : ∀ (I' : jm_M) (z : Int), post I' z → jm_J E G (q.1 + mc, q.2 + ms) w I' (pc + 3) lv (.ref (w.2.1 z) :: rest)) : jm_J E G q w I pc lv st := by
  obtain ⟨l, D, ca⟩ := E
  obtain ⟨p, e, R, s, m, args, below, meth, c, Q, A⟩ := G
  intro H locs ls hI hP hD hS hl
  obtain ⟨hx, hb, hml, hown, hts, rfl, hK, hA, hlk, hN⟩ := C
  have hF := jm_callAux hD hA hS
  refine jm_vxcallr (hr H locs ls hI hP hD hS hl.1) hS (fun x _ h => hF x h) hF (fun x _ h => hF x h) (fun E9 ce q9 u t H1 locs1 ht hvm _ hB hz hkeep hS1 hce hcv hcl => ?_) (fun u x t H1 locs1 ht hvm hpost hB hz hkeep hS1 => ?_)
  · obtain ⟨hp, b1, b2, b3⟩ := hB
    rw [ht] at b2
    exact kx E9 u hp H1 locs1 ls q9 ce b1 b2 (jm_ws_D hD rfl rfl) hS1 hl hce hcv hcl
  · obtain ⟨rfl, b1, b2, b3⟩ := hB
    rw [ht] at b2
    exact kk u.1 u.2 hpost H1 locs1 ls b1 b2 (jm_ws_D hD rfl rfl) hS1 hl
theorem jm_xcVr {maxL index n : Nat} {y : MethodName} {ws : List Cond} {rmc : Room} {mc ms : Nat} {bytes : ByteArray} {ret : Option FieldType} {As : List Value} {ci : Nat} {k : Int} {tm : List (Option Value)} {C0 : String} {T : u_T} {N : Nat} (rest : List Value) {post : jm_M → Int → Prop} {px : String → jm_M → Prop} (C : jm_C E G cc nL own rm) (hM : jm_Xr E y ws rmc mc ms w I (.ref (w.2.1 k) :: As) post px) (hlnk : Cond.methodLink own index y ∈ jm_W0) (hok : jm_okV C0 y bytes maxL ret n) (hw : ws = Cond.code y bytes maxL ret :: jm_W0) (hr : rmc.cells = mc ∧ rmc.slots = ms) (hR : rmc.frames + 1 ≤ rm.frames ∧ 8 + (maxL + 11) + rmc.locals ≤ rm.locals) (hc : vwCl[ci]? = some (C0, T, N)) (hk : k ∈ w.1) (hs : w.2.2 k = jm_O ci tm) (hn : As.length = n) (hst : st = As.reverse ++ .ref (w.2.1 k) :: rest) (hcat : (rest.map fun v => v.category).sum ≤ 8) (hd : decode cc pc = .ok (.invokevirtual index, 3)) (hf : q.1 + mc ≤ rm.cells ∧ q.2 + ms ≤ rm.slots) (kx : ∀ (cls : String) (I' : jm_M), px cls I' → jm_JX E G (q.1 + mc, q.2 + ms) w I' pc lv rest cls) (kk : ∀ (I' : jm_M) (z : Int), post I' z → jm_J E G (q.1 + mc, q.2 + ms) w I' (pc + 3) lv (.ref (w.2.1 z) :: rest)) : jm_J E G q w I pc lv st :=
  jm_xcallr C (jm_xrunV C hM hlnk hok hw hr hR hc hk hs hn hst hcat hd hf) kx kk
theorem jm_xcVi {maxL index n : Nat} {y : MethodName} {ws : List Cond} {rmc : Room} {mc ms : Nat} {bytes : ByteArray} {ret : Option FieldType} {As : List Value} {ci : Nat} {k : Int} {tm : List (Option Value)} {C0 : String} {T : u_T} {N : Nat} (rest : List Value) {post : jm_M → Int → Prop} {px : String → jm_M → Prop} (C : jm_C E G cc nL own rm) (hM : jm_Xi E y ws rmc mc ms w I (.ref (w.2.1 k) :: As) post px) (hlnk : Cond.methodLink own index y ∈ jm_W0) (hok : jm_okV C0 y bytes maxL ret n) (hw : ws = Cond.code y bytes maxL ret :: jm_W0) (hr : rmc.cells = mc ∧ rmc.slots = ms) (hR : rmc.frames + 1 ≤ rm.frames ∧ 8 + (maxL + 11) + rmc.locals ≤ rm.locals) (hc : vwCl[ci]? = some (C0, T, N)) (hk : k ∈ w.1) (hs : w.2.2 k = jm_O ci tm) (hn : As.length = n) (hst : st = As.reverse ++ .ref (w.2.1 k) :: rest) (hcat : (rest.map fun v => v.category).sum ≤ 8) (hd : decode cc pc = .ok (.invokevirtual index, 3)) (hf : q.1 + mc ≤ rm.cells ∧ q.2 + ms ≤ rm.slots) (kx : ∀ (cls : String) (I' : jm_M), px cls I' → jm_JX E G (q.1 + mc, q.2 + ms) w I' pc lv rest cls) (kk : ∀ (I' : jm_M) (z : Int), post I' z → jm_J E G (q.1 + mc, q.2 + ms) w I' (pc + 3) lv (jm_v z :: rest)) : jm_J E G q w I pc lv st :=
  jm_xcalli C (jm_xrunV C hM hlnk hok hw hr hR hc hk hs hn hst hcat hd hf) kx kk
end JXC
set_option maxRecDepth 100000 in
theorem jw_x1 : ∀ w ∈ (vx_atS RX5 51 "java/lang/IndexOutOfBoundsException" jm_ns).filter goodWord, w ∈ jm_W0 := by decide +kernel
set_option maxRecDepth 100000 in
theorem jw_x2 : ∀ w ∈ (vx_atS RX5 61 "java/lang/IllegalArgumentException" jm_ns).filter goodWord, w ∈ jm_W0 := by decide +kernel
set_option maxRecDepth 100000 in
theorem jw_x3 : ∀ w ∈ (vx_atS RX5 69 "java/lang/IllegalStateException" jm_ns).filter goodWord, w ∈ jm_W0 := by decide +kernel
theorem jw_y1 : ∀ w ∈ (vx_atS RX5 51 "java/lang/IndexOutOfBoundsException" jm_ns).filter (fun w => !goodWord w), w ∈ jm_bad := by decide +kernel
theorem jw_y2 : ∀ w ∈ (vx_atS RX5 61 "java/lang/IllegalArgumentException" jm_ns).filter (fun w => !goodWord w), w ∈ jm_bad := by decide +kernel
theorem jw_y3 : ∀ w ∈ (vx_atS RX5 69 "java/lang/IllegalStateException" jm_ns).filter (fun w => !goodWord w), w ∈ jm_bad := by decide +kernel
theorem jw_z1 : ∀ w ∈ Cond.classLink RX5 47 "java/lang/IndexOutOfBoundsException" :: Cond.initialized "java/lang/IndexOutOfBoundsException" :: vx_atS RX5 51 "java/lang/IndexOutOfBoundsException" jm_ns, vx_ot w = true := by decide +kernel
theorem jw_z2 : ∀ w ∈ Cond.classLink RX5 57 "java/lang/IllegalArgumentException" :: Cond.initialized "java/lang/IllegalArgumentException" :: vx_atS RX5 61 "java/lang/IllegalArgumentException" jm_ns, vx_ot w = true := by decide +kernel
theorem jw_z3 : ∀ w ∈ Cond.classLink RX5 65 "java/lang/IllegalStateException" :: Cond.initialized "java/lang/IllegalStateException" :: vx_atS RX5 69 "java/lang/IllegalStateException" jm_ns, vx_ot w = true := by decide +kernel
set_option maxRecDepth 100000 in
theorem jw_k1 : Cond.classLink RX5 47 "java/lang/IndexOutOfBoundsException" ∈ jm_W0 ∧ Cond.initialized "java/lang/IndexOutOfBoundsException" ∈ jm_W0 := by decide +kernel
set_option maxRecDepth 100000 in
theorem jw_k2 : Cond.classLink RX5 57 "java/lang/IllegalArgumentException" ∈ jm_W0 ∧ Cond.initialized "java/lang/IllegalArgumentException" ∈ jm_W0 := by decide +kernel
set_option maxRecDepth 100000 in
theorem jw_k3 : Cond.classLink RX5 65 "java/lang/IllegalStateException" ∈ jm_W0 ∧ Cond.initialized "java/lang/IllegalStateException" ∈ jm_W0 := by decide +kernel
section JSW
variable {E : jm_E} {G : jm_G} {q : Nat × Nat} {w : jm_W} {I : jm_M} {pc : Nat} {lv : List (Nat × Value)} {st : List Value} {cc : ByteArray} {nL : Nat} {own : String} {rm : Room}
theorem jm_tswO {k dflt lo hi : Int} {offs : Array Int} {len : Nat} (tgt : Nat) (C : jm_C E G cc nL own rm) (hd : decode cc pc = .ok (.tableswitch dflt lo hi offs, len)) (hk : jm_R k) (h : k < lo ∨ hi < k) (ht : (pc : Int) + dflt = (tgt : Int)) (kk : jm_J E G q w I tgt lv st) : jm_J E G q w I pc lv (jm_v k :: st) := by
  obtain ⟨l, D, ca⟩ := E
  obtain ⟨p, e, R, s, m, args, below, meth, c, Q, A⟩ := G
  intro H locs ls hI hP hD hS hl
  exact lv_tableOut C.1 C.2.1 hd (by rw [jm_i_toInt hk]; exact h) ht (kk H locs ls hI hP hD hS hl)
theorem jm_tswI {k dflt lo hi : Int} {offs : Array Int} {len : Nat} (tgt : Nat) (j off : Int) (C : jm_C E G cc nL own rm) (hd : decode cc pc = .ok (.tableswitch dflt lo hi offs, len)) (hk : k = j) (hj : jm_R j) (h1 : ¬ j < lo) (h2 : ¬ hi < j) (ho : offs[(j - lo).toNat]? = some off) (ht : (pc : Int) + off = (tgt : Int)) (kk : jm_J E G q w I tgt lv st) : jm_J E G q w I pc lv (jm_v k :: st) := by
  subst hk
  obtain ⟨l, D, ca⟩ := E
  obtain ⟨p, e, R, s, m, args, below, meth, c, Q, A⟩ := G
  intro H locs ls hI hP hD hS hl
  exact lv_tableIn C.1 C.2.1 hd (by rw [jm_i_toInt hj]; exact h1) (by rw [jm_i_toInt hj]; exact h2) (by rw [jm_i_toInt hj]; exact ho) ht (kk H locs ls hI hP hD hS hl)
end JSW
abbrev jm_rx (r : Room) (a b : Nat) : Room := { r with cells := a, slots := b }
abbrev rxX5_gameOf : Room := jm_rx rmX5_gameOf 1 6
abbrev rxX5_sheetOf : Room := jm_rx rmX5_sheetOf 1 6
abbrev rxX5_teamOf : Room := jm_rx rmX5_teamOf 1 6
abbrev rxX5_crew : Room := jm_rx rmX5_crew 2 12
abbrev rxX5_shoot : Room := jm_rx rmX5_shoot 2 12
abbrev rxX5_pass : Room := jm_rx rmX5_pass 2 12
abbrev rxX5_ofSheet : Room := jm_rx rmX5_ofSheet 2 12
abbrev rxX5_wear : Room := jm_rx rmX5_wear 2 12
abbrev rxX5_ofGame : Room := jm_rx rmX5_ofGame 2 12
abbrev rxX5_stone : Room := jm_rx rmX5_stone 2 12
abbrev rxX5_wouldScore : Room := jm_rx rmX5_wouldScore 2 12
abbrev rxX5_wouldScoreAnew : Room := jm_rx rmX5_wouldScoreAnew 2 12
abbrev rxX5_tries : Room := jm_rx rmX5_tries 2 12
abbrev rxX5_advice : Room := jm_rx rmX5_advice 2 12
abbrev rxX5_standing : Room := jm_rx rmX5_standing 2 12
abbrev rxX5_ofTeam : Room := jm_rx rmX5_ofTeam 2 12
/-- who stands at a place, of the class's counts -/
def hk_std (I : jm_M) (p : Int) : Nat → Int
  | 0 => -1
  | n + 1 => if hk_tah I n 6 = p then (n : Int) else hk_std I p n
