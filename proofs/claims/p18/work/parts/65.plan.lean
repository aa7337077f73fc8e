/-! the house's picture where the world has grown; a game is planned -/
theorem jm_hgs {w w' : jm_W} {b : Int} (h : w'.2.1 = w.2.1) : hk_gs w' b = hk_gs w b := by
  unfold hk_gs
  rw [h]
/-- the house's rows told anew where the world has grown -/
theorem jm_renorm {E : jm_E} {G : jm_G} {q : Nat × Nat} {w w' : jm_W} {I : jm_M} {pc : Nat} {lv : List (Nat × Value)} {st : List Value} {ng k' : Int} {P : Int → Prop} (h : jm_X5 E w ng) (g : jm_gr w w' k' P) (hk : ∀ z, z ∈ w.1 → z ≠ k')
    (kk : ∀ wa w'' : jm_W, jm_gr w' wa 1 (fun _ => False) → jm_gr wa w'' 2 (fun _ => False) → w''.2.1 = w'.2.1 → w''.1 = w'.1 → jm_X5 E w'' ng → jm_J E G q w'' I pc lv st) : jm_J E G q w' I pc lv st := by
  obtain ⟨⟨a1, a2⟩, ⟨b1, b2⟩, ⟨c1, c2⟩, ⟨d1, d2⟩, e, s, t, gg, n1, n2⟩ := h
  have S : ∀ z, z ∈ w.1 → z ∈ w'.1 ∧ w'.2.1 z = w.2.1 z ∧ w'.2.2 z = w.2.2 z := fun z hz => ⟨(g.1 z hz).1, (g.1 z hz).2.1, (g.1 z hz).2.2 (hk z hz)⟩
  refine jm_nq (k := 1) (g' := hk_gs w' 10) ((S 1 b1).2.2.trans b2) (fun i hi => ?_) ?_
  · unfold hk_gs
    rw [(S _ (s i (by omega) (by omega)).1).2.1]
  refine jm_gen (fun wa hwa => ?_)
  have ga : jm_gr w' wa 1 (fun _ => False) := by rw [hwa]; exact jm_gr_sh
  have ea : wa.2.1 = w'.2.1 := by rw [hwa]; rfl
  refine jm_nq (k := 2) (g' := hk_gs wa 20) (((ga.1 2 (S 2 c1).1).2.2 (by decide)).trans ((S 2 c1).2.2.trans c2)) (fun i hi => ?_) ?_
  · unfold hk_gs
    rw [ea, (S _ (t i (by omega) (by omega)).1).2.1]
  refine jm_gen (fun wb hwb => ?_)
  have gb : jm_gr wa wb 2 (fun _ => False) := by rw [hwb]; exact jm_gr_sh
  have eb : wb.2.1 = w'.2.1 := by rw [hwb]; exact ea
  refine kk wa wb ga gb eb (by rw [hwb, hwa]; rfl) ?_
  have R : ∀ z, z ∈ w.1 → z ≠ 1 → z ≠ 2 → z ∈ wb.1 ∧ wb.2.1 z = w.2.1 z ∧ wb.2.2 z = w.2.2 z := fun z hz h1 h2 => ⟨(gb.1 z (ga.1 z (S z hz).1).1).1, by rw [eb]; exact (S z hz).2.1, ((gb.1 z (ga.1 z (S z hz).1).1).2.2 h2).trans (((ga.1 z (S z hz).1).2.2 h1).trans (S z hz).2.2)⟩
  have A : ∀ z, z ∈ w.1 → wb.2.1 z = w.2.1 z := fun z hz => by rw [eb]; exact (S z hz).2.1
  have X3 : ∀ k, 3 ≤ k → jm_X3 E w k → jm_X3 E wb k := fun k hk h => ⟨(R k h.1 (by omega) (by omega)).1, by rw [(R k h.1 (by omega) (by omega)).2.2, h.2.1, A _ h.2.2.1], (R _ h.2.2.1 (by omega) (by omega)).1, by rw [(R _ h.2.2.1 (by omega) (by omega)).2.2, h.2.2.2]⟩
  refine ⟨⟨(R 0 a1 (by decide) (by decide)).1, ?_⟩, ⟨(gb.1 1 (ga.1 1 (S 1 b1).1).1).1, ?_⟩, ⟨(gb.1 2 (ga.1 2 (S 2 c1).1).1).1, ?_⟩, ⟨(R 3 d1 (by decide) (by decide)).1, ?_⟩, ?_, fun i h1 h2 => ?_, fun i h1 h2 => ?_, fun i h1 h2 => ?_, n1, n2⟩
  · rw [(R 0 a1 (by decide) (by decide)).2.2, a2, A 1 b1, A 2 c1, A 3 d1, A 4 e.1]
  · rw [(gb.1 1 (ga.1 1 (S 1 b1).1).1).2.2 (by decide), hwa, jm_sh_s, jm_hgs eb]
  · rw [hwb, jm_sh_s]
    exact congrArg _ (jm_hgs (by rw [← hwb, eb, ea])).symm
  · rw [(R 3 d1 (by decide) (by decide)).2.2, d2]
    congr 1
    funext i
    unfold hk_gg
    by_cases z : (i : Int) < ng
    · rw [if_pos z, if_pos z, A _ (gg i (by omega) z).1]
    · rw [if_neg z, if_neg z]
  · exact ⟨(R 4 e.1 (by decide) (by decide)).1, by rw [(R 4 e.1 (by decide) (by decide)).2.2, e.2.1, A _ e.2.2.1], X3 _ (by decide) e.2.2⟩
  · have x := s i h1 h2
    exact ⟨(R _ x.1 (by omega) (by omega)).1, by rw [(R _ x.1 (by omega) (by omega)).2.2, x.2.1, A _ x.2.2.1], (R _ x.2.2.1 (by omega) (by omega)).1, by rw [(R _ x.2.2.1 (by omega) (by omega)).2.2, x.2.2.2]⟩
  · have x := t i h1 h2
    exact ⟨(R _ x.1 (by omega) (by omega)).1, by rw [(R _ x.1 (by omega) (by omega)).2.2, x.2]⟩
  · have x := gg i h1 h2
    exact ⟨(R _ x.1 (by omega) (by omega)).1, by rw [(R _ x.1 (by omega) (by omega)).2.2, x.2.1, A _ x.2.2.1], X3 _ (by omega) x.2.2⟩
-- a method that makes things, and may throw ahead of it
def jm_Xw (E : jm_E) (y : MethodName) (ws : List Cond) (rm : Room) (mc ms : Nat) (w : jm_W) (I : jm_M) (as : List Value) (post : jm_W → jm_M → Int → Prop) (px : String → jm_M → Prop) : Prop :=
  ∀ sz : Nat, vx_Met E.1 y ws rm (va_Pc as (jm_pre E w I sz)) (va_Qi (fun (r : Int32) (u : jm_W × jm_M × Int) => r = jm_i u.2.2 ∧ post u.1 u.2.1 u.2.2) (fun u t => jm_Bc E w sz u.1 u.2.1 t) (jm_A w sz)) (jm_XC E w sz px) mc ms (jm_A w sz)
def jm_Mw (E : jm_E) (y : MethodName) (ws : List Cond) (rm : Room) (mc ms : Nat) (w : jm_W) (I : jm_M) (as : List Value) (post : jm_W → jm_M → Int → Prop) : Prop :=
  ∀ sz : Nat, Met E.1 y ws rm (va_Pc as (jm_pre E w I sz)) (va_Qi (fun (r : Int32) (u : jm_W × jm_M × Int) => r = jm_i u.2.2 ∧ post u.1 u.2.1 u.2.2) (fun u t => jm_Bc E w sz u.1 u.2.1 t) (jm_A w sz)) mc ms (jm_A w sz)
def jm_rw (E : jm_E) (G : jm_G) (cc : ByteArray) (rt : FieldType) (mc ms : Nat) (post : jm_W → jm_M → Int → Prop) : Prop :=
  ∀ (w' : jm_W) (I' : jm_M) (pc : Nat) (lv : List (Nat × Value)) (z : Int), decode cc pc = .ok (.ireturn, 1) → narrow rt (jm_v z) = jm_v z → post w' I' z → jm_J E G (mc, ms) w' I' pc lv [jm_v z]
theorem jm_xin_w {E : jm_E} {y : MethodName} {ws : List Cond} {rm : Room} {mc ms maxL : Nat} {w : jm_W} {I : jm_M} {as : List Value} {post : jm_W → jm_M → Int → Prop} {px : String → jm_M → Prop} {cc : ByteArray} {rt : FieldType} (own : String) (hl0 : E.1.stackTraces = false) (ho5 : own = RX5) (hy : plainName y.cls = true) (hown : y.cls = own) (hw : ws = Cond.code y cc maxL (some rt) :: jm_W0) (hlen : (lg_sl as).length ≤ maxL) (hcat : ∀ v ∈ as, v.category = 1)
    (body : ∀ G : jm_G, jm_C E G cc maxL own rm → jm_rw E G cc rt mc ms post → jm_tx E G cc own rm mc ms w px → jm_px E G mc ms w px → (∀ k j, jm_R (I k j)) → jm_J E G (0, 0) w I 0 (lv_args 0 as) []) : jm_Xw E y ws rm mc ms w I as post px := by
  subst hown
  obtain ⟨l, D, ca⟩ := E
  intro sz
  refine vx_ofW (cc := cc) (maxL := maxL) (ret := some rt) hy hw ?_
  intro p e s m args below meth c s₁ B hml htb hv
  obtain ⟨rfl, hsz, hI, hP, hK, hD0, hN⟩ := hv
  have hts0 := atoms_spec (ws := ws) B.pre
  have hts : ∀ z ∈ jm_W0, z.before as.toArray s = true := fun z hz => hts0 z (by rw [hw]; exact List.mem_cons_of_mem _ hz)
  have hown : s.vm.findClass y.cls = some m.cls := findClass_of_methodNamed B.named
  subst hsz
  have hD : va_D (jm_A w s.heap.size) (jm_ws w I) := by rw [← jm_A_eq w I]; exact hD0.self (sz := s.heap.size)
  have hA : ∀ q : Nat, s.heap.size ≤ q → jm_A w s.heap.size q := fun q h => Or.inr h
  have hS : va_S (jm_A w s.heap.size) s.heap s.heap [] := va_S.rf
  have hl := lv_entry as (n := maxL) hlen
  rw [lg_entry_eq]
  have C : jm_C (l, D, ca) (p, e, rm, s, m, as.toArray, below, meth, c, vx_MQ below (va_Qi (fun (r : Int32) (u : jm_W × jm_M × Int) => r = jm_i u.2.2 ∧ post u.1 u.2.1 u.2.2) (fun u t => jm_Bc (l, D, ca) w s.heap.size u.1 u.2.1 t) (jm_A w s.heap.size)) (jm_XC (l, D, ca) w s.heap.size px) as.toArray s mc ms (jm_A w s.heap.size), jm_A w s.heap.size) cc maxL y.cls rm := ⟨B.exec, B.bytes, hml, hown, hts, rfl, hK, hA, B.notSynchronized, hN⟩
  refine body (p, e, rm, s, m, as.toArray, below, meth, c, _, jm_A w s.heap.size) C ?_ (jm_tx_of hl0 ho5 htb C) (jm_px_of htb B.notSynchronized) hI s.heap [] _ hI hP hD hS (by rw [hml]; exact jm_h_arg hcat hl)
  intro w' I' pc lv z hd hn hp H locs ls hI' hP' hD' hS' hl'
  exact vx_ret (W.zret B.exec B.bytes B.returns hn (fun t ht hW => ⟨⟨jm_i z, (w', I', z), rfl, ⟨rfl, hp⟩, hI', by rw [ht]; exact hP', hD'⟩, hS'.F ht⟩) hS'.2.2 hd B.notSynchronized)
theorem jm_in_ww {E : jm_E} {y : MethodName} {ws : List Cond} {rm : Room} {mc ms maxL : Nat} {w : jm_W} {I : jm_M} {as : List Value} {post : jm_W → jm_M → Int → Prop} {cc : ByteArray} {rt : FieldType} {hh : List (Nat × Nat × Nat × Nat)} (own : String) (hy : plainName y.cls = true) (hown : y.cls = own) (hw : ws = Cond.codeWith y cc maxL (some rt) hh :: jm_W0) (hlen : (lg_sl as).length ≤ maxL) (hcat : ∀ v ∈ as, v.category = 1)
    (body : ∀ G : jm_G, jm_C E G cc maxL own rm → jm_tb G hh → jm_rw E G cc rt mc ms post → (∀ k j, jm_R (I k j)) → jm_J E G (0, 0) w I 0 (lv_args 0 as) []) : jm_Mw E y ws rm mc ms w I as post := by
  subst hown
  obtain ⟨l, D, ca⟩ := E
  intro sz
  refine va_MetW (cc := cc) (maxL := maxL) (ret := some rt) (hh := hh) hy hw ?_
  intro p e s m args below meth c s₁ B hml hv
  obtain ⟨rfl, hsz, hI, hP, hK, hD0, hN⟩ := hv
  have hts0 := atoms_spec (ws := ws) B.pre
  have htab := vx_table (x := y) B (hts0 _ (by rw [hw]; exact List.mem_cons_self))
  have hts : ∀ z ∈ jm_W0, z.before as.toArray s = true := fun z hz => hts0 z (by rw [hw]; exact List.mem_cons_of_mem _ hz)
  have hown : s.vm.findClass y.cls = some m.cls := findClass_of_methodNamed B.named
  subst hsz
  have hD : va_D (jm_A w s.heap.size) (jm_ws w I) := by rw [← jm_A_eq w I]; exact hD0.self (sz := s.heap.size)
  have hA : ∀ q : Nat, s.heap.size ≤ q → jm_A w s.heap.size q := fun q h => Or.inr h
  have hS : va_S (jm_A w s.heap.size) s.heap s.heap [] := va_S.rf
  have hl := lv_entry as (n := maxL) hlen
  rw [lg_entry_eq]
  have C : jm_C (l, D, ca) (p, e, rm, s, m, as.toArray, below, meth, c, MQ below (va_Qi (fun (r : Int32) (u : jm_W × jm_M × Int) => r = jm_i u.2.2 ∧ post u.1 u.2.1 u.2.2) (fun u t => jm_Bc (l, D, ca) w s.heap.size u.1 u.2.1 t) (jm_A w s.heap.size)) as.toArray s mc ms (jm_A w s.heap.size), jm_A w s.heap.size) cc maxL y.cls rm := ⟨B.exec, B.bytes, hml, hown, hts, rfl, hK, hA, B.notSynchronized, hN⟩
  refine body (p, e, rm, s, m, as.toArray, below, meth, c, _, jm_A w s.heap.size) C htab ?_ hI s.heap [] _ hI hP hD hS (by rw [hml]; exact jm_h_arg hcat hl)
  intro w' I' pc lv z hd hn hp H locs ls hI' hP' hD' hS' hl'
  exact W.zret B.exec B.bytes B.returns hn (fun t ht hW => ⟨⟨jm_i z, (w', I', z), rfl, ⟨rfl, hp⟩, hI', by rw [ht]; exact hP', hD'⟩, hS'.F ht⟩) hS'.2.2 hd B.notSynchronized
section JPL
variable {E : jm_E} {G : jm_G} {q : Nat × Nat} {w : jm_W} {I : jm_M} {pc : Nat} {lv : List (Nat × Value)} {st : List Value} {cc : ByteArray} {nL : Nat} {own : String} {rm : Room}
theorem jm_xcVw {maxL index n : Nat} {y : MethodName} {ws : List Cond} {rmc : Room} {mc ms : Nat} {bytes : ByteArray} {ret : Option FieldType} {As : List Value} {ci : Nat} {k : Int} {tm : List (Option Value)} {C0 : String} {T : u_T} {N : Nat} (rest : List Value) {post : jm_W → jm_M → Int → Prop} {px : String → jm_M → Prop} (C : jm_C E G cc nL own rm) (hM : jm_Xw E y ws rmc mc ms w I (.ref (w.2.1 k) :: As) post px) (hlnk : Cond.methodLink own index y ∈ jm_W0) (hok : jm_okV C0 y bytes maxL ret n) (hw : ws = Cond.code y bytes maxL ret :: jm_W0) (hr : rmc.cells = mc ∧ rmc.slots = ms) (hR : rmc.frames + 1 ≤ rm.frames ∧ 8 + (maxL + 11) + rmc.locals ≤ rm.locals) (hc : vwCl[ci]? = some (C0, T, N)) (hk : k ∈ w.1) (hs : w.2.2 k = jm_O ci tm) (hn : As.length = n) (hst : st = As.reverse ++ .ref (w.2.1 k) :: rest) (hcat : (rest.map fun v => v.category).sum ≤ 8) (hd : decode cc pc = .ok (.invokevirtual index, 3)) (hf : q.1 + mc ≤ rm.cells ∧ q.2 + ms ≤ rm.slots) (kx : ∀ (cls : String) (I' : jm_M), px cls I' → jm_JX E G (q.1 + mc, q.2 + ms) w I' pc lv rest cls) (kk : ∀ (w' : jm_W) (I' : jm_M) (z : Int), post w' I' z → jm_J E G (q.1 + mc, q.2 + ms) w' I' (pc + 3) lv (jm_v z :: rest)) : jm_J E G q w I pc lv st := by
  have hr0 := jm_xrunV C hM hlnk hok hw hr hR hc hk hs hn hst hcat hd hf
  obtain ⟨l, D, ca⟩ := E
  obtain ⟨p, e, R, s, m, args, below, meth, c, Q, A⟩ := G
  intro H locs ls hI hP hD hS hl
  obtain ⟨hx, hb, hml, hown, hts, rfl, hK, hA, hlk, hN⟩ := C
  have hF := jm_callAux hD hA hS
  refine vx_calli (hr0 H locs ls hI hP hD hS hl.1) hS (fun x _ h => hF x h) hF (fun x _ h => hF x h) (fun E9 ce q9 u t H1 locs1 ht hvm _ hB hz hkeep hS1 hce hcv hcl => ?_) (fun r u t H1 locs1 ht hvm hpost hB hz hkeep hS1 => ?_)
  · obtain ⟨hp, b1, b2, b3⟩ := hB
    rw [ht] at b2
    exact kx E9 u hp H1 locs1 ls q9 ce b1 b2 (jm_ws_D hD rfl rfl) hS1 hl hce hcv hcl
  · obtain ⟨rfl, hp⟩ := hpost
    obtain ⟨b1, b2, b3⟩ := hB
    rw [ht] at b2
    exact kk u.1 u.2.1 u.2.2 hp H1 locs1 ls b1 b2 (b3.weaken (fun _ x _ h => hF x.1 h)) hS1 hl
theorem jm_cWw {mc ms maxL index n : Nat} {y : MethodName} {ws : List Cond} {rmc : Room} {bytes : ByteArray} {ret : Option FieldType} {hh : List (Nat × Nat × Nat × Nat)} {As : List Value} (rest : List Value) {post : jm_W → jm_M → Int → Prop} (C : jm_C E G cc nL own rm) (hM : jm_Mw E y ws rmc mc ms w I (As) post) (hlnk : Cond.methodLink own index y ∈ jm_W0) (hok : jm_okW own y bytes maxL ret hh n) (hw : ws = Cond.codeWith y bytes maxL ret hh :: jm_W0) (hr : rmc.cells = mc ∧ rmc.slots = ms) (hR : rmc.frames + 1 ≤ rm.frames ∧ 8 + (maxL + 11) + rmc.locals ≤ rm.locals) (hn : As.length = n) (hst : st = As.reverse ++ rest) (hcat : (rest.map fun v => v.category).sum ≤ 8) (hd : decode cc pc = .ok (.invokestatic index, 3)) (hf : q.1 + mc ≤ rm.cells ∧ q.2 + ms ≤ rm.slots) (kk : ∀ (w' : jm_W) (I' : jm_M) (z : Int), post w' I' z → jm_J E G (q.1 + mc, q.2 + ms) w' I' (pc + 3) lv (jm_v z :: rest)) : jm_J E G q w I pc lv st := by
  have hr0 := jm_runW C hM hlnk hok hw hr hR hn hst hcat hd hf
  obtain ⟨l, D, ca⟩ := E
  obtain ⟨p, e, R, s, m, args, below, meth, c, Q, A⟩ := G
  intro H locs ls hI hP hD hS hl
  obtain ⟨hx, hb, hml, hown, hts, rfl, hK, hA, hlk, hN⟩ := C
  have hF := jm_callAux hD hA hS
  refine va_calli (hr0 H locs ls hI hP hD hS hl.1) hS (fun x _ h => hF x h) hF (fun r u t H1 locs1 ht hvm hpost hB hz hkeep hS1 => ?_)
  obtain ⟨rfl, hp⟩ := hpost
  obtain ⟨b1, b2, b3⟩ := hB
  rw [ht] at b2
  exact kk u.1 u.2.1 u.2.2 hp H1 locs1 ls b1 b2 (b3.weaken (fun _ x _ h => hF x.1 h)) hS1 hl
end JPL
abbrev rxX5_plan : Room := jm_rx rmX5_plan 3 20
/-! A GAME IS PLANNED, of the class -/
theorem hk_plan_map {I I2 I' : jm_M} {k a b h s n1 : Int} (hk : 30 ≤ k ∧ k < 42) (hI2 : I2 = jm_up (jm_up (jm_up (jm_up (jm_up (jm_up (jm_up (hk_fill (jm_z (jm_z (jm_z I k) (k + 100)) (k + 100 + 100)) (k + 100 + 100) 6 (fun _ => -1)) k 5 0) k 6 (-1)) k 12 (-1)) k 0 a) k 1 b) k 4 h) k 2 s) (hI' : I' = jm_up I2 0 4 n1) : (∀ y, y ≠ 4 → I' 0 y = I 0 y) ∧ I' 0 4 = n1 ∧ (∀ x, x ≠ 0 → x ≠ k → x ≠ k + 100 → x ≠ k + 100 + 100 → I' x = I x) ∧ hk_gnew I' k a b s h := by
  have d0 : ¬ k = 0 := by omega
  have d1 : ¬ k = k + 100 := by omega
  have d2 : ¬ k = k + 100 + 100 := by omega
  have d3 : ¬ (0 : Int) = k := by omega
  have d4 : ¬ (0 : Int) = k + 100 := by omega
  have d5 : ¬ (0 : Int) = k + 100 + 100 := by omega
  have d6 : ¬ k + 100 + 100 = k := by omega
  have d7 : ¬ k + 100 + 100 = 0 := by omega
  have d8 : ¬ k + 100 + 100 = k + 100 := by omega
  have g2 : ∀ x, x ≠ k → x ≠ k + 100 + 100 → x ≠ k + 100 → ∀ y, I2 x y = I x y := fun x z1 z2 z3 y => by
    rw [hI2, jm_up_n (Or.inl z1), jm_up_n (Or.inl z1), jm_up_n (Or.inl z1), jm_up_n (Or.inl z1), jm_up_n (Or.inl z1), jm_up_n (Or.inl z1), jm_up_n (Or.inl z1), hk_fill_o (Or.inl z2), jm_z_o z2, jm_z_o z3, jm_z_o z1]
  have gk : ∀ y, I2 k y = if y = 2 then s else if y = 4 then h else if y = 1 then b else if y = 0 then a else if y = 12 then -1 else if y = 6 then -1 else 0 := fun y => by
    have e0 : jm_z (jm_z (jm_z I k) (k + 100)) (k + 100 + 100) k y = 0 := by rw [jm_z_o d2, jm_z_o d1, jm_z_k]
    rw [hI2]
    by_cases q2 : y = 2
    · subst q2; rw [jm_up_s, if_pos rfl]
    rw [jm_up_n (Or.inr q2), if_neg q2]
    by_cases q4 : y = 4
    · subst q4; rw [jm_up_s, if_pos rfl]
    rw [jm_up_n (Or.inr q4), if_neg q4]
    by_cases q1 : y = 1
    · subst q1; rw [jm_up_s, if_pos rfl]
    rw [jm_up_n (Or.inr q1), if_neg q1]
    by_cases q0 : y = 0
    · subst q0; rw [jm_up_s, if_pos rfl]
    rw [jm_up_n (Or.inr q0), if_neg q0]
    by_cases q12 : y = 12
    · subst q12; rw [jm_up_s, if_pos rfl]
    rw [jm_up_n (Or.inr q12), if_neg q12]
    by_cases q6 : y = 6
    · subst q6; rw [jm_up_s, if_pos rfl]
    rw [jm_up_n (Or.inr q6), if_neg q6]
    by_cases q5 : y = 5
    · subst q5; rw [jm_up_s]
    rw [jm_up_n (Or.inr q5), hk_fill_o (Or.inl d2), e0]
  have ik : ∀ y, I' k y = I2 k y := fun y => by rw [hI', jm_up_n (Or.inl d0)]
  refine ⟨fun y hy => ?_, ?_, fun x z1 z2 z3 z4 => ?_, ⟨?_, ?_, ?_, ?_, ?_, ?_⟩, ⟨?_, ?_, ?_, ?_, ?_, ?_⟩, ?_⟩
  · rw [hI', jm_up_n (Or.inr hy), g2 0 d3 d5 d4]
  · rw [hI', jm_up_s]
  · funext y
    rw [hI', jm_up_n (Or.inl z1), g2 x z2 z4 z3]
  all_goals first
    | (rw [ik, gk]; rfl)
    | (funext c
       rw [hI', jm_up_n (Or.inl d7), hI2, jm_up_n (Or.inl d6), jm_up_n (Or.inl d6), jm_up_n (Or.inl d6), jm_up_n (Or.inl d6), jm_up_n (Or.inl d6), jm_up_n (Or.inl d6), jm_up_n (Or.inl d6)]
       by_cases q : 0 ≤ c ∧ c < 6
       · rw [hk_fill_i q, if_pos q]
       · rw [hk_fill_o (Or.inr q), if_neg q, jm_z_k])
def hk_sm (w w' : jm_W) (ng : Int) : Prop := (∀ z, z ∈ w.1 → z ∈ w'.1 ∧ w'.2.1 z = w.2.1 z ∧ (z ≠ 1 → z ≠ 2 → z ≠ 3 → w'.2.2 z = w.2.2 z)) ∧ (∀ z, z ∈ w'.1 → z ∈ w.1 ∨ z = 30 + ng ∨ z = 30 + ng + 100 ∨ z = 30 + ng + 100 + 100)
set_option maxRecDepth 100000 in
set_option maxHeartbeats 8000000 in
theorem kxX5_plan (E : jm_E) (hl0 : E.1.stackTraces = false) (w : jm_W) (I : jm_M) (ng : Int) (H : jm_X5 E w ng) (h4 : I 0 4 = ng) (hnow : 0 ≤ I 0 5 ∧ I 0 5 ≤ 9999) (a b h s : Int) (g1 : jm_R a) (g2 : jm_R b) (g3 : jm_R h) (g4 : jm_R s) (hn1 : ng < 12 → 30 + ng ∉ w.1 ∧ 30 + ng + 100 ∉ w.1 ∧ 30 + ng + 100 + 100 ∉ w.1) : jm_Xw E yX5_plan wX5_plan rxX5_plan 3 20 w I [.ref (w.2.1 0), jm_v a, jm_v b, jm_v h, jm_v s] (fun w' I' z => ((0 ≤ a ∧ a ≤ 5) ∧ (0 ≤ b ∧ b ≤ 5) ∧ (0 ≤ s ∧ s ≤ 2)) ∧ (a ≠ b ∧ I 0 5 + 1 ≤ h ∧ h ≤ 9999) ∧ (ng < 12) ∧ z = ng ∧ jm_X5 E w' (ng + 1) ∧ hk_sm w w' ng ∧ (∀ y, y ≠ 4 → I' 0 y = I 0 y) ∧ I' 0 4 = ng + 1 ∧ (∀ x, x ≠ 0 → x ≠ 30 + ng → x ≠ 30 + ng + 100 → x ≠ 30 + ng + 100 + 100 → I' x = I x) ∧ hk_gnew I' (30 + ng) a b s h) (fun cls I' => I' = I ∧ ((¬ ((0 ≤ a ∧ a ≤ 5) ∧ (0 ≤ b ∧ b ≤ 5) ∧ (0 ≤ s ∧ s ≤ 2)) ∧ cls = "java/lang/IndexOutOfBoundsException") ∨ (((0 ≤ a ∧ a ≤ 5) ∧ (0 ≤ b ∧ b ≤ 5) ∧ (0 ≤ s ∧ s ≤ 2)) ∧ ¬ (a ≠ b ∧ I 0 5 + 1 ≤ h ∧ h ≤ 9999) ∧ cls = "java/lang/IllegalArgumentException") ∨ (((0 ≤ a ∧ a ≤ 5) ∧ (0 ≤ b ∧ b ≤ 5) ∧ (0 ≤ s ∧ s ≤ 2)) ∧ (a ≠ b ∧ I 0 5 + 1 ≤ h ∧ h ≤ 9999) ∧ ¬ (ng < 12) ∧ cls = "java/lang/IllegalStateException"))) := by
  refine jm_xin_w (cc := cX5_plan) (maxL := 6) (rt := .int) RX5 hl0 rfl (by decide +kernel) rfl rfl (Nat.le_of_ble_eq_true rfl) (by simp [Value.category]) ?_
  intro G C hR hT hP hI
  have hng0 := jm_X5_n H
  refine jm_iload_n C dX5_plan_0 rfl ?_
  refine jm_iconst C dX5_plan_1 ?_
  refine jm_iconst C dX5_plan_2 ?_
  refine jm_cSd (n := 3) [] C (kX5_isWithin E w I _ _ _ g1 (by decide) (by decide)) jw_m_RX5_43 okX5_isWithin rfl ⟨rfl, rfl⟩ ⟨Nat.le_of_ble_eq_true rfl, Nat.le_of_ble_eq_true rfl⟩ rfl rfl (Nat.le_of_ble_eq_true rfl) dX5_plan_3 ⟨Nat.le_of_ble_eq_true rfl, Nat.le_of_ble_eq_true rfl⟩ (fun yz2 yh1 => ?_)
  refine jm_if_eq 28 C dX5_plan_6 rfl (by omega) (fun yc3 => ?_) (fun yc3 => ?_)
  · skip
    exact hT _ _ _ _ _ "java/lang/IndexOutOfBoundsException" "no such team or sheet" 47 49 51 rfl jw_k1.1 jw_k1.2 (by decide) jw_x1 jw_y1 jw_z1 dX5_plan_28 dX5_plan_31 dX5_plan_32 dX5_plan_34 dX5_plan_37 (Nat.le_of_ble_eq_true rfl) (Nat.le_of_ble_eq_true rfl) ⟨Nat.le_of_ble_eq_true rfl, Nat.le_of_ble_eq_true rfl⟩ ⟨Nat.le_of_ble_eq_true rfl, Nat.le_of_ble_eq_true rfl⟩ ⟨rfl, Or.inl ⟨by omega, rfl⟩⟩
  · skip
    refine jm_iload_n C dX5_plan_9 rfl ?_
    refine jm_iconst C dX5_plan_10 ?_
    refine jm_iconst C dX5_plan_11 ?_
    refine jm_cSd (n := 3) [] C (kX5_isWithin E w I _ _ _ g2 (by decide) (by decide)) jw_m_RX5_43 okX5_isWithin rfl ⟨rfl, rfl⟩ ⟨Nat.le_of_ble_eq_true rfl, Nat.le_of_ble_eq_true rfl⟩ rfl rfl (Nat.le_of_ble_eq_true rfl) dX5_plan_12 ⟨Nat.le_of_ble_eq_true rfl, Nat.le_of_ble_eq_true rfl⟩ (fun yz5 yh4 => ?_)
    refine jm_if_eq 28 C dX5_plan_15 rfl (by omega) (fun yc6 => ?_) (fun yc6 => ?_)
    · skip
      exact hT _ _ _ _ _ "java/lang/IndexOutOfBoundsException" "no such team or sheet" 47 49 51 rfl jw_k1.1 jw_k1.2 (by decide) jw_x1 jw_y1 jw_z1 dX5_plan_28 dX5_plan_31 dX5_plan_32 dX5_plan_34 dX5_plan_37 (Nat.le_of_ble_eq_true rfl) (Nat.le_of_ble_eq_true rfl) ⟨Nat.le_of_ble_eq_true rfl, Nat.le_of_ble_eq_true rfl⟩ ⟨Nat.le_of_ble_eq_true rfl, Nat.le_of_ble_eq_true rfl⟩ ⟨rfl, Or.inl ⟨by omega, rfl⟩⟩
    · skip
      refine jm_iload C dX5_plan_18 rfl ?_
      refine jm_iconst C dX5_plan_20 ?_
      refine jm_iconst C dX5_plan_21 ?_
      refine jm_cSd (n := 3) [] C (kX5_isWithin E w I _ _ _ g4 (by decide) (by decide)) jw_m_RX5_43 okX5_isWithin rfl ⟨rfl, rfl⟩ ⟨Nat.le_of_ble_eq_true rfl, Nat.le_of_ble_eq_true rfl⟩ rfl rfl (Nat.le_of_ble_eq_true rfl) dX5_plan_22 ⟨Nat.le_of_ble_eq_true rfl, Nat.le_of_ble_eq_true rfl⟩ (fun yz8 yh7 => ?_)
      refine jm_if_ne 38 C dX5_plan_25 rfl (by omega) (fun yc9 => ?_) (fun yc9 => ?_)
      · skip
        refine jm_iload_n C dX5_plan_38 rfl ?_
        refine jm_iload_n C dX5_plan_39 rfl ?_
        refine jm_icmp_eq 59 C dX5_plan_40 rfl g1 g2 (fun yc10 => ?_) (fun yc10 => ?_)
        · skip
          exact hT _ _ _ _ _ "java/lang/IllegalArgumentException" "the same team twice, or hour is out of range" 57 59 61 rfl jw_k2.1 jw_k2.2 (by decide) jw_x2 jw_y2 jw_z2 dX5_plan_59 dX5_plan_62 dX5_plan_63 dX5_plan_65 dX5_plan_68 (Nat.le_of_ble_eq_true rfl) (Nat.le_of_ble_eq_true rfl) ⟨Nat.le_of_ble_eq_true rfl, Nat.le_of_ble_eq_true rfl⟩ ⟨Nat.le_of_ble_eq_true rfl, Nat.le_of_ble_eq_true rfl⟩ ⟨rfl, Or.inr (Or.inl ⟨by omega, by omega, rfl⟩)⟩
        · skip
          refine jm_iload_n C dX5_plan_43 rfl ?_
          refine jm_aload_n C dX5_plan_44 rfl ?_
          refine jm_get (ci := 5) (f := 5) 5 rfl C rfl jw_u_5 H.1.1 H.1.2 rfl (by decide) jw_f_RX5_54 dX5_plan_45 (fun yr11 => ?_)
          refine jm_iconst C dX5_plan_48 ?_
          refine jm_iadd C dX5_plan_49 ?_
          refine jm_sipush C dX5_plan_50 (by decide +kernel) ?_
          refine jm_cSd (n := 3) [] C (kX5_isWithin E w I _ _ _ g3 (by omega) (by decide)) jw_m_RX5_43 okX5_isWithin rfl ⟨rfl, rfl⟩ ⟨Nat.le_of_ble_eq_true rfl, Nat.le_of_ble_eq_true rfl⟩ rfl rfl (Nat.le_of_ble_eq_true rfl) dX5_plan_53 ⟨Nat.le_of_ble_eq_true rfl, Nat.le_of_ble_eq_true rfl⟩ (fun yz13 yh12 => ?_)
          refine jm_if_ne 69 C dX5_plan_56 rfl (by omega) (fun yc14 => ?_) (fun yc14 => ?_)
          · skip
            refine jm_aload_n C dX5_plan_69 rfl ?_
            refine jm_getv (ci := 5) (f := 4) ng 4 rfl h4 C rfl jw_u_5 H.1.1 H.1.2 rfl (by decide) jw_f_RX5_62 dX5_plan_70 (fun yr15 => ?_)
            refine jm_istore C dX5_plan_73 (by decide) ?_
            refine jm_iload C dX5_plan_75 rfl ?_
            refine jm_if_lt 90 C dX5_plan_77 rfl (by omega) (fun yc16 => ?_) (fun yc16 => ?_)
            · skip
              exact hT _ _ _ _ _ "java/lang/IllegalStateException" "there are 12 games" 65 67 69 rfl jw_k3.1 jw_k3.2 (by decide) jw_x3 jw_y3 jw_z3 dX5_plan_90 dX5_plan_93 dX5_plan_94 dX5_plan_96 dX5_plan_99 (Nat.le_of_ble_eq_true rfl) (Nat.le_of_ble_eq_true rfl) ⟨Nat.le_of_ble_eq_true rfl, Nat.le_of_ble_eq_true rfl⟩ ⟨Nat.le_of_ble_eq_true rfl, Nat.le_of_ble_eq_true rfl⟩ ⟨rfl, Or.inr (Or.inr ⟨by omega, by omega, by omega, rfl⟩)⟩
            · skip
              refine jm_iload C dX5_plan_80 rfl ?_
              refine jm_aload_n C dX5_plan_82 rfl ?_
              refine jm_getr (ci := 5) (f := 2) C rfl jw_u_5 H.1.1 H.1.2 rfl (by decide) jw_f_RX5_25 dX5_plan_83 ?_
              refine jm_alenq 5 12 rfl C H.2.2.2.1.1 rfl H.2.2.2.1.2 dX5_plan_86 ?_
              refine jm_icmp_lt 100 C dX5_plan_87 rfl (by omega) (by decide) (fun yc17 => ?_) (fun yc17 => ?_)
              · skip
                have hng := jm_X5_n H
                have hD : ng < 12 := by omega
                obtain ⟨N1, N2, N3⟩ := hn1 hD
                have E0 : ∀ z, z ∈ w.1 → z ≠ 30 + ng := fun z hz e => N1 (by rw [← e]; exact hz)
                obtain ⟨r0, A0⟩ : ∃ x, w.2.1 0 = x := ⟨_, rfl⟩
                obtain ⟨r3, A3⟩ : ∃ x, w.2.1 3 = x := ⟨_, rfl⟩
                refine jm_aload_n C dX5_plan_100 rfl ?_
                refine jm_getr (ci := 5) (f := 2) C rfl jw_u_5 H.1.1 H.1.2 rfl (by decide) jw_f_RX5_25 dX5_plan_101 ?_
                rw [A0, A3]
                refine jm_iload C dX5_plan_104 rfl ?_
                refine jm_new (ci := 0) (tm := [none, none, none, some .null, none, none, none, none, none, none, none, none, none]) (30 + ng) C rfl tyX0 tyX0_ok jw_u_0 jw_L_RX5_23 jw_I_RX0 jw_n_RX0 N1 (by decide +kernel) ⟨Nat.le_of_ble_eq_true rfl, Nat.le_of_ble_eq_true rfl⟩ dX5_plan_106 (fun a1 => ?_)
                refine jm_gen (fun w1 hw1 => ?_)
                have GG1 : jm_gr w w1 (30 + ng) (fun z => z = 30 + ng) := by rw [hw1]; exact jm_gr_ad N1
                have A1 : w1.2.1 (30 + ng) = a1 := by rw [hw1]; exact jm_ad_a
                have M1 : 30 + ng ∈ w1.1 := by rw [hw1]; exact jm_ad_m
                have S1 : w1.2.2 (30 + ng) = jm_O 0 [none, none, none, some .null, none, none, none, none, none, none, none, none, none] := by rw [hw1]; exact jm_ad_s
                have N2' : 30 + ng + 100 ∉ w1.1 := fun hz => (GG1.2 _ hz).elim N2 (fun e => absurd (show (30 + ng + 100 : Int) = 30 + ng from e) (by omega))
                have N3' : 30 + ng + 100 + 100 ∉ w1.1 := fun hz => (GG1.2 _ hz).elim N3 (fun e => absurd (show (30 + ng + 100 + 100 : Int) = 30 + ng from e) (by omega))
                refine jm_dup C dX5_plan_109 rfl ?_
                refine jm_iload_n C dX5_plan_110 rfl ?_
                refine jm_iload_n C dX5_plan_111 rfl ?_
                refine jm_iload_n C dX5_plan_112 rfl ?_
                refine jm_iload C dX5_plan_113 rfl ?_
                refine jm_cI (n := 4) [.ref a1, jm_v ng, .ref r3] jm_XTm (jm_trivX G) C (kX0_init E w1 (jm_z I (30 + ng)) (30 + ng) a1 A1 M1 S1 N2' N3' a b h s g1 g2 g3 g4) jw_m_RX5_70 okX0_init rfl ⟨rfl, rfl⟩ ⟨Nat.le_of_ble_eq_true rfl, Nat.le_of_ble_eq_true rfl⟩ rfl rfl (Nat.le_of_ble_eq_true rfl) dX5_plan_115 ⟨Nat.le_of_ble_eq_true rfl, Nat.le_of_ble_eq_true rfl⟩ (fun w2 I2 hh => ?_)
                obtain ⟨GG2, X2, hI2⟩ := hh
                have GG : jm_gr w w2 (30 + ng) (fun z => z = 30 + ng ∨ z = 30 + ng + 100 ∨ z = 30 + ng + 100 + 100) := jm_gr_tr GG1 GG2 (fun _ => rfl) (fun z e => e.elim (fun e => Or.inl e) (fun e => Or.inr e))
                refine jm_renorm H GG E0 (fun wa w3 ga gb e3 e1 H3 => ?_)
                have X3 : jm_X0 E w3 (30 + ng) := jm_X0_gr (jm_X0_gr X2 ga (by omega) (by omega) (by omega)) gb (by omega) (by omega) (by omega)
                have B0 : w3.2.1 0 = r0 := by rw [e3, (GG.1 0 H.1.1).2.1, A0]
                have B3 : w3.2.1 3 = r3 := by rw [e3, (GG.1 3 H.2.2.2.1.1).2.1, A3]
                have B1 : w3.2.1 (30 + ng) = a1 := by rw [e3, (GG2.1 _ M1).2.1, A1]
                rw [← B1, ← B3]
                refine jm_aast (t := 5) (ci := 0) C H3.2.2.2.1.1 rfl H3.2.2.2.1.2 X3.1 X3.2.1 rfl (by omega) (by omega) (by constructor <;> omega) dX5_plan_118 ?_
                refine jm_gen (fun w4 hw4 => ?_)
                have G4 : jm_gr w3 w4 3 (fun _ => False) := by rw [hw4]; exact jm_gr_sh
                have e4 : w4.2.1 = w3.2.1 := by rw [hw4]; rfl
                have S4 : w4.2.2 3 = jm_Qa (E.2.2 5) 12 (hk_gg w4 (ng + 1)) := by
                  rw [hw4, jm_sh_s]
                  congr 1
                  funext i
                  unfold va_up hk_gg
                  by_cases q : i = ng.toNat
                  · have qi : (i : Int) = ng := by omega
                    rw [if_pos q, if_pos (by omega), qi]; rfl
                  · rw [if_neg q]
                    by_cases q2 : (i : Int) < ng
                    · rw [if_pos q2, if_pos (by omega)]; rfl
                    · rw [if_neg q2, if_neg (by omega)]
                have H4 : jm_X5 E w4 (ng + 1) := by
                  refine ⟨⟨(G4.1 0 H3.1.1).1, by rw [(G4.1 0 H3.1.1).2.2 (by decide), H3.1.2, e4]⟩, ⟨(G4.1 1 H3.2.1.1).1, by rw [(G4.1 1 H3.2.1.1).2.2 (by decide), H3.2.1.2, jm_hgs e4]⟩, ⟨(G4.1 2 H3.2.2.1.1).1, by rw [(G4.1 2 H3.2.2.1.1).2.2 (by decide), H3.2.2.1.2, jm_hgs e4]⟩, ⟨(G4.1 3 H3.2.2.2.1.1).1, S4⟩, jm_X2_gr (jm_X5_l H3) G4 (by decide) (by decide) (by decide), fun i h1 h2 => jm_X1_gr (jm_X5_s H3 h1 h2) G4 (by omega) (by omega), fun i h1 h2 => jm_X4_gr (jm_X5_t H3 h1 h2) G4 (by omega), fun i h1 h2 => ?_, by omega, by omega⟩
                  by_cases e : i = ng
                  · rw [e]; exact jm_X0_gr X3 G4 (by omega) (by omega) (by omega)
                  · exact jm_X0_gr (jm_X5_g H3 h1 (by omega)) G4 (by omega) (by omega) (by omega)
                have Q : ∀ z, z ∈ w.1 → z ∈ w4.1 ∧ w4.2.1 z = w.2.1 z ∧ (z ≠ 1 → z ≠ 2 → z ≠ 3 → w4.2.2 z = w.2.2 z) := fun z hz => by
                  have y2 := GG.1 z hz
                  have ya := ga.1 z y2.1
                  have y3 := gb.1 z ya.1
                  have y4 := G4.1 z y3.1
                  exact ⟨y4.1, by rw [e4, e3, y2.2.1], fun z1 z2 z3 => by rw [y4.2.2 z3, y3.2.2 z2, ya.2.2 z1, y2.2.2 (E0 z hz)]⟩
                have Q2 : ∀ z, z ∈ w4.1 → z ∈ w.1 ∨ z = 30 + ng ∨ z = 30 + ng + 100 ∨ z = 30 + ng + 100 + 100 := fun z hz => by
                  rcases G4.2 z hz with q | q
                  · rw [e1] at q; exact GG.2 z q
                  · exact q.elim
                have C0 : w4.2.1 0 = r0 := by rw [e4]; exact B0
                refine jm_aload_n C dX5_plan_119 rfl ?_
                refine jm_iload C dX5_plan_120 rfl ?_
                refine jm_iconst C dX5_plan_122 ?_
                refine jm_iadd C dX5_plan_123 ?_
                rw [← C0]
                refine jm_put (ci := 5) (f := 4) (ty := .int) 4 rfl C rfl tyX5 tyX5_ok nmX5 jw_u_5 H4.1.1 H4.1.2 rfl (by decide) jw_f_RX5_62 rfl (by decide +kernel) rfl rfl dX5_plan_124 (by constructor <;> omega) ?_
                refine jm_geni (fun I3 hI3 => ?_)
                have mp := hk_plan_map (k := 30 + ng) (by omega) hI2 hI3
                refine jm_iload C dX5_plan_127 rfl ?_
                exact hR _ _ _ _ _ dX5_plan_129 rfl ⟨by omega, by omega, hD, rfl, H4, ⟨Q, Q2⟩, mp.1, mp.2.1, mp.2.2.1, mp.2.2.2⟩
              · skip
                exact hT _ _ _ _ _ "java/lang/IllegalStateException" "there are 12 games" 65 67 69 rfl jw_k3.1 jw_k3.2 (by decide) jw_x3 jw_y3 jw_z3 dX5_plan_90 dX5_plan_93 dX5_plan_94 dX5_plan_96 dX5_plan_99 (Nat.le_of_ble_eq_true rfl) (Nat.le_of_ble_eq_true rfl) ⟨Nat.le_of_ble_eq_true rfl, Nat.le_of_ble_eq_true rfl⟩ ⟨Nat.le_of_ble_eq_true rfl, Nat.le_of_ble_eq_true rfl⟩ ⟨rfl, Or.inr (Or.inr ⟨by omega, by omega, by omega, rfl⟩)⟩
          · skip
            exact hT _ _ _ _ _ "java/lang/IllegalArgumentException" "the same team twice, or hour is out of range" 57 59 61 rfl jw_k2.1 jw_k2.2 (by decide) jw_x2 jw_y2 jw_z2 dX5_plan_59 dX5_plan_62 dX5_plan_63 dX5_plan_65 dX5_plan_68 (Nat.le_of_ble_eq_true rfl) (Nat.le_of_ble_eq_true rfl) ⟨Nat.le_of_ble_eq_true rfl, Nat.le_of_ble_eq_true rfl⟩ ⟨Nat.le_of_ble_eq_true rfl, Nat.le_of_ble_eq_true rfl⟩ ⟨rfl, Or.inr (Or.inl ⟨by omega, by omega, rfl⟩)⟩
      · skip
        exact hT _ _ _ _ _ "java/lang/IndexOutOfBoundsException" "no such team or sheet" 47 49 51 rfl jw_k1.1 jw_k1.2 (by decide) jw_x1 jw_y1 jw_z1 dX5_plan_28 dX5_plan_31 dX5_plan_32 dX5_plan_34 dX5_plan_37 (Nat.le_of_ble_eq_true rfl) (Nat.le_of_ble_eq_true rfl) ⟨Nat.le_of_ble_eq_true rfl, Nat.le_of_ble_eq_true rfl⟩ ⟨Nat.le_of_ble_eq_true rfl, Nat.le_of_ble_eq_true rfl⟩ ⟨rfl, Or.inl ⟨by omega, rfl⟩⟩
