/-! worlds that grow: what stays -/
def jm_gr (w w' : jm_W) (k : Int) (P : Int → Prop) : Prop := (∀ z, z ∈ w.1 → z ∈ w'.1 ∧ w'.2.1 z = w.2.1 z ∧ (z ≠ k → w'.2.2 z = w.2.2 z)) ∧ (∀ z, z ∈ w'.1 → z ∈ w.1 ∨ P z)
theorem jm_gr_ad {w : jm_W} {k : Int} {a : Nat} {S : (Int → Int) → va_E} (hk : k ∉ w.1) : jm_gr w (jm_ad w k a S) k (fun z => z = k) := by
  refine ⟨fun z hz => ?_, fun z hz => ?_⟩
  · have hne : z ≠ k := fun e => hk (by rw [← e]; exact hz)
    exact ⟨List.mem_append_left _ hz, if_neg hne, fun _ => if_neg hne⟩
  · rcases List.mem_append.mp hz with h | h
    · exact Or.inl h
    · exact Or.inr (List.mem_singleton.mp h)
theorem jm_ad_m {w : jm_W} {k : Int} {a : Nat} {S : (Int → Int) → va_E} : k ∈ (jm_ad w k a S).1 := List.mem_append_right _ (List.mem_singleton.mpr rfl)
theorem jm_ad_a {w : jm_W} {k : Int} {a : Nat} {S : (Int → Int) → va_E} : (jm_ad w k a S).2.1 k = a := if_pos rfl
theorem jm_ad_s {w : jm_W} {k : Int} {a : Nat} {S : (Int → Int) → va_E} : (jm_ad w k a S).2.2 k = S := if_pos rfl
theorem jm_gr_sh {w : jm_W} {k : Int} {S : (Int → Int) → va_E} : jm_gr w (jm_sh w k S) k (fun _ => False) := ⟨fun _ hz => ⟨hz, rfl, fun hne => if_neg hne⟩, fun _ hz => Or.inl hz⟩
theorem jm_sh_s {w : jm_W} {k : Int} {S : (Int → Int) → va_E} : (jm_sh w k S).2.2 k = S := if_pos rfl
theorem jm_gr_tr {w w1 w2 : jm_W} {k k1 : Int} {P P1 P2 : Int → Prop} (h : jm_gr w w1 k P) (h2 : jm_gr w1 w2 k1 P1) (hk : k1 ∈ w.1 → k1 = k) (h3 : ∀ z, P z ∨ P1 z → P2 z) : jm_gr w w2 k P2 := by
  refine ⟨fun z hz => ?_, fun z hz => ?_⟩
  · obtain ⟨a1, a2, a3⟩ := h.1 z hz
    obtain ⟨b1, b2, b3⟩ := h2.1 z a1
    refine ⟨b1, b2.trans a2, fun hne => ?_⟩
    by_cases e : z = k1
    · exact absurd (e.trans (hk (by rw [← e]; exact hz))) hne
    · exact (b3 e).trans (a3 hne)
  · rcases h2.2 z hz with q | q
    · rcases h.2 z q with q2 | q2
      · exact Or.inl q2
      · exact Or.inr (h3 z (Or.inl q2))
    · exact Or.inr (h3 z (Or.inr q))
theorem jm_X3_gr {E : jm_E} {w w' : jm_W} {k k' : Int} {P : Int → Prop} (h : jm_X3 E w k) (g : jm_gr w w' k' P) (h1 : k ≠ k') (h2 : k + 100 ≠ k') : jm_X3 E w' k := by
  obtain ⟨a1, a2, a3, a4⟩ := h
  obtain ⟨b1, b2, b3⟩ := g.1 _ a1
  obtain ⟨c1, c2, c3⟩ := g.1 _ a3
  exact ⟨b1, by rw [b3 h1, a2, c2], c1, by rw [c3 h2, a4]⟩
theorem jm_X1_gr {E : jm_E} {w w' : jm_W} {k k' : Int} {P : Int → Prop} (h : jm_X1 E w k) (g : jm_gr w w' k' P) (h1 : k ≠ k') (h2 : k + 100 ≠ k') : jm_X1 E w' k := by
  obtain ⟨a1, a2, a3, a4⟩ := h
  obtain ⟨b1, b2, b3⟩ := g.1 _ a1
  obtain ⟨c1, c2, c3⟩ := g.1 _ a3
  exact ⟨b1, by rw [b3 h1, a2, c2], c1, by rw [c3 h2, a4]⟩
theorem jm_X4_gr {E : jm_E} {w w' : jm_W} {k k' : Int} {P : Int → Prop} (h : jm_X4 E w k) (g : jm_gr w w' k' P) (h1 : k ≠ k') : jm_X4 E w' k := by
  obtain ⟨b1, b2, b3⟩ := g.1 _ h.1
  exact ⟨b1, (b3 h1).trans h.2⟩
theorem jm_X0_gr {E : jm_E} {w w' : jm_W} {k k' : Int} {P : Int → Prop} (h : jm_X0 E w k) (g : jm_gr w w' k' P) (h1 : k ≠ k') (h2 : k + 100 ≠ k') (h3 : k + 100 + 100 ≠ k') : jm_X0 E w' k := by
  obtain ⟨a1, a2, a3⟩ := h
  obtain ⟨b1, b2, b3⟩ := g.1 _ a1
  obtain ⟨c1, c2, c3⟩ := g.1 _ a3.1
  exact ⟨b1, by rw [b3 h1, a2, c2], jm_X3_gr a3 g h2 h3⟩
theorem jm_X2_gr {E : jm_E} {w w' : jm_W} {k k' : Int} {P : Int → Prop} (h : jm_X2 E w k) (g : jm_gr w w' k' P) (h1 : k ≠ k') (h2 : k + 100 ≠ k') (h3 : k + 100 + 100 ≠ k') : jm_X2 E w' k := by
  obtain ⟨a1, a2, a3⟩ := h
  obtain ⟨b1, b2, b3⟩ := g.1 _ a1
  obtain ⟨c1, c2, c3⟩ := g.1 _ a3.1
  exact ⟨b1, by rw [b3 h1, a2, c2], jm_X3_gr a3 g h2 h3⟩
theorem jm_gen {E : jm_E} {G : jm_G} {q : Nat × Nat} {w : jm_W} {I : jm_M} {pc : Nat} {lv : List (Nat × Value)} {st : List Value} (k : ∀ w' : jm_W, w' = w → jm_J E G q w' I pc lv st) : jm_J E G q w I pc lv st := k w rfl
theorem jm_geni {E : jm_E} {G : jm_G} {q : Nat × Nat} {w : jm_W} {I : jm_M} {pc : Nat} {lv : List (Nat × Value)} {st : List Value} (k : ∀ I' : jm_M, I' = I → jm_J E G q w I' pc lv st) : jm_J E G q w I pc lv st := k I rfl
theorem jm_trivX (G : jm_G) : match G with | (_, _, _, s, _, _, _, _, _, _, _) => jm_XT s := by
  obtain ⟨p, e, R, s, m, args, below, meth, c, Q, A⟩ := G
  trivial
theorem jm_AO_1 {G : jm_G} (h : match G with | (_, _, _, s, _, _, _, _, _, _, _) => jm_XA s) : (match G with | (_, _, _, s, _, _, _, _, _, _, _) => va_AO RX1 s) ∧ (match G with | (_, _, _, s, _, _, _, _, _, _, _) => va_AO RX4 s) ∧ (match G with | (_, _, _, s, _, _, _, _, _, _, _) => va_AO RX0 s) := by
  obtain ⟨p, e, R, s, m, args, below, meth, c, Q, A⟩ := G
  exact h
theorem jm_XTm : ∀ u U : State, u.vm.Alike U.vm → jm_XT u → jm_XT U := fun _ _ _ _ => trivial
theorem jm_XAm : ∀ u U : State, u.vm.Alike U.vm → jm_XA u → jm_XA U := fun _ _ h q => ⟨q.1.moved h, q.2.1.moved h, q.2.2.moved h⟩
/-- a method that makes nothing, called on a world -/
theorem jm_Mv_c {E : jm_E} {y : MethodName} {ws : List Cond} {rm : Room} {w : jm_W} {I : jm_M} {as : List Value} {post : jm_M → Prop} (h : jm_Mv E y ws rm 0 0 w I as post) : jm_Mv E y ws rm 0 0 w I as post := h
set_option maxRecDepth 100000 in
theorem jw_L_RL9 : Cond.classLink RL 9 RX5 ∈ jm_W0 := jm_in 30 rfl rfl
set_option maxRecDepth 100000 in
theorem jw_L_RX5_9 : Cond.classLink RX5 9 RX1 ∈ jm_W0 := jm_in 38 rfl rfl
set_option maxRecDepth 100000 in
theorem jw_L_RX5_16 : Cond.classLink RX5 16 RX4 ∈ jm_W0 := jm_in 58 rfl rfl
set_option maxRecDepth 100000 in
theorem jw_L_RX5_23 : Cond.classLink RX5 23 RX0 ∈ jm_W0 := jm_in 77 rfl rfl
set_option maxRecDepth 100000 in
theorem jw_L_RX5_29 : Cond.classLink RX5 29 RX2 ∈ jm_W0 := jm_in 79 rfl rfl
set_option maxRecDepth 100000 in
theorem jw_L_RX2_9 : Cond.classLink RX2 9 RX3 ∈ jm_W0 := jm_in 85 rfl rfl
set_option maxRecDepth 100000 in
theorem jw_L_RX0_9 : Cond.classLink RX0 9 RX3 ∈ jm_W0 := jm_in 493 rfl rfl
set_option maxRecDepth 100000 in
theorem jw_I_RX5 : Cond.instantiable RX5 9 ∈ jm_W0 := jm_in 31 rfl rfl
set_option maxRecDepth 100000 in
theorem jw_I_RX1 : Cond.instantiable RX1 3 ∈ jm_W0 := jm_in 40 rfl rfl
set_option maxRecDepth 100000 in
theorem jw_I_RX4 : Cond.instantiable RX4 3 ∈ jm_W0 := jm_in 60 rfl rfl
set_option maxRecDepth 100000 in
theorem jw_I_RX2 : Cond.instantiable RX2 10 ∈ jm_W0 := jm_in 80 rfl rfl
set_option maxRecDepth 100000 in
theorem jw_I_RX3 : Cond.instantiable RX3 1 ∈ jm_W0 := jm_in 86 rfl rfl
set_option maxRecDepth 100000 in
theorem jw_I_RX0 : Cond.instantiable RX0 13 ∈ jm_W0 := jm_in 488 rfl rfl
set_option maxRecDepth 100000 in
theorem jw_A_int : Cond.arrayClass .int ∈ jm_W0 := jm_in 57 rfl rfl
theorem jm_n_X1 : (RX5, 15, yX1_init, RX5) ∈ jm_nest := List.mem_of_getElem? (i := 0) rfl
theorem jm_n_X4 : (RX5, 22, yX4_init, RX5) ∈ jm_nest := List.mem_of_getElem? (i := 1) rfl
theorem jm_n_X2 : (RX5, 31, yX2_init, RX5) ∈ jm_nest := List.mem_of_getElem? (i := 2) rfl
abbrev rcX3_init : Room := jm_rx rmX3_init 1 6
abbrev rcX1_init : Room := jm_rx rmX1_init 1 549
abbrev rcX4_init : Room := jm_rx rmX4_init 0 0
abbrev rcX2_init : Room := jm_rx rmX2_init 2 7
abbrev rcX0_init : Room := jm_rx rmX0_init 2 7
abbrev rcX5_init : Room := jm_rx rmX5_init 18 1712
abbrev rcX6_init : Room := jm_rx rmX6_init 22 2460
theorem jm_gr_rf (w : jm_W) (k : Int) (P : Int → Prop) : jm_gr w w k P := ⟨fun _ h => ⟨h, rfl, fun _ => rfl⟩, fun _ h => Or.inl h⟩
/-- the same cells, told otherwise -/
theorem jm_same {E : jm_E} {G : jm_G} {q : Nat × Nat} {w w' : jm_W} {I I' : jm_M} {pc : Nat} {lv : List (Nat × Value)} {st : List Value} (h1 : w'.1 = w.1) (h2 : w'.2.1 = w.2.1) (h3 : ∀ k H, k ∈ w.1 → va_at E.2.1 vwCl (jm_f w I k) H → va_at E.2.1 vwCl (jm_f w' I' k) H) (h4 : (∀ k j, jm_R (I k j)) → ∀ k j, jm_R (I' k j)) (kk : jm_J E G q w' I' pc lv st) : jm_J E G q w I pc lv st := by
  obtain ⟨l, D, ca⟩ := E
  obtain ⟨p, e, R, s, m, args, below, meth, c, Q, A⟩ := G
  intro H locs ls hI hP hD hS hl
  refine kk H locs ls (h4 hI) (fun i x hx => ?_) (jm_ws_D hD h1 h2) hS hl
  rw [jm_ws, h1, List.getElem?_map] at hx
  cases hj : w.1[i]? with
  | none => rw [hj] at hx; cases hx
  | some k =>
    rw [hj] at hx
    cases hx
    exact h3 k H (List.mem_of_getElem? hj) (hP i _ (by rw [jm_ws, List.getElem?_map, hj]; rfl))
theorem jm_arrV_c {cA : ClassId} {n : Nat} {f g : Nat → Value} (h : ∀ i, i < n → f i = g i) : arrV cA n f = arrV cA n g := by
  unfold arrV
  congr 1
  refine Array.ext (by simp) (fun i h1 h2 => ?_)
  simp at h1
  simp [h i h1]
theorem jm_nq {E : jm_E} {G : jm_G} {q : Nat × Nat} {w : jm_W} {I : jm_M} {pc : Nat} {lv : List (Nat × Value)} {st : List Value} {k : Int} {cA : ClassId} {n : Nat} {g g' : Nat → Option Nat} (hs : w.2.2 k = jm_Qa cA n g) (hg : ∀ i, i < n → g i = g' i) (kk : jm_J E G q (jm_sh w k (jm_Qa cA n g')) I pc lv st) : jm_J E G q w I pc lv st := by
  refine jm_same (w' := jm_sh w k (jm_Qa cA n g')) rfl rfl (fun z H hz hat => ?_) (fun h => h) kk
  by_cases e : z = k
  · subst e
    unfold jm_f at hat ⊢
    rw [hs] at hat
    rw [jm_sh_s]
    show H[w.2.1 z]? = some (arrV cA n (fun j => va_rf (g' j)))
    rw [← jm_arrV_c (f := fun j => va_rf (g j)) (fun i hi => by rw [hg i hi])]
    exact hat
  · unfold jm_f jm_sh at *
    dsimp only
    rw [if_neg e]
    exact hat
theorem jm_nr {E : jm_E} {G : jm_G} {q : Nat × Nat} {w : jm_W} {I I' : jm_M} {pc : Nat} {lv : List (Nat × Value)} {st : List Value} (hk : ∀ k, k ∈ w.1 → I' k = I k ∨ ∃ cA n, w.2.2 k = jm_Ia cA n ∧ ∀ i : Nat, i < n → I' k i = I k i) (hR : (∀ k j, jm_R (I k j)) → ∀ k j, jm_R (I' k j)) (kk : jm_J E G q w I' pc lv st) : jm_J E G q w I pc lv st := by
  refine jm_same (w' := w) rfl rfl (fun z H hz hat => ?_) hR kk
  rcases hk z hz with e | ⟨cA, n, e1, e2⟩
  · unfold jm_f at *
    rw [e]
    exact hat
  · unfold jm_f at *
    rw [e1] at hat ⊢
    show H[w.2.1 z]? = some (arrV cA n (fun j => Value.int (jm_i (I' z j))))
    rw [jm_arrV_c (g := fun j => Value.int (jm_i (I z j))) (fun i hi => by rw [e2 i hi])]
    exact hat
section JCI2
variable {E : jm_E} {G : jm_G} {q : Nat × Nat} {w : jm_W} {I : jm_M} {pc : Nat} {lv : List (Nat × Value)} {st : List Value} {cc : ByteArray} {nL : Nat} {own : String} {rm : Room} {X : State → Prop}
theorem jm_cI {mc ms maxL index n : Nat} {b : Nat} {y : MethodName} {ws : List Cond} {rmc : Room} {bytes : ByteArray} {As : List Value} {C0 : String} (rest : List Value) {post : jm_W → jm_M → Prop} (hXm : ∀ u U : State, u.vm.Alike U.vm → X u → X U) (hX : match G with | (_, _, _, s, _, _, _, _, _, _, _) => X s) (C : jm_C E G cc nL own rm) (hM : jm_Mcx X E y ws rmc mc ms w I (.ref b :: As) post) (hlnk : Cond.methodLink own index y ∈ jm_W0) (hok : jm_okI C0 y bytes maxL n) (hw : ws = Cond.code y bytes maxL none :: jm_W0) (hr : rmc.cells = mc ∧ rmc.slots = ms) (hR : rmc.frames + 1 ≤ rm.frames ∧ 8 + (maxL + 11) + rmc.locals ≤ rm.locals) (hn : As.length = n) (hst : st = As.reverse ++ .ref b :: rest) (hcat : (rest.map fun v => v.category).sum ≤ 8) (hd : decode cc pc = .ok (.invokespecial index, 3)) (hf : q.1 + mc ≤ rm.cells ∧ q.2 + ms ≤ rm.slots) (kk : ∀ (w' : jm_W) (I' : jm_M), post w' I' → jm_J E G (q.1 + mc, q.2 + ms) w' I' (pc + 3) lv rest) : jm_J E G q w I pc lv st :=
  jm_callc C (jm_runI hXm hX C hM hlnk hok hw hr hR hn hst hcat hd hf) kk
theorem jm_cIN {mc ms maxL index n : Nat} {b : Nat} {y : MethodName} {ws : List Cond} {rmc : Room} {bytes : ByteArray} {As : List Value} {C0 : String} (rest : List Value) {post : jm_W → jm_M → Prop} (host : String) (hXm : ∀ u U : State, u.vm.Alike U.vm → X u → X U) (hX : match G with | (_, _, _, s, _, _, _, _, _, _, _) => X s) (C : jm_C E G cc nL own rm) (hM : jm_Mcx X E y ws rmc mc ms w I (.ref b :: As) post) (hne : (own, index, y, host) ∈ jm_nest) (hok : jm_okI C0 y bytes maxL n) (hw : ws = Cond.code y bytes maxL none :: jm_W0) (hr : rmc.cells = mc ∧ rmc.slots = ms) (hR : rmc.frames + 1 ≤ rm.frames ∧ 8 + (maxL + 11) + rmc.locals ≤ rm.locals) (hn : As.length = n) (hst : st = As.reverse ++ .ref b :: rest) (hcat : (rest.map fun v => v.category).sum ≤ 8) (hd : decode cc pc = .ok (.invokespecial index, 3)) (hf : q.1 + mc ≤ rm.cells ∧ q.2 + ms ≤ rm.slots) (kk : ∀ (w' : jm_W) (I' : jm_M), post w' I' → jm_J E G (q.1 + mc, q.2 + ms) w' I' (pc + 3) lv rest) : jm_J E G q w I pc lv st :=
  jm_callc C (jm_runIN hXm hX C hM hne hok hw hr hR hn hst hcat hd hf) kk
end JCI2
set_option maxRecDepth 100000 in
set_option maxHeartbeats 40000000 in
/-- an end's stones, none of them on the sheet -/
theorem kX3_init (E : jm_E) (w : jm_W) (I : jm_M) (k : Int) (r : Nat) (A_k : w.2.1 k = r) (M_k : k ∈ w.1) (S_k : w.2.2 k = jm_O 3 [some .null]) (N_kp100 : k + 100 ∉ w.1)  : jm_Mcx jm_XT E yX3_init wX3_init rcX3_init 1 6 w I [.ref r] (fun w' I' => jm_gr w w' k (fun z => z = k + 100) ∧ jm_X3 E w' k ∧ I' = hk_fill (jm_z I (k + 100)) (k + 100) 6 (fun _ => -1)) := by
  refine jm_in_c (cc := cX3_init) (maxL := 1) RX3 (by decide +kernel) rfl rfl rfl (Nat.le_of_ble_eq_true rfl) (by simp [Value.category]) ?_
  intro G C hin0 hX hR hI
  have N0_kp100 := N_kp100
  have GT : jm_gr w w k (fun z => z = k + 100) := jm_gr_rf w k _
  refine jm_aload_n C dX3_init_0 rfl ?_
  refine jm_obj C jw_m_RX3_3 (Nat.le_of_ble_eq_true rfl) (Nat.le_of_ble_eq_true rfl) dX3_init_1 ?_
  refine jm_aload_n C dX3_init_4 rfl ?_
  refine jm_bipush C dX3_init_5 (by decide +kernel) ?_
  refine jm_newa (atype := .int) .int 0 6 (k + 100) (by decide) (by decide) rfl (by decide +kernel) C rfl jw_A_int (by decide) N_kp100 ⟨Nat.le_of_ble_eq_true rfl, Nat.le_of_ble_eq_true rfl⟩ dX3_init_7 (fun a_kp100 => ?_)
  refine jm_gen (fun w1 hw1 => ?_)
  have GG : jm_gr w w1 (k + 100) (fun z => z = (k + 100)) := by rw [hw1]; exact jm_gr_ad N_kp100
  replace A_k : w1.2.1 (k) = r := (GG.1 _ M_k).2.1.trans A_k
  replace S_k : w1.2.2 (k) = jm_O 3 [some .null] := ((GG.1 _ M_k).2.2 (by omega)).trans S_k
  replace M_k : (k) ∈ w1.1 := (GG.1 _ M_k).1
  replace GT : jm_gr w w1 (k) (fun z => z = k + 100) := jm_gr_tr GT GG (fun h => absurd h N0_kp100) (fun z e => e.elim id (fun e => by have e : z = (k + 100) := e; exact (show z = k + 100 from by omega)))
  have M_kp100 : (k + 100) ∈ w1.1 := by rw [hw1]; exact jm_ad_m
  have A_kp100 : w1.2.1 (k + 100) = a_kp100 := by rw [hw1]; exact jm_ad_a
  have S_kp100 : w1.2.2 (k + 100) = jm_Ia (E.2.2 0) 6 := by rw [hw1]; exact jm_ad_s
  clear hw1
  rw [← A_k]
  refine jm_putr (ci := 3) (f := 0) (a := a_kp100) C hin0 rfl tyX3 tyX3_ok nmX3 jw_u_3 M_k S_k (Nat.le_of_ble_eq_true rfl) (by decide) jw_f_RX3_9 rfl rfl (tyX3_ok 0 (by decide)) rfl rfl dX3_init_9 ?_
  try rw [A_k]
  refine jm_gen (fun w2 hw2 => ?_)
  have GG : jm_gr w1 w2 (k) (fun _ => False) := by rw [hw2]; exact jm_gr_sh
  replace A_k : w2.2.1 (k) = r := (GG.1 _ M_k).2.1.trans A_k
  replace M_k : (k) ∈ w2.1 := (GG.1 _ M_k).1
  replace A_kp100 : w2.2.1 (k + 100) = a_kp100 := (GG.1 _ M_kp100).2.1.trans A_kp100
  replace S_kp100 : w2.2.2 (k + 100) = jm_Ia (E.2.2 0) 6 := ((GG.1 _ M_kp100).2.2 (by omega)).trans S_kp100
  replace M_kp100 : (k + 100) ∈ w2.1 := (GG.1 _ M_kp100).1
  replace GT : jm_gr w w2 (k) (fun z => z = k + 100) := jm_gr_tr GT GG (fun _ => rfl) (fun z e => e.elim id (fun e => e.elim))
  have S_k : w2.2.2 (k) = jm_O 3 [some (.ref a_kp100)] := by rw [hw2]; exact jm_sh_s
  clear hw2
  refine jm_aload_n C dX3_init_12 rfl ?_
  have XT : jm_X3 E w2 (k) := ⟨M_k, by rw [S_k, A_kp100], M_kp100, S_kp100⟩
  rw [← A_k]
  refine jm_cVu (n := 0) (ci := 3) [] C (kX3_takeAway E w2 (jm_z I (k + 100)) (k) XT) jw_m_RX3_15 okX3_takeAway rfl ⟨rfl, rfl⟩ ⟨Nat.le_of_ble_eq_true rfl, Nat.le_of_ble_eq_true rfl⟩ rfl XT.1 XT.2.1 rfl rfl (Nat.le_of_ble_eq_true rfl) dX3_init_13 ⟨Nat.le_of_ble_eq_true rfl, Nat.le_of_ble_eq_true rfl⟩ ?_
  try rw [A_k]
  refine jm_wid (q' := (1, 6)) (Nat.le_of_ble_eq_true rfl) (Nat.le_of_ble_eq_true rfl) ?_
  exact hR _ _ _ _ dX3_init_16 ⟨GT, ⟨M_k, by rw [S_k, A_kp100], M_kp100, S_kp100⟩, rfl⟩
set_option maxRecDepth 100000 in
set_option maxHeartbeats 40000000 in
/-- a sheet -/
theorem kX1_init (E : jm_E) (w : jm_W) (I : jm_M) (k : Int) (r : Nat) (A_k : w.2.1 k = r) (M_k : k ∈ w.1) (S_k : w.2.2 k = jm_O 1 [some .null, none, none]) (N_kp100 : k + 100 ∉ w.1)  : jm_Mcx jm_XT E yX1_init wX1_init rcX1_init 1 549 w I [.ref r] (fun w' I' => jm_gr w w' k (fun z => z = k + 100) ∧ jm_X1 E w' k ∧ I' = jm_up (jm_up (jm_z I (k + 100)) k 1 1) k 2 (-1)) := by
  refine jm_in_c (cc := cX1_init) (maxL := 1) RX1 (by decide +kernel) rfl rfl rfl (Nat.le_of_ble_eq_true rfl) (by simp [Value.category]) ?_
  intro G C hin0 hX hR hI
  have N0_kp100 := N_kp100
  have GT : jm_gr w w k (fun z => z = k + 100) := jm_gr_rf w k _
  refine jm_aload_n C dX1_init_0 rfl ?_
  refine jm_obj C jw_m_RX1_3 (Nat.le_of_ble_eq_true rfl) (Nat.le_of_ble_eq_true rfl) dX1_init_1 ?_
  refine jm_aload_n C dX1_init_4 rfl ?_
  refine jm_sipush C dX1_init_5 (by decide +kernel) ?_
  refine jm_newa (atype := .int) .int 0 549 (k + 100) (by decide) (by decide) rfl (by decide +kernel) C rfl jw_A_int (by decide) N_kp100 ⟨Nat.le_of_ble_eq_true rfl, Nat.le_of_ble_eq_true rfl⟩ dX1_init_8 (fun a_kp100 => ?_)
  refine jm_gen (fun w1 hw1 => ?_)
  have GG : jm_gr w w1 (k + 100) (fun z => z = (k + 100)) := by rw [hw1]; exact jm_gr_ad N_kp100
  replace A_k : w1.2.1 (k) = r := (GG.1 _ M_k).2.1.trans A_k
  replace S_k : w1.2.2 (k) = jm_O 1 [some .null, none, none] := ((GG.1 _ M_k).2.2 (by omega)).trans S_k
  replace M_k : (k) ∈ w1.1 := (GG.1 _ M_k).1
  replace GT : jm_gr w w1 (k) (fun z => z = k + 100) := jm_gr_tr GT GG (fun h => absurd h N0_kp100) (fun z e => e.elim id (fun e => by have e : z = (k + 100) := e; exact (show z = k + 100 from by omega)))
  have M_kp100 : (k + 100) ∈ w1.1 := by rw [hw1]; exact jm_ad_m
  have A_kp100 : w1.2.1 (k + 100) = a_kp100 := by rw [hw1]; exact jm_ad_a
  have S_kp100 : w1.2.2 (k + 100) = jm_Ia (E.2.2 0) 549 := by rw [hw1]; exact jm_ad_s
  clear hw1
  rw [← A_k]
  refine jm_putr (ci := 1) (f := 0) (a := a_kp100) C hin0 rfl tyX1 tyX1_ok nmX1 jw_u_1 M_k S_k (Nat.le_of_ble_eq_true rfl) (by decide) jw_f_RX1_9 rfl rfl (tyX1_ok 0 (by decide)) rfl rfl dX1_init_10 ?_
  try rw [A_k]
  refine jm_gen (fun w2 hw2 => ?_)
  have GG : jm_gr w1 w2 (k) (fun _ => False) := by rw [hw2]; exact jm_gr_sh
  replace A_k : w2.2.1 (k) = r := (GG.1 _ M_k).2.1.trans A_k
  replace M_k : (k) ∈ w2.1 := (GG.1 _ M_k).1
  replace A_kp100 : w2.2.1 (k + 100) = a_kp100 := (GG.1 _ M_kp100).2.1.trans A_kp100
  replace S_kp100 : w2.2.2 (k + 100) = jm_Ia (E.2.2 0) 549 := ((GG.1 _ M_kp100).2.2 (by omega)).trans S_kp100
  replace M_kp100 : (k + 100) ∈ w2.1 := (GG.1 _ M_kp100).1
  replace GT : jm_gr w w2 (k) (fun z => z = k + 100) := jm_gr_tr GT GG (fun _ => rfl) (fun z e => e.elim id (fun e => e.elim))
  have S_k : w2.2.2 (k) = jm_O 1 [some (.ref a_kp100), none, none] := by rw [hw2]; exact jm_sh_s
  clear hw2
  refine jm_aload_n C dX1_init_13 rfl ?_
  refine jm_iconst C dX1_init_14 ?_
  rw [← A_k]
  refine jm_put (ci := 1) (f := 1) (ty := .boolean) 1 rfl C rfl tyX1 tyX1_ok nmX1 jw_u_1 M_k S_k rfl (by decide) jw_f_RX1_15 rfl (by decide +kernel) (jm_nz (by decide)) (jm_fz (by decide)) dX1_init_15 (by decide) ?_
  try rw [A_k]
  refine jm_aload_n C dX1_init_18 rfl ?_
  refine jm_iconst C dX1_init_19 ?_
  rw [← A_k]
  refine jm_put (ci := 1) (f := 2) (ty := .int) 2 rfl C rfl tyX1 tyX1_ok nmX1 jw_u_1 M_k S_k rfl (by decide) jw_f_RX1_19 rfl (by decide +kernel) rfl rfl dX1_init_20 (by decide) ?_
  try rw [A_k]
  refine jm_wid (q' := (1, 549)) (Nat.le_of_ble_eq_true rfl) (Nat.le_of_ble_eq_true rfl) ?_
  exact hR _ _ _ _ dX1_init_23 ⟨GT, ⟨M_k, by rw [S_k, A_kp100], M_kp100, S_kp100⟩, rfl⟩
set_option maxRecDepth 100000 in
set_option maxHeartbeats 40000000 in
/-- a team -/
theorem kX4_init (E : jm_E) (w : jm_W) (I : jm_M) (k : Int) (r : Nat) (A_k : w.2.1 k = r) (M_k : k ∈ w.1) (S_k : w.2.2 k = jm_O 4 [none, none, none])   : jm_Mcx jm_XT E yX4_init wX4_init rcX4_init 0 0 w I [.ref r] (fun w' I' => jm_gr w w' k (fun _ => False) ∧ jm_X4 E w' k ∧ I' = I) := by
  refine jm_in_c (cc := cX4_init) (maxL := 1) RX4 (by decide +kernel) rfl rfl rfl (Nat.le_of_ble_eq_true rfl) (by simp [Value.category]) ?_
  intro G C hin0 hX hR hI
  have GT : jm_gr w w k (fun _ => False) := jm_gr_rf w k _
  refine jm_aload_n C dX4_init_0 rfl ?_
  refine jm_obj C jw_m_RX4_3 (Nat.le_of_ble_eq_true rfl) (Nat.le_of_ble_eq_true rfl) dX4_init_1 ?_
  refine jm_wid (q' := (0, 0)) (Nat.le_of_ble_eq_true rfl) (Nat.le_of_ble_eq_true rfl) ?_
  exact hR _ _ _ _ dX4_init_4 ⟨GT, ⟨M_k, S_k⟩, rfl⟩
set_option maxRecDepth 100000 in
set_option maxHeartbeats 40000000 in
/-- the slide -/
theorem kX2_init (E : jm_E) (w : jm_W) (I : jm_M) (k : Int) (r : Nat) (A_k : w.2.1 k = r) (M_k : k ∈ w.1) (S_k : w.2.2 k = jm_O 2 [some .null, none, none, none, none, none, none, none, none, none]) (N_kp100 : k + 100 ∉ w.1) (N_kp100p100 : k + 100 + 100 ∉ w.1)  : jm_Mcx jm_XT E yX2_init wX2_init rcX2_init 2 7 w I [.ref r] (fun w' I' => jm_gr w w' k (fun z => z = k + 100 ∨ z = k + 100 + 100) ∧ jm_X2 E w' k ∧ I' = jm_up (hk_fill (jm_z (jm_z I (k + 100)) (k + 100 + 100)) (k + 100 + 100) 6 (fun _ => -1)) k 9 (-1)) := by
  refine jm_in_c (cc := cX2_init) (maxL := 1) RX2 (by decide +kernel) rfl rfl rfl (Nat.le_of_ble_eq_true rfl) (by simp [Value.category]) ?_
  intro G C hin0 hX hR hI
  have N0_kp100 := N_kp100
  have N0_kp100p100 := N_kp100p100
  have GT : jm_gr w w k (fun z => z = k + 100 ∨ z = k + 100 + 100) := jm_gr_rf w k _
  refine jm_aload_n C dX2_init_0 rfl ?_
  refine jm_obj C jw_m_RX2_3 (Nat.le_of_ble_eq_true rfl) (Nat.le_of_ble_eq_true rfl) dX2_init_1 ?_
  refine jm_aload_n C dX2_init_4 rfl ?_
  refine jm_new (ci := 3) (tm := [some .null]) (k + 100) C rfl tyX3 tyX3_ok jw_u_3 jw_L_RX2_9 jw_I_RX3 jw_n_RX3 N_kp100 (by decide +kernel) ⟨Nat.le_of_ble_eq_true rfl, Nat.le_of_ble_eq_true rfl⟩ dX2_init_5 (fun a_kp100 => ?_)
  refine jm_gen (fun w1 hw1 => ?_)
  have GG : jm_gr w w1 (k + 100) (fun z => z = (k + 100)) := by rw [hw1]; exact jm_gr_ad N_kp100
  replace A_k : w1.2.1 (k) = r := (GG.1 _ M_k).2.1.trans A_k
  replace S_k : w1.2.2 (k) = jm_O 2 [some .null, none, none, none, none, none, none, none, none, none] := ((GG.1 _ M_k).2.2 (by omega)).trans S_k
  replace M_k : (k) ∈ w1.1 := (GG.1 _ M_k).1
  replace N_kp100p100 : (k + 100 + 100) ∉ w1.1 := fun h => (GG.2 _ h).elim N_kp100p100 (fun e => absurd (show (k + 100 + 100 : Int) = (k + 100) from e) (by omega))
  replace GT : jm_gr w w1 (k) (fun z => z = k + 100 ∨ z = k + 100 + 100) := jm_gr_tr GT GG (fun h => absurd h N0_kp100) (fun z e => e.elim id (fun e => by have e : z = (k + 100) := e; exact (show z = k + 100 ∨ z = k + 100 + 100 from by omega)))
  have M_kp100 : (k + 100) ∈ w1.1 := by rw [hw1]; exact jm_ad_m
  have A_kp100 : w1.2.1 (k + 100) = a_kp100 := by rw [hw1]; exact jm_ad_a
  have S_kp100 : w1.2.2 (k + 100) = jm_O 3 [some .null] := by rw [hw1]; exact jm_ad_s
  clear hw1
  refine jm_dup C dX2_init_8 rfl ?_
  refine jm_cI (n := 0) [.ref a_kp100, .ref r] jm_XTm (jm_trivX G) C (kX3_init E w1 (jm_z I (k + 100)) (k + 100) a_kp100 A_kp100 M_kp100 S_kp100 N_kp100p100 ) jw_m_RX2_11 okX3_init rfl ⟨rfl, rfl⟩ ⟨Nat.le_of_ble_eq_true rfl, Nat.le_of_ble_eq_true rfl⟩ rfl rfl (Nat.le_of_ble_eq_true rfl) dX2_init_9 ⟨Nat.le_of_ble_eq_true rfl, Nat.le_of_ble_eq_true rfl⟩ (fun w2 I2 hh => ?_)
  obtain ⟨GG, XX, hh⟩ := hh
  subst hh
  replace A_k : w2.2.1 (k) = r := (GG.1 _ M_k).2.1.trans A_k
  replace S_k : w2.2.2 (k) = jm_O 2 [some .null, none, none, none, none, none, none, none, none, none] := ((GG.1 _ M_k).2.2 (by omega)).trans S_k
  replace M_k : (k) ∈ w2.1 := (GG.1 _ M_k).1
  replace A_kp100 : w2.2.1 (k + 100) = a_kp100 := (GG.1 _ M_kp100).2.1.trans A_kp100
  replace M_kp100 : (k + 100) ∈ w2.1 := (GG.1 _ M_kp100).1
  replace GT : jm_gr w w2 (k) (fun z => z = k + 100 ∨ z = k + 100 + 100) := jm_gr_tr GT GG (fun h => absurd h N0_kp100) (fun z e => e.elim id (fun e => by have e : z = (k + 100 + 100) := e; exact (show z = k + 100 ∨ z = k + 100 + 100 from by omega)))
  have X_kp100 := XX
  rw [← A_k]
  refine jm_putr (ci := 2) (f := 0) (a := a_kp100) C hin0 rfl tyX2 tyX2_ok nmX2 jw_u_2 M_k S_k (Nat.le_of_ble_eq_true rfl) (by decide) jw_f_RX2_12 rfl rfl (tyX2_ok 0 (by decide)) rfl rfl dX2_init_12 ?_
  try rw [A_k]
  refine jm_gen (fun w3 hw3 => ?_)
  have GG : jm_gr w2 w3 (k) (fun _ => False) := by rw [hw3]; exact jm_gr_sh
  replace A_k : w3.2.1 (k) = r := (GG.1 _ M_k).2.1.trans A_k
  replace M_k : (k) ∈ w3.1 := (GG.1 _ M_k).1
  replace X_kp100 : jm_X3 E w3 (k + 100) := jm_X3_gr X_kp100 GG (by omega) (by omega)
  replace A_kp100 : w3.2.1 (k + 100) = a_kp100 := (GG.1 _ M_kp100).2.1.trans A_kp100
  replace M_kp100 : (k + 100) ∈ w3.1 := (GG.1 _ M_kp100).1
  replace GT : jm_gr w w3 (k) (fun z => z = k + 100 ∨ z = k + 100 + 100) := jm_gr_tr GT GG (fun _ => rfl) (fun z e => e.elim id (fun e => e.elim))
  have S_k : w3.2.2 (k) = jm_O 2 [some (.ref a_kp100), none, none, none, none, none, none, none, none, none] := by rw [hw3]; exact jm_sh_s
  clear hw3
  refine jm_aload_n C dX2_init_15 rfl ?_
  refine jm_iconst C dX2_init_16 ?_
  rw [← A_k]
  refine jm_put (ci := 2) (f := 9) (ty := .int) 9 rfl C rfl tyX2 tyX2_ok nmX2 jw_u_2 M_k S_k rfl (by decide) jw_f_RX2_18 rfl (by decide +kernel) rfl rfl dX2_init_17 (by decide) ?_
  try rw [A_k]
  refine jm_wid (q' := (2, 7)) (Nat.le_of_ble_eq_true rfl) (Nat.le_of_ble_eq_true rfl) ?_
  exact hR _ _ _ _ dX2_init_20 ⟨GT, ⟨M_k, by rw [S_k, A_kp100], X_kp100⟩, rfl⟩
set_option maxRecDepth 100000 in
set_option maxHeartbeats 40000000 in
/-- a game -/
theorem kX0_init (E : jm_E) (w : jm_W) (I : jm_M) (k : Int) (r : Nat) (A_k : w.2.1 k = r) (M_k : k ∈ w.1) (S_k : w.2.2 k = jm_O 0 [none, none, none, some .null, none, none, none, none, none, none, none, none, none]) (N_kp100 : k + 100 ∉ w.1) (N_kp100p100 : k + 100 + 100 ∉ w.1) (a b h s : Int) (ha : jm_R a) (hb : jm_R b) (hh : jm_R h) (hs : jm_R s) : jm_Mcx jm_XT E yX0_init wX0_init rcX0_init 2 7 w I [.ref r, jm_v a, jm_v b, jm_v h, jm_v s] (fun w' I' => jm_gr w w' k (fun z => z = k + 100 ∨ z = k + 100 + 100) ∧ jm_X0 E w' k ∧ I' = jm_up (jm_up (jm_up (jm_up (jm_up (jm_up (jm_up (hk_fill (jm_z (jm_z I (k + 100)) (k + 100 + 100)) (k + 100 + 100) 6 (fun _ => -1)) k 5 0) k 6 (-1)) k 12 (-1)) k 0 a) k 1 b) k 4 h) k 2 s) := by
  refine jm_in_c (cc := cX0_init) (maxL := 5) RX0 (by decide +kernel) rfl rfl rfl (Nat.le_of_ble_eq_true rfl) (by simp [Value.category]) ?_
  intro G C hin0 hX hR hI
  have N0_kp100 := N_kp100
  have N0_kp100p100 := N_kp100p100
  have GT : jm_gr w w k (fun z => z = k + 100 ∨ z = k + 100 + 100) := jm_gr_rf w k _
  refine jm_aload_n C dX0_init_0 rfl ?_
  refine jm_obj C jw_m_RX0_3 (Nat.le_of_ble_eq_true rfl) (Nat.le_of_ble_eq_true rfl) dX0_init_1 ?_
  refine jm_aload_n C dX0_init_4 rfl ?_
  refine jm_new (ci := 3) (tm := [some .null]) (k + 100) C rfl tyX3 tyX3_ok jw_u_3 jw_L_RX0_9 jw_I_RX3 jw_n_RX3 N_kp100 (by decide +kernel) ⟨Nat.le_of_ble_eq_true rfl, Nat.le_of_ble_eq_true rfl⟩ dX0_init_5 (fun a_kp100 => ?_)
  refine jm_gen (fun w1 hw1 => ?_)
  have GG : jm_gr w w1 (k + 100) (fun z => z = (k + 100)) := by rw [hw1]; exact jm_gr_ad N_kp100
  replace A_k : w1.2.1 (k) = r := (GG.1 _ M_k).2.1.trans A_k
  replace S_k : w1.2.2 (k) = jm_O 0 [none, none, none, some .null, none, none, none, none, none, none, none, none, none] := ((GG.1 _ M_k).2.2 (by omega)).trans S_k
  replace M_k : (k) ∈ w1.1 := (GG.1 _ M_k).1
  replace N_kp100p100 : (k + 100 + 100) ∉ w1.1 := fun h => (GG.2 _ h).elim N_kp100p100 (fun e => absurd (show (k + 100 + 100 : Int) = (k + 100) from e) (by omega))
  replace GT : jm_gr w w1 (k) (fun z => z = k + 100 ∨ z = k + 100 + 100) := jm_gr_tr GT GG (fun h => absurd h N0_kp100) (fun z e => e.elim id (fun e => by have e : z = (k + 100) := e; exact (show z = k + 100 ∨ z = k + 100 + 100 from by omega)))
  have M_kp100 : (k + 100) ∈ w1.1 := by rw [hw1]; exact jm_ad_m
  have A_kp100 : w1.2.1 (k + 100) = a_kp100 := by rw [hw1]; exact jm_ad_a
  have S_kp100 : w1.2.2 (k + 100) = jm_O 3 [some .null] := by rw [hw1]; exact jm_ad_s
  clear hw1
  refine jm_dup C dX0_init_8 rfl ?_
  refine jm_cI (n := 0) [.ref a_kp100, .ref r] jm_XTm (jm_trivX G) C (kX3_init E w1 (jm_z I (k + 100)) (k + 100) a_kp100 A_kp100 M_kp100 S_kp100 N_kp100p100 ) jw_m_RX0_11 okX3_init rfl ⟨rfl, rfl⟩ ⟨Nat.le_of_ble_eq_true rfl, Nat.le_of_ble_eq_true rfl⟩ rfl rfl (Nat.le_of_ble_eq_true rfl) dX0_init_9 ⟨Nat.le_of_ble_eq_true rfl, Nat.le_of_ble_eq_true rfl⟩ (fun w2 I2 hh => ?_)
  obtain ⟨GG, XX, hh⟩ := hh
  subst hh
  replace A_k : w2.2.1 (k) = r := (GG.1 _ M_k).2.1.trans A_k
  replace S_k : w2.2.2 (k) = jm_O 0 [none, none, none, some .null, none, none, none, none, none, none, none, none, none] := ((GG.1 _ M_k).2.2 (by omega)).trans S_k
  replace M_k : (k) ∈ w2.1 := (GG.1 _ M_k).1
  replace A_kp100 : w2.2.1 (k + 100) = a_kp100 := (GG.1 _ M_kp100).2.1.trans A_kp100
  replace M_kp100 : (k + 100) ∈ w2.1 := (GG.1 _ M_kp100).1
  replace GT : jm_gr w w2 (k) (fun z => z = k + 100 ∨ z = k + 100 + 100) := jm_gr_tr GT GG (fun h => absurd h N0_kp100) (fun z e => e.elim id (fun e => by have e : z = (k + 100 + 100) := e; exact (show z = k + 100 ∨ z = k + 100 + 100 from by omega)))
  have X_kp100 := XX
  rw [← A_k]
  refine jm_putr (ci := 0) (f := 3) (a := a_kp100) C hin0 rfl tyX0 tyX0_ok nmX0 jw_u_0 M_k S_k (Nat.le_of_ble_eq_true rfl) (by decide) jw_f_RX0_12 rfl rfl (tyX0_ok 3 (by decide)) rfl rfl dX0_init_12 ?_
  try rw [A_k]
  refine jm_gen (fun w3 hw3 => ?_)
  have GG : jm_gr w2 w3 (k) (fun _ => False) := by rw [hw3]; exact jm_gr_sh
  replace A_k : w3.2.1 (k) = r := (GG.1 _ M_k).2.1.trans A_k
  replace M_k : (k) ∈ w3.1 := (GG.1 _ M_k).1
  replace X_kp100 : jm_X3 E w3 (k + 100) := jm_X3_gr X_kp100 GG (by omega) (by omega)
  replace A_kp100 : w3.2.1 (k + 100) = a_kp100 := (GG.1 _ M_kp100).2.1.trans A_kp100
  replace M_kp100 : (k + 100) ∈ w3.1 := (GG.1 _ M_kp100).1
  replace GT : jm_gr w w3 (k) (fun z => z = k + 100 ∨ z = k + 100 + 100) := jm_gr_tr GT GG (fun _ => rfl) (fun z e => e.elim id (fun e => e.elim))
  have S_k : w3.2.2 (k) = jm_O 0 [none, none, none, some (.ref a_kp100), none, none, none, none, none, none, none, none, none] := by rw [hw3]; exact jm_sh_s
  clear hw3
  refine jm_aload_n C dX0_init_15 rfl ?_
  refine jm_iconst C dX0_init_16 ?_
  rw [← A_k]
  refine jm_put (ci := 0) (f := 5) (ty := .int) 5 rfl C rfl tyX0 tyX0_ok nmX0 jw_u_0 M_k S_k rfl (by decide) jw_f_RX0_18 rfl (by decide +kernel) rfl rfl dX0_init_17 (by decide) ?_
  try rw [A_k]
  refine jm_aload_n C dX0_init_20 rfl ?_
  refine jm_iconst C dX0_init_21 ?_
  rw [← A_k]
  refine jm_put (ci := 0) (f := 6) (ty := .int) 6 rfl C rfl tyX0 tyX0_ok nmX0 jw_u_0 M_k S_k rfl (by decide) jw_f_RX0_22 rfl (by decide +kernel) rfl rfl dX0_init_22 (by decide) ?_
  try rw [A_k]
  refine jm_aload_n C dX0_init_25 rfl ?_
  refine jm_iconst C dX0_init_26 ?_
  rw [← A_k]
  refine jm_put (ci := 0) (f := 12) (ty := .int) 12 rfl C rfl tyX0 tyX0_ok nmX0 jw_u_0 M_k S_k rfl (by decide) jw_f_RX0_25 rfl (by decide +kernel) rfl rfl dX0_init_27 (by decide) ?_
  try rw [A_k]
  refine jm_aload_n C dX0_init_30 rfl ?_
  refine jm_iload_n C dX0_init_31 rfl ?_
  rw [← A_k]
  refine jm_putF (ci := 0) (f := 0) 0 rfl C hin0 rfl tyX0 tyX0_ok nmX0 jw_u_0 M_k S_k rfl (by decide) jw_f_RX0_28 rfl rfl (by decide +kernel) dX0_init_32 (by omega) ?_
  try rw [A_k]
  refine jm_aload_n C dX0_init_35 rfl ?_
  refine jm_iload_n C dX0_init_36 rfl ?_
  rw [← A_k]
  refine jm_putF (ci := 0) (f := 1) 1 rfl C hin0 rfl tyX0 tyX0_ok nmX0 jw_u_0 M_k S_k rfl (by decide) jw_f_RX0_31 rfl rfl (by decide +kernel) dX0_init_37 (by omega) ?_
  try rw [A_k]
  refine jm_aload_n C dX0_init_40 rfl ?_
  refine jm_iload_n C dX0_init_41 rfl ?_
  rw [← A_k]
  refine jm_put (ci := 0) (f := 4) (ty := .int) 4 rfl C rfl tyX0 tyX0_ok nmX0 jw_u_0 M_k S_k rfl (by decide) jw_f_RX0_34 rfl (by decide +kernel) rfl rfl dX0_init_42 (by omega) ?_
  try rw [A_k]
  refine jm_aload_n C dX0_init_45 rfl ?_
  refine jm_iload C dX0_init_46 rfl ?_
  rw [← A_k]
  refine jm_putF (ci := 0) (f := 2) 2 rfl C hin0 rfl tyX0 tyX0_ok nmX0 jw_u_0 M_k S_k rfl (by decide) jw_f_RX0_37 rfl rfl (by decide +kernel) dX0_init_48 (by omega) ?_
  try rw [A_k]
  refine jm_wid (q' := (2, 7)) (Nat.le_of_ble_eq_true rfl) (Nat.le_of_ble_eq_true rfl) ?_
  exact hR _ _ _ _ dX0_init_51 ⟨GT, ⟨M_k, by rw [S_k, A_kp100], X_kp100⟩, rfl⟩
