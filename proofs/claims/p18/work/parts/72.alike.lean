/-! THE STATE OF BOTH CLUBS; areAlike -/
section JQ
variable {E : jm_E} {G : jm_G} {q : Nat × Nat} {w : jm_W} {I : jm_M} {pc : Nat} {lv : List (Nat × Value)} {st : List Value} {cc : ByteArray} {nL : Nat} {own : String} {rm : Room}
theorem jm_idivp {a b : Int} (C : jm_C E G cc nL own rm) (hd : decode cc pc = .ok (.idiv, 1)) (ha : 0 ≤ a ∧ a ≤ 2147483647) (hb : 0 < b ∧ b ≤ 2147483647) (k : jm_J E G q w I (pc + 1) lv (jm_v (a / b) :: st)) : jm_J E G q w I pc lv (jm_v b :: jm_v a :: st) := by
  refine jm_idiv C hd ⟨by omega, ha.2⟩ ⟨by omega, hb.2⟩ (by omega) ?_
  rw [Int.tdiv_eq_ediv_of_nonneg ha.1]
  exact k
theorem jm_iremp {a b : Int} (C : jm_C E G cc nL own rm) (hd : decode cc pc = .ok (.irem, 1)) (ha : 0 ≤ a ∧ a ≤ 2147483647) (hb : 0 < b ∧ b ≤ 2147483647) (k : jm_J E G q w I (pc + 1) lv (jm_v (a % b) :: st)) : jm_J E G q w I pc lv (jm_v b :: jm_v a :: st) := by
  refine jm_irem C hd ⟨by omega, ha.2⟩ ⟨by omega, hb.2⟩ (by omega) ?_
  rw [Int.tmod_eq_emod_of_nonneg ha.1]
  exact k
theorem jm_cWq {mc ms maxL index n : Nat} {y : MethodName} {ws : List Cond} {rmc : Room} {bytes : ByteArray} {ret : Option FieldType} {hh : List (Nat × Nat × Nat × Nat)} {As : List Value} (rest : List Value) {v : Int} (C : jm_C E G cc nL own rm) (hM : jm_Mi E y ws rmc mc ms w I As (fun I' z => I' = I ∧ z = v)) (hlnk : Cond.methodLink own index y ∈ jm_W0) (hok : jm_okW own y bytes maxL ret hh n) (hw : ws = Cond.codeWith y bytes maxL ret hh :: jm_W0) (hr : rmc.cells = mc ∧ rmc.slots = ms) (hR : rmc.frames + 1 ≤ rm.frames ∧ 8 + (maxL + 11) + rmc.locals ≤ rm.locals) (hn : As.length = n) (hst : st = As.reverse ++ rest) (hcat : (rest.map fun v => v.category).sum ≤ 8) (hd : decode cc pc = .ok (.invokestatic index, 3)) (hf : q.1 + mc ≤ rm.cells ∧ q.2 + ms ≤ rm.slots) (kk : jm_J E G (q.1 + mc, q.2 + ms) w I (pc + 3) lv (jm_v v :: rest)) : jm_J E G q w I pc lv st :=
  jm_cWi rest C hM hlnk hok hw hr hR hn hst hcat hd hf (fun I' z h => by rw [h.1, h.2]; exact kk)
theorem jm_cSq {maxL index n : Nat} {y : MethodName} {ws : List Cond} {rmc : Room} {bytes : ByteArray} {ret : Option FieldType} {As : List Value} (rest : List Value) {v : Int} (C : jm_C E G cc nL own rm) (hM : jm_Mi E y ws rmc 0 0 w I As (fun I' z => I' = I ∧ z = v)) (hlnk : Cond.methodLink own index y ∈ jm_W0) (hok : jm_okS own y bytes maxL ret n) (hw : ws = Cond.code y bytes maxL ret :: jm_W0) (hr : rmc.cells = 0 ∧ rmc.slots = 0) (hR : rmc.frames + 1 ≤ rm.frames ∧ 8 + (maxL + 11) + rmc.locals ≤ rm.locals) (hn : As.length = n) (hst : st = As.reverse ++ rest) (hcat : (rest.map fun v => v.category).sum ≤ 8) (hd : decode cc pc = .ok (.invokestatic index, 3)) (hf : q.1 + 0 ≤ rm.cells ∧ q.2 + 0 ≤ rm.slots) (kk : jm_J E G q w I (pc + 3) lv (jm_v v :: rest)) : jm_J E G q w I pc lv st :=
  jm_cSd rest C hM hlnk hok hw hr hR hn hst hcat hd hf (fun z h => by rw [h]; exact kk)
theorem jm_cVq {maxL index n : Nat} {y : MethodName} {ws : List Cond} {rmc : Room} {bytes : ByteArray} {ret : Option FieldType} {As : List Value} {ci : Nat} {k : Int} {tm : List (Option Value)} {C0 : String} {T : u_T} {N : Nat} (rest : List Value) {v : Int} (C : jm_C E G cc nL own rm) (hM : jm_Mi E y ws rmc 0 0 w I (.ref (w.2.1 k) :: As) (fun I' z => I' = I ∧ z = v)) (hlnk : Cond.methodLink own index y ∈ jm_W0) (hok : jm_okV C0 y bytes maxL ret n) (hw : ws = Cond.code y bytes maxL ret :: jm_W0) (hr : rmc.cells = 0 ∧ rmc.slots = 0) (hR : rmc.frames + 1 ≤ rm.frames ∧ 8 + (maxL + 11) + rmc.locals ≤ rm.locals) (hc : vwCl[ci]? = some (C0, T, N)) (hk : k ∈ w.1) (hs : w.2.2 k = jm_O ci tm) (hn : As.length = n) (hst : st = As.reverse ++ .ref (w.2.1 k) :: rest) (hcat : (rest.map fun v => v.category).sum ≤ 8) (hd : decode cc pc = .ok (.invokevirtual index, 3)) (hf : q.1 + 0 ≤ rm.cells ∧ q.2 + 0 ≤ rm.slots) (kk : jm_J E G q w I (pc + 3) lv (jm_v v :: rest)) : jm_J E G q w I pc lv st :=
  jm_cVd rest C hM hlnk hok hw hr hR hc hk hs hn hst hcat hd hf (fun z h => by rw [h]; exact kk)
end JQ
theorem kX5_hour (E : jm_E) (w : jm_W) (I : jm_M) (ng : Int) (H : jm_X5 E w ng) : jm_Mi E yX5_hour wX5_hour rmX5_hour 0 0 w I [.ref (w.2.1 0)] (fun I' z => I' = I ∧ z = I 0 5) := by
  refine jm_in_i (cc := cX5_hour) (maxL := 1) (rt := .int) RX5 (by decide +kernel) rfl rfl (Nat.le_of_ble_eq_true rfl) (by simp [Value.category]) ?_
  intro G C hR hI
  refine jm_aload_n C dX5_hour_0 rfl ?_
  refine jm_get (ci := 5) (f := 5) 5 rfl C rfl jw_u_5 H.1.1 H.1.2 rfl (by decide) jw_f_RX5_54 dX5_hour_1 (fun yr => ?_)
  exact hR _ _ _ _ dX5_hour_4 rfl ⟨rfl, rfl⟩
def hq_h1 (n z : Int) : Prop := (0 ≤ z ∧ z < 30 + n) ∨ (100 ≤ z ∧ z < 130 + n) ∨ z = 204 ∨ (230 ≤ z ∧ z < 230 + n)
def hq_nd (n m z : Int) : Prop := hq_h1 n z ∨ hq_h1 m (z - 1000)
def hq_L (E : jm_E) (w : jm_W) (I : jm_M) (n : Nat) (T : Int) : Prop := jm_X5 E w n ∧ jm_X5 E (hk_sw w) n ∧ (∀ z, z ∈ w.1 → hq_nd n n z) ∧ hq_K I n T ∧ hq_K (hk_sI I) n T ∧ hq_R I (hk_sI I) n
theorem hq_1000 {E : jm_E} {w : jm_W} {n : Int} (H : jm_X5 E (hk_sw w) n) : 1000 ∈ w.1 ∧ w.2.2 1000 = jm_O 5 [some (.ref ((hk_sw w).2.1 1)), some (.ref ((hk_sw w).2.1 2)), some (.ref ((hk_sw w).2.1 3)), some (.ref ((hk_sw w).2.1 4)), none, none, none, none, none] := by
  have h := H.1
  have e : hk_s 0 = 1000 := by rw [hk_s_a (by decide)]; rfl
  refine ⟨by have z := hk_sw_m.mp h.1; rw [e] at z; exact z, ?_⟩
  have z : w.2.2 (hk_s 0) = _ := h.2
  rw [e] at z
  exact z
abbrev rcL_areAlike : Room := { frames := 13, cells := 430, slots := 2600, locals := 270 }
set_option maxRecDepth 100000 in
set_option maxHeartbeats 8000000 in
theorem kL_areAlike (E : jm_E) (hl0 : E.1.stackTraces = false) (w : jm_W) (I : jm_M) (n : Nat) (T : Int) (L : hq_L E w I n T) (hn : n ≤ 4) (v : Int) (hv : 0 ≤ v ∧ v ≤ 1073741823) : jm_Mi E yL_areAlike wL_areAlike rcL_areAlike 430 2600 w I [.ref (w.2.1 0), .ref (w.2.1 1000), jm_v n, jm_v v] (fun I' z => I' = I ∧ z = 1) := by
  refine jm_in_i (cc := cL_areAlike) (maxL := 7) (rt := .boolean) RL (by decide +kernel) rfl rfl (Nat.le_of_ble_eq_true rfl) (by simp [Value.category]) ?_
  intro G C hR hI
  obtain ⟨X1, X2, -, K, K2, R⟩ := L
  have Q2 := hq_1000 X2
  have gd : ∀ g : Int, 0 ≤ g → g < n → hk_good (I (30 + g + 100 + 100)) := fun g h0 h1 => hq_K_good K h0 h1
  have fin : ∀ (x : Int) (a b : Nat), a ≤ 430 → b ≤ 2600 → jm_J E G (a, b) w I 397 [(5, jm_v x), (4, jm_v 1), (3, jm_v v), (2, jm_v (n : Int)), (1, .ref (w.2.1 1000)), (0, .ref (w.2.1 0))] [] := fun x a b ha hb => by
    refine jm_iload C dL_areAlike_397 rfl ?_
    refine jm_wid (q' := (430, 2600)) ha hb ?_
    exact hR _ _ _ _ dL_areAlike_399 rfl ⟨rfl, rfl⟩
  have lpD : ∀ (d k : Nat), k + d = 6 → jm_J E G (352 + 12 * k, 2112 + 72 * k) w I 309 [(5, jm_v (k : Int)), (4, jm_v 1), (3, jm_v v), (2, jm_v (n : Int)), (1, .ref (w.2.1 1000)), (0, .ref (w.2.1 0))] [] := by
    intro d
    induction d with
    | zero =>
      intro k hk
      refine jm_iload C dL_areAlike_309 rfl ?_
      refine jm_bipush C dL_areAlike_311 (by decide +kernel) ?_
      refine jm_icmp_ge 397 C dL_areAlike_313 rfl (by constructor <;> omega) (by decide) (fun _ => ?_) (fun h => absurd (show (6 : Int) ≤ (k : Int) by omega) h)
      exact fin _ _ _ (by omega) (by omega)
    | succ d ih =>
      intro k hk
      refine jm_iload C dL_areAlike_309 rfl ?_
      refine jm_bipush C dL_areAlike_311 (by decide +kernel) ?_
      refine jm_icmp_ge 397 C dL_areAlike_313 rfl (by constructor <;> omega) (by decide) (fun h => absurd h (by omega)) (fun _ => ?_)
      refine jm_iload C dL_areAlike_316 rfl ?_
      refine jm_if_eq 397 C dL_areAlike_318 rfl (by decide) (fun h => absurd h (by decide)) (fun _ => ?_)
      refine jm_aload_n C dL_areAlike_321 rfl ?_
      refine jm_bipush C dL_areAlike_322 (by decide +kernel) ?_
      refine jm_iload C dL_areAlike_324 rfl ?_
      refine jm_iconst C dL_areAlike_326 ?_
      refine jm_cWq (n := 4) [] C (kL_d7 E hl0 w I n X1 (k : Int) 0 (by constructor <;> omega) (by omega)) jw_m_RL_67 okL_does rfl ⟨rfl, rfl⟩ ⟨Nat.le_of_ble_eq_true rfl, Nat.le_of_ble_eq_true rfl⟩ rfl rfl (Nat.le_of_ble_eq_true rfl) dL_areAlike_327 ⟨by show 352 + 12 * k + 2 ≤ 430; omega, by show 2112 + 72 * k + 12 ≤ 2600; omega⟩ ?_
      refine jm_aload_n C dL_areAlike_330 rfl ?_
      refine jm_bipush C dL_areAlike_331 (by decide +kernel) ?_
      refine jm_iload C dL_areAlike_333 rfl ?_
      refine jm_iconst C dL_areAlike_335 ?_
      refine jm_cWq (n := 4) [jm_v (hk_v7 I (k : Int))] C (jm_Mi_q (kL_d7 E hl0 (hk_sw w) (hk_sI I) n X2 (k : Int) 0 (by constructor <;> omega) (by omega))) jw_m_RL_67 okL_does rfl ⟨rfl, rfl⟩ ⟨Nat.le_of_ble_eq_true rfl, Nat.le_of_ble_eq_true rfl⟩ rfl rfl (Nat.le_of_ble_eq_true rfl) dL_areAlike_336 ⟨by show 352 + 12 * k + 2 + 2 ≤ 430; omega, by show 2112 + 72 * k + 12 + 12 ≤ 2600; omega⟩ ?_
      refine jm_icmp_ns 388 C dL_areAlike_339 rfl (hq_v7 R _) ?_
      refine jm_aload_n C dL_areAlike_342 rfl ?_
      refine jm_bipush C dL_areAlike_343 (by decide +kernel) ?_
      refine jm_iload C dL_areAlike_345 rfl ?_
      refine jm_iconst C dL_areAlike_347 ?_
      refine jm_cWq (n := 4) [] C (kL_d8 E hl0 w I n X1 (k : Int) 0 (by constructor <;> omega) (by decide) (by omega) (by decide)) jw_m_RL_67 okL_does rfl ⟨rfl, rfl⟩ ⟨Nat.le_of_ble_eq_true rfl, Nat.le_of_ble_eq_true rfl⟩ rfl rfl (Nat.le_of_ble_eq_true rfl) dL_areAlike_348 ⟨by show 352 + 12 * k + 2 + 2 + 2 ≤ 430; omega, by show 2112 + 72 * k + 12 + 12 + 12 ≤ 2600; omega⟩ ?_
      refine jm_aload_n C dL_areAlike_351 rfl ?_
      refine jm_bipush C dL_areAlike_352 (by decide +kernel) ?_
      refine jm_iload C dL_areAlike_354 rfl ?_
      refine jm_iconst C dL_areAlike_356 ?_
      refine jm_cWq (n := 4) [jm_v (hk_v8 I (k : Int) 0)] C (jm_Mi_q (kL_d8 E hl0 (hk_sw w) (hk_sI I) n X2 (k : Int) 0 (by constructor <;> omega) (by decide) (by omega) (by decide))) jw_m_RL_67 okL_does rfl ⟨rfl, rfl⟩ ⟨Nat.le_of_ble_eq_true rfl, Nat.le_of_ble_eq_true rfl⟩ rfl rfl (Nat.le_of_ble_eq_true rfl) dL_areAlike_357 ⟨by show 352 + 12 * k + 2 + 2 + 2 + 2 ≤ 430; omega, by show 2112 + 72 * k + 12 + 12 + 12 + 12 ≤ 2600; omega⟩ ?_
      refine jm_icmp_ns 388 C dL_areAlike_360 rfl (hq_v8 R (by omega)) ?_
      refine jm_aload_n C dL_areAlike_363 rfl ?_
      refine jm_bipush C dL_areAlike_364 (by decide +kernel) ?_
      refine jm_iload C dL_areAlike_366 rfl ?_
      refine jm_iconst C dL_areAlike_368 ?_
      refine jm_cWq (n := 4) [] C (kL_d8 E hl0 w I n X1 (k : Int) 2 (by constructor <;> omega) (by decide) (by omega) (by decide)) jw_m_RL_67 okL_does rfl ⟨rfl, rfl⟩ ⟨Nat.le_of_ble_eq_true rfl, Nat.le_of_ble_eq_true rfl⟩ rfl rfl (Nat.le_of_ble_eq_true rfl) dL_areAlike_369 ⟨by show 352 + 12 * k + 2 + 2 + 2 + 2 + 2 ≤ 430; omega, by show 2112 + 72 * k + 12 + 12 + 12 + 12 + 12 ≤ 2600; omega⟩ ?_
      refine jm_aload_n C dL_areAlike_372 rfl ?_
      refine jm_bipush C dL_areAlike_373 (by decide +kernel) ?_
      refine jm_iload C dL_areAlike_375 rfl ?_
      refine jm_iconst C dL_areAlike_377 ?_
      refine jm_cWq (n := 4) [jm_v (hk_v8 I (k : Int) 2)] C (jm_Mi_q (kL_d8 E hl0 (hk_sw w) (hk_sI I) n X2 (k : Int) 2 (by constructor <;> omega) (by decide) (by omega) (by decide))) jw_m_RL_67 okL_does rfl ⟨rfl, rfl⟩ ⟨Nat.le_of_ble_eq_true rfl, Nat.le_of_ble_eq_true rfl⟩ rfl rfl (Nat.le_of_ble_eq_true rfl) dL_areAlike_378 ⟨by show 352 + 12 * k + 2 + 2 + 2 + 2 + 2 + 2 ≤ 430; omega, by show 2112 + 72 * k + 12 + 12 + 12 + 12 + 12 + 12 ≤ 2600; omega⟩ ?_
      refine jm_icmp_ns 388 C dL_areAlike_381 rfl (hq_v8 R (by omega)) ?_
      refine jm_iconst C dL_areAlike_384 ?_
      refine jm_goto 389 C dL_areAlike_385 rfl ?_
      refine jm_istore C dL_areAlike_389 (by decide) ?_
      refine jm_iinc C dL_areAlike_391 (by decide) rfl ?_
      refine jm_goto 309 C dL_areAlike_394 rfl ?_
      refine jm_lvs (lv' := [(5, jm_v ((k + 1 : Nat) : Int)), (4, jm_v 1), (3, jm_v v), (2, jm_v (n : Int)), (1, .ref (w.2.1 1000)), (0, .ref (w.2.1 0))]) (jm_sub_c rfl (jm_sub_c rfl (jm_sub_c rfl (jm_sub_c rfl (jm_sub_c rfl (jm_sub_c rfl (jm_sub_0 _))))))) ?_
      refine jm_wid (q' := (352 + 12 * (k + 1), 2112 + 72 * (k + 1))) (by show 352 + 12 * k + 2 + 2 + 2 + 2 + 2 + 2 ≤ 352 + 12 * (k + 1); omega) (by show 2112 + 72 * k + 12 + 12 + 12 + 12 + 12 + 12 ≤ 2112 + 72 * (k + 1); omega) ?_
      exact ih (k + 1) (by omega)
  have lpC : ∀ (d k : Nat), k + d = 12 → jm_J E G (256 + 8 * k, 1536 + 48 * k) w I 202 [(5, jm_v (k : Int)), (4, jm_v 1), (3, jm_v v), (2, jm_v (n : Int)), (1, .ref (w.2.1 1000)), (0, .ref (w.2.1 0))] [] := by
    intro d
    induction d with
    | zero =>
      intro k hk
      refine jm_iload C dL_areAlike_202 rfl ?_
      refine jm_bipush C dL_areAlike_204 (by decide +kernel) ?_
      refine jm_icmp_ge 306 C dL_areAlike_206 rfl (by constructor <;> omega) (by decide) (fun _ => ?_) (fun h => absurd (show (12 : Int) ≤ (k : Int) by omega) h)
      refine jm_iconst C dL_areAlike_306 ?_
      refine jm_istore C dL_areAlike_307 (by decide) ?_
      refine jm_lvs (lv' := [(5, jm_v ((0 : Nat) : Int)), (4, jm_v 1), (3, jm_v v), (2, jm_v (n : Int)), (1, .ref (w.2.1 1000)), (0, .ref (w.2.1 0))]) (jm_sub_c rfl (jm_sub_c rfl (jm_sub_c rfl (jm_sub_c rfl (jm_sub_c rfl (jm_sub_c rfl (jm_sub_0 _))))))) ?_
      refine jm_wid (q' := (352 + 12 * 0, 2112 + 72 * 0)) (by show 256 + 8 * k ≤ 352; omega) (by show 1536 + 48 * k ≤ 2112; omega) ?_
      exact lpD 6 0 rfl
    | succ d ih =>
      intro k hk
      refine jm_iload C dL_areAlike_202 rfl ?_
      refine jm_bipush C dL_areAlike_204 (by decide +kernel) ?_
      refine jm_icmp_ge 306 C dL_areAlike_206 rfl (by constructor <;> omega) (by decide) (fun h => absurd h (by omega)) (fun _ => ?_)
      refine jm_iload C dL_areAlike_209 rfl ?_
      refine jm_if_eq 306 C dL_areAlike_211 rfl (by decide) (fun h => absurd h (by decide)) (fun _ => ?_)
      refine jm_aload_n C dL_areAlike_214 rfl ?_
      refine jm_iconst C dL_areAlike_215 ?_
      refine jm_iload C dL_areAlike_216 rfl ?_
      refine jm_iconst C dL_areAlike_218 ?_
      refine jm_idivp C dL_areAlike_219 (by omega) (by decide) ?_
      refine jm_iload C dL_areAlike_220 rfl ?_
      refine jm_iconst C dL_areAlike_222 ?_
      refine jm_iremp C dL_areAlike_223 (by omega) (by decide) ?_
      refine jm_cWq (n := 4) [] C (kL_d2 E hl0 w I n X1 ((k : Int) / 4) ((k : Int) % 4) (by constructor <;> omega) (by constructor <;> omega) (by omega) (by omega)) jw_m_RL_67 okL_does rfl ⟨rfl, rfl⟩ ⟨Nat.le_of_ble_eq_true rfl, Nat.le_of_ble_eq_true rfl⟩ rfl rfl (Nat.le_of_ble_eq_true rfl) dL_areAlike_224 ⟨by show 256 + 8 * k + 2 ≤ 430; omega, by show 1536 + 48 * k + 12 ≤ 2600; omega⟩ ?_
      refine jm_aload_n C dL_areAlike_227 rfl ?_
      refine jm_iconst C dL_areAlike_228 ?_
      refine jm_iload C dL_areAlike_229 rfl ?_
      refine jm_iconst C dL_areAlike_231 ?_
      refine jm_idivp C dL_areAlike_232 (by omega) (by decide) ?_
      refine jm_iload C dL_areAlike_233 rfl ?_
      refine jm_iconst C dL_areAlike_235 ?_
      refine jm_iremp C dL_areAlike_236 (by omega) (by decide) ?_
      refine jm_cWq (n := 4) [jm_v (hk_v2 I ((k : Int) / 4) ((k : Int) % 4))] C (jm_Mi_q (kL_d2 E hl0 (hk_sw w) (hk_sI I) n X2 ((k : Int) / 4) ((k : Int) % 4) (by constructor <;> omega) (by constructor <;> omega) (by omega) (by omega))) jw_m_RL_67 okL_does rfl ⟨rfl, rfl⟩ ⟨Nat.le_of_ble_eq_true rfl, Nat.le_of_ble_eq_true rfl⟩ rfl rfl (Nat.le_of_ble_eq_true rfl) dL_areAlike_237 ⟨by show 256 + 8 * k + 2 + 2 ≤ 430; omega, by show 1536 + 48 * k + 12 + 12 ≤ 2600; omega⟩ ?_
      refine jm_icmp_ns 297 C dL_areAlike_240 rfl (hq_v2 R (by omega)) ?_
      refine jm_aload_n C dL_areAlike_243 rfl ?_
      refine jm_iload C dL_areAlike_244 rfl ?_
      refine jm_iconst C dL_areAlike_246 ?_
      refine jm_iremp C dL_areAlike_247 (by omega) (by decide) ?_
      refine jm_iload_n C dL_areAlike_248 rfl ?_
      refine jm_bipush C dL_areAlike_249 (by decide +kernel) ?_
      refine jm_iremp C dL_areAlike_251 (by omega) (by decide) ?_
      refine jm_iload_n C dL_areAlike_252 rfl ?_
      refine jm_bipush C dL_areAlike_253 (by decide +kernel) ?_
      refine jm_idivp C dL_areAlike_255 (by omega) (by decide) ?_
      refine jm_bipush C dL_areAlike_256 (by decide +kernel) ?_
      refine jm_iremp C dL_areAlike_258 (by omega) (by decide) ?_
      refine jm_iload C dL_areAlike_259 rfl ?_
      refine jm_iadd C dL_areAlike_261 ?_
      refine jm_cWq (n := 4) [] C (kL_wear E hl0 w I n X1 ((k : Int) % 3) (v % 9) (v / 9 % 50 + (k : Int)) (by constructor <;> omega) (by constructor <;> omega) (by constructor <;> omega) (by omega) (by omega)) jw_m_RL_78 okL_wear rfl ⟨rfl, rfl⟩ ⟨Nat.le_of_ble_eq_true rfl, Nat.le_of_ble_eq_true rfl⟩ rfl rfl (Nat.le_of_ble_eq_true rfl) dL_areAlike_262 ⟨by show 256 + 8 * k + 2 + 2 + 2 ≤ 430; omega, by show 1536 + 48 * k + 12 + 12 + 12 ≤ 2600; omega⟩ ?_
      refine jm_aload_n C dL_areAlike_265 rfl ?_
      refine jm_iload C dL_areAlike_266 rfl ?_
      refine jm_iconst C dL_areAlike_268 ?_
      refine jm_iremp C dL_areAlike_269 (by omega) (by decide) ?_
      refine jm_bipush C dL_areAlike_270 (by decide +kernel) ?_
      refine jm_iload_n C dL_areAlike_272 rfl ?_
      refine jm_bipush C dL_areAlike_273 (by decide +kernel) ?_
      refine jm_iremp C dL_areAlike_275 (by omega) (by decide) ?_
      refine jm_isub C dL_areAlike_276 ?_
      refine jm_iload_n C dL_areAlike_277 rfl ?_
      refine jm_bipush C dL_areAlike_278 (by decide +kernel) ?_
      refine jm_idivp C dL_areAlike_280 (by omega) (by decide) ?_
      refine jm_bipush C dL_areAlike_281 (by decide +kernel) ?_
      refine jm_iremp C dL_areAlike_283 (by omega) (by decide) ?_
      refine jm_iload C dL_areAlike_284 rfl ?_
      refine jm_iadd C dL_areAlike_286 ?_
      refine jm_cWq (n := 4) [jm_v (hk_v10 I ((k : Int) % 3) (v % 9) (v / 9 % 50 + (k : Int)))] C (jm_Mi_q (kL_wear E hl0 (hk_sw w) (hk_sI I) n X2 ((k : Int) % 3) (8 - v % 9) (v / 9 % 50 + (k : Int)) (by constructor <;> omega) (by constructor <;> omega) (by constructor <;> omega) (by omega) (by omega))) jw_m_RL_78 okL_wear rfl ⟨rfl, rfl⟩ ⟨Nat.le_of_ble_eq_true rfl, Nat.le_of_ble_eq_true rfl⟩ rfl rfl (Nat.le_of_ble_eq_true rfl) dL_areAlike_287 ⟨by show 256 + 8 * k + 2 + 2 + 2 + 2 ≤ 430; omega, by show 1536 + 48 * k + 12 + 12 + 12 + 12 ≤ 2600; omega⟩ ?_
      refine jm_icmp_ns 297 C dL_areAlike_290 rfl (hq_v10 R (by omega) (by omega)) ?_
      refine jm_iconst C dL_areAlike_293 ?_
      refine jm_goto 298 C dL_areAlike_294 rfl ?_
      refine jm_istore C dL_areAlike_298 (by decide) ?_
      refine jm_iinc C dL_areAlike_300 (by decide) rfl ?_
      refine jm_goto 202 C dL_areAlike_303 rfl ?_
      refine jm_lvs (lv' := [(5, jm_v ((k + 1 : Nat) : Int)), (4, jm_v 1), (3, jm_v v), (2, jm_v (n : Int)), (1, .ref (w.2.1 1000)), (0, .ref (w.2.1 0))]) (jm_sub_c rfl (jm_sub_c rfl (jm_sub_c rfl (jm_sub_c rfl (jm_sub_c rfl (jm_sub_c rfl (jm_sub_0 _))))))) ?_
      refine jm_wid (q' := (256 + 8 * (k + 1), 1536 + 48 * (k + 1))) (by show 256 + 8 * k + 2 + 2 + 2 + 2 ≤ 256 + 8 * (k + 1); omega) (by show 1536 + 48 * k + 12 + 12 + 12 + 12 ≤ 1536 + 48 * (k + 1); omega) ?_
      exact ih (k + 1) (by omega)
  have lpA : ∀ (d g : Nat), g + d = n → jm_J E G (64 * g, 384 * g) w I 21 [(5, jm_v (g : Int)), (4, jm_v 1), (3, jm_v v), (2, jm_v (n : Int)), (1, .ref (w.2.1 1000)), (0, .ref (w.2.1 0))] [] := by
    intro d
    induction d with
    | zero =>
      intro g hg
      refine jm_iload C dL_areAlike_21 rfl ?_
      refine jm_iload_n C dL_areAlike_23 rfl ?_
      refine jm_icmp_ge 199 C dL_areAlike_24 rfl (by constructor <;> omega) (by constructor <;> omega) (fun _ => ?_) (fun h => absurd (show (n : Int) ≤ (g : Int) by omega) h)
      refine jm_iconst C dL_areAlike_199 ?_
      refine jm_istore C dL_areAlike_200 (by decide) ?_
      refine jm_lvs (lv' := [(5, jm_v ((0 : Nat) : Int)), (4, jm_v 1), (3, jm_v v), (2, jm_v (n : Int)), (1, .ref (w.2.1 1000)), (0, .ref (w.2.1 0))]) (jm_sub_c rfl (jm_sub_c rfl (jm_sub_c rfl (jm_sub_c rfl (jm_sub_c rfl (jm_sub_c rfl (jm_sub_0 _))))))) ?_
      refine jm_wid (q' := (256 + 8 * 0, 1536 + 48 * 0)) (by show 64 * g ≤ 256; omega) (by show 384 * g ≤ 1536; omega) ?_
      exact lpC 12 0 rfl
    | succ d ih =>
      intro g hg
      refine jm_iload C dL_areAlike_21 rfl ?_
      refine jm_iload_n C dL_areAlike_23 rfl ?_
      refine jm_icmp_ge 199 C dL_areAlike_24 rfl (by constructor <;> omega) (by constructor <;> omega) (fun h => absurd h (by omega)) (fun _ => ?_)
      refine jm_iload C dL_areAlike_27 rfl ?_
      refine jm_if_eq 199 C dL_areAlike_29 rfl (by decide) (fun h => absurd h (by decide)) (fun _ => ?_)
      have lpB : ∀ (d k : Nat), k + d = 6 → jm_J E G (64 * g + 32 + 4 * k, 384 * g + 192 + 24 * k) w I 84 [(6, jm_v (k : Int)), (5, jm_v (g : Int)), (4, jm_v 1), (3, jm_v v), (2, jm_v (n : Int)), (1, .ref (w.2.1 1000)), (0, .ref (w.2.1 0))] [] := by
        intro d
        induction d with
        | zero =>
          intro k hk
          refine jm_iload C dL_areAlike_84 rfl ?_
          refine jm_bipush C dL_areAlike_86 (by decide +kernel) ?_
          refine jm_icmp_ge 143 C dL_areAlike_88 rfl (by constructor <;> omega) (by decide) (fun _ => ?_) (fun h => absurd (show (6 : Int) ≤ (k : Int) by omega) h)
          refine jm_iload C dL_areAlike_143 rfl ?_
          refine jm_if_eq 190 C dL_areAlike_145 rfl (by decide) (fun h => absurd h (by decide)) (fun _ => ?_)
          refine jm_wid (q' := (64 * g + 56, 384 * g + 336)) (by show 64 * g + 32 + 4 * k ≤ 64 * g + 56; omega) (by show 384 * g + 192 + 24 * k ≤ 384 * g + 336; omega) ?_
          refine jm_aload_n C dL_areAlike_148 rfl ?_
          refine jm_iconst C dL_areAlike_149 ?_
          refine jm_iload C dL_areAlike_150 rfl ?_
          refine jm_iconst C dL_areAlike_152 ?_
          refine jm_cWq (n := 4) [] C (kL_d4 E hl0 w I n X1 (g : Int) 0 (by constructor <;> omega) (by omega)) jw_m_RL_67 okL_does rfl ⟨rfl, rfl⟩ ⟨Nat.le_of_ble_eq_true rfl, Nat.le_of_ble_eq_true rfl⟩ rfl rfl (Nat.le_of_ble_eq_true rfl) dL_areAlike_153 ⟨by show 64 * g + 56 + 2 ≤ 430; omega, by show 384 * g + 336 + 12 ≤ 2600; omega⟩ ?_
          refine jm_aload_n C dL_areAlike_156 rfl ?_
          refine jm_iconst C dL_areAlike_157 ?_
          refine jm_iload C dL_areAlike_158 rfl ?_
          refine jm_iconst C dL_areAlike_160 ?_
          refine jm_cWq (n := 4) [jm_v (hk_v4 I (g : Int))] C (jm_Mi_q (kL_d4 E hl0 (hk_sw w) (hk_sI I) n X2 (g : Int) 0 (by constructor <;> omega) (by omega))) jw_m_RL_67 okL_does rfl ⟨rfl, rfl⟩ ⟨Nat.le_of_ble_eq_true rfl, Nat.le_of_ble_eq_true rfl⟩ rfl rfl (Nat.le_of_ble_eq_true rfl) dL_areAlike_161 ⟨by show 64 * g + 56 + 2 + 2 ≤ 430; omega, by show 384 * g + 336 + 12 + 12 ≤ 2600; omega⟩ ?_
          refine jm_icmp_ns 190 C dL_areAlike_164 rfl (hq_v4 R (by omega) (gd _ (by omega) (by omega))) ?_
          refine jm_aload_n C dL_areAlike_167 rfl ?_
          refine jm_iconst C dL_areAlike_168 ?_
          refine jm_iload C dL_areAlike_169 rfl ?_
          refine jm_iconst C dL_areAlike_171 ?_
          refine jm_cWq (n := 4) [] C (kL_d5 E hl0 w I n X1 (g : Int) 0 (by constructor <;> omega) (by omega)) jw_m_RL_67 okL_does rfl ⟨rfl, rfl⟩ ⟨Nat.le_of_ble_eq_true rfl, Nat.le_of_ble_eq_true rfl⟩ rfl rfl (Nat.le_of_ble_eq_true rfl) dL_areAlike_172 ⟨by show 64 * g + 56 + 2 + 2 + 2 ≤ 430; omega, by show 384 * g + 336 + 12 + 12 + 12 ≤ 2600; omega⟩ ?_
          refine jm_aload_n C dL_areAlike_175 rfl ?_
          refine jm_iconst C dL_areAlike_176 ?_
          refine jm_iload C dL_areAlike_177 rfl ?_
          refine jm_iconst C dL_areAlike_179 ?_
          refine jm_cWq (n := 4) [jm_v (hk_v5 I (g : Int))] C (jm_Mi_q (kL_d5 E hl0 (hk_sw w) (hk_sI I) n X2 (g : Int) 0 (by constructor <;> omega) (by omega))) jw_m_RL_67 okL_does rfl ⟨rfl, rfl⟩ ⟨Nat.le_of_ble_eq_true rfl, Nat.le_of_ble_eq_true rfl⟩ rfl rfl (Nat.le_of_ble_eq_true rfl) dL_areAlike_180 ⟨by show 64 * g + 56 + 2 + 2 + 2 + 2 ≤ 430; omega, by show 384 * g + 336 + 12 + 12 + 12 + 12 ≤ 2600; omega⟩ ?_
          refine jm_icmp_ns 190 C dL_areAlike_183 rfl (hq_v5 R (by omega) (gd _ (by omega) (by omega))) ?_
          refine jm_iconst C dL_areAlike_186 ?_
          refine jm_goto 191 C dL_areAlike_187 rfl ?_
          refine jm_istore C dL_areAlike_191 (by decide) ?_
          refine jm_iinc C dL_areAlike_193 (by decide) rfl ?_
          refine jm_goto 21 C dL_areAlike_196 rfl ?_
          refine jm_lvs (lv' := [(5, jm_v ((g + 1 : Nat) : Int)), (4, jm_v 1), (3, jm_v v), (2, jm_v (n : Int)), (1, .ref (w.2.1 1000)), (0, .ref (w.2.1 0))]) (jm_sub_c rfl (jm_sub_c rfl (jm_sub_c rfl (jm_sub_c rfl (jm_sub_c rfl (jm_sub_c rfl (jm_sub_0 _))))))) ?_
          refine jm_wid (q' := (64 * (g + 1), 384 * (g + 1))) (by show 64 * g + 56 + 2 + 2 + 2 + 2 ≤ 64 * (g + 1); omega) (by show 384 * g + 336 + 12 + 12 + 12 + 12 ≤ 384 * (g + 1); omega) ?_
          exact ih (g + 1) (by omega)
        | succ d ih2 =>
          intro k hk
          refine jm_iload C dL_areAlike_84 rfl ?_
          refine jm_bipush C dL_areAlike_86 (by decide +kernel) ?_
          refine jm_icmp_ge 143 C dL_areAlike_88 rfl (by constructor <;> omega) (by decide) (fun h => absurd h (by omega)) (fun _ => ?_)
          refine jm_iload C dL_areAlike_91 rfl ?_
          refine jm_if_eq 143 C dL_areAlike_93 rfl (by decide) (fun h => absurd h (by decide)) (fun _ => ?_)
          have q9 := hq_v9 R (g := (g : Int)) ((k : Int) / 3) ((k : Int) % 3) (by omega) (gd _ (by omega) (by omega))
          refine jm_aload_n C dL_areAlike_96 rfl ?_
          refine jm_iload C dL_areAlike_97 rfl ?_
          refine jm_iload C dL_areAlike_99 rfl ?_
          refine jm_iconst C dL_areAlike_101 ?_
          refine jm_idivp C dL_areAlike_102 (by omega) (by decide) ?_
          refine jm_iload C dL_areAlike_103 rfl ?_
          refine jm_iconst C dL_areAlike_105 ?_
          refine jm_iremp C dL_areAlike_106 (by omega) (by decide) ?_
          refine jm_cWq (n := 4) [] C (kL_stone E hl0 w I n X1 (g : Int) ((k : Int) / 3) ((k : Int) % 3) (by constructor <;> omega) (by constructor <;> omega) (by constructor <;> omega) (by omega) (by omega)) jw_m_RL_73 okL_stone rfl ⟨rfl, rfl⟩ ⟨Nat.le_of_ble_eq_true rfl, Nat.le_of_ble_eq_true rfl⟩ rfl rfl (Nat.le_of_ble_eq_true rfl) dL_areAlike_107 ⟨by show 64 * g + 32 + 4 * k + 2 ≤ 430; omega, by show 384 * g + 192 + 24 * k + 12 ≤ 2600; omega⟩ ?_
          refine jm_cSq (n := 1) [] C (kL_mirrored E w I ((hk_v9 I (g : Int) ((k : Int) / 3) ((k : Int) % 3))) q9.2) jw_m_RL_75 okL_mirrored rfl ⟨rfl, rfl⟩ ⟨Nat.le_of_ble_eq_true rfl, Nat.le_of_ble_eq_true rfl⟩ rfl rfl (Nat.le_of_ble_eq_true rfl) dL_areAlike_110 ⟨by show 64 * g + 32 + 4 * k + 2 + 0 ≤ 430; omega, by show 384 * g + 192 + 24 * k + 12 + 0 ≤ 2600; omega⟩ ?_
          refine jm_aload_n C dL_areAlike_113 rfl ?_
          refine jm_iload C dL_areAlike_114 rfl ?_
          refine jm_iload C dL_areAlike_116 rfl ?_
          refine jm_iconst C dL_areAlike_118 ?_
          refine jm_idivp C dL_areAlike_119 (by omega) (by decide) ?_
          refine jm_iload C dL_areAlike_120 rfl ?_
          refine jm_iconst C dL_areAlike_122 ?_
          refine jm_iremp C dL_areAlike_123 (by omega) (by decide) ?_
          refine jm_cWq (n := 4) [jm_v (hk_mi ((hk_v9 I (g : Int) ((k : Int) / 3) ((k : Int) % 3))))] C (jm_Mi_q (kL_stone E hl0 (hk_sw w) (hk_sI I) n X2 (g : Int) ((k : Int) / 3) ((k : Int) % 3) (by constructor <;> omega) (by constructor <;> omega) (by constructor <;> omega) (by omega) (by omega))) jw_m_RL_73 okL_stone rfl ⟨rfl, rfl⟩ ⟨Nat.le_of_ble_eq_true rfl, Nat.le_of_ble_eq_true rfl⟩ rfl rfl (Nat.le_of_ble_eq_true rfl) dL_areAlike_124 ⟨by show 64 * g + 32 + 4 * k + 2 + 2 ≤ 430; omega, by show 384 * g + 192 + 24 * k + 12 + 12 ≤ 2600; omega⟩ ?_
          refine jm_icmp_ns 134 C dL_areAlike_127 rfl (q9.1) ?_
          refine jm_iconst C dL_areAlike_130 ?_
          refine jm_goto 135 C dL_areAlike_131 rfl ?_
          refine jm_istore C dL_areAlike_135 (by decide) ?_
          refine jm_iinc C dL_areAlike_137 (by decide) rfl ?_
          refine jm_goto 84 C dL_areAlike_140 rfl ?_
          refine jm_lvs (lv' := [(6, jm_v ((k + 1 : Nat) : Int)), (5, jm_v (g : Int)), (4, jm_v 1), (3, jm_v v), (2, jm_v (n : Int)), (1, .ref (w.2.1 1000)), (0, .ref (w.2.1 0))]) (jm_sub_c rfl (jm_sub_c rfl (jm_sub_c rfl (jm_sub_c rfl (jm_sub_c rfl (jm_sub_c rfl (jm_sub_c rfl (jm_sub_0 _)))))))) ?_
          refine jm_wid (q' := (64 * g + 32 + 4 * (k + 1), 384 * g + 192 + 24 * (k + 1))) (by show 64 * g + 32 + 4 * k + 2 + 2 ≤ 64 * g + 32 + 4 * (k + 1); omega) (by show 384 * g + 192 + 24 * k + 12 + 12 ≤ 384 * g + 192 + 24 * (k + 1); omega) ?_
          exact ih2 (k + 1) (by omega)
      have lp8 : ∀ (d k : Nat), k + d = 8 → jm_J E G (64 * g + 4 * k, 384 * g + 24 * k) w I 35 [(6, jm_v (k : Int)), (5, jm_v (g : Int)), (4, jm_v 1), (3, jm_v v), (2, jm_v (n : Int)), (1, .ref (w.2.1 1000)), (0, .ref (w.2.1 0))] [] := by
        intro d
        induction d with
        | zero =>
          intro k hk
          refine jm_iload C dL_areAlike_35 rfl ?_
          refine jm_bipush C dL_areAlike_37 (by decide +kernel) ?_
          refine jm_icmp_ge 81 C dL_areAlike_39 rfl (by constructor <;> omega) (by decide) (fun _ => ?_) (fun h => absurd (show (8 : Int) ≤ (k : Int) by omega) h)
          refine jm_iconst C dL_areAlike_81 ?_
          refine jm_istore C dL_areAlike_82 (by decide) ?_
          refine jm_lvs (lv' := [(6, jm_v ((0 : Nat) : Int)), (5, jm_v (g : Int)), (4, jm_v 1), (3, jm_v v), (2, jm_v (n : Int)), (1, .ref (w.2.1 1000)), (0, .ref (w.2.1 0))]) (jm_sub_c rfl (jm_sub_c rfl (jm_sub_c rfl (jm_sub_c rfl (jm_sub_c rfl (jm_sub_c rfl (jm_sub_c rfl (jm_sub_0 _)))))))) ?_
          refine jm_wid (q' := (64 * g + 32 + 4 * 0, 384 * g + 192 + 24 * 0)) (by show 64 * g + 4 * k ≤ 64 * g + 32; omega) (by show 384 * g + 24 * k ≤ 384 * g + 192; omega) ?_
          exact lpB 6 0 rfl
        | succ d ih2 =>
          intro k hk
          refine jm_iload C dL_areAlike_35 rfl ?_
          refine jm_bipush C dL_areAlike_37 (by decide +kernel) ?_
          refine jm_icmp_ge 81 C dL_areAlike_39 rfl (by constructor <;> omega) (by decide) (fun h => absurd h (by omega)) (fun _ => ?_)
          refine jm_iload C dL_areAlike_42 rfl ?_
          refine jm_if_eq 81 C dL_areAlike_44 rfl (by decide) (fun h => absurd h (by decide)) (fun _ => ?_)
          refine jm_aload_n C dL_areAlike_47 rfl ?_
          refine jm_iconst C dL_areAlike_48 ?_
          refine jm_iload C dL_areAlike_49 rfl ?_
          refine jm_iload C dL_areAlike_51 rfl ?_
          refine jm_cWq (n := 4) [] C (kL_d3 E hl0 w I n X1 (g : Int) (k : Int) (by constructor <;> omega) (by constructor <;> omega) (by omega) (by omega)) jw_m_RL_67 okL_does rfl ⟨rfl, rfl⟩ ⟨Nat.le_of_ble_eq_true rfl, Nat.le_of_ble_eq_true rfl⟩ rfl rfl (Nat.le_of_ble_eq_true rfl) dL_areAlike_53 ⟨by show 64 * g + 4 * k + 2 ≤ 430; omega, by show 384 * g + 24 * k + 12 ≤ 2600; omega⟩ ?_
          refine jm_aload_n C dL_areAlike_56 rfl ?_
          refine jm_iconst C dL_areAlike_57 ?_
          refine jm_iload C dL_areAlike_58 rfl ?_
          refine jm_iload C dL_areAlike_60 rfl ?_
          refine jm_cWq (n := 4) [jm_v (hk_v3 I (g : Int) (k : Int))] C (jm_Mi_q (kL_d3 E hl0 (hk_sw w) (hk_sI I) n X2 (g : Int) (k : Int) (by constructor <;> omega) (by constructor <;> omega) (by omega) (by omega))) jw_m_RL_67 okL_does rfl ⟨rfl, rfl⟩ ⟨Nat.le_of_ble_eq_true rfl, Nat.le_of_ble_eq_true rfl⟩ rfl rfl (Nat.le_of_ble_eq_true rfl) dL_areAlike_62 ⟨by show 64 * g + 4 * k + 2 + 2 ≤ 430; omega, by show 384 * g + 24 * k + 12 + 12 ≤ 2600; omega⟩ ?_
          refine jm_icmp_ns 72 C dL_areAlike_65 rfl (hq_v3 R (by omega)) ?_
          refine jm_iconst C dL_areAlike_68 ?_
          refine jm_goto 73 C dL_areAlike_69 rfl ?_
          refine jm_istore C dL_areAlike_73 (by decide) ?_
          refine jm_iinc C dL_areAlike_75 (by decide) rfl ?_
          refine jm_goto 35 C dL_areAlike_78 rfl ?_
          refine jm_lvs (lv' := [(6, jm_v ((k + 1 : Nat) : Int)), (5, jm_v (g : Int)), (4, jm_v 1), (3, jm_v v), (2, jm_v (n : Int)), (1, .ref (w.2.1 1000)), (0, .ref (w.2.1 0))]) (jm_sub_c rfl (jm_sub_c rfl (jm_sub_c rfl (jm_sub_c rfl (jm_sub_c rfl (jm_sub_c rfl (jm_sub_c rfl (jm_sub_0 _)))))))) ?_
          refine jm_wid (q' := (64 * g + 4 * (k + 1), 384 * g + 24 * (k + 1))) (by show 64 * g + 4 * k + 2 + 2 ≤ 64 * g + 4 * (k + 1); omega) (by show 384 * g + 24 * k + 12 + 12 ≤ 384 * g + 24 * (k + 1); omega) ?_
          exact ih2 (k + 1) (by omega)
      refine jm_iconst C dL_areAlike_32 ?_
      refine jm_istore C dL_areAlike_33 (by decide) ?_
      refine jm_lvs (lv' := [(6, jm_v ((0 : Nat) : Int)), (5, jm_v (g : Int)), (4, jm_v 1), (3, jm_v v), (2, jm_v (n : Int)), (1, .ref (w.2.1 1000)), (0, .ref (w.2.1 0))]) (jm_sub_c rfl (jm_sub_c rfl (jm_sub_c rfl (jm_sub_c rfl (jm_sub_c rfl (jm_sub_c rfl (jm_sub_c rfl (jm_sub_0 _)))))))) ?_
      exact lp8 8 0 rfl
  refine jm_aload_n C dL_areAlike_0 rfl ?_
  refine jm_cVq (n := 0) (ci := 5) [] C (kX5_hour E w I n X1) jw_m_RL_63 okX5_hour rfl ⟨rfl, rfl⟩ ⟨Nat.le_of_ble_eq_true rfl, Nat.le_of_ble_eq_true rfl⟩ rfl X1.1.1 X1.1.2 rfl rfl (Nat.le_of_ble_eq_true rfl) dL_areAlike_1 ⟨Nat.le_of_ble_eq_true rfl, Nat.le_of_ble_eq_true rfl⟩ ?_
  refine jm_aload_n C dL_areAlike_4 rfl ?_
  refine jm_cVq (n := 0) (ci := 5) [jm_v (I 0 5)] C (jm_Mi_q (kX5_hour E (hk_sw w) (hk_sI I) n X2)) jw_m_RL_63 okX5_hour rfl ⟨rfl, rfl⟩ ⟨Nat.le_of_ble_eq_true rfl, Nat.le_of_ble_eq_true rfl⟩ rfl Q2.1 Q2.2 rfl rfl (Nat.le_of_ble_eq_true rfl) dL_areAlike_5 ⟨Nat.le_of_ble_eq_true rfl, Nat.le_of_ble_eq_true rfl⟩ ?_
  refine jm_icmp_ns 15 C dL_areAlike_8 rfl (hq_0 R (by decide)).symm ?_
  refine jm_iconst C dL_areAlike_11 ?_
  refine jm_goto 16 C dL_areAlike_12 rfl ?_
  refine jm_istore C dL_areAlike_16 (by decide) ?_
  refine jm_iconst C dL_areAlike_18 ?_
  refine jm_istore C dL_areAlike_19 (by decide) ?_
  refine jm_lvs (lv' := [(5, jm_v ((0 : Nat) : Int)), (4, jm_v 1), (3, jm_v v), (2, jm_v (n : Int)), (1, .ref (w.2.1 1000)), (0, .ref (w.2.1 0))]) (jm_sub_c rfl (jm_sub_c rfl (jm_sub_c rfl (jm_sub_c rfl (jm_sub_c rfl (jm_sub_c rfl (jm_sub_0 _))))))) ?_
  refine jm_wid (q' := (64 * 0, 384 * 0)) (Nat.le_of_ble_eq_true rfl) (Nat.le_of_ble_eq_true rfl) ?_
  exact lpA n 0 (by omega)
