/-! THE LAW: THROWS, A TURN, ALL TURNS -/
set_option maxRecDepth 100000 in
set_option maxHeartbeats 8000000 in
theorem jq_game {E : jm_E} {G : jm_G} {q : Nat × Nat} {w : jm_W} {I : jm_M} {b n : Nat} {T k v : Int} (hl0 : E.1.stackTraces = false) (C : jm_C E G cL_law 13 RL room_1) (L : hq_L E w I n T) (hn : n ≤ 4) (hn1 : 1 ≤ n) (hv : 0 ≤ v ∧ v ≤ 1073741823) (hf : q.1 + 460 ≤ 600074 ∧ q.2 + 2800 ≤ 7301550) (next : ∀ game : Int, 0 ≤ game → game < n → jm_J E G (q.1 + 16, q.2 + 96) w I 293 ((9, jm_v game) :: hq_lv b (w.2.1 0) (w.2.1 1000) n k v) []) : jm_J E G q w I 239 (hq_lv b (w.2.1 0) (w.2.1 1000) n k v) [] := by
  have X1 := L.1
  have lp : ∀ (d g : Nat) (game : Int), g + d = n → 0 ≤ game → game < n → jm_J E G (q.1 + 4 * g, q.2 + 24 * g) w I 248 ((10, jm_v (g : Int)) :: (9, jm_v game) :: hq_lv b (w.2.1 0) (w.2.1 1000) n k v) [] := by
    intro d
    induction d with
    | zero =>
      intro g game hg g0 g1
      refine jm_iload C dL_law_248 rfl ?_
      refine jm_iload_n C dL_law_250 rfl ?_
      refine jm_icmp_ge 293 C dL_law_251 rfl (by constructor <;> omega) (by constructor <;> omega) (fun _ => ?_) (fun h => absurd (show (n : Int) ≤ (g : Int) by omega) h)
      refine jm_lvs (lv' := (9, jm_v game) :: hq_lv b (w.2.1 0) (w.2.1 1000) n k v) (jm_sub_c rfl (jm_sub_c rfl (jm_sub_c rfl (jm_sub_c rfl (jm_sub_c rfl (jm_sub_c rfl (jm_sub_c rfl (jm_sub_c rfl (jm_sub_0 _))))))))) ?_
      refine jm_wid (q' := (q.1 + 16, q.2 + 96)) (by show q.1 + 4 * g ≤ q.1 + 16; omega) (by show q.2 + 24 * g ≤ q.2 + 96; omega) ?_
      exact next game g0 g1
    | succ d ih =>
      intro g game hg g0 g1
      have tl : ∀ (x y : Nat) (gm : Int), x ≤ q.1 + 4 * (g + 1) → y ≤ q.2 + 24 * (g + 1) → 0 ≤ gm → gm < n → jm_J E G (x, y) w I 285 ((10, jm_v (g : Int)) :: (9, jm_v game) :: hq_lv b (w.2.1 0) (w.2.1 1000) n k v) [jm_v gm] := fun x y gm hx hy m0 m1 => by
        refine jm_istore C dL_law_285 (by decide) ?_
        refine jm_iinc C dL_law_287 (by decide) rfl ?_
        refine jm_goto 248 C dL_law_290 rfl ?_
        refine jm_lvs (lv' := (10, jm_v ((g + 1 : Nat) : Int)) :: (9, jm_v gm) :: hq_lv b (w.2.1 0) (w.2.1 1000) n k v) (jm_sub_c rfl (jm_sub_c rfl (jm_sub_c rfl (jm_sub_c rfl (jm_sub_c rfl (jm_sub_c rfl (jm_sub_c rfl (jm_sub_c rfl (jm_sub_c rfl (jm_sub_0 _)))))))))) ?_
        exact jm_wid (q' := (q.1 + 4 * (g + 1), q.2 + 24 * (g + 1))) hx hy (ih (g + 1) gm (by omega) m0 m1)
      refine jm_R_all (fun hI => ?_)
      have r3 : jm_R (hk_v3 I (g : Int) 0) := hI (30 + (g : Int)) 5
      refine jm_iload C dL_law_248 rfl ?_
      refine jm_iload_n C dL_law_250 rfl ?_
      refine jm_icmp_ge 293 C dL_law_251 rfl (by constructor <;> omega) (by constructor <;> omega) (fun h => absurd h (by omega)) (fun _ => ?_)
      refine jm_aload_n C dL_law_254 rfl ?_
      refine jm_iconst C dL_law_255 ?_
      refine jm_iload C dL_law_256 rfl ?_
      refine jm_iconst C dL_law_258 ?_
      refine jm_cWq (n := 4) [] C (kL_d3 E hl0 w I n X1 (g : Int) 0 (by constructor <;> omega) (by decide) (by omega) (by decide)) jw_m_RL_67 okL_does rfl ⟨rfl, rfl⟩ ⟨Nat.le_of_ble_eq_true rfl, Nat.le_of_ble_eq_true rfl⟩ rfl rfl (Nat.le_of_ble_eq_true rfl) dL_law_259 ⟨by show q.1 + 4 * g + 2 ≤ 600074; omega, by show q.2 + 24 * g + 12 ≤ 7301550; omega⟩ ?_
      refine jm_iconst C dL_law_262 ?_
      refine jm_icmp_eq 278 C dL_law_263 rfl r3 (by decide) (fun _ => ?_) (fun _ => ?_)
      · refine jm_iload C dL_law_278 rfl ?_
        refine jm_goto 285 C dL_law_280 rfl ?_
        exact tl _ _ _ (by show q.1 + 4 * g + 2 ≤ _; omega) (by show q.2 + 24 * g + 12 ≤ _; omega) (by omega) (by omega)
      · refine jm_aload_n C dL_law_266 rfl ?_
        refine jm_iconst C dL_law_267 ?_
        refine jm_iload C dL_law_268 rfl ?_
        refine jm_iconst C dL_law_270 ?_
        refine jm_cWq (n := 4) [] C (kL_d3 E hl0 w I n X1 (g : Int) 0 (by constructor <;> omega) (by decide) (by omega) (by decide)) jw_m_RL_67 okL_does rfl ⟨rfl, rfl⟩ ⟨Nat.le_of_ble_eq_true rfl, Nat.le_of_ble_eq_true rfl⟩ rfl rfl (Nat.le_of_ble_eq_true rfl) dL_law_271 ⟨by show q.1 + 4 * g + 2 + 2 ≤ 600074; omega, by show q.2 + 24 * g + 12 + 12 ≤ 7301550; omega⟩ ?_
        refine jm_iconst C dL_law_274 ?_
        refine jm_icmp_ne 283 C dL_law_275 rfl r3 (by decide) (fun _ => ?_) (fun _ => ?_)
        · refine jm_iload C dL_law_283 rfl ?_
          exact tl _ _ _ (by show q.1 + 4 * g + 2 + 2 ≤ _; omega) (by show q.2 + 24 * g + 12 + 12 ≤ _; omega) g0 g1
        · refine jm_iload C dL_law_278 rfl ?_
          refine jm_goto 285 C dL_law_280 rfl ?_
          exact tl _ _ _ (by show q.1 + 4 * g + 2 + 2 ≤ _; omega) (by show q.2 + 24 * g + 12 + 12 ≤ _; omega) (by omega) (by omega)
  refine jm_iload C dL_law_239 rfl ?_
  refine jm_iload_n C dL_law_241 rfl ?_
  refine jm_iremp C dL_law_242 (by omega) (by omega) ?_
  refine jm_istore C dL_law_243 (by decide) ?_
  refine jm_iconst C dL_law_245 ?_
  refine jm_istore C dL_law_246 (by decide) ?_
  have g0 : 0 ≤ v % (n : Int) := Int.emod_nonneg v (by omega)
  have g1 : v % (n : Int) < n := Int.emod_lt_of_pos v (by omega)
  refine jm_lvs (lv' := (10, jm_v ((0 : Nat) : Int)) :: (9, jm_v (v % (n : Int))) :: hq_lv b (w.2.1 0) (w.2.1 1000) n k v) (jm_sub_c rfl (jm_sub_c rfl (jm_sub_c rfl (jm_sub_c rfl (jm_sub_c rfl (jm_sub_c rfl (jm_sub_c rfl (jm_sub_c rfl (jm_sub_c rfl (jm_sub_0 _)))))))))) ?_
  exact lp n 0 _ (by omega) g0 g1
set_option maxRecDepth 100000 in
set_option maxHeartbeats 8000000 in
theorem jq_throw {E : jm_E} {G : jm_G} {q : Nat × Nat} {w : jm_W} {I : jm_M} {b n : Nat} {T k v : Int} (hl0 : E.1.stackTraces = false) (C : jm_C E G cL_law 13 RL room_1) (L : hq_L E w I n T) {game : Int} (hT : 0 ≤ T ∧ T ≤ 1000) (hg : 0 ≤ game ∧ game < n) (hv : 0 ≤ v ∧ v ≤ 1073741823) (hf : q.1 + 460 ≤ 600074 ∧ q.2 + 2800 ≤ 7301550) (next : ∀ (I2 : jm_M), hq_L E w I2 n (T + 1) → I2 0 5 = I 0 5 → jm_J E G (q.1 + 30, q.2 + 200) w I2 456 (hq_lv b (w.2.1 0) (w.2.1 1000) n k v) []) : jm_J E G (q.1 + 16, q.2 + 96) w I 293 ((9, jm_v game) :: hq_lv b (w.2.1 0) (w.2.1 1000) n k v) [] := by
  have n12 := (hq_K_0 L.2.2.2.1).2.2
  refine jm_iload C dL_law_293 rfl ?_
  refine jm_iconst C dL_law_295 ?_
  refine jm_idivp C dL_law_296 (by omega) (by decide) ?_
  refine jm_bipush C dL_law_297 (by decide +kernel) ?_
  refine jm_iremp C dL_law_299 (by omega) (by decide) ?_
  refine jm_istore C dL_law_300 (by decide) ?_
  obtain ⟨lane, hl⟩ : ∃ x, x = ((v / 4) % 9) := ⟨_, rfl⟩
  rw [← hl]
  refine jm_bipush C dL_law_302 (by decide +kernel) ?_
  refine jm_iload C dL_law_304 rfl ?_
  refine jm_bipush C dL_law_306 (by decide +kernel) ?_
  refine jm_idivp C dL_law_308 (by omega) (by decide) ?_
  refine jm_bipush C dL_law_309 (by decide +kernel) ?_
  refine jm_iremp C dL_law_311 (by omega) (by decide) ?_
  refine jm_iadd C dL_law_312 ?_
  refine jm_istore C dL_law_313 (by decide) ?_
  obtain ⟨wt, hw⟩ : ∃ x, x = (44 + ((v / 36) % 26)) := ⟨_, rfl⟩
  rw [← hw]
  have main : ∀ tn : Int, (tn = -1 ∨ tn = 1) → jm_J E G (q.1 + 16, q.2 + 96) w I 329 ((11, jm_v wt) :: (10, jm_v lane) :: (9, jm_v game) :: hq_lv b (w.2.1 0) (w.2.1 1000) n k v) [jm_v tn] := fun tn ht => by
    refine jm_istore C dL_law_329 (by decide) ?_
    obtain ⟨v61, h61⟩ : ∃ x, x = v % 61 := ⟨_, rfl⟩
    obtain ⟨v7, h7⟩ : ∃ x, x = v / 7 % 61 := ⟨_, rfl⟩
    obtain ⟨v11, h11⟩ : ∃ x, x = v / 11 % 61 := ⟨_, rfl⟩
    have s1 : hk_shot lane (wt + 1) tn 30 v61 := by unfold hk_shot; omega
    have s2 : hk_shot lane wt tn v7 v11 := by unfold hk_shot; omega
    refine jm_aload_n C dL_law_331 rfl ?_
    refine jm_iload C dL_law_332 rfl ?_
    refine jm_iload C dL_law_334 rfl ?_
    refine jm_iload C dL_law_336 rfl ?_
    refine jm_iconst C dL_law_338 ?_
    refine jm_iadd C dL_law_339 ?_
    refine jm_iload C dL_law_340 rfl ?_
    refine jm_bipush C dL_law_342 (by decide +kernel) ?_
    refine jm_iload C dL_law_344 rfl ?_
    refine jm_bipush C dL_law_346 (by decide +kernel) ?_
    refine jm_iremp C dL_law_348 (by omega) (by decide) ?_
    rw [← h61]
    refine jm_cWi (n := 7) [] C (kL_tries E hl0 w I n L.1 game lane (wt + 1) tn 30 v61 (by constructor <;> omega) (by constructor <;> omega) (by constructor <;> omega) (by constructor <;> omega) (by constructor <;> omega) (by constructor <;> omega) (hq_K_pre L.2.2.2.1) hg s1) jw_m_RL_89 okL_tries rfl ⟨rfl, rfl⟩ ⟨Nat.le_of_ble_eq_true rfl, Nat.le_of_ble_eq_true rfl⟩ rfl rfl (Nat.le_of_ble_eq_true rfl) dL_law_349 ⟨by show q.1 + 16 + 2 ≤ 600074; omega, by show q.2 + 96 + 12 ≤ 7301550; omega⟩ (fun I1 z1 p1 => ?_)
    refine jm_cSq (n := 1) [] C (kL_mirrored E w I1 z1 (hq_tries_r L hg s1 p1)) jw_m_RL_75 okL_mirrored rfl ⟨rfl, rfl⟩ ⟨Nat.le_of_ble_eq_true rfl, Nat.le_of_ble_eq_true rfl⟩ rfl rfl (Nat.le_of_ble_eq_true rfl) dL_law_352 ⟨by show q.1 + 16 + 2 + 0 ≤ 600074; omega, by show q.2 + 96 + 12 + 0 ≤ 7301550; omega⟩ ?_
    have m1 := hq_mid L (hq_off_fr (hq_tries_fr p1))
    refine jm_aload_n C dL_law_355 rfl ?_
    refine jm_iload C dL_law_356 rfl ?_
    refine jm_bipush C dL_law_358 (by decide +kernel) ?_
    refine jm_iload C dL_law_360 rfl ?_
    refine jm_isub C dL_law_362 ?_
    refine jm_iload C dL_law_363 rfl ?_
    refine jm_iconst C dL_law_365 ?_
    refine jm_iadd C dL_law_366 ?_
    refine jm_iload C dL_law_367 rfl ?_
    refine jm_ineg C dL_law_369 ?_
    refine jm_bipush C dL_law_370 (by decide +kernel) ?_
    refine jm_iload C dL_law_372 rfl ?_
    refine jm_bipush C dL_law_374 (by decide +kernel) ?_
    refine jm_iremp C dL_law_376 (by omega) (by decide) ?_
    rw [← h61]
    refine jm_cWi (n := 7) [jm_v (hk_mi z1)] C (jm_Mi_p (kL_tries E hl0 (hk_sw w) (hk_sI I1) n L.2.1 game (8 - lane) (wt + 1) (-tn) 30 v61 (by constructor <;> omega) (by constructor <;> omega) (by constructor <;> omega) (by constructor <;> omega) (by constructor <;> omega) (by constructor <;> omega) (hq_K_pre m1.1) hg (hq_sh_m s1))) jw_m_RL_89 okL_tries rfl ⟨rfl, rfl⟩ ⟨Nat.le_of_ble_eq_true rfl, Nat.le_of_ble_eq_true rfl⟩ rfl rfl (Nat.le_of_ble_eq_true rfl) dL_law_377 ⟨by show q.1 + 16 + 2 + 2 ≤ 600074; omega, by show q.2 + 96 + 12 + 12 ≤ 7301550; omega⟩ (fun I2 z2 p2 => ?_)
    have c2 := hq_L_tries L hg s1 p1 p2
    refine jm_icmp_ns 453 C dL_law_380 rfl c2.1 ?_
    have L2 := c2.2.1
    refine jm_aload_n C dL_law_383 rfl ?_
    refine jm_iload C dL_law_384 rfl ?_
    refine jm_iload C dL_law_386 rfl ?_
    refine jm_iload C dL_law_388 rfl ?_
    refine jm_iload C dL_law_390 rfl ?_
    refine jm_iload C dL_law_392 rfl ?_
    refine jm_bipush C dL_law_394 (by decide +kernel) ?_
    refine jm_idivp C dL_law_396 (by omega) (by decide) ?_
    refine jm_bipush C dL_law_397 (by decide +kernel) ?_
    refine jm_iremp C dL_law_399 (by omega) (by decide) ?_
    refine jm_iload C dL_law_400 rfl ?_
    refine jm_bipush C dL_law_402 (by decide +kernel) ?_
    refine jm_idivp C dL_law_404 (by omega) (by decide) ?_
    refine jm_bipush C dL_law_405 (by decide +kernel) ?_
    refine jm_iremp C dL_law_407 (by omega) (by decide) ?_
    rw [← h7, ← h11]
    have tm2 := hq_K_tm L2.2.2.2.1 hT.2
    refine jm_cWi (n := 7) [] C (kL_shoots E hl0 w I2 n L2.1 game lane wt tn v7 v11 (by constructor <;> omega) (by constructor <;> omega) (by constructor <;> omega) (by constructor <;> omega) (by constructor <;> omega) (by constructor <;> omega) (hq_K_pre L2.2.2.2.1) (hq_K_ex L2.2.2.2.1) tm2.1 tm2.2 hg s2) jw_m_RL_92 okL_shoots rfl ⟨rfl, rfl⟩ ⟨Nat.le_of_ble_eq_true rfl, Nat.le_of_ble_eq_true rfl⟩ rfl rfl (Nat.le_of_ble_eq_true rfl) dL_law_408 ⟨by show q.1 + 16 + 2 + 2 + 2 ≤ 600074; omega, by show q.2 + 96 + 12 + 12 + 12 ≤ 7301550; omega⟩ (fun I3 z3 p3 => ?_)
    refine jm_cSq (n := 1) [] C (kL_mirrored E w I3 z3 (hq_shoots_r L2 hg s2 p3)) jw_m_RL_75 okL_mirrored rfl ⟨rfl, rfl⟩ ⟨Nat.le_of_ble_eq_true rfl, Nat.le_of_ble_eq_true rfl⟩ rfl rfl (Nat.le_of_ble_eq_true rfl) dL_law_411 ⟨by show q.1 + 16 + 2 + 2 + 2 + 0 ≤ 600074; omega, by show q.2 + 96 + 12 + 12 + 12 + 0 ≤ 7301550; omega⟩ ?_
    have k3 := hq_K_shoot L2.2.2.2.1 hT.1 hg s2 p3
    have m3 := hq_mid L2 k3.2.1
    have tm3 := hq_K_tm m3.1 hT.2
    refine jm_aload_n C dL_law_414 rfl ?_
    refine jm_iload C dL_law_415 rfl ?_
    refine jm_bipush C dL_law_417 (by decide +kernel) ?_
    refine jm_iload C dL_law_419 rfl ?_
    refine jm_isub C dL_law_421 ?_
    refine jm_iload C dL_law_422 rfl ?_
    refine jm_iload C dL_law_424 rfl ?_
    refine jm_ineg C dL_law_426 ?_
    refine jm_iload C dL_law_427 rfl ?_
    refine jm_bipush C dL_law_429 (by decide +kernel) ?_
    refine jm_idivp C dL_law_431 (by omega) (by decide) ?_
    refine jm_bipush C dL_law_432 (by decide +kernel) ?_
    refine jm_iremp C dL_law_434 (by omega) (by decide) ?_
    refine jm_iload C dL_law_435 rfl ?_
    refine jm_bipush C dL_law_437 (by decide +kernel) ?_
    refine jm_idivp C dL_law_439 (by omega) (by decide) ?_
    refine jm_bipush C dL_law_440 (by decide +kernel) ?_
    refine jm_iremp C dL_law_442 (by omega) (by decide) ?_
    rw [← h7, ← h11]
    refine jm_cWi (n := 7) [jm_v (hk_mi z3)] C (jm_Mi_p (kL_shoots E hl0 (hk_sw w) (hk_sI I3) n L2.2.1 game (8 - lane) wt (-tn) v7 v11 (by constructor <;> omega) (by constructor <;> omega) (by constructor <;> omega) (by constructor <;> omega) (by constructor <;> omega) (by constructor <;> omega) (hq_K_pre m3.1) (hq_K_ex m3.1) tm3.1 tm3.2 hg (hq_sh_m s2))) jw_m_RL_92 okL_shoots rfl ⟨rfl, rfl⟩ ⟨Nat.le_of_ble_eq_true rfl, Nat.le_of_ble_eq_true rfl⟩ rfl rfl (Nat.le_of_ble_eq_true rfl) dL_law_443 ⟨by show q.1 + 16 + 2 + 2 + 2 + 2 ≤ 600074; omega, by show q.2 + 96 + 12 + 12 + 12 + 12 ≤ 7301550; omega⟩ (fun I4 z4 p4 => ?_)
    have c4 := hq_L_shoots L2 hT.1 hg s2 p3 p4
    refine jm_icmp_ns 453 C dL_law_446 rfl c4.1 ?_
    refine jm_iconst C dL_law_449 ?_
    refine jm_goto 454 C dL_law_450 rfl ?_
    refine jm_istore C dL_law_454 (by decide) ?_
    refine jm_lvs (lv' := hq_lv b (w.2.1 0) (w.2.1 1000) n k v) (jm_sub_c rfl (jm_sub_c rfl (jm_sub_c rfl (jm_sub_c rfl (jm_sub_c rfl (jm_sub_c rfl (jm_sub_c rfl (jm_sub_0 _)))))))) ?_
    refine jm_wid (q' := (q.1 + 30, q.2 + 200)) (by show q.1 + 16 + 2 + 2 + 2 + 2 ≤ q.1 + 30; omega) (by show q.2 + 96 + 12 + 12 + 12 + 12 ≤ q.2 + 200; omega) ?_
    exact next I4 c4.2.1 (c4.2.2.trans c2.2.2)
  refine jm_iload C dL_law_315 rfl ?_
  refine jm_iconst C dL_law_317 ?_
  refine jm_idivp C dL_law_318 (by omega) (by decide) ?_
  refine jm_iconst C dL_law_319 ?_
  refine jm_iremp C dL_law_320 (by omega) (by decide) ?_
  refine jm_if_ne 328 C dL_law_321 rfl (by constructor <;> omega) (fun _ => ?_) (fun _ => ?_)
  · refine jm_iconst C dL_law_328 ?_
    exact main (-1) (Or.inl rfl)
  · refine jm_iconst C dL_law_324 ?_
    refine jm_goto 329 C dL_law_325 rfl ?_
    exact main 1 (Or.inr rfl)
set_option maxRecDepth 100000 in
set_option maxHeartbeats 8000000 in
theorem jq_turn {E : jm_E} {G : jm_G} {q : Nat × Nat} {w : jm_W} {I : jm_M} {b Ln n : Nat} {xs : Nat → Int32} {T : Int} (hl0 : E.1.stackTraces = false) (C : jm_C E G cL_law 13 RL room_1) (S : jm_SC G b Ln xs) (hLn : Ln ≤ 260) (L : hq_L E w I n T) (k : Nat) (hk : k < 56) (hT : 0 ≤ T ∧ T ≤ k) (hn : n ≤ 4) (hn1 : k ≠ 0 → 1 ≤ n) (hn0 : k = 0 → n = 0) (h5 : I 0 5 ≤ 3 * k) (hf : q.1 + 460 ≤ 600074 ∧ q.2 + 2800 ≤ 7301550)
    (next : ∀ (w2 : jm_W) (I2 : jm_M) (n2 : Nat) (T2 : Int), hq_L E w2 I2 n2 T2 → 0 ≤ T2 → T2 ≤ ((k + 1 : Nat) : Int) → n2 ≤ 4 → 1 ≤ n2 → I2 0 5 ≤ 3 * ((k + 1 : Nat) : Int) → jm_J E G (q.1 + 460, q.2 + 2800) w2 I2 24 (hq_l0 b (w2.2.1 0) (w2.2.1 1000) n2 ((k + 1 : Nat) : Int)) []) : jm_J E G q w I 24 (hq_l0 b (w.2.1 0) (w.2.1 1000) n (k : Int)) [] := by
  have fin : ∀ (w2 : jm_W) (I2 : jm_M) (n2 : Nat) (T2 v : Int), hq_L E w2 I2 n2 T2 → 0 ≤ T2 → T2 ≤ ((k + 1 : Nat) : Int) → n2 ≤ 4 → 1 ≤ n2 → I2 0 5 ≤ 3 * ((k + 1 : Nat) : Int) → 0 ≤ v ∧ v ≤ 1073741823 → jm_J E G (q.1 + 30, q.2 + 200) w2 I2 456 (hq_lv b (w2.2.1 0) (w2.2.1 1000) n2 (k : Int) v) [] := fun w2 I2 n2 T2 v L2 t0 t1 a0 a1 h5' hv => by
    refine jq_end hl0 C L2 a0 hv ⟨by show q.1 + 30 + 430 ≤ 600074; omega, by show q.2 + 200 + 2600 ≤ 7301550; omega⟩ ?_
    exact next w2 I2 n2 T2 L2 t0 t1 a0 a1 h5'
  refine jm_iload C dL_law_24 rfl ?_
  refine jm_bipush C dL_law_26 (by decide +kernel) ?_
  refine jm_icmp_ge 485 C dL_law_28 rfl (by constructor <;> omega) (by decide) (fun h => absurd h (by omega)) (fun _ => ?_)
  refine jm_iload C dL_law_31 rfl ?_
  refine jm_if_eq 485 C dL_law_33 rfl (by decide) (fun h => absurd h (by decide)) (fun _ => ?_)
  refine jm_aload_n C dL_law_36 rfl ?_
  refine jm_iload C dL_law_37 rfl ?_
  refine jm_cSX (n := 2) [] C S (kL_drawn E w I b Ln xs hLn (k : Int) (by omega)) jw_m_RL_81 okL_drawn rfl ⟨rfl, rfl⟩ ⟨Nat.le_of_ble_eq_true rfl, Nat.le_of_ble_eq_true rfl⟩ rfl rfl (Nat.le_of_ble_eq_true rfl) dL_law_39 ⟨by show q.1 + 0 ≤ 600074; omega, by show q.2 + 0 ≤ 7301550; omega⟩ (fun I' z hz => ?_)
  obtain ⟨eI, hz⟩ := hz
  rw [eI]
  refine jm_istore C dL_law_42 (by decide) ?_
  refine jm_iload C dL_law_44 rfl ?_
  refine jm_bipush C dL_law_46 (by decide +kernel) ?_
  refine jm_idivp C dL_law_48 (by omega) (by decide) ?_
  refine jm_istore C dL_law_49 (by decide) ?_
  obtain ⟨v, hvz⟩ : ∃ v, v = z / 12 := ⟨_, rfl⟩
  rw [← hvz]
  have hv : 0 ≤ v ∧ v ≤ 1073741823 := by omega
  have p196 : ∀ kind : Int, 0 ≤ kind → kind ≤ 11 → 1 ≤ n → jm_J E G (q.1, q.2) w I 196 ((8, jm_v kind) :: ((7, jm_v v) :: (6, jm_v z) :: hq_l0 b (w.2.1 0) (w.2.1 1000) n (k : Int))) [] := fun kind k0 k1 n1 => by
    refine jm_iload C dL_law_196 rfl ?_
    refine jm_iconst C dL_law_198 ?_
    refine jm_icmp_ge 239 C dL_law_199 rfl (by constructor <;> omega) (by decide) (fun _ => ?_) (fun _ => ?_)
    · refine jm_lvs (lv' := hq_lv b (w.2.1 0) (w.2.1 1000) n (k : Int) v) (jm_sub_c rfl (jm_sub_c rfl (jm_sub_c rfl (jm_sub_c rfl (jm_sub_c rfl (jm_sub_c rfl (jm_sub_c rfl (jm_sub_0 _)))))))) ?_
      refine jq_game hl0 C L hn n1 hv hf (fun game g0 g1 => ?_)
      refine jq_throw hl0 C L ⟨hT.1, by omega⟩ ⟨g0, g1⟩ hv hf (fun I2 L2 e5 => ?_)
      exact fin w I2 n (T + 1) v L2 (by omega) (by omega) hn n1 (by rw [e5]; omega) hv
    · refine jm_lvs (lv' := hq_lv b (w.2.1 0) (w.2.1 1000) n (k : Int) v) (jm_sub_c rfl (jm_sub_c rfl (jm_sub_c rfl (jm_sub_c rfl (jm_sub_c rfl (jm_sub_c rfl (jm_sub_c rfl (jm_sub_0 _)))))))) ?_
      refine jq_pass hl0 C L hv (by omega) hf (fun I2 L2 e5 => ?_)
      exact fin w I2 n T v L2 (by omega) (by omega) hn n1 (by omega) hv
  have sel : ∀ kind : Int, 0 ≤ kind → kind ≤ 11 → (n = 0 → kind = 0) → jm_J E G (q.1, q.2) w I 75 ((7, jm_v v) :: (6, jm_v z) :: hq_l0 b (w.2.1 0) (w.2.1 1000) n (k : Int)) [jm_v kind] := fun kind k0 k1 kn => by
    refine jm_istore C dL_law_75 (by decide) ?_
    refine jm_iload C dL_law_77 rfl ?_
    refine jm_if_ne 196 C dL_law_79 rfl (by constructor <;> omega) (fun h => p196 kind k0 k1 (by omega)) (fun h => ?_)
    refine jm_iload_n C dL_law_82 rfl ?_
    refine jm_iconst C dL_law_83 ?_
    refine jm_icmp_ge 196 C dL_law_84 rfl (by constructor <;> omega) (by decide) (fun h4 => p196 kind k0 k1 (by omega)) (fun h4 => ?_)
    refine jm_lvs (lv' := hq_lv b (w.2.1 0) (w.2.1 1000) n (k : Int) v) (jm_sub_c rfl (jm_sub_c rfl (jm_sub_c rfl (jm_sub_c rfl (jm_sub_c rfl (jm_sub_c rfl (jm_sub_c rfl (jm_sub_0 _)))))))) ?_
    refine jq_plan hl0 C L (by omega) hv (by omega) hf (fun w2 I2 L2 e5 => ?_)
    exact fin w2 I2 (n + 1) T v L2 (by omega) (by omega) (by omega) (by omega) (by rw [e5]; omega) hv
  refine jm_iload C dL_law_51 rfl ?_
  refine jm_if_ne 60 C dL_law_53 rfl (by constructor <;> omega) (fun h => ?_) (fun h => ?_)
  · refine jm_iload C dL_law_60 rfl ?_
    refine jm_iconst C dL_law_62 ?_
    refine jm_icmp_ne 70 C dL_law_63 rfl (by constructor <;> omega) (by decide) (fun h1 => ?_) (fun h1 => ?_)
    · refine jm_iload C dL_law_70 rfl ?_
      refine jm_bipush C dL_law_72 (by decide +kernel) ?_
      refine jm_iremp C dL_law_74 (by omega) (by decide) ?_
      exact sel _ (by omega) (by omega) (fun n0 => absurd n0 (by have := hn1 (by omega); omega))
    · refine jm_iconst C dL_law_66 ?_
      refine jm_goto 75 C dL_law_67 rfl ?_
      exact sel 1 (by decide) (by decide) (fun n0 => absurd n0 (by have := hn1 (by omega); omega))
  · refine jm_iconst C dL_law_56 ?_
    refine jm_goto 75 C dL_law_57 rfl ?_
    exact sel 0 (by decide) (by decide) (fun _ => rfl)
set_option maxRecDepth 100000 in
set_option maxHeartbeats 8000000 in
theorem jq_loop {E : jm_E} {G : jm_G} {b Ln : Nat} {xs : Nat → Int32} (hl0 : E.1.stackTraces = false) (C : jm_C E G cL_law 13 RL room_1) (S : jm_SC G b Ln xs) (hLn : Ln ≤ 260) (fin : ∀ (q : Nat × Nat) (w : jm_W) (I : jm_M) lv, q.1 ≤ 600074 → q.2 ≤ 7301550 → jm_J E G q w I 487 lv [jm_v 1]) : ∀ (m k : Nat) (w : jm_W) (I : jm_M) (n : Nat) (T : Int), k + m = 56 → hq_L E w I n T → 0 ≤ T → T ≤ (k : Int) → n ≤ 4 → (k ≠ 0 → 1 ≤ n) → (k = 0 → n = 0) → I 0 5 ≤ 3 * (k : Int) → jm_J E G (100 + 460 * k, 5000 + 2800 * k) w I 24 (hq_l0 b (w.2.1 0) (w.2.1 1000) n (k : Int)) []
  | 0, k, w, I, n, T, hk, L, t0, t1, hn, hn1, hn0, h5 => by
    refine jm_iload C dL_law_24 rfl ?_
    refine jm_bipush C dL_law_26 (by decide +kernel) ?_
    refine jm_icmp_ge 485 C dL_law_28 rfl (by constructor <;> omega) (by decide) (fun _ => ?_) (fun h => absurd (show (56 : Int) ≤ (k : Int) by omega) h)
    refine jm_iload C dL_law_485 rfl ?_
    exact fin _ _ _ _ (by show 100 + 460 * k ≤ 600074; omega) (by show 5000 + 2800 * k ≤ 7301550; omega)
  | m + 1, k, w, I, n, T, hk, L, t0, t1, hn, hn1, hn0, h5 => by
    refine jq_turn hl0 C S hLn L k (by omega) ⟨t0, t1⟩ hn hn1 hn0 h5 ⟨by show 100 + 460 * k + 460 ≤ 600074; omega, by show 5000 + 2800 * k + 2800 ≤ 7301550; omega⟩ (fun w2 I2 n2 T2 L2 a0 a1 a2 a3 a4 => ?_)
    exact jq_loop hl0 C S hLn fin m (k + 1) w2 I2 n2 T2 (by omega) L2 a0 a1 a2 (fun _ => a3) (fun h => absurd h (by omega)) a4
