theorem hk_e_pass {I I1 : jm_M} {n : Nat} {T kz k : Int} (H : hk_inv I I n T) (hh : hk_wp (fun I' z => (1 ≤ k ∧ k ≤ 48) ∧ (I 0 5 + k ≤ 9999) ∧ I' = hk_cpn I (n : Int) k.toNat ∧ z = I 0 5 + k) (fun cls I' => I' = I ∧ ((¬ (1 ≤ k ∧ k ≤ 48) ∧ cls = "java/lang/IllegalArgumentException") ∨ ((1 ≤ k ∧ k ≤ 48) ∧ ¬ (I 0 5 + k ≤ 9999) ∧ cls = "java/lang/IllegalStateException"))) [("java/lang/IllegalArgumentException", 1), ("java/lang/IllegalStateException", 2)] I1 kz) : ∀ a, 300 ≤ a → I1 a = I a := by
  have b := H.1.2.1
  intro a ha
  rcases hh with ⟨-, Ia, v, v', ⟨qa, qb, qi, qv⟩, hv, ev, e1⟩ | ⟨c, hc, hx, -⟩
  · funext y
    rw [e1, jm_up_n (Or.inl (by omega)), qi, hk_cpn_o H (by omega) k.toNat (by omega)]
  · rw [hx.1]
theorem hk_e_shoot {I I1 : jm_M} {n : Nat} {T kz g lane wt tn lo hi : Int} (H : hk_inv I I n T) (hh : hk_wp (fun I' z => (0 ≤ g ∧ g < (n : Int)) ∧ (hk_shot lane wt tn lo hi) ∧ (I (30 + g) 5 = 1 ∨ I (30 + g) 5 = 2) ∧ z = (hk_thr (I (10 + I (30 + g) 6 + 100)) (I (30 + g + 100 + 100)) (hk_slot I (30 + g)) lane (10 * wt) tn lo hi).1 ∧ ∃ M : jm_M, (∀ a, a ≠ 4 → a ≠ 4 + 100 + 100 → a ≠ 10 + I (30 + g) 6 + 100 → M a = I a) ∧ hk_eq6 (M (4 + 100 + 100)) (hk_thr (I (10 + I (30 + g) 6 + 100)) (I (30 + g + 100 + 100)) (hk_slot I (30 + g)) lane (10 * wt) tn lo hi).2.2 ∧ M (10 + I (30 + g) 6 + 100) = (hk_thr (I (10 + I (30 + g) 6 + 100)) (I (30 + g + 100 + 100)) (hk_slot I (30 + g)) lane (10 * wt) tn lo hi).2.1 ∧ hk_w9 (M (10 + I (30 + g) 6 + 100)) ∧ hk_good (hk_thr (I (10 + I (30 + g) 6 + 100)) (I (30 + g + 100 + 100)) (hk_slot I (30 + g)) lane (10 * wt) tn lo hi).2.2 ∧ I' = (if I (30 + g) 5 = 1 then hk_sdr M (30 + g) (hk_dist (hk_thr (I (10 + I (30 + g) 6 + 100)) (I (30 + g + 100 + 100)) (hk_slot I (30 + g)) lane (10 * wt) tn lo hi).1) else hk_sst (hk_fill M (30 + g + 100 + 100) 6 (M (4 + 100 + 100))) (30 + g))) (fun cls I' => I' = I ∧ ((¬ (0 ≤ g ∧ g < (n : Int)) ∧ cls = "java/lang/IndexOutOfBoundsException") ∨ ((0 ≤ g ∧ g < (n : Int)) ∧ ¬ (hk_shot lane wt tn lo hi) ∧ cls = "java/lang/IllegalArgumentException") ∨ ((0 ≤ g ∧ g < (n : Int)) ∧ (hk_shot lane wt tn lo hi) ∧ ¬ (I (30 + g) 5 = 1 ∨ I (30 + g) 5 = 2) ∧ cls = "java/lang/IllegalStateException"))) [("java/lang/IndexOutOfBoundsException", 1), ("java/lang/IllegalArgumentException", 2), ("java/lang/IllegalStateException", 3)] I1 kz) : ∀ a, 300 ≤ a → I1 a = I a := by
  intro a ha
  have e8 := H.1.1
  rcases hh with ⟨rfl, Ia, v, v', ⟨qa, qb, qc, qv, MB, m1, m2, m3, m4, m5, qi⟩, hv, ev, e1⟩ | ⟨c, hc, hx, -⟩
  · obtain ⟨⟨r0, r1, r2, r4, r5, r6, -⟩, -, -, -, ⟨x1, x2, -, -, -, x6, -⟩, -⟩ := H.1.2.2.2.2.2.2.2.2.2.1 g qa.1 qa.2
    have st : I 309 g = 1 ∨ I 309 g = 2 := by rw [← r5]; exact qc
    have s6 := x6 st
    have mk : MB (30 + g) = I (30 + g) := m1 _ (by omega) (by omega) (by omega)
    have mo : ∀ a y, 299 ≤ a → MB a y = I a y := fun a y ha => congrFun (m1 a (by omega) (by omega) (by omega)) y
    funext y
    rw [e1, jm_up_n (Or.inl (by omega)), qi]
    by_cases z : I (30 + g) 5 = 1
    · rw [if_pos z, hk_sdr_o (by omega) (by rw [mk]; omega) (by rw [mk]; omega) (by omega), mo a y (by omega)]
    · rw [if_neg z, hk_sst_o (by omega) (by rw [hk_fill_f (by omega), mk]; omega) (by rw [hk_fill_f (by omega), mk]; omega) (by rw [hk_fill_f (by omega), mk]; omega) (by omega), hk_fill_f (by omega), mo a y (by omega)]
  · rw [hx.1]

set_option maxRecDepth 100000 in
set_option maxHeartbeats 4000000 in
theorem jw_crew {E : jm_E} {G : jm_G} {q : Nat × Nat} {w : jm_W} {I : jm_M} {b L n : Nat} {xs : Nat → Int32} {i T : Int} (hl0 : E.1.stackTraces = false) (C : jm_C E G cL_law 7 RL room_1) (S : jm_SC G b L xs) (h0 : 0 ≤ i) (h6 : i + 6 < L) (hL : L ≤ 3584) (K : hk_LI E w I n T) (hT : 0 ≤ T ∧ T ≤ 1000) (hf : q.1 + 3 ≤ room_1.cells ∧ q.2 + 20 ≤ room_1.slots) (next : ∀ (w1 : jm_W) (I1 : jm_M) (n1 : Nat), hk_LI E w1 I1 n1 (T + 1) → jm_J E G (q.1 + 3, q.2 + 20) w1 I1 1157 (hk_lv b (w1.2.1 0) (w1.2.1 300) (w1.2.1 299) i) []) : jm_J E G q w I 208 (hk_lv b (w.2.1 0) (w.2.1 300) (w.2.1 299) i) [] := by
  obtain ⟨X5, X6, hO, hnd, H, N⟩ := K
  have f1 : q.1 + 2 ≤ room_1.cells ∧ q.2 + 12 ≤ room_1.slots := ⟨by omega, by omega⟩
  refine jm_aload_n C dL_law_208 rfl ?_
  refine jm_arg (k := 1) C S rfl rfl h0 (by decide) h6 hL dL_law_209 dL_law_210 dL_law_212 dL_law_213 dL_law_214 ?_
  refine jm_aload_n C dL_law_215 rfl ?_
  refine jm_cWi (n := 3) [] C (kL_crew E hl0 w I n X5 (hk_x xs (i + 1)) (hk_x_R xs (i + 1)) hO) jw_m_RL_76 okL_crew rfl ⟨rfl, rfl⟩ ⟨Nat.le_of_ble_eq_true rfl, Nat.le_of_ble_eq_true rfl⟩ rfl rfl (Nat.le_of_ble_eq_true rfl) dL_law_216 f1 (fun I1 kz hh => ?_)
  refine jm_istore C dL_law_219 (Nat.le_of_ble_eq_true rfl) ?_
  refine jm_aload_n C dL_law_221 rfl ?_
  refine jm_arg (k := 1) C S rfl rfl h0 (by decide) h6 hL dL_law_222 dL_law_223 dL_law_225 dL_law_226 dL_law_227 ?_
  refine jm_cVi (n := 1) (ci := 6) [] C (kX6_crew E w I1 X6 (hk_x xs (i + 1)) (hk_x_R xs (i + 1))) jw_m_RL_79 okX6_crew rfl ⟨rfl, rfl⟩ ⟨Nat.le_of_ble_eq_true rfl, Nat.le_of_ble_eq_true rfl⟩ rfl X6.1.1 X6.1.2 rfl rfl (Nat.le_of_ble_eq_true rfl) dL_law_228 f1 (fun I2 zb hm => ?_)
  refine jw_tail 231 C X6 hO (hk_s_crew H hh hm) f1 dL_law_231 dL_law_233 dL_law_234 dL_law_237 dL_law_239 dL_law_244 dL_law_246 dL_law_249 dL_law_250 dL_law_251 dL_law_252 dL_law_254 dL_law_255 dL_law_256 dL_law_261 rfl (fun I3 H3 N3 => ?_)
  refine jm_wid (q' := (q.1 + 3, q.2 + 20)) (Nat.add_le_add_left (show 2 ≤ 3 by decide) q.1) (Nat.add_le_add_left (show 12 ≤ 20 by decide) q.2) ?_
  exact next w I3 n ⟨X5, X6, hO, hnd, H3, N3⟩
set_option maxRecDepth 100000 in
set_option maxHeartbeats 4000000 in
theorem jw_pass {E : jm_E} {G : jm_G} {q : Nat × Nat} {w : jm_W} {I : jm_M} {b L n : Nat} {xs : Nat → Int32} {i T : Int} (hl0 : E.1.stackTraces = false) (C : jm_C E G cL_law 7 RL room_1) (S : jm_SC G b L xs) (h0 : 0 ≤ i) (h6 : i + 6 < L) (hL : L ≤ 3584) (K : hk_LI E w I n T) (hT : 0 ≤ T ∧ T ≤ 1000) (hf : q.1 + 3 ≤ room_1.cells ∧ q.2 + 20 ≤ room_1.slots) (next : ∀ (w1 : jm_W) (I1 : jm_M) (n1 : Nat), hk_LI E w1 I1 n1 (T + 1) → jm_J E G (q.1 + 3, q.2 + 20) w1 I1 1157 (hk_lv b (w1.2.1 0) (w1.2.1 300) (w1.2.1 299) i) []) : jm_J E G q w I 382 (hk_lv b (w.2.1 0) (w.2.1 300) (w.2.1 299) i) [] := by
  obtain ⟨X5, X6, hO, hnd, H, N⟩ := K
  have f1 : q.1 + 2 ≤ room_1.cells ∧ q.2 + 12 ≤ room_1.slots := ⟨by omega, by omega⟩
  refine jm_aload_n C dL_law_382 rfl ?_
  refine jm_arg (k := 1) C S rfl rfl h0 (by decide) h6 hL dL_law_383 dL_law_384 dL_law_386 dL_law_387 dL_law_388 ?_
  refine jm_aload_n C dL_law_389 rfl ?_
  refine jm_cWi (n := 3) [] C (kL_pass E hl0 w I n X5 (hk_x xs (i + 1)) (hk_x_R xs (i + 1)) ⟨by have := H.1.2.1; omega, by have := H.1.2.1; omega⟩ (hk_inv_ck H) hO) jw_m_RL_84 okL_pass rfl ⟨rfl, rfl⟩ ⟨Nat.le_of_ble_eq_true rfl, Nat.le_of_ble_eq_true rfl⟩ rfl rfl (Nat.le_of_ble_eq_true rfl) dL_law_390 f1 (fun I1 kz hh => ?_)
  have e1 := hk_e_pass H hh
  have H1 := hk_inv_M H e1
  have N1 := hk_nm_M N e1
  refine jm_istore C dL_law_393 (Nat.le_of_ble_eq_true rfl) ?_
  refine jm_aload_n C dL_law_395 rfl ?_
  refine jm_arg (k := 1) C S rfl rfl h0 (by decide) h6 hL dL_law_396 dL_law_397 dL_law_399 dL_law_400 dL_law_401 ?_
  refine jm_cVi (n := 1) (ci := 6) [] C (kX6_pass E w I1 X6 n H1.1.1.2.1 H1.1.1.2.2 (hk_x xs (i + 1)) (hk_x_R xs (i + 1)) H1.1.2.1.2 (hk_inv_pk H1)) jw_m_RL_86 okX6_pass rfl ⟨rfl, rfl⟩ ⟨Nat.le_of_ble_eq_true rfl, Nat.le_of_ble_eq_true rfl⟩ rfl X6.1.1 X6.1.2 rfl rfl (Nat.le_of_ble_eq_true rfl) dL_law_402 f1 (fun I2 zb hm => ?_)
  refine jw_tail 405 C X6 hO (hk_s_pass H hh hm) f1 dL_law_405 dL_law_407 dL_law_408 dL_law_411 dL_law_413 dL_law_418 dL_law_420 dL_law_423 dL_law_424 dL_law_425 dL_law_426 dL_law_428 dL_law_429 dL_law_430 dL_law_435 rfl (fun I3 H3 N3 => ?_)
  refine jm_wid (q' := (q.1 + 3, q.2 + 20)) (Nat.add_le_add_left (show 2 ≤ 3 by decide) q.1) (Nat.add_le_add_left (show 12 ≤ 20 by decide) q.2) ?_
  exact next w I3 n ⟨X5, X6, hO, hnd, H3, N3⟩
set_option maxRecDepth 100000 in
set_option maxHeartbeats 4000000 in
theorem jw_ofSheet {E : jm_E} {G : jm_G} {q : Nat × Nat} {w : jm_W} {I : jm_M} {b L n : Nat} {xs : Nat → Int32} {i T : Int} (hl0 : E.1.stackTraces = false) (C : jm_C E G cL_law 7 RL room_1) (S : jm_SC G b L xs) (h0 : 0 ≤ i) (h6 : i + 6 < L) (hL : L ≤ 3584) (K : hk_LI E w I n T) (hT : 0 ≤ T ∧ T ≤ 1000) (hf : q.1 + 3 ≤ room_1.cells ∧ q.2 + 20 ≤ room_1.slots) (next : ∀ (w1 : jm_W) (I1 : jm_M) (n1 : Nat), hk_LI E w1 I1 n1 (T + 1) → jm_J E G (q.1 + 3, q.2 + 20) w1 I1 1157 (hk_lv b (w1.2.1 0) (w1.2.1 300) (w1.2.1 299) i) []) : jm_J E G q w I 451 (hk_lv b (w.2.1 0) (w.2.1 300) (w.2.1 299) i) [] := by
  obtain ⟨X5, X6, hO, hnd, H, N⟩ := K
  have f1 : q.1 + 2 ≤ room_1.cells ∧ q.2 + 12 ≤ room_1.slots := ⟨by omega, by omega⟩
  refine jm_aload_n C dL_law_451 rfl ?_
  refine jm_arg (k := 1) C S rfl rfl h0 (by decide) h6 hL dL_law_452 dL_law_453 dL_law_455 dL_law_456 dL_law_457 ?_
  refine jm_arg (k := 2) C S rfl rfl h0 (by decide) h6 hL dL_law_458 dL_law_459 dL_law_461 dL_law_462 dL_law_463 ?_
  refine jm_aload_n C dL_law_464 rfl ?_
  refine jm_cWi (n := 4) [] C (kL_ofSheet E hl0 w I n X5 (hk_x xs (i + 1)) (hk_x xs (i + 2)) (hk_x_R xs (i + 1)) (hk_x_R xs (i + 2)) hO) jw_m_RL_91 okL_ofSheet rfl ⟨rfl, rfl⟩ ⟨Nat.le_of_ble_eq_true rfl, Nat.le_of_ble_eq_true rfl⟩ rfl rfl (Nat.le_of_ble_eq_true rfl) dL_law_465 f1 (fun I1 kz hh => ?_)
  have e1 := hk_e_of hh (fun I' z q a _ => by rw [q.2.2.1]) (fun c I' q => q.1)
  have H1 := hk_inv_M H e1
  have N1 := hk_nm_M N e1
  refine jm_istore C dL_law_468 (Nat.le_of_ble_eq_true rfl) ?_
  refine jm_aload_n C dL_law_470 rfl ?_
  refine jm_arg (k := 1) C S rfl rfl h0 (by decide) h6 hL dL_law_471 dL_law_472 dL_law_474 dL_law_475 dL_law_476 ?_
  refine jm_arg (k := 2) C S rfl rfl h0 (by decide) h6 hL dL_law_477 dL_law_478 dL_law_480 dL_law_481 dL_law_482 ?_
  refine jm_cVi (n := 2) (ci := 6) [] C (kX6_ofSheet E w I1 X6 (hk_x xs (i + 1)) (hk_x xs (i + 2)) (hk_x_R xs (i + 1)) (hk_x_R xs (i + 2)) H1.1.2.2.2.2.2.2.1) jw_m_RL_94 okX6_ofSheet rfl ⟨rfl, rfl⟩ ⟨Nat.le_of_ble_eq_true rfl, Nat.le_of_ble_eq_true rfl⟩ rfl X6.1.1 X6.1.2 rfl rfl (Nat.le_of_ble_eq_true rfl) dL_law_483 f1 (fun I2 zb hm => ?_)
  refine jw_tail 486 C X6 hO (hk_s_ofSheet H hh hm) f1 dL_law_486 dL_law_488 dL_law_489 dL_law_492 dL_law_494 dL_law_499 dL_law_501 dL_law_504 dL_law_505 dL_law_506 dL_law_507 dL_law_509 dL_law_510 dL_law_511 dL_law_516 rfl (fun I3 H3 N3 => ?_)
  refine jm_wid (q' := (q.1 + 3, q.2 + 20)) (Nat.add_le_add_left (show 2 ≤ 3 by decide) q.1) (Nat.add_le_add_left (show 12 ≤ 20 by decide) q.2) ?_
  exact next w I3 n ⟨X5, X6, hO, hnd, H3, N3⟩
set_option maxRecDepth 100000 in
set_option maxHeartbeats 4000000 in
theorem jw_wear {E : jm_E} {G : jm_G} {q : Nat × Nat} {w : jm_W} {I : jm_M} {b L n : Nat} {xs : Nat → Int32} {i T : Int} (hl0 : E.1.stackTraces = false) (C : jm_C E G cL_law 7 RL room_1) (S : jm_SC G b L xs) (h0 : 0 ≤ i) (h6 : i + 6 < L) (hL : L ≤ 3584) (K : hk_LI E w I n T) (hT : 0 ≤ T ∧ T ≤ 1000) (hf : q.1 + 3 ≤ room_1.cells ∧ q.2 + 20 ≤ room_1.slots) (next : ∀ (w1 : jm_W) (I1 : jm_M) (n1 : Nat), hk_LI E w1 I1 n1 (T + 1) → jm_J E G (q.1 + 3, q.2 + 20) w1 I1 1157 (hk_lv b (w1.2.1 0) (w1.2.1 300) (w1.2.1 299) i) []) : jm_J E G q w I 519 (hk_lv b (w.2.1 0) (w.2.1 300) (w.2.1 299) i) [] := by
  obtain ⟨X5, X6, hO, hnd, H, N⟩ := K
  have f1 : q.1 + 2 ≤ room_1.cells ∧ q.2 + 12 ≤ room_1.slots := ⟨by omega, by omega⟩
  refine jm_aload_n C dL_law_519 rfl ?_
  refine jm_arg (k := 1) C S rfl rfl h0 (by decide) h6 hL dL_law_520 dL_law_521 dL_law_523 dL_law_524 dL_law_525 ?_
  refine jm_arg (k := 2) C S rfl rfl h0 (by decide) h6 hL dL_law_526 dL_law_527 dL_law_529 dL_law_530 dL_law_531 ?_
  refine jm_arg (k := 3) C S rfl rfl h0 (by decide) h6 hL dL_law_532 dL_law_533 dL_law_535 dL_law_536 dL_law_537 ?_
  refine jm_aload_n C dL_law_538 rfl ?_
  refine jm_cWi (n := 5) [] C (kL_wear E hl0 w I n X5 (hk_x xs (i + 1)) (hk_x xs (i + 2)) (hk_x xs (i + 3)) (hk_x_R xs (i + 1)) (hk_x_R xs (i + 2)) (hk_x_R xs (i + 3)) hO) jw_m_RL_95 okL_wear rfl ⟨rfl, rfl⟩ ⟨Nat.le_of_ble_eq_true rfl, Nat.le_of_ble_eq_true rfl⟩ rfl rfl (Nat.le_of_ble_eq_true rfl) dL_law_539 f1 (fun I1 kz hh => ?_)
  have e1 := hk_e_of hh (fun I' z q a _ => by rw [q.2.2.1]) (fun c I' q => q.1)
  have H1 := hk_inv_M H e1
  have N1 := hk_nm_M N e1
  refine jm_istore C dL_law_542 (Nat.le_of_ble_eq_true rfl) ?_
  refine jm_aload_n C dL_law_544 rfl ?_
  refine jm_arg (k := 1) C S rfl rfl h0 (by decide) h6 hL dL_law_545 dL_law_546 dL_law_548 dL_law_549 dL_law_550 ?_
  refine jm_arg (k := 2) C S rfl rfl h0 (by decide) h6 hL dL_law_551 dL_law_552 dL_law_554 dL_law_555 dL_law_556 ?_
  refine jm_arg (k := 3) C S rfl rfl h0 (by decide) h6 hL dL_law_557 dL_law_558 dL_law_560 dL_law_561 dL_law_562 ?_
  refine jm_cVi (n := 3) (ci := 6) [] C (kX6_wear E w I1 X6 (hk_x xs (i + 1)) (hk_x xs (i + 2)) (hk_x xs (i + 3)) (hk_x_R xs (i + 1)) (hk_x_R xs (i + 2)) (hk_x_R xs (i + 3))) jw_m_RL_98 okX6_wear rfl ⟨rfl, rfl⟩ ⟨Nat.le_of_ble_eq_true rfl, Nat.le_of_ble_eq_true rfl⟩ rfl X6.1.1 X6.1.2 rfl rfl (Nat.le_of_ble_eq_true rfl) dL_law_563 f1 (fun I2 zb hm => ?_)
  refine jw_tail 566 C X6 hO (hk_s_wear H hh hm) f1 dL_law_566 dL_law_568 dL_law_569 dL_law_572 dL_law_574 dL_law_579 dL_law_581 dL_law_584 dL_law_585 dL_law_586 dL_law_587 dL_law_589 dL_law_590 dL_law_591 dL_law_596 rfl (fun I3 H3 N3 => ?_)
  refine jm_wid (q' := (q.1 + 3, q.2 + 20)) (Nat.add_le_add_left (show 2 ≤ 3 by decide) q.1) (Nat.add_le_add_left (show 12 ≤ 20 by decide) q.2) ?_
  exact next w I3 n ⟨X5, X6, hO, hnd, H3, N3⟩
set_option maxRecDepth 100000 in
set_option maxHeartbeats 4000000 in
theorem jw_ofGame {E : jm_E} {G : jm_G} {q : Nat × Nat} {w : jm_W} {I : jm_M} {b L n : Nat} {xs : Nat → Int32} {i T : Int} (hl0 : E.1.stackTraces = false) (C : jm_C E G cL_law 7 RL room_1) (S : jm_SC G b L xs) (h0 : 0 ≤ i) (h6 : i + 6 < L) (hL : L ≤ 3584) (K : hk_LI E w I n T) (hT : 0 ≤ T ∧ T ≤ 1000) (hf : q.1 + 3 ≤ room_1.cells ∧ q.2 + 20 ≤ room_1.slots) (next : ∀ (w1 : jm_W) (I1 : jm_M) (n1 : Nat), hk_LI E w1 I1 n1 (T + 1) → jm_J E G (q.1 + 3, q.2 + 20) w1 I1 1157 (hk_lv b (w1.2.1 0) (w1.2.1 300) (w1.2.1 299) i) []) : jm_J E G q w I 599 (hk_lv b (w.2.1 0) (w.2.1 300) (w.2.1 299) i) [] := by
  obtain ⟨X5, X6, hO, hnd, H, N⟩ := K
  have f1 : q.1 + 2 ≤ room_1.cells ∧ q.2 + 12 ≤ room_1.slots := ⟨by omega, by omega⟩
  refine jm_aload_n C dL_law_599 rfl ?_
  refine jm_arg (k := 1) C S rfl rfl h0 (by decide) h6 hL dL_law_600 dL_law_601 dL_law_603 dL_law_604 dL_law_605 ?_
  refine jm_arg (k := 2) C S rfl rfl h0 (by decide) h6 hL dL_law_606 dL_law_607 dL_law_609 dL_law_610 dL_law_611 ?_
  refine jm_aload_n C dL_law_612 rfl ?_
  refine jm_cWi (n := 4) [] C (kL_ofGame E hl0 w I n X5 (hk_x xs (i + 1)) (hk_x xs (i + 2)) (hk_x_R xs (i + 1)) (hk_x_R xs (i + 2)) hO) jw_m_RL_99 okL_ofGame rfl ⟨rfl, rfl⟩ ⟨Nat.le_of_ble_eq_true rfl, Nat.le_of_ble_eq_true rfl⟩ rfl rfl (Nat.le_of_ble_eq_true rfl) dL_law_613 f1 (fun I1 kz hh => ?_)
  have e1 := hk_e_of hh (fun I' z q a _ => by rw [q.2.2.1]) (fun c I' q => q.1)
  have H1 := hk_inv_M H e1
  have N1 := hk_nm_M N e1
  refine jm_istore C dL_law_616 (Nat.le_of_ble_eq_true rfl) ?_
  refine jm_aload_n C dL_law_618 rfl ?_
  refine jm_arg (k := 1) C S rfl rfl h0 (by decide) h6 hL dL_law_619 dL_law_620 dL_law_622 dL_law_623 dL_law_624 ?_
  refine jm_arg (k := 2) C S rfl rfl h0 (by decide) h6 hL dL_law_625 dL_law_626 dL_law_628 dL_law_629 dL_law_630 ?_
  refine jm_cVi (n := 2) (ci := 6) [] C (kX6_ofGame E w I1 X6 (hk_m8 H1) (hk_x xs (i + 1)) (hk_x xs (i + 2)) (hk_x_R xs (i + 1)) (hk_x_R xs (i + 2))) jw_m_RL_101 okX6_ofGame rfl ⟨rfl, rfl⟩ ⟨Nat.le_of_ble_eq_true rfl, Nat.le_of_ble_eq_true rfl⟩ rfl X6.1.1 X6.1.2 rfl rfl (Nat.le_of_ble_eq_true rfl) dL_law_631 f1 (fun I2 zb hm => ?_)
  refine jw_tail 634 C X6 hO (hk_s_ofGame H hh hm) f1 dL_law_634 dL_law_636 dL_law_637 dL_law_640 dL_law_642 dL_law_647 dL_law_649 dL_law_652 dL_law_653 dL_law_654 dL_law_655 dL_law_657 dL_law_658 dL_law_659 dL_law_664 rfl (fun I3 H3 N3 => ?_)
  refine jm_wid (q' := (q.1 + 3, q.2 + 20)) (Nat.add_le_add_left (show 2 ≤ 3 by decide) q.1) (Nat.add_le_add_left (show 12 ≤ 20 by decide) q.2) ?_
  exact next w I3 n ⟨X5, X6, hO, hnd, H3, N3⟩
set_option maxRecDepth 100000 in
set_option maxHeartbeats 4000000 in
theorem jw_stone {E : jm_E} {G : jm_G} {q : Nat × Nat} {w : jm_W} {I : jm_M} {b L n : Nat} {xs : Nat → Int32} {i T : Int} (hl0 : E.1.stackTraces = false) (C : jm_C E G cL_law 7 RL room_1) (S : jm_SC G b L xs) (h0 : 0 ≤ i) (h6 : i + 6 < L) (hL : L ≤ 3584) (K : hk_LI E w I n T) (hT : 0 ≤ T ∧ T ≤ 1000) (hf : q.1 + 3 ≤ room_1.cells ∧ q.2 + 20 ≤ room_1.slots) (next : ∀ (w1 : jm_W) (I1 : jm_M) (n1 : Nat), hk_LI E w1 I1 n1 (T + 1) → jm_J E G (q.1 + 3, q.2 + 20) w1 I1 1157 (hk_lv b (w1.2.1 0) (w1.2.1 300) (w1.2.1 299) i) []) : jm_J E G q w I 667 (hk_lv b (w.2.1 0) (w.2.1 300) (w.2.1 299) i) [] := by
  obtain ⟨X5, X6, hO, hnd, H, N⟩ := K
  have f1 : q.1 + 2 ≤ room_1.cells ∧ q.2 + 12 ≤ room_1.slots := ⟨by omega, by omega⟩
  refine jm_aload_n C dL_law_667 rfl ?_
  refine jm_arg (k := 1) C S rfl rfl h0 (by decide) h6 hL dL_law_668 dL_law_669 dL_law_671 dL_law_672 dL_law_673 ?_
  refine jm_arg (k := 2) C S rfl rfl h0 (by decide) h6 hL dL_law_674 dL_law_675 dL_law_677 dL_law_678 dL_law_679 ?_
  refine jm_arg (k := 3) C S rfl rfl h0 (by decide) h6 hL dL_law_680 dL_law_681 dL_law_683 dL_law_684 dL_law_685 ?_
  refine jm_aload_n C dL_law_686 rfl ?_
  refine jm_cWi (n := 5) [] C (kL_stone E hl0 w I n X5 (hk_x xs (i + 1)) (hk_x xs (i + 2)) (hk_x xs (i + 3)) (hk_x_R xs (i + 1)) (hk_x_R xs (i + 2)) (hk_x_R xs (i + 3)) hO) jw_m_RL_102 okL_stone rfl ⟨rfl, rfl⟩ ⟨Nat.le_of_ble_eq_true rfl, Nat.le_of_ble_eq_true rfl⟩ rfl rfl (Nat.le_of_ble_eq_true rfl) dL_law_687 f1 (fun I1 kz hh => ?_)
  have e1 := hk_e_of hh (fun I' z q a _ => by rw [q.2.2.1]) (fun c I' q => q.1)
  have H1 := hk_inv_M H e1
  have N1 := hk_nm_M N e1
  refine jm_istore C dL_law_690 (Nat.le_of_ble_eq_true rfl) ?_
  refine jm_aload_n C dL_law_692 rfl ?_
  refine jm_arg (k := 1) C S rfl rfl h0 (by decide) h6 hL dL_law_693 dL_law_694 dL_law_696 dL_law_697 dL_law_698 ?_
  refine jm_arg (k := 2) C S rfl rfl h0 (by decide) h6 hL dL_law_699 dL_law_700 dL_law_702 dL_law_703 dL_law_704 ?_
  refine jm_arg (k := 3) C S rfl rfl h0 (by decide) h6 hL dL_law_705 dL_law_706 dL_law_708 dL_law_709 dL_law_710 ?_
  refine jm_cVi (n := 3) (ci := 6) [] C (kX6_stone E w I1 X6 (hk_m8 H1) (hk_x xs (i + 1)) (hk_x xs (i + 2)) (hk_x xs (i + 3)) (hk_x_R xs (i + 1)) (hk_x_R xs (i + 2)) (hk_x_R xs (i + 3))) jw_m_RL_104 okX6_stone rfl ⟨rfl, rfl⟩ ⟨Nat.le_of_ble_eq_true rfl, Nat.le_of_ble_eq_true rfl⟩ rfl X6.1.1 X6.1.2 rfl rfl (Nat.le_of_ble_eq_true rfl) dL_law_711 f1 (fun I2 zb hm => ?_)
  refine jw_tail 714 C X6 hO (hk_s_stone H hh hm) f1 dL_law_714 dL_law_716 dL_law_717 dL_law_720 dL_law_722 dL_law_727 dL_law_729 dL_law_732 dL_law_733 dL_law_734 dL_law_735 dL_law_737 dL_law_738 dL_law_739 dL_law_744 rfl (fun I3 H3 N3 => ?_)
  refine jm_wid (q' := (q.1 + 3, q.2 + 20)) (Nat.add_le_add_left (show 2 ≤ 3 by decide) q.1) (Nat.add_le_add_left (show 12 ≤ 20 by decide) q.2) ?_
  exact next w I3 n ⟨X5, X6, hO, hnd, H3, N3⟩
set_option maxRecDepth 100000 in
set_option maxHeartbeats 4000000 in
theorem jw_wouldScore {E : jm_E} {G : jm_G} {q : Nat × Nat} {w : jm_W} {I : jm_M} {b L n : Nat} {xs : Nat → Int32} {i T : Int} (hl0 : E.1.stackTraces = false) (C : jm_C E G cL_law 7 RL room_1) (S : jm_SC G b L xs) (h0 : 0 ≤ i) (h6 : i + 6 < L) (hL : L ≤ 3584) (K : hk_LI E w I n T) (hT : 0 ≤ T ∧ T ≤ 1000) (hf : q.1 + 3 ≤ room_1.cells ∧ q.2 + 20 ≤ room_1.slots) (next : ∀ (w1 : jm_W) (I1 : jm_M) (n1 : Nat), hk_LI E w1 I1 n1 (T + 1) → jm_J E G (q.1 + 3, q.2 + 20) w1 I1 1157 (hk_lv b (w1.2.1 0) (w1.2.1 300) (w1.2.1 299) i) []) : jm_J E G q w I 747 (hk_lv b (w.2.1 0) (w.2.1 300) (w.2.1 299) i) [] := by
  obtain ⟨X5, X6, hO, hnd, H, N⟩ := K
  have f1 : q.1 + 2 ≤ room_1.cells ∧ q.2 + 12 ≤ room_1.slots := ⟨by omega, by omega⟩
  refine jm_aload_n C dL_law_747 rfl ?_
  refine jm_arg (k := 1) C S rfl rfl h0 (by decide) h6 hL dL_law_748 dL_law_749 dL_law_751 dL_law_752 dL_law_753 ?_
  refine jm_aload_n C dL_law_754 rfl ?_
  refine jm_cWi (n := 3) [] C (kL_wouldScore E hl0 w I n X5 (hk_x xs (i + 1)) (hk_x_R xs (i + 1)) hO) jw_m_RL_105 okL_wouldScore rfl ⟨rfl, rfl⟩ ⟨Nat.le_of_ble_eq_true rfl, Nat.le_of_ble_eq_true rfl⟩ rfl rfl (Nat.le_of_ble_eq_true rfl) dL_law_755 f1 (fun I1 kz hh => ?_)
  have e1 := hk_e_of hh (fun I' z q a _ => by rw [q.2.1]) (fun c I' q => q.1)
  have H1 := hk_inv_M H e1
  have N1 := hk_nm_M N e1
  refine jm_istore C dL_law_758 (Nat.le_of_ble_eq_true rfl) ?_
  refine jm_aload_n C dL_law_760 rfl ?_
  refine jm_arg (k := 1) C S rfl rfl h0 (by decide) h6 hL dL_law_761 dL_law_762 dL_law_764 dL_law_765 dL_law_766 ?_
  refine jm_cVi (n := 1) (ci := 6) [] C (kX6_wouldScore E w I1 X6 (hk_m8 H1) (hk_x xs (i + 1)) (hk_x_R xs (i + 1))) jw_m_RL_107 okX6_wouldScore rfl ⟨rfl, rfl⟩ ⟨Nat.le_of_ble_eq_true rfl, Nat.le_of_ble_eq_true rfl⟩ rfl X6.1.1 X6.1.2 rfl rfl (Nat.le_of_ble_eq_true rfl) dL_law_767 f1 (fun I2 zb hm => ?_)
  refine jw_tail 770 C X6 hO (hk_s_wouldScore H hh hm) f1 dL_law_770 dL_law_772 dL_law_773 dL_law_776 dL_law_778 dL_law_783 dL_law_785 dL_law_788 dL_law_789 dL_law_790 dL_law_791 dL_law_793 dL_law_794 dL_law_795 dL_law_800 rfl (fun I3 H3 N3 => ?_)
  refine jm_wid (q' := (q.1 + 3, q.2 + 20)) (Nat.add_le_add_left (show 2 ≤ 3 by decide) q.1) (Nat.add_le_add_left (show 12 ≤ 20 by decide) q.2) ?_
  exact next w I3 n ⟨X5, X6, hO, hnd, H3, N3⟩
set_option maxRecDepth 100000 in
set_option maxHeartbeats 4000000 in
theorem jw_wouldScoreAnew {E : jm_E} {G : jm_G} {q : Nat × Nat} {w : jm_W} {I : jm_M} {b L n : Nat} {xs : Nat → Int32} {i T : Int} (hl0 : E.1.stackTraces = false) (C : jm_C E G cL_law 7 RL room_1) (S : jm_SC G b L xs) (h0 : 0 ≤ i) (h6 : i + 6 < L) (hL : L ≤ 3584) (K : hk_LI E w I n T) (hT : 0 ≤ T ∧ T ≤ 1000) (hf : q.1 + 3 ≤ room_1.cells ∧ q.2 + 20 ≤ room_1.slots) (next : ∀ (w1 : jm_W) (I1 : jm_M) (n1 : Nat), hk_LI E w1 I1 n1 (T + 1) → jm_J E G (q.1 + 3, q.2 + 20) w1 I1 1157 (hk_lv b (w1.2.1 0) (w1.2.1 300) (w1.2.1 299) i) []) : jm_J E G q w I 803 (hk_lv b (w.2.1 0) (w.2.1 300) (w.2.1 299) i) [] := by
  obtain ⟨X5, X6, hO, hnd, H, N⟩ := K
  have f1 : q.1 + 2 ≤ room_1.cells ∧ q.2 + 12 ≤ room_1.slots := ⟨by omega, by omega⟩
  refine jm_aload_n C dL_law_803 rfl ?_
  refine jm_arg (k := 1) C S rfl rfl h0 (by decide) h6 hL dL_law_804 dL_law_805 dL_law_807 dL_law_808 dL_law_809 ?_
  refine jm_aload_n C dL_law_810 rfl ?_
  refine jm_cWi (n := 3) [] C (kL_wouldScoreAnew E hl0 w I n X5 (hk_x xs (i + 1)) (hk_x_R xs (i + 1)) hO) jw_m_RL_108 okL_wouldScoreAnew rfl ⟨rfl, rfl⟩ ⟨Nat.le_of_ble_eq_true rfl, Nat.le_of_ble_eq_true rfl⟩ rfl rfl (Nat.le_of_ble_eq_true rfl) dL_law_811 f1 (fun I1 kz hh => ?_)
  have e1 := hk_e_of hh (fun I' z q a _ => by rw [q.2.1]) (fun c I' q => q.1)
  have H1 := hk_inv_M H e1
  have N1 := hk_nm_M N e1
  refine jm_istore C dL_law_814 (Nat.le_of_ble_eq_true rfl) ?_
  refine jm_aload_n C dL_law_816 rfl ?_
  refine jm_arg (k := 1) C S rfl rfl h0 (by decide) h6 hL dL_law_817 dL_law_818 dL_law_820 dL_law_821 dL_law_822 ?_
  refine jm_cVi (n := 1) (ci := 6) [] C (kX6_wouldScoreAnew E w I1 X6 (hk_m8 H1) (hk_x xs (i + 1)) (hk_x_R xs (i + 1))) jw_m_RL_110 okX6_wouldScoreAnew rfl ⟨rfl, rfl⟩ ⟨Nat.le_of_ble_eq_true rfl, Nat.le_of_ble_eq_true rfl⟩ rfl X6.1.1 X6.1.2 rfl rfl (Nat.le_of_ble_eq_true rfl) dL_law_823 f1 (fun I2 zb hm => ?_)
  refine jw_tail 826 C X6 hO (hk_s_wouldScoreAnew H hh hm) f1 dL_law_826 dL_law_828 dL_law_829 dL_law_832 dL_law_834 dL_law_839 dL_law_841 dL_law_844 dL_law_845 dL_law_846 dL_law_847 dL_law_849 dL_law_850 dL_law_851 dL_law_856 rfl (fun I3 H3 N3 => ?_)
  refine jm_wid (q' := (q.1 + 3, q.2 + 20)) (Nat.add_le_add_left (show 2 ≤ 3 by decide) q.1) (Nat.add_le_add_left (show 12 ≤ 20 by decide) q.2) ?_
  exact next w I3 n ⟨X5, X6, hO, hnd, H3, N3⟩
set_option maxRecDepth 100000 in
set_option maxHeartbeats 4000000 in
theorem jw_tries {E : jm_E} {G : jm_G} {q : Nat × Nat} {w : jm_W} {I : jm_M} {b L n : Nat} {xs : Nat → Int32} {i T : Int} (hl0 : E.1.stackTraces = false) (C : jm_C E G cL_law 7 RL room_1) (S : jm_SC G b L xs) (h0 : 0 ≤ i) (h6 : i + 6 < L) (hL : L ≤ 3584) (K : hk_LI E w I n T) (hT : 0 ≤ T ∧ T ≤ 1000) (hf : q.1 + 3 ≤ room_1.cells ∧ q.2 + 20 ≤ room_1.slots) (next : ∀ (w1 : jm_W) (I1 : jm_M) (n1 : Nat), hk_LI E w1 I1 n1 (T + 1) → jm_J E G (q.1 + 3, q.2 + 20) w1 I1 1157 (hk_lv b (w1.2.1 0) (w1.2.1 300) (w1.2.1 299) i) []) : jm_J E G q w I 859 (hk_lv b (w.2.1 0) (w.2.1 300) (w.2.1 299) i) [] := by
  obtain ⟨X5, X6, hO, hnd, H, N⟩ := K
  have f1 : q.1 + 2 ≤ room_1.cells ∧ q.2 + 12 ≤ room_1.slots := ⟨by omega, by omega⟩
  refine jm_aload_n C dL_law_859 rfl ?_
  refine jm_arg (k := 1) C S rfl rfl h0 (by decide) h6 hL dL_law_860 dL_law_861 dL_law_863 dL_law_864 dL_law_865 ?_
  refine jm_arg (k := 2) C S rfl rfl h0 (by decide) h6 hL dL_law_866 dL_law_867 dL_law_869 dL_law_870 dL_law_871 ?_
  refine jm_arg (k := 3) C S rfl rfl h0 (by decide) h6 hL dL_law_872 dL_law_873 dL_law_875 dL_law_876 dL_law_877 ?_
  refine jm_arg (k := 4) C S rfl rfl h0 (by decide) h6 hL dL_law_878 dL_law_879 dL_law_881 dL_law_882 dL_law_883 ?_
  refine jm_arg (k := 5) C S rfl rfl h0 (by decide) h6 hL dL_law_884 dL_law_885 dL_law_887 dL_law_888 dL_law_889 ?_
  refine jm_argb C S rfl rfl h0 h6 hL dL_law_890 dL_law_891 dL_law_893 dL_law_895 dL_law_896 ?_
  refine jm_aload_n C dL_law_897 rfl ?_
  refine jm_cWi (n := 8) [] C (kL_tries E hl0 w I n X5 (hk_x xs (i + 1)) (hk_x xs (i + 2)) (hk_x xs (i + 3)) (hk_x xs (i + 4)) (hk_x xs (i + 5)) (hk_x xs (i + 6)) (hk_x_R xs (i + 1)) (hk_x_R xs (i + 2)) (hk_x_R xs (i + 3)) (hk_x_R xs (i + 4)) (hk_x_R xs (i + 5)) (hk_x_R xs (i + 6)) (hk_cpre H N) hO) jw_m_RL_111 okL_tries rfl ⟨rfl, rfl⟩ ⟨Nat.le_of_ble_eq_true rfl, Nat.le_of_ble_eq_true rfl⟩ rfl rfl (Nat.le_of_ble_eq_true rfl) dL_law_898 f1 (fun I1 kz hh => ?_)
  have e1 := hk_e_of hh (fun I' z q a ha => q.2.2.2.1 a (by omega) (by omega)) (fun c I' q => q.1)
  have H1 := hk_inv_M H e1
  have N1 := hk_nm_M N e1
  refine jm_istore C dL_law_901 (Nat.le_of_ble_eq_true rfl) ?_
  refine jm_aload_n C dL_law_903 rfl ?_
  refine jm_arg (k := 1) C S rfl rfl h0 (by decide) h6 hL dL_law_904 dL_law_905 dL_law_907 dL_law_908 dL_law_909 ?_
  refine jm_arg (k := 2) C S rfl rfl h0 (by decide) h6 hL dL_law_910 dL_law_911 dL_law_913 dL_law_914 dL_law_915 ?_
  refine jm_arg (k := 3) C S rfl rfl h0 (by decide) h6 hL dL_law_916 dL_law_917 dL_law_919 dL_law_920 dL_law_921 ?_
  refine jm_arg (k := 4) C S rfl rfl h0 (by decide) h6 hL dL_law_922 dL_law_923 dL_law_925 dL_law_926 dL_law_927 ?_
  refine jm_arg (k := 5) C S rfl rfl h0 (by decide) h6 hL dL_law_928 dL_law_929 dL_law_931 dL_law_932 dL_law_933 ?_
  refine jm_argb C S rfl rfl h0 h6 hL dL_law_934 dL_law_935 dL_law_937 dL_law_939 dL_law_940 ?_
  refine jm_cVi (n := 6) (ci := 6) [] C (kX6_tries E w I1 X6 (hk_m8 H1) (hk_x xs (i + 1)) (hk_x xs (i + 2)) (hk_x xs (i + 3)) (hk_x xs (i + 4)) (hk_x xs (i + 5)) (hk_x xs (i + 6)) (hk_x_R xs (i + 1)) (hk_x_R xs (i + 2)) (hk_x_R xs (i + 3)) (hk_x_R xs (i + 4)) (hk_x_R xs (i + 5)) (hk_x_R xs (i + 6)) (fun j a b c => (hk_mrow H1 N1 j a b c).1) (fun j a b c => (hk_mrow H1 N1 j a b c).2.1) (fun j a b c => (hk_mrow H1 N1 j a b c).2.2.1) (fun j a b c => (hk_mrow H1 N1 j a b c).2.2.2.1)) jw_m_RL_113 okX6_tries rfl ⟨rfl, rfl⟩ ⟨Nat.le_of_ble_eq_true rfl, Nat.le_of_ble_eq_true rfl⟩ rfl X6.1.1 X6.1.2 rfl rfl (Nat.le_of_ble_eq_true rfl) dL_law_941 f1 (fun I2 zb hm => ?_)
  refine jw_tail 944 C X6 hO (hk_s_tries H N hh hm) f1 dL_law_944 dL_law_946 dL_law_947 dL_law_950 dL_law_952 dL_law_957 dL_law_959 dL_law_962 dL_law_963 dL_law_964 dL_law_965 dL_law_967 dL_law_968 dL_law_969 dL_law_974 rfl (fun I3 H3 N3 => ?_)
  refine jm_wid (q' := (q.1 + 3, q.2 + 20)) (Nat.add_le_add_left (show 2 ≤ 3 by decide) q.1) (Nat.add_le_add_left (show 12 ≤ 20 by decide) q.2) ?_
  exact next w I3 n ⟨X5, X6, hO, hnd, H3, N3⟩
set_option maxRecDepth 100000 in
set_option maxHeartbeats 4000000 in
theorem jw_advice {E : jm_E} {G : jm_G} {q : Nat × Nat} {w : jm_W} {I : jm_M} {b L n : Nat} {xs : Nat → Int32} {i T : Int} (hl0 : E.1.stackTraces = false) (C : jm_C E G cL_law 7 RL room_1) (S : jm_SC G b L xs) (h0 : 0 ≤ i) (h6 : i + 6 < L) (hL : L ≤ 3584) (K : hk_LI E w I n T) (hT : 0 ≤ T ∧ T ≤ 1000) (hf : q.1 + 3 ≤ room_1.cells ∧ q.2 + 20 ≤ room_1.slots) (next : ∀ (w1 : jm_W) (I1 : jm_M) (n1 : Nat), hk_LI E w1 I1 n1 (T + 1) → jm_J E G (q.1 + 3, q.2 + 20) w1 I1 1157 (hk_lv b (w1.2.1 0) (w1.2.1 300) (w1.2.1 299) i) []) : jm_J E G q w I 977 (hk_lv b (w.2.1 0) (w.2.1 300) (w.2.1 299) i) [] := by
  obtain ⟨X5, X6, hO, hnd, H, N⟩ := K
  have f1 : q.1 + 2 ≤ room_1.cells ∧ q.2 + 12 ≤ room_1.slots := ⟨by omega, by omega⟩
  refine jm_aload_n C dL_law_977 rfl ?_
  refine jm_arg (k := 1) C S rfl rfl h0 (by decide) h6 hL dL_law_978 dL_law_979 dL_law_981 dL_law_982 dL_law_983 ?_
  refine jm_aload_n C dL_law_984 rfl ?_
  refine jm_cWi (n := 3) [] C (kL_advice E hl0 w I n X5 (hk_x xs (i + 1)) (hk_x_R xs (i + 1)) (fun j a1 a2 a3 => hk_cpre H N j a1 a2 (Or.inr a3)) hO) jw_m_RL_114 okL_advice rfl ⟨rfl, rfl⟩ ⟨Nat.le_of_ble_eq_true rfl, Nat.le_of_ble_eq_true rfl⟩ rfl rfl (Nat.le_of_ble_eq_true rfl) dL_law_985 f1 (fun I1 kz hh => ?_)
  have e1 := hk_e_of hh (fun I' z q a ha => q.2.2.1 a (by omega) (by omega)) (fun c I' q => q.1)
  have H1 := hk_inv_M H e1
  have N1 := hk_nm_M N e1
  refine jm_istore C dL_law_988 (Nat.le_of_ble_eq_true rfl) ?_
  refine jm_aload_n C dL_law_990 rfl ?_
  refine jm_arg (k := 1) C S rfl rfl h0 (by decide) h6 hL dL_law_991 dL_law_992 dL_law_994 dL_law_995 dL_law_996 ?_
  refine jm_cVi (n := 1) (ci := 6) [] C (kX6_advice E w I1 X6 (hk_m8 H1) (hk_x xs (i + 1)) (hk_x_R xs (i + 1)) (hk_mpl H1 N1)) jw_m_RL_116 okX6_advice rfl ⟨rfl, rfl⟩ ⟨Nat.le_of_ble_eq_true rfl, Nat.le_of_ble_eq_true rfl⟩ rfl X6.1.1 X6.1.2 rfl rfl (Nat.le_of_ble_eq_true rfl) dL_law_997 f1 (fun I2 zb hm => ?_)
  refine jw_tail 1000 C X6 hO (hk_s_advice H N hh hm) f1 dL_law_1000 dL_law_1002 dL_law_1003 dL_law_1006 dL_law_1008 dL_law_1013 dL_law_1015 dL_law_1018 dL_law_1019 dL_law_1020 dL_law_1021 dL_law_1023 dL_law_1024 dL_law_1025 dL_law_1030 rfl (fun I3 H3 N3 => ?_)
  refine jm_wid (q' := (q.1 + 3, q.2 + 20)) (Nat.add_le_add_left (show 2 ≤ 3 by decide) q.1) (Nat.add_le_add_left (show 12 ≤ 20 by decide) q.2) ?_
  exact next w I3 n ⟨X5, X6, hO, hnd, H3, N3⟩
set_option maxRecDepth 100000 in
set_option maxHeartbeats 4000000 in
theorem jw_standing {E : jm_E} {G : jm_G} {q : Nat × Nat} {w : jm_W} {I : jm_M} {b L n : Nat} {xs : Nat → Int32} {i T : Int} (hl0 : E.1.stackTraces = false) (C : jm_C E G cL_law 7 RL room_1) (S : jm_SC G b L xs) (h0 : 0 ≤ i) (h6 : i + 6 < L) (hL : L ≤ 3584) (K : hk_LI E w I n T) (hT : 0 ≤ T ∧ T ≤ 1000) (hf : q.1 + 3 ≤ room_1.cells ∧ q.2 + 20 ≤ room_1.slots) (next : ∀ (w1 : jm_W) (I1 : jm_M) (n1 : Nat), hk_LI E w1 I1 n1 (T + 1) → jm_J E G (q.1 + 3, q.2 + 20) w1 I1 1157 (hk_lv b (w1.2.1 0) (w1.2.1 300) (w1.2.1 299) i) []) : jm_J E G q w I 1033 (hk_lv b (w.2.1 0) (w.2.1 300) (w.2.1 299) i) [] := by
  obtain ⟨X5, X6, hO, hnd, H, N⟩ := K
  have f1 : q.1 + 2 ≤ room_1.cells ∧ q.2 + 12 ≤ room_1.slots := ⟨by omega, by omega⟩
  refine jm_aload_n C dL_law_1033 rfl ?_
  refine jm_arg (k := 1) C S rfl rfl h0 (by decide) h6 hL dL_law_1034 dL_law_1035 dL_law_1037 dL_law_1038 dL_law_1039 ?_
  refine jm_aload_n C dL_law_1040 rfl ?_
  refine jm_cWi (n := 3) [] C (kL_standing E hl0 w I n X5 (hk_x xs (i + 1)) (hk_x_R xs (i + 1)) hO) jw_m_RL_117 okL_standing rfl ⟨rfl, rfl⟩ ⟨Nat.le_of_ble_eq_true rfl, Nat.le_of_ble_eq_true rfl⟩ rfl rfl (Nat.le_of_ble_eq_true rfl) dL_law_1041 f1 (fun I1 kz hh => ?_)
  have e1 := hk_e_of hh (fun I' z q a _ => by rw [q.2.1]) (fun c I' q => q.1)
  have H1 := hk_inv_M H e1
  have N1 := hk_nm_M N e1
  refine jm_istore C dL_law_1044 (Nat.le_of_ble_eq_true rfl) ?_
  refine jm_aload_n C dL_law_1046 rfl ?_
  refine jm_arg (k := 1) C S rfl rfl h0 (by decide) h6 hL dL_law_1047 dL_law_1048 dL_law_1050 dL_law_1051 dL_law_1052 ?_
  refine jm_cVi (n := 1) (ci := 6) [] C (kX6_standing E w I1 X6 (hk_x xs (i + 1)) (hk_x_R xs (i + 1)) (fun t _ _ => ⟨(hk_mb H1 hT.2).2.2 t, ((hk_mb H1 hT.2).2.1 t).1⟩)) jw_m_RL_119 okX6_standing rfl ⟨rfl, rfl⟩ ⟨Nat.le_of_ble_eq_true rfl, Nat.le_of_ble_eq_true rfl⟩ rfl X6.1.1 X6.1.2 rfl rfl (Nat.le_of_ble_eq_true rfl) dL_law_1053 f1 (fun I2 zb hm => ?_)
  refine jw_tail 1056 C X6 hO (hk_s_standing H hh hm) f1 dL_law_1056 dL_law_1058 dL_law_1059 dL_law_1062 dL_law_1064 dL_law_1069 dL_law_1071 dL_law_1074 dL_law_1075 dL_law_1076 dL_law_1077 dL_law_1079 dL_law_1080 dL_law_1081 dL_law_1086 rfl (fun I3 H3 N3 => ?_)
  refine jm_wid (q' := (q.1 + 3, q.2 + 20)) (Nat.add_le_add_left (show 2 ≤ 3 by decide) q.1) (Nat.add_le_add_left (show 12 ≤ 20 by decide) q.2) ?_
  exact next w I3 n ⟨X5, X6, hO, hnd, H3, N3⟩
set_option maxRecDepth 100000 in
set_option maxHeartbeats 4000000 in
theorem jw_ofTeam {E : jm_E} {G : jm_G} {q : Nat × Nat} {w : jm_W} {I : jm_M} {b L n : Nat} {xs : Nat → Int32} {i T : Int} (hl0 : E.1.stackTraces = false) (C : jm_C E G cL_law 7 RL room_1) (S : jm_SC G b L xs) (h0 : 0 ≤ i) (h6 : i + 6 < L) (hL : L ≤ 3584) (K : hk_LI E w I n T) (hT : 0 ≤ T ∧ T ≤ 1000) (hf : q.1 + 3 ≤ room_1.cells ∧ q.2 + 20 ≤ room_1.slots) (next : ∀ (w1 : jm_W) (I1 : jm_M) (n1 : Nat), hk_LI E w1 I1 n1 (T + 1) → jm_J E G (q.1 + 3, q.2 + 20) w1 I1 1157 (hk_lv b (w1.2.1 0) (w1.2.1 300) (w1.2.1 299) i) []) : jm_J E G q w I 1089 (hk_lv b (w.2.1 0) (w.2.1 300) (w.2.1 299) i) [] := by
  obtain ⟨X5, X6, hO, hnd, H, N⟩ := K
  have f1 : q.1 + 2 ≤ room_1.cells ∧ q.2 + 12 ≤ room_1.slots := ⟨by omega, by omega⟩
  refine jm_aload_n C dL_law_1089 rfl ?_
  refine jm_arg (k := 1) C S rfl rfl h0 (by decide) h6 hL dL_law_1090 dL_law_1091 dL_law_1093 dL_law_1094 dL_law_1095 ?_
  refine jm_arg (k := 2) C S rfl rfl h0 (by decide) h6 hL dL_law_1096 dL_law_1097 dL_law_1099 dL_law_1100 dL_law_1101 ?_
  refine jm_aload_n C dL_law_1102 rfl ?_
  refine jm_cWi (n := 4) [] C (kL_ofTeam E hl0 w I n X5 (hk_x xs (i + 1)) (hk_x xs (i + 2)) (hk_x_R xs (i + 1)) (hk_x_R xs (i + 2)) hO) jw_m_RL_120 okL_ofTeam rfl ⟨rfl, rfl⟩ ⟨Nat.le_of_ble_eq_true rfl, Nat.le_of_ble_eq_true rfl⟩ rfl rfl (Nat.le_of_ble_eq_true rfl) dL_law_1103 f1 (fun I1 kz hh => ?_)
  have e1 := hk_e_of hh (fun I' z q a _ => by rw [q.2.2.1]) (fun c I' q => q.1)
  have H1 := hk_inv_M H e1
  have N1 := hk_nm_M N e1
  refine jm_istore C dL_law_1106 (Nat.le_of_ble_eq_true rfl) ?_
  refine jm_aload_n C dL_law_1108 rfl ?_
  refine jm_arg (k := 1) C S rfl rfl h0 (by decide) h6 hL dL_law_1109 dL_law_1110 dL_law_1112 dL_law_1113 dL_law_1114 ?_
  refine jm_arg (k := 2) C S rfl rfl h0 (by decide) h6 hL dL_law_1115 dL_law_1116 dL_law_1118 dL_law_1119 dL_law_1120 ?_
  refine jm_cVi (n := 2) (ci := 6) [] C (kX6_ofTeam E w I1 X6 (hk_x xs (i + 1)) (hk_x xs (i + 2)) (hk_x_R xs (i + 1)) (hk_x_R xs (i + 2))) jw_m_RL_122 okX6_ofTeam rfl ⟨rfl, rfl⟩ ⟨Nat.le_of_ble_eq_true rfl, Nat.le_of_ble_eq_true rfl⟩ rfl X6.1.1 X6.1.2 rfl rfl (Nat.le_of_ble_eq_true rfl) dL_law_1121 f1 (fun I2 zb hm => ?_)
  refine jw_tail 1124 C X6 hO (hk_s_ofTeam H hh hm) f1 dL_law_1124 dL_law_1126 dL_law_1127 dL_law_1130 dL_law_1132 dL_law_1137 dL_law_1139 dL_law_1142 dL_law_1143 dL_law_1144 dL_law_1145 dL_law_1147 dL_law_1148 dL_law_1149 dL_law_1154 rfl (fun I3 H3 N3 => ?_)
  refine jm_wid (q' := (q.1 + 3, q.2 + 20)) (Nat.add_le_add_left (show 2 ≤ 3 by decide) q.1) (Nat.add_le_add_left (show 12 ≤ 20 by decide) q.2) ?_
  exact next w I3 n ⟨X5, X6, hO, hnd, H3, N3⟩
set_option maxRecDepth 100000 in
set_option maxHeartbeats 4000000 in
theorem jw_shoot {E : jm_E} {G : jm_G} {q : Nat × Nat} {w : jm_W} {I : jm_M} {b L n : Nat} {xs : Nat → Int32} {i T : Int} (hl0 : E.1.stackTraces = false) (C : jm_C E G cL_law 7 RL room_1) (S : jm_SC G b L xs) (h0 : 0 ≤ i) (h6 : i + 6 < L) (hL : L ≤ 3584) (K : hk_LI E w I n T) (hT : 0 ≤ T ∧ T ≤ 1000) (hf : q.1 + 3 ≤ room_1.cells ∧ q.2 + 20 ≤ room_1.slots) (next : ∀ (w1 : jm_W) (I1 : jm_M) (n1 : Nat), hk_LI E w1 I1 n1 (T + 1) → jm_J E G (q.1 + 3, q.2 + 20) w1 I1 1157 (hk_lv b (w1.2.1 0) (w1.2.1 300) (w1.2.1 299) i) []) : jm_J E G q w I 264 (hk_lv b (w.2.1 0) (w.2.1 300) (w.2.1 299) i) [] := by
  obtain ⟨X5, X6, hO, hnd, H, N⟩ := K
  have f1 : q.1 + 2 ≤ room_1.cells ∧ q.2 + 12 ≤ room_1.slots := ⟨by omega, by omega⟩
  refine jm_aload_n C dL_law_264 rfl ?_
  refine jm_arg (k := 1) C S rfl rfl h0 (by decide) h6 hL dL_law_265 dL_law_266 dL_law_268 dL_law_269 dL_law_270 ?_
  refine jm_arg (k := 2) C S rfl rfl h0 (by decide) h6 hL dL_law_271 dL_law_272 dL_law_274 dL_law_275 dL_law_276 ?_
  refine jm_arg (k := 3) C S rfl rfl h0 (by decide) h6 hL dL_law_277 dL_law_278 dL_law_280 dL_law_281 dL_law_282 ?_
  refine jm_arg (k := 4) C S rfl rfl h0 (by decide) h6 hL dL_law_283 dL_law_284 dL_law_286 dL_law_287 dL_law_288 ?_
  refine jm_arg (k := 5) C S rfl rfl h0 (by decide) h6 hL dL_law_289 dL_law_290 dL_law_292 dL_law_293 dL_law_294 ?_
  refine jm_argb C S rfl rfl h0 h6 hL dL_law_295 dL_law_296 dL_law_298 dL_law_300 dL_law_301 ?_
  refine jm_aload_n C dL_law_302 rfl ?_
  refine jm_cWi (n := 8) [] C (kL_shoot E hl0 w I n X5 (hk_x xs (i + 1)) (hk_x xs (i + 2)) (hk_x xs (i + 3)) (hk_x xs (i + 4)) (hk_x xs (i + 5)) (hk_x xs (i + 6)) (hk_x_R xs (i + 1)) (hk_x_R xs (i + 2)) (hk_x_R xs (i + 3)) (hk_x_R xs (i + 4)) (hk_x_R xs (i + 5)) (hk_x_R xs (i + 6)) (hk_cpre H N) (hk_cex H) (hk_ctm H hT.2).1 (hk_ctm H hT.2).2 hO) jw_m_RL_80 okL_shoot rfl ⟨rfl, rfl⟩ ⟨Nat.le_of_ble_eq_true rfl, Nat.le_of_ble_eq_true rfl⟩ rfl rfl (Nat.le_of_ble_eq_true rfl) dL_law_303 f1 (fun I1 kz hh => ?_)
  have e1 := hk_e_shoot H hh
  have H1 := hk_inv_M H e1
  have N1 := hk_nm_M N e1
  refine jm_istore C dL_law_306 (Nat.le_of_ble_eq_true rfl) ?_
  refine jm_aload_n C dL_law_308 rfl ?_
  refine jm_arg (k := 1) C S rfl rfl h0 (by decide) h6 hL dL_law_309 dL_law_310 dL_law_312 dL_law_313 dL_law_314 ?_
  refine jm_arg (k := 2) C S rfl rfl h0 (by decide) h6 hL dL_law_315 dL_law_316 dL_law_318 dL_law_319 dL_law_320 ?_
  refine jm_arg (k := 3) C S rfl rfl h0 (by decide) h6 hL dL_law_321 dL_law_322 dL_law_324 dL_law_325 dL_law_326 ?_
  refine jm_arg (k := 4) C S rfl rfl h0 (by decide) h6 hL dL_law_327 dL_law_328 dL_law_330 dL_law_331 dL_law_332 ?_
  refine jm_arg (k := 5) C S rfl rfl h0 (by decide) h6 hL dL_law_333 dL_law_334 dL_law_336 dL_law_337 dL_law_338 ?_
  refine jm_argb C S rfl rfl h0 h6 hL dL_law_339 dL_law_340 dL_law_342 dL_law_344 dL_law_345 ?_
  refine jm_cVi (n := 6) (ci := 6) [] C (kX6_shoot E w I1 X6 (hk_m8 H1) (hk_x xs (i + 1)) (hk_x xs (i + 2)) (hk_x xs (i + 3)) (hk_x xs (i + 4)) (hk_x xs (i + 5)) (hk_x xs (i + 6)) (hk_x_R xs (i + 1)) (hk_x_R xs (i + 2)) (hk_x_R xs (i + 3)) (hk_x_R xs (i + 4)) (hk_x_R xs (i + 5)) (hk_x_R xs (i + 6)) (hk_mrow H1 N1) (hk_mb H1 hT.2).1 (hk_mb H1 hT.2).2.1 (hk_mb H1 hT.2).2.2) jw_m_RL_83 okX6_shoot rfl ⟨rfl, rfl⟩ ⟨Nat.le_of_ble_eq_true rfl, Nat.le_of_ble_eq_true rfl⟩ rfl X6.1.1 X6.1.2 rfl rfl (Nat.le_of_ble_eq_true rfl) dL_law_346 f1 (fun I2 zb hm => ?_)
  refine jw_tail 349 C X6 hO (hk_s_shoot H N hT.1 hh hm) f1 dL_law_349 dL_law_351 dL_law_352 dL_law_355 dL_law_357 dL_law_362 dL_law_364 dL_law_367 dL_law_368 dL_law_369 dL_law_370 dL_law_372 dL_law_373 dL_law_374 dL_law_379 rfl (fun I3 H3 N3 => ?_)
  refine jm_wid (q' := (q.1 + 3, q.2 + 20)) (Nat.add_le_add_left (show 2 ≤ 3 by decide) q.1) (Nat.add_le_add_left (show 12 ≤ 20 by decide) q.2) ?_
  exact next w I3 n ⟨X5, X6, hO, hnd, H3, N3⟩
