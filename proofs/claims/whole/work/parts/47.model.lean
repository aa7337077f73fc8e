def hk_m1 (I I' : jm_M) : Prop := (∀ b, b ≠ 2 → b ≠ 3 → I' 300 b = I 300 b) ∧ I' 300 2 = 2 ∧ I' 300 3 = -1 ∧ (∀ b, I' 307 b = if 0 ≤ b ∧ b < 3 then -1 else 0) ∧ (∀ a, 305 ≤ a → a ≤ 327 → a ≠ 307 → a ≠ 308 → I' a = fun _ => 0) ∧ (∀ a, a < 300 → I' a = I a)
set_option maxRecDepth 100000 in
set_option maxHeartbeats 40000000 in
/-- the model made -/
theorem kX6_init (E : jm_E) (w : jm_W) (I : jm_M) (r : Nat) (A_300 : w.2.1 300 = r) (M_300 : 300 ∈ w.1) (S_300 : w.2.2 300 = jm_O 6 [none, none, none, none, none, some .null, some .null, some .null, none, some .null, some .null, some .null, some .null, some .null, some .null, some .null, some .null, some .null, some .null, some .null, some .null, some .null, some .null, some .null, some .null, some .null, some .null, some .null]) (hw : ∀ z, z ∈ w.1 → z ≤ 300) : jm_Mcx jm_XT E yX6_init wX6_init rcX6_init 22 2460 w I [.ref r] (fun w' I' => jm_gr w w' 300 hk_mn3 ∧ jm_X6 E w' ∧ hk_m1 I I') := by
  refine jm_in_c (cc := cX6_init) (maxL := 2) RX6 (by decide +kernel) rfl rfl rfl (Nat.le_of_ble_eq_true rfl) (by simp [Value.category]) ?_
  intro G C hin0 hX hR hI
  have N_305 : (305) ∉ w.1 := fun h => absurd (hw _ h) (by decide)
  have N0_305 := N_305
  have N_306 : (306) ∉ w.1 := fun h => absurd (hw _ h) (by decide)
  have N0_306 := N_306
  have N_307 : (307) ∉ w.1 := fun h => absurd (hw _ h) (by decide)
  have N0_307 := N_307
  have N_309 : (309) ∉ w.1 := fun h => absurd (hw _ h) (by decide)
  have N0_309 := N_309
  have N_310 : (310) ∉ w.1 := fun h => absurd (hw _ h) (by decide)
  have N0_310 := N_310
  have N_311 : (311) ∉ w.1 := fun h => absurd (hw _ h) (by decide)
  have N0_311 := N_311
  have N_312 : (312) ∉ w.1 := fun h => absurd (hw _ h) (by decide)
  have N0_312 := N_312
  have N_313 : (313) ∉ w.1 := fun h => absurd (hw _ h) (by decide)
  have N0_313 := N_313
  have N_314 : (314) ∉ w.1 := fun h => absurd (hw _ h) (by decide)
  have N0_314 := N_314
  have N_315 : (315) ∉ w.1 := fun h => absurd (hw _ h) (by decide)
  have N0_315 := N_315
  have N_316 : (316) ∉ w.1 := fun h => absurd (hw _ h) (by decide)
  have N0_316 := N_316
  have N_317 : (317) ∉ w.1 := fun h => absurd (hw _ h) (by decide)
  have N0_317 := N_317
  have N_318 : (318) ∉ w.1 := fun h => absurd (hw _ h) (by decide)
  have N0_318 := N_318
  have N_319 : (319) ∉ w.1 := fun h => absurd (hw _ h) (by decide)
  have N0_319 := N_319
  have N_320 : (320) ∉ w.1 := fun h => absurd (hw _ h) (by decide)
  have N0_320 := N_320
  have N_321 : (321) ∉ w.1 := fun h => absurd (hw _ h) (by decide)
  have N0_321 := N_321
  have N_322 : (322) ∉ w.1 := fun h => absurd (hw _ h) (by decide)
  have N0_322 := N_322
  have N_323 : (323) ∉ w.1 := fun h => absurd (hw _ h) (by decide)
  have N0_323 := N_323
  have N_324 : (324) ∉ w.1 := fun h => absurd (hw _ h) (by decide)
  have N0_324 := N_324
  have N_325 : (325) ∉ w.1 := fun h => absurd (hw _ h) (by decide)
  have N0_325 := N_325
  have N_326 : (326) ∉ w.1 := fun h => absurd (hw _ h) (by decide)
  have N0_326 := N_326
  have N_327 : (327) ∉ w.1 := fun h => absurd (hw _ h) (by decide)
  have N0_327 := N_327
  have GT : jm_gr w w 300 hk_mn3 := jm_gr_rf w 300 _
  refine jm_aload_n C dX6_init_0 rfl ?_
  refine jm_obj C jw_m_RX6_1 (Nat.le_of_ble_eq_true rfl) (Nat.le_of_ble_eq_true rfl) dX6_init_1 ?_
  refine jm_aload_n C dX6_init_4 rfl ?_
  refine jm_iconst C dX6_init_5 ?_
  rw [← A_300]
  refine jm_put (ci := 6) (f := 2) (ty := .int) 2 rfl C rfl tyX6 tyX6_ok nmX6 jw_u_6 M_300 S_300 rfl (by decide) jw_f_RX6_7 rfl (by decide +kernel) rfl rfl dX6_init_6 (by decide) ?_
  try rw [A_300]
  refine jm_geni (fun J1 hJ1 => ?_)
  refine jm_aload_n C dX6_init_9 rfl ?_
  refine jm_iconst C dX6_init_10 ?_
  rw [← A_300]
  refine jm_put (ci := 6) (f := 3) (ty := .int) 3 rfl C rfl tyX6 tyX6_ok nmX6 jw_u_6 M_300 S_300 rfl (by decide) jw_f_RX6_13 rfl (by decide +kernel) rfl rfl dX6_init_11 (by decide) ?_
  try rw [A_300]
  refine jm_geni (fun J2 hJ2 => ?_)
  refine jm_aload_n C dX6_init_14 rfl ?_
  refine jm_sipush C dX6_init_15 (by decide +kernel) ?_
  refine jm_newa (atype := .int) .int 0 1647 (305) (by decide) (by decide) rfl (by decide +kernel) C rfl jw_A_int (by decide) N_305 ⟨Nat.le_of_ble_eq_true rfl, Nat.le_of_ble_eq_true rfl⟩ dX6_init_18 (fun a_305 => ?_)
  refine jm_gen (fun w1 hw1 => ?_)
  have GG : jm_gr w w1 (305) (fun z => z = (305)) := by rw [hw1]; exact jm_gr_ad N_305
  replace A_300 : w1.2.1 (300) = r := (GG.1 _ M_300).2.1.trans A_300
  replace S_300 : w1.2.2 (300) = jm_O 6 [none, none, none, none, none, some .null, some .null, some .null, none, some .null, some .null, some .null, some .null, some .null, some .null, some .null, some .null, some .null, some .null, some .null, some .null, some .null, some .null, some .null, some .null, some .null, some .null, some .null] := ((GG.1 _ M_300).2.2 (by decide)).trans S_300
  replace M_300 : (300) ∈ w1.1 := (GG.1 _ M_300).1
  replace N_306 : (306) ∉ w1.1 := fun h => (GG.2 _ h).elim N_306 (fun e => absurd (show (306 : Int) = (305) from e) (by decide))
  replace N_307 : (307) ∉ w1.1 := fun h => (GG.2 _ h).elim N_307 (fun e => absurd (show (307 : Int) = (305) from e) (by decide))
  replace N_309 : (309) ∉ w1.1 := fun h => (GG.2 _ h).elim N_309 (fun e => absurd (show (309 : Int) = (305) from e) (by decide))
  replace N_310 : (310) ∉ w1.1 := fun h => (GG.2 _ h).elim N_310 (fun e => absurd (show (310 : Int) = (305) from e) (by decide))
  replace N_311 : (311) ∉ w1.1 := fun h => (GG.2 _ h).elim N_311 (fun e => absurd (show (311 : Int) = (305) from e) (by decide))
  replace N_312 : (312) ∉ w1.1 := fun h => (GG.2 _ h).elim N_312 (fun e => absurd (show (312 : Int) = (305) from e) (by decide))
  replace N_313 : (313) ∉ w1.1 := fun h => (GG.2 _ h).elim N_313 (fun e => absurd (show (313 : Int) = (305) from e) (by decide))
  replace N_314 : (314) ∉ w1.1 := fun h => (GG.2 _ h).elim N_314 (fun e => absurd (show (314 : Int) = (305) from e) (by decide))
  replace N_315 : (315) ∉ w1.1 := fun h => (GG.2 _ h).elim N_315 (fun e => absurd (show (315 : Int) = (305) from e) (by decide))
  replace N_316 : (316) ∉ w1.1 := fun h => (GG.2 _ h).elim N_316 (fun e => absurd (show (316 : Int) = (305) from e) (by decide))
  replace N_317 : (317) ∉ w1.1 := fun h => (GG.2 _ h).elim N_317 (fun e => absurd (show (317 : Int) = (305) from e) (by decide))
  replace N_318 : (318) ∉ w1.1 := fun h => (GG.2 _ h).elim N_318 (fun e => absurd (show (318 : Int) = (305) from e) (by decide))
  replace N_319 : (319) ∉ w1.1 := fun h => (GG.2 _ h).elim N_319 (fun e => absurd (show (319 : Int) = (305) from e) (by decide))
  replace N_320 : (320) ∉ w1.1 := fun h => (GG.2 _ h).elim N_320 (fun e => absurd (show (320 : Int) = (305) from e) (by decide))
  replace N_321 : (321) ∉ w1.1 := fun h => (GG.2 _ h).elim N_321 (fun e => absurd (show (321 : Int) = (305) from e) (by decide))
  replace N_322 : (322) ∉ w1.1 := fun h => (GG.2 _ h).elim N_322 (fun e => absurd (show (322 : Int) = (305) from e) (by decide))
  replace N_323 : (323) ∉ w1.1 := fun h => (GG.2 _ h).elim N_323 (fun e => absurd (show (323 : Int) = (305) from e) (by decide))
  replace N_324 : (324) ∉ w1.1 := fun h => (GG.2 _ h).elim N_324 (fun e => absurd (show (324 : Int) = (305) from e) (by decide))
  replace N_325 : (325) ∉ w1.1 := fun h => (GG.2 _ h).elim N_325 (fun e => absurd (show (325 : Int) = (305) from e) (by decide))
  replace N_326 : (326) ∉ w1.1 := fun h => (GG.2 _ h).elim N_326 (fun e => absurd (show (326 : Int) = (305) from e) (by decide))
  replace N_327 : (327) ∉ w1.1 := fun h => (GG.2 _ h).elim N_327 (fun e => absurd (show (327 : Int) = (305) from e) (by decide))
  replace GT : jm_gr w w1 (300) (hk_mn3) := jm_gr_tr GT GG (fun h => absurd h N0_305) (fun z e => e.elim id (fun e => by have e : z = (305) := e; subst e; exact (show hk_mn3 _ from by unfold hk_mn3; decide)))
  have M_305 : (305) ∈ w1.1 := by rw [hw1]; exact jm_ad_m
  have A_305 : w1.2.1 (305) = a_305 := by rw [hw1]; exact jm_ad_a
  have S_305 : w1.2.2 (305) = jm_Ia (E.2.2 0) 1647 := by rw [hw1]; exact jm_ad_s
  clear hw1
  refine jm_geni (fun J3 hJ3 => ?_)
  rw [← A_300]
  refine jm_putr (ci := 6) (f := 5) (a := a_305) C hin0 rfl tyX6 tyX6_ok nmX6 jw_u_6 M_300 S_300 (Nat.le_of_ble_eq_true rfl) (by decide) jw_f_RX6_16 rfl rfl (tyX6_ok 5 (by decide)) rfl rfl dX6_init_20 ?_
  try rw [A_300]
  refine jm_gen (fun w2 hw2 => ?_)
  have GG : jm_gr w1 w2 (300) (fun _ => False) := by rw [hw2]; exact jm_gr_sh
  replace A_300 : w2.2.1 (300) = r := (GG.1 _ M_300).2.1.trans A_300
  replace M_300 : (300) ∈ w2.1 := (GG.1 _ M_300).1
  replace A_305 : w2.2.1 (305) = a_305 := (GG.1 _ M_305).2.1.trans A_305
  replace S_305 : w2.2.2 (305) = jm_Ia (E.2.2 0) 1647 := ((GG.1 _ M_305).2.2 (by decide)).trans S_305
  replace M_305 : (305) ∈ w2.1 := (GG.1 _ M_305).1
  replace N_306 : (306) ∉ w2.1 := fun h => (GG.2 _ h).elim N_306 (fun e => e.elim)
  replace N_307 : (307) ∉ w2.1 := fun h => (GG.2 _ h).elim N_307 (fun e => e.elim)
  replace N_309 : (309) ∉ w2.1 := fun h => (GG.2 _ h).elim N_309 (fun e => e.elim)
  replace N_310 : (310) ∉ w2.1 := fun h => (GG.2 _ h).elim N_310 (fun e => e.elim)
  replace N_311 : (311) ∉ w2.1 := fun h => (GG.2 _ h).elim N_311 (fun e => e.elim)
  replace N_312 : (312) ∉ w2.1 := fun h => (GG.2 _ h).elim N_312 (fun e => e.elim)
  replace N_313 : (313) ∉ w2.1 := fun h => (GG.2 _ h).elim N_313 (fun e => e.elim)
  replace N_314 : (314) ∉ w2.1 := fun h => (GG.2 _ h).elim N_314 (fun e => e.elim)
  replace N_315 : (315) ∉ w2.1 := fun h => (GG.2 _ h).elim N_315 (fun e => e.elim)
  replace N_316 : (316) ∉ w2.1 := fun h => (GG.2 _ h).elim N_316 (fun e => e.elim)
  replace N_317 : (317) ∉ w2.1 := fun h => (GG.2 _ h).elim N_317 (fun e => e.elim)
  replace N_318 : (318) ∉ w2.1 := fun h => (GG.2 _ h).elim N_318 (fun e => e.elim)
  replace N_319 : (319) ∉ w2.1 := fun h => (GG.2 _ h).elim N_319 (fun e => e.elim)
  replace N_320 : (320) ∉ w2.1 := fun h => (GG.2 _ h).elim N_320 (fun e => e.elim)
  replace N_321 : (321) ∉ w2.1 := fun h => (GG.2 _ h).elim N_321 (fun e => e.elim)
  replace N_322 : (322) ∉ w2.1 := fun h => (GG.2 _ h).elim N_322 (fun e => e.elim)
  replace N_323 : (323) ∉ w2.1 := fun h => (GG.2 _ h).elim N_323 (fun e => e.elim)
  replace N_324 : (324) ∉ w2.1 := fun h => (GG.2 _ h).elim N_324 (fun e => e.elim)
  replace N_325 : (325) ∉ w2.1 := fun h => (GG.2 _ h).elim N_325 (fun e => e.elim)
  replace N_326 : (326) ∉ w2.1 := fun h => (GG.2 _ h).elim N_326 (fun e => e.elim)
  replace N_327 : (327) ∉ w2.1 := fun h => (GG.2 _ h).elim N_327 (fun e => e.elim)
  replace GT : jm_gr w w2 (300) (hk_mn3) := jm_gr_tr GT GG (fun _ => rfl) (fun z e => e.elim id (fun e => e.elim))
  have S_300 : w2.2.2 (300) = jm_O 6 [none, none, none, none, none, some (.ref a_305), some .null, some .null, none, some .null, some .null, some .null, some .null, some .null, some .null, some .null, some .null, some .null, some .null, some .null, some .null, some .null, some .null, some .null, some .null, some .null, some .null, some .null] := by rw [hw2]; exact jm_sh_s
  clear hw2
  refine jm_aload_n C dX6_init_23 rfl ?_
  refine jm_iconst C dX6_init_24 ?_
  refine jm_newa (atype := .boolean) .boolean 1 3 (306) (by decide) (by decide) rfl (by decide +kernel) C rfl jw_A_bool (by decide) N_306 ⟨Nat.le_of_ble_eq_true rfl, Nat.le_of_ble_eq_true rfl⟩ dX6_init_25 (fun a_306 => ?_)
  refine jm_gen (fun w3 hw3 => ?_)
  have GG : jm_gr w2 w3 (306) (fun z => z = (306)) := by rw [hw3]; exact jm_gr_ad N_306
  replace A_300 : w3.2.1 (300) = r := (GG.1 _ M_300).2.1.trans A_300
  replace S_300 : w3.2.2 (300) = jm_O 6 [none, none, none, none, none, some (.ref a_305), some .null, some .null, none, some .null, some .null, some .null, some .null, some .null, some .null, some .null, some .null, some .null, some .null, some .null, some .null, some .null, some .null, some .null, some .null, some .null, some .null, some .null] := ((GG.1 _ M_300).2.2 (by decide)).trans S_300
  replace M_300 : (300) ∈ w3.1 := (GG.1 _ M_300).1
  replace A_305 : w3.2.1 (305) = a_305 := (GG.1 _ M_305).2.1.trans A_305
  replace S_305 : w3.2.2 (305) = jm_Ia (E.2.2 0) 1647 := ((GG.1 _ M_305).2.2 (by decide)).trans S_305
  replace M_305 : (305) ∈ w3.1 := (GG.1 _ M_305).1
  replace N_307 : (307) ∉ w3.1 := fun h => (GG.2 _ h).elim N_307 (fun e => absurd (show (307 : Int) = (306) from e) (by decide))
  replace N_309 : (309) ∉ w3.1 := fun h => (GG.2 _ h).elim N_309 (fun e => absurd (show (309 : Int) = (306) from e) (by decide))
  replace N_310 : (310) ∉ w3.1 := fun h => (GG.2 _ h).elim N_310 (fun e => absurd (show (310 : Int) = (306) from e) (by decide))
  replace N_311 : (311) ∉ w3.1 := fun h => (GG.2 _ h).elim N_311 (fun e => absurd (show (311 : Int) = (306) from e) (by decide))
  replace N_312 : (312) ∉ w3.1 := fun h => (GG.2 _ h).elim N_312 (fun e => absurd (show (312 : Int) = (306) from e) (by decide))
  replace N_313 : (313) ∉ w3.1 := fun h => (GG.2 _ h).elim N_313 (fun e => absurd (show (313 : Int) = (306) from e) (by decide))
  replace N_314 : (314) ∉ w3.1 := fun h => (GG.2 _ h).elim N_314 (fun e => absurd (show (314 : Int) = (306) from e) (by decide))
  replace N_315 : (315) ∉ w3.1 := fun h => (GG.2 _ h).elim N_315 (fun e => absurd (show (315 : Int) = (306) from e) (by decide))
  replace N_316 : (316) ∉ w3.1 := fun h => (GG.2 _ h).elim N_316 (fun e => absurd (show (316 : Int) = (306) from e) (by decide))
  replace N_317 : (317) ∉ w3.1 := fun h => (GG.2 _ h).elim N_317 (fun e => absurd (show (317 : Int) = (306) from e) (by decide))
  replace N_318 : (318) ∉ w3.1 := fun h => (GG.2 _ h).elim N_318 (fun e => absurd (show (318 : Int) = (306) from e) (by decide))
  replace N_319 : (319) ∉ w3.1 := fun h => (GG.2 _ h).elim N_319 (fun e => absurd (show (319 : Int) = (306) from e) (by decide))
  replace N_320 : (320) ∉ w3.1 := fun h => (GG.2 _ h).elim N_320 (fun e => absurd (show (320 : Int) = (306) from e) (by decide))
  replace N_321 : (321) ∉ w3.1 := fun h => (GG.2 _ h).elim N_321 (fun e => absurd (show (321 : Int) = (306) from e) (by decide))
  replace N_322 : (322) ∉ w3.1 := fun h => (GG.2 _ h).elim N_322 (fun e => absurd (show (322 : Int) = (306) from e) (by decide))
  replace N_323 : (323) ∉ w3.1 := fun h => (GG.2 _ h).elim N_323 (fun e => absurd (show (323 : Int) = (306) from e) (by decide))
  replace N_324 : (324) ∉ w3.1 := fun h => (GG.2 _ h).elim N_324 (fun e => absurd (show (324 : Int) = (306) from e) (by decide))
  replace N_325 : (325) ∉ w3.1 := fun h => (GG.2 _ h).elim N_325 (fun e => absurd (show (325 : Int) = (306) from e) (by decide))
  replace N_326 : (326) ∉ w3.1 := fun h => (GG.2 _ h).elim N_326 (fun e => absurd (show (326 : Int) = (306) from e) (by decide))
  replace N_327 : (327) ∉ w3.1 := fun h => (GG.2 _ h).elim N_327 (fun e => absurd (show (327 : Int) = (306) from e) (by decide))
  replace GT : jm_gr w w3 (300) (hk_mn3) := jm_gr_tr GT GG (fun h => absurd h N0_306) (fun z e => e.elim id (fun e => by have e : z = (306) := e; subst e; exact (show hk_mn3 _ from by unfold hk_mn3; decide)))
  have M_306 : (306) ∈ w3.1 := by rw [hw3]; exact jm_ad_m
  have A_306 : w3.2.1 (306) = a_306 := by rw [hw3]; exact jm_ad_a
  have S_306 : w3.2.2 (306) = jm_Ia (E.2.2 1) 3 := by rw [hw3]; exact jm_ad_s
  clear hw3
  refine jm_geni (fun J4 hJ4 => ?_)
  rw [← A_300]
  refine jm_putr (ci := 6) (f := 6) (a := a_306) C hin0 rfl tyX6 tyX6_ok nmX6 jw_u_6 M_300 S_300 (Nat.le_of_ble_eq_true rfl) (by decide) jw_f_RX6_20 rfl rfl (tyX6_ok 6 (by decide)) rfl rfl dX6_init_27 ?_
  try rw [A_300]
  refine jm_gen (fun w4 hw4 => ?_)
  have GG : jm_gr w3 w4 (300) (fun _ => False) := by rw [hw4]; exact jm_gr_sh
  replace A_300 : w4.2.1 (300) = r := (GG.1 _ M_300).2.1.trans A_300
  replace M_300 : (300) ∈ w4.1 := (GG.1 _ M_300).1
  replace A_305 : w4.2.1 (305) = a_305 := (GG.1 _ M_305).2.1.trans A_305
  replace S_305 : w4.2.2 (305) = jm_Ia (E.2.2 0) 1647 := ((GG.1 _ M_305).2.2 (by decide)).trans S_305
  replace M_305 : (305) ∈ w4.1 := (GG.1 _ M_305).1
  replace A_306 : w4.2.1 (306) = a_306 := (GG.1 _ M_306).2.1.trans A_306
  replace S_306 : w4.2.2 (306) = jm_Ia (E.2.2 1) 3 := ((GG.1 _ M_306).2.2 (by decide)).trans S_306
  replace M_306 : (306) ∈ w4.1 := (GG.1 _ M_306).1
  replace N_307 : (307) ∉ w4.1 := fun h => (GG.2 _ h).elim N_307 (fun e => e.elim)
  replace N_309 : (309) ∉ w4.1 := fun h => (GG.2 _ h).elim N_309 (fun e => e.elim)
  replace N_310 : (310) ∉ w4.1 := fun h => (GG.2 _ h).elim N_310 (fun e => e.elim)
  replace N_311 : (311) ∉ w4.1 := fun h => (GG.2 _ h).elim N_311 (fun e => e.elim)
  replace N_312 : (312) ∉ w4.1 := fun h => (GG.2 _ h).elim N_312 (fun e => e.elim)
  replace N_313 : (313) ∉ w4.1 := fun h => (GG.2 _ h).elim N_313 (fun e => e.elim)
  replace N_314 : (314) ∉ w4.1 := fun h => (GG.2 _ h).elim N_314 (fun e => e.elim)
  replace N_315 : (315) ∉ w4.1 := fun h => (GG.2 _ h).elim N_315 (fun e => e.elim)
  replace N_316 : (316) ∉ w4.1 := fun h => (GG.2 _ h).elim N_316 (fun e => e.elim)
  replace N_317 : (317) ∉ w4.1 := fun h => (GG.2 _ h).elim N_317 (fun e => e.elim)
  replace N_318 : (318) ∉ w4.1 := fun h => (GG.2 _ h).elim N_318 (fun e => e.elim)
  replace N_319 : (319) ∉ w4.1 := fun h => (GG.2 _ h).elim N_319 (fun e => e.elim)
  replace N_320 : (320) ∉ w4.1 := fun h => (GG.2 _ h).elim N_320 (fun e => e.elim)
  replace N_321 : (321) ∉ w4.1 := fun h => (GG.2 _ h).elim N_321 (fun e => e.elim)
  replace N_322 : (322) ∉ w4.1 := fun h => (GG.2 _ h).elim N_322 (fun e => e.elim)
  replace N_323 : (323) ∉ w4.1 := fun h => (GG.2 _ h).elim N_323 (fun e => e.elim)
  replace N_324 : (324) ∉ w4.1 := fun h => (GG.2 _ h).elim N_324 (fun e => e.elim)
  replace N_325 : (325) ∉ w4.1 := fun h => (GG.2 _ h).elim N_325 (fun e => e.elim)
  replace N_326 : (326) ∉ w4.1 := fun h => (GG.2 _ h).elim N_326 (fun e => e.elim)
  replace N_327 : (327) ∉ w4.1 := fun h => (GG.2 _ h).elim N_327 (fun e => e.elim)
  replace GT : jm_gr w w4 (300) (hk_mn3) := jm_gr_tr GT GG (fun _ => rfl) (fun z e => e.elim id (fun e => e.elim))
  have S_300 : w4.2.2 (300) = jm_O 6 [none, none, none, none, none, some (.ref a_305), some (.ref a_306), some .null, none, some .null, some .null, some .null, some .null, some .null, some .null, some .null, some .null, some .null, some .null, some .null, some .null, some .null, some .null, some .null, some .null, some .null, some .null, some .null] := by rw [hw4]; exact jm_sh_s
  clear hw4
  refine jm_aload_n C dX6_init_30 rfl ?_
  refine jm_iconst C dX6_init_31 ?_
  refine jm_newa (atype := .int) .int 0 3 (307) (by decide) (by decide) rfl (by decide +kernel) C rfl jw_A_int (by decide) N_307 ⟨Nat.le_of_ble_eq_true rfl, Nat.le_of_ble_eq_true rfl⟩ dX6_init_32 (fun a_307 => ?_)
  refine jm_gen (fun w5 hw5 => ?_)
  have GG : jm_gr w4 w5 (307) (fun z => z = (307)) := by rw [hw5]; exact jm_gr_ad N_307
  replace A_300 : w5.2.1 (300) = r := (GG.1 _ M_300).2.1.trans A_300
  replace S_300 : w5.2.2 (300) = jm_O 6 [none, none, none, none, none, some (.ref a_305), some (.ref a_306), some .null, none, some .null, some .null, some .null, some .null, some .null, some .null, some .null, some .null, some .null, some .null, some .null, some .null, some .null, some .null, some .null, some .null, some .null, some .null, some .null] := ((GG.1 _ M_300).2.2 (by decide)).trans S_300
  replace M_300 : (300) ∈ w5.1 := (GG.1 _ M_300).1
  replace A_305 : w5.2.1 (305) = a_305 := (GG.1 _ M_305).2.1.trans A_305
  replace S_305 : w5.2.2 (305) = jm_Ia (E.2.2 0) 1647 := ((GG.1 _ M_305).2.2 (by decide)).trans S_305
  replace M_305 : (305) ∈ w5.1 := (GG.1 _ M_305).1
  replace A_306 : w5.2.1 (306) = a_306 := (GG.1 _ M_306).2.1.trans A_306
  replace S_306 : w5.2.2 (306) = jm_Ia (E.2.2 1) 3 := ((GG.1 _ M_306).2.2 (by decide)).trans S_306
  replace M_306 : (306) ∈ w5.1 := (GG.1 _ M_306).1
  replace N_309 : (309) ∉ w5.1 := fun h => (GG.2 _ h).elim N_309 (fun e => absurd (show (309 : Int) = (307) from e) (by decide))
  replace N_310 : (310) ∉ w5.1 := fun h => (GG.2 _ h).elim N_310 (fun e => absurd (show (310 : Int) = (307) from e) (by decide))
  replace N_311 : (311) ∉ w5.1 := fun h => (GG.2 _ h).elim N_311 (fun e => absurd (show (311 : Int) = (307) from e) (by decide))
  replace N_312 : (312) ∉ w5.1 := fun h => (GG.2 _ h).elim N_312 (fun e => absurd (show (312 : Int) = (307) from e) (by decide))
  replace N_313 : (313) ∉ w5.1 := fun h => (GG.2 _ h).elim N_313 (fun e => absurd (show (313 : Int) = (307) from e) (by decide))
  replace N_314 : (314) ∉ w5.1 := fun h => (GG.2 _ h).elim N_314 (fun e => absurd (show (314 : Int) = (307) from e) (by decide))
  replace N_315 : (315) ∉ w5.1 := fun h => (GG.2 _ h).elim N_315 (fun e => absurd (show (315 : Int) = (307) from e) (by decide))
  replace N_316 : (316) ∉ w5.1 := fun h => (GG.2 _ h).elim N_316 (fun e => absurd (show (316 : Int) = (307) from e) (by decide))
  replace N_317 : (317) ∉ w5.1 := fun h => (GG.2 _ h).elim N_317 (fun e => absurd (show (317 : Int) = (307) from e) (by decide))
  replace N_318 : (318) ∉ w5.1 := fun h => (GG.2 _ h).elim N_318 (fun e => absurd (show (318 : Int) = (307) from e) (by decide))
  replace N_319 : (319) ∉ w5.1 := fun h => (GG.2 _ h).elim N_319 (fun e => absurd (show (319 : Int) = (307) from e) (by decide))
  replace N_320 : (320) ∉ w5.1 := fun h => (GG.2 _ h).elim N_320 (fun e => absurd (show (320 : Int) = (307) from e) (by decide))
  replace N_321 : (321) ∉ w5.1 := fun h => (GG.2 _ h).elim N_321 (fun e => absurd (show (321 : Int) = (307) from e) (by decide))
  replace N_322 : (322) ∉ w5.1 := fun h => (GG.2 _ h).elim N_322 (fun e => absurd (show (322 : Int) = (307) from e) (by decide))
  replace N_323 : (323) ∉ w5.1 := fun h => (GG.2 _ h).elim N_323 (fun e => absurd (show (323 : Int) = (307) from e) (by decide))
  replace N_324 : (324) ∉ w5.1 := fun h => (GG.2 _ h).elim N_324 (fun e => absurd (show (324 : Int) = (307) from e) (by decide))
  replace N_325 : (325) ∉ w5.1 := fun h => (GG.2 _ h).elim N_325 (fun e => absurd (show (325 : Int) = (307) from e) (by decide))
  replace N_326 : (326) ∉ w5.1 := fun h => (GG.2 _ h).elim N_326 (fun e => absurd (show (326 : Int) = (307) from e) (by decide))
  replace N_327 : (327) ∉ w5.1 := fun h => (GG.2 _ h).elim N_327 (fun e => absurd (show (327 : Int) = (307) from e) (by decide))
  replace GT : jm_gr w w5 (300) (hk_mn3) := jm_gr_tr GT GG (fun h => absurd h N0_307) (fun z e => e.elim id (fun e => by have e : z = (307) := e; subst e; exact (show hk_mn3 _ from by unfold hk_mn3; decide)))
  have M_307 : (307) ∈ w5.1 := by rw [hw5]; exact jm_ad_m
  have A_307 : w5.2.1 (307) = a_307 := by rw [hw5]; exact jm_ad_a
  have S_307 : w5.2.2 (307) = jm_Ia (E.2.2 0) 3 := by rw [hw5]; exact jm_ad_s
  clear hw5
  refine jm_geni (fun J5 hJ5 => ?_)
  rw [← A_300]
  refine jm_putr (ci := 6) (f := 7) (a := a_307) C hin0 rfl tyX6 tyX6_ok nmX6 jw_u_6 M_300 S_300 (Nat.le_of_ble_eq_true rfl) (by decide) jw_f_RX6_24 rfl rfl (tyX6_ok 7 (by decide)) rfl rfl dX6_init_34 ?_
  try rw [A_300]
  refine jm_gen (fun w6 hw6 => ?_)
  have GG : jm_gr w5 w6 (300) (fun _ => False) := by rw [hw6]; exact jm_gr_sh
  replace A_300 : w6.2.1 (300) = r := (GG.1 _ M_300).2.1.trans A_300
  replace M_300 : (300) ∈ w6.1 := (GG.1 _ M_300).1
  replace A_305 : w6.2.1 (305) = a_305 := (GG.1 _ M_305).2.1.trans A_305
  replace S_305 : w6.2.2 (305) = jm_Ia (E.2.2 0) 1647 := ((GG.1 _ M_305).2.2 (by decide)).trans S_305
  replace M_305 : (305) ∈ w6.1 := (GG.1 _ M_305).1
  replace A_306 : w6.2.1 (306) = a_306 := (GG.1 _ M_306).2.1.trans A_306
  replace S_306 : w6.2.2 (306) = jm_Ia (E.2.2 1) 3 := ((GG.1 _ M_306).2.2 (by decide)).trans S_306
  replace M_306 : (306) ∈ w6.1 := (GG.1 _ M_306).1
  replace A_307 : w6.2.1 (307) = a_307 := (GG.1 _ M_307).2.1.trans A_307
  replace S_307 : w6.2.2 (307) = jm_Ia (E.2.2 0) 3 := ((GG.1 _ M_307).2.2 (by decide)).trans S_307
  replace M_307 : (307) ∈ w6.1 := (GG.1 _ M_307).1
  replace N_309 : (309) ∉ w6.1 := fun h => (GG.2 _ h).elim N_309 (fun e => e.elim)
  replace N_310 : (310) ∉ w6.1 := fun h => (GG.2 _ h).elim N_310 (fun e => e.elim)
  replace N_311 : (311) ∉ w6.1 := fun h => (GG.2 _ h).elim N_311 (fun e => e.elim)
  replace N_312 : (312) ∉ w6.1 := fun h => (GG.2 _ h).elim N_312 (fun e => e.elim)
  replace N_313 : (313) ∉ w6.1 := fun h => (GG.2 _ h).elim N_313 (fun e => e.elim)
  replace N_314 : (314) ∉ w6.1 := fun h => (GG.2 _ h).elim N_314 (fun e => e.elim)
  replace N_315 : (315) ∉ w6.1 := fun h => (GG.2 _ h).elim N_315 (fun e => e.elim)
  replace N_316 : (316) ∉ w6.1 := fun h => (GG.2 _ h).elim N_316 (fun e => e.elim)
  replace N_317 : (317) ∉ w6.1 := fun h => (GG.2 _ h).elim N_317 (fun e => e.elim)
  replace N_318 : (318) ∉ w6.1 := fun h => (GG.2 _ h).elim N_318 (fun e => e.elim)
  replace N_319 : (319) ∉ w6.1 := fun h => (GG.2 _ h).elim N_319 (fun e => e.elim)
  replace N_320 : (320) ∉ w6.1 := fun h => (GG.2 _ h).elim N_320 (fun e => e.elim)
  replace N_321 : (321) ∉ w6.1 := fun h => (GG.2 _ h).elim N_321 (fun e => e.elim)
  replace N_322 : (322) ∉ w6.1 := fun h => (GG.2 _ h).elim N_322 (fun e => e.elim)
  replace N_323 : (323) ∉ w6.1 := fun h => (GG.2 _ h).elim N_323 (fun e => e.elim)
  replace N_324 : (324) ∉ w6.1 := fun h => (GG.2 _ h).elim N_324 (fun e => e.elim)
  replace N_325 : (325) ∉ w6.1 := fun h => (GG.2 _ h).elim N_325 (fun e => e.elim)
  replace N_326 : (326) ∉ w6.1 := fun h => (GG.2 _ h).elim N_326 (fun e => e.elim)
  replace N_327 : (327) ∉ w6.1 := fun h => (GG.2 _ h).elim N_327 (fun e => e.elim)
  replace GT : jm_gr w w6 (300) (hk_mn3) := jm_gr_tr GT GG (fun _ => rfl) (fun z e => e.elim id (fun e => e.elim))
  have S_300 : w6.2.2 (300) = jm_O 6 [none, none, none, none, none, some (.ref a_305), some (.ref a_306), some (.ref a_307), none, some .null, some .null, some .null, some .null, some .null, some .null, some .null, some .null, some .null, some .null, some .null, some .null, some .null, some .null, some .null, some .null, some .null, some .null, some .null] := by rw [hw6]; exact jm_sh_s
  clear hw6
  refine jm_aload_n C dX6_init_37 rfl ?_
  refine jm_bipush C dX6_init_38 (by decide +kernel) ?_
  refine jm_newa (atype := .int) .int 0 12 (309) (by decide) (by decide) rfl (by decide +kernel) C rfl jw_A_int (by decide) N_309 ⟨Nat.le_of_ble_eq_true rfl, Nat.le_of_ble_eq_true rfl⟩ dX6_init_40 (fun a_309 => ?_)
  refine jm_gen (fun w7 hw7 => ?_)
  have GG : jm_gr w6 w7 (309) (fun z => z = (309)) := by rw [hw7]; exact jm_gr_ad N_309
  replace A_300 : w7.2.1 (300) = r := (GG.1 _ M_300).2.1.trans A_300
  replace S_300 : w7.2.2 (300) = jm_O 6 [none, none, none, none, none, some (.ref a_305), some (.ref a_306), some (.ref a_307), none, some .null, some .null, some .null, some .null, some .null, some .null, some .null, some .null, some .null, some .null, some .null, some .null, some .null, some .null, some .null, some .null, some .null, some .null, some .null] := ((GG.1 _ M_300).2.2 (by decide)).trans S_300
  replace M_300 : (300) ∈ w7.1 := (GG.1 _ M_300).1
  replace A_305 : w7.2.1 (305) = a_305 := (GG.1 _ M_305).2.1.trans A_305
  replace S_305 : w7.2.2 (305) = jm_Ia (E.2.2 0) 1647 := ((GG.1 _ M_305).2.2 (by decide)).trans S_305
  replace M_305 : (305) ∈ w7.1 := (GG.1 _ M_305).1
  replace A_306 : w7.2.1 (306) = a_306 := (GG.1 _ M_306).2.1.trans A_306
  replace S_306 : w7.2.2 (306) = jm_Ia (E.2.2 1) 3 := ((GG.1 _ M_306).2.2 (by decide)).trans S_306
  replace M_306 : (306) ∈ w7.1 := (GG.1 _ M_306).1
  replace A_307 : w7.2.1 (307) = a_307 := (GG.1 _ M_307).2.1.trans A_307
  replace S_307 : w7.2.2 (307) = jm_Ia (E.2.2 0) 3 := ((GG.1 _ M_307).2.2 (by decide)).trans S_307
  replace M_307 : (307) ∈ w7.1 := (GG.1 _ M_307).1
  replace N_310 : (310) ∉ w7.1 := fun h => (GG.2 _ h).elim N_310 (fun e => absurd (show (310 : Int) = (309) from e) (by decide))
  replace N_311 : (311) ∉ w7.1 := fun h => (GG.2 _ h).elim N_311 (fun e => absurd (show (311 : Int) = (309) from e) (by decide))
  replace N_312 : (312) ∉ w7.1 := fun h => (GG.2 _ h).elim N_312 (fun e => absurd (show (312 : Int) = (309) from e) (by decide))
  replace N_313 : (313) ∉ w7.1 := fun h => (GG.2 _ h).elim N_313 (fun e => absurd (show (313 : Int) = (309) from e) (by decide))
  replace N_314 : (314) ∉ w7.1 := fun h => (GG.2 _ h).elim N_314 (fun e => absurd (show (314 : Int) = (309) from e) (by decide))
  replace N_315 : (315) ∉ w7.1 := fun h => (GG.2 _ h).elim N_315 (fun e => absurd (show (315 : Int) = (309) from e) (by decide))
  replace N_316 : (316) ∉ w7.1 := fun h => (GG.2 _ h).elim N_316 (fun e => absurd (show (316 : Int) = (309) from e) (by decide))
  replace N_317 : (317) ∉ w7.1 := fun h => (GG.2 _ h).elim N_317 (fun e => absurd (show (317 : Int) = (309) from e) (by decide))
  replace N_318 : (318) ∉ w7.1 := fun h => (GG.2 _ h).elim N_318 (fun e => absurd (show (318 : Int) = (309) from e) (by decide))
  replace N_319 : (319) ∉ w7.1 := fun h => (GG.2 _ h).elim N_319 (fun e => absurd (show (319 : Int) = (309) from e) (by decide))
  replace N_320 : (320) ∉ w7.1 := fun h => (GG.2 _ h).elim N_320 (fun e => absurd (show (320 : Int) = (309) from e) (by decide))
  replace N_321 : (321) ∉ w7.1 := fun h => (GG.2 _ h).elim N_321 (fun e => absurd (show (321 : Int) = (309) from e) (by decide))
  replace N_322 : (322) ∉ w7.1 := fun h => (GG.2 _ h).elim N_322 (fun e => absurd (show (322 : Int) = (309) from e) (by decide))
  replace N_323 : (323) ∉ w7.1 := fun h => (GG.2 _ h).elim N_323 (fun e => absurd (show (323 : Int) = (309) from e) (by decide))
  replace N_324 : (324) ∉ w7.1 := fun h => (GG.2 _ h).elim N_324 (fun e => absurd (show (324 : Int) = (309) from e) (by decide))
  replace N_325 : (325) ∉ w7.1 := fun h => (GG.2 _ h).elim N_325 (fun e => absurd (show (325 : Int) = (309) from e) (by decide))
  replace N_326 : (326) ∉ w7.1 := fun h => (GG.2 _ h).elim N_326 (fun e => absurd (show (326 : Int) = (309) from e) (by decide))
  replace N_327 : (327) ∉ w7.1 := fun h => (GG.2 _ h).elim N_327 (fun e => absurd (show (327 : Int) = (309) from e) (by decide))
  replace GT : jm_gr w w7 (300) (hk_mn3) := jm_gr_tr GT GG (fun h => absurd h N0_309) (fun z e => e.elim id (fun e => by have e : z = (309) := e; subst e; exact (show hk_mn3 _ from by unfold hk_mn3; decide)))
  have M_309 : (309) ∈ w7.1 := by rw [hw7]; exact jm_ad_m
  have A_309 : w7.2.1 (309) = a_309 := by rw [hw7]; exact jm_ad_a
  have S_309 : w7.2.2 (309) = jm_Ia (E.2.2 0) 12 := by rw [hw7]; exact jm_ad_s
  clear hw7
  refine jm_geni (fun J6 hJ6 => ?_)
  rw [← A_300]
  refine jm_putr (ci := 6) (f := 9) (a := a_309) C hin0 rfl tyX6 tyX6_ok nmX6 jw_u_6 M_300 S_300 (Nat.le_of_ble_eq_true rfl) (by decide) jw_f_RX6_27 rfl rfl (tyX6_ok 9 (by decide)) rfl rfl dX6_init_42 ?_
  try rw [A_300]
  refine jm_gen (fun w8 hw8 => ?_)
  have GG : jm_gr w7 w8 (300) (fun _ => False) := by rw [hw8]; exact jm_gr_sh
  replace A_300 : w8.2.1 (300) = r := (GG.1 _ M_300).2.1.trans A_300
  replace M_300 : (300) ∈ w8.1 := (GG.1 _ M_300).1
  replace A_305 : w8.2.1 (305) = a_305 := (GG.1 _ M_305).2.1.trans A_305
  replace S_305 : w8.2.2 (305) = jm_Ia (E.2.2 0) 1647 := ((GG.1 _ M_305).2.2 (by decide)).trans S_305
  replace M_305 : (305) ∈ w8.1 := (GG.1 _ M_305).1
  replace A_306 : w8.2.1 (306) = a_306 := (GG.1 _ M_306).2.1.trans A_306
  replace S_306 : w8.2.2 (306) = jm_Ia (E.2.2 1) 3 := ((GG.1 _ M_306).2.2 (by decide)).trans S_306
  replace M_306 : (306) ∈ w8.1 := (GG.1 _ M_306).1
  replace A_307 : w8.2.1 (307) = a_307 := (GG.1 _ M_307).2.1.trans A_307
  replace S_307 : w8.2.2 (307) = jm_Ia (E.2.2 0) 3 := ((GG.1 _ M_307).2.2 (by decide)).trans S_307
  replace M_307 : (307) ∈ w8.1 := (GG.1 _ M_307).1
  replace A_309 : w8.2.1 (309) = a_309 := (GG.1 _ M_309).2.1.trans A_309
  replace S_309 : w8.2.2 (309) = jm_Ia (E.2.2 0) 12 := ((GG.1 _ M_309).2.2 (by decide)).trans S_309
  replace M_309 : (309) ∈ w8.1 := (GG.1 _ M_309).1
  replace N_310 : (310) ∉ w8.1 := fun h => (GG.2 _ h).elim N_310 (fun e => e.elim)
  replace N_311 : (311) ∉ w8.1 := fun h => (GG.2 _ h).elim N_311 (fun e => e.elim)
  replace N_312 : (312) ∉ w8.1 := fun h => (GG.2 _ h).elim N_312 (fun e => e.elim)
  replace N_313 : (313) ∉ w8.1 := fun h => (GG.2 _ h).elim N_313 (fun e => e.elim)
  replace N_314 : (314) ∉ w8.1 := fun h => (GG.2 _ h).elim N_314 (fun e => e.elim)
  replace N_315 : (315) ∉ w8.1 := fun h => (GG.2 _ h).elim N_315 (fun e => e.elim)
  replace N_316 : (316) ∉ w8.1 := fun h => (GG.2 _ h).elim N_316 (fun e => e.elim)
  replace N_317 : (317) ∉ w8.1 := fun h => (GG.2 _ h).elim N_317 (fun e => e.elim)
  replace N_318 : (318) ∉ w8.1 := fun h => (GG.2 _ h).elim N_318 (fun e => e.elim)
  replace N_319 : (319) ∉ w8.1 := fun h => (GG.2 _ h).elim N_319 (fun e => e.elim)
  replace N_320 : (320) ∉ w8.1 := fun h => (GG.2 _ h).elim N_320 (fun e => e.elim)
  replace N_321 : (321) ∉ w8.1 := fun h => (GG.2 _ h).elim N_321 (fun e => e.elim)
  replace N_322 : (322) ∉ w8.1 := fun h => (GG.2 _ h).elim N_322 (fun e => e.elim)
  replace N_323 : (323) ∉ w8.1 := fun h => (GG.2 _ h).elim N_323 (fun e => e.elim)
  replace N_324 : (324) ∉ w8.1 := fun h => (GG.2 _ h).elim N_324 (fun e => e.elim)
  replace N_325 : (325) ∉ w8.1 := fun h => (GG.2 _ h).elim N_325 (fun e => e.elim)
  replace N_326 : (326) ∉ w8.1 := fun h => (GG.2 _ h).elim N_326 (fun e => e.elim)
  replace N_327 : (327) ∉ w8.1 := fun h => (GG.2 _ h).elim N_327 (fun e => e.elim)
  replace GT : jm_gr w w8 (300) (hk_mn3) := jm_gr_tr GT GG (fun _ => rfl) (fun z e => e.elim id (fun e => e.elim))
  have S_300 : w8.2.2 (300) = jm_O 6 [none, none, none, none, none, some (.ref a_305), some (.ref a_306), some (.ref a_307), none, some (.ref a_309), some .null, some .null, some .null, some .null, some .null, some .null, some .null, some .null, some .null, some .null, some .null, some .null, some .null, some .null, some .null, some .null, some .null, some .null] := by rw [hw8]; exact jm_sh_s
  clear hw8
  refine jm_aload_n C dX6_init_45 rfl ?_
  refine jm_bipush C dX6_init_46 (by decide +kernel) ?_
  refine jm_newa (atype := .int) .int 0 12 (310) (by decide) (by decide) rfl (by decide +kernel) C rfl jw_A_int (by decide) N_310 ⟨Nat.le_of_ble_eq_true rfl, Nat.le_of_ble_eq_true rfl⟩ dX6_init_48 (fun a_310 => ?_)
  refine jm_gen (fun w9 hw9 => ?_)
  have GG : jm_gr w8 w9 (310) (fun z => z = (310)) := by rw [hw9]; exact jm_gr_ad N_310
  replace A_300 : w9.2.1 (300) = r := (GG.1 _ M_300).2.1.trans A_300
  replace S_300 : w9.2.2 (300) = jm_O 6 [none, none, none, none, none, some (.ref a_305), some (.ref a_306), some (.ref a_307), none, some (.ref a_309), some .null, some .null, some .null, some .null, some .null, some .null, some .null, some .null, some .null, some .null, some .null, some .null, some .null, some .null, some .null, some .null, some .null, some .null] := ((GG.1 _ M_300).2.2 (by decide)).trans S_300
  replace M_300 : (300) ∈ w9.1 := (GG.1 _ M_300).1
  replace A_305 : w9.2.1 (305) = a_305 := (GG.1 _ M_305).2.1.trans A_305
  replace S_305 : w9.2.2 (305) = jm_Ia (E.2.2 0) 1647 := ((GG.1 _ M_305).2.2 (by decide)).trans S_305
  replace M_305 : (305) ∈ w9.1 := (GG.1 _ M_305).1
  replace A_306 : w9.2.1 (306) = a_306 := (GG.1 _ M_306).2.1.trans A_306
  replace S_306 : w9.2.2 (306) = jm_Ia (E.2.2 1) 3 := ((GG.1 _ M_306).2.2 (by decide)).trans S_306
  replace M_306 : (306) ∈ w9.1 := (GG.1 _ M_306).1
  replace A_307 : w9.2.1 (307) = a_307 := (GG.1 _ M_307).2.1.trans A_307
  replace S_307 : w9.2.2 (307) = jm_Ia (E.2.2 0) 3 := ((GG.1 _ M_307).2.2 (by decide)).trans S_307
  replace M_307 : (307) ∈ w9.1 := (GG.1 _ M_307).1
  replace A_309 : w9.2.1 (309) = a_309 := (GG.1 _ M_309).2.1.trans A_309
  replace S_309 : w9.2.2 (309) = jm_Ia (E.2.2 0) 12 := ((GG.1 _ M_309).2.2 (by decide)).trans S_309
  replace M_309 : (309) ∈ w9.1 := (GG.1 _ M_309).1
  replace N_311 : (311) ∉ w9.1 := fun h => (GG.2 _ h).elim N_311 (fun e => absurd (show (311 : Int) = (310) from e) (by decide))
  replace N_312 : (312) ∉ w9.1 := fun h => (GG.2 _ h).elim N_312 (fun e => absurd (show (312 : Int) = (310) from e) (by decide))
  replace N_313 : (313) ∉ w9.1 := fun h => (GG.2 _ h).elim N_313 (fun e => absurd (show (313 : Int) = (310) from e) (by decide))
  replace N_314 : (314) ∉ w9.1 := fun h => (GG.2 _ h).elim N_314 (fun e => absurd (show (314 : Int) = (310) from e) (by decide))
  replace N_315 : (315) ∉ w9.1 := fun h => (GG.2 _ h).elim N_315 (fun e => absurd (show (315 : Int) = (310) from e) (by decide))
  replace N_316 : (316) ∉ w9.1 := fun h => (GG.2 _ h).elim N_316 (fun e => absurd (show (316 : Int) = (310) from e) (by decide))
  replace N_317 : (317) ∉ w9.1 := fun h => (GG.2 _ h).elim N_317 (fun e => absurd (show (317 : Int) = (310) from e) (by decide))
  replace N_318 : (318) ∉ w9.1 := fun h => (GG.2 _ h).elim N_318 (fun e => absurd (show (318 : Int) = (310) from e) (by decide))
  replace N_319 : (319) ∉ w9.1 := fun h => (GG.2 _ h).elim N_319 (fun e => absurd (show (319 : Int) = (310) from e) (by decide))
  replace N_320 : (320) ∉ w9.1 := fun h => (GG.2 _ h).elim N_320 (fun e => absurd (show (320 : Int) = (310) from e) (by decide))
  replace N_321 : (321) ∉ w9.1 := fun h => (GG.2 _ h).elim N_321 (fun e => absurd (show (321 : Int) = (310) from e) (by decide))
  replace N_322 : (322) ∉ w9.1 := fun h => (GG.2 _ h).elim N_322 (fun e => absurd (show (322 : Int) = (310) from e) (by decide))
  replace N_323 : (323) ∉ w9.1 := fun h => (GG.2 _ h).elim N_323 (fun e => absurd (show (323 : Int) = (310) from e) (by decide))
  replace N_324 : (324) ∉ w9.1 := fun h => (GG.2 _ h).elim N_324 (fun e => absurd (show (324 : Int) = (310) from e) (by decide))
  replace N_325 : (325) ∉ w9.1 := fun h => (GG.2 _ h).elim N_325 (fun e => absurd (show (325 : Int) = (310) from e) (by decide))
  replace N_326 : (326) ∉ w9.1 := fun h => (GG.2 _ h).elim N_326 (fun e => absurd (show (326 : Int) = (310) from e) (by decide))
  replace N_327 : (327) ∉ w9.1 := fun h => (GG.2 _ h).elim N_327 (fun e => absurd (show (327 : Int) = (310) from e) (by decide))
  replace GT : jm_gr w w9 (300) (hk_mn3) := jm_gr_tr GT GG (fun h => absurd h N0_310) (fun z e => e.elim id (fun e => by have e : z = (310) := e; subst e; exact (show hk_mn3 _ from by unfold hk_mn3; decide)))
  have M_310 : (310) ∈ w9.1 := by rw [hw9]; exact jm_ad_m
  have A_310 : w9.2.1 (310) = a_310 := by rw [hw9]; exact jm_ad_a
  have S_310 : w9.2.2 (310) = jm_Ia (E.2.2 0) 12 := by rw [hw9]; exact jm_ad_s
  clear hw9
  refine jm_geni (fun J7 hJ7 => ?_)
  rw [← A_300]
  refine jm_putr (ci := 6) (f := 10) (a := a_310) C hin0 rfl tyX6 tyX6_ok nmX6 jw_u_6 M_300 S_300 (Nat.le_of_ble_eq_true rfl) (by decide) jw_f_RX6_30 rfl rfl (tyX6_ok 10 (by decide)) rfl rfl dX6_init_50 ?_
  try rw [A_300]
  refine jm_gen (fun w10 hw10 => ?_)
  have GG : jm_gr w9 w10 (300) (fun _ => False) := by rw [hw10]; exact jm_gr_sh
  replace A_300 : w10.2.1 (300) = r := (GG.1 _ M_300).2.1.trans A_300
  replace M_300 : (300) ∈ w10.1 := (GG.1 _ M_300).1
  replace A_305 : w10.2.1 (305) = a_305 := (GG.1 _ M_305).2.1.trans A_305
  replace S_305 : w10.2.2 (305) = jm_Ia (E.2.2 0) 1647 := ((GG.1 _ M_305).2.2 (by decide)).trans S_305
  replace M_305 : (305) ∈ w10.1 := (GG.1 _ M_305).1
  replace A_306 : w10.2.1 (306) = a_306 := (GG.1 _ M_306).2.1.trans A_306
  replace S_306 : w10.2.2 (306) = jm_Ia (E.2.2 1) 3 := ((GG.1 _ M_306).2.2 (by decide)).trans S_306
  replace M_306 : (306) ∈ w10.1 := (GG.1 _ M_306).1
  replace A_307 : w10.2.1 (307) = a_307 := (GG.1 _ M_307).2.1.trans A_307
  replace S_307 : w10.2.2 (307) = jm_Ia (E.2.2 0) 3 := ((GG.1 _ M_307).2.2 (by decide)).trans S_307
  replace M_307 : (307) ∈ w10.1 := (GG.1 _ M_307).1
  replace A_309 : w10.2.1 (309) = a_309 := (GG.1 _ M_309).2.1.trans A_309
  replace S_309 : w10.2.2 (309) = jm_Ia (E.2.2 0) 12 := ((GG.1 _ M_309).2.2 (by decide)).trans S_309
  replace M_309 : (309) ∈ w10.1 := (GG.1 _ M_309).1
  replace A_310 : w10.2.1 (310) = a_310 := (GG.1 _ M_310).2.1.trans A_310
  replace S_310 : w10.2.2 (310) = jm_Ia (E.2.2 0) 12 := ((GG.1 _ M_310).2.2 (by decide)).trans S_310
  replace M_310 : (310) ∈ w10.1 := (GG.1 _ M_310).1
  replace N_311 : (311) ∉ w10.1 := fun h => (GG.2 _ h).elim N_311 (fun e => e.elim)
  replace N_312 : (312) ∉ w10.1 := fun h => (GG.2 _ h).elim N_312 (fun e => e.elim)
  replace N_313 : (313) ∉ w10.1 := fun h => (GG.2 _ h).elim N_313 (fun e => e.elim)
  replace N_314 : (314) ∉ w10.1 := fun h => (GG.2 _ h).elim N_314 (fun e => e.elim)
  replace N_315 : (315) ∉ w10.1 := fun h => (GG.2 _ h).elim N_315 (fun e => e.elim)
  replace N_316 : (316) ∉ w10.1 := fun h => (GG.2 _ h).elim N_316 (fun e => e.elim)
  replace N_317 : (317) ∉ w10.1 := fun h => (GG.2 _ h).elim N_317 (fun e => e.elim)
  replace N_318 : (318) ∉ w10.1 := fun h => (GG.2 _ h).elim N_318 (fun e => e.elim)
  replace N_319 : (319) ∉ w10.1 := fun h => (GG.2 _ h).elim N_319 (fun e => e.elim)
  replace N_320 : (320) ∉ w10.1 := fun h => (GG.2 _ h).elim N_320 (fun e => e.elim)
  replace N_321 : (321) ∉ w10.1 := fun h => (GG.2 _ h).elim N_321 (fun e => e.elim)
  replace N_322 : (322) ∉ w10.1 := fun h => (GG.2 _ h).elim N_322 (fun e => e.elim)
  replace N_323 : (323) ∉ w10.1 := fun h => (GG.2 _ h).elim N_323 (fun e => e.elim)
  replace N_324 : (324) ∉ w10.1 := fun h => (GG.2 _ h).elim N_324 (fun e => e.elim)
  replace N_325 : (325) ∉ w10.1 := fun h => (GG.2 _ h).elim N_325 (fun e => e.elim)
  replace N_326 : (326) ∉ w10.1 := fun h => (GG.2 _ h).elim N_326 (fun e => e.elim)
  replace N_327 : (327) ∉ w10.1 := fun h => (GG.2 _ h).elim N_327 (fun e => e.elim)
  replace GT : jm_gr w w10 (300) (hk_mn3) := jm_gr_tr GT GG (fun _ => rfl) (fun z e => e.elim id (fun e => e.elim))
  have S_300 : w10.2.2 (300) = jm_O 6 [none, none, none, none, none, some (.ref a_305), some (.ref a_306), some (.ref a_307), none, some (.ref a_309), some (.ref a_310), some .null, some .null, some .null, some .null, some .null, some .null, some .null, some .null, some .null, some .null, some .null, some .null, some .null, some .null, some .null, some .null, some .null] := by rw [hw10]; exact jm_sh_s
  clear hw10
  refine jm_aload_n C dX6_init_53 rfl ?_
  refine jm_bipush C dX6_init_54 (by decide +kernel) ?_
  refine jm_newa (atype := .int) .int 0 12 (311) (by decide) (by decide) rfl (by decide +kernel) C rfl jw_A_int (by decide) N_311 ⟨Nat.le_of_ble_eq_true rfl, Nat.le_of_ble_eq_true rfl⟩ dX6_init_56 (fun a_311 => ?_)
  refine jm_gen (fun w11 hw11 => ?_)
  have GG : jm_gr w10 w11 (311) (fun z => z = (311)) := by rw [hw11]; exact jm_gr_ad N_311
  replace A_300 : w11.2.1 (300) = r := (GG.1 _ M_300).2.1.trans A_300
  replace S_300 : w11.2.2 (300) = jm_O 6 [none, none, none, none, none, some (.ref a_305), some (.ref a_306), some (.ref a_307), none, some (.ref a_309), some (.ref a_310), some .null, some .null, some .null, some .null, some .null, some .null, some .null, some .null, some .null, some .null, some .null, some .null, some .null, some .null, some .null, some .null, some .null] := ((GG.1 _ M_300).2.2 (by decide)).trans S_300
  replace M_300 : (300) ∈ w11.1 := (GG.1 _ M_300).1
  replace A_305 : w11.2.1 (305) = a_305 := (GG.1 _ M_305).2.1.trans A_305
  replace S_305 : w11.2.2 (305) = jm_Ia (E.2.2 0) 1647 := ((GG.1 _ M_305).2.2 (by decide)).trans S_305
  replace M_305 : (305) ∈ w11.1 := (GG.1 _ M_305).1
  replace A_306 : w11.2.1 (306) = a_306 := (GG.1 _ M_306).2.1.trans A_306
  replace S_306 : w11.2.2 (306) = jm_Ia (E.2.2 1) 3 := ((GG.1 _ M_306).2.2 (by decide)).trans S_306
  replace M_306 : (306) ∈ w11.1 := (GG.1 _ M_306).1
  replace A_307 : w11.2.1 (307) = a_307 := (GG.1 _ M_307).2.1.trans A_307
  replace S_307 : w11.2.2 (307) = jm_Ia (E.2.2 0) 3 := ((GG.1 _ M_307).2.2 (by decide)).trans S_307
  replace M_307 : (307) ∈ w11.1 := (GG.1 _ M_307).1
  replace A_309 : w11.2.1 (309) = a_309 := (GG.1 _ M_309).2.1.trans A_309
  replace S_309 : w11.2.2 (309) = jm_Ia (E.2.2 0) 12 := ((GG.1 _ M_309).2.2 (by decide)).trans S_309
  replace M_309 : (309) ∈ w11.1 := (GG.1 _ M_309).1
  replace A_310 : w11.2.1 (310) = a_310 := (GG.1 _ M_310).2.1.trans A_310
  replace S_310 : w11.2.2 (310) = jm_Ia (E.2.2 0) 12 := ((GG.1 _ M_310).2.2 (by decide)).trans S_310
  replace M_310 : (310) ∈ w11.1 := (GG.1 _ M_310).1
  replace N_312 : (312) ∉ w11.1 := fun h => (GG.2 _ h).elim N_312 (fun e => absurd (show (312 : Int) = (311) from e) (by decide))
  replace N_313 : (313) ∉ w11.1 := fun h => (GG.2 _ h).elim N_313 (fun e => absurd (show (313 : Int) = (311) from e) (by decide))
  replace N_314 : (314) ∉ w11.1 := fun h => (GG.2 _ h).elim N_314 (fun e => absurd (show (314 : Int) = (311) from e) (by decide))
  replace N_315 : (315) ∉ w11.1 := fun h => (GG.2 _ h).elim N_315 (fun e => absurd (show (315 : Int) = (311) from e) (by decide))
  replace N_316 : (316) ∉ w11.1 := fun h => (GG.2 _ h).elim N_316 (fun e => absurd (show (316 : Int) = (311) from e) (by decide))
  replace N_317 : (317) ∉ w11.1 := fun h => (GG.2 _ h).elim N_317 (fun e => absurd (show (317 : Int) = (311) from e) (by decide))
  replace N_318 : (318) ∉ w11.1 := fun h => (GG.2 _ h).elim N_318 (fun e => absurd (show (318 : Int) = (311) from e) (by decide))
  replace N_319 : (319) ∉ w11.1 := fun h => (GG.2 _ h).elim N_319 (fun e => absurd (show (319 : Int) = (311) from e) (by decide))
  replace N_320 : (320) ∉ w11.1 := fun h => (GG.2 _ h).elim N_320 (fun e => absurd (show (320 : Int) = (311) from e) (by decide))
  replace N_321 : (321) ∉ w11.1 := fun h => (GG.2 _ h).elim N_321 (fun e => absurd (show (321 : Int) = (311) from e) (by decide))
  replace N_322 : (322) ∉ w11.1 := fun h => (GG.2 _ h).elim N_322 (fun e => absurd (show (322 : Int) = (311) from e) (by decide))
  replace N_323 : (323) ∉ w11.1 := fun h => (GG.2 _ h).elim N_323 (fun e => absurd (show (323 : Int) = (311) from e) (by decide))
  replace N_324 : (324) ∉ w11.1 := fun h => (GG.2 _ h).elim N_324 (fun e => absurd (show (324 : Int) = (311) from e) (by decide))
  replace N_325 : (325) ∉ w11.1 := fun h => (GG.2 _ h).elim N_325 (fun e => absurd (show (325 : Int) = (311) from e) (by decide))
  replace N_326 : (326) ∉ w11.1 := fun h => (GG.2 _ h).elim N_326 (fun e => absurd (show (326 : Int) = (311) from e) (by decide))
  replace N_327 : (327) ∉ w11.1 := fun h => (GG.2 _ h).elim N_327 (fun e => absurd (show (327 : Int) = (311) from e) (by decide))
  replace GT : jm_gr w w11 (300) (hk_mn3) := jm_gr_tr GT GG (fun h => absurd h N0_311) (fun z e => e.elim id (fun e => by have e : z = (311) := e; subst e; exact (show hk_mn3 _ from by unfold hk_mn3; decide)))
  have M_311 : (311) ∈ w11.1 := by rw [hw11]; exact jm_ad_m
  have A_311 : w11.2.1 (311) = a_311 := by rw [hw11]; exact jm_ad_a
  have S_311 : w11.2.2 (311) = jm_Ia (E.2.2 0) 12 := by rw [hw11]; exact jm_ad_s
  clear hw11
  refine jm_geni (fun J8 hJ8 => ?_)
  rw [← A_300]
  refine jm_putr (ci := 6) (f := 11) (a := a_311) C hin0 rfl tyX6 tyX6_ok nmX6 jw_u_6 M_300 S_300 (Nat.le_of_ble_eq_true rfl) (by decide) jw_f_RX6_33 rfl rfl (tyX6_ok 11 (by decide)) rfl rfl dX6_init_58 ?_
  try rw [A_300]
  refine jm_gen (fun w12 hw12 => ?_)
  have GG : jm_gr w11 w12 (300) (fun _ => False) := by rw [hw12]; exact jm_gr_sh
  replace A_300 : w12.2.1 (300) = r := (GG.1 _ M_300).2.1.trans A_300
  replace M_300 : (300) ∈ w12.1 := (GG.1 _ M_300).1
  replace A_305 : w12.2.1 (305) = a_305 := (GG.1 _ M_305).2.1.trans A_305
  replace S_305 : w12.2.2 (305) = jm_Ia (E.2.2 0) 1647 := ((GG.1 _ M_305).2.2 (by decide)).trans S_305
  replace M_305 : (305) ∈ w12.1 := (GG.1 _ M_305).1
  replace A_306 : w12.2.1 (306) = a_306 := (GG.1 _ M_306).2.1.trans A_306
  replace S_306 : w12.2.2 (306) = jm_Ia (E.2.2 1) 3 := ((GG.1 _ M_306).2.2 (by decide)).trans S_306
  replace M_306 : (306) ∈ w12.1 := (GG.1 _ M_306).1
  replace A_307 : w12.2.1 (307) = a_307 := (GG.1 _ M_307).2.1.trans A_307
  replace S_307 : w12.2.2 (307) = jm_Ia (E.2.2 0) 3 := ((GG.1 _ M_307).2.2 (by decide)).trans S_307
  replace M_307 : (307) ∈ w12.1 := (GG.1 _ M_307).1
  replace A_309 : w12.2.1 (309) = a_309 := (GG.1 _ M_309).2.1.trans A_309
  replace S_309 : w12.2.2 (309) = jm_Ia (E.2.2 0) 12 := ((GG.1 _ M_309).2.2 (by decide)).trans S_309
  replace M_309 : (309) ∈ w12.1 := (GG.1 _ M_309).1
  replace A_310 : w12.2.1 (310) = a_310 := (GG.1 _ M_310).2.1.trans A_310
  replace S_310 : w12.2.2 (310) = jm_Ia (E.2.2 0) 12 := ((GG.1 _ M_310).2.2 (by decide)).trans S_310
  replace M_310 : (310) ∈ w12.1 := (GG.1 _ M_310).1
  replace A_311 : w12.2.1 (311) = a_311 := (GG.1 _ M_311).2.1.trans A_311
  replace S_311 : w12.2.2 (311) = jm_Ia (E.2.2 0) 12 := ((GG.1 _ M_311).2.2 (by decide)).trans S_311
  replace M_311 : (311) ∈ w12.1 := (GG.1 _ M_311).1
  replace N_312 : (312) ∉ w12.1 := fun h => (GG.2 _ h).elim N_312 (fun e => e.elim)
  replace N_313 : (313) ∉ w12.1 := fun h => (GG.2 _ h).elim N_313 (fun e => e.elim)
  replace N_314 : (314) ∉ w12.1 := fun h => (GG.2 _ h).elim N_314 (fun e => e.elim)
  replace N_315 : (315) ∉ w12.1 := fun h => (GG.2 _ h).elim N_315 (fun e => e.elim)
  replace N_316 : (316) ∉ w12.1 := fun h => (GG.2 _ h).elim N_316 (fun e => e.elim)
  replace N_317 : (317) ∉ w12.1 := fun h => (GG.2 _ h).elim N_317 (fun e => e.elim)
  replace N_318 : (318) ∉ w12.1 := fun h => (GG.2 _ h).elim N_318 (fun e => e.elim)
  replace N_319 : (319) ∉ w12.1 := fun h => (GG.2 _ h).elim N_319 (fun e => e.elim)
  replace N_320 : (320) ∉ w12.1 := fun h => (GG.2 _ h).elim N_320 (fun e => e.elim)
  replace N_321 : (321) ∉ w12.1 := fun h => (GG.2 _ h).elim N_321 (fun e => e.elim)
  replace N_322 : (322) ∉ w12.1 := fun h => (GG.2 _ h).elim N_322 (fun e => e.elim)
  replace N_323 : (323) ∉ w12.1 := fun h => (GG.2 _ h).elim N_323 (fun e => e.elim)
  replace N_324 : (324) ∉ w12.1 := fun h => (GG.2 _ h).elim N_324 (fun e => e.elim)
  replace N_325 : (325) ∉ w12.1 := fun h => (GG.2 _ h).elim N_325 (fun e => e.elim)
  replace N_326 : (326) ∉ w12.1 := fun h => (GG.2 _ h).elim N_326 (fun e => e.elim)
  replace N_327 : (327) ∉ w12.1 := fun h => (GG.2 _ h).elim N_327 (fun e => e.elim)
  replace GT : jm_gr w w12 (300) (hk_mn3) := jm_gr_tr GT GG (fun _ => rfl) (fun z e => e.elim id (fun e => e.elim))
  have S_300 : w12.2.2 (300) = jm_O 6 [none, none, none, none, none, some (.ref a_305), some (.ref a_306), some (.ref a_307), none, some (.ref a_309), some (.ref a_310), some (.ref a_311), some .null, some .null, some .null, some .null, some .null, some .null, some .null, some .null, some .null, some .null, some .null, some .null, some .null, some .null, some .null, some .null] := by rw [hw12]; exact jm_sh_s
  clear hw12
  refine jm_aload_n C dX6_init_61 rfl ?_
  refine jm_bipush C dX6_init_62 (by decide +kernel) ?_
  refine jm_newa (atype := .int) .int 0 12 (312) (by decide) (by decide) rfl (by decide +kernel) C rfl jw_A_int (by decide) N_312 ⟨Nat.le_of_ble_eq_true rfl, Nat.le_of_ble_eq_true rfl⟩ dX6_init_64 (fun a_312 => ?_)
  refine jm_gen (fun w13 hw13 => ?_)
  have GG : jm_gr w12 w13 (312) (fun z => z = (312)) := by rw [hw13]; exact jm_gr_ad N_312
  replace A_300 : w13.2.1 (300) = r := (GG.1 _ M_300).2.1.trans A_300
  replace S_300 : w13.2.2 (300) = jm_O 6 [none, none, none, none, none, some (.ref a_305), some (.ref a_306), some (.ref a_307), none, some (.ref a_309), some (.ref a_310), some (.ref a_311), some .null, some .null, some .null, some .null, some .null, some .null, some .null, some .null, some .null, some .null, some .null, some .null, some .null, some .null, some .null, some .null] := ((GG.1 _ M_300).2.2 (by decide)).trans S_300
  replace M_300 : (300) ∈ w13.1 := (GG.1 _ M_300).1
  replace A_305 : w13.2.1 (305) = a_305 := (GG.1 _ M_305).2.1.trans A_305
  replace S_305 : w13.2.2 (305) = jm_Ia (E.2.2 0) 1647 := ((GG.1 _ M_305).2.2 (by decide)).trans S_305
  replace M_305 : (305) ∈ w13.1 := (GG.1 _ M_305).1
  replace A_306 : w13.2.1 (306) = a_306 := (GG.1 _ M_306).2.1.trans A_306
  replace S_306 : w13.2.2 (306) = jm_Ia (E.2.2 1) 3 := ((GG.1 _ M_306).2.2 (by decide)).trans S_306
  replace M_306 : (306) ∈ w13.1 := (GG.1 _ M_306).1
  replace A_307 : w13.2.1 (307) = a_307 := (GG.1 _ M_307).2.1.trans A_307
  replace S_307 : w13.2.2 (307) = jm_Ia (E.2.2 0) 3 := ((GG.1 _ M_307).2.2 (by decide)).trans S_307
  replace M_307 : (307) ∈ w13.1 := (GG.1 _ M_307).1
  replace A_309 : w13.2.1 (309) = a_309 := (GG.1 _ M_309).2.1.trans A_309
  replace S_309 : w13.2.2 (309) = jm_Ia (E.2.2 0) 12 := ((GG.1 _ M_309).2.2 (by decide)).trans S_309
  replace M_309 : (309) ∈ w13.1 := (GG.1 _ M_309).1
  replace A_310 : w13.2.1 (310) = a_310 := (GG.1 _ M_310).2.1.trans A_310
  replace S_310 : w13.2.2 (310) = jm_Ia (E.2.2 0) 12 := ((GG.1 _ M_310).2.2 (by decide)).trans S_310
  replace M_310 : (310) ∈ w13.1 := (GG.1 _ M_310).1
  replace A_311 : w13.2.1 (311) = a_311 := (GG.1 _ M_311).2.1.trans A_311
  replace S_311 : w13.2.2 (311) = jm_Ia (E.2.2 0) 12 := ((GG.1 _ M_311).2.2 (by decide)).trans S_311
  replace M_311 : (311) ∈ w13.1 := (GG.1 _ M_311).1
  replace N_313 : (313) ∉ w13.1 := fun h => (GG.2 _ h).elim N_313 (fun e => absurd (show (313 : Int) = (312) from e) (by decide))
  replace N_314 : (314) ∉ w13.1 := fun h => (GG.2 _ h).elim N_314 (fun e => absurd (show (314 : Int) = (312) from e) (by decide))
  replace N_315 : (315) ∉ w13.1 := fun h => (GG.2 _ h).elim N_315 (fun e => absurd (show (315 : Int) = (312) from e) (by decide))
  replace N_316 : (316) ∉ w13.1 := fun h => (GG.2 _ h).elim N_316 (fun e => absurd (show (316 : Int) = (312) from e) (by decide))
  replace N_317 : (317) ∉ w13.1 := fun h => (GG.2 _ h).elim N_317 (fun e => absurd (show (317 : Int) = (312) from e) (by decide))
  replace N_318 : (318) ∉ w13.1 := fun h => (GG.2 _ h).elim N_318 (fun e => absurd (show (318 : Int) = (312) from e) (by decide))
  replace N_319 : (319) ∉ w13.1 := fun h => (GG.2 _ h).elim N_319 (fun e => absurd (show (319 : Int) = (312) from e) (by decide))
  replace N_320 : (320) ∉ w13.1 := fun h => (GG.2 _ h).elim N_320 (fun e => absurd (show (320 : Int) = (312) from e) (by decide))
  replace N_321 : (321) ∉ w13.1 := fun h => (GG.2 _ h).elim N_321 (fun e => absurd (show (321 : Int) = (312) from e) (by decide))
  replace N_322 : (322) ∉ w13.1 := fun h => (GG.2 _ h).elim N_322 (fun e => absurd (show (322 : Int) = (312) from e) (by decide))
  replace N_323 : (323) ∉ w13.1 := fun h => (GG.2 _ h).elim N_323 (fun e => absurd (show (323 : Int) = (312) from e) (by decide))
  replace N_324 : (324) ∉ w13.1 := fun h => (GG.2 _ h).elim N_324 (fun e => absurd (show (324 : Int) = (312) from e) (by decide))
  replace N_325 : (325) ∉ w13.1 := fun h => (GG.2 _ h).elim N_325 (fun e => absurd (show (325 : Int) = (312) from e) (by decide))
  replace N_326 : (326) ∉ w13.1 := fun h => (GG.2 _ h).elim N_326 (fun e => absurd (show (326 : Int) = (312) from e) (by decide))
  replace N_327 : (327) ∉ w13.1 := fun h => (GG.2 _ h).elim N_327 (fun e => absurd (show (327 : Int) = (312) from e) (by decide))
  replace GT : jm_gr w w13 (300) (hk_mn3) := jm_gr_tr GT GG (fun h => absurd h N0_312) (fun z e => e.elim id (fun e => by have e : z = (312) := e; subst e; exact (show hk_mn3 _ from by unfold hk_mn3; decide)))
  have M_312 : (312) ∈ w13.1 := by rw [hw13]; exact jm_ad_m
  have A_312 : w13.2.1 (312) = a_312 := by rw [hw13]; exact jm_ad_a
  have S_312 : w13.2.2 (312) = jm_Ia (E.2.2 0) 12 := by rw [hw13]; exact jm_ad_s
  clear hw13
  refine jm_geni (fun J9 hJ9 => ?_)
  rw [← A_300]
  refine jm_putr (ci := 6) (f := 12) (a := a_312) C hin0 rfl tyX6 tyX6_ok nmX6 jw_u_6 M_300 S_300 (Nat.le_of_ble_eq_true rfl) (by decide) jw_f_RX6_36 rfl rfl (tyX6_ok 12 (by decide)) rfl rfl dX6_init_66 ?_
  try rw [A_300]
  refine jm_gen (fun w14 hw14 => ?_)
  have GG : jm_gr w13 w14 (300) (fun _ => False) := by rw [hw14]; exact jm_gr_sh
  replace A_300 : w14.2.1 (300) = r := (GG.1 _ M_300).2.1.trans A_300
  replace M_300 : (300) ∈ w14.1 := (GG.1 _ M_300).1
  replace A_305 : w14.2.1 (305) = a_305 := (GG.1 _ M_305).2.1.trans A_305
  replace S_305 : w14.2.2 (305) = jm_Ia (E.2.2 0) 1647 := ((GG.1 _ M_305).2.2 (by decide)).trans S_305
  replace M_305 : (305) ∈ w14.1 := (GG.1 _ M_305).1
  replace A_306 : w14.2.1 (306) = a_306 := (GG.1 _ M_306).2.1.trans A_306
  replace S_306 : w14.2.2 (306) = jm_Ia (E.2.2 1) 3 := ((GG.1 _ M_306).2.2 (by decide)).trans S_306
  replace M_306 : (306) ∈ w14.1 := (GG.1 _ M_306).1
  replace A_307 : w14.2.1 (307) = a_307 := (GG.1 _ M_307).2.1.trans A_307
  replace S_307 : w14.2.2 (307) = jm_Ia (E.2.2 0) 3 := ((GG.1 _ M_307).2.2 (by decide)).trans S_307
  replace M_307 : (307) ∈ w14.1 := (GG.1 _ M_307).1
  replace A_309 : w14.2.1 (309) = a_309 := (GG.1 _ M_309).2.1.trans A_309
  replace S_309 : w14.2.2 (309) = jm_Ia (E.2.2 0) 12 := ((GG.1 _ M_309).2.2 (by decide)).trans S_309
  replace M_309 : (309) ∈ w14.1 := (GG.1 _ M_309).1
  replace A_310 : w14.2.1 (310) = a_310 := (GG.1 _ M_310).2.1.trans A_310
  replace S_310 : w14.2.2 (310) = jm_Ia (E.2.2 0) 12 := ((GG.1 _ M_310).2.2 (by decide)).trans S_310
  replace M_310 : (310) ∈ w14.1 := (GG.1 _ M_310).1
  replace A_311 : w14.2.1 (311) = a_311 := (GG.1 _ M_311).2.1.trans A_311
  replace S_311 : w14.2.2 (311) = jm_Ia (E.2.2 0) 12 := ((GG.1 _ M_311).2.2 (by decide)).trans S_311
  replace M_311 : (311) ∈ w14.1 := (GG.1 _ M_311).1
  replace A_312 : w14.2.1 (312) = a_312 := (GG.1 _ M_312).2.1.trans A_312
  replace S_312 : w14.2.2 (312) = jm_Ia (E.2.2 0) 12 := ((GG.1 _ M_312).2.2 (by decide)).trans S_312
  replace M_312 : (312) ∈ w14.1 := (GG.1 _ M_312).1
  replace N_313 : (313) ∉ w14.1 := fun h => (GG.2 _ h).elim N_313 (fun e => e.elim)
  replace N_314 : (314) ∉ w14.1 := fun h => (GG.2 _ h).elim N_314 (fun e => e.elim)
  replace N_315 : (315) ∉ w14.1 := fun h => (GG.2 _ h).elim N_315 (fun e => e.elim)
  replace N_316 : (316) ∉ w14.1 := fun h => (GG.2 _ h).elim N_316 (fun e => e.elim)
  replace N_317 : (317) ∉ w14.1 := fun h => (GG.2 _ h).elim N_317 (fun e => e.elim)
  replace N_318 : (318) ∉ w14.1 := fun h => (GG.2 _ h).elim N_318 (fun e => e.elim)
  replace N_319 : (319) ∉ w14.1 := fun h => (GG.2 _ h).elim N_319 (fun e => e.elim)
  replace N_320 : (320) ∉ w14.1 := fun h => (GG.2 _ h).elim N_320 (fun e => e.elim)
  replace N_321 : (321) ∉ w14.1 := fun h => (GG.2 _ h).elim N_321 (fun e => e.elim)
  replace N_322 : (322) ∉ w14.1 := fun h => (GG.2 _ h).elim N_322 (fun e => e.elim)
  replace N_323 : (323) ∉ w14.1 := fun h => (GG.2 _ h).elim N_323 (fun e => e.elim)
  replace N_324 : (324) ∉ w14.1 := fun h => (GG.2 _ h).elim N_324 (fun e => e.elim)
  replace N_325 : (325) ∉ w14.1 := fun h => (GG.2 _ h).elim N_325 (fun e => e.elim)
  replace N_326 : (326) ∉ w14.1 := fun h => (GG.2 _ h).elim N_326 (fun e => e.elim)
  replace N_327 : (327) ∉ w14.1 := fun h => (GG.2 _ h).elim N_327 (fun e => e.elim)
  replace GT : jm_gr w w14 (300) (hk_mn3) := jm_gr_tr GT GG (fun _ => rfl) (fun z e => e.elim id (fun e => e.elim))
  have S_300 : w14.2.2 (300) = jm_O 6 [none, none, none, none, none, some (.ref a_305), some (.ref a_306), some (.ref a_307), none, some (.ref a_309), some (.ref a_310), some (.ref a_311), some (.ref a_312), some .null, some .null, some .null, some .null, some .null, some .null, some .null, some .null, some .null, some .null, some .null, some .null, some .null, some .null, some .null] := by rw [hw14]; exact jm_sh_s
  clear hw14
  refine jm_aload_n C dX6_init_69 rfl ?_
  refine jm_bipush C dX6_init_70 (by decide +kernel) ?_
  refine jm_newa (atype := .int) .int 0 12 (313) (by decide) (by decide) rfl (by decide +kernel) C rfl jw_A_int (by decide) N_313 ⟨Nat.le_of_ble_eq_true rfl, Nat.le_of_ble_eq_true rfl⟩ dX6_init_72 (fun a_313 => ?_)
  refine jm_gen (fun w15 hw15 => ?_)
  have GG : jm_gr w14 w15 (313) (fun z => z = (313)) := by rw [hw15]; exact jm_gr_ad N_313
  replace A_300 : w15.2.1 (300) = r := (GG.1 _ M_300).2.1.trans A_300
  replace S_300 : w15.2.2 (300) = jm_O 6 [none, none, none, none, none, some (.ref a_305), some (.ref a_306), some (.ref a_307), none, some (.ref a_309), some (.ref a_310), some (.ref a_311), some (.ref a_312), some .null, some .null, some .null, some .null, some .null, some .null, some .null, some .null, some .null, some .null, some .null, some .null, some .null, some .null, some .null] := ((GG.1 _ M_300).2.2 (by decide)).trans S_300
  replace M_300 : (300) ∈ w15.1 := (GG.1 _ M_300).1
  replace A_305 : w15.2.1 (305) = a_305 := (GG.1 _ M_305).2.1.trans A_305
  replace S_305 : w15.2.2 (305) = jm_Ia (E.2.2 0) 1647 := ((GG.1 _ M_305).2.2 (by decide)).trans S_305
  replace M_305 : (305) ∈ w15.1 := (GG.1 _ M_305).1
  replace A_306 : w15.2.1 (306) = a_306 := (GG.1 _ M_306).2.1.trans A_306
  replace S_306 : w15.2.2 (306) = jm_Ia (E.2.2 1) 3 := ((GG.1 _ M_306).2.2 (by decide)).trans S_306
  replace M_306 : (306) ∈ w15.1 := (GG.1 _ M_306).1
  replace A_307 : w15.2.1 (307) = a_307 := (GG.1 _ M_307).2.1.trans A_307
  replace S_307 : w15.2.2 (307) = jm_Ia (E.2.2 0) 3 := ((GG.1 _ M_307).2.2 (by decide)).trans S_307
  replace M_307 : (307) ∈ w15.1 := (GG.1 _ M_307).1
  replace A_309 : w15.2.1 (309) = a_309 := (GG.1 _ M_309).2.1.trans A_309
  replace S_309 : w15.2.2 (309) = jm_Ia (E.2.2 0) 12 := ((GG.1 _ M_309).2.2 (by decide)).trans S_309
  replace M_309 : (309) ∈ w15.1 := (GG.1 _ M_309).1
  replace A_310 : w15.2.1 (310) = a_310 := (GG.1 _ M_310).2.1.trans A_310
  replace S_310 : w15.2.2 (310) = jm_Ia (E.2.2 0) 12 := ((GG.1 _ M_310).2.2 (by decide)).trans S_310
  replace M_310 : (310) ∈ w15.1 := (GG.1 _ M_310).1
  replace A_311 : w15.2.1 (311) = a_311 := (GG.1 _ M_311).2.1.trans A_311
  replace S_311 : w15.2.2 (311) = jm_Ia (E.2.2 0) 12 := ((GG.1 _ M_311).2.2 (by decide)).trans S_311
  replace M_311 : (311) ∈ w15.1 := (GG.1 _ M_311).1
  replace A_312 : w15.2.1 (312) = a_312 := (GG.1 _ M_312).2.1.trans A_312
  replace S_312 : w15.2.2 (312) = jm_Ia (E.2.2 0) 12 := ((GG.1 _ M_312).2.2 (by decide)).trans S_312
  replace M_312 : (312) ∈ w15.1 := (GG.1 _ M_312).1
  replace N_314 : (314) ∉ w15.1 := fun h => (GG.2 _ h).elim N_314 (fun e => absurd (show (314 : Int) = (313) from e) (by decide))
  replace N_315 : (315) ∉ w15.1 := fun h => (GG.2 _ h).elim N_315 (fun e => absurd (show (315 : Int) = (313) from e) (by decide))
  replace N_316 : (316) ∉ w15.1 := fun h => (GG.2 _ h).elim N_316 (fun e => absurd (show (316 : Int) = (313) from e) (by decide))
  replace N_317 : (317) ∉ w15.1 := fun h => (GG.2 _ h).elim N_317 (fun e => absurd (show (317 : Int) = (313) from e) (by decide))
  replace N_318 : (318) ∉ w15.1 := fun h => (GG.2 _ h).elim N_318 (fun e => absurd (show (318 : Int) = (313) from e) (by decide))
  replace N_319 : (319) ∉ w15.1 := fun h => (GG.2 _ h).elim N_319 (fun e => absurd (show (319 : Int) = (313) from e) (by decide))
  replace N_320 : (320) ∉ w15.1 := fun h => (GG.2 _ h).elim N_320 (fun e => absurd (show (320 : Int) = (313) from e) (by decide))
  replace N_321 : (321) ∉ w15.1 := fun h => (GG.2 _ h).elim N_321 (fun e => absurd (show (321 : Int) = (313) from e) (by decide))
  replace N_322 : (322) ∉ w15.1 := fun h => (GG.2 _ h).elim N_322 (fun e => absurd (show (322 : Int) = (313) from e) (by decide))
  replace N_323 : (323) ∉ w15.1 := fun h => (GG.2 _ h).elim N_323 (fun e => absurd (show (323 : Int) = (313) from e) (by decide))
  replace N_324 : (324) ∉ w15.1 := fun h => (GG.2 _ h).elim N_324 (fun e => absurd (show (324 : Int) = (313) from e) (by decide))
  replace N_325 : (325) ∉ w15.1 := fun h => (GG.2 _ h).elim N_325 (fun e => absurd (show (325 : Int) = (313) from e) (by decide))
  replace N_326 : (326) ∉ w15.1 := fun h => (GG.2 _ h).elim N_326 (fun e => absurd (show (326 : Int) = (313) from e) (by decide))
  replace N_327 : (327) ∉ w15.1 := fun h => (GG.2 _ h).elim N_327 (fun e => absurd (show (327 : Int) = (313) from e) (by decide))
  replace GT : jm_gr w w15 (300) (hk_mn3) := jm_gr_tr GT GG (fun h => absurd h N0_313) (fun z e => e.elim id (fun e => by have e : z = (313) := e; subst e; exact (show hk_mn3 _ from by unfold hk_mn3; decide)))
  have M_313 : (313) ∈ w15.1 := by rw [hw15]; exact jm_ad_m
  have A_313 : w15.2.1 (313) = a_313 := by rw [hw15]; exact jm_ad_a
  have S_313 : w15.2.2 (313) = jm_Ia (E.2.2 0) 12 := by rw [hw15]; exact jm_ad_s
  clear hw15
  refine jm_geni (fun J10 hJ10 => ?_)
  rw [← A_300]
  refine jm_putr (ci := 6) (f := 13) (a := a_313) C hin0 rfl tyX6 tyX6_ok nmX6 jw_u_6 M_300 S_300 (Nat.le_of_ble_eq_true rfl) (by decide) jw_f_RX6_39 rfl rfl (tyX6_ok 13 (by decide)) rfl rfl dX6_init_74 ?_
  try rw [A_300]
  refine jm_gen (fun w16 hw16 => ?_)
  have GG : jm_gr w15 w16 (300) (fun _ => False) := by rw [hw16]; exact jm_gr_sh
  replace A_300 : w16.2.1 (300) = r := (GG.1 _ M_300).2.1.trans A_300
  replace M_300 : (300) ∈ w16.1 := (GG.1 _ M_300).1
  replace A_305 : w16.2.1 (305) = a_305 := (GG.1 _ M_305).2.1.trans A_305
  replace S_305 : w16.2.2 (305) = jm_Ia (E.2.2 0) 1647 := ((GG.1 _ M_305).2.2 (by decide)).trans S_305
  replace M_305 : (305) ∈ w16.1 := (GG.1 _ M_305).1
  replace A_306 : w16.2.1 (306) = a_306 := (GG.1 _ M_306).2.1.trans A_306
  replace S_306 : w16.2.2 (306) = jm_Ia (E.2.2 1) 3 := ((GG.1 _ M_306).2.2 (by decide)).trans S_306
  replace M_306 : (306) ∈ w16.1 := (GG.1 _ M_306).1
  replace A_307 : w16.2.1 (307) = a_307 := (GG.1 _ M_307).2.1.trans A_307
  replace S_307 : w16.2.2 (307) = jm_Ia (E.2.2 0) 3 := ((GG.1 _ M_307).2.2 (by decide)).trans S_307
  replace M_307 : (307) ∈ w16.1 := (GG.1 _ M_307).1
  replace A_309 : w16.2.1 (309) = a_309 := (GG.1 _ M_309).2.1.trans A_309
  replace S_309 : w16.2.2 (309) = jm_Ia (E.2.2 0) 12 := ((GG.1 _ M_309).2.2 (by decide)).trans S_309
  replace M_309 : (309) ∈ w16.1 := (GG.1 _ M_309).1
  replace A_310 : w16.2.1 (310) = a_310 := (GG.1 _ M_310).2.1.trans A_310
  replace S_310 : w16.2.2 (310) = jm_Ia (E.2.2 0) 12 := ((GG.1 _ M_310).2.2 (by decide)).trans S_310
  replace M_310 : (310) ∈ w16.1 := (GG.1 _ M_310).1
  replace A_311 : w16.2.1 (311) = a_311 := (GG.1 _ M_311).2.1.trans A_311
  replace S_311 : w16.2.2 (311) = jm_Ia (E.2.2 0) 12 := ((GG.1 _ M_311).2.2 (by decide)).trans S_311
  replace M_311 : (311) ∈ w16.1 := (GG.1 _ M_311).1
  replace A_312 : w16.2.1 (312) = a_312 := (GG.1 _ M_312).2.1.trans A_312
  replace S_312 : w16.2.2 (312) = jm_Ia (E.2.2 0) 12 := ((GG.1 _ M_312).2.2 (by decide)).trans S_312
  replace M_312 : (312) ∈ w16.1 := (GG.1 _ M_312).1
  replace A_313 : w16.2.1 (313) = a_313 := (GG.1 _ M_313).2.1.trans A_313
  replace S_313 : w16.2.2 (313) = jm_Ia (E.2.2 0) 12 := ((GG.1 _ M_313).2.2 (by decide)).trans S_313
  replace M_313 : (313) ∈ w16.1 := (GG.1 _ M_313).1
  replace N_314 : (314) ∉ w16.1 := fun h => (GG.2 _ h).elim N_314 (fun e => e.elim)
  replace N_315 : (315) ∉ w16.1 := fun h => (GG.2 _ h).elim N_315 (fun e => e.elim)
  replace N_316 : (316) ∉ w16.1 := fun h => (GG.2 _ h).elim N_316 (fun e => e.elim)
  replace N_317 : (317) ∉ w16.1 := fun h => (GG.2 _ h).elim N_317 (fun e => e.elim)
  replace N_318 : (318) ∉ w16.1 := fun h => (GG.2 _ h).elim N_318 (fun e => e.elim)
  replace N_319 : (319) ∉ w16.1 := fun h => (GG.2 _ h).elim N_319 (fun e => e.elim)
  replace N_320 : (320) ∉ w16.1 := fun h => (GG.2 _ h).elim N_320 (fun e => e.elim)
  replace N_321 : (321) ∉ w16.1 := fun h => (GG.2 _ h).elim N_321 (fun e => e.elim)
  replace N_322 : (322) ∉ w16.1 := fun h => (GG.2 _ h).elim N_322 (fun e => e.elim)
  replace N_323 : (323) ∉ w16.1 := fun h => (GG.2 _ h).elim N_323 (fun e => e.elim)
  replace N_324 : (324) ∉ w16.1 := fun h => (GG.2 _ h).elim N_324 (fun e => e.elim)
  replace N_325 : (325) ∉ w16.1 := fun h => (GG.2 _ h).elim N_325 (fun e => e.elim)
  replace N_326 : (326) ∉ w16.1 := fun h => (GG.2 _ h).elim N_326 (fun e => e.elim)
  replace N_327 : (327) ∉ w16.1 := fun h => (GG.2 _ h).elim N_327 (fun e => e.elim)
  replace GT : jm_gr w w16 (300) (hk_mn3) := jm_gr_tr GT GG (fun _ => rfl) (fun z e => e.elim id (fun e => e.elim))
  have S_300 : w16.2.2 (300) = jm_O 6 [none, none, none, none, none, some (.ref a_305), some (.ref a_306), some (.ref a_307), none, some (.ref a_309), some (.ref a_310), some (.ref a_311), some (.ref a_312), some (.ref a_313), some .null, some .null, some .null, some .null, some .null, some .null, some .null, some .null, some .null, some .null, some .null, some .null, some .null, some .null] := by rw [hw16]; exact jm_sh_s
  clear hw16
  refine jm_aload_n C dX6_init_77 rfl ?_
  refine jm_bipush C dX6_init_78 (by decide +kernel) ?_
  refine jm_newa (atype := .int) .int 0 12 (314) (by decide) (by decide) rfl (by decide +kernel) C rfl jw_A_int (by decide) N_314 ⟨Nat.le_of_ble_eq_true rfl, Nat.le_of_ble_eq_true rfl⟩ dX6_init_80 (fun a_314 => ?_)
  refine jm_gen (fun w17 hw17 => ?_)
  have GG : jm_gr w16 w17 (314) (fun z => z = (314)) := by rw [hw17]; exact jm_gr_ad N_314
  replace A_300 : w17.2.1 (300) = r := (GG.1 _ M_300).2.1.trans A_300
  replace S_300 : w17.2.2 (300) = jm_O 6 [none, none, none, none, none, some (.ref a_305), some (.ref a_306), some (.ref a_307), none, some (.ref a_309), some (.ref a_310), some (.ref a_311), some (.ref a_312), some (.ref a_313), some .null, some .null, some .null, some .null, some .null, some .null, some .null, some .null, some .null, some .null, some .null, some .null, some .null, some .null] := ((GG.1 _ M_300).2.2 (by decide)).trans S_300
  replace M_300 : (300) ∈ w17.1 := (GG.1 _ M_300).1
  replace A_305 : w17.2.1 (305) = a_305 := (GG.1 _ M_305).2.1.trans A_305
  replace S_305 : w17.2.2 (305) = jm_Ia (E.2.2 0) 1647 := ((GG.1 _ M_305).2.2 (by decide)).trans S_305
  replace M_305 : (305) ∈ w17.1 := (GG.1 _ M_305).1
  replace A_306 : w17.2.1 (306) = a_306 := (GG.1 _ M_306).2.1.trans A_306
  replace S_306 : w17.2.2 (306) = jm_Ia (E.2.2 1) 3 := ((GG.1 _ M_306).2.2 (by decide)).trans S_306
  replace M_306 : (306) ∈ w17.1 := (GG.1 _ M_306).1
  replace A_307 : w17.2.1 (307) = a_307 := (GG.1 _ M_307).2.1.trans A_307
  replace S_307 : w17.2.2 (307) = jm_Ia (E.2.2 0) 3 := ((GG.1 _ M_307).2.2 (by decide)).trans S_307
  replace M_307 : (307) ∈ w17.1 := (GG.1 _ M_307).1
  replace A_309 : w17.2.1 (309) = a_309 := (GG.1 _ M_309).2.1.trans A_309
  replace S_309 : w17.2.2 (309) = jm_Ia (E.2.2 0) 12 := ((GG.1 _ M_309).2.2 (by decide)).trans S_309
  replace M_309 : (309) ∈ w17.1 := (GG.1 _ M_309).1
  replace A_310 : w17.2.1 (310) = a_310 := (GG.1 _ M_310).2.1.trans A_310
  replace S_310 : w17.2.2 (310) = jm_Ia (E.2.2 0) 12 := ((GG.1 _ M_310).2.2 (by decide)).trans S_310
  replace M_310 : (310) ∈ w17.1 := (GG.1 _ M_310).1
  replace A_311 : w17.2.1 (311) = a_311 := (GG.1 _ M_311).2.1.trans A_311
  replace S_311 : w17.2.2 (311) = jm_Ia (E.2.2 0) 12 := ((GG.1 _ M_311).2.2 (by decide)).trans S_311
  replace M_311 : (311) ∈ w17.1 := (GG.1 _ M_311).1
  replace A_312 : w17.2.1 (312) = a_312 := (GG.1 _ M_312).2.1.trans A_312
  replace S_312 : w17.2.2 (312) = jm_Ia (E.2.2 0) 12 := ((GG.1 _ M_312).2.2 (by decide)).trans S_312
  replace M_312 : (312) ∈ w17.1 := (GG.1 _ M_312).1
  replace A_313 : w17.2.1 (313) = a_313 := (GG.1 _ M_313).2.1.trans A_313
  replace S_313 : w17.2.2 (313) = jm_Ia (E.2.2 0) 12 := ((GG.1 _ M_313).2.2 (by decide)).trans S_313
  replace M_313 : (313) ∈ w17.1 := (GG.1 _ M_313).1
  replace N_315 : (315) ∉ w17.1 := fun h => (GG.2 _ h).elim N_315 (fun e => absurd (show (315 : Int) = (314) from e) (by decide))
  replace N_316 : (316) ∉ w17.1 := fun h => (GG.2 _ h).elim N_316 (fun e => absurd (show (316 : Int) = (314) from e) (by decide))
  replace N_317 : (317) ∉ w17.1 := fun h => (GG.2 _ h).elim N_317 (fun e => absurd (show (317 : Int) = (314) from e) (by decide))
  replace N_318 : (318) ∉ w17.1 := fun h => (GG.2 _ h).elim N_318 (fun e => absurd (show (318 : Int) = (314) from e) (by decide))
  replace N_319 : (319) ∉ w17.1 := fun h => (GG.2 _ h).elim N_319 (fun e => absurd (show (319 : Int) = (314) from e) (by decide))
  replace N_320 : (320) ∉ w17.1 := fun h => (GG.2 _ h).elim N_320 (fun e => absurd (show (320 : Int) = (314) from e) (by decide))
  replace N_321 : (321) ∉ w17.1 := fun h => (GG.2 _ h).elim N_321 (fun e => absurd (show (321 : Int) = (314) from e) (by decide))
  replace N_322 : (322) ∉ w17.1 := fun h => (GG.2 _ h).elim N_322 (fun e => absurd (show (322 : Int) = (314) from e) (by decide))
  replace N_323 : (323) ∉ w17.1 := fun h => (GG.2 _ h).elim N_323 (fun e => absurd (show (323 : Int) = (314) from e) (by decide))
  replace N_324 : (324) ∉ w17.1 := fun h => (GG.2 _ h).elim N_324 (fun e => absurd (show (324 : Int) = (314) from e) (by decide))
  replace N_325 : (325) ∉ w17.1 := fun h => (GG.2 _ h).elim N_325 (fun e => absurd (show (325 : Int) = (314) from e) (by decide))
  replace N_326 : (326) ∉ w17.1 := fun h => (GG.2 _ h).elim N_326 (fun e => absurd (show (326 : Int) = (314) from e) (by decide))
  replace N_327 : (327) ∉ w17.1 := fun h => (GG.2 _ h).elim N_327 (fun e => absurd (show (327 : Int) = (314) from e) (by decide))
  replace GT : jm_gr w w17 (300) (hk_mn3) := jm_gr_tr GT GG (fun h => absurd h N0_314) (fun z e => e.elim id (fun e => by have e : z = (314) := e; subst e; exact (show hk_mn3 _ from by unfold hk_mn3; decide)))
  have M_314 : (314) ∈ w17.1 := by rw [hw17]; exact jm_ad_m
  have A_314 : w17.2.1 (314) = a_314 := by rw [hw17]; exact jm_ad_a
  have S_314 : w17.2.2 (314) = jm_Ia (E.2.2 0) 12 := by rw [hw17]; exact jm_ad_s
  clear hw17
  refine jm_geni (fun J11 hJ11 => ?_)
  rw [← A_300]
  refine jm_putr (ci := 6) (f := 14) (a := a_314) C hin0 rfl tyX6 tyX6_ok nmX6 jw_u_6 M_300 S_300 (Nat.le_of_ble_eq_true rfl) (by decide) jw_f_RX6_42 rfl rfl (tyX6_ok 14 (by decide)) rfl rfl dX6_init_82 ?_
  try rw [A_300]
  refine jm_gen (fun w18 hw18 => ?_)
  have GG : jm_gr w17 w18 (300) (fun _ => False) := by rw [hw18]; exact jm_gr_sh
  replace A_300 : w18.2.1 (300) = r := (GG.1 _ M_300).2.1.trans A_300
  replace M_300 : (300) ∈ w18.1 := (GG.1 _ M_300).1
  replace A_305 : w18.2.1 (305) = a_305 := (GG.1 _ M_305).2.1.trans A_305
  replace S_305 : w18.2.2 (305) = jm_Ia (E.2.2 0) 1647 := ((GG.1 _ M_305).2.2 (by decide)).trans S_305
  replace M_305 : (305) ∈ w18.1 := (GG.1 _ M_305).1
  replace A_306 : w18.2.1 (306) = a_306 := (GG.1 _ M_306).2.1.trans A_306
  replace S_306 : w18.2.2 (306) = jm_Ia (E.2.2 1) 3 := ((GG.1 _ M_306).2.2 (by decide)).trans S_306
  replace M_306 : (306) ∈ w18.1 := (GG.1 _ M_306).1
  replace A_307 : w18.2.1 (307) = a_307 := (GG.1 _ M_307).2.1.trans A_307
  replace S_307 : w18.2.2 (307) = jm_Ia (E.2.2 0) 3 := ((GG.1 _ M_307).2.2 (by decide)).trans S_307
  replace M_307 : (307) ∈ w18.1 := (GG.1 _ M_307).1
  replace A_309 : w18.2.1 (309) = a_309 := (GG.1 _ M_309).2.1.trans A_309
  replace S_309 : w18.2.2 (309) = jm_Ia (E.2.2 0) 12 := ((GG.1 _ M_309).2.2 (by decide)).trans S_309
  replace M_309 : (309) ∈ w18.1 := (GG.1 _ M_309).1
  replace A_310 : w18.2.1 (310) = a_310 := (GG.1 _ M_310).2.1.trans A_310
  replace S_310 : w18.2.2 (310) = jm_Ia (E.2.2 0) 12 := ((GG.1 _ M_310).2.2 (by decide)).trans S_310
  replace M_310 : (310) ∈ w18.1 := (GG.1 _ M_310).1
  replace A_311 : w18.2.1 (311) = a_311 := (GG.1 _ M_311).2.1.trans A_311
  replace S_311 : w18.2.2 (311) = jm_Ia (E.2.2 0) 12 := ((GG.1 _ M_311).2.2 (by decide)).trans S_311
  replace M_311 : (311) ∈ w18.1 := (GG.1 _ M_311).1
  replace A_312 : w18.2.1 (312) = a_312 := (GG.1 _ M_312).2.1.trans A_312
  replace S_312 : w18.2.2 (312) = jm_Ia (E.2.2 0) 12 := ((GG.1 _ M_312).2.2 (by decide)).trans S_312
  replace M_312 : (312) ∈ w18.1 := (GG.1 _ M_312).1
  replace A_313 : w18.2.1 (313) = a_313 := (GG.1 _ M_313).2.1.trans A_313
  replace S_313 : w18.2.2 (313) = jm_Ia (E.2.2 0) 12 := ((GG.1 _ M_313).2.2 (by decide)).trans S_313
  replace M_313 : (313) ∈ w18.1 := (GG.1 _ M_313).1
  replace A_314 : w18.2.1 (314) = a_314 := (GG.1 _ M_314).2.1.trans A_314
  replace S_314 : w18.2.2 (314) = jm_Ia (E.2.2 0) 12 := ((GG.1 _ M_314).2.2 (by decide)).trans S_314
  replace M_314 : (314) ∈ w18.1 := (GG.1 _ M_314).1
  replace N_315 : (315) ∉ w18.1 := fun h => (GG.2 _ h).elim N_315 (fun e => e.elim)
  replace N_316 : (316) ∉ w18.1 := fun h => (GG.2 _ h).elim N_316 (fun e => e.elim)
  replace N_317 : (317) ∉ w18.1 := fun h => (GG.2 _ h).elim N_317 (fun e => e.elim)
  replace N_318 : (318) ∉ w18.1 := fun h => (GG.2 _ h).elim N_318 (fun e => e.elim)
  replace N_319 : (319) ∉ w18.1 := fun h => (GG.2 _ h).elim N_319 (fun e => e.elim)
  replace N_320 : (320) ∉ w18.1 := fun h => (GG.2 _ h).elim N_320 (fun e => e.elim)
  replace N_321 : (321) ∉ w18.1 := fun h => (GG.2 _ h).elim N_321 (fun e => e.elim)
  replace N_322 : (322) ∉ w18.1 := fun h => (GG.2 _ h).elim N_322 (fun e => e.elim)
  replace N_323 : (323) ∉ w18.1 := fun h => (GG.2 _ h).elim N_323 (fun e => e.elim)
  replace N_324 : (324) ∉ w18.1 := fun h => (GG.2 _ h).elim N_324 (fun e => e.elim)
  replace N_325 : (325) ∉ w18.1 := fun h => (GG.2 _ h).elim N_325 (fun e => e.elim)
  replace N_326 : (326) ∉ w18.1 := fun h => (GG.2 _ h).elim N_326 (fun e => e.elim)
  replace N_327 : (327) ∉ w18.1 := fun h => (GG.2 _ h).elim N_327 (fun e => e.elim)
  replace GT : jm_gr w w18 (300) (hk_mn3) := jm_gr_tr GT GG (fun _ => rfl) (fun z e => e.elim id (fun e => e.elim))
  have S_300 : w18.2.2 (300) = jm_O 6 [none, none, none, none, none, some (.ref a_305), some (.ref a_306), some (.ref a_307), none, some (.ref a_309), some (.ref a_310), some (.ref a_311), some (.ref a_312), some (.ref a_313), some (.ref a_314), some .null, some .null, some .null, some .null, some .null, some .null, some .null, some .null, some .null, some .null, some .null, some .null, some .null] := by rw [hw18]; exact jm_sh_s
  clear hw18
  refine jm_aload_n C dX6_init_85 rfl ?_
  refine jm_bipush C dX6_init_86 (by decide +kernel) ?_
  refine jm_newa (atype := .int) .int 0 24 (315) (by decide) (by decide) rfl (by decide +kernel) C rfl jw_A_int (by decide) N_315 ⟨Nat.le_of_ble_eq_true rfl, Nat.le_of_ble_eq_true rfl⟩ dX6_init_88 (fun a_315 => ?_)
  refine jm_gen (fun w19 hw19 => ?_)
  have GG : jm_gr w18 w19 (315) (fun z => z = (315)) := by rw [hw19]; exact jm_gr_ad N_315
  replace A_300 : w19.2.1 (300) = r := (GG.1 _ M_300).2.1.trans A_300
  replace S_300 : w19.2.2 (300) = jm_O 6 [none, none, none, none, none, some (.ref a_305), some (.ref a_306), some (.ref a_307), none, some (.ref a_309), some (.ref a_310), some (.ref a_311), some (.ref a_312), some (.ref a_313), some (.ref a_314), some .null, some .null, some .null, some .null, some .null, some .null, some .null, some .null, some .null, some .null, some .null, some .null, some .null] := ((GG.1 _ M_300).2.2 (by decide)).trans S_300
  replace M_300 : (300) ∈ w19.1 := (GG.1 _ M_300).1
  replace A_305 : w19.2.1 (305) = a_305 := (GG.1 _ M_305).2.1.trans A_305
  replace S_305 : w19.2.2 (305) = jm_Ia (E.2.2 0) 1647 := ((GG.1 _ M_305).2.2 (by decide)).trans S_305
  replace M_305 : (305) ∈ w19.1 := (GG.1 _ M_305).1
  replace A_306 : w19.2.1 (306) = a_306 := (GG.1 _ M_306).2.1.trans A_306
  replace S_306 : w19.2.2 (306) = jm_Ia (E.2.2 1) 3 := ((GG.1 _ M_306).2.2 (by decide)).trans S_306
  replace M_306 : (306) ∈ w19.1 := (GG.1 _ M_306).1
  replace A_307 : w19.2.1 (307) = a_307 := (GG.1 _ M_307).2.1.trans A_307
  replace S_307 : w19.2.2 (307) = jm_Ia (E.2.2 0) 3 := ((GG.1 _ M_307).2.2 (by decide)).trans S_307
  replace M_307 : (307) ∈ w19.1 := (GG.1 _ M_307).1
  replace A_309 : w19.2.1 (309) = a_309 := (GG.1 _ M_309).2.1.trans A_309
  replace S_309 : w19.2.2 (309) = jm_Ia (E.2.2 0) 12 := ((GG.1 _ M_309).2.2 (by decide)).trans S_309
  replace M_309 : (309) ∈ w19.1 := (GG.1 _ M_309).1
  replace A_310 : w19.2.1 (310) = a_310 := (GG.1 _ M_310).2.1.trans A_310
  replace S_310 : w19.2.2 (310) = jm_Ia (E.2.2 0) 12 := ((GG.1 _ M_310).2.2 (by decide)).trans S_310
  replace M_310 : (310) ∈ w19.1 := (GG.1 _ M_310).1
  replace A_311 : w19.2.1 (311) = a_311 := (GG.1 _ M_311).2.1.trans A_311
  replace S_311 : w19.2.2 (311) = jm_Ia (E.2.2 0) 12 := ((GG.1 _ M_311).2.2 (by decide)).trans S_311
  replace M_311 : (311) ∈ w19.1 := (GG.1 _ M_311).1
  replace A_312 : w19.2.1 (312) = a_312 := (GG.1 _ M_312).2.1.trans A_312
  replace S_312 : w19.2.2 (312) = jm_Ia (E.2.2 0) 12 := ((GG.1 _ M_312).2.2 (by decide)).trans S_312
  replace M_312 : (312) ∈ w19.1 := (GG.1 _ M_312).1
  replace A_313 : w19.2.1 (313) = a_313 := (GG.1 _ M_313).2.1.trans A_313
  replace S_313 : w19.2.2 (313) = jm_Ia (E.2.2 0) 12 := ((GG.1 _ M_313).2.2 (by decide)).trans S_313
  replace M_313 : (313) ∈ w19.1 := (GG.1 _ M_313).1
  replace A_314 : w19.2.1 (314) = a_314 := (GG.1 _ M_314).2.1.trans A_314
  replace S_314 : w19.2.2 (314) = jm_Ia (E.2.2 0) 12 := ((GG.1 _ M_314).2.2 (by decide)).trans S_314
  replace M_314 : (314) ∈ w19.1 := (GG.1 _ M_314).1
  replace N_316 : (316) ∉ w19.1 := fun h => (GG.2 _ h).elim N_316 (fun e => absurd (show (316 : Int) = (315) from e) (by decide))
  replace N_317 : (317) ∉ w19.1 := fun h => (GG.2 _ h).elim N_317 (fun e => absurd (show (317 : Int) = (315) from e) (by decide))
  replace N_318 : (318) ∉ w19.1 := fun h => (GG.2 _ h).elim N_318 (fun e => absurd (show (318 : Int) = (315) from e) (by decide))
  replace N_319 : (319) ∉ w19.1 := fun h => (GG.2 _ h).elim N_319 (fun e => absurd (show (319 : Int) = (315) from e) (by decide))
  replace N_320 : (320) ∉ w19.1 := fun h => (GG.2 _ h).elim N_320 (fun e => absurd (show (320 : Int) = (315) from e) (by decide))
  replace N_321 : (321) ∉ w19.1 := fun h => (GG.2 _ h).elim N_321 (fun e => absurd (show (321 : Int) = (315) from e) (by decide))
  replace N_322 : (322) ∉ w19.1 := fun h => (GG.2 _ h).elim N_322 (fun e => absurd (show (322 : Int) = (315) from e) (by decide))
  replace N_323 : (323) ∉ w19.1 := fun h => (GG.2 _ h).elim N_323 (fun e => absurd (show (323 : Int) = (315) from e) (by decide))
  replace N_324 : (324) ∉ w19.1 := fun h => (GG.2 _ h).elim N_324 (fun e => absurd (show (324 : Int) = (315) from e) (by decide))
  replace N_325 : (325) ∉ w19.1 := fun h => (GG.2 _ h).elim N_325 (fun e => absurd (show (325 : Int) = (315) from e) (by decide))
  replace N_326 : (326) ∉ w19.1 := fun h => (GG.2 _ h).elim N_326 (fun e => absurd (show (326 : Int) = (315) from e) (by decide))
  replace N_327 : (327) ∉ w19.1 := fun h => (GG.2 _ h).elim N_327 (fun e => absurd (show (327 : Int) = (315) from e) (by decide))
  replace GT : jm_gr w w19 (300) (hk_mn3) := jm_gr_tr GT GG (fun h => absurd h N0_315) (fun z e => e.elim id (fun e => by have e : z = (315) := e; subst e; exact (show hk_mn3 _ from by unfold hk_mn3; decide)))
  have M_315 : (315) ∈ w19.1 := by rw [hw19]; exact jm_ad_m
  have A_315 : w19.2.1 (315) = a_315 := by rw [hw19]; exact jm_ad_a
  have S_315 : w19.2.2 (315) = jm_Ia (E.2.2 0) 24 := by rw [hw19]; exact jm_ad_s
  clear hw19
  refine jm_geni (fun J12 hJ12 => ?_)
  rw [← A_300]
  refine jm_putr (ci := 6) (f := 15) (a := a_315) C hin0 rfl tyX6 tyX6_ok nmX6 jw_u_6 M_300 S_300 (Nat.le_of_ble_eq_true rfl) (by decide) jw_f_RX6_45 rfl rfl (tyX6_ok 15 (by decide)) rfl rfl dX6_init_90 ?_
  try rw [A_300]
  refine jm_gen (fun w20 hw20 => ?_)
  have GG : jm_gr w19 w20 (300) (fun _ => False) := by rw [hw20]; exact jm_gr_sh
  replace A_300 : w20.2.1 (300) = r := (GG.1 _ M_300).2.1.trans A_300
  replace M_300 : (300) ∈ w20.1 := (GG.1 _ M_300).1
  replace A_305 : w20.2.1 (305) = a_305 := (GG.1 _ M_305).2.1.trans A_305
  replace S_305 : w20.2.2 (305) = jm_Ia (E.2.2 0) 1647 := ((GG.1 _ M_305).2.2 (by decide)).trans S_305
  replace M_305 : (305) ∈ w20.1 := (GG.1 _ M_305).1
  replace A_306 : w20.2.1 (306) = a_306 := (GG.1 _ M_306).2.1.trans A_306
  replace S_306 : w20.2.2 (306) = jm_Ia (E.2.2 1) 3 := ((GG.1 _ M_306).2.2 (by decide)).trans S_306
  replace M_306 : (306) ∈ w20.1 := (GG.1 _ M_306).1
  replace A_307 : w20.2.1 (307) = a_307 := (GG.1 _ M_307).2.1.trans A_307
  replace S_307 : w20.2.2 (307) = jm_Ia (E.2.2 0) 3 := ((GG.1 _ M_307).2.2 (by decide)).trans S_307
  replace M_307 : (307) ∈ w20.1 := (GG.1 _ M_307).1
  replace A_309 : w20.2.1 (309) = a_309 := (GG.1 _ M_309).2.1.trans A_309
  replace S_309 : w20.2.2 (309) = jm_Ia (E.2.2 0) 12 := ((GG.1 _ M_309).2.2 (by decide)).trans S_309
  replace M_309 : (309) ∈ w20.1 := (GG.1 _ M_309).1
  replace A_310 : w20.2.1 (310) = a_310 := (GG.1 _ M_310).2.1.trans A_310
  replace S_310 : w20.2.2 (310) = jm_Ia (E.2.2 0) 12 := ((GG.1 _ M_310).2.2 (by decide)).trans S_310
  replace M_310 : (310) ∈ w20.1 := (GG.1 _ M_310).1
  replace A_311 : w20.2.1 (311) = a_311 := (GG.1 _ M_311).2.1.trans A_311
  replace S_311 : w20.2.2 (311) = jm_Ia (E.2.2 0) 12 := ((GG.1 _ M_311).2.2 (by decide)).trans S_311
  replace M_311 : (311) ∈ w20.1 := (GG.1 _ M_311).1
  replace A_312 : w20.2.1 (312) = a_312 := (GG.1 _ M_312).2.1.trans A_312
  replace S_312 : w20.2.2 (312) = jm_Ia (E.2.2 0) 12 := ((GG.1 _ M_312).2.2 (by decide)).trans S_312
  replace M_312 : (312) ∈ w20.1 := (GG.1 _ M_312).1
  replace A_313 : w20.2.1 (313) = a_313 := (GG.1 _ M_313).2.1.trans A_313
  replace S_313 : w20.2.2 (313) = jm_Ia (E.2.2 0) 12 := ((GG.1 _ M_313).2.2 (by decide)).trans S_313
  replace M_313 : (313) ∈ w20.1 := (GG.1 _ M_313).1
  replace A_314 : w20.2.1 (314) = a_314 := (GG.1 _ M_314).2.1.trans A_314
  replace S_314 : w20.2.2 (314) = jm_Ia (E.2.2 0) 12 := ((GG.1 _ M_314).2.2 (by decide)).trans S_314
  replace M_314 : (314) ∈ w20.1 := (GG.1 _ M_314).1
  replace A_315 : w20.2.1 (315) = a_315 := (GG.1 _ M_315).2.1.trans A_315
  replace S_315 : w20.2.2 (315) = jm_Ia (E.2.2 0) 24 := ((GG.1 _ M_315).2.2 (by decide)).trans S_315
  replace M_315 : (315) ∈ w20.1 := (GG.1 _ M_315).1
  replace N_316 : (316) ∉ w20.1 := fun h => (GG.2 _ h).elim N_316 (fun e => e.elim)
  replace N_317 : (317) ∉ w20.1 := fun h => (GG.2 _ h).elim N_317 (fun e => e.elim)
  replace N_318 : (318) ∉ w20.1 := fun h => (GG.2 _ h).elim N_318 (fun e => e.elim)
  replace N_319 : (319) ∉ w20.1 := fun h => (GG.2 _ h).elim N_319 (fun e => e.elim)
  replace N_320 : (320) ∉ w20.1 := fun h => (GG.2 _ h).elim N_320 (fun e => e.elim)
  replace N_321 : (321) ∉ w20.1 := fun h => (GG.2 _ h).elim N_321 (fun e => e.elim)
  replace N_322 : (322) ∉ w20.1 := fun h => (GG.2 _ h).elim N_322 (fun e => e.elim)
  replace N_323 : (323) ∉ w20.1 := fun h => (GG.2 _ h).elim N_323 (fun e => e.elim)
  replace N_324 : (324) ∉ w20.1 := fun h => (GG.2 _ h).elim N_324 (fun e => e.elim)
  replace N_325 : (325) ∉ w20.1 := fun h => (GG.2 _ h).elim N_325 (fun e => e.elim)
  replace N_326 : (326) ∉ w20.1 := fun h => (GG.2 _ h).elim N_326 (fun e => e.elim)
  replace N_327 : (327) ∉ w20.1 := fun h => (GG.2 _ h).elim N_327 (fun e => e.elim)
  replace GT : jm_gr w w20 (300) (hk_mn3) := jm_gr_tr GT GG (fun _ => rfl) (fun z e => e.elim id (fun e => e.elim))
  have S_300 : w20.2.2 (300) = jm_O 6 [none, none, none, none, none, some (.ref a_305), some (.ref a_306), some (.ref a_307), none, some (.ref a_309), some (.ref a_310), some (.ref a_311), some (.ref a_312), some (.ref a_313), some (.ref a_314), some (.ref a_315), some .null, some .null, some .null, some .null, some .null, some .null, some .null, some .null, some .null, some .null, some .null, some .null] := by rw [hw20]; exact jm_sh_s
  clear hw20
  refine jm_aload_n C dX6_init_93 rfl ?_
  refine jm_bipush C dX6_init_94 (by decide +kernel) ?_
  refine jm_newa (atype := .int) .int 0 12 (316) (by decide) (by decide) rfl (by decide +kernel) C rfl jw_A_int (by decide) N_316 ⟨Nat.le_of_ble_eq_true rfl, Nat.le_of_ble_eq_true rfl⟩ dX6_init_96 (fun a_316 => ?_)
  refine jm_gen (fun w21 hw21 => ?_)
  have GG : jm_gr w20 w21 (316) (fun z => z = (316)) := by rw [hw21]; exact jm_gr_ad N_316
  replace A_300 : w21.2.1 (300) = r := (GG.1 _ M_300).2.1.trans A_300
  replace S_300 : w21.2.2 (300) = jm_O 6 [none, none, none, none, none, some (.ref a_305), some (.ref a_306), some (.ref a_307), none, some (.ref a_309), some (.ref a_310), some (.ref a_311), some (.ref a_312), some (.ref a_313), some (.ref a_314), some (.ref a_315), some .null, some .null, some .null, some .null, some .null, some .null, some .null, some .null, some .null, some .null, some .null, some .null] := ((GG.1 _ M_300).2.2 (by decide)).trans S_300
  replace M_300 : (300) ∈ w21.1 := (GG.1 _ M_300).1
  replace A_305 : w21.2.1 (305) = a_305 := (GG.1 _ M_305).2.1.trans A_305
  replace S_305 : w21.2.2 (305) = jm_Ia (E.2.2 0) 1647 := ((GG.1 _ M_305).2.2 (by decide)).trans S_305
  replace M_305 : (305) ∈ w21.1 := (GG.1 _ M_305).1
  replace A_306 : w21.2.1 (306) = a_306 := (GG.1 _ M_306).2.1.trans A_306
  replace S_306 : w21.2.2 (306) = jm_Ia (E.2.2 1) 3 := ((GG.1 _ M_306).2.2 (by decide)).trans S_306
  replace M_306 : (306) ∈ w21.1 := (GG.1 _ M_306).1
  replace A_307 : w21.2.1 (307) = a_307 := (GG.1 _ M_307).2.1.trans A_307
  replace S_307 : w21.2.2 (307) = jm_Ia (E.2.2 0) 3 := ((GG.1 _ M_307).2.2 (by decide)).trans S_307
  replace M_307 : (307) ∈ w21.1 := (GG.1 _ M_307).1
  replace A_309 : w21.2.1 (309) = a_309 := (GG.1 _ M_309).2.1.trans A_309
  replace S_309 : w21.2.2 (309) = jm_Ia (E.2.2 0) 12 := ((GG.1 _ M_309).2.2 (by decide)).trans S_309
  replace M_309 : (309) ∈ w21.1 := (GG.1 _ M_309).1
  replace A_310 : w21.2.1 (310) = a_310 := (GG.1 _ M_310).2.1.trans A_310
  replace S_310 : w21.2.2 (310) = jm_Ia (E.2.2 0) 12 := ((GG.1 _ M_310).2.2 (by decide)).trans S_310
  replace M_310 : (310) ∈ w21.1 := (GG.1 _ M_310).1
  replace A_311 : w21.2.1 (311) = a_311 := (GG.1 _ M_311).2.1.trans A_311
  replace S_311 : w21.2.2 (311) = jm_Ia (E.2.2 0) 12 := ((GG.1 _ M_311).2.2 (by decide)).trans S_311
  replace M_311 : (311) ∈ w21.1 := (GG.1 _ M_311).1
  replace A_312 : w21.2.1 (312) = a_312 := (GG.1 _ M_312).2.1.trans A_312
  replace S_312 : w21.2.2 (312) = jm_Ia (E.2.2 0) 12 := ((GG.1 _ M_312).2.2 (by decide)).trans S_312
  replace M_312 : (312) ∈ w21.1 := (GG.1 _ M_312).1
  replace A_313 : w21.2.1 (313) = a_313 := (GG.1 _ M_313).2.1.trans A_313
  replace S_313 : w21.2.2 (313) = jm_Ia (E.2.2 0) 12 := ((GG.1 _ M_313).2.2 (by decide)).trans S_313
  replace M_313 : (313) ∈ w21.1 := (GG.1 _ M_313).1
  replace A_314 : w21.2.1 (314) = a_314 := (GG.1 _ M_314).2.1.trans A_314
  replace S_314 : w21.2.2 (314) = jm_Ia (E.2.2 0) 12 := ((GG.1 _ M_314).2.2 (by decide)).trans S_314
  replace M_314 : (314) ∈ w21.1 := (GG.1 _ M_314).1
  replace A_315 : w21.2.1 (315) = a_315 := (GG.1 _ M_315).2.1.trans A_315
  replace S_315 : w21.2.2 (315) = jm_Ia (E.2.2 0) 24 := ((GG.1 _ M_315).2.2 (by decide)).trans S_315
  replace M_315 : (315) ∈ w21.1 := (GG.1 _ M_315).1
  replace N_317 : (317) ∉ w21.1 := fun h => (GG.2 _ h).elim N_317 (fun e => absurd (show (317 : Int) = (316) from e) (by decide))
  replace N_318 : (318) ∉ w21.1 := fun h => (GG.2 _ h).elim N_318 (fun e => absurd (show (318 : Int) = (316) from e) (by decide))
  replace N_319 : (319) ∉ w21.1 := fun h => (GG.2 _ h).elim N_319 (fun e => absurd (show (319 : Int) = (316) from e) (by decide))
  replace N_320 : (320) ∉ w21.1 := fun h => (GG.2 _ h).elim N_320 (fun e => absurd (show (320 : Int) = (316) from e) (by decide))
  replace N_321 : (321) ∉ w21.1 := fun h => (GG.2 _ h).elim N_321 (fun e => absurd (show (321 : Int) = (316) from e) (by decide))
  replace N_322 : (322) ∉ w21.1 := fun h => (GG.2 _ h).elim N_322 (fun e => absurd (show (322 : Int) = (316) from e) (by decide))
  replace N_323 : (323) ∉ w21.1 := fun h => (GG.2 _ h).elim N_323 (fun e => absurd (show (323 : Int) = (316) from e) (by decide))
  replace N_324 : (324) ∉ w21.1 := fun h => (GG.2 _ h).elim N_324 (fun e => absurd (show (324 : Int) = (316) from e) (by decide))
  replace N_325 : (325) ∉ w21.1 := fun h => (GG.2 _ h).elim N_325 (fun e => absurd (show (325 : Int) = (316) from e) (by decide))
  replace N_326 : (326) ∉ w21.1 := fun h => (GG.2 _ h).elim N_326 (fun e => absurd (show (326 : Int) = (316) from e) (by decide))
  replace N_327 : (327) ∉ w21.1 := fun h => (GG.2 _ h).elim N_327 (fun e => absurd (show (327 : Int) = (316) from e) (by decide))
  replace GT : jm_gr w w21 (300) (hk_mn3) := jm_gr_tr GT GG (fun h => absurd h N0_316) (fun z e => e.elim id (fun e => by have e : z = (316) := e; subst e; exact (show hk_mn3 _ from by unfold hk_mn3; decide)))
  have M_316 : (316) ∈ w21.1 := by rw [hw21]; exact jm_ad_m
  have A_316 : w21.2.1 (316) = a_316 := by rw [hw21]; exact jm_ad_a
  have S_316 : w21.2.2 (316) = jm_Ia (E.2.2 0) 12 := by rw [hw21]; exact jm_ad_s
  clear hw21
  refine jm_geni (fun J13 hJ13 => ?_)
  rw [← A_300]
  refine jm_putr (ci := 6) (f := 16) (a := a_316) C hin0 rfl tyX6 tyX6_ok nmX6 jw_u_6 M_300 S_300 (Nat.le_of_ble_eq_true rfl) (by decide) jw_f_RX6_48 rfl rfl (tyX6_ok 16 (by decide)) rfl rfl dX6_init_98 ?_
  try rw [A_300]
  refine jm_gen (fun w22 hw22 => ?_)
  have GG : jm_gr w21 w22 (300) (fun _ => False) := by rw [hw22]; exact jm_gr_sh
  replace A_300 : w22.2.1 (300) = r := (GG.1 _ M_300).2.1.trans A_300
  replace M_300 : (300) ∈ w22.1 := (GG.1 _ M_300).1
  replace A_305 : w22.2.1 (305) = a_305 := (GG.1 _ M_305).2.1.trans A_305
  replace S_305 : w22.2.2 (305) = jm_Ia (E.2.2 0) 1647 := ((GG.1 _ M_305).2.2 (by decide)).trans S_305
  replace M_305 : (305) ∈ w22.1 := (GG.1 _ M_305).1
  replace A_306 : w22.2.1 (306) = a_306 := (GG.1 _ M_306).2.1.trans A_306
  replace S_306 : w22.2.2 (306) = jm_Ia (E.2.2 1) 3 := ((GG.1 _ M_306).2.2 (by decide)).trans S_306
  replace M_306 : (306) ∈ w22.1 := (GG.1 _ M_306).1
  replace A_307 : w22.2.1 (307) = a_307 := (GG.1 _ M_307).2.1.trans A_307
  replace S_307 : w22.2.2 (307) = jm_Ia (E.2.2 0) 3 := ((GG.1 _ M_307).2.2 (by decide)).trans S_307
  replace M_307 : (307) ∈ w22.1 := (GG.1 _ M_307).1
  replace A_309 : w22.2.1 (309) = a_309 := (GG.1 _ M_309).2.1.trans A_309
  replace S_309 : w22.2.2 (309) = jm_Ia (E.2.2 0) 12 := ((GG.1 _ M_309).2.2 (by decide)).trans S_309
  replace M_309 : (309) ∈ w22.1 := (GG.1 _ M_309).1
  replace A_310 : w22.2.1 (310) = a_310 := (GG.1 _ M_310).2.1.trans A_310
  replace S_310 : w22.2.2 (310) = jm_Ia (E.2.2 0) 12 := ((GG.1 _ M_310).2.2 (by decide)).trans S_310
  replace M_310 : (310) ∈ w22.1 := (GG.1 _ M_310).1
  replace A_311 : w22.2.1 (311) = a_311 := (GG.1 _ M_311).2.1.trans A_311
  replace S_311 : w22.2.2 (311) = jm_Ia (E.2.2 0) 12 := ((GG.1 _ M_311).2.2 (by decide)).trans S_311
  replace M_311 : (311) ∈ w22.1 := (GG.1 _ M_311).1
  replace A_312 : w22.2.1 (312) = a_312 := (GG.1 _ M_312).2.1.trans A_312
  replace S_312 : w22.2.2 (312) = jm_Ia (E.2.2 0) 12 := ((GG.1 _ M_312).2.2 (by decide)).trans S_312
  replace M_312 : (312) ∈ w22.1 := (GG.1 _ M_312).1
  replace A_313 : w22.2.1 (313) = a_313 := (GG.1 _ M_313).2.1.trans A_313
  replace S_313 : w22.2.2 (313) = jm_Ia (E.2.2 0) 12 := ((GG.1 _ M_313).2.2 (by decide)).trans S_313
  replace M_313 : (313) ∈ w22.1 := (GG.1 _ M_313).1
  replace A_314 : w22.2.1 (314) = a_314 := (GG.1 _ M_314).2.1.trans A_314
  replace S_314 : w22.2.2 (314) = jm_Ia (E.2.2 0) 12 := ((GG.1 _ M_314).2.2 (by decide)).trans S_314
  replace M_314 : (314) ∈ w22.1 := (GG.1 _ M_314).1
  replace A_315 : w22.2.1 (315) = a_315 := (GG.1 _ M_315).2.1.trans A_315
  replace S_315 : w22.2.2 (315) = jm_Ia (E.2.2 0) 24 := ((GG.1 _ M_315).2.2 (by decide)).trans S_315
  replace M_315 : (315) ∈ w22.1 := (GG.1 _ M_315).1
  replace A_316 : w22.2.1 (316) = a_316 := (GG.1 _ M_316).2.1.trans A_316
  replace S_316 : w22.2.2 (316) = jm_Ia (E.2.2 0) 12 := ((GG.1 _ M_316).2.2 (by decide)).trans S_316
  replace M_316 : (316) ∈ w22.1 := (GG.1 _ M_316).1
  replace N_317 : (317) ∉ w22.1 := fun h => (GG.2 _ h).elim N_317 (fun e => e.elim)
  replace N_318 : (318) ∉ w22.1 := fun h => (GG.2 _ h).elim N_318 (fun e => e.elim)
  replace N_319 : (319) ∉ w22.1 := fun h => (GG.2 _ h).elim N_319 (fun e => e.elim)
  replace N_320 : (320) ∉ w22.1 := fun h => (GG.2 _ h).elim N_320 (fun e => e.elim)
  replace N_321 : (321) ∉ w22.1 := fun h => (GG.2 _ h).elim N_321 (fun e => e.elim)
  replace N_322 : (322) ∉ w22.1 := fun h => (GG.2 _ h).elim N_322 (fun e => e.elim)
  replace N_323 : (323) ∉ w22.1 := fun h => (GG.2 _ h).elim N_323 (fun e => e.elim)
  replace N_324 : (324) ∉ w22.1 := fun h => (GG.2 _ h).elim N_324 (fun e => e.elim)
  replace N_325 : (325) ∉ w22.1 := fun h => (GG.2 _ h).elim N_325 (fun e => e.elim)
  replace N_326 : (326) ∉ w22.1 := fun h => (GG.2 _ h).elim N_326 (fun e => e.elim)
  replace N_327 : (327) ∉ w22.1 := fun h => (GG.2 _ h).elim N_327 (fun e => e.elim)
  replace GT : jm_gr w w22 (300) (hk_mn3) := jm_gr_tr GT GG (fun _ => rfl) (fun z e => e.elim id (fun e => e.elim))
  have S_300 : w22.2.2 (300) = jm_O 6 [none, none, none, none, none, some (.ref a_305), some (.ref a_306), some (.ref a_307), none, some (.ref a_309), some (.ref a_310), some (.ref a_311), some (.ref a_312), some (.ref a_313), some (.ref a_314), some (.ref a_315), some (.ref a_316), some .null, some .null, some .null, some .null, some .null, some .null, some .null, some .null, some .null, some .null, some .null] := by rw [hw22]; exact jm_sh_s
  clear hw22
  refine jm_aload_n C dX6_init_101 rfl ?_
  refine jm_bipush C dX6_init_102 (by decide +kernel) ?_
  refine jm_newa (atype := .int) .int 0 12 (317) (by decide) (by decide) rfl (by decide +kernel) C rfl jw_A_int (by decide) N_317 ⟨Nat.le_of_ble_eq_true rfl, Nat.le_of_ble_eq_true rfl⟩ dX6_init_104 (fun a_317 => ?_)
  refine jm_gen (fun w23 hw23 => ?_)
  have GG : jm_gr w22 w23 (317) (fun z => z = (317)) := by rw [hw23]; exact jm_gr_ad N_317
  replace A_300 : w23.2.1 (300) = r := (GG.1 _ M_300).2.1.trans A_300
  replace S_300 : w23.2.2 (300) = jm_O 6 [none, none, none, none, none, some (.ref a_305), some (.ref a_306), some (.ref a_307), none, some (.ref a_309), some (.ref a_310), some (.ref a_311), some (.ref a_312), some (.ref a_313), some (.ref a_314), some (.ref a_315), some (.ref a_316), some .null, some .null, some .null, some .null, some .null, some .null, some .null, some .null, some .null, some .null, some .null] := ((GG.1 _ M_300).2.2 (by decide)).trans S_300
  replace M_300 : (300) ∈ w23.1 := (GG.1 _ M_300).1
  replace A_305 : w23.2.1 (305) = a_305 := (GG.1 _ M_305).2.1.trans A_305
  replace S_305 : w23.2.2 (305) = jm_Ia (E.2.2 0) 1647 := ((GG.1 _ M_305).2.2 (by decide)).trans S_305
  replace M_305 : (305) ∈ w23.1 := (GG.1 _ M_305).1
  replace A_306 : w23.2.1 (306) = a_306 := (GG.1 _ M_306).2.1.trans A_306
  replace S_306 : w23.2.2 (306) = jm_Ia (E.2.2 1) 3 := ((GG.1 _ M_306).2.2 (by decide)).trans S_306
  replace M_306 : (306) ∈ w23.1 := (GG.1 _ M_306).1
  replace A_307 : w23.2.1 (307) = a_307 := (GG.1 _ M_307).2.1.trans A_307
  replace S_307 : w23.2.2 (307) = jm_Ia (E.2.2 0) 3 := ((GG.1 _ M_307).2.2 (by decide)).trans S_307
  replace M_307 : (307) ∈ w23.1 := (GG.1 _ M_307).1
  replace A_309 : w23.2.1 (309) = a_309 := (GG.1 _ M_309).2.1.trans A_309
  replace S_309 : w23.2.2 (309) = jm_Ia (E.2.2 0) 12 := ((GG.1 _ M_309).2.2 (by decide)).trans S_309
  replace M_309 : (309) ∈ w23.1 := (GG.1 _ M_309).1
  replace A_310 : w23.2.1 (310) = a_310 := (GG.1 _ M_310).2.1.trans A_310
  replace S_310 : w23.2.2 (310) = jm_Ia (E.2.2 0) 12 := ((GG.1 _ M_310).2.2 (by decide)).trans S_310
  replace M_310 : (310) ∈ w23.1 := (GG.1 _ M_310).1
  replace A_311 : w23.2.1 (311) = a_311 := (GG.1 _ M_311).2.1.trans A_311
  replace S_311 : w23.2.2 (311) = jm_Ia (E.2.2 0) 12 := ((GG.1 _ M_311).2.2 (by decide)).trans S_311
  replace M_311 : (311) ∈ w23.1 := (GG.1 _ M_311).1
  replace A_312 : w23.2.1 (312) = a_312 := (GG.1 _ M_312).2.1.trans A_312
  replace S_312 : w23.2.2 (312) = jm_Ia (E.2.2 0) 12 := ((GG.1 _ M_312).2.2 (by decide)).trans S_312
  replace M_312 : (312) ∈ w23.1 := (GG.1 _ M_312).1
  replace A_313 : w23.2.1 (313) = a_313 := (GG.1 _ M_313).2.1.trans A_313
  replace S_313 : w23.2.2 (313) = jm_Ia (E.2.2 0) 12 := ((GG.1 _ M_313).2.2 (by decide)).trans S_313
  replace M_313 : (313) ∈ w23.1 := (GG.1 _ M_313).1
  replace A_314 : w23.2.1 (314) = a_314 := (GG.1 _ M_314).2.1.trans A_314
  replace S_314 : w23.2.2 (314) = jm_Ia (E.2.2 0) 12 := ((GG.1 _ M_314).2.2 (by decide)).trans S_314
  replace M_314 : (314) ∈ w23.1 := (GG.1 _ M_314).1
  replace A_315 : w23.2.1 (315) = a_315 := (GG.1 _ M_315).2.1.trans A_315
  replace S_315 : w23.2.2 (315) = jm_Ia (E.2.2 0) 24 := ((GG.1 _ M_315).2.2 (by decide)).trans S_315
  replace M_315 : (315) ∈ w23.1 := (GG.1 _ M_315).1
  replace A_316 : w23.2.1 (316) = a_316 := (GG.1 _ M_316).2.1.trans A_316
  replace S_316 : w23.2.2 (316) = jm_Ia (E.2.2 0) 12 := ((GG.1 _ M_316).2.2 (by decide)).trans S_316
  replace M_316 : (316) ∈ w23.1 := (GG.1 _ M_316).1
  replace N_318 : (318) ∉ w23.1 := fun h => (GG.2 _ h).elim N_318 (fun e => absurd (show (318 : Int) = (317) from e) (by decide))
  replace N_319 : (319) ∉ w23.1 := fun h => (GG.2 _ h).elim N_319 (fun e => absurd (show (319 : Int) = (317) from e) (by decide))
  replace N_320 : (320) ∉ w23.1 := fun h => (GG.2 _ h).elim N_320 (fun e => absurd (show (320 : Int) = (317) from e) (by decide))
  replace N_321 : (321) ∉ w23.1 := fun h => (GG.2 _ h).elim N_321 (fun e => absurd (show (321 : Int) = (317) from e) (by decide))
  replace N_322 : (322) ∉ w23.1 := fun h => (GG.2 _ h).elim N_322 (fun e => absurd (show (322 : Int) = (317) from e) (by decide))
  replace N_323 : (323) ∉ w23.1 := fun h => (GG.2 _ h).elim N_323 (fun e => absurd (show (323 : Int) = (317) from e) (by decide))
  replace N_324 : (324) ∉ w23.1 := fun h => (GG.2 _ h).elim N_324 (fun e => absurd (show (324 : Int) = (317) from e) (by decide))
  replace N_325 : (325) ∉ w23.1 := fun h => (GG.2 _ h).elim N_325 (fun e => absurd (show (325 : Int) = (317) from e) (by decide))
  replace N_326 : (326) ∉ w23.1 := fun h => (GG.2 _ h).elim N_326 (fun e => absurd (show (326 : Int) = (317) from e) (by decide))
  replace N_327 : (327) ∉ w23.1 := fun h => (GG.2 _ h).elim N_327 (fun e => absurd (show (327 : Int) = (317) from e) (by decide))
  replace GT : jm_gr w w23 (300) (hk_mn3) := jm_gr_tr GT GG (fun h => absurd h N0_317) (fun z e => e.elim id (fun e => by have e : z = (317) := e; subst e; exact (show hk_mn3 _ from by unfold hk_mn3; decide)))
  have M_317 : (317) ∈ w23.1 := by rw [hw23]; exact jm_ad_m
  have A_317 : w23.2.1 (317) = a_317 := by rw [hw23]; exact jm_ad_a
  have S_317 : w23.2.2 (317) = jm_Ia (E.2.2 0) 12 := by rw [hw23]; exact jm_ad_s
  clear hw23
  refine jm_geni (fun J14 hJ14 => ?_)
  rw [← A_300]
  refine jm_putr (ci := 6) (f := 17) (a := a_317) C hin0 rfl tyX6 tyX6_ok nmX6 jw_u_6 M_300 S_300 (Nat.le_of_ble_eq_true rfl) (by decide) jw_f_RX6_51 rfl rfl (tyX6_ok 17 (by decide)) rfl rfl dX6_init_106 ?_
  try rw [A_300]
  refine jm_gen (fun w24 hw24 => ?_)
  have GG : jm_gr w23 w24 (300) (fun _ => False) := by rw [hw24]; exact jm_gr_sh
  replace A_300 : w24.2.1 (300) = r := (GG.1 _ M_300).2.1.trans A_300
  replace M_300 : (300) ∈ w24.1 := (GG.1 _ M_300).1
  replace A_305 : w24.2.1 (305) = a_305 := (GG.1 _ M_305).2.1.trans A_305
  replace S_305 : w24.2.2 (305) = jm_Ia (E.2.2 0) 1647 := ((GG.1 _ M_305).2.2 (by decide)).trans S_305
  replace M_305 : (305) ∈ w24.1 := (GG.1 _ M_305).1
  replace A_306 : w24.2.1 (306) = a_306 := (GG.1 _ M_306).2.1.trans A_306
  replace S_306 : w24.2.2 (306) = jm_Ia (E.2.2 1) 3 := ((GG.1 _ M_306).2.2 (by decide)).trans S_306
  replace M_306 : (306) ∈ w24.1 := (GG.1 _ M_306).1
  replace A_307 : w24.2.1 (307) = a_307 := (GG.1 _ M_307).2.1.trans A_307
  replace S_307 : w24.2.2 (307) = jm_Ia (E.2.2 0) 3 := ((GG.1 _ M_307).2.2 (by decide)).trans S_307
  replace M_307 : (307) ∈ w24.1 := (GG.1 _ M_307).1
  replace A_309 : w24.2.1 (309) = a_309 := (GG.1 _ M_309).2.1.trans A_309
  replace S_309 : w24.2.2 (309) = jm_Ia (E.2.2 0) 12 := ((GG.1 _ M_309).2.2 (by decide)).trans S_309
  replace M_309 : (309) ∈ w24.1 := (GG.1 _ M_309).1
  replace A_310 : w24.2.1 (310) = a_310 := (GG.1 _ M_310).2.1.trans A_310
  replace S_310 : w24.2.2 (310) = jm_Ia (E.2.2 0) 12 := ((GG.1 _ M_310).2.2 (by decide)).trans S_310
  replace M_310 : (310) ∈ w24.1 := (GG.1 _ M_310).1
  replace A_311 : w24.2.1 (311) = a_311 := (GG.1 _ M_311).2.1.trans A_311
  replace S_311 : w24.2.2 (311) = jm_Ia (E.2.2 0) 12 := ((GG.1 _ M_311).2.2 (by decide)).trans S_311
  replace M_311 : (311) ∈ w24.1 := (GG.1 _ M_311).1
  replace A_312 : w24.2.1 (312) = a_312 := (GG.1 _ M_312).2.1.trans A_312
  replace S_312 : w24.2.2 (312) = jm_Ia (E.2.2 0) 12 := ((GG.1 _ M_312).2.2 (by decide)).trans S_312
  replace M_312 : (312) ∈ w24.1 := (GG.1 _ M_312).1
  replace A_313 : w24.2.1 (313) = a_313 := (GG.1 _ M_313).2.1.trans A_313
  replace S_313 : w24.2.2 (313) = jm_Ia (E.2.2 0) 12 := ((GG.1 _ M_313).2.2 (by decide)).trans S_313
  replace M_313 : (313) ∈ w24.1 := (GG.1 _ M_313).1
  replace A_314 : w24.2.1 (314) = a_314 := (GG.1 _ M_314).2.1.trans A_314
  replace S_314 : w24.2.2 (314) = jm_Ia (E.2.2 0) 12 := ((GG.1 _ M_314).2.2 (by decide)).trans S_314
  replace M_314 : (314) ∈ w24.1 := (GG.1 _ M_314).1
  replace A_315 : w24.2.1 (315) = a_315 := (GG.1 _ M_315).2.1.trans A_315
  replace S_315 : w24.2.2 (315) = jm_Ia (E.2.2 0) 24 := ((GG.1 _ M_315).2.2 (by decide)).trans S_315
  replace M_315 : (315) ∈ w24.1 := (GG.1 _ M_315).1
  replace A_316 : w24.2.1 (316) = a_316 := (GG.1 _ M_316).2.1.trans A_316
  replace S_316 : w24.2.2 (316) = jm_Ia (E.2.2 0) 12 := ((GG.1 _ M_316).2.2 (by decide)).trans S_316
  replace M_316 : (316) ∈ w24.1 := (GG.1 _ M_316).1
  replace A_317 : w24.2.1 (317) = a_317 := (GG.1 _ M_317).2.1.trans A_317
  replace S_317 : w24.2.2 (317) = jm_Ia (E.2.2 0) 12 := ((GG.1 _ M_317).2.2 (by decide)).trans S_317
  replace M_317 : (317) ∈ w24.1 := (GG.1 _ M_317).1
  replace N_318 : (318) ∉ w24.1 := fun h => (GG.2 _ h).elim N_318 (fun e => e.elim)
  replace N_319 : (319) ∉ w24.1 := fun h => (GG.2 _ h).elim N_319 (fun e => e.elim)
  replace N_320 : (320) ∉ w24.1 := fun h => (GG.2 _ h).elim N_320 (fun e => e.elim)
  replace N_321 : (321) ∉ w24.1 := fun h => (GG.2 _ h).elim N_321 (fun e => e.elim)
  replace N_322 : (322) ∉ w24.1 := fun h => (GG.2 _ h).elim N_322 (fun e => e.elim)
  replace N_323 : (323) ∉ w24.1 := fun h => (GG.2 _ h).elim N_323 (fun e => e.elim)
  replace N_324 : (324) ∉ w24.1 := fun h => (GG.2 _ h).elim N_324 (fun e => e.elim)
  replace N_325 : (325) ∉ w24.1 := fun h => (GG.2 _ h).elim N_325 (fun e => e.elim)
  replace N_326 : (326) ∉ w24.1 := fun h => (GG.2 _ h).elim N_326 (fun e => e.elim)
  replace N_327 : (327) ∉ w24.1 := fun h => (GG.2 _ h).elim N_327 (fun e => e.elim)
  replace GT : jm_gr w w24 (300) (hk_mn3) := jm_gr_tr GT GG (fun _ => rfl) (fun z e => e.elim id (fun e => e.elim))
  have S_300 : w24.2.2 (300) = jm_O 6 [none, none, none, none, none, some (.ref a_305), some (.ref a_306), some (.ref a_307), none, some (.ref a_309), some (.ref a_310), some (.ref a_311), some (.ref a_312), some (.ref a_313), some (.ref a_314), some (.ref a_315), some (.ref a_316), some (.ref a_317), some .null, some .null, some .null, some .null, some .null, some .null, some .null, some .null, some .null, some .null] := by rw [hw24]; exact jm_sh_s
  clear hw24
  refine jm_aload_n C dX6_init_109 rfl ?_
  refine jm_bipush C dX6_init_110 (by decide +kernel) ?_
  refine jm_newa (atype := .int) .int 0 12 (318) (by decide) (by decide) rfl (by decide +kernel) C rfl jw_A_int (by decide) N_318 ⟨Nat.le_of_ble_eq_true rfl, Nat.le_of_ble_eq_true rfl⟩ dX6_init_112 (fun a_318 => ?_)
  refine jm_gen (fun w25 hw25 => ?_)
  have GG : jm_gr w24 w25 (318) (fun z => z = (318)) := by rw [hw25]; exact jm_gr_ad N_318
  replace A_300 : w25.2.1 (300) = r := (GG.1 _ M_300).2.1.trans A_300
  replace S_300 : w25.2.2 (300) = jm_O 6 [none, none, none, none, none, some (.ref a_305), some (.ref a_306), some (.ref a_307), none, some (.ref a_309), some (.ref a_310), some (.ref a_311), some (.ref a_312), some (.ref a_313), some (.ref a_314), some (.ref a_315), some (.ref a_316), some (.ref a_317), some .null, some .null, some .null, some .null, some .null, some .null, some .null, some .null, some .null, some .null] := ((GG.1 _ M_300).2.2 (by decide)).trans S_300
  replace M_300 : (300) ∈ w25.1 := (GG.1 _ M_300).1
  replace A_305 : w25.2.1 (305) = a_305 := (GG.1 _ M_305).2.1.trans A_305
  replace S_305 : w25.2.2 (305) = jm_Ia (E.2.2 0) 1647 := ((GG.1 _ M_305).2.2 (by decide)).trans S_305
  replace M_305 : (305) ∈ w25.1 := (GG.1 _ M_305).1
  replace A_306 : w25.2.1 (306) = a_306 := (GG.1 _ M_306).2.1.trans A_306
  replace S_306 : w25.2.2 (306) = jm_Ia (E.2.2 1) 3 := ((GG.1 _ M_306).2.2 (by decide)).trans S_306
  replace M_306 : (306) ∈ w25.1 := (GG.1 _ M_306).1
  replace A_307 : w25.2.1 (307) = a_307 := (GG.1 _ M_307).2.1.trans A_307
  replace S_307 : w25.2.2 (307) = jm_Ia (E.2.2 0) 3 := ((GG.1 _ M_307).2.2 (by decide)).trans S_307
  replace M_307 : (307) ∈ w25.1 := (GG.1 _ M_307).1
  replace A_309 : w25.2.1 (309) = a_309 := (GG.1 _ M_309).2.1.trans A_309
  replace S_309 : w25.2.2 (309) = jm_Ia (E.2.2 0) 12 := ((GG.1 _ M_309).2.2 (by decide)).trans S_309
  replace M_309 : (309) ∈ w25.1 := (GG.1 _ M_309).1
  replace A_310 : w25.2.1 (310) = a_310 := (GG.1 _ M_310).2.1.trans A_310
  replace S_310 : w25.2.2 (310) = jm_Ia (E.2.2 0) 12 := ((GG.1 _ M_310).2.2 (by decide)).trans S_310
  replace M_310 : (310) ∈ w25.1 := (GG.1 _ M_310).1
  replace A_311 : w25.2.1 (311) = a_311 := (GG.1 _ M_311).2.1.trans A_311
  replace S_311 : w25.2.2 (311) = jm_Ia (E.2.2 0) 12 := ((GG.1 _ M_311).2.2 (by decide)).trans S_311
  replace M_311 : (311) ∈ w25.1 := (GG.1 _ M_311).1
  replace A_312 : w25.2.1 (312) = a_312 := (GG.1 _ M_312).2.1.trans A_312
  replace S_312 : w25.2.2 (312) = jm_Ia (E.2.2 0) 12 := ((GG.1 _ M_312).2.2 (by decide)).trans S_312
  replace M_312 : (312) ∈ w25.1 := (GG.1 _ M_312).1
  replace A_313 : w25.2.1 (313) = a_313 := (GG.1 _ M_313).2.1.trans A_313
  replace S_313 : w25.2.2 (313) = jm_Ia (E.2.2 0) 12 := ((GG.1 _ M_313).2.2 (by decide)).trans S_313
  replace M_313 : (313) ∈ w25.1 := (GG.1 _ M_313).1
  replace A_314 : w25.2.1 (314) = a_314 := (GG.1 _ M_314).2.1.trans A_314
  replace S_314 : w25.2.2 (314) = jm_Ia (E.2.2 0) 12 := ((GG.1 _ M_314).2.2 (by decide)).trans S_314
  replace M_314 : (314) ∈ w25.1 := (GG.1 _ M_314).1
  replace A_315 : w25.2.1 (315) = a_315 := (GG.1 _ M_315).2.1.trans A_315
  replace S_315 : w25.2.2 (315) = jm_Ia (E.2.2 0) 24 := ((GG.1 _ M_315).2.2 (by decide)).trans S_315
  replace M_315 : (315) ∈ w25.1 := (GG.1 _ M_315).1
  replace A_316 : w25.2.1 (316) = a_316 := (GG.1 _ M_316).2.1.trans A_316
  replace S_316 : w25.2.2 (316) = jm_Ia (E.2.2 0) 12 := ((GG.1 _ M_316).2.2 (by decide)).trans S_316
  replace M_316 : (316) ∈ w25.1 := (GG.1 _ M_316).1
  replace A_317 : w25.2.1 (317) = a_317 := (GG.1 _ M_317).2.1.trans A_317
  replace S_317 : w25.2.2 (317) = jm_Ia (E.2.2 0) 12 := ((GG.1 _ M_317).2.2 (by decide)).trans S_317
  replace M_317 : (317) ∈ w25.1 := (GG.1 _ M_317).1
  replace N_319 : (319) ∉ w25.1 := fun h => (GG.2 _ h).elim N_319 (fun e => absurd (show (319 : Int) = (318) from e) (by decide))
  replace N_320 : (320) ∉ w25.1 := fun h => (GG.2 _ h).elim N_320 (fun e => absurd (show (320 : Int) = (318) from e) (by decide))
  replace N_321 : (321) ∉ w25.1 := fun h => (GG.2 _ h).elim N_321 (fun e => absurd (show (321 : Int) = (318) from e) (by decide))
  replace N_322 : (322) ∉ w25.1 := fun h => (GG.2 _ h).elim N_322 (fun e => absurd (show (322 : Int) = (318) from e) (by decide))
  replace N_323 : (323) ∉ w25.1 := fun h => (GG.2 _ h).elim N_323 (fun e => absurd (show (323 : Int) = (318) from e) (by decide))
  replace N_324 : (324) ∉ w25.1 := fun h => (GG.2 _ h).elim N_324 (fun e => absurd (show (324 : Int) = (318) from e) (by decide))
  replace N_325 : (325) ∉ w25.1 := fun h => (GG.2 _ h).elim N_325 (fun e => absurd (show (325 : Int) = (318) from e) (by decide))
  replace N_326 : (326) ∉ w25.1 := fun h => (GG.2 _ h).elim N_326 (fun e => absurd (show (326 : Int) = (318) from e) (by decide))
  replace N_327 : (327) ∉ w25.1 := fun h => (GG.2 _ h).elim N_327 (fun e => absurd (show (327 : Int) = (318) from e) (by decide))
  replace GT : jm_gr w w25 (300) (hk_mn3) := jm_gr_tr GT GG (fun h => absurd h N0_318) (fun z e => e.elim id (fun e => by have e : z = (318) := e; subst e; exact (show hk_mn3 _ from by unfold hk_mn3; decide)))
  have M_318 : (318) ∈ w25.1 := by rw [hw25]; exact jm_ad_m
  have A_318 : w25.2.1 (318) = a_318 := by rw [hw25]; exact jm_ad_a
  have S_318 : w25.2.2 (318) = jm_Ia (E.2.2 0) 12 := by rw [hw25]; exact jm_ad_s
  clear hw25
  refine jm_geni (fun J15 hJ15 => ?_)
  rw [← A_300]
  refine jm_putr (ci := 6) (f := 18) (a := a_318) C hin0 rfl tyX6 tyX6_ok nmX6 jw_u_6 M_300 S_300 (Nat.le_of_ble_eq_true rfl) (by decide) jw_f_RX6_54 rfl rfl (tyX6_ok 18 (by decide)) rfl rfl dX6_init_114 ?_
  try rw [A_300]
  refine jm_gen (fun w26 hw26 => ?_)
  have GG : jm_gr w25 w26 (300) (fun _ => False) := by rw [hw26]; exact jm_gr_sh
  replace A_300 : w26.2.1 (300) = r := (GG.1 _ M_300).2.1.trans A_300
  replace M_300 : (300) ∈ w26.1 := (GG.1 _ M_300).1
  replace A_305 : w26.2.1 (305) = a_305 := (GG.1 _ M_305).2.1.trans A_305
  replace S_305 : w26.2.2 (305) = jm_Ia (E.2.2 0) 1647 := ((GG.1 _ M_305).2.2 (by decide)).trans S_305
  replace M_305 : (305) ∈ w26.1 := (GG.1 _ M_305).1
  replace A_306 : w26.2.1 (306) = a_306 := (GG.1 _ M_306).2.1.trans A_306
  replace S_306 : w26.2.2 (306) = jm_Ia (E.2.2 1) 3 := ((GG.1 _ M_306).2.2 (by decide)).trans S_306
  replace M_306 : (306) ∈ w26.1 := (GG.1 _ M_306).1
  replace A_307 : w26.2.1 (307) = a_307 := (GG.1 _ M_307).2.1.trans A_307
  replace S_307 : w26.2.2 (307) = jm_Ia (E.2.2 0) 3 := ((GG.1 _ M_307).2.2 (by decide)).trans S_307
  replace M_307 : (307) ∈ w26.1 := (GG.1 _ M_307).1
  replace A_309 : w26.2.1 (309) = a_309 := (GG.1 _ M_309).2.1.trans A_309
  replace S_309 : w26.2.2 (309) = jm_Ia (E.2.2 0) 12 := ((GG.1 _ M_309).2.2 (by decide)).trans S_309
  replace M_309 : (309) ∈ w26.1 := (GG.1 _ M_309).1
  replace A_310 : w26.2.1 (310) = a_310 := (GG.1 _ M_310).2.1.trans A_310
  replace S_310 : w26.2.2 (310) = jm_Ia (E.2.2 0) 12 := ((GG.1 _ M_310).2.2 (by decide)).trans S_310
  replace M_310 : (310) ∈ w26.1 := (GG.1 _ M_310).1
  replace A_311 : w26.2.1 (311) = a_311 := (GG.1 _ M_311).2.1.trans A_311
  replace S_311 : w26.2.2 (311) = jm_Ia (E.2.2 0) 12 := ((GG.1 _ M_311).2.2 (by decide)).trans S_311
  replace M_311 : (311) ∈ w26.1 := (GG.1 _ M_311).1
  replace A_312 : w26.2.1 (312) = a_312 := (GG.1 _ M_312).2.1.trans A_312
  replace S_312 : w26.2.2 (312) = jm_Ia (E.2.2 0) 12 := ((GG.1 _ M_312).2.2 (by decide)).trans S_312
  replace M_312 : (312) ∈ w26.1 := (GG.1 _ M_312).1
  replace A_313 : w26.2.1 (313) = a_313 := (GG.1 _ M_313).2.1.trans A_313
  replace S_313 : w26.2.2 (313) = jm_Ia (E.2.2 0) 12 := ((GG.1 _ M_313).2.2 (by decide)).trans S_313
  replace M_313 : (313) ∈ w26.1 := (GG.1 _ M_313).1
  replace A_314 : w26.2.1 (314) = a_314 := (GG.1 _ M_314).2.1.trans A_314
  replace S_314 : w26.2.2 (314) = jm_Ia (E.2.2 0) 12 := ((GG.1 _ M_314).2.2 (by decide)).trans S_314
  replace M_314 : (314) ∈ w26.1 := (GG.1 _ M_314).1
  replace A_315 : w26.2.1 (315) = a_315 := (GG.1 _ M_315).2.1.trans A_315
  replace S_315 : w26.2.2 (315) = jm_Ia (E.2.2 0) 24 := ((GG.1 _ M_315).2.2 (by decide)).trans S_315
  replace M_315 : (315) ∈ w26.1 := (GG.1 _ M_315).1
  replace A_316 : w26.2.1 (316) = a_316 := (GG.1 _ M_316).2.1.trans A_316
  replace S_316 : w26.2.2 (316) = jm_Ia (E.2.2 0) 12 := ((GG.1 _ M_316).2.2 (by decide)).trans S_316
  replace M_316 : (316) ∈ w26.1 := (GG.1 _ M_316).1
  replace A_317 : w26.2.1 (317) = a_317 := (GG.1 _ M_317).2.1.trans A_317
  replace S_317 : w26.2.2 (317) = jm_Ia (E.2.2 0) 12 := ((GG.1 _ M_317).2.2 (by decide)).trans S_317
  replace M_317 : (317) ∈ w26.1 := (GG.1 _ M_317).1
  replace A_318 : w26.2.1 (318) = a_318 := (GG.1 _ M_318).2.1.trans A_318
  replace S_318 : w26.2.2 (318) = jm_Ia (E.2.2 0) 12 := ((GG.1 _ M_318).2.2 (by decide)).trans S_318
  replace M_318 : (318) ∈ w26.1 := (GG.1 _ M_318).1
  replace N_319 : (319) ∉ w26.1 := fun h => (GG.2 _ h).elim N_319 (fun e => e.elim)
  replace N_320 : (320) ∉ w26.1 := fun h => (GG.2 _ h).elim N_320 (fun e => e.elim)
  replace N_321 : (321) ∉ w26.1 := fun h => (GG.2 _ h).elim N_321 (fun e => e.elim)
  replace N_322 : (322) ∉ w26.1 := fun h => (GG.2 _ h).elim N_322 (fun e => e.elim)
  replace N_323 : (323) ∉ w26.1 := fun h => (GG.2 _ h).elim N_323 (fun e => e.elim)
  replace N_324 : (324) ∉ w26.1 := fun h => (GG.2 _ h).elim N_324 (fun e => e.elim)
  replace N_325 : (325) ∉ w26.1 := fun h => (GG.2 _ h).elim N_325 (fun e => e.elim)
  replace N_326 : (326) ∉ w26.1 := fun h => (GG.2 _ h).elim N_326 (fun e => e.elim)
  replace N_327 : (327) ∉ w26.1 := fun h => (GG.2 _ h).elim N_327 (fun e => e.elim)
  replace GT : jm_gr w w26 (300) (hk_mn3) := jm_gr_tr GT GG (fun _ => rfl) (fun z e => e.elim id (fun e => e.elim))
  have S_300 : w26.2.2 (300) = jm_O 6 [none, none, none, none, none, some (.ref a_305), some (.ref a_306), some (.ref a_307), none, some (.ref a_309), some (.ref a_310), some (.ref a_311), some (.ref a_312), some (.ref a_313), some (.ref a_314), some (.ref a_315), some (.ref a_316), some (.ref a_317), some (.ref a_318), some .null, some .null, some .null, some .null, some .null, some .null, some .null, some .null, some .null] := by rw [hw26]; exact jm_sh_s
  clear hw26
  refine jm_aload_n C dX6_init_117 rfl ?_
  refine jm_bipush C dX6_init_118 (by decide +kernel) ?_
  refine jm_newa (atype := .int) .int 0 12 (319) (by decide) (by decide) rfl (by decide +kernel) C rfl jw_A_int (by decide) N_319 ⟨Nat.le_of_ble_eq_true rfl, Nat.le_of_ble_eq_true rfl⟩ dX6_init_120 (fun a_319 => ?_)
  refine jm_gen (fun w27 hw27 => ?_)
  have GG : jm_gr w26 w27 (319) (fun z => z = (319)) := by rw [hw27]; exact jm_gr_ad N_319
  replace A_300 : w27.2.1 (300) = r := (GG.1 _ M_300).2.1.trans A_300
  replace S_300 : w27.2.2 (300) = jm_O 6 [none, none, none, none, none, some (.ref a_305), some (.ref a_306), some (.ref a_307), none, some (.ref a_309), some (.ref a_310), some (.ref a_311), some (.ref a_312), some (.ref a_313), some (.ref a_314), some (.ref a_315), some (.ref a_316), some (.ref a_317), some (.ref a_318), some .null, some .null, some .null, some .null, some .null, some .null, some .null, some .null, some .null] := ((GG.1 _ M_300).2.2 (by decide)).trans S_300
  replace M_300 : (300) ∈ w27.1 := (GG.1 _ M_300).1
  replace A_305 : w27.2.1 (305) = a_305 := (GG.1 _ M_305).2.1.trans A_305
  replace S_305 : w27.2.2 (305) = jm_Ia (E.2.2 0) 1647 := ((GG.1 _ M_305).2.2 (by decide)).trans S_305
  replace M_305 : (305) ∈ w27.1 := (GG.1 _ M_305).1
  replace A_306 : w27.2.1 (306) = a_306 := (GG.1 _ M_306).2.1.trans A_306
  replace S_306 : w27.2.2 (306) = jm_Ia (E.2.2 1) 3 := ((GG.1 _ M_306).2.2 (by decide)).trans S_306
  replace M_306 : (306) ∈ w27.1 := (GG.1 _ M_306).1
  replace A_307 : w27.2.1 (307) = a_307 := (GG.1 _ M_307).2.1.trans A_307
  replace S_307 : w27.2.2 (307) = jm_Ia (E.2.2 0) 3 := ((GG.1 _ M_307).2.2 (by decide)).trans S_307
  replace M_307 : (307) ∈ w27.1 := (GG.1 _ M_307).1
  replace A_309 : w27.2.1 (309) = a_309 := (GG.1 _ M_309).2.1.trans A_309
  replace S_309 : w27.2.2 (309) = jm_Ia (E.2.2 0) 12 := ((GG.1 _ M_309).2.2 (by decide)).trans S_309
  replace M_309 : (309) ∈ w27.1 := (GG.1 _ M_309).1
  replace A_310 : w27.2.1 (310) = a_310 := (GG.1 _ M_310).2.1.trans A_310
  replace S_310 : w27.2.2 (310) = jm_Ia (E.2.2 0) 12 := ((GG.1 _ M_310).2.2 (by decide)).trans S_310
  replace M_310 : (310) ∈ w27.1 := (GG.1 _ M_310).1
  replace A_311 : w27.2.1 (311) = a_311 := (GG.1 _ M_311).2.1.trans A_311
  replace S_311 : w27.2.2 (311) = jm_Ia (E.2.2 0) 12 := ((GG.1 _ M_311).2.2 (by decide)).trans S_311
  replace M_311 : (311) ∈ w27.1 := (GG.1 _ M_311).1
  replace A_312 : w27.2.1 (312) = a_312 := (GG.1 _ M_312).2.1.trans A_312
  replace S_312 : w27.2.2 (312) = jm_Ia (E.2.2 0) 12 := ((GG.1 _ M_312).2.2 (by decide)).trans S_312
  replace M_312 : (312) ∈ w27.1 := (GG.1 _ M_312).1
  replace A_313 : w27.2.1 (313) = a_313 := (GG.1 _ M_313).2.1.trans A_313
  replace S_313 : w27.2.2 (313) = jm_Ia (E.2.2 0) 12 := ((GG.1 _ M_313).2.2 (by decide)).trans S_313
  replace M_313 : (313) ∈ w27.1 := (GG.1 _ M_313).1
  replace A_314 : w27.2.1 (314) = a_314 := (GG.1 _ M_314).2.1.trans A_314
  replace S_314 : w27.2.2 (314) = jm_Ia (E.2.2 0) 12 := ((GG.1 _ M_314).2.2 (by decide)).trans S_314
  replace M_314 : (314) ∈ w27.1 := (GG.1 _ M_314).1
  replace A_315 : w27.2.1 (315) = a_315 := (GG.1 _ M_315).2.1.trans A_315
  replace S_315 : w27.2.2 (315) = jm_Ia (E.2.2 0) 24 := ((GG.1 _ M_315).2.2 (by decide)).trans S_315
  replace M_315 : (315) ∈ w27.1 := (GG.1 _ M_315).1
  replace A_316 : w27.2.1 (316) = a_316 := (GG.1 _ M_316).2.1.trans A_316
  replace S_316 : w27.2.2 (316) = jm_Ia (E.2.2 0) 12 := ((GG.1 _ M_316).2.2 (by decide)).trans S_316
  replace M_316 : (316) ∈ w27.1 := (GG.1 _ M_316).1
  replace A_317 : w27.2.1 (317) = a_317 := (GG.1 _ M_317).2.1.trans A_317
  replace S_317 : w27.2.2 (317) = jm_Ia (E.2.2 0) 12 := ((GG.1 _ M_317).2.2 (by decide)).trans S_317
  replace M_317 : (317) ∈ w27.1 := (GG.1 _ M_317).1
  replace A_318 : w27.2.1 (318) = a_318 := (GG.1 _ M_318).2.1.trans A_318
  replace S_318 : w27.2.2 (318) = jm_Ia (E.2.2 0) 12 := ((GG.1 _ M_318).2.2 (by decide)).trans S_318
  replace M_318 : (318) ∈ w27.1 := (GG.1 _ M_318).1
  replace N_320 : (320) ∉ w27.1 := fun h => (GG.2 _ h).elim N_320 (fun e => absurd (show (320 : Int) = (319) from e) (by decide))
  replace N_321 : (321) ∉ w27.1 := fun h => (GG.2 _ h).elim N_321 (fun e => absurd (show (321 : Int) = (319) from e) (by decide))
  replace N_322 : (322) ∉ w27.1 := fun h => (GG.2 _ h).elim N_322 (fun e => absurd (show (322 : Int) = (319) from e) (by decide))
  replace N_323 : (323) ∉ w27.1 := fun h => (GG.2 _ h).elim N_323 (fun e => absurd (show (323 : Int) = (319) from e) (by decide))
  replace N_324 : (324) ∉ w27.1 := fun h => (GG.2 _ h).elim N_324 (fun e => absurd (show (324 : Int) = (319) from e) (by decide))
  replace N_325 : (325) ∉ w27.1 := fun h => (GG.2 _ h).elim N_325 (fun e => absurd (show (325 : Int) = (319) from e) (by decide))
  replace N_326 : (326) ∉ w27.1 := fun h => (GG.2 _ h).elim N_326 (fun e => absurd (show (326 : Int) = (319) from e) (by decide))
  replace N_327 : (327) ∉ w27.1 := fun h => (GG.2 _ h).elim N_327 (fun e => absurd (show (327 : Int) = (319) from e) (by decide))
  replace GT : jm_gr w w27 (300) (hk_mn3) := jm_gr_tr GT GG (fun h => absurd h N0_319) (fun z e => e.elim id (fun e => by have e : z = (319) := e; subst e; exact (show hk_mn3 _ from by unfold hk_mn3; decide)))
  have M_319 : (319) ∈ w27.1 := by rw [hw27]; exact jm_ad_m
  have A_319 : w27.2.1 (319) = a_319 := by rw [hw27]; exact jm_ad_a
  have S_319 : w27.2.2 (319) = jm_Ia (E.2.2 0) 12 := by rw [hw27]; exact jm_ad_s
  clear hw27
  refine jm_geni (fun J16 hJ16 => ?_)
  rw [← A_300]
  refine jm_putr (ci := 6) (f := 19) (a := a_319) C hin0 rfl tyX6 tyX6_ok nmX6 jw_u_6 M_300 S_300 (Nat.le_of_ble_eq_true rfl) (by decide) jw_f_RX6_57 rfl rfl (tyX6_ok 19 (by decide)) rfl rfl dX6_init_122 ?_
  try rw [A_300]
  refine jm_gen (fun w28 hw28 => ?_)
  have GG : jm_gr w27 w28 (300) (fun _ => False) := by rw [hw28]; exact jm_gr_sh
  replace A_300 : w28.2.1 (300) = r := (GG.1 _ M_300).2.1.trans A_300
  replace M_300 : (300) ∈ w28.1 := (GG.1 _ M_300).1
  replace A_305 : w28.2.1 (305) = a_305 := (GG.1 _ M_305).2.1.trans A_305
  replace S_305 : w28.2.2 (305) = jm_Ia (E.2.2 0) 1647 := ((GG.1 _ M_305).2.2 (by decide)).trans S_305
  replace M_305 : (305) ∈ w28.1 := (GG.1 _ M_305).1
  replace A_306 : w28.2.1 (306) = a_306 := (GG.1 _ M_306).2.1.trans A_306
  replace S_306 : w28.2.2 (306) = jm_Ia (E.2.2 1) 3 := ((GG.1 _ M_306).2.2 (by decide)).trans S_306
  replace M_306 : (306) ∈ w28.1 := (GG.1 _ M_306).1
  replace A_307 : w28.2.1 (307) = a_307 := (GG.1 _ M_307).2.1.trans A_307
  replace S_307 : w28.2.2 (307) = jm_Ia (E.2.2 0) 3 := ((GG.1 _ M_307).2.2 (by decide)).trans S_307
  replace M_307 : (307) ∈ w28.1 := (GG.1 _ M_307).1
  replace A_309 : w28.2.1 (309) = a_309 := (GG.1 _ M_309).2.1.trans A_309
  replace S_309 : w28.2.2 (309) = jm_Ia (E.2.2 0) 12 := ((GG.1 _ M_309).2.2 (by decide)).trans S_309
  replace M_309 : (309) ∈ w28.1 := (GG.1 _ M_309).1
  replace A_310 : w28.2.1 (310) = a_310 := (GG.1 _ M_310).2.1.trans A_310
  replace S_310 : w28.2.2 (310) = jm_Ia (E.2.2 0) 12 := ((GG.1 _ M_310).2.2 (by decide)).trans S_310
  replace M_310 : (310) ∈ w28.1 := (GG.1 _ M_310).1
  replace A_311 : w28.2.1 (311) = a_311 := (GG.1 _ M_311).2.1.trans A_311
  replace S_311 : w28.2.2 (311) = jm_Ia (E.2.2 0) 12 := ((GG.1 _ M_311).2.2 (by decide)).trans S_311
  replace M_311 : (311) ∈ w28.1 := (GG.1 _ M_311).1
  replace A_312 : w28.2.1 (312) = a_312 := (GG.1 _ M_312).2.1.trans A_312
  replace S_312 : w28.2.2 (312) = jm_Ia (E.2.2 0) 12 := ((GG.1 _ M_312).2.2 (by decide)).trans S_312
  replace M_312 : (312) ∈ w28.1 := (GG.1 _ M_312).1
  replace A_313 : w28.2.1 (313) = a_313 := (GG.1 _ M_313).2.1.trans A_313
  replace S_313 : w28.2.2 (313) = jm_Ia (E.2.2 0) 12 := ((GG.1 _ M_313).2.2 (by decide)).trans S_313
  replace M_313 : (313) ∈ w28.1 := (GG.1 _ M_313).1
  replace A_314 : w28.2.1 (314) = a_314 := (GG.1 _ M_314).2.1.trans A_314
  replace S_314 : w28.2.2 (314) = jm_Ia (E.2.2 0) 12 := ((GG.1 _ M_314).2.2 (by decide)).trans S_314
  replace M_314 : (314) ∈ w28.1 := (GG.1 _ M_314).1
  replace A_315 : w28.2.1 (315) = a_315 := (GG.1 _ M_315).2.1.trans A_315
  replace S_315 : w28.2.2 (315) = jm_Ia (E.2.2 0) 24 := ((GG.1 _ M_315).2.2 (by decide)).trans S_315
  replace M_315 : (315) ∈ w28.1 := (GG.1 _ M_315).1
  replace A_316 : w28.2.1 (316) = a_316 := (GG.1 _ M_316).2.1.trans A_316
  replace S_316 : w28.2.2 (316) = jm_Ia (E.2.2 0) 12 := ((GG.1 _ M_316).2.2 (by decide)).trans S_316
  replace M_316 : (316) ∈ w28.1 := (GG.1 _ M_316).1
  replace A_317 : w28.2.1 (317) = a_317 := (GG.1 _ M_317).2.1.trans A_317
  replace S_317 : w28.2.2 (317) = jm_Ia (E.2.2 0) 12 := ((GG.1 _ M_317).2.2 (by decide)).trans S_317
  replace M_317 : (317) ∈ w28.1 := (GG.1 _ M_317).1
  replace A_318 : w28.2.1 (318) = a_318 := (GG.1 _ M_318).2.1.trans A_318
  replace S_318 : w28.2.2 (318) = jm_Ia (E.2.2 0) 12 := ((GG.1 _ M_318).2.2 (by decide)).trans S_318
  replace M_318 : (318) ∈ w28.1 := (GG.1 _ M_318).1
  replace A_319 : w28.2.1 (319) = a_319 := (GG.1 _ M_319).2.1.trans A_319
  replace S_319 : w28.2.2 (319) = jm_Ia (E.2.2 0) 12 := ((GG.1 _ M_319).2.2 (by decide)).trans S_319
  replace M_319 : (319) ∈ w28.1 := (GG.1 _ M_319).1
  replace N_320 : (320) ∉ w28.1 := fun h => (GG.2 _ h).elim N_320 (fun e => e.elim)
  replace N_321 : (321) ∉ w28.1 := fun h => (GG.2 _ h).elim N_321 (fun e => e.elim)
  replace N_322 : (322) ∉ w28.1 := fun h => (GG.2 _ h).elim N_322 (fun e => e.elim)
  replace N_323 : (323) ∉ w28.1 := fun h => (GG.2 _ h).elim N_323 (fun e => e.elim)
  replace N_324 : (324) ∉ w28.1 := fun h => (GG.2 _ h).elim N_324 (fun e => e.elim)
  replace N_325 : (325) ∉ w28.1 := fun h => (GG.2 _ h).elim N_325 (fun e => e.elim)
  replace N_326 : (326) ∉ w28.1 := fun h => (GG.2 _ h).elim N_326 (fun e => e.elim)
  replace N_327 : (327) ∉ w28.1 := fun h => (GG.2 _ h).elim N_327 (fun e => e.elim)
  replace GT : jm_gr w w28 (300) (hk_mn3) := jm_gr_tr GT GG (fun _ => rfl) (fun z e => e.elim id (fun e => e.elim))
  have S_300 : w28.2.2 (300) = jm_O 6 [none, none, none, none, none, some (.ref a_305), some (.ref a_306), some (.ref a_307), none, some (.ref a_309), some (.ref a_310), some (.ref a_311), some (.ref a_312), some (.ref a_313), some (.ref a_314), some (.ref a_315), some (.ref a_316), some (.ref a_317), some (.ref a_318), some (.ref a_319), some .null, some .null, some .null, some .null, some .null, some .null, some .null, some .null] := by rw [hw28]; exact jm_sh_s
  clear hw28
  refine jm_aload_n C dX6_init_125 rfl ?_
  refine jm_bipush C dX6_init_126 (by decide +kernel) ?_
  refine jm_newa (atype := .int) .int 0 72 (320) (by decide) (by decide) rfl (by decide +kernel) C rfl jw_A_int (by decide) N_320 ⟨Nat.le_of_ble_eq_true rfl, Nat.le_of_ble_eq_true rfl⟩ dX6_init_128 (fun a_320 => ?_)
  refine jm_gen (fun w29 hw29 => ?_)
  have GG : jm_gr w28 w29 (320) (fun z => z = (320)) := by rw [hw29]; exact jm_gr_ad N_320
  replace A_300 : w29.2.1 (300) = r := (GG.1 _ M_300).2.1.trans A_300
  replace S_300 : w29.2.2 (300) = jm_O 6 [none, none, none, none, none, some (.ref a_305), some (.ref a_306), some (.ref a_307), none, some (.ref a_309), some (.ref a_310), some (.ref a_311), some (.ref a_312), some (.ref a_313), some (.ref a_314), some (.ref a_315), some (.ref a_316), some (.ref a_317), some (.ref a_318), some (.ref a_319), some .null, some .null, some .null, some .null, some .null, some .null, some .null, some .null] := ((GG.1 _ M_300).2.2 (by decide)).trans S_300
  replace M_300 : (300) ∈ w29.1 := (GG.1 _ M_300).1
  replace A_305 : w29.2.1 (305) = a_305 := (GG.1 _ M_305).2.1.trans A_305
  replace S_305 : w29.2.2 (305) = jm_Ia (E.2.2 0) 1647 := ((GG.1 _ M_305).2.2 (by decide)).trans S_305
  replace M_305 : (305) ∈ w29.1 := (GG.1 _ M_305).1
  replace A_306 : w29.2.1 (306) = a_306 := (GG.1 _ M_306).2.1.trans A_306
  replace S_306 : w29.2.2 (306) = jm_Ia (E.2.2 1) 3 := ((GG.1 _ M_306).2.2 (by decide)).trans S_306
  replace M_306 : (306) ∈ w29.1 := (GG.1 _ M_306).1
  replace A_307 : w29.2.1 (307) = a_307 := (GG.1 _ M_307).2.1.trans A_307
  replace S_307 : w29.2.2 (307) = jm_Ia (E.2.2 0) 3 := ((GG.1 _ M_307).2.2 (by decide)).trans S_307
  replace M_307 : (307) ∈ w29.1 := (GG.1 _ M_307).1
  replace A_309 : w29.2.1 (309) = a_309 := (GG.1 _ M_309).2.1.trans A_309
  replace S_309 : w29.2.2 (309) = jm_Ia (E.2.2 0) 12 := ((GG.1 _ M_309).2.2 (by decide)).trans S_309
  replace M_309 : (309) ∈ w29.1 := (GG.1 _ M_309).1
  replace A_310 : w29.2.1 (310) = a_310 := (GG.1 _ M_310).2.1.trans A_310
  replace S_310 : w29.2.2 (310) = jm_Ia (E.2.2 0) 12 := ((GG.1 _ M_310).2.2 (by decide)).trans S_310
  replace M_310 : (310) ∈ w29.1 := (GG.1 _ M_310).1
  replace A_311 : w29.2.1 (311) = a_311 := (GG.1 _ M_311).2.1.trans A_311
  replace S_311 : w29.2.2 (311) = jm_Ia (E.2.2 0) 12 := ((GG.1 _ M_311).2.2 (by decide)).trans S_311
  replace M_311 : (311) ∈ w29.1 := (GG.1 _ M_311).1
  replace A_312 : w29.2.1 (312) = a_312 := (GG.1 _ M_312).2.1.trans A_312
  replace S_312 : w29.2.2 (312) = jm_Ia (E.2.2 0) 12 := ((GG.1 _ M_312).2.2 (by decide)).trans S_312
  replace M_312 : (312) ∈ w29.1 := (GG.1 _ M_312).1
  replace A_313 : w29.2.1 (313) = a_313 := (GG.1 _ M_313).2.1.trans A_313
  replace S_313 : w29.2.2 (313) = jm_Ia (E.2.2 0) 12 := ((GG.1 _ M_313).2.2 (by decide)).trans S_313
  replace M_313 : (313) ∈ w29.1 := (GG.1 _ M_313).1
  replace A_314 : w29.2.1 (314) = a_314 := (GG.1 _ M_314).2.1.trans A_314
  replace S_314 : w29.2.2 (314) = jm_Ia (E.2.2 0) 12 := ((GG.1 _ M_314).2.2 (by decide)).trans S_314
  replace M_314 : (314) ∈ w29.1 := (GG.1 _ M_314).1
  replace A_315 : w29.2.1 (315) = a_315 := (GG.1 _ M_315).2.1.trans A_315
  replace S_315 : w29.2.2 (315) = jm_Ia (E.2.2 0) 24 := ((GG.1 _ M_315).2.2 (by decide)).trans S_315
  replace M_315 : (315) ∈ w29.1 := (GG.1 _ M_315).1
  replace A_316 : w29.2.1 (316) = a_316 := (GG.1 _ M_316).2.1.trans A_316
  replace S_316 : w29.2.2 (316) = jm_Ia (E.2.2 0) 12 := ((GG.1 _ M_316).2.2 (by decide)).trans S_316
  replace M_316 : (316) ∈ w29.1 := (GG.1 _ M_316).1
  replace A_317 : w29.2.1 (317) = a_317 := (GG.1 _ M_317).2.1.trans A_317
  replace S_317 : w29.2.2 (317) = jm_Ia (E.2.2 0) 12 := ((GG.1 _ M_317).2.2 (by decide)).trans S_317
  replace M_317 : (317) ∈ w29.1 := (GG.1 _ M_317).1
  replace A_318 : w29.2.1 (318) = a_318 := (GG.1 _ M_318).2.1.trans A_318
  replace S_318 : w29.2.2 (318) = jm_Ia (E.2.2 0) 12 := ((GG.1 _ M_318).2.2 (by decide)).trans S_318
  replace M_318 : (318) ∈ w29.1 := (GG.1 _ M_318).1
  replace A_319 : w29.2.1 (319) = a_319 := (GG.1 _ M_319).2.1.trans A_319
  replace S_319 : w29.2.2 (319) = jm_Ia (E.2.2 0) 12 := ((GG.1 _ M_319).2.2 (by decide)).trans S_319
  replace M_319 : (319) ∈ w29.1 := (GG.1 _ M_319).1
  replace N_321 : (321) ∉ w29.1 := fun h => (GG.2 _ h).elim N_321 (fun e => absurd (show (321 : Int) = (320) from e) (by decide))
  replace N_322 : (322) ∉ w29.1 := fun h => (GG.2 _ h).elim N_322 (fun e => absurd (show (322 : Int) = (320) from e) (by decide))
  replace N_323 : (323) ∉ w29.1 := fun h => (GG.2 _ h).elim N_323 (fun e => absurd (show (323 : Int) = (320) from e) (by decide))
  replace N_324 : (324) ∉ w29.1 := fun h => (GG.2 _ h).elim N_324 (fun e => absurd (show (324 : Int) = (320) from e) (by decide))
  replace N_325 : (325) ∉ w29.1 := fun h => (GG.2 _ h).elim N_325 (fun e => absurd (show (325 : Int) = (320) from e) (by decide))
  replace N_326 : (326) ∉ w29.1 := fun h => (GG.2 _ h).elim N_326 (fun e => absurd (show (326 : Int) = (320) from e) (by decide))
  replace N_327 : (327) ∉ w29.1 := fun h => (GG.2 _ h).elim N_327 (fun e => absurd (show (327 : Int) = (320) from e) (by decide))
  replace GT : jm_gr w w29 (300) (hk_mn3) := jm_gr_tr GT GG (fun h => absurd h N0_320) (fun z e => e.elim id (fun e => by have e : z = (320) := e; subst e; exact (show hk_mn3 _ from by unfold hk_mn3; decide)))
  have M_320 : (320) ∈ w29.1 := by rw [hw29]; exact jm_ad_m
  have A_320 : w29.2.1 (320) = a_320 := by rw [hw29]; exact jm_ad_a
  have S_320 : w29.2.2 (320) = jm_Ia (E.2.2 0) 72 := by rw [hw29]; exact jm_ad_s
  clear hw29
  refine jm_geni (fun J17 hJ17 => ?_)
  rw [← A_300]
  refine jm_putr (ci := 6) (f := 20) (a := a_320) C hin0 rfl tyX6 tyX6_ok nmX6 jw_u_6 M_300 S_300 (Nat.le_of_ble_eq_true rfl) (by decide) jw_f_RX6_60 rfl rfl (tyX6_ok 20 (by decide)) rfl rfl dX6_init_130 ?_
  try rw [A_300]
  refine jm_gen (fun w30 hw30 => ?_)
  have GG : jm_gr w29 w30 (300) (fun _ => False) := by rw [hw30]; exact jm_gr_sh
  replace A_300 : w30.2.1 (300) = r := (GG.1 _ M_300).2.1.trans A_300
  replace M_300 : (300) ∈ w30.1 := (GG.1 _ M_300).1
  replace A_305 : w30.2.1 (305) = a_305 := (GG.1 _ M_305).2.1.trans A_305
  replace S_305 : w30.2.2 (305) = jm_Ia (E.2.2 0) 1647 := ((GG.1 _ M_305).2.2 (by decide)).trans S_305
  replace M_305 : (305) ∈ w30.1 := (GG.1 _ M_305).1
  replace A_306 : w30.2.1 (306) = a_306 := (GG.1 _ M_306).2.1.trans A_306
  replace S_306 : w30.2.2 (306) = jm_Ia (E.2.2 1) 3 := ((GG.1 _ M_306).2.2 (by decide)).trans S_306
  replace M_306 : (306) ∈ w30.1 := (GG.1 _ M_306).1
  replace A_307 : w30.2.1 (307) = a_307 := (GG.1 _ M_307).2.1.trans A_307
  replace S_307 : w30.2.2 (307) = jm_Ia (E.2.2 0) 3 := ((GG.1 _ M_307).2.2 (by decide)).trans S_307
  replace M_307 : (307) ∈ w30.1 := (GG.1 _ M_307).1
  replace A_309 : w30.2.1 (309) = a_309 := (GG.1 _ M_309).2.1.trans A_309
  replace S_309 : w30.2.2 (309) = jm_Ia (E.2.2 0) 12 := ((GG.1 _ M_309).2.2 (by decide)).trans S_309
  replace M_309 : (309) ∈ w30.1 := (GG.1 _ M_309).1
  replace A_310 : w30.2.1 (310) = a_310 := (GG.1 _ M_310).2.1.trans A_310
  replace S_310 : w30.2.2 (310) = jm_Ia (E.2.2 0) 12 := ((GG.1 _ M_310).2.2 (by decide)).trans S_310
  replace M_310 : (310) ∈ w30.1 := (GG.1 _ M_310).1
  replace A_311 : w30.2.1 (311) = a_311 := (GG.1 _ M_311).2.1.trans A_311
  replace S_311 : w30.2.2 (311) = jm_Ia (E.2.2 0) 12 := ((GG.1 _ M_311).2.2 (by decide)).trans S_311
  replace M_311 : (311) ∈ w30.1 := (GG.1 _ M_311).1
  replace A_312 : w30.2.1 (312) = a_312 := (GG.1 _ M_312).2.1.trans A_312
  replace S_312 : w30.2.2 (312) = jm_Ia (E.2.2 0) 12 := ((GG.1 _ M_312).2.2 (by decide)).trans S_312
  replace M_312 : (312) ∈ w30.1 := (GG.1 _ M_312).1
  replace A_313 : w30.2.1 (313) = a_313 := (GG.1 _ M_313).2.1.trans A_313
  replace S_313 : w30.2.2 (313) = jm_Ia (E.2.2 0) 12 := ((GG.1 _ M_313).2.2 (by decide)).trans S_313
  replace M_313 : (313) ∈ w30.1 := (GG.1 _ M_313).1
  replace A_314 : w30.2.1 (314) = a_314 := (GG.1 _ M_314).2.1.trans A_314
  replace S_314 : w30.2.2 (314) = jm_Ia (E.2.2 0) 12 := ((GG.1 _ M_314).2.2 (by decide)).trans S_314
  replace M_314 : (314) ∈ w30.1 := (GG.1 _ M_314).1
  replace A_315 : w30.2.1 (315) = a_315 := (GG.1 _ M_315).2.1.trans A_315
  replace S_315 : w30.2.2 (315) = jm_Ia (E.2.2 0) 24 := ((GG.1 _ M_315).2.2 (by decide)).trans S_315
  replace M_315 : (315) ∈ w30.1 := (GG.1 _ M_315).1
  replace A_316 : w30.2.1 (316) = a_316 := (GG.1 _ M_316).2.1.trans A_316
  replace S_316 : w30.2.2 (316) = jm_Ia (E.2.2 0) 12 := ((GG.1 _ M_316).2.2 (by decide)).trans S_316
  replace M_316 : (316) ∈ w30.1 := (GG.1 _ M_316).1
  replace A_317 : w30.2.1 (317) = a_317 := (GG.1 _ M_317).2.1.trans A_317
  replace S_317 : w30.2.2 (317) = jm_Ia (E.2.2 0) 12 := ((GG.1 _ M_317).2.2 (by decide)).trans S_317
  replace M_317 : (317) ∈ w30.1 := (GG.1 _ M_317).1
  replace A_318 : w30.2.1 (318) = a_318 := (GG.1 _ M_318).2.1.trans A_318
  replace S_318 : w30.2.2 (318) = jm_Ia (E.2.2 0) 12 := ((GG.1 _ M_318).2.2 (by decide)).trans S_318
  replace M_318 : (318) ∈ w30.1 := (GG.1 _ M_318).1
  replace A_319 : w30.2.1 (319) = a_319 := (GG.1 _ M_319).2.1.trans A_319
  replace S_319 : w30.2.2 (319) = jm_Ia (E.2.2 0) 12 := ((GG.1 _ M_319).2.2 (by decide)).trans S_319
  replace M_319 : (319) ∈ w30.1 := (GG.1 _ M_319).1
  replace A_320 : w30.2.1 (320) = a_320 := (GG.1 _ M_320).2.1.trans A_320
  replace S_320 : w30.2.2 (320) = jm_Ia (E.2.2 0) 72 := ((GG.1 _ M_320).2.2 (by decide)).trans S_320
  replace M_320 : (320) ∈ w30.1 := (GG.1 _ M_320).1
  replace N_321 : (321) ∉ w30.1 := fun h => (GG.2 _ h).elim N_321 (fun e => e.elim)
  replace N_322 : (322) ∉ w30.1 := fun h => (GG.2 _ h).elim N_322 (fun e => e.elim)
  replace N_323 : (323) ∉ w30.1 := fun h => (GG.2 _ h).elim N_323 (fun e => e.elim)
  replace N_324 : (324) ∉ w30.1 := fun h => (GG.2 _ h).elim N_324 (fun e => e.elim)
  replace N_325 : (325) ∉ w30.1 := fun h => (GG.2 _ h).elim N_325 (fun e => e.elim)
  replace N_326 : (326) ∉ w30.1 := fun h => (GG.2 _ h).elim N_326 (fun e => e.elim)
  replace N_327 : (327) ∉ w30.1 := fun h => (GG.2 _ h).elim N_327 (fun e => e.elim)
  replace GT : jm_gr w w30 (300) (hk_mn3) := jm_gr_tr GT GG (fun _ => rfl) (fun z e => e.elim id (fun e => e.elim))
  have S_300 : w30.2.2 (300) = jm_O 6 [none, none, none, none, none, some (.ref a_305), some (.ref a_306), some (.ref a_307), none, some (.ref a_309), some (.ref a_310), some (.ref a_311), some (.ref a_312), some (.ref a_313), some (.ref a_314), some (.ref a_315), some (.ref a_316), some (.ref a_317), some (.ref a_318), some (.ref a_319), some (.ref a_320), some .null, some .null, some .null, some .null, some .null, some .null, some .null] := by rw [hw30]; exact jm_sh_s
  clear hw30
  refine jm_aload_n C dX6_init_133 rfl ?_
  refine jm_bipush C dX6_init_134 (by decide +kernel) ?_
  refine jm_newa (atype := .int) .int 0 6 (321) (by decide) (by decide) rfl (by decide +kernel) C rfl jw_A_int (by decide) N_321 ⟨Nat.le_of_ble_eq_true rfl, Nat.le_of_ble_eq_true rfl⟩ dX6_init_136 (fun a_321 => ?_)
  refine jm_gen (fun w31 hw31 => ?_)
  have GG : jm_gr w30 w31 (321) (fun z => z = (321)) := by rw [hw31]; exact jm_gr_ad N_321
  replace A_300 : w31.2.1 (300) = r := (GG.1 _ M_300).2.1.trans A_300
  replace S_300 : w31.2.2 (300) = jm_O 6 [none, none, none, none, none, some (.ref a_305), some (.ref a_306), some (.ref a_307), none, some (.ref a_309), some (.ref a_310), some (.ref a_311), some (.ref a_312), some (.ref a_313), some (.ref a_314), some (.ref a_315), some (.ref a_316), some (.ref a_317), some (.ref a_318), some (.ref a_319), some (.ref a_320), some .null, some .null, some .null, some .null, some .null, some .null, some .null] := ((GG.1 _ M_300).2.2 (by decide)).trans S_300
  replace M_300 : (300) ∈ w31.1 := (GG.1 _ M_300).1
  replace A_305 : w31.2.1 (305) = a_305 := (GG.1 _ M_305).2.1.trans A_305
  replace S_305 : w31.2.2 (305) = jm_Ia (E.2.2 0) 1647 := ((GG.1 _ M_305).2.2 (by decide)).trans S_305
  replace M_305 : (305) ∈ w31.1 := (GG.1 _ M_305).1
  replace A_306 : w31.2.1 (306) = a_306 := (GG.1 _ M_306).2.1.trans A_306
  replace S_306 : w31.2.2 (306) = jm_Ia (E.2.2 1) 3 := ((GG.1 _ M_306).2.2 (by decide)).trans S_306
  replace M_306 : (306) ∈ w31.1 := (GG.1 _ M_306).1
  replace A_307 : w31.2.1 (307) = a_307 := (GG.1 _ M_307).2.1.trans A_307
  replace S_307 : w31.2.2 (307) = jm_Ia (E.2.2 0) 3 := ((GG.1 _ M_307).2.2 (by decide)).trans S_307
  replace M_307 : (307) ∈ w31.1 := (GG.1 _ M_307).1
  replace A_309 : w31.2.1 (309) = a_309 := (GG.1 _ M_309).2.1.trans A_309
  replace S_309 : w31.2.2 (309) = jm_Ia (E.2.2 0) 12 := ((GG.1 _ M_309).2.2 (by decide)).trans S_309
  replace M_309 : (309) ∈ w31.1 := (GG.1 _ M_309).1
  replace A_310 : w31.2.1 (310) = a_310 := (GG.1 _ M_310).2.1.trans A_310
  replace S_310 : w31.2.2 (310) = jm_Ia (E.2.2 0) 12 := ((GG.1 _ M_310).2.2 (by decide)).trans S_310
  replace M_310 : (310) ∈ w31.1 := (GG.1 _ M_310).1
  replace A_311 : w31.2.1 (311) = a_311 := (GG.1 _ M_311).2.1.trans A_311
  replace S_311 : w31.2.2 (311) = jm_Ia (E.2.2 0) 12 := ((GG.1 _ M_311).2.2 (by decide)).trans S_311
  replace M_311 : (311) ∈ w31.1 := (GG.1 _ M_311).1
  replace A_312 : w31.2.1 (312) = a_312 := (GG.1 _ M_312).2.1.trans A_312
  replace S_312 : w31.2.2 (312) = jm_Ia (E.2.2 0) 12 := ((GG.1 _ M_312).2.2 (by decide)).trans S_312
  replace M_312 : (312) ∈ w31.1 := (GG.1 _ M_312).1
  replace A_313 : w31.2.1 (313) = a_313 := (GG.1 _ M_313).2.1.trans A_313
  replace S_313 : w31.2.2 (313) = jm_Ia (E.2.2 0) 12 := ((GG.1 _ M_313).2.2 (by decide)).trans S_313
  replace M_313 : (313) ∈ w31.1 := (GG.1 _ M_313).1
  replace A_314 : w31.2.1 (314) = a_314 := (GG.1 _ M_314).2.1.trans A_314
  replace S_314 : w31.2.2 (314) = jm_Ia (E.2.2 0) 12 := ((GG.1 _ M_314).2.2 (by decide)).trans S_314
  replace M_314 : (314) ∈ w31.1 := (GG.1 _ M_314).1
  replace A_315 : w31.2.1 (315) = a_315 := (GG.1 _ M_315).2.1.trans A_315
  replace S_315 : w31.2.2 (315) = jm_Ia (E.2.2 0) 24 := ((GG.1 _ M_315).2.2 (by decide)).trans S_315
  replace M_315 : (315) ∈ w31.1 := (GG.1 _ M_315).1
  replace A_316 : w31.2.1 (316) = a_316 := (GG.1 _ M_316).2.1.trans A_316
  replace S_316 : w31.2.2 (316) = jm_Ia (E.2.2 0) 12 := ((GG.1 _ M_316).2.2 (by decide)).trans S_316
  replace M_316 : (316) ∈ w31.1 := (GG.1 _ M_316).1
  replace A_317 : w31.2.1 (317) = a_317 := (GG.1 _ M_317).2.1.trans A_317
  replace S_317 : w31.2.2 (317) = jm_Ia (E.2.2 0) 12 := ((GG.1 _ M_317).2.2 (by decide)).trans S_317
  replace M_317 : (317) ∈ w31.1 := (GG.1 _ M_317).1
  replace A_318 : w31.2.1 (318) = a_318 := (GG.1 _ M_318).2.1.trans A_318
  replace S_318 : w31.2.2 (318) = jm_Ia (E.2.2 0) 12 := ((GG.1 _ M_318).2.2 (by decide)).trans S_318
  replace M_318 : (318) ∈ w31.1 := (GG.1 _ M_318).1
  replace A_319 : w31.2.1 (319) = a_319 := (GG.1 _ M_319).2.1.trans A_319
  replace S_319 : w31.2.2 (319) = jm_Ia (E.2.2 0) 12 := ((GG.1 _ M_319).2.2 (by decide)).trans S_319
  replace M_319 : (319) ∈ w31.1 := (GG.1 _ M_319).1
  replace A_320 : w31.2.1 (320) = a_320 := (GG.1 _ M_320).2.1.trans A_320
  replace S_320 : w31.2.2 (320) = jm_Ia (E.2.2 0) 72 := ((GG.1 _ M_320).2.2 (by decide)).trans S_320
  replace M_320 : (320) ∈ w31.1 := (GG.1 _ M_320).1
  replace N_322 : (322) ∉ w31.1 := fun h => (GG.2 _ h).elim N_322 (fun e => absurd (show (322 : Int) = (321) from e) (by decide))
  replace N_323 : (323) ∉ w31.1 := fun h => (GG.2 _ h).elim N_323 (fun e => absurd (show (323 : Int) = (321) from e) (by decide))
  replace N_324 : (324) ∉ w31.1 := fun h => (GG.2 _ h).elim N_324 (fun e => absurd (show (324 : Int) = (321) from e) (by decide))
  replace N_325 : (325) ∉ w31.1 := fun h => (GG.2 _ h).elim N_325 (fun e => absurd (show (325 : Int) = (321) from e) (by decide))
  replace N_326 : (326) ∉ w31.1 := fun h => (GG.2 _ h).elim N_326 (fun e => absurd (show (326 : Int) = (321) from e) (by decide))
  replace N_327 : (327) ∉ w31.1 := fun h => (GG.2 _ h).elim N_327 (fun e => absurd (show (327 : Int) = (321) from e) (by decide))
  replace GT : jm_gr w w31 (300) (hk_mn3) := jm_gr_tr GT GG (fun h => absurd h N0_321) (fun z e => e.elim id (fun e => by have e : z = (321) := e; subst e; exact (show hk_mn3 _ from by unfold hk_mn3; decide)))
  have M_321 : (321) ∈ w31.1 := by rw [hw31]; exact jm_ad_m
  have A_321 : w31.2.1 (321) = a_321 := by rw [hw31]; exact jm_ad_a
  have S_321 : w31.2.2 (321) = jm_Ia (E.2.2 0) 6 := by rw [hw31]; exact jm_ad_s
  clear hw31
  refine jm_geni (fun J18 hJ18 => ?_)
  rw [← A_300]
  refine jm_putr (ci := 6) (f := 21) (a := a_321) C hin0 rfl tyX6 tyX6_ok nmX6 jw_u_6 M_300 S_300 (Nat.le_of_ble_eq_true rfl) (by decide) jw_f_RX6_63 rfl rfl (tyX6_ok 21 (by decide)) rfl rfl dX6_init_138 ?_
  try rw [A_300]
  refine jm_gen (fun w32 hw32 => ?_)
  have GG : jm_gr w31 w32 (300) (fun _ => False) := by rw [hw32]; exact jm_gr_sh
  replace A_300 : w32.2.1 (300) = r := (GG.1 _ M_300).2.1.trans A_300
  replace M_300 : (300) ∈ w32.1 := (GG.1 _ M_300).1
  replace A_305 : w32.2.1 (305) = a_305 := (GG.1 _ M_305).2.1.trans A_305
  replace S_305 : w32.2.2 (305) = jm_Ia (E.2.2 0) 1647 := ((GG.1 _ M_305).2.2 (by decide)).trans S_305
  replace M_305 : (305) ∈ w32.1 := (GG.1 _ M_305).1
  replace A_306 : w32.2.1 (306) = a_306 := (GG.1 _ M_306).2.1.trans A_306
  replace S_306 : w32.2.2 (306) = jm_Ia (E.2.2 1) 3 := ((GG.1 _ M_306).2.2 (by decide)).trans S_306
  replace M_306 : (306) ∈ w32.1 := (GG.1 _ M_306).1
  replace A_307 : w32.2.1 (307) = a_307 := (GG.1 _ M_307).2.1.trans A_307
  replace S_307 : w32.2.2 (307) = jm_Ia (E.2.2 0) 3 := ((GG.1 _ M_307).2.2 (by decide)).trans S_307
  replace M_307 : (307) ∈ w32.1 := (GG.1 _ M_307).1
  replace A_309 : w32.2.1 (309) = a_309 := (GG.1 _ M_309).2.1.trans A_309
  replace S_309 : w32.2.2 (309) = jm_Ia (E.2.2 0) 12 := ((GG.1 _ M_309).2.2 (by decide)).trans S_309
  replace M_309 : (309) ∈ w32.1 := (GG.1 _ M_309).1
  replace A_310 : w32.2.1 (310) = a_310 := (GG.1 _ M_310).2.1.trans A_310
  replace S_310 : w32.2.2 (310) = jm_Ia (E.2.2 0) 12 := ((GG.1 _ M_310).2.2 (by decide)).trans S_310
  replace M_310 : (310) ∈ w32.1 := (GG.1 _ M_310).1
  replace A_311 : w32.2.1 (311) = a_311 := (GG.1 _ M_311).2.1.trans A_311
  replace S_311 : w32.2.2 (311) = jm_Ia (E.2.2 0) 12 := ((GG.1 _ M_311).2.2 (by decide)).trans S_311
  replace M_311 : (311) ∈ w32.1 := (GG.1 _ M_311).1
  replace A_312 : w32.2.1 (312) = a_312 := (GG.1 _ M_312).2.1.trans A_312
  replace S_312 : w32.2.2 (312) = jm_Ia (E.2.2 0) 12 := ((GG.1 _ M_312).2.2 (by decide)).trans S_312
  replace M_312 : (312) ∈ w32.1 := (GG.1 _ M_312).1
  replace A_313 : w32.2.1 (313) = a_313 := (GG.1 _ M_313).2.1.trans A_313
  replace S_313 : w32.2.2 (313) = jm_Ia (E.2.2 0) 12 := ((GG.1 _ M_313).2.2 (by decide)).trans S_313
  replace M_313 : (313) ∈ w32.1 := (GG.1 _ M_313).1
  replace A_314 : w32.2.1 (314) = a_314 := (GG.1 _ M_314).2.1.trans A_314
  replace S_314 : w32.2.2 (314) = jm_Ia (E.2.2 0) 12 := ((GG.1 _ M_314).2.2 (by decide)).trans S_314
  replace M_314 : (314) ∈ w32.1 := (GG.1 _ M_314).1
  replace A_315 : w32.2.1 (315) = a_315 := (GG.1 _ M_315).2.1.trans A_315
  replace S_315 : w32.2.2 (315) = jm_Ia (E.2.2 0) 24 := ((GG.1 _ M_315).2.2 (by decide)).trans S_315
  replace M_315 : (315) ∈ w32.1 := (GG.1 _ M_315).1
  replace A_316 : w32.2.1 (316) = a_316 := (GG.1 _ M_316).2.1.trans A_316
  replace S_316 : w32.2.2 (316) = jm_Ia (E.2.2 0) 12 := ((GG.1 _ M_316).2.2 (by decide)).trans S_316
  replace M_316 : (316) ∈ w32.1 := (GG.1 _ M_316).1
  replace A_317 : w32.2.1 (317) = a_317 := (GG.1 _ M_317).2.1.trans A_317
  replace S_317 : w32.2.2 (317) = jm_Ia (E.2.2 0) 12 := ((GG.1 _ M_317).2.2 (by decide)).trans S_317
  replace M_317 : (317) ∈ w32.1 := (GG.1 _ M_317).1
  replace A_318 : w32.2.1 (318) = a_318 := (GG.1 _ M_318).2.1.trans A_318
  replace S_318 : w32.2.2 (318) = jm_Ia (E.2.2 0) 12 := ((GG.1 _ M_318).2.2 (by decide)).trans S_318
  replace M_318 : (318) ∈ w32.1 := (GG.1 _ M_318).1
  replace A_319 : w32.2.1 (319) = a_319 := (GG.1 _ M_319).2.1.trans A_319
  replace S_319 : w32.2.2 (319) = jm_Ia (E.2.2 0) 12 := ((GG.1 _ M_319).2.2 (by decide)).trans S_319
  replace M_319 : (319) ∈ w32.1 := (GG.1 _ M_319).1
  replace A_320 : w32.2.1 (320) = a_320 := (GG.1 _ M_320).2.1.trans A_320
  replace S_320 : w32.2.2 (320) = jm_Ia (E.2.2 0) 72 := ((GG.1 _ M_320).2.2 (by decide)).trans S_320
  replace M_320 : (320) ∈ w32.1 := (GG.1 _ M_320).1
  replace A_321 : w32.2.1 (321) = a_321 := (GG.1 _ M_321).2.1.trans A_321
  replace S_321 : w32.2.2 (321) = jm_Ia (E.2.2 0) 6 := ((GG.1 _ M_321).2.2 (by decide)).trans S_321
  replace M_321 : (321) ∈ w32.1 := (GG.1 _ M_321).1
  replace N_322 : (322) ∉ w32.1 := fun h => (GG.2 _ h).elim N_322 (fun e => e.elim)
  replace N_323 : (323) ∉ w32.1 := fun h => (GG.2 _ h).elim N_323 (fun e => e.elim)
  replace N_324 : (324) ∉ w32.1 := fun h => (GG.2 _ h).elim N_324 (fun e => e.elim)
  replace N_325 : (325) ∉ w32.1 := fun h => (GG.2 _ h).elim N_325 (fun e => e.elim)
  replace N_326 : (326) ∉ w32.1 := fun h => (GG.2 _ h).elim N_326 (fun e => e.elim)
  replace N_327 : (327) ∉ w32.1 := fun h => (GG.2 _ h).elim N_327 (fun e => e.elim)
  replace GT : jm_gr w w32 (300) (hk_mn3) := jm_gr_tr GT GG (fun _ => rfl) (fun z e => e.elim id (fun e => e.elim))
  have S_300 : w32.2.2 (300) = jm_O 6 [none, none, none, none, none, some (.ref a_305), some (.ref a_306), some (.ref a_307), none, some (.ref a_309), some (.ref a_310), some (.ref a_311), some (.ref a_312), some (.ref a_313), some (.ref a_314), some (.ref a_315), some (.ref a_316), some (.ref a_317), some (.ref a_318), some (.ref a_319), some (.ref a_320), some (.ref a_321), some .null, some .null, some .null, some .null, some .null, some .null] := by rw [hw32]; exact jm_sh_s
  clear hw32
  refine jm_aload_n C dX6_init_141 rfl ?_
  refine jm_bipush C dX6_init_142 (by decide +kernel) ?_
  refine jm_newa (atype := .int) .int 0 6 (322) (by decide) (by decide) rfl (by decide +kernel) C rfl jw_A_int (by decide) N_322 ⟨Nat.le_of_ble_eq_true rfl, Nat.le_of_ble_eq_true rfl⟩ dX6_init_144 (fun a_322 => ?_)
  refine jm_gen (fun w33 hw33 => ?_)
  have GG : jm_gr w32 w33 (322) (fun z => z = (322)) := by rw [hw33]; exact jm_gr_ad N_322
  replace A_300 : w33.2.1 (300) = r := (GG.1 _ M_300).2.1.trans A_300
  replace S_300 : w33.2.2 (300) = jm_O 6 [none, none, none, none, none, some (.ref a_305), some (.ref a_306), some (.ref a_307), none, some (.ref a_309), some (.ref a_310), some (.ref a_311), some (.ref a_312), some (.ref a_313), some (.ref a_314), some (.ref a_315), some (.ref a_316), some (.ref a_317), some (.ref a_318), some (.ref a_319), some (.ref a_320), some (.ref a_321), some .null, some .null, some .null, some .null, some .null, some .null] := ((GG.1 _ M_300).2.2 (by decide)).trans S_300
  replace M_300 : (300) ∈ w33.1 := (GG.1 _ M_300).1
  replace A_305 : w33.2.1 (305) = a_305 := (GG.1 _ M_305).2.1.trans A_305
  replace S_305 : w33.2.2 (305) = jm_Ia (E.2.2 0) 1647 := ((GG.1 _ M_305).2.2 (by decide)).trans S_305
  replace M_305 : (305) ∈ w33.1 := (GG.1 _ M_305).1
  replace A_306 : w33.2.1 (306) = a_306 := (GG.1 _ M_306).2.1.trans A_306
  replace S_306 : w33.2.2 (306) = jm_Ia (E.2.2 1) 3 := ((GG.1 _ M_306).2.2 (by decide)).trans S_306
  replace M_306 : (306) ∈ w33.1 := (GG.1 _ M_306).1
  replace A_307 : w33.2.1 (307) = a_307 := (GG.1 _ M_307).2.1.trans A_307
  replace S_307 : w33.2.2 (307) = jm_Ia (E.2.2 0) 3 := ((GG.1 _ M_307).2.2 (by decide)).trans S_307
  replace M_307 : (307) ∈ w33.1 := (GG.1 _ M_307).1
  replace A_309 : w33.2.1 (309) = a_309 := (GG.1 _ M_309).2.1.trans A_309
  replace S_309 : w33.2.2 (309) = jm_Ia (E.2.2 0) 12 := ((GG.1 _ M_309).2.2 (by decide)).trans S_309
  replace M_309 : (309) ∈ w33.1 := (GG.1 _ M_309).1
  replace A_310 : w33.2.1 (310) = a_310 := (GG.1 _ M_310).2.1.trans A_310
  replace S_310 : w33.2.2 (310) = jm_Ia (E.2.2 0) 12 := ((GG.1 _ M_310).2.2 (by decide)).trans S_310
  replace M_310 : (310) ∈ w33.1 := (GG.1 _ M_310).1
  replace A_311 : w33.2.1 (311) = a_311 := (GG.1 _ M_311).2.1.trans A_311
  replace S_311 : w33.2.2 (311) = jm_Ia (E.2.2 0) 12 := ((GG.1 _ M_311).2.2 (by decide)).trans S_311
  replace M_311 : (311) ∈ w33.1 := (GG.1 _ M_311).1
  replace A_312 : w33.2.1 (312) = a_312 := (GG.1 _ M_312).2.1.trans A_312
  replace S_312 : w33.2.2 (312) = jm_Ia (E.2.2 0) 12 := ((GG.1 _ M_312).2.2 (by decide)).trans S_312
  replace M_312 : (312) ∈ w33.1 := (GG.1 _ M_312).1
  replace A_313 : w33.2.1 (313) = a_313 := (GG.1 _ M_313).2.1.trans A_313
  replace S_313 : w33.2.2 (313) = jm_Ia (E.2.2 0) 12 := ((GG.1 _ M_313).2.2 (by decide)).trans S_313
  replace M_313 : (313) ∈ w33.1 := (GG.1 _ M_313).1
  replace A_314 : w33.2.1 (314) = a_314 := (GG.1 _ M_314).2.1.trans A_314
  replace S_314 : w33.2.2 (314) = jm_Ia (E.2.2 0) 12 := ((GG.1 _ M_314).2.2 (by decide)).trans S_314
  replace M_314 : (314) ∈ w33.1 := (GG.1 _ M_314).1
  replace A_315 : w33.2.1 (315) = a_315 := (GG.1 _ M_315).2.1.trans A_315
  replace S_315 : w33.2.2 (315) = jm_Ia (E.2.2 0) 24 := ((GG.1 _ M_315).2.2 (by decide)).trans S_315
  replace M_315 : (315) ∈ w33.1 := (GG.1 _ M_315).1
  replace A_316 : w33.2.1 (316) = a_316 := (GG.1 _ M_316).2.1.trans A_316
  replace S_316 : w33.2.2 (316) = jm_Ia (E.2.2 0) 12 := ((GG.1 _ M_316).2.2 (by decide)).trans S_316
  replace M_316 : (316) ∈ w33.1 := (GG.1 _ M_316).1
  replace A_317 : w33.2.1 (317) = a_317 := (GG.1 _ M_317).2.1.trans A_317
  replace S_317 : w33.2.2 (317) = jm_Ia (E.2.2 0) 12 := ((GG.1 _ M_317).2.2 (by decide)).trans S_317
  replace M_317 : (317) ∈ w33.1 := (GG.1 _ M_317).1
  replace A_318 : w33.2.1 (318) = a_318 := (GG.1 _ M_318).2.1.trans A_318
  replace S_318 : w33.2.2 (318) = jm_Ia (E.2.2 0) 12 := ((GG.1 _ M_318).2.2 (by decide)).trans S_318
  replace M_318 : (318) ∈ w33.1 := (GG.1 _ M_318).1
  replace A_319 : w33.2.1 (319) = a_319 := (GG.1 _ M_319).2.1.trans A_319
  replace S_319 : w33.2.2 (319) = jm_Ia (E.2.2 0) 12 := ((GG.1 _ M_319).2.2 (by decide)).trans S_319
  replace M_319 : (319) ∈ w33.1 := (GG.1 _ M_319).1
  replace A_320 : w33.2.1 (320) = a_320 := (GG.1 _ M_320).2.1.trans A_320
  replace S_320 : w33.2.2 (320) = jm_Ia (E.2.2 0) 72 := ((GG.1 _ M_320).2.2 (by decide)).trans S_320
  replace M_320 : (320) ∈ w33.1 := (GG.1 _ M_320).1
  replace A_321 : w33.2.1 (321) = a_321 := (GG.1 _ M_321).2.1.trans A_321
  replace S_321 : w33.2.2 (321) = jm_Ia (E.2.2 0) 6 := ((GG.1 _ M_321).2.2 (by decide)).trans S_321
  replace M_321 : (321) ∈ w33.1 := (GG.1 _ M_321).1
  replace N_323 : (323) ∉ w33.1 := fun h => (GG.2 _ h).elim N_323 (fun e => absurd (show (323 : Int) = (322) from e) (by decide))
  replace N_324 : (324) ∉ w33.1 := fun h => (GG.2 _ h).elim N_324 (fun e => absurd (show (324 : Int) = (322) from e) (by decide))
  replace N_325 : (325) ∉ w33.1 := fun h => (GG.2 _ h).elim N_325 (fun e => absurd (show (325 : Int) = (322) from e) (by decide))
  replace N_326 : (326) ∉ w33.1 := fun h => (GG.2 _ h).elim N_326 (fun e => absurd (show (326 : Int) = (322) from e) (by decide))
  replace N_327 : (327) ∉ w33.1 := fun h => (GG.2 _ h).elim N_327 (fun e => absurd (show (327 : Int) = (322) from e) (by decide))
  replace GT : jm_gr w w33 (300) (hk_mn3) := jm_gr_tr GT GG (fun h => absurd h N0_322) (fun z e => e.elim id (fun e => by have e : z = (322) := e; subst e; exact (show hk_mn3 _ from by unfold hk_mn3; decide)))
  have M_322 : (322) ∈ w33.1 := by rw [hw33]; exact jm_ad_m
  have A_322 : w33.2.1 (322) = a_322 := by rw [hw33]; exact jm_ad_a
  have S_322 : w33.2.2 (322) = jm_Ia (E.2.2 0) 6 := by rw [hw33]; exact jm_ad_s
  clear hw33
  refine jm_geni (fun J19 hJ19 => ?_)
  rw [← A_300]
  refine jm_putr (ci := 6) (f := 22) (a := a_322) C hin0 rfl tyX6 tyX6_ok nmX6 jw_u_6 M_300 S_300 (Nat.le_of_ble_eq_true rfl) (by decide) jw_f_RX6_66 rfl rfl (tyX6_ok 22 (by decide)) rfl rfl dX6_init_146 ?_
  try rw [A_300]
  refine jm_gen (fun w34 hw34 => ?_)
  have GG : jm_gr w33 w34 (300) (fun _ => False) := by rw [hw34]; exact jm_gr_sh
  replace A_300 : w34.2.1 (300) = r := (GG.1 _ M_300).2.1.trans A_300
  replace M_300 : (300) ∈ w34.1 := (GG.1 _ M_300).1
  replace A_305 : w34.2.1 (305) = a_305 := (GG.1 _ M_305).2.1.trans A_305
  replace S_305 : w34.2.2 (305) = jm_Ia (E.2.2 0) 1647 := ((GG.1 _ M_305).2.2 (by decide)).trans S_305
  replace M_305 : (305) ∈ w34.1 := (GG.1 _ M_305).1
  replace A_306 : w34.2.1 (306) = a_306 := (GG.1 _ M_306).2.1.trans A_306
  replace S_306 : w34.2.2 (306) = jm_Ia (E.2.2 1) 3 := ((GG.1 _ M_306).2.2 (by decide)).trans S_306
  replace M_306 : (306) ∈ w34.1 := (GG.1 _ M_306).1
  replace A_307 : w34.2.1 (307) = a_307 := (GG.1 _ M_307).2.1.trans A_307
  replace S_307 : w34.2.2 (307) = jm_Ia (E.2.2 0) 3 := ((GG.1 _ M_307).2.2 (by decide)).trans S_307
  replace M_307 : (307) ∈ w34.1 := (GG.1 _ M_307).1
  replace A_309 : w34.2.1 (309) = a_309 := (GG.1 _ M_309).2.1.trans A_309
  replace S_309 : w34.2.2 (309) = jm_Ia (E.2.2 0) 12 := ((GG.1 _ M_309).2.2 (by decide)).trans S_309
  replace M_309 : (309) ∈ w34.1 := (GG.1 _ M_309).1
  replace A_310 : w34.2.1 (310) = a_310 := (GG.1 _ M_310).2.1.trans A_310
  replace S_310 : w34.2.2 (310) = jm_Ia (E.2.2 0) 12 := ((GG.1 _ M_310).2.2 (by decide)).trans S_310
  replace M_310 : (310) ∈ w34.1 := (GG.1 _ M_310).1
  replace A_311 : w34.2.1 (311) = a_311 := (GG.1 _ M_311).2.1.trans A_311
  replace S_311 : w34.2.2 (311) = jm_Ia (E.2.2 0) 12 := ((GG.1 _ M_311).2.2 (by decide)).trans S_311
  replace M_311 : (311) ∈ w34.1 := (GG.1 _ M_311).1
  replace A_312 : w34.2.1 (312) = a_312 := (GG.1 _ M_312).2.1.trans A_312
  replace S_312 : w34.2.2 (312) = jm_Ia (E.2.2 0) 12 := ((GG.1 _ M_312).2.2 (by decide)).trans S_312
  replace M_312 : (312) ∈ w34.1 := (GG.1 _ M_312).1
  replace A_313 : w34.2.1 (313) = a_313 := (GG.1 _ M_313).2.1.trans A_313
  replace S_313 : w34.2.2 (313) = jm_Ia (E.2.2 0) 12 := ((GG.1 _ M_313).2.2 (by decide)).trans S_313
  replace M_313 : (313) ∈ w34.1 := (GG.1 _ M_313).1
  replace A_314 : w34.2.1 (314) = a_314 := (GG.1 _ M_314).2.1.trans A_314
  replace S_314 : w34.2.2 (314) = jm_Ia (E.2.2 0) 12 := ((GG.1 _ M_314).2.2 (by decide)).trans S_314
  replace M_314 : (314) ∈ w34.1 := (GG.1 _ M_314).1
  replace A_315 : w34.2.1 (315) = a_315 := (GG.1 _ M_315).2.1.trans A_315
  replace S_315 : w34.2.2 (315) = jm_Ia (E.2.2 0) 24 := ((GG.1 _ M_315).2.2 (by decide)).trans S_315
  replace M_315 : (315) ∈ w34.1 := (GG.1 _ M_315).1
  replace A_316 : w34.2.1 (316) = a_316 := (GG.1 _ M_316).2.1.trans A_316
  replace S_316 : w34.2.2 (316) = jm_Ia (E.2.2 0) 12 := ((GG.1 _ M_316).2.2 (by decide)).trans S_316
  replace M_316 : (316) ∈ w34.1 := (GG.1 _ M_316).1
  replace A_317 : w34.2.1 (317) = a_317 := (GG.1 _ M_317).2.1.trans A_317
  replace S_317 : w34.2.2 (317) = jm_Ia (E.2.2 0) 12 := ((GG.1 _ M_317).2.2 (by decide)).trans S_317
  replace M_317 : (317) ∈ w34.1 := (GG.1 _ M_317).1
  replace A_318 : w34.2.1 (318) = a_318 := (GG.1 _ M_318).2.1.trans A_318
  replace S_318 : w34.2.2 (318) = jm_Ia (E.2.2 0) 12 := ((GG.1 _ M_318).2.2 (by decide)).trans S_318
  replace M_318 : (318) ∈ w34.1 := (GG.1 _ M_318).1
  replace A_319 : w34.2.1 (319) = a_319 := (GG.1 _ M_319).2.1.trans A_319
  replace S_319 : w34.2.2 (319) = jm_Ia (E.2.2 0) 12 := ((GG.1 _ M_319).2.2 (by decide)).trans S_319
  replace M_319 : (319) ∈ w34.1 := (GG.1 _ M_319).1
  replace A_320 : w34.2.1 (320) = a_320 := (GG.1 _ M_320).2.1.trans A_320
  replace S_320 : w34.2.2 (320) = jm_Ia (E.2.2 0) 72 := ((GG.1 _ M_320).2.2 (by decide)).trans S_320
  replace M_320 : (320) ∈ w34.1 := (GG.1 _ M_320).1
  replace A_321 : w34.2.1 (321) = a_321 := (GG.1 _ M_321).2.1.trans A_321
  replace S_321 : w34.2.2 (321) = jm_Ia (E.2.2 0) 6 := ((GG.1 _ M_321).2.2 (by decide)).trans S_321
  replace M_321 : (321) ∈ w34.1 := (GG.1 _ M_321).1
  replace A_322 : w34.2.1 (322) = a_322 := (GG.1 _ M_322).2.1.trans A_322
  replace S_322 : w34.2.2 (322) = jm_Ia (E.2.2 0) 6 := ((GG.1 _ M_322).2.2 (by decide)).trans S_322
  replace M_322 : (322) ∈ w34.1 := (GG.1 _ M_322).1
  replace N_323 : (323) ∉ w34.1 := fun h => (GG.2 _ h).elim N_323 (fun e => e.elim)
  replace N_324 : (324) ∉ w34.1 := fun h => (GG.2 _ h).elim N_324 (fun e => e.elim)
  replace N_325 : (325) ∉ w34.1 := fun h => (GG.2 _ h).elim N_325 (fun e => e.elim)
  replace N_326 : (326) ∉ w34.1 := fun h => (GG.2 _ h).elim N_326 (fun e => e.elim)
  replace N_327 : (327) ∉ w34.1 := fun h => (GG.2 _ h).elim N_327 (fun e => e.elim)
  replace GT : jm_gr w w34 (300) (hk_mn3) := jm_gr_tr GT GG (fun _ => rfl) (fun z e => e.elim id (fun e => e.elim))
  have S_300 : w34.2.2 (300) = jm_O 6 [none, none, none, none, none, some (.ref a_305), some (.ref a_306), some (.ref a_307), none, some (.ref a_309), some (.ref a_310), some (.ref a_311), some (.ref a_312), some (.ref a_313), some (.ref a_314), some (.ref a_315), some (.ref a_316), some (.ref a_317), some (.ref a_318), some (.ref a_319), some (.ref a_320), some (.ref a_321), some (.ref a_322), some .null, some .null, some .null, some .null, some .null] := by rw [hw34]; exact jm_sh_s
  clear hw34
  refine jm_aload_n C dX6_init_149 rfl ?_
  refine jm_bipush C dX6_init_150 (by decide +kernel) ?_
  refine jm_newa (atype := .int) .int 0 6 (323) (by decide) (by decide) rfl (by decide +kernel) C rfl jw_A_int (by decide) N_323 ⟨Nat.le_of_ble_eq_true rfl, Nat.le_of_ble_eq_true rfl⟩ dX6_init_152 (fun a_323 => ?_)
  refine jm_gen (fun w35 hw35 => ?_)
  have GG : jm_gr w34 w35 (323) (fun z => z = (323)) := by rw [hw35]; exact jm_gr_ad N_323
  replace A_300 : w35.2.1 (300) = r := (GG.1 _ M_300).2.1.trans A_300
  replace S_300 : w35.2.2 (300) = jm_O 6 [none, none, none, none, none, some (.ref a_305), some (.ref a_306), some (.ref a_307), none, some (.ref a_309), some (.ref a_310), some (.ref a_311), some (.ref a_312), some (.ref a_313), some (.ref a_314), some (.ref a_315), some (.ref a_316), some (.ref a_317), some (.ref a_318), some (.ref a_319), some (.ref a_320), some (.ref a_321), some (.ref a_322), some .null, some .null, some .null, some .null, some .null] := ((GG.1 _ M_300).2.2 (by decide)).trans S_300
  replace M_300 : (300) ∈ w35.1 := (GG.1 _ M_300).1
  replace A_305 : w35.2.1 (305) = a_305 := (GG.1 _ M_305).2.1.trans A_305
  replace S_305 : w35.2.2 (305) = jm_Ia (E.2.2 0) 1647 := ((GG.1 _ M_305).2.2 (by decide)).trans S_305
  replace M_305 : (305) ∈ w35.1 := (GG.1 _ M_305).1
  replace A_306 : w35.2.1 (306) = a_306 := (GG.1 _ M_306).2.1.trans A_306
  replace S_306 : w35.2.2 (306) = jm_Ia (E.2.2 1) 3 := ((GG.1 _ M_306).2.2 (by decide)).trans S_306
  replace M_306 : (306) ∈ w35.1 := (GG.1 _ M_306).1
  replace A_307 : w35.2.1 (307) = a_307 := (GG.1 _ M_307).2.1.trans A_307
  replace S_307 : w35.2.2 (307) = jm_Ia (E.2.2 0) 3 := ((GG.1 _ M_307).2.2 (by decide)).trans S_307
  replace M_307 : (307) ∈ w35.1 := (GG.1 _ M_307).1
  replace A_309 : w35.2.1 (309) = a_309 := (GG.1 _ M_309).2.1.trans A_309
  replace S_309 : w35.2.2 (309) = jm_Ia (E.2.2 0) 12 := ((GG.1 _ M_309).2.2 (by decide)).trans S_309
  replace M_309 : (309) ∈ w35.1 := (GG.1 _ M_309).1
  replace A_310 : w35.2.1 (310) = a_310 := (GG.1 _ M_310).2.1.trans A_310
  replace S_310 : w35.2.2 (310) = jm_Ia (E.2.2 0) 12 := ((GG.1 _ M_310).2.2 (by decide)).trans S_310
  replace M_310 : (310) ∈ w35.1 := (GG.1 _ M_310).1
  replace A_311 : w35.2.1 (311) = a_311 := (GG.1 _ M_311).2.1.trans A_311
  replace S_311 : w35.2.2 (311) = jm_Ia (E.2.2 0) 12 := ((GG.1 _ M_311).2.2 (by decide)).trans S_311
  replace M_311 : (311) ∈ w35.1 := (GG.1 _ M_311).1
  replace A_312 : w35.2.1 (312) = a_312 := (GG.1 _ M_312).2.1.trans A_312
  replace S_312 : w35.2.2 (312) = jm_Ia (E.2.2 0) 12 := ((GG.1 _ M_312).2.2 (by decide)).trans S_312
  replace M_312 : (312) ∈ w35.1 := (GG.1 _ M_312).1
  replace A_313 : w35.2.1 (313) = a_313 := (GG.1 _ M_313).2.1.trans A_313
  replace S_313 : w35.2.2 (313) = jm_Ia (E.2.2 0) 12 := ((GG.1 _ M_313).2.2 (by decide)).trans S_313
  replace M_313 : (313) ∈ w35.1 := (GG.1 _ M_313).1
  replace A_314 : w35.2.1 (314) = a_314 := (GG.1 _ M_314).2.1.trans A_314
  replace S_314 : w35.2.2 (314) = jm_Ia (E.2.2 0) 12 := ((GG.1 _ M_314).2.2 (by decide)).trans S_314
  replace M_314 : (314) ∈ w35.1 := (GG.1 _ M_314).1
  replace A_315 : w35.2.1 (315) = a_315 := (GG.1 _ M_315).2.1.trans A_315
  replace S_315 : w35.2.2 (315) = jm_Ia (E.2.2 0) 24 := ((GG.1 _ M_315).2.2 (by decide)).trans S_315
  replace M_315 : (315) ∈ w35.1 := (GG.1 _ M_315).1
  replace A_316 : w35.2.1 (316) = a_316 := (GG.1 _ M_316).2.1.trans A_316
  replace S_316 : w35.2.2 (316) = jm_Ia (E.2.2 0) 12 := ((GG.1 _ M_316).2.2 (by decide)).trans S_316
  replace M_316 : (316) ∈ w35.1 := (GG.1 _ M_316).1
  replace A_317 : w35.2.1 (317) = a_317 := (GG.1 _ M_317).2.1.trans A_317
  replace S_317 : w35.2.2 (317) = jm_Ia (E.2.2 0) 12 := ((GG.1 _ M_317).2.2 (by decide)).trans S_317
  replace M_317 : (317) ∈ w35.1 := (GG.1 _ M_317).1
  replace A_318 : w35.2.1 (318) = a_318 := (GG.1 _ M_318).2.1.trans A_318
  replace S_318 : w35.2.2 (318) = jm_Ia (E.2.2 0) 12 := ((GG.1 _ M_318).2.2 (by decide)).trans S_318
  replace M_318 : (318) ∈ w35.1 := (GG.1 _ M_318).1
  replace A_319 : w35.2.1 (319) = a_319 := (GG.1 _ M_319).2.1.trans A_319
  replace S_319 : w35.2.2 (319) = jm_Ia (E.2.2 0) 12 := ((GG.1 _ M_319).2.2 (by decide)).trans S_319
  replace M_319 : (319) ∈ w35.1 := (GG.1 _ M_319).1
  replace A_320 : w35.2.1 (320) = a_320 := (GG.1 _ M_320).2.1.trans A_320
  replace S_320 : w35.2.2 (320) = jm_Ia (E.2.2 0) 72 := ((GG.1 _ M_320).2.2 (by decide)).trans S_320
  replace M_320 : (320) ∈ w35.1 := (GG.1 _ M_320).1
  replace A_321 : w35.2.1 (321) = a_321 := (GG.1 _ M_321).2.1.trans A_321
  replace S_321 : w35.2.2 (321) = jm_Ia (E.2.2 0) 6 := ((GG.1 _ M_321).2.2 (by decide)).trans S_321
  replace M_321 : (321) ∈ w35.1 := (GG.1 _ M_321).1
  replace A_322 : w35.2.1 (322) = a_322 := (GG.1 _ M_322).2.1.trans A_322
  replace S_322 : w35.2.2 (322) = jm_Ia (E.2.2 0) 6 := ((GG.1 _ M_322).2.2 (by decide)).trans S_322
  replace M_322 : (322) ∈ w35.1 := (GG.1 _ M_322).1
  replace N_324 : (324) ∉ w35.1 := fun h => (GG.2 _ h).elim N_324 (fun e => absurd (show (324 : Int) = (323) from e) (by decide))
  replace N_325 : (325) ∉ w35.1 := fun h => (GG.2 _ h).elim N_325 (fun e => absurd (show (325 : Int) = (323) from e) (by decide))
  replace N_326 : (326) ∉ w35.1 := fun h => (GG.2 _ h).elim N_326 (fun e => absurd (show (326 : Int) = (323) from e) (by decide))
  replace N_327 : (327) ∉ w35.1 := fun h => (GG.2 _ h).elim N_327 (fun e => absurd (show (327 : Int) = (323) from e) (by decide))
  replace GT : jm_gr w w35 (300) (hk_mn3) := jm_gr_tr GT GG (fun h => absurd h N0_323) (fun z e => e.elim id (fun e => by have e : z = (323) := e; subst e; exact (show hk_mn3 _ from by unfold hk_mn3; decide)))
  have M_323 : (323) ∈ w35.1 := by rw [hw35]; exact jm_ad_m
  have A_323 : w35.2.1 (323) = a_323 := by rw [hw35]; exact jm_ad_a
  have S_323 : w35.2.2 (323) = jm_Ia (E.2.2 0) 6 := by rw [hw35]; exact jm_ad_s
  clear hw35
  refine jm_geni (fun J20 hJ20 => ?_)
  rw [← A_300]
  refine jm_putr (ci := 6) (f := 23) (a := a_323) C hin0 rfl tyX6 tyX6_ok nmX6 jw_u_6 M_300 S_300 (Nat.le_of_ble_eq_true rfl) (by decide) jw_f_RX6_69 rfl rfl (tyX6_ok 23 (by decide)) rfl rfl dX6_init_154 ?_
  try rw [A_300]
  refine jm_gen (fun w36 hw36 => ?_)
  have GG : jm_gr w35 w36 (300) (fun _ => False) := by rw [hw36]; exact jm_gr_sh
  replace A_300 : w36.2.1 (300) = r := (GG.1 _ M_300).2.1.trans A_300
  replace M_300 : (300) ∈ w36.1 := (GG.1 _ M_300).1
  replace A_305 : w36.2.1 (305) = a_305 := (GG.1 _ M_305).2.1.trans A_305
  replace S_305 : w36.2.2 (305) = jm_Ia (E.2.2 0) 1647 := ((GG.1 _ M_305).2.2 (by decide)).trans S_305
  replace M_305 : (305) ∈ w36.1 := (GG.1 _ M_305).1
  replace A_306 : w36.2.1 (306) = a_306 := (GG.1 _ M_306).2.1.trans A_306
  replace S_306 : w36.2.2 (306) = jm_Ia (E.2.2 1) 3 := ((GG.1 _ M_306).2.2 (by decide)).trans S_306
  replace M_306 : (306) ∈ w36.1 := (GG.1 _ M_306).1
  replace A_307 : w36.2.1 (307) = a_307 := (GG.1 _ M_307).2.1.trans A_307
  replace S_307 : w36.2.2 (307) = jm_Ia (E.2.2 0) 3 := ((GG.1 _ M_307).2.2 (by decide)).trans S_307
  replace M_307 : (307) ∈ w36.1 := (GG.1 _ M_307).1
  replace A_309 : w36.2.1 (309) = a_309 := (GG.1 _ M_309).2.1.trans A_309
  replace S_309 : w36.2.2 (309) = jm_Ia (E.2.2 0) 12 := ((GG.1 _ M_309).2.2 (by decide)).trans S_309
  replace M_309 : (309) ∈ w36.1 := (GG.1 _ M_309).1
  replace A_310 : w36.2.1 (310) = a_310 := (GG.1 _ M_310).2.1.trans A_310
  replace S_310 : w36.2.2 (310) = jm_Ia (E.2.2 0) 12 := ((GG.1 _ M_310).2.2 (by decide)).trans S_310
  replace M_310 : (310) ∈ w36.1 := (GG.1 _ M_310).1
  replace A_311 : w36.2.1 (311) = a_311 := (GG.1 _ M_311).2.1.trans A_311
  replace S_311 : w36.2.2 (311) = jm_Ia (E.2.2 0) 12 := ((GG.1 _ M_311).2.2 (by decide)).trans S_311
  replace M_311 : (311) ∈ w36.1 := (GG.1 _ M_311).1
  replace A_312 : w36.2.1 (312) = a_312 := (GG.1 _ M_312).2.1.trans A_312
  replace S_312 : w36.2.2 (312) = jm_Ia (E.2.2 0) 12 := ((GG.1 _ M_312).2.2 (by decide)).trans S_312
  replace M_312 : (312) ∈ w36.1 := (GG.1 _ M_312).1
  replace A_313 : w36.2.1 (313) = a_313 := (GG.1 _ M_313).2.1.trans A_313
  replace S_313 : w36.2.2 (313) = jm_Ia (E.2.2 0) 12 := ((GG.1 _ M_313).2.2 (by decide)).trans S_313
  replace M_313 : (313) ∈ w36.1 := (GG.1 _ M_313).1
  replace A_314 : w36.2.1 (314) = a_314 := (GG.1 _ M_314).2.1.trans A_314
  replace S_314 : w36.2.2 (314) = jm_Ia (E.2.2 0) 12 := ((GG.1 _ M_314).2.2 (by decide)).trans S_314
  replace M_314 : (314) ∈ w36.1 := (GG.1 _ M_314).1
  replace A_315 : w36.2.1 (315) = a_315 := (GG.1 _ M_315).2.1.trans A_315
  replace S_315 : w36.2.2 (315) = jm_Ia (E.2.2 0) 24 := ((GG.1 _ M_315).2.2 (by decide)).trans S_315
  replace M_315 : (315) ∈ w36.1 := (GG.1 _ M_315).1
  replace A_316 : w36.2.1 (316) = a_316 := (GG.1 _ M_316).2.1.trans A_316
  replace S_316 : w36.2.2 (316) = jm_Ia (E.2.2 0) 12 := ((GG.1 _ M_316).2.2 (by decide)).trans S_316
  replace M_316 : (316) ∈ w36.1 := (GG.1 _ M_316).1
  replace A_317 : w36.2.1 (317) = a_317 := (GG.1 _ M_317).2.1.trans A_317
  replace S_317 : w36.2.2 (317) = jm_Ia (E.2.2 0) 12 := ((GG.1 _ M_317).2.2 (by decide)).trans S_317
  replace M_317 : (317) ∈ w36.1 := (GG.1 _ M_317).1
  replace A_318 : w36.2.1 (318) = a_318 := (GG.1 _ M_318).2.1.trans A_318
  replace S_318 : w36.2.2 (318) = jm_Ia (E.2.2 0) 12 := ((GG.1 _ M_318).2.2 (by decide)).trans S_318
  replace M_318 : (318) ∈ w36.1 := (GG.1 _ M_318).1
  replace A_319 : w36.2.1 (319) = a_319 := (GG.1 _ M_319).2.1.trans A_319
  replace S_319 : w36.2.2 (319) = jm_Ia (E.2.2 0) 12 := ((GG.1 _ M_319).2.2 (by decide)).trans S_319
  replace M_319 : (319) ∈ w36.1 := (GG.1 _ M_319).1
  replace A_320 : w36.2.1 (320) = a_320 := (GG.1 _ M_320).2.1.trans A_320
  replace S_320 : w36.2.2 (320) = jm_Ia (E.2.2 0) 72 := ((GG.1 _ M_320).2.2 (by decide)).trans S_320
  replace M_320 : (320) ∈ w36.1 := (GG.1 _ M_320).1
  replace A_321 : w36.2.1 (321) = a_321 := (GG.1 _ M_321).2.1.trans A_321
  replace S_321 : w36.2.2 (321) = jm_Ia (E.2.2 0) 6 := ((GG.1 _ M_321).2.2 (by decide)).trans S_321
  replace M_321 : (321) ∈ w36.1 := (GG.1 _ M_321).1
  replace A_322 : w36.2.1 (322) = a_322 := (GG.1 _ M_322).2.1.trans A_322
  replace S_322 : w36.2.2 (322) = jm_Ia (E.2.2 0) 6 := ((GG.1 _ M_322).2.2 (by decide)).trans S_322
  replace M_322 : (322) ∈ w36.1 := (GG.1 _ M_322).1
  replace A_323 : w36.2.1 (323) = a_323 := (GG.1 _ M_323).2.1.trans A_323
  replace S_323 : w36.2.2 (323) = jm_Ia (E.2.2 0) 6 := ((GG.1 _ M_323).2.2 (by decide)).trans S_323
  replace M_323 : (323) ∈ w36.1 := (GG.1 _ M_323).1
  replace N_324 : (324) ∉ w36.1 := fun h => (GG.2 _ h).elim N_324 (fun e => e.elim)
  replace N_325 : (325) ∉ w36.1 := fun h => (GG.2 _ h).elim N_325 (fun e => e.elim)
  replace N_326 : (326) ∉ w36.1 := fun h => (GG.2 _ h).elim N_326 (fun e => e.elim)
  replace N_327 : (327) ∉ w36.1 := fun h => (GG.2 _ h).elim N_327 (fun e => e.elim)
  replace GT : jm_gr w w36 (300) (hk_mn3) := jm_gr_tr GT GG (fun _ => rfl) (fun z e => e.elim id (fun e => e.elim))
  have S_300 : w36.2.2 (300) = jm_O 6 [none, none, none, none, none, some (.ref a_305), some (.ref a_306), some (.ref a_307), none, some (.ref a_309), some (.ref a_310), some (.ref a_311), some (.ref a_312), some (.ref a_313), some (.ref a_314), some (.ref a_315), some (.ref a_316), some (.ref a_317), some (.ref a_318), some (.ref a_319), some (.ref a_320), some (.ref a_321), some (.ref a_322), some (.ref a_323), some .null, some .null, some .null, some .null] := by rw [hw36]; exact jm_sh_s
  clear hw36
  refine jm_aload_n C dX6_init_157 rfl ?_
  refine jm_sipush C dX6_init_158 (by decide +kernel) ?_
  refine jm_newa (atype := .int) .int 0 549 (324) (by decide) (by decide) rfl (by decide +kernel) C rfl jw_A_int (by decide) N_324 ⟨Nat.le_of_ble_eq_true rfl, Nat.le_of_ble_eq_true rfl⟩ dX6_init_161 (fun a_324 => ?_)
  refine jm_gen (fun w37 hw37 => ?_)
  have GG : jm_gr w36 w37 (324) (fun z => z = (324)) := by rw [hw37]; exact jm_gr_ad N_324
  replace A_300 : w37.2.1 (300) = r := (GG.1 _ M_300).2.1.trans A_300
  replace S_300 : w37.2.2 (300) = jm_O 6 [none, none, none, none, none, some (.ref a_305), some (.ref a_306), some (.ref a_307), none, some (.ref a_309), some (.ref a_310), some (.ref a_311), some (.ref a_312), some (.ref a_313), some (.ref a_314), some (.ref a_315), some (.ref a_316), some (.ref a_317), some (.ref a_318), some (.ref a_319), some (.ref a_320), some (.ref a_321), some (.ref a_322), some (.ref a_323), some .null, some .null, some .null, some .null] := ((GG.1 _ M_300).2.2 (by decide)).trans S_300
  replace M_300 : (300) ∈ w37.1 := (GG.1 _ M_300).1
  replace A_305 : w37.2.1 (305) = a_305 := (GG.1 _ M_305).2.1.trans A_305
  replace S_305 : w37.2.2 (305) = jm_Ia (E.2.2 0) 1647 := ((GG.1 _ M_305).2.2 (by decide)).trans S_305
  replace M_305 : (305) ∈ w37.1 := (GG.1 _ M_305).1
  replace A_306 : w37.2.1 (306) = a_306 := (GG.1 _ M_306).2.1.trans A_306
  replace S_306 : w37.2.2 (306) = jm_Ia (E.2.2 1) 3 := ((GG.1 _ M_306).2.2 (by decide)).trans S_306
  replace M_306 : (306) ∈ w37.1 := (GG.1 _ M_306).1
  replace A_307 : w37.2.1 (307) = a_307 := (GG.1 _ M_307).2.1.trans A_307
  replace S_307 : w37.2.2 (307) = jm_Ia (E.2.2 0) 3 := ((GG.1 _ M_307).2.2 (by decide)).trans S_307
  replace M_307 : (307) ∈ w37.1 := (GG.1 _ M_307).1
  replace A_309 : w37.2.1 (309) = a_309 := (GG.1 _ M_309).2.1.trans A_309
  replace S_309 : w37.2.2 (309) = jm_Ia (E.2.2 0) 12 := ((GG.1 _ M_309).2.2 (by decide)).trans S_309
  replace M_309 : (309) ∈ w37.1 := (GG.1 _ M_309).1
  replace A_310 : w37.2.1 (310) = a_310 := (GG.1 _ M_310).2.1.trans A_310
  replace S_310 : w37.2.2 (310) = jm_Ia (E.2.2 0) 12 := ((GG.1 _ M_310).2.2 (by decide)).trans S_310
  replace M_310 : (310) ∈ w37.1 := (GG.1 _ M_310).1
  replace A_311 : w37.2.1 (311) = a_311 := (GG.1 _ M_311).2.1.trans A_311
  replace S_311 : w37.2.2 (311) = jm_Ia (E.2.2 0) 12 := ((GG.1 _ M_311).2.2 (by decide)).trans S_311
  replace M_311 : (311) ∈ w37.1 := (GG.1 _ M_311).1
  replace A_312 : w37.2.1 (312) = a_312 := (GG.1 _ M_312).2.1.trans A_312
  replace S_312 : w37.2.2 (312) = jm_Ia (E.2.2 0) 12 := ((GG.1 _ M_312).2.2 (by decide)).trans S_312
  replace M_312 : (312) ∈ w37.1 := (GG.1 _ M_312).1
  replace A_313 : w37.2.1 (313) = a_313 := (GG.1 _ M_313).2.1.trans A_313
  replace S_313 : w37.2.2 (313) = jm_Ia (E.2.2 0) 12 := ((GG.1 _ M_313).2.2 (by decide)).trans S_313
  replace M_313 : (313) ∈ w37.1 := (GG.1 _ M_313).1
  replace A_314 : w37.2.1 (314) = a_314 := (GG.1 _ M_314).2.1.trans A_314
  replace S_314 : w37.2.2 (314) = jm_Ia (E.2.2 0) 12 := ((GG.1 _ M_314).2.2 (by decide)).trans S_314
  replace M_314 : (314) ∈ w37.1 := (GG.1 _ M_314).1
  replace A_315 : w37.2.1 (315) = a_315 := (GG.1 _ M_315).2.1.trans A_315
  replace S_315 : w37.2.2 (315) = jm_Ia (E.2.2 0) 24 := ((GG.1 _ M_315).2.2 (by decide)).trans S_315
  replace M_315 : (315) ∈ w37.1 := (GG.1 _ M_315).1
  replace A_316 : w37.2.1 (316) = a_316 := (GG.1 _ M_316).2.1.trans A_316
  replace S_316 : w37.2.2 (316) = jm_Ia (E.2.2 0) 12 := ((GG.1 _ M_316).2.2 (by decide)).trans S_316
  replace M_316 : (316) ∈ w37.1 := (GG.1 _ M_316).1
  replace A_317 : w37.2.1 (317) = a_317 := (GG.1 _ M_317).2.1.trans A_317
  replace S_317 : w37.2.2 (317) = jm_Ia (E.2.2 0) 12 := ((GG.1 _ M_317).2.2 (by decide)).trans S_317
  replace M_317 : (317) ∈ w37.1 := (GG.1 _ M_317).1
  replace A_318 : w37.2.1 (318) = a_318 := (GG.1 _ M_318).2.1.trans A_318
  replace S_318 : w37.2.2 (318) = jm_Ia (E.2.2 0) 12 := ((GG.1 _ M_318).2.2 (by decide)).trans S_318
  replace M_318 : (318) ∈ w37.1 := (GG.1 _ M_318).1
  replace A_319 : w37.2.1 (319) = a_319 := (GG.1 _ M_319).2.1.trans A_319
  replace S_319 : w37.2.2 (319) = jm_Ia (E.2.2 0) 12 := ((GG.1 _ M_319).2.2 (by decide)).trans S_319
  replace M_319 : (319) ∈ w37.1 := (GG.1 _ M_319).1
  replace A_320 : w37.2.1 (320) = a_320 := (GG.1 _ M_320).2.1.trans A_320
  replace S_320 : w37.2.2 (320) = jm_Ia (E.2.2 0) 72 := ((GG.1 _ M_320).2.2 (by decide)).trans S_320
  replace M_320 : (320) ∈ w37.1 := (GG.1 _ M_320).1
  replace A_321 : w37.2.1 (321) = a_321 := (GG.1 _ M_321).2.1.trans A_321
  replace S_321 : w37.2.2 (321) = jm_Ia (E.2.2 0) 6 := ((GG.1 _ M_321).2.2 (by decide)).trans S_321
  replace M_321 : (321) ∈ w37.1 := (GG.1 _ M_321).1
  replace A_322 : w37.2.1 (322) = a_322 := (GG.1 _ M_322).2.1.trans A_322
  replace S_322 : w37.2.2 (322) = jm_Ia (E.2.2 0) 6 := ((GG.1 _ M_322).2.2 (by decide)).trans S_322
  replace M_322 : (322) ∈ w37.1 := (GG.1 _ M_322).1
  replace A_323 : w37.2.1 (323) = a_323 := (GG.1 _ M_323).2.1.trans A_323
  replace S_323 : w37.2.2 (323) = jm_Ia (E.2.2 0) 6 := ((GG.1 _ M_323).2.2 (by decide)).trans S_323
  replace M_323 : (323) ∈ w37.1 := (GG.1 _ M_323).1
  replace N_325 : (325) ∉ w37.1 := fun h => (GG.2 _ h).elim N_325 (fun e => absurd (show (325 : Int) = (324) from e) (by decide))
  replace N_326 : (326) ∉ w37.1 := fun h => (GG.2 _ h).elim N_326 (fun e => absurd (show (326 : Int) = (324) from e) (by decide))
  replace N_327 : (327) ∉ w37.1 := fun h => (GG.2 _ h).elim N_327 (fun e => absurd (show (327 : Int) = (324) from e) (by decide))
  replace GT : jm_gr w w37 (300) (hk_mn3) := jm_gr_tr GT GG (fun h => absurd h N0_324) (fun z e => e.elim id (fun e => by have e : z = (324) := e; subst e; exact (show hk_mn3 _ from by unfold hk_mn3; decide)))
  have M_324 : (324) ∈ w37.1 := by rw [hw37]; exact jm_ad_m
  have A_324 : w37.2.1 (324) = a_324 := by rw [hw37]; exact jm_ad_a
  have S_324 : w37.2.2 (324) = jm_Ia (E.2.2 0) 549 := by rw [hw37]; exact jm_ad_s
  clear hw37
  refine jm_geni (fun J21 hJ21 => ?_)
  rw [← A_300]
  refine jm_putr (ci := 6) (f := 24) (a := a_324) C hin0 rfl tyX6 tyX6_ok nmX6 jw_u_6 M_300 S_300 (Nat.le_of_ble_eq_true rfl) (by decide) jw_f_RX6_72 rfl rfl (tyX6_ok 24 (by decide)) rfl rfl dX6_init_163 ?_
  try rw [A_300]
  refine jm_gen (fun w38 hw38 => ?_)
  have GG : jm_gr w37 w38 (300) (fun _ => False) := by rw [hw38]; exact jm_gr_sh
  replace A_300 : w38.2.1 (300) = r := (GG.1 _ M_300).2.1.trans A_300
  replace M_300 : (300) ∈ w38.1 := (GG.1 _ M_300).1
  replace A_305 : w38.2.1 (305) = a_305 := (GG.1 _ M_305).2.1.trans A_305
  replace S_305 : w38.2.2 (305) = jm_Ia (E.2.2 0) 1647 := ((GG.1 _ M_305).2.2 (by decide)).trans S_305
  replace M_305 : (305) ∈ w38.1 := (GG.1 _ M_305).1
  replace A_306 : w38.2.1 (306) = a_306 := (GG.1 _ M_306).2.1.trans A_306
  replace S_306 : w38.2.2 (306) = jm_Ia (E.2.2 1) 3 := ((GG.1 _ M_306).2.2 (by decide)).trans S_306
  replace M_306 : (306) ∈ w38.1 := (GG.1 _ M_306).1
  replace A_307 : w38.2.1 (307) = a_307 := (GG.1 _ M_307).2.1.trans A_307
  replace S_307 : w38.2.2 (307) = jm_Ia (E.2.2 0) 3 := ((GG.1 _ M_307).2.2 (by decide)).trans S_307
  replace M_307 : (307) ∈ w38.1 := (GG.1 _ M_307).1
  replace A_309 : w38.2.1 (309) = a_309 := (GG.1 _ M_309).2.1.trans A_309
  replace S_309 : w38.2.2 (309) = jm_Ia (E.2.2 0) 12 := ((GG.1 _ M_309).2.2 (by decide)).trans S_309
  replace M_309 : (309) ∈ w38.1 := (GG.1 _ M_309).1
  replace A_310 : w38.2.1 (310) = a_310 := (GG.1 _ M_310).2.1.trans A_310
  replace S_310 : w38.2.2 (310) = jm_Ia (E.2.2 0) 12 := ((GG.1 _ M_310).2.2 (by decide)).trans S_310
  replace M_310 : (310) ∈ w38.1 := (GG.1 _ M_310).1
  replace A_311 : w38.2.1 (311) = a_311 := (GG.1 _ M_311).2.1.trans A_311
  replace S_311 : w38.2.2 (311) = jm_Ia (E.2.2 0) 12 := ((GG.1 _ M_311).2.2 (by decide)).trans S_311
  replace M_311 : (311) ∈ w38.1 := (GG.1 _ M_311).1
  replace A_312 : w38.2.1 (312) = a_312 := (GG.1 _ M_312).2.1.trans A_312
  replace S_312 : w38.2.2 (312) = jm_Ia (E.2.2 0) 12 := ((GG.1 _ M_312).2.2 (by decide)).trans S_312
  replace M_312 : (312) ∈ w38.1 := (GG.1 _ M_312).1
  replace A_313 : w38.2.1 (313) = a_313 := (GG.1 _ M_313).2.1.trans A_313
  replace S_313 : w38.2.2 (313) = jm_Ia (E.2.2 0) 12 := ((GG.1 _ M_313).2.2 (by decide)).trans S_313
  replace M_313 : (313) ∈ w38.1 := (GG.1 _ M_313).1
  replace A_314 : w38.2.1 (314) = a_314 := (GG.1 _ M_314).2.1.trans A_314
  replace S_314 : w38.2.2 (314) = jm_Ia (E.2.2 0) 12 := ((GG.1 _ M_314).2.2 (by decide)).trans S_314
  replace M_314 : (314) ∈ w38.1 := (GG.1 _ M_314).1
  replace A_315 : w38.2.1 (315) = a_315 := (GG.1 _ M_315).2.1.trans A_315
  replace S_315 : w38.2.2 (315) = jm_Ia (E.2.2 0) 24 := ((GG.1 _ M_315).2.2 (by decide)).trans S_315
  replace M_315 : (315) ∈ w38.1 := (GG.1 _ M_315).1
  replace A_316 : w38.2.1 (316) = a_316 := (GG.1 _ M_316).2.1.trans A_316
  replace S_316 : w38.2.2 (316) = jm_Ia (E.2.2 0) 12 := ((GG.1 _ M_316).2.2 (by decide)).trans S_316
  replace M_316 : (316) ∈ w38.1 := (GG.1 _ M_316).1
  replace A_317 : w38.2.1 (317) = a_317 := (GG.1 _ M_317).2.1.trans A_317
  replace S_317 : w38.2.2 (317) = jm_Ia (E.2.2 0) 12 := ((GG.1 _ M_317).2.2 (by decide)).trans S_317
  replace M_317 : (317) ∈ w38.1 := (GG.1 _ M_317).1
  replace A_318 : w38.2.1 (318) = a_318 := (GG.1 _ M_318).2.1.trans A_318
  replace S_318 : w38.2.2 (318) = jm_Ia (E.2.2 0) 12 := ((GG.1 _ M_318).2.2 (by decide)).trans S_318
  replace M_318 : (318) ∈ w38.1 := (GG.1 _ M_318).1
  replace A_319 : w38.2.1 (319) = a_319 := (GG.1 _ M_319).2.1.trans A_319
  replace S_319 : w38.2.2 (319) = jm_Ia (E.2.2 0) 12 := ((GG.1 _ M_319).2.2 (by decide)).trans S_319
  replace M_319 : (319) ∈ w38.1 := (GG.1 _ M_319).1
  replace A_320 : w38.2.1 (320) = a_320 := (GG.1 _ M_320).2.1.trans A_320
  replace S_320 : w38.2.2 (320) = jm_Ia (E.2.2 0) 72 := ((GG.1 _ M_320).2.2 (by decide)).trans S_320
  replace M_320 : (320) ∈ w38.1 := (GG.1 _ M_320).1
  replace A_321 : w38.2.1 (321) = a_321 := (GG.1 _ M_321).2.1.trans A_321
  replace S_321 : w38.2.2 (321) = jm_Ia (E.2.2 0) 6 := ((GG.1 _ M_321).2.2 (by decide)).trans S_321
  replace M_321 : (321) ∈ w38.1 := (GG.1 _ M_321).1
  replace A_322 : w38.2.1 (322) = a_322 := (GG.1 _ M_322).2.1.trans A_322
  replace S_322 : w38.2.2 (322) = jm_Ia (E.2.2 0) 6 := ((GG.1 _ M_322).2.2 (by decide)).trans S_322
  replace M_322 : (322) ∈ w38.1 := (GG.1 _ M_322).1
  replace A_323 : w38.2.1 (323) = a_323 := (GG.1 _ M_323).2.1.trans A_323
  replace S_323 : w38.2.2 (323) = jm_Ia (E.2.2 0) 6 := ((GG.1 _ M_323).2.2 (by decide)).trans S_323
  replace M_323 : (323) ∈ w38.1 := (GG.1 _ M_323).1
  replace A_324 : w38.2.1 (324) = a_324 := (GG.1 _ M_324).2.1.trans A_324
  replace S_324 : w38.2.2 (324) = jm_Ia (E.2.2 0) 549 := ((GG.1 _ M_324).2.2 (by decide)).trans S_324
  replace M_324 : (324) ∈ w38.1 := (GG.1 _ M_324).1
  replace N_325 : (325) ∉ w38.1 := fun h => (GG.2 _ h).elim N_325 (fun e => e.elim)
  replace N_326 : (326) ∉ w38.1 := fun h => (GG.2 _ h).elim N_326 (fun e => e.elim)
  replace N_327 : (327) ∉ w38.1 := fun h => (GG.2 _ h).elim N_327 (fun e => e.elim)
  replace GT : jm_gr w w38 (300) (hk_mn3) := jm_gr_tr GT GG (fun _ => rfl) (fun z e => e.elim id (fun e => e.elim))
  have S_300 : w38.2.2 (300) = jm_O 6 [none, none, none, none, none, some (.ref a_305), some (.ref a_306), some (.ref a_307), none, some (.ref a_309), some (.ref a_310), some (.ref a_311), some (.ref a_312), some (.ref a_313), some (.ref a_314), some (.ref a_315), some (.ref a_316), some (.ref a_317), some (.ref a_318), some (.ref a_319), some (.ref a_320), some (.ref a_321), some (.ref a_322), some (.ref a_323), some (.ref a_324), some .null, some .null, some .null] := by rw [hw38]; exact jm_sh_s
  clear hw38
  refine jm_aload_n C dX6_init_166 rfl ?_
  refine jm_bipush C dX6_init_167 (by decide +kernel) ?_
  refine jm_newa (atype := .int) .int 0 6 (325) (by decide) (by decide) rfl (by decide +kernel) C rfl jw_A_int (by decide) N_325 ⟨Nat.le_of_ble_eq_true rfl, Nat.le_of_ble_eq_true rfl⟩ dX6_init_169 (fun a_325 => ?_)
  refine jm_gen (fun w39 hw39 => ?_)
  have GG : jm_gr w38 w39 (325) (fun z => z = (325)) := by rw [hw39]; exact jm_gr_ad N_325
  replace A_300 : w39.2.1 (300) = r := (GG.1 _ M_300).2.1.trans A_300
  replace S_300 : w39.2.2 (300) = jm_O 6 [none, none, none, none, none, some (.ref a_305), some (.ref a_306), some (.ref a_307), none, some (.ref a_309), some (.ref a_310), some (.ref a_311), some (.ref a_312), some (.ref a_313), some (.ref a_314), some (.ref a_315), some (.ref a_316), some (.ref a_317), some (.ref a_318), some (.ref a_319), some (.ref a_320), some (.ref a_321), some (.ref a_322), some (.ref a_323), some (.ref a_324), some .null, some .null, some .null] := ((GG.1 _ M_300).2.2 (by decide)).trans S_300
  replace M_300 : (300) ∈ w39.1 := (GG.1 _ M_300).1
  replace A_305 : w39.2.1 (305) = a_305 := (GG.1 _ M_305).2.1.trans A_305
  replace S_305 : w39.2.2 (305) = jm_Ia (E.2.2 0) 1647 := ((GG.1 _ M_305).2.2 (by decide)).trans S_305
  replace M_305 : (305) ∈ w39.1 := (GG.1 _ M_305).1
  replace A_306 : w39.2.1 (306) = a_306 := (GG.1 _ M_306).2.1.trans A_306
  replace S_306 : w39.2.2 (306) = jm_Ia (E.2.2 1) 3 := ((GG.1 _ M_306).2.2 (by decide)).trans S_306
  replace M_306 : (306) ∈ w39.1 := (GG.1 _ M_306).1
  replace A_307 : w39.2.1 (307) = a_307 := (GG.1 _ M_307).2.1.trans A_307
  replace S_307 : w39.2.2 (307) = jm_Ia (E.2.2 0) 3 := ((GG.1 _ M_307).2.2 (by decide)).trans S_307
  replace M_307 : (307) ∈ w39.1 := (GG.1 _ M_307).1
  replace A_309 : w39.2.1 (309) = a_309 := (GG.1 _ M_309).2.1.trans A_309
  replace S_309 : w39.2.2 (309) = jm_Ia (E.2.2 0) 12 := ((GG.1 _ M_309).2.2 (by decide)).trans S_309
  replace M_309 : (309) ∈ w39.1 := (GG.1 _ M_309).1
  replace A_310 : w39.2.1 (310) = a_310 := (GG.1 _ M_310).2.1.trans A_310
  replace S_310 : w39.2.2 (310) = jm_Ia (E.2.2 0) 12 := ((GG.1 _ M_310).2.2 (by decide)).trans S_310
  replace M_310 : (310) ∈ w39.1 := (GG.1 _ M_310).1
  replace A_311 : w39.2.1 (311) = a_311 := (GG.1 _ M_311).2.1.trans A_311
  replace S_311 : w39.2.2 (311) = jm_Ia (E.2.2 0) 12 := ((GG.1 _ M_311).2.2 (by decide)).trans S_311
  replace M_311 : (311) ∈ w39.1 := (GG.1 _ M_311).1
  replace A_312 : w39.2.1 (312) = a_312 := (GG.1 _ M_312).2.1.trans A_312
  replace S_312 : w39.2.2 (312) = jm_Ia (E.2.2 0) 12 := ((GG.1 _ M_312).2.2 (by decide)).trans S_312
  replace M_312 : (312) ∈ w39.1 := (GG.1 _ M_312).1
  replace A_313 : w39.2.1 (313) = a_313 := (GG.1 _ M_313).2.1.trans A_313
  replace S_313 : w39.2.2 (313) = jm_Ia (E.2.2 0) 12 := ((GG.1 _ M_313).2.2 (by decide)).trans S_313
  replace M_313 : (313) ∈ w39.1 := (GG.1 _ M_313).1
  replace A_314 : w39.2.1 (314) = a_314 := (GG.1 _ M_314).2.1.trans A_314
  replace S_314 : w39.2.2 (314) = jm_Ia (E.2.2 0) 12 := ((GG.1 _ M_314).2.2 (by decide)).trans S_314
  replace M_314 : (314) ∈ w39.1 := (GG.1 _ M_314).1
  replace A_315 : w39.2.1 (315) = a_315 := (GG.1 _ M_315).2.1.trans A_315
  replace S_315 : w39.2.2 (315) = jm_Ia (E.2.2 0) 24 := ((GG.1 _ M_315).2.2 (by decide)).trans S_315
  replace M_315 : (315) ∈ w39.1 := (GG.1 _ M_315).1
  replace A_316 : w39.2.1 (316) = a_316 := (GG.1 _ M_316).2.1.trans A_316
  replace S_316 : w39.2.2 (316) = jm_Ia (E.2.2 0) 12 := ((GG.1 _ M_316).2.2 (by decide)).trans S_316
  replace M_316 : (316) ∈ w39.1 := (GG.1 _ M_316).1
  replace A_317 : w39.2.1 (317) = a_317 := (GG.1 _ M_317).2.1.trans A_317
  replace S_317 : w39.2.2 (317) = jm_Ia (E.2.2 0) 12 := ((GG.1 _ M_317).2.2 (by decide)).trans S_317
  replace M_317 : (317) ∈ w39.1 := (GG.1 _ M_317).1
  replace A_318 : w39.2.1 (318) = a_318 := (GG.1 _ M_318).2.1.trans A_318
  replace S_318 : w39.2.2 (318) = jm_Ia (E.2.2 0) 12 := ((GG.1 _ M_318).2.2 (by decide)).trans S_318
  replace M_318 : (318) ∈ w39.1 := (GG.1 _ M_318).1
  replace A_319 : w39.2.1 (319) = a_319 := (GG.1 _ M_319).2.1.trans A_319
  replace S_319 : w39.2.2 (319) = jm_Ia (E.2.2 0) 12 := ((GG.1 _ M_319).2.2 (by decide)).trans S_319
  replace M_319 : (319) ∈ w39.1 := (GG.1 _ M_319).1
  replace A_320 : w39.2.1 (320) = a_320 := (GG.1 _ M_320).2.1.trans A_320
  replace S_320 : w39.2.2 (320) = jm_Ia (E.2.2 0) 72 := ((GG.1 _ M_320).2.2 (by decide)).trans S_320
  replace M_320 : (320) ∈ w39.1 := (GG.1 _ M_320).1
  replace A_321 : w39.2.1 (321) = a_321 := (GG.1 _ M_321).2.1.trans A_321
  replace S_321 : w39.2.2 (321) = jm_Ia (E.2.2 0) 6 := ((GG.1 _ M_321).2.2 (by decide)).trans S_321
  replace M_321 : (321) ∈ w39.1 := (GG.1 _ M_321).1
  replace A_322 : w39.2.1 (322) = a_322 := (GG.1 _ M_322).2.1.trans A_322
  replace S_322 : w39.2.2 (322) = jm_Ia (E.2.2 0) 6 := ((GG.1 _ M_322).2.2 (by decide)).trans S_322
  replace M_322 : (322) ∈ w39.1 := (GG.1 _ M_322).1
  replace A_323 : w39.2.1 (323) = a_323 := (GG.1 _ M_323).2.1.trans A_323
  replace S_323 : w39.2.2 (323) = jm_Ia (E.2.2 0) 6 := ((GG.1 _ M_323).2.2 (by decide)).trans S_323
  replace M_323 : (323) ∈ w39.1 := (GG.1 _ M_323).1
  replace A_324 : w39.2.1 (324) = a_324 := (GG.1 _ M_324).2.1.trans A_324
  replace S_324 : w39.2.2 (324) = jm_Ia (E.2.2 0) 549 := ((GG.1 _ M_324).2.2 (by decide)).trans S_324
  replace M_324 : (324) ∈ w39.1 := (GG.1 _ M_324).1
  replace N_326 : (326) ∉ w39.1 := fun h => (GG.2 _ h).elim N_326 (fun e => absurd (show (326 : Int) = (325) from e) (by decide))
  replace N_327 : (327) ∉ w39.1 := fun h => (GG.2 _ h).elim N_327 (fun e => absurd (show (327 : Int) = (325) from e) (by decide))
  replace GT : jm_gr w w39 (300) (hk_mn3) := jm_gr_tr GT GG (fun h => absurd h N0_325) (fun z e => e.elim id (fun e => by have e : z = (325) := e; subst e; exact (show hk_mn3 _ from by unfold hk_mn3; decide)))
  have M_325 : (325) ∈ w39.1 := by rw [hw39]; exact jm_ad_m
  have A_325 : w39.2.1 (325) = a_325 := by rw [hw39]; exact jm_ad_a
  have S_325 : w39.2.2 (325) = jm_Ia (E.2.2 0) 6 := by rw [hw39]; exact jm_ad_s
  clear hw39
  refine jm_geni (fun J22 hJ22 => ?_)
  rw [← A_300]
  refine jm_putr (ci := 6) (f := 25) (a := a_325) C hin0 rfl tyX6 tyX6_ok nmX6 jw_u_6 M_300 S_300 (Nat.le_of_ble_eq_true rfl) (by decide) jw_f_RX6_75 rfl rfl (tyX6_ok 25 (by decide)) rfl rfl dX6_init_171 ?_
  try rw [A_300]
  refine jm_gen (fun w40 hw40 => ?_)
  have GG : jm_gr w39 w40 (300) (fun _ => False) := by rw [hw40]; exact jm_gr_sh
  replace A_300 : w40.2.1 (300) = r := (GG.1 _ M_300).2.1.trans A_300
  replace M_300 : (300) ∈ w40.1 := (GG.1 _ M_300).1
  replace A_305 : w40.2.1 (305) = a_305 := (GG.1 _ M_305).2.1.trans A_305
  replace S_305 : w40.2.2 (305) = jm_Ia (E.2.2 0) 1647 := ((GG.1 _ M_305).2.2 (by decide)).trans S_305
  replace M_305 : (305) ∈ w40.1 := (GG.1 _ M_305).1
  replace A_306 : w40.2.1 (306) = a_306 := (GG.1 _ M_306).2.1.trans A_306
  replace S_306 : w40.2.2 (306) = jm_Ia (E.2.2 1) 3 := ((GG.1 _ M_306).2.2 (by decide)).trans S_306
  replace M_306 : (306) ∈ w40.1 := (GG.1 _ M_306).1
  replace A_307 : w40.2.1 (307) = a_307 := (GG.1 _ M_307).2.1.trans A_307
  replace S_307 : w40.2.2 (307) = jm_Ia (E.2.2 0) 3 := ((GG.1 _ M_307).2.2 (by decide)).trans S_307
  replace M_307 : (307) ∈ w40.1 := (GG.1 _ M_307).1
  replace A_309 : w40.2.1 (309) = a_309 := (GG.1 _ M_309).2.1.trans A_309
  replace S_309 : w40.2.2 (309) = jm_Ia (E.2.2 0) 12 := ((GG.1 _ M_309).2.2 (by decide)).trans S_309
  replace M_309 : (309) ∈ w40.1 := (GG.1 _ M_309).1
  replace A_310 : w40.2.1 (310) = a_310 := (GG.1 _ M_310).2.1.trans A_310
  replace S_310 : w40.2.2 (310) = jm_Ia (E.2.2 0) 12 := ((GG.1 _ M_310).2.2 (by decide)).trans S_310
  replace M_310 : (310) ∈ w40.1 := (GG.1 _ M_310).1
  replace A_311 : w40.2.1 (311) = a_311 := (GG.1 _ M_311).2.1.trans A_311
  replace S_311 : w40.2.2 (311) = jm_Ia (E.2.2 0) 12 := ((GG.1 _ M_311).2.2 (by decide)).trans S_311
  replace M_311 : (311) ∈ w40.1 := (GG.1 _ M_311).1
  replace A_312 : w40.2.1 (312) = a_312 := (GG.1 _ M_312).2.1.trans A_312
  replace S_312 : w40.2.2 (312) = jm_Ia (E.2.2 0) 12 := ((GG.1 _ M_312).2.2 (by decide)).trans S_312
  replace M_312 : (312) ∈ w40.1 := (GG.1 _ M_312).1
  replace A_313 : w40.2.1 (313) = a_313 := (GG.1 _ M_313).2.1.trans A_313
  replace S_313 : w40.2.2 (313) = jm_Ia (E.2.2 0) 12 := ((GG.1 _ M_313).2.2 (by decide)).trans S_313
  replace M_313 : (313) ∈ w40.1 := (GG.1 _ M_313).1
  replace A_314 : w40.2.1 (314) = a_314 := (GG.1 _ M_314).2.1.trans A_314
  replace S_314 : w40.2.2 (314) = jm_Ia (E.2.2 0) 12 := ((GG.1 _ M_314).2.2 (by decide)).trans S_314
  replace M_314 : (314) ∈ w40.1 := (GG.1 _ M_314).1
  replace A_315 : w40.2.1 (315) = a_315 := (GG.1 _ M_315).2.1.trans A_315
  replace S_315 : w40.2.2 (315) = jm_Ia (E.2.2 0) 24 := ((GG.1 _ M_315).2.2 (by decide)).trans S_315
  replace M_315 : (315) ∈ w40.1 := (GG.1 _ M_315).1
  replace A_316 : w40.2.1 (316) = a_316 := (GG.1 _ M_316).2.1.trans A_316
  replace S_316 : w40.2.2 (316) = jm_Ia (E.2.2 0) 12 := ((GG.1 _ M_316).2.2 (by decide)).trans S_316
  replace M_316 : (316) ∈ w40.1 := (GG.1 _ M_316).1
  replace A_317 : w40.2.1 (317) = a_317 := (GG.1 _ M_317).2.1.trans A_317
  replace S_317 : w40.2.2 (317) = jm_Ia (E.2.2 0) 12 := ((GG.1 _ M_317).2.2 (by decide)).trans S_317
  replace M_317 : (317) ∈ w40.1 := (GG.1 _ M_317).1
  replace A_318 : w40.2.1 (318) = a_318 := (GG.1 _ M_318).2.1.trans A_318
  replace S_318 : w40.2.2 (318) = jm_Ia (E.2.2 0) 12 := ((GG.1 _ M_318).2.2 (by decide)).trans S_318
  replace M_318 : (318) ∈ w40.1 := (GG.1 _ M_318).1
  replace A_319 : w40.2.1 (319) = a_319 := (GG.1 _ M_319).2.1.trans A_319
  replace S_319 : w40.2.2 (319) = jm_Ia (E.2.2 0) 12 := ((GG.1 _ M_319).2.2 (by decide)).trans S_319
  replace M_319 : (319) ∈ w40.1 := (GG.1 _ M_319).1
  replace A_320 : w40.2.1 (320) = a_320 := (GG.1 _ M_320).2.1.trans A_320
  replace S_320 : w40.2.2 (320) = jm_Ia (E.2.2 0) 72 := ((GG.1 _ M_320).2.2 (by decide)).trans S_320
  replace M_320 : (320) ∈ w40.1 := (GG.1 _ M_320).1
  replace A_321 : w40.2.1 (321) = a_321 := (GG.1 _ M_321).2.1.trans A_321
  replace S_321 : w40.2.2 (321) = jm_Ia (E.2.2 0) 6 := ((GG.1 _ M_321).2.2 (by decide)).trans S_321
  replace M_321 : (321) ∈ w40.1 := (GG.1 _ M_321).1
  replace A_322 : w40.2.1 (322) = a_322 := (GG.1 _ M_322).2.1.trans A_322
  replace S_322 : w40.2.2 (322) = jm_Ia (E.2.2 0) 6 := ((GG.1 _ M_322).2.2 (by decide)).trans S_322
  replace M_322 : (322) ∈ w40.1 := (GG.1 _ M_322).1
  replace A_323 : w40.2.1 (323) = a_323 := (GG.1 _ M_323).2.1.trans A_323
  replace S_323 : w40.2.2 (323) = jm_Ia (E.2.2 0) 6 := ((GG.1 _ M_323).2.2 (by decide)).trans S_323
  replace M_323 : (323) ∈ w40.1 := (GG.1 _ M_323).1
  replace A_324 : w40.2.1 (324) = a_324 := (GG.1 _ M_324).2.1.trans A_324
  replace S_324 : w40.2.2 (324) = jm_Ia (E.2.2 0) 549 := ((GG.1 _ M_324).2.2 (by decide)).trans S_324
  replace M_324 : (324) ∈ w40.1 := (GG.1 _ M_324).1
  replace A_325 : w40.2.1 (325) = a_325 := (GG.1 _ M_325).2.1.trans A_325
  replace S_325 : w40.2.2 (325) = jm_Ia (E.2.2 0) 6 := ((GG.1 _ M_325).2.2 (by decide)).trans S_325
  replace M_325 : (325) ∈ w40.1 := (GG.1 _ M_325).1
  replace N_326 : (326) ∉ w40.1 := fun h => (GG.2 _ h).elim N_326 (fun e => e.elim)
  replace N_327 : (327) ∉ w40.1 := fun h => (GG.2 _ h).elim N_327 (fun e => e.elim)
  replace GT : jm_gr w w40 (300) (hk_mn3) := jm_gr_tr GT GG (fun _ => rfl) (fun z e => e.elim id (fun e => e.elim))
  have S_300 : w40.2.2 (300) = jm_O 6 [none, none, none, none, none, some (.ref a_305), some (.ref a_306), some (.ref a_307), none, some (.ref a_309), some (.ref a_310), some (.ref a_311), some (.ref a_312), some (.ref a_313), some (.ref a_314), some (.ref a_315), some (.ref a_316), some (.ref a_317), some (.ref a_318), some (.ref a_319), some (.ref a_320), some (.ref a_321), some (.ref a_322), some (.ref a_323), some (.ref a_324), some (.ref a_325), some .null, some .null] := by rw [hw40]; exact jm_sh_s
  clear hw40
  refine jm_aload_n C dX6_init_174 rfl ?_
  refine jm_bipush C dX6_init_175 (by decide +kernel) ?_
  refine jm_newa (atype := .int) .int 0 6 (326) (by decide) (by decide) rfl (by decide +kernel) C rfl jw_A_int (by decide) N_326 ⟨Nat.le_of_ble_eq_true rfl, Nat.le_of_ble_eq_true rfl⟩ dX6_init_177 (fun a_326 => ?_)
  refine jm_gen (fun w41 hw41 => ?_)
  have GG : jm_gr w40 w41 (326) (fun z => z = (326)) := by rw [hw41]; exact jm_gr_ad N_326
  replace A_300 : w41.2.1 (300) = r := (GG.1 _ M_300).2.1.trans A_300
  replace S_300 : w41.2.2 (300) = jm_O 6 [none, none, none, none, none, some (.ref a_305), some (.ref a_306), some (.ref a_307), none, some (.ref a_309), some (.ref a_310), some (.ref a_311), some (.ref a_312), some (.ref a_313), some (.ref a_314), some (.ref a_315), some (.ref a_316), some (.ref a_317), some (.ref a_318), some (.ref a_319), some (.ref a_320), some (.ref a_321), some (.ref a_322), some (.ref a_323), some (.ref a_324), some (.ref a_325), some .null, some .null] := ((GG.1 _ M_300).2.2 (by decide)).trans S_300
  replace M_300 : (300) ∈ w41.1 := (GG.1 _ M_300).1
  replace A_305 : w41.2.1 (305) = a_305 := (GG.1 _ M_305).2.1.trans A_305
  replace S_305 : w41.2.2 (305) = jm_Ia (E.2.2 0) 1647 := ((GG.1 _ M_305).2.2 (by decide)).trans S_305
  replace M_305 : (305) ∈ w41.1 := (GG.1 _ M_305).1
  replace A_306 : w41.2.1 (306) = a_306 := (GG.1 _ M_306).2.1.trans A_306
  replace S_306 : w41.2.2 (306) = jm_Ia (E.2.2 1) 3 := ((GG.1 _ M_306).2.2 (by decide)).trans S_306
  replace M_306 : (306) ∈ w41.1 := (GG.1 _ M_306).1
  replace A_307 : w41.2.1 (307) = a_307 := (GG.1 _ M_307).2.1.trans A_307
  replace S_307 : w41.2.2 (307) = jm_Ia (E.2.2 0) 3 := ((GG.1 _ M_307).2.2 (by decide)).trans S_307
  replace M_307 : (307) ∈ w41.1 := (GG.1 _ M_307).1
  replace A_309 : w41.2.1 (309) = a_309 := (GG.1 _ M_309).2.1.trans A_309
  replace S_309 : w41.2.2 (309) = jm_Ia (E.2.2 0) 12 := ((GG.1 _ M_309).2.2 (by decide)).trans S_309
  replace M_309 : (309) ∈ w41.1 := (GG.1 _ M_309).1
  replace A_310 : w41.2.1 (310) = a_310 := (GG.1 _ M_310).2.1.trans A_310
  replace S_310 : w41.2.2 (310) = jm_Ia (E.2.2 0) 12 := ((GG.1 _ M_310).2.2 (by decide)).trans S_310
  replace M_310 : (310) ∈ w41.1 := (GG.1 _ M_310).1
  replace A_311 : w41.2.1 (311) = a_311 := (GG.1 _ M_311).2.1.trans A_311
  replace S_311 : w41.2.2 (311) = jm_Ia (E.2.2 0) 12 := ((GG.1 _ M_311).2.2 (by decide)).trans S_311
  replace M_311 : (311) ∈ w41.1 := (GG.1 _ M_311).1
  replace A_312 : w41.2.1 (312) = a_312 := (GG.1 _ M_312).2.1.trans A_312
  replace S_312 : w41.2.2 (312) = jm_Ia (E.2.2 0) 12 := ((GG.1 _ M_312).2.2 (by decide)).trans S_312
  replace M_312 : (312) ∈ w41.1 := (GG.1 _ M_312).1
  replace A_313 : w41.2.1 (313) = a_313 := (GG.1 _ M_313).2.1.trans A_313
  replace S_313 : w41.2.2 (313) = jm_Ia (E.2.2 0) 12 := ((GG.1 _ M_313).2.2 (by decide)).trans S_313
  replace M_313 : (313) ∈ w41.1 := (GG.1 _ M_313).1
  replace A_314 : w41.2.1 (314) = a_314 := (GG.1 _ M_314).2.1.trans A_314
  replace S_314 : w41.2.2 (314) = jm_Ia (E.2.2 0) 12 := ((GG.1 _ M_314).2.2 (by decide)).trans S_314
  replace M_314 : (314) ∈ w41.1 := (GG.1 _ M_314).1
  replace A_315 : w41.2.1 (315) = a_315 := (GG.1 _ M_315).2.1.trans A_315
  replace S_315 : w41.2.2 (315) = jm_Ia (E.2.2 0) 24 := ((GG.1 _ M_315).2.2 (by decide)).trans S_315
  replace M_315 : (315) ∈ w41.1 := (GG.1 _ M_315).1
  replace A_316 : w41.2.1 (316) = a_316 := (GG.1 _ M_316).2.1.trans A_316
  replace S_316 : w41.2.2 (316) = jm_Ia (E.2.2 0) 12 := ((GG.1 _ M_316).2.2 (by decide)).trans S_316
  replace M_316 : (316) ∈ w41.1 := (GG.1 _ M_316).1
  replace A_317 : w41.2.1 (317) = a_317 := (GG.1 _ M_317).2.1.trans A_317
  replace S_317 : w41.2.2 (317) = jm_Ia (E.2.2 0) 12 := ((GG.1 _ M_317).2.2 (by decide)).trans S_317
  replace M_317 : (317) ∈ w41.1 := (GG.1 _ M_317).1
  replace A_318 : w41.2.1 (318) = a_318 := (GG.1 _ M_318).2.1.trans A_318
  replace S_318 : w41.2.2 (318) = jm_Ia (E.2.2 0) 12 := ((GG.1 _ M_318).2.2 (by decide)).trans S_318
  replace M_318 : (318) ∈ w41.1 := (GG.1 _ M_318).1
  replace A_319 : w41.2.1 (319) = a_319 := (GG.1 _ M_319).2.1.trans A_319
  replace S_319 : w41.2.2 (319) = jm_Ia (E.2.2 0) 12 := ((GG.1 _ M_319).2.2 (by decide)).trans S_319
  replace M_319 : (319) ∈ w41.1 := (GG.1 _ M_319).1
  replace A_320 : w41.2.1 (320) = a_320 := (GG.1 _ M_320).2.1.trans A_320
  replace S_320 : w41.2.2 (320) = jm_Ia (E.2.2 0) 72 := ((GG.1 _ M_320).2.2 (by decide)).trans S_320
  replace M_320 : (320) ∈ w41.1 := (GG.1 _ M_320).1
  replace A_321 : w41.2.1 (321) = a_321 := (GG.1 _ M_321).2.1.trans A_321
  replace S_321 : w41.2.2 (321) = jm_Ia (E.2.2 0) 6 := ((GG.1 _ M_321).2.2 (by decide)).trans S_321
  replace M_321 : (321) ∈ w41.1 := (GG.1 _ M_321).1
  replace A_322 : w41.2.1 (322) = a_322 := (GG.1 _ M_322).2.1.trans A_322
  replace S_322 : w41.2.2 (322) = jm_Ia (E.2.2 0) 6 := ((GG.1 _ M_322).2.2 (by decide)).trans S_322
  replace M_322 : (322) ∈ w41.1 := (GG.1 _ M_322).1
  replace A_323 : w41.2.1 (323) = a_323 := (GG.1 _ M_323).2.1.trans A_323
  replace S_323 : w41.2.2 (323) = jm_Ia (E.2.2 0) 6 := ((GG.1 _ M_323).2.2 (by decide)).trans S_323
  replace M_323 : (323) ∈ w41.1 := (GG.1 _ M_323).1
  replace A_324 : w41.2.1 (324) = a_324 := (GG.1 _ M_324).2.1.trans A_324
  replace S_324 : w41.2.2 (324) = jm_Ia (E.2.2 0) 549 := ((GG.1 _ M_324).2.2 (by decide)).trans S_324
  replace M_324 : (324) ∈ w41.1 := (GG.1 _ M_324).1
  replace A_325 : w41.2.1 (325) = a_325 := (GG.1 _ M_325).2.1.trans A_325
  replace S_325 : w41.2.2 (325) = jm_Ia (E.2.2 0) 6 := ((GG.1 _ M_325).2.2 (by decide)).trans S_325
  replace M_325 : (325) ∈ w41.1 := (GG.1 _ M_325).1
  replace N_327 : (327) ∉ w41.1 := fun h => (GG.2 _ h).elim N_327 (fun e => absurd (show (327 : Int) = (326) from e) (by decide))
  replace GT : jm_gr w w41 (300) (hk_mn3) := jm_gr_tr GT GG (fun h => absurd h N0_326) (fun z e => e.elim id (fun e => by have e : z = (326) := e; subst e; exact (show hk_mn3 _ from by unfold hk_mn3; decide)))
  have M_326 : (326) ∈ w41.1 := by rw [hw41]; exact jm_ad_m
  have A_326 : w41.2.1 (326) = a_326 := by rw [hw41]; exact jm_ad_a
  have S_326 : w41.2.2 (326) = jm_Ia (E.2.2 0) 6 := by rw [hw41]; exact jm_ad_s
  clear hw41
  refine jm_geni (fun J23 hJ23 => ?_)
  rw [← A_300]
  refine jm_putr (ci := 6) (f := 26) (a := a_326) C hin0 rfl tyX6 tyX6_ok nmX6 jw_u_6 M_300 S_300 (Nat.le_of_ble_eq_true rfl) (by decide) jw_f_RX6_78 rfl rfl (tyX6_ok 26 (by decide)) rfl rfl dX6_init_179 ?_
  try rw [A_300]
  refine jm_gen (fun w42 hw42 => ?_)
  have GG : jm_gr w41 w42 (300) (fun _ => False) := by rw [hw42]; exact jm_gr_sh
  replace A_300 : w42.2.1 (300) = r := (GG.1 _ M_300).2.1.trans A_300
  replace M_300 : (300) ∈ w42.1 := (GG.1 _ M_300).1
  replace A_305 : w42.2.1 (305) = a_305 := (GG.1 _ M_305).2.1.trans A_305
  replace S_305 : w42.2.2 (305) = jm_Ia (E.2.2 0) 1647 := ((GG.1 _ M_305).2.2 (by decide)).trans S_305
  replace M_305 : (305) ∈ w42.1 := (GG.1 _ M_305).1
  replace A_306 : w42.2.1 (306) = a_306 := (GG.1 _ M_306).2.1.trans A_306
  replace S_306 : w42.2.2 (306) = jm_Ia (E.2.2 1) 3 := ((GG.1 _ M_306).2.2 (by decide)).trans S_306
  replace M_306 : (306) ∈ w42.1 := (GG.1 _ M_306).1
  replace A_307 : w42.2.1 (307) = a_307 := (GG.1 _ M_307).2.1.trans A_307
  replace S_307 : w42.2.2 (307) = jm_Ia (E.2.2 0) 3 := ((GG.1 _ M_307).2.2 (by decide)).trans S_307
  replace M_307 : (307) ∈ w42.1 := (GG.1 _ M_307).1
  replace A_309 : w42.2.1 (309) = a_309 := (GG.1 _ M_309).2.1.trans A_309
  replace S_309 : w42.2.2 (309) = jm_Ia (E.2.2 0) 12 := ((GG.1 _ M_309).2.2 (by decide)).trans S_309
  replace M_309 : (309) ∈ w42.1 := (GG.1 _ M_309).1
  replace A_310 : w42.2.1 (310) = a_310 := (GG.1 _ M_310).2.1.trans A_310
  replace S_310 : w42.2.2 (310) = jm_Ia (E.2.2 0) 12 := ((GG.1 _ M_310).2.2 (by decide)).trans S_310
  replace M_310 : (310) ∈ w42.1 := (GG.1 _ M_310).1
  replace A_311 : w42.2.1 (311) = a_311 := (GG.1 _ M_311).2.1.trans A_311
  replace S_311 : w42.2.2 (311) = jm_Ia (E.2.2 0) 12 := ((GG.1 _ M_311).2.2 (by decide)).trans S_311
  replace M_311 : (311) ∈ w42.1 := (GG.1 _ M_311).1
  replace A_312 : w42.2.1 (312) = a_312 := (GG.1 _ M_312).2.1.trans A_312
  replace S_312 : w42.2.2 (312) = jm_Ia (E.2.2 0) 12 := ((GG.1 _ M_312).2.2 (by decide)).trans S_312
  replace M_312 : (312) ∈ w42.1 := (GG.1 _ M_312).1
  replace A_313 : w42.2.1 (313) = a_313 := (GG.1 _ M_313).2.1.trans A_313
  replace S_313 : w42.2.2 (313) = jm_Ia (E.2.2 0) 12 := ((GG.1 _ M_313).2.2 (by decide)).trans S_313
  replace M_313 : (313) ∈ w42.1 := (GG.1 _ M_313).1
  replace A_314 : w42.2.1 (314) = a_314 := (GG.1 _ M_314).2.1.trans A_314
  replace S_314 : w42.2.2 (314) = jm_Ia (E.2.2 0) 12 := ((GG.1 _ M_314).2.2 (by decide)).trans S_314
  replace M_314 : (314) ∈ w42.1 := (GG.1 _ M_314).1
  replace A_315 : w42.2.1 (315) = a_315 := (GG.1 _ M_315).2.1.trans A_315
  replace S_315 : w42.2.2 (315) = jm_Ia (E.2.2 0) 24 := ((GG.1 _ M_315).2.2 (by decide)).trans S_315
  replace M_315 : (315) ∈ w42.1 := (GG.1 _ M_315).1
  replace A_316 : w42.2.1 (316) = a_316 := (GG.1 _ M_316).2.1.trans A_316
  replace S_316 : w42.2.2 (316) = jm_Ia (E.2.2 0) 12 := ((GG.1 _ M_316).2.2 (by decide)).trans S_316
  replace M_316 : (316) ∈ w42.1 := (GG.1 _ M_316).1
  replace A_317 : w42.2.1 (317) = a_317 := (GG.1 _ M_317).2.1.trans A_317
  replace S_317 : w42.2.2 (317) = jm_Ia (E.2.2 0) 12 := ((GG.1 _ M_317).2.2 (by decide)).trans S_317
  replace M_317 : (317) ∈ w42.1 := (GG.1 _ M_317).1
  replace A_318 : w42.2.1 (318) = a_318 := (GG.1 _ M_318).2.1.trans A_318
  replace S_318 : w42.2.2 (318) = jm_Ia (E.2.2 0) 12 := ((GG.1 _ M_318).2.2 (by decide)).trans S_318
  replace M_318 : (318) ∈ w42.1 := (GG.1 _ M_318).1
  replace A_319 : w42.2.1 (319) = a_319 := (GG.1 _ M_319).2.1.trans A_319
  replace S_319 : w42.2.2 (319) = jm_Ia (E.2.2 0) 12 := ((GG.1 _ M_319).2.2 (by decide)).trans S_319
  replace M_319 : (319) ∈ w42.1 := (GG.1 _ M_319).1
  replace A_320 : w42.2.1 (320) = a_320 := (GG.1 _ M_320).2.1.trans A_320
  replace S_320 : w42.2.2 (320) = jm_Ia (E.2.2 0) 72 := ((GG.1 _ M_320).2.2 (by decide)).trans S_320
  replace M_320 : (320) ∈ w42.1 := (GG.1 _ M_320).1
  replace A_321 : w42.2.1 (321) = a_321 := (GG.1 _ M_321).2.1.trans A_321
  replace S_321 : w42.2.2 (321) = jm_Ia (E.2.2 0) 6 := ((GG.1 _ M_321).2.2 (by decide)).trans S_321
  replace M_321 : (321) ∈ w42.1 := (GG.1 _ M_321).1
  replace A_322 : w42.2.1 (322) = a_322 := (GG.1 _ M_322).2.1.trans A_322
  replace S_322 : w42.2.2 (322) = jm_Ia (E.2.2 0) 6 := ((GG.1 _ M_322).2.2 (by decide)).trans S_322
  replace M_322 : (322) ∈ w42.1 := (GG.1 _ M_322).1
  replace A_323 : w42.2.1 (323) = a_323 := (GG.1 _ M_323).2.1.trans A_323
  replace S_323 : w42.2.2 (323) = jm_Ia (E.2.2 0) 6 := ((GG.1 _ M_323).2.2 (by decide)).trans S_323
  replace M_323 : (323) ∈ w42.1 := (GG.1 _ M_323).1
  replace A_324 : w42.2.1 (324) = a_324 := (GG.1 _ M_324).2.1.trans A_324
  replace S_324 : w42.2.2 (324) = jm_Ia (E.2.2 0) 549 := ((GG.1 _ M_324).2.2 (by decide)).trans S_324
  replace M_324 : (324) ∈ w42.1 := (GG.1 _ M_324).1
  replace A_325 : w42.2.1 (325) = a_325 := (GG.1 _ M_325).2.1.trans A_325
  replace S_325 : w42.2.2 (325) = jm_Ia (E.2.2 0) 6 := ((GG.1 _ M_325).2.2 (by decide)).trans S_325
  replace M_325 : (325) ∈ w42.1 := (GG.1 _ M_325).1
  replace A_326 : w42.2.1 (326) = a_326 := (GG.1 _ M_326).2.1.trans A_326
  replace S_326 : w42.2.2 (326) = jm_Ia (E.2.2 0) 6 := ((GG.1 _ M_326).2.2 (by decide)).trans S_326
  replace M_326 : (326) ∈ w42.1 := (GG.1 _ M_326).1
  replace N_327 : (327) ∉ w42.1 := fun h => (GG.2 _ h).elim N_327 (fun e => e.elim)
  replace GT : jm_gr w w42 (300) (hk_mn3) := jm_gr_tr GT GG (fun _ => rfl) (fun z e => e.elim id (fun e => e.elim))
  have S_300 : w42.2.2 (300) = jm_O 6 [none, none, none, none, none, some (.ref a_305), some (.ref a_306), some (.ref a_307), none, some (.ref a_309), some (.ref a_310), some (.ref a_311), some (.ref a_312), some (.ref a_313), some (.ref a_314), some (.ref a_315), some (.ref a_316), some (.ref a_317), some (.ref a_318), some (.ref a_319), some (.ref a_320), some (.ref a_321), some (.ref a_322), some (.ref a_323), some (.ref a_324), some (.ref a_325), some (.ref a_326), some .null] := by rw [hw42]; exact jm_sh_s
  clear hw42
  refine jm_aload_n C dX6_init_182 rfl ?_
  refine jm_bipush C dX6_init_183 (by decide +kernel) ?_
  refine jm_newa (atype := .boolean) .boolean 1 12 (327) (by decide) (by decide) rfl (by decide +kernel) C rfl jw_A_bool (by decide) N_327 ⟨Nat.le_of_ble_eq_true rfl, Nat.le_of_ble_eq_true rfl⟩ dX6_init_185 (fun a_327 => ?_)
  refine jm_gen (fun w43 hw43 => ?_)
  have GG : jm_gr w42 w43 (327) (fun z => z = (327)) := by rw [hw43]; exact jm_gr_ad N_327
  replace A_300 : w43.2.1 (300) = r := (GG.1 _ M_300).2.1.trans A_300
  replace S_300 : w43.2.2 (300) = jm_O 6 [none, none, none, none, none, some (.ref a_305), some (.ref a_306), some (.ref a_307), none, some (.ref a_309), some (.ref a_310), some (.ref a_311), some (.ref a_312), some (.ref a_313), some (.ref a_314), some (.ref a_315), some (.ref a_316), some (.ref a_317), some (.ref a_318), some (.ref a_319), some (.ref a_320), some (.ref a_321), some (.ref a_322), some (.ref a_323), some (.ref a_324), some (.ref a_325), some (.ref a_326), some .null] := ((GG.1 _ M_300).2.2 (by decide)).trans S_300
  replace M_300 : (300) ∈ w43.1 := (GG.1 _ M_300).1
  replace A_305 : w43.2.1 (305) = a_305 := (GG.1 _ M_305).2.1.trans A_305
  replace S_305 : w43.2.2 (305) = jm_Ia (E.2.2 0) 1647 := ((GG.1 _ M_305).2.2 (by decide)).trans S_305
  replace M_305 : (305) ∈ w43.1 := (GG.1 _ M_305).1
  replace A_306 : w43.2.1 (306) = a_306 := (GG.1 _ M_306).2.1.trans A_306
  replace S_306 : w43.2.2 (306) = jm_Ia (E.2.2 1) 3 := ((GG.1 _ M_306).2.2 (by decide)).trans S_306
  replace M_306 : (306) ∈ w43.1 := (GG.1 _ M_306).1
  replace A_307 : w43.2.1 (307) = a_307 := (GG.1 _ M_307).2.1.trans A_307
  replace S_307 : w43.2.2 (307) = jm_Ia (E.2.2 0) 3 := ((GG.1 _ M_307).2.2 (by decide)).trans S_307
  replace M_307 : (307) ∈ w43.1 := (GG.1 _ M_307).1
  replace A_309 : w43.2.1 (309) = a_309 := (GG.1 _ M_309).2.1.trans A_309
  replace S_309 : w43.2.2 (309) = jm_Ia (E.2.2 0) 12 := ((GG.1 _ M_309).2.2 (by decide)).trans S_309
  replace M_309 : (309) ∈ w43.1 := (GG.1 _ M_309).1
  replace A_310 : w43.2.1 (310) = a_310 := (GG.1 _ M_310).2.1.trans A_310
  replace S_310 : w43.2.2 (310) = jm_Ia (E.2.2 0) 12 := ((GG.1 _ M_310).2.2 (by decide)).trans S_310
  replace M_310 : (310) ∈ w43.1 := (GG.1 _ M_310).1
  replace A_311 : w43.2.1 (311) = a_311 := (GG.1 _ M_311).2.1.trans A_311
  replace S_311 : w43.2.2 (311) = jm_Ia (E.2.2 0) 12 := ((GG.1 _ M_311).2.2 (by decide)).trans S_311
  replace M_311 : (311) ∈ w43.1 := (GG.1 _ M_311).1
  replace A_312 : w43.2.1 (312) = a_312 := (GG.1 _ M_312).2.1.trans A_312
  replace S_312 : w43.2.2 (312) = jm_Ia (E.2.2 0) 12 := ((GG.1 _ M_312).2.2 (by decide)).trans S_312
  replace M_312 : (312) ∈ w43.1 := (GG.1 _ M_312).1
  replace A_313 : w43.2.1 (313) = a_313 := (GG.1 _ M_313).2.1.trans A_313
  replace S_313 : w43.2.2 (313) = jm_Ia (E.2.2 0) 12 := ((GG.1 _ M_313).2.2 (by decide)).trans S_313
  replace M_313 : (313) ∈ w43.1 := (GG.1 _ M_313).1
  replace A_314 : w43.2.1 (314) = a_314 := (GG.1 _ M_314).2.1.trans A_314
  replace S_314 : w43.2.2 (314) = jm_Ia (E.2.2 0) 12 := ((GG.1 _ M_314).2.2 (by decide)).trans S_314
  replace M_314 : (314) ∈ w43.1 := (GG.1 _ M_314).1
  replace A_315 : w43.2.1 (315) = a_315 := (GG.1 _ M_315).2.1.trans A_315
  replace S_315 : w43.2.2 (315) = jm_Ia (E.2.2 0) 24 := ((GG.1 _ M_315).2.2 (by decide)).trans S_315
  replace M_315 : (315) ∈ w43.1 := (GG.1 _ M_315).1
  replace A_316 : w43.2.1 (316) = a_316 := (GG.1 _ M_316).2.1.trans A_316
  replace S_316 : w43.2.2 (316) = jm_Ia (E.2.2 0) 12 := ((GG.1 _ M_316).2.2 (by decide)).trans S_316
  replace M_316 : (316) ∈ w43.1 := (GG.1 _ M_316).1
  replace A_317 : w43.2.1 (317) = a_317 := (GG.1 _ M_317).2.1.trans A_317
  replace S_317 : w43.2.2 (317) = jm_Ia (E.2.2 0) 12 := ((GG.1 _ M_317).2.2 (by decide)).trans S_317
  replace M_317 : (317) ∈ w43.1 := (GG.1 _ M_317).1
  replace A_318 : w43.2.1 (318) = a_318 := (GG.1 _ M_318).2.1.trans A_318
  replace S_318 : w43.2.2 (318) = jm_Ia (E.2.2 0) 12 := ((GG.1 _ M_318).2.2 (by decide)).trans S_318
  replace M_318 : (318) ∈ w43.1 := (GG.1 _ M_318).1
  replace A_319 : w43.2.1 (319) = a_319 := (GG.1 _ M_319).2.1.trans A_319
  replace S_319 : w43.2.2 (319) = jm_Ia (E.2.2 0) 12 := ((GG.1 _ M_319).2.2 (by decide)).trans S_319
  replace M_319 : (319) ∈ w43.1 := (GG.1 _ M_319).1
  replace A_320 : w43.2.1 (320) = a_320 := (GG.1 _ M_320).2.1.trans A_320
  replace S_320 : w43.2.2 (320) = jm_Ia (E.2.2 0) 72 := ((GG.1 _ M_320).2.2 (by decide)).trans S_320
  replace M_320 : (320) ∈ w43.1 := (GG.1 _ M_320).1
  replace A_321 : w43.2.1 (321) = a_321 := (GG.1 _ M_321).2.1.trans A_321
  replace S_321 : w43.2.2 (321) = jm_Ia (E.2.2 0) 6 := ((GG.1 _ M_321).2.2 (by decide)).trans S_321
  replace M_321 : (321) ∈ w43.1 := (GG.1 _ M_321).1
  replace A_322 : w43.2.1 (322) = a_322 := (GG.1 _ M_322).2.1.trans A_322
  replace S_322 : w43.2.2 (322) = jm_Ia (E.2.2 0) 6 := ((GG.1 _ M_322).2.2 (by decide)).trans S_322
  replace M_322 : (322) ∈ w43.1 := (GG.1 _ M_322).1
  replace A_323 : w43.2.1 (323) = a_323 := (GG.1 _ M_323).2.1.trans A_323
  replace S_323 : w43.2.2 (323) = jm_Ia (E.2.2 0) 6 := ((GG.1 _ M_323).2.2 (by decide)).trans S_323
  replace M_323 : (323) ∈ w43.1 := (GG.1 _ M_323).1
  replace A_324 : w43.2.1 (324) = a_324 := (GG.1 _ M_324).2.1.trans A_324
  replace S_324 : w43.2.2 (324) = jm_Ia (E.2.2 0) 549 := ((GG.1 _ M_324).2.2 (by decide)).trans S_324
  replace M_324 : (324) ∈ w43.1 := (GG.1 _ M_324).1
  replace A_325 : w43.2.1 (325) = a_325 := (GG.1 _ M_325).2.1.trans A_325
  replace S_325 : w43.2.2 (325) = jm_Ia (E.2.2 0) 6 := ((GG.1 _ M_325).2.2 (by decide)).trans S_325
  replace M_325 : (325) ∈ w43.1 := (GG.1 _ M_325).1
  replace A_326 : w43.2.1 (326) = a_326 := (GG.1 _ M_326).2.1.trans A_326
  replace S_326 : w43.2.2 (326) = jm_Ia (E.2.2 0) 6 := ((GG.1 _ M_326).2.2 (by decide)).trans S_326
  replace M_326 : (326) ∈ w43.1 := (GG.1 _ M_326).1
  replace GT : jm_gr w w43 (300) (hk_mn3) := jm_gr_tr GT GG (fun h => absurd h N0_327) (fun z e => e.elim id (fun e => by have e : z = (327) := e; subst e; exact (show hk_mn3 _ from by unfold hk_mn3; decide)))
  have M_327 : (327) ∈ w43.1 := by rw [hw43]; exact jm_ad_m
  have A_327 : w43.2.1 (327) = a_327 := by rw [hw43]; exact jm_ad_a
  have S_327 : w43.2.2 (327) = jm_Ia (E.2.2 1) 12 := by rw [hw43]; exact jm_ad_s
  clear hw43
  refine jm_geni (fun J24 hJ24 => ?_)
  rw [← A_300]
  refine jm_putr (ci := 6) (f := 27) (a := a_327) C hin0 rfl tyX6 tyX6_ok nmX6 jw_u_6 M_300 S_300 (Nat.le_of_ble_eq_true rfl) (by decide) jw_f_RX6_81 rfl rfl (tyX6_ok 27 (by decide)) rfl rfl dX6_init_187 ?_
  try rw [A_300]
  refine jm_gen (fun w44 hw44 => ?_)
  have GG : jm_gr w43 w44 (300) (fun _ => False) := by rw [hw44]; exact jm_gr_sh
  replace A_300 : w44.2.1 (300) = r := (GG.1 _ M_300).2.1.trans A_300
  replace M_300 : (300) ∈ w44.1 := (GG.1 _ M_300).1
  replace A_305 : w44.2.1 (305) = a_305 := (GG.1 _ M_305).2.1.trans A_305
  replace S_305 : w44.2.2 (305) = jm_Ia (E.2.2 0) 1647 := ((GG.1 _ M_305).2.2 (by decide)).trans S_305
  replace M_305 : (305) ∈ w44.1 := (GG.1 _ M_305).1
  replace A_306 : w44.2.1 (306) = a_306 := (GG.1 _ M_306).2.1.trans A_306
  replace S_306 : w44.2.2 (306) = jm_Ia (E.2.2 1) 3 := ((GG.1 _ M_306).2.2 (by decide)).trans S_306
  replace M_306 : (306) ∈ w44.1 := (GG.1 _ M_306).1
  replace A_307 : w44.2.1 (307) = a_307 := (GG.1 _ M_307).2.1.trans A_307
  replace S_307 : w44.2.2 (307) = jm_Ia (E.2.2 0) 3 := ((GG.1 _ M_307).2.2 (by decide)).trans S_307
  replace M_307 : (307) ∈ w44.1 := (GG.1 _ M_307).1
  replace A_309 : w44.2.1 (309) = a_309 := (GG.1 _ M_309).2.1.trans A_309
  replace S_309 : w44.2.2 (309) = jm_Ia (E.2.2 0) 12 := ((GG.1 _ M_309).2.2 (by decide)).trans S_309
  replace M_309 : (309) ∈ w44.1 := (GG.1 _ M_309).1
  replace A_310 : w44.2.1 (310) = a_310 := (GG.1 _ M_310).2.1.trans A_310
  replace S_310 : w44.2.2 (310) = jm_Ia (E.2.2 0) 12 := ((GG.1 _ M_310).2.2 (by decide)).trans S_310
  replace M_310 : (310) ∈ w44.1 := (GG.1 _ M_310).1
  replace A_311 : w44.2.1 (311) = a_311 := (GG.1 _ M_311).2.1.trans A_311
  replace S_311 : w44.2.2 (311) = jm_Ia (E.2.2 0) 12 := ((GG.1 _ M_311).2.2 (by decide)).trans S_311
  replace M_311 : (311) ∈ w44.1 := (GG.1 _ M_311).1
  replace A_312 : w44.2.1 (312) = a_312 := (GG.1 _ M_312).2.1.trans A_312
  replace S_312 : w44.2.2 (312) = jm_Ia (E.2.2 0) 12 := ((GG.1 _ M_312).2.2 (by decide)).trans S_312
  replace M_312 : (312) ∈ w44.1 := (GG.1 _ M_312).1
  replace A_313 : w44.2.1 (313) = a_313 := (GG.1 _ M_313).2.1.trans A_313
  replace S_313 : w44.2.2 (313) = jm_Ia (E.2.2 0) 12 := ((GG.1 _ M_313).2.2 (by decide)).trans S_313
  replace M_313 : (313) ∈ w44.1 := (GG.1 _ M_313).1
  replace A_314 : w44.2.1 (314) = a_314 := (GG.1 _ M_314).2.1.trans A_314
  replace S_314 : w44.2.2 (314) = jm_Ia (E.2.2 0) 12 := ((GG.1 _ M_314).2.2 (by decide)).trans S_314
  replace M_314 : (314) ∈ w44.1 := (GG.1 _ M_314).1
  replace A_315 : w44.2.1 (315) = a_315 := (GG.1 _ M_315).2.1.trans A_315
  replace S_315 : w44.2.2 (315) = jm_Ia (E.2.2 0) 24 := ((GG.1 _ M_315).2.2 (by decide)).trans S_315
  replace M_315 : (315) ∈ w44.1 := (GG.1 _ M_315).1
  replace A_316 : w44.2.1 (316) = a_316 := (GG.1 _ M_316).2.1.trans A_316
  replace S_316 : w44.2.2 (316) = jm_Ia (E.2.2 0) 12 := ((GG.1 _ M_316).2.2 (by decide)).trans S_316
  replace M_316 : (316) ∈ w44.1 := (GG.1 _ M_316).1
  replace A_317 : w44.2.1 (317) = a_317 := (GG.1 _ M_317).2.1.trans A_317
  replace S_317 : w44.2.2 (317) = jm_Ia (E.2.2 0) 12 := ((GG.1 _ M_317).2.2 (by decide)).trans S_317
  replace M_317 : (317) ∈ w44.1 := (GG.1 _ M_317).1
  replace A_318 : w44.2.1 (318) = a_318 := (GG.1 _ M_318).2.1.trans A_318
  replace S_318 : w44.2.2 (318) = jm_Ia (E.2.2 0) 12 := ((GG.1 _ M_318).2.2 (by decide)).trans S_318
  replace M_318 : (318) ∈ w44.1 := (GG.1 _ M_318).1
  replace A_319 : w44.2.1 (319) = a_319 := (GG.1 _ M_319).2.1.trans A_319
  replace S_319 : w44.2.2 (319) = jm_Ia (E.2.2 0) 12 := ((GG.1 _ M_319).2.2 (by decide)).trans S_319
  replace M_319 : (319) ∈ w44.1 := (GG.1 _ M_319).1
  replace A_320 : w44.2.1 (320) = a_320 := (GG.1 _ M_320).2.1.trans A_320
  replace S_320 : w44.2.2 (320) = jm_Ia (E.2.2 0) 72 := ((GG.1 _ M_320).2.2 (by decide)).trans S_320
  replace M_320 : (320) ∈ w44.1 := (GG.1 _ M_320).1
  replace A_321 : w44.2.1 (321) = a_321 := (GG.1 _ M_321).2.1.trans A_321
  replace S_321 : w44.2.2 (321) = jm_Ia (E.2.2 0) 6 := ((GG.1 _ M_321).2.2 (by decide)).trans S_321
  replace M_321 : (321) ∈ w44.1 := (GG.1 _ M_321).1
  replace A_322 : w44.2.1 (322) = a_322 := (GG.1 _ M_322).2.1.trans A_322
  replace S_322 : w44.2.2 (322) = jm_Ia (E.2.2 0) 6 := ((GG.1 _ M_322).2.2 (by decide)).trans S_322
  replace M_322 : (322) ∈ w44.1 := (GG.1 _ M_322).1
  replace A_323 : w44.2.1 (323) = a_323 := (GG.1 _ M_323).2.1.trans A_323
  replace S_323 : w44.2.2 (323) = jm_Ia (E.2.2 0) 6 := ((GG.1 _ M_323).2.2 (by decide)).trans S_323
  replace M_323 : (323) ∈ w44.1 := (GG.1 _ M_323).1
  replace A_324 : w44.2.1 (324) = a_324 := (GG.1 _ M_324).2.1.trans A_324
  replace S_324 : w44.2.2 (324) = jm_Ia (E.2.2 0) 549 := ((GG.1 _ M_324).2.2 (by decide)).trans S_324
  replace M_324 : (324) ∈ w44.1 := (GG.1 _ M_324).1
  replace A_325 : w44.2.1 (325) = a_325 := (GG.1 _ M_325).2.1.trans A_325
  replace S_325 : w44.2.2 (325) = jm_Ia (E.2.2 0) 6 := ((GG.1 _ M_325).2.2 (by decide)).trans S_325
  replace M_325 : (325) ∈ w44.1 := (GG.1 _ M_325).1
  replace A_326 : w44.2.1 (326) = a_326 := (GG.1 _ M_326).2.1.trans A_326
  replace S_326 : w44.2.2 (326) = jm_Ia (E.2.2 0) 6 := ((GG.1 _ M_326).2.2 (by decide)).trans S_326
  replace M_326 : (326) ∈ w44.1 := (GG.1 _ M_326).1
  replace A_327 : w44.2.1 (327) = a_327 := (GG.1 _ M_327).2.1.trans A_327
  replace S_327 : w44.2.2 (327) = jm_Ia (E.2.2 1) 12 := ((GG.1 _ M_327).2.2 (by decide)).trans S_327
  replace M_327 : (327) ∈ w44.1 := (GG.1 _ M_327).1
  replace GT : jm_gr w w44 (300) (hk_mn3) := jm_gr_tr GT GG (fun _ => rfl) (fun z e => e.elim id (fun e => e.elim))
  have S_300 : w44.2.2 (300) = jm_O 6 [none, none, none, none, none, some (.ref a_305), some (.ref a_306), some (.ref a_307), none, some (.ref a_309), some (.ref a_310), some (.ref a_311), some (.ref a_312), some (.ref a_313), some (.ref a_314), some (.ref a_315), some (.ref a_316), some (.ref a_317), some (.ref a_318), some (.ref a_319), some (.ref a_320), some (.ref a_321), some (.ref a_322), some (.ref a_323), some (.ref a_324), some (.ref a_325), some (.ref a_326), some (.ref a_327)] := by rw [hw44]; exact jm_sh_s
  clear hw44
  refine jm_iconst C dX6_init_190 ?_
  refine jm_istore_n C dX6_init_191 (by decide) ?_
  refine jm_iload_n C dX6_init_192 rfl ?_
  refine jm_iconst C dX6_init_193 ?_
  refine jm_icmp_ge 210 C dX6_init_194 rfl (by decide) (by decide) (fun c => ?_) (fun c => ?_)
  · exact absurd c (by decide)
  refine jm_aload_n C dX6_init_197 rfl ?_
  rw [← A_300]
  refine jm_getr (ci := 6) (f := 7) C rfl jw_u_6 M_300 S_300 rfl (by decide) jw_f_RX6_24 dX6_init_198 ?_
  try rw [A_300]
  refine jm_iload_n C dX6_init_201 rfl ?_
  refine jm_iconst C dX6_init_202 ?_
  rw [← A_307]
  refine jm_iast C M_307 rfl S_307 (by decide) (by decide) (by decide) dX6_init_203 (by decide) ?_
  try rw [A_307]
  refine jm_geni (fun J25 hJ25 => ?_)
  refine jm_iinc C dX6_init_204 (by decide) rfl ?_
  refine jm_goto 192 C dX6_init_207 rfl ?_
  refine jm_iload_n C dX6_init_192 rfl ?_
  refine jm_iconst C dX6_init_193 ?_
  refine jm_icmp_ge 210 C dX6_init_194 rfl (by decide) (by decide) (fun c => ?_) (fun c => ?_)
  · exact absurd c (by decide)
  refine jm_aload_n C dX6_init_197 rfl ?_
  rw [← A_300]
  refine jm_getr (ci := 6) (f := 7) C rfl jw_u_6 M_300 S_300 rfl (by decide) jw_f_RX6_24 dX6_init_198 ?_
  try rw [A_300]
  refine jm_iload_n C dX6_init_201 rfl ?_
  refine jm_iconst C dX6_init_202 ?_
  rw [← A_307]
  refine jm_iast C M_307 rfl S_307 (by decide) (by decide) (by decide) dX6_init_203 (by decide) ?_
  try rw [A_307]
  refine jm_geni (fun J26 hJ26 => ?_)
  refine jm_iinc C dX6_init_204 (by decide) rfl ?_
  refine jm_goto 192 C dX6_init_207 rfl ?_
  refine jm_iload_n C dX6_init_192 rfl ?_
  refine jm_iconst C dX6_init_193 ?_
  refine jm_icmp_ge 210 C dX6_init_194 rfl (by decide) (by decide) (fun c => ?_) (fun c => ?_)
  · exact absurd c (by decide)
  refine jm_aload_n C dX6_init_197 rfl ?_
  rw [← A_300]
  refine jm_getr (ci := 6) (f := 7) C rfl jw_u_6 M_300 S_300 rfl (by decide) jw_f_RX6_24 dX6_init_198 ?_
  try rw [A_300]
  refine jm_iload_n C dX6_init_201 rfl ?_
  refine jm_iconst C dX6_init_202 ?_
  rw [← A_307]
  refine jm_iast C M_307 rfl S_307 (by decide) (by decide) (by decide) dX6_init_203 (by decide) ?_
  try rw [A_307]
  refine jm_geni (fun J27 hJ27 => ?_)
  refine jm_iinc C dX6_init_204 (by decide) rfl ?_
  refine jm_goto 192 C dX6_init_207 rfl ?_
  refine jm_iload_n C dX6_init_192 rfl ?_
  refine jm_iconst C dX6_init_193 ?_
  refine jm_icmp_ge 210 C dX6_init_194 rfl (by decide) (by decide) (fun c => ?_) (fun c => ?_)
  rotate_left
  · exact absurd (show _ from by decide) c
  refine jm_wid (q' := (22, 2460)) (Nat.le_of_ble_eq_true rfl) (Nat.le_of_ble_eq_true rfl) ?_
  refine hR _ _ _ _ dX6_init_210 ⟨GT, ⟨⟨M_300, by rw [S_300, A_305, A_306, A_307, A_309, A_310, A_311, A_312, A_313, A_314, A_315, A_316, A_317, A_318, A_319, A_320, A_321, A_322, A_323, A_324, A_325, A_326, A_327]⟩, ⟨M_305, S_305⟩, ⟨M_306, S_306⟩, ⟨M_307, S_307⟩, ⟨M_309, S_309⟩, ⟨M_310, S_310⟩, ⟨M_311, S_311⟩, ⟨M_312, S_312⟩, ⟨M_313, S_313⟩, ⟨M_314, S_314⟩, ⟨M_315, S_315⟩, ⟨M_316, S_316⟩, ⟨M_317, S_317⟩, ⟨M_318, S_318⟩, ⟨M_319, S_319⟩, ⟨M_320, S_320⟩, ⟨M_321, S_321⟩, ⟨M_322, S_322⟩, ⟨M_323, S_323⟩, ⟨M_324, S_324⟩, ⟨M_325, S_325⟩, ⟨M_326, S_326⟩, ⟨M_327, S_327⟩⟩, ?_⟩
  refine ⟨fun b h1 h2 => ?_, ?_, ?_, fun b => ?_, fun a h1 h2 h3 h4 => ?_, fun a ha => ?_⟩
  · simp [hJ27, hJ26, hJ25, hJ24, hJ23, hJ22, hJ21, hJ20, hJ19, hJ18, hJ17, hJ16, hJ15, hJ14, hJ13, hJ12, hJ11, hJ10, hJ9, hJ8, hJ7, hJ6, hJ5, hJ4, hJ3, hJ2, hJ1, jm_up, jm_z, hk_fill, h1, h2]
  · simp [hJ27, hJ26, hJ25, hJ24, hJ23, hJ22, hJ21, hJ20, hJ19, hJ18, hJ17, hJ16, hJ15, hJ14, hJ13, hJ12, hJ11, hJ10, hJ9, hJ8, hJ7, hJ6, hJ5, hJ4, hJ3, hJ2, hJ1, jm_up, jm_z, hk_fill]
  · simp [hJ27, hJ26, hJ25, hJ24, hJ23, hJ22, hJ21, hJ20, hJ19, hJ18, hJ17, hJ16, hJ15, hJ14, hJ13, hJ12, hJ11, hJ10, hJ9, hJ8, hJ7, hJ6, hJ5, hJ4, hJ3, hJ2, hJ1, jm_up, jm_z, hk_fill]
  · by_cases q : 0 ≤ b ∧ b < 3
    · rw [if_pos q]
      rcases (show b = 0 ∨ b = 1 ∨ b = 2 by omega) with rfl | rfl | rfl <;> simp [hJ27, hJ26, hJ25, hJ24, hJ23, hJ22, hJ21, hJ20, hJ19, hJ18, hJ17, hJ16, hJ15, hJ14, hJ13, hJ12, hJ11, hJ10, hJ9, hJ8, hJ7, hJ6, hJ5, hJ4, hJ3, hJ2, hJ1, jm_up, jm_z, hk_fill]
    · rw [if_neg q]
      have q0 : ¬ b = 0 := by omega
      have q1 : ¬ b = 1 := by omega
      have q2 : ¬ b = 2 := by omega
      simp [hJ27, hJ26, hJ25, hJ24, hJ23, hJ22, hJ21, hJ20, hJ19, hJ18, hJ17, hJ16, hJ15, hJ14, hJ13, hJ12, hJ11, hJ10, hJ9, hJ8, hJ7, hJ6, hJ5, hJ4, hJ3, hJ2, hJ1, jm_up, jm_z, hk_fill, q0, q1, q2]
  · funext b
    rcases (show a = 305 ∨ a = 306 ∨ a = 309 ∨ a = 310 ∨ a = 311 ∨ a = 312 ∨ a = 313 ∨ a = 314 ∨ a = 315 ∨ a = 316 ∨ a = 317 ∨ a = 318 ∨ a = 319 ∨ a = 320 ∨ a = 321 ∨ a = 322 ∨ a = 323 ∨ a = 324 ∨ a = 325 ∨ a = 326 ∨ a = 327 by omega) with rfl | rfl | rfl | rfl | rfl | rfl | rfl | rfl | rfl | rfl | rfl | rfl | rfl | rfl | rfl | rfl | rfl | rfl | rfl | rfl | rfl <;> simp [hJ27, hJ26, hJ25, hJ24, hJ23, hJ22, hJ21, hJ20, hJ19, hJ18, hJ17, hJ16, hJ15, hJ14, hJ13, hJ12, hJ11, hJ10, hJ9, hJ8, hJ7, hJ6, hJ5, hJ4, hJ3, hJ2, hJ1, jm_up, jm_z, hk_fill]
  · funext b
    have e : ∀ c : Int, 300 ≤ c → ¬ a = c := fun c hc h => by omega
    simp [hJ27, hJ26, hJ25, hJ24, hJ23, hJ22, hJ21, hJ20, hJ19, hJ18, hJ17, hJ16, hJ15, hJ14, hJ13, hJ12, hJ11, hJ10, hJ9, hJ8, hJ7, hJ6, hJ5, hJ4, hJ3, hJ2, hJ1, jm_up, jm_z, hk_fill, e 300 (by decide), e 305 (by decide), e 306 (by decide), e 307 (by decide), e 309 (by decide), e 310 (by decide), e 311 (by decide), e 312 (by decide), e 313 (by decide), e 314 (by decide), e 315 (by decide), e 316 (by decide), e 317 (by decide), e 318 (by decide), e 319 (by decide), e 320 (by decide), e 321 (by decide), e 322 (by decide), e 323 (by decide), e 324 (by decide), e 325 (by decide), e 326 (by decide), e 327 (by decide)]
