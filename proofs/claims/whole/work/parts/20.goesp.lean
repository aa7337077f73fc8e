set_option maxRecDepth 100000 in
set_option maxHeartbeats 4000000 in
theorem kX6_goes (E : jm_E) (w : jm_W) (I : jm_M) (Q : jm_X6 E w) (slot lane wt turn low high : Int) (hsl : 0 ≤ slot ∧ slot < 6) (hla : 0 ≤ lane ∧ lane ≤ 8) (hwt : 0 ≤ wt ∧ wt ≤ 100) (htu : -1 ≤ turn ∧ turn ≤ 1) (hlo : jm_R low) (hhi : jm_R high) (hw : hk_w9 (I 324)) (hg : hk_good (I 325)) : jm_Mv E yX6_goes wX6_goes rmX6_goes 0 0 w I [.ref (w.2.1 300), jm_v slot, jm_v lane, jm_v wt, jm_v turn, jm_v low, jm_v high] (fun I' => (∀ a, a ≠ 324 → a ≠ 325 → I' a = I a) ∧ I' 324 = (hk_mch 7 (I 324) (I 325) slot lane 0 (10 * wt) turn low high).1 ∧ I' 325 = (hk_mch 7 (I 324) (I 325) slot lane 0 (10 * wt) turn low high).2 ∧ hk_w9 (I' 324) ∧ hk_good (I' 325)) := by
  refine jm_in_v (cc := cX6_goes) (maxL := 24) RX6 (by decide +kernel) rfl rfl (Nat.le_of_ble_eq_true rfl) (by simp [Value.category]) ?_
  intro G C hR hI
  refine jm_iload_n C dX6_goes_0 rfl ?_
  refine jm_istore C dX6_goes_1 (by decide) ?_
  refine jm_iload_n C dX6_goes_3 rfl ?_
  refine jm_istore C dX6_goes_4 (by decide) ?_
  refine jm_iconst C dX6_goes_6 ?_
  refine jm_istore C dX6_goes_7 (by decide) ?_
  refine jm_bipush C dX6_goes_9 (by decide +kernel) ?_
  refine jm_iload_n C dX6_goes_11 rfl ?_
  refine jm_imul C dX6_goes_12 ?_
  refine jm_istore C dX6_goes_13 (by decide) ?_
  refine jm_iload C dX6_goes_15 rfl ?_
  refine jm_istore C dX6_goes_17 (by decide) ?_
  refine jm_iload C dX6_goes_19 rfl ?_
  refine jm_istore C dX6_goes_21 (by decide) ?_
  refine jm_iload C dX6_goes_23 rfl ?_
  refine jm_istore C dX6_goes_25 (by decide) ?_
  have lp27 : ∀ (yn27 : Nat) (Mx : jm_M) (mover x0 y0 en0 tn lo hi : Int) (u : Nat), u < yn27 → (∀ a b, jm_R (Mx a b)) → (∀ a, a ≠ 324 → a ≠ 325 → Mx a = I a) → (hk_w9 (Mx 324)) → (hk_good (Mx 325)) → ((mover = -1 ∧ hk_mch 7 (I 324) (I 325) slot lane 0 (10 * wt) turn low high = (Mx 324, Mx 325)) ∨ (mover ≠ -1 ∧ (0 ≤ mover ∧ mover < 6) ∧ (0 ≤ x0 ∧ x0 ≤ 8) ∧ (0 ≤ y0 ∧ y0 ≤ 59) ∧ (0 ≤ en0 ∧ en0 ≤ 1000) ∧ (-1 ≤ tn ∧ tn ≤ 1) ∧ jm_R lo ∧ jm_R hi ∧ hk_mch u (Mx 324) (Mx 325) mover x0 y0 en0 tn lo hi = hk_mch 7 (I 324) (I 325) slot lane 0 (10 * wt) turn low high ∧ hk_ct (hk_pt (Mx 325) mover (-1)) y0 6 < u)) → jm_J E G (0, 0) w Mx 27 [(0, .ref (w.2.1 300)), (7, jm_v mover), (8, jm_v x0), (9, jm_v y0), (10, jm_v en0), (11, jm_v tn), (12, jm_v lo), (13, jm_v hi)] [] := by
    intro yn27
    induction yn27 with
    | zero => intro Mx mover x0 y0 en0 tn lo hi u hlt27 hIx hrow hw9x hgx hmv; exact absurd hlt27 (Nat.not_lt_zero _)
    | succ yn27 ih27 =>
      intro Mx mover x0 y0 en0 tn lo hi u hlt27 hIx hrow hw9x hgx hmv
      refine jm_iload C dX6_goes_27 rfl ?_
      refine jm_iconst C dX6_goes_29 ?_
      refine jm_icmp_eq 474 C dX6_goes_30 rfl (by omega) (by decide) (fun yc1 => ?_) (fun yc1 => ?_)
      · skip
        exact hR _ _ _ dX6_goes_474 ⟨hrow, by
            rcases hmv with ⟨q1, q2⟩ | q
            · rw [q2]; exact ⟨rfl, rfl, hw9x, hgx⟩
            · exact absurd q.1 (by omega)⟩
      · skip
        obtain ⟨hm1, hm2, hm3, hm4, hm5, hm6, hm7, hm8, hm9, hm10⟩ := hmv.resolve_left (fun q => by have := q.1; omega)
        refine jm_iconst C dX6_goes_33 ?_
        refine jm_istore C dX6_goes_34 (by decide) ?_
        refine jm_iconst C dX6_goes_36 ?_
        refine jm_istore C dX6_goes_37 (by decide) ?_
        refine jm_iconst C dX6_goes_39 ?_
        refine jm_istore C dX6_goes_40 (by decide) ?_
        refine jm_iconst C dX6_goes_42 ?_
        refine jm_istore C dX6_goes_43 (by decide) ?_
        refine jm_iconst C dX6_goes_45 ?_
        refine jm_istore C dX6_goes_46 (by decide) ?_
        refine jm_aload_n C dX6_goes_48 rfl ?_
        refine jm_getr (ci := 6) (f := 25) C rfl jw_u_6 Q.1.1 Q.1.2 rfl (by decide) jw_f_RX6_75 dX6_goes_49 ?_
        refine jm_iload C dX6_goes_52 rfl ?_
        refine jm_iconst C dX6_goes_54 ?_
        refine jm_iast C (jm_X6_325 Q).1 rfl (jm_X6_325 Q).2 (by omega) (by omega) (by omega) dX6_goes_55 (by decide) ?_
        obtain ⟨Mo, hMo⟩ : ∃ X, X = jm_up Mx 325 mover (-1) := ⟨_, rfl⟩
        rw [← hMo]
        have hIo : ∀ a b, jm_R (Mo a b) := by rw [hMo]; exact jm_upR hIx (by decide)
        have ho1 : ∀ a, a ≠ 325 → Mo a = Mx a := fun a ha => by rw [hMo]; funext b; exact jm_up_n (Or.inl ha)
        have ho2 : Mo 325 = hk_pt (Mx 325) mover (-1) := by
          rw [hMo]; funext b; unfold hk_pt
          by_cases hb : b = mover
          · subst hb; rw [if_pos rfl, jm_up_s]
          · rw [if_neg hb, jm_up_n (Or.inr hb)]
        obtain ⟨fm, hfm⟩ : ∃ X, X = hk_pt (Mx 325) mover (-1) := ⟨_, rfl⟩
        rw [← hfm] at ho2
        have lp56 : ∀ (yn56 : Nat) (M : jm_M) (x y en st nx gv go mo : Int) (v : Nat), v < yn56 → (∀ a b, jm_R (M a b)) → (∀ a, a ≠ 324 → M a = Mo a) → (hk_w9 (M 324)) → ((go = 0 ∨ go = 1) ∧ (mo = 0 ∨ mo = 1) ∧ jm_R nx ∧ jm_R gv) → (hk_in (hk_mR (Mx 324) (Mx 325) mover x0 y0 en0 tn lo hi) (hk_mst fm) tn lo hi (M 324) x y en st nx gv go mo) → (mo = 1 → 61 - y ≤ v) → jm_J E G (0, 0) w M 56 [(0, .ref (w.2.1 300)), (7, jm_v mover), (8, jm_v x), (9, jm_v y), (10, jm_v en), (11, jm_v tn), (12, jm_v lo), (13, jm_v hi), (14, jm_v nx), (15, jm_v gv), (16, jm_v st), (17, jm_v go), (18, jm_v mo)] [] := by
          intro yn56
          induction yn56 with
          | zero => intro M x y en st nx gv go mo v hlt56 hIM hM hw9 h01 hin hv; exact absurd hlt56 (Nat.not_lt_zero _)
          | succ yn56 ih56 =>
            intro M x y en st nx gv go mo v hlt56 hIM hM hw9 h01 hin hv
            have h325 : M 325 = fm := (hM _ (by decide)).trans ho2
            refine jm_iload C dX6_goes_56 rfl ?_
            refine jm_if_eq 393 C dX6_goes_58 rfl (by omega) (fun yc2 => ?_) (fun yc2 => ?_)
            · skip
              obtain ⟨hmo, hf1, hf2, hf3, hf4, hf5, hf6⟩ := hin.resolve_left (fun q => by have := q.1; omega)
              refine jm_aload_n C dX6_goes_393 rfl ?_
              refine jm_getr (ci := 6) (f := 25) C rfl jw_u_6 Q.1.1 Q.1.2 rfl (by decide) jw_f_RX6_75 dX6_goes_394 ?_
              refine jm_iload C dX6_goes_397 rfl ?_
              refine jm_iload C dX6_goes_399 rfl ?_
              have yj5 : ∀ (yz4 : Int), ((go = 0 ∧ 30 ≤ y ∧ yz4 = ((100 * x) + y)) ∨ (go = 0 ∧ ¬ (30 ≤ y) ∧ yz4 = (-1)) ∨ (¬ (go = 0) ∧ yz4 = (-1))) → jm_R yz4 → jm_J E G (0, 0) w M 423 [(0, .ref (w.2.1 300)), (8, jm_v x), (9, jm_v y), (10, jm_v en), (11, jm_v tn), (12, jm_v lo), (13, jm_v hi), (14, jm_v nx), (15, jm_v gv)] [jm_v yz4, jm_v mover, .ref (w.2.1 325)] := by
                intro yz4 ye6 ryz4
                refine jm_iast C (jm_X6_325 Q).1 rfl (jm_X6_325 Q).2 (by omega) (by omega) (by omega) dX6_goes_423 (by omega) ?_
                obtain ⟨Mz, hMz⟩ : ∃ X, X = jm_up M 325 mover yz4 := ⟨_, rfl⟩
                rw [← hMz]
                have htd := hk_T_all2 (hk_mst (hk_pt (Mx 325) mover (-1))) tn lo hi 60 (Mx 324) x0 y0 en0 0 hw9x hm3 hm4 hm5.1
                have hstep := fun q => hk_mstep (tn := tn) (lo := lo) (hi := hi) (mv := mover) hw9x hgx hm3 hm4 hm5 q
                rw [show hk_T (hk_mst (hk_pt (Mx 325) mover (-1))) tn lo hi 60 (Mx 324) x0 y0 en0 0 = hk_mR (Mx 324) (Mx 325) mover x0 y0 en0 tn lo hi from rfl] at htd
                have z1f : hk_mf (Mx 324) (Mx 325) mover x0 y0 en0 tn lo hi = hk_pt (hk_pt (Mx 325) mover (-1)) mover (hk_mR (Mx 324) (Mx 325) mover x0 y0 en0 tn lo hi).2.1 := rfl
                obtain ⟨u1, rfl⟩ : ∃ u1, u = u1 + 1 := ⟨u - 1, by omega⟩
                rw [hk_mch] at hm9
                obtain ⟨R, hRd⟩ : ∃ X, X = hk_mR (Mx 324) (Mx 325) mover x0 y0 en0 tn lo hi := ⟨_, rfl⟩
                rw [← hRd] at hf1 hf2 hf3 hf4 htd hm9 z1f hstep
                clear hRd
                obtain ⟨R1, R2, R3, R4⟩ := R
                dsimp only at hf1 hf2 hf3 hf4 htd hm9 z1f hstep
                have htd1 : hk_ok R2 := htd.1
                have htd2 : hk_w9 R1 := htd.2.1
                clear htd
                have hz : yz4 = R2 := by
                  clear hstep hm9
                  rw [hf2]
                  by_cases hg0 : go = 0
                  · rw [if_pos hg0]
                    unfold hk_rest
                    by_cases h30 : y < 30
                    · rw [if_pos h30]; omega
                    · rw [if_neg h30]; omega
                  · rw [if_neg hg0]; omega
                have z1 : Mz 325 = hk_mf (Mx 324) (Mx 325) mover x0 y0 en0 tn lo hi := by
                  rw [z1f, ← hz, ← hfm, hMz]
                  funext b
                  unfold hk_pt
                  by_cases hb : b = mover
                  · subst hb; rw [if_pos rfl, jm_up_s]
                  · rw [if_neg hb, jm_up_n (Or.inr hb), h325]
                have z2 : Mz 324 = R1 := by rw [hMz, hf1]; funext b; exact jm_up_n (Or.inl (by decide))
                have hIz : ∀ a b, jm_R (Mz a b) := by rw [hMz]; exact jm_upR hIM (by omega)
                have hrowz : ∀ a, a ≠ 324 → a ≠ 325 → Mz a = I a := fun a h1 h2 => by
                  rw [hMz]; funext b; rw [jm_up_n (Or.inl h2), hM a h1, ho1 a h2, hrow a h1 h2]
                have hw9z : hk_w9 (Mz 324) := by rw [z2]; exact htd2
                have hgz : hk_good (Mz 325) := by rw [z1, z1f]; exact hk_good_pt (hk_good_pm hgx mover) mover htd1
                have hcl : (nx = -1 ∧ hk_mch 7 (I 324) (I 325) slot lane 0 (10 * wt) turn low high = (Mz 324, Mz 325)) ∨ (nx ≠ -1 ∧ (0 ≤ nx ∧ nx < 6) ∧ (0 ≤ (Mz 325 nx).tdiv 100 ∧ (Mz 325 nx).tdiv 100 ≤ 8) ∧ (0 ≤ (Mz 325 nx).tmod 100 ∧ (Mz 325 nx).tmod 100 ≤ 59) ∧ (0 ≤ gv ∧ gv ≤ 1000) ∧ (-1 ≤ (0 : Int) ∧ (0 : Int) ≤ 1) ∧ jm_R 1 ∧ jm_R 0 ∧ hk_mch u1 (Mz 324) (Mz 325) nx ((Mz 325 nx).tdiv 100) ((Mz 325 nx).tmod 100) gv 0 1 0 = hk_mch 7 (I 324) (I 325) slot lane 0 (10 * wt) turn low high ∧ hk_ct (hk_pt (Mz 325) nx (-1)) ((Mz 325 nx).tmod 100) 6 < u1) := by
                  by_cases hq : nx = -1
                  · rw [if_pos (hf3.trans hq)] at hm9
                    exact Or.inl ⟨hq, by rw [← hm9, z1, z2]⟩
                  · rw [if_neg (fun e => hq (hf3.symm.trans e))] at hm9
                    obtain ⟨xj, yj, s1, s2, s3, s4, s5, s6, s7, s8, s9, s10, s11, s12⟩ := hstep (fun e => hq (hf3.symm.trans e))
                    have hgv := hf4 hq
                    clear hstep
                    rw [← z1, hf3] at hm9 s8 s9 s10 s12
                    rw [hf3] at s6 s7
                    rw [← z2, ← hgv] at hm9
                    refine Or.inr ⟨hq, s6, ?_, ?_, ?_, by decide, by decide, by decide, hm9, ?_⟩
                    · rw [s9]; exact ⟨s1, s2⟩
                    · rw [s10]; exact ⟨by omega, s5⟩
                    · rw [hgv]; exact s11
                    · rw [s10]; omega
                clear hstep hm9 hf4
                refine jm_iload C dX6_goes_424 rfl ?_
                refine jm_istore C dX6_goes_426 (by decide) ?_
                refine jm_iload C dX6_goes_428 rfl ?_
                refine jm_iconst C dX6_goes_430 ?_
                refine jm_icmp_eq 471 C dX6_goes_431 rfl (by omega) (by decide) (fun yc7 => ?_) (fun yc7 => ?_)
                · skip
                  have hmvz := hcl.resolve_right (fun q => q.1 (by omega))
                  refine jm_goto 27 C dX6_goes_471 rfl ?_
                  refine jm_lvs (lv' := [(0, _), (7, _), (8, _), (9, _), (10, _), (11, _), (12, _), (13, _)]) (jm_sub_c rfl (jm_sub_c rfl (jm_sub_c rfl (jm_sub_c rfl (jm_sub_c rfl (jm_sub_c rfl (jm_sub_c rfl (jm_sub_c rfl (jm_sub_0 _))))))))) ?_
                  exact ih27 _ _ _ _ _ _ _ _ u1 (by omega) hIz hrowz hw9z hgz (Or.inl hmvz)
                · skip
                  refine jm_aload_n C dX6_goes_434 rfl ?_
                  refine jm_getr (ci := 6) (f := 25) C rfl jw_u_6 Q.1.1 Q.1.2 rfl (by decide) jw_f_RX6_75 dX6_goes_435 ?_
                  refine jm_iload C dX6_goes_438 rfl ?_
                  refine jm_iald C (jm_X6_325 Q).1 rfl (jm_X6_325 Q).2 (by omega) (by omega) (by omega) dX6_goes_440 (fun yr8 => ?_)
                  refine jm_bipush C dX6_goes_441 (by decide +kernel) ?_
                  refine jm_idiv C dX6_goes_443 (by omega) (by decide) (by decide) ?_
                  refine jm_istore C dX6_goes_444 (by decide) ?_
                  refine jm_aload_n C dX6_goes_446 rfl ?_
                  refine jm_getr (ci := 6) (f := 25) C rfl jw_u_6 Q.1.1 Q.1.2 rfl (by decide) jw_f_RX6_75 dX6_goes_447 ?_
                  refine jm_iload C dX6_goes_450 rfl ?_
                  refine jm_iald C (jm_X6_325 Q).1 rfl (jm_X6_325 Q).2 (by omega) (by omega) (by omega) dX6_goes_452 (fun yr9 => ?_)
                  refine jm_bipush C dX6_goes_453 (by decide +kernel) ?_
                  refine jm_irem C dX6_goes_455 (by omega) (by decide) (by decide) ?_
                  refine jm_istore C dX6_goes_456 (by decide) ?_
                  refine jm_iload C dX6_goes_458 rfl ?_
                  refine jm_istore C dX6_goes_460 (by decide) ?_
                  refine jm_iconst C dX6_goes_462 ?_
                  refine jm_istore C dX6_goes_463 (by decide) ?_
                  refine jm_iconst C dX6_goes_465 ?_
                  refine jm_istore C dX6_goes_466 (by decide) ?_
                  refine jm_iconst C dX6_goes_468 ?_
                  refine jm_istore C dX6_goes_469 (by decide) ?_
                  have hmvz := hcl.resolve_left (fun q => absurd q.1 (by omega))
                  refine jm_goto 27 C dX6_goes_471 rfl ?_
                  refine jm_lvs (lv' := [(0, _), (7, _), (8, _), (9, _), (10, _), (11, _), (12, _), (13, _)]) (jm_sub_c rfl (jm_sub_c rfl (jm_sub_c rfl (jm_sub_c rfl (jm_sub_c rfl (jm_sub_c rfl (jm_sub_c rfl (jm_sub_c rfl (jm_sub_0 _))))))))) ?_
                  exact ih27 _ _ _ _ _ _ _ _ u1 (by omega) hIz hrowz hw9z hgz (Or.inr hmvz)
              refine jm_if_ne 411 C dX6_goes_401 rfl (by omega) (fun yc3 => ?_) (fun yc3 => ?_)
              · skip
                refine jm_iconst C dX6_goes_411 ?_
                refine jm_goto 423 C dX6_goes_412 rfl ?_
                refine jm_lvs (lv' := [(0, _), (8, _), (9, _), (10, _), (11, _), (12, _), (13, _), (14, _), (15, _)]) (jm_sub_c rfl (jm_sub_c rfl (jm_sub_c rfl (jm_sub_c rfl (jm_sub_c rfl (jm_sub_c rfl (jm_sub_c rfl (jm_sub_c rfl (jm_sub_c rfl (jm_sub_0 _)))))))))) ?_
                exact yj5 _ (Or.inr (Or.inr ⟨yc3, rfl⟩)) (by decide)
              · skip
                refine jm_iload C dX6_goes_404 rfl ?_
                refine jm_bipush C dX6_goes_406 (by decide +kernel) ?_
                refine jm_icmp_ge 415 C dX6_goes_408 rfl (by omega) (by decide) (fun yc10 => ?_) (fun yc10 => ?_)
                · skip
                  refine jm_bipush C dX6_goes_415 (by decide +kernel) ?_
                  refine jm_iload C dX6_goes_417 rfl ?_
                  refine jm_imul C dX6_goes_419 ?_
                  refine jm_iload C dX6_goes_420 rfl ?_
                  refine jm_iadd C dX6_goes_422 ?_
                  refine jm_lvs (lv' := [(0, _), (8, _), (9, _), (10, _), (11, _), (12, _), (13, _), (14, _), (15, _)]) (jm_sub_c rfl (jm_sub_c rfl (jm_sub_c rfl (jm_sub_c rfl (jm_sub_c rfl (jm_sub_c rfl (jm_sub_c rfl (jm_sub_c rfl (jm_sub_c rfl (jm_sub_0 _)))))))))) ?_
                  exact yj5 _ (Or.inl ⟨yc3, yc10, rfl⟩) (by omega)
                · skip
                  refine jm_iconst C dX6_goes_411 ?_
                  refine jm_goto 423 C dX6_goes_412 rfl ?_
                  refine jm_lvs (lv' := [(0, _), (8, _), (9, _), (10, _), (11, _), (12, _), (13, _), (14, _), (15, _)]) (jm_sub_c rfl (jm_sub_c rfl (jm_sub_c rfl (jm_sub_c rfl (jm_sub_c rfl (jm_sub_c rfl (jm_sub_c rfl (jm_sub_c rfl (jm_sub_c rfl (jm_sub_0 _)))))))))) ?_
                  exact yj5 _ (Or.inr (Or.inl ⟨yc3, yc10, rfl⟩)) (by decide)
            · skip
              obtain ⟨hmo, hnx, hgo, hx, hy, hen, hst, sp, n, hT, hn, hsp⟩ := hin.resolve_right (fun q => by have := q.1; omega)
              obtain ⟨n1, rfl⟩ : ∃ n1, n = n1 + 1 := ⟨n - 1, by omega⟩
              rw [hk_T] at hT
              have hcell : M 324 (((61 * x) + y) + 1) = M 324 (x * 61 + (y + 1)) := by congr 1; omega
              have h9 := hw9 (x * 61 + (y + 1))
              refine jm_bipush C dX6_goes_61 (by decide +kernel) ?_
              refine jm_iload C dX6_goes_63 rfl ?_
              refine jm_imul C dX6_goes_65 ?_
              refine jm_iload C dX6_goes_66 rfl ?_
              refine jm_iadd C dX6_goes_68 ?_
              refine jm_iconst C dX6_goes_69 ?_
              refine jm_iadd C dX6_goes_70 ?_
              refine jm_istore C dX6_goes_71 (by decide) ?_
              refine jm_bipush C dX6_goes_73 (by decide +kernel) ?_
              refine jm_aload_n C dX6_goes_75 rfl ?_
              refine jm_getr (ci := 6) (f := 24) C rfl jw_u_6 Q.1.1 Q.1.2 rfl (by decide) jw_f_RX6_72 dX6_goes_76 ?_
              refine jm_iload C dX6_goes_79 rfl ?_
              refine jm_iald C (jm_X6_324 Q).1 rfl (jm_X6_324 Q).2 (by omega) (by omega) (by omega) dX6_goes_81 (fun yr11 => ?_)
              refine jm_iadd C dX6_goes_82 ?_
              refine jm_iload C dX6_goes_83 rfl ?_
              refine jm_iconst C dX6_goes_85 ?_
              refine jm_iadd C dX6_goes_86 ?_
              refine jm_iload C dX6_goes_87 rfl ?_
              refine jm_iload C dX6_goes_89 rfl ?_
              refine jm_cSd (n := 3) [jm_v (10 + (M 324 (((61 * x) + y) + 1)))] C (kX6_in E w M _ _ _ (by omega) (by omega) (by omega)) jw_m_RX6_90 okX6_in rfl ⟨rfl, rfl⟩ ⟨Nat.le_of_ble_eq_true rfl, Nat.le_of_ble_eq_true rfl⟩ rfl rfl (Nat.le_of_ble_eq_true rfl) dX6_goes_91 ⟨Nat.le_of_ble_eq_true rfl, Nat.le_of_ble_eq_true rfl⟩ (fun yz13 yh12 => ?_)
              have yj16 : ∀ (yz15 : Int), ((yz13 = 0 ∧ yz15 = 0) ∨ (¬ (yz13 = 0) ∧ yz15 = 3)) → jm_R yz15 → jm_J E G (0, 0) w M 102 [(0, .ref (w.2.1 300)), (7, jm_v mover), (8, jm_v x), (9, jm_v y), (10, jm_v en), (11, jm_v tn), (12, jm_v lo), (13, jm_v hi), (14, jm_v nx), (15, jm_v gv), (16, jm_v st), (17, jm_v go), (19, jm_v (((61 * x) + y) + 1))] [jm_v yz15, jm_v (10 + (M 324 (((61 * x) + y) + 1)))] := by
                intro yz15 ye17 ryz15
                refine jm_isub C dX6_goes_102 ?_
                have hcst : hk_cst (M 324) lo hi x (y + 1) = (10 + (M 324 (((61 * x) + y) + 1))) - yz15 := by unfold hk_cst; split <;> omega
                rw [hcst] at hT
                refine jm_istore C dX6_goes_103 (by decide) ?_
                refine jm_aload_n C dX6_goes_105 rfl ?_
                refine jm_iload C dX6_goes_106 rfl ?_
                refine jm_iload C dX6_goes_108 rfl ?_
                refine jm_iconst C dX6_goes_110 ?_
                refine jm_iadd C dX6_goes_111 ?_
                refine jm_cVd (n := 2) (ci := 6) [] C (kX6_stoneAt E w M Q _ _ (by omega) (by omega)) jw_m_RX6_111 okX6_stoneAt rfl ⟨rfl, rfl⟩ ⟨Nat.le_of_ble_eq_true rfl, Nat.le_of_ble_eq_true rfl⟩ rfl Q.1.1 Q.1.2 rfl rfl (Nat.le_of_ble_eq_true rfl) dX6_goes_112 ⟨Nat.le_of_ble_eq_true rfl, Nat.le_of_ble_eq_true rfl⟩ (fun yz19 yh18 => ?_)
                rw [h325] at yh18
                subst yh18
                have yh18r : -1 ≤ hk_mst fm x (y + 1) ∧ hk_mst fm x (y + 1) < (6 : Nat) := hk_last_r fm (100 * x + (y + 1)) 6
                refine jm_istore C dX6_goes_115 (by decide) ?_
                refine jm_iload C dX6_goes_117 rfl ?_
                refine jm_iload C dX6_goes_119 rfl ?_
                refine jm_icmp_ge 130 C dX6_goes_121 rfl (by omega) (by omega) (fun yc20 => ?_) (fun yc20 => ?_)
                · skip
                  refine jm_iload C dX6_goes_130 rfl ?_
                  refine jm_iconst C dX6_goes_132 ?_
                  refine jm_icmp_eq 154 C dX6_goes_133 rfl (by omega) (by decide) (fun yc21 => ?_) (fun yc21 => ?_)
                  · skip
                    refine jm_iinc C dX6_goes_154 (by decide) rfl ?_
                    refine jm_iload C dX6_goes_157 rfl ?_
                    refine jm_iload C dX6_goes_159 rfl ?_
                    refine jm_isub C dX6_goes_161 ?_
                    refine jm_istore C dX6_goes_162 (by decide) ?_
                    refine jm_aload_n C dX6_goes_164 rfl ?_
                    refine jm_getr (ci := 6) (f := 24) C rfl jw_u_6 Q.1.1 Q.1.2 rfl (by decide) jw_f_RX6_72 dX6_goes_165 ?_
                    refine jm_iload C dX6_goes_168 rfl ?_
                    refine jm_dup2 C dX6_goes_170 rfl rfl ?_
                    refine jm_iald C (jm_X6_324 Q).1 rfl (jm_X6_324 Q).2 (by omega) (by omega) (by omega) dX6_goes_171 (fun yr22 => ?_)
                    refine jm_aload_n C dX6_goes_172 rfl ?_
                    refine jm_getr (ci := 6) (f := 24) C rfl jw_u_6 Q.1.1 Q.1.2 rfl (by decide) jw_f_RX6_72 dX6_goes_173 ?_
                    refine jm_iload C dX6_goes_176 rfl ?_
                    refine jm_iald C (jm_X6_324 Q).1 rfl (jm_X6_324 Q).2 (by omega) (by omega) (by omega) dX6_goes_178 (fun yr23 => ?_)
                    refine jm_bipush C dX6_goes_179 (by decide +kernel) ?_
                    have yj26 : ∀ (yz25 : Int), ((9 ≤ M 324 (((61 * x) + y) + 1) ∧ yz25 = 0) ∨ (¬ (9 ≤ M 324 (((61 * x) + y) + 1)) ∧ yz25 = 1)) → jm_R yz25 → jm_J E G (0, 0) w M 189 [(0, .ref (w.2.1 300)), (7, jm_v mover), (8, jm_v x), (9, jm_v (y + 1)), (10, jm_v (en - ((10 + (M 324 (((61 * x) + y) + 1))) - yz15))), (11, jm_v tn), (12, jm_v lo), (13, jm_v hi), (14, jm_v nx), (15, jm_v gv), (16, jm_v st)] [jm_v yz25, jm_v (M 324 (((61 * x) + y) + 1)), jm_v (((61 * x) + y) + 1), .ref (w.2.1 324)] := by
                      intro yz25 ye27 ryz25
                      refine jm_iadd C dX6_goes_189 ?_
                      refine jm_iast C (jm_X6_324 Q).1 rfl (jm_X6_324 Q).2 (by omega) (by omega) (by omega) dX6_goes_190 (by omega) ?_
                      have hrow : jm_up M 324 (((61 * x) + y) + 1) ((M 324 (((61 * x) + y) + 1)) + yz25) 324 = hk_wW (M 324) (x * 61 + (y + 1)) := by
                        rw [show (((61 * x) + y) + 1) = x * 61 + (y + 1) by omega]
                        exact hk_ww_row (by rw [← hcell]; omega)
                      obtain ⟨N, hN⟩ : ∃ X, X = jm_up M 324 (((61 * x) + y) + 1) ((M 324 (((61 * x) + y) + 1)) + yz25) := ⟨_, rfl⟩
                      rw [← hN] at hrow ⊢
                      have hIN : ∀ a b, jm_R (N a b) := by rw [hN]; exact jm_upR hIM (by omega)
                      have hN1 : ∀ a, a ≠ 324 → N a = M a := fun a ha => by rw [hN]; funext b; exact jm_up_n (Or.inl ha)
                      have hN25 : N 325 = fm := (hN1 _ (by decide)).trans h325
                      have hN9 : hk_w9 (N 324) := by rw [hrow]; exact hk_w9_w hw9 _
                      rw [if_neg (by omega), if_neg (fun q => by omega), ← hrow] at hT
                      refine jm_iload C dX6_goes_191 rfl ?_
                      refine jm_iload C dX6_goes_193 rfl ?_
                      refine jm_iload C dX6_goes_195 rfl ?_
                      refine jm_cSd (n := 3) [] C (kX6_in E w N _ _ _ (by omega) (by omega) (by omega)) jw_m_RX6_90 okX6_in rfl ⟨rfl, rfl⟩ ⟨Nat.le_of_ble_eq_true rfl, Nat.le_of_ble_eq_true rfl⟩ rfl rfl (Nat.le_of_ble_eq_true rfl) dX6_goes_197 ⟨Nat.le_of_ble_eq_true rfl, Nat.le_of_ble_eq_true rfl⟩ (fun yz29 yh28 => ?_)
                      refine jm_istore C dX6_goes_200 (by decide) ?_
                      refine jm_iload C dX6_goes_202 rfl ?_
                      refine jm_iload C dX6_goes_204 rfl ?_
                      have yj32 : ∀ (yz31 : Int), ((yz29 = 0 ∧ yz31 = 1) ∨ (¬ (yz29 = 0) ∧ yz31 = 0)) → jm_R yz31 → jm_J E G (0, 0) w N 214 [(0, .ref (w.2.1 300)), (7, jm_v mover), (8, jm_v x), (9, jm_v (y + 1)), (10, jm_v (en - ((10 + (M 324 (((61 * x) + y) + 1))) - yz15))), (11, jm_v tn), (12, jm_v lo), (13, jm_v hi), (14, jm_v nx), (15, jm_v gv), (22, jm_v yz29)] [jm_v yz31, jm_v st] := by
                        intro yz31 ye33 ryz31
                        refine jm_iadd C dX6_goes_214 ?_
                        refine jm_istore C dX6_goes_215 (by decide) ?_
                        refine jm_iload C dX6_goes_217 rfl ?_
                        refine jm_bipush C dX6_goes_219 (by decide +kernel) ?_
                        have yj36 : ∀ (yz35 : Int), ((y + 1 = 60 ∧ yz35 = 1) ∨ (¬ (y + 1 = 60) ∧ yz35 = 0)) → jm_R yz35 → jm_J E G (0, 0) w N 229 [(0, .ref (w.2.1 300)), (7, jm_v mover), (8, jm_v x), (9, jm_v (y + 1)), (10, jm_v (en - ((10 + (M 324 (((61 * x) + y) + 1))) - yz15))), (11, jm_v tn), (12, jm_v lo), (13, jm_v hi), (14, jm_v nx), (15, jm_v gv), (16, jm_v (st + yz31)), (22, jm_v yz29)] [jm_v yz35] := by
                          intro yz35 ye37 ryz35
                          refine jm_istore C dX6_goes_229 (by decide) ?_
                          refine jm_iload C dX6_goes_231 rfl ?_
                          have yj40 : ∀ (yz39 : Int), ((yz35 = 0 ∧ yz39 = 1) ∨ (¬ (yz35 = 0) ∧ yz39 = 0)) → jm_R yz39 → jm_J E G (0, 0) w N 241 [(0, .ref (w.2.1 300)), (7, jm_v mover), (8, jm_v x), (9, jm_v (y + 1)), (10, jm_v (en - ((10 + (M 324 (((61 * x) + y) + 1))) - yz15))), (11, jm_v tn), (12, jm_v lo), (13, jm_v hi), (14, jm_v nx), (15, jm_v gv), (16, jm_v (st + yz31)), (17, jm_v yz35), (22, jm_v yz29)] [jm_v yz39] := by
                            intro yz39 ye41 ryz39
                            refine jm_istore C dX6_goes_241 (by decide) ?_
                            refine jm_iload C dX6_goes_243 rfl ?_
                            refine jm_if_eq 390 C dX6_goes_245 rfl (by omega) (fun yc42 => ?_) (fun yc42 => ?_)
                            · skip
                              refine jm_goto 56 C dX6_goes_390 rfl ?_
                              refine jm_lvs (lv' := [(0, _), (7, _), (8, _), (9, _), (10, _), (11, _), (12, _), (13, _), (14, _), (15, _), (16, _), (17, _), (18, _)]) (jm_sub_c rfl (jm_sub_c rfl (jm_sub_c rfl (jm_sub_c rfl (jm_sub_c rfl (jm_sub_c rfl (jm_sub_c rfl (jm_sub_c rfl (jm_sub_c rfl (jm_sub_c rfl (jm_sub_c rfl (jm_sub_c rfl (jm_sub_c rfl (jm_sub_0 _)))))))))))))) ?_
                              exact ih56 _ _ _ _ _ _ _ _ _ (v - 1) (by omega) (by first | exact hIN | exact hIM) (fun a ha => by first | exact hM a ha | exact (hN1 a ha).trans (hM a ha)) (by first | exact hN9 | exact hw9) (by omega) (Or.inr ⟨by omega, hk_fin1 (by rw [if_pos (by omega)] at hT; exact hT) (by omega) hnx hx (by omega)⟩) (by omega)
                            · skip
                              refine jm_iload C dX6_goes_248 rfl ?_
                              refine jm_if_eq 390 C dX6_goes_250 rfl (by omega) (fun yc43 => ?_) (fun yc43 => ?_)
                              · skip
                                refine jm_goto 56 C dX6_goes_390 rfl ?_
                                refine jm_lvs (lv' := [(0, _), (7, _), (8, _), (9, _), (10, _), (11, _), (12, _), (13, _), (14, _), (15, _), (16, _), (17, _), (18, _)]) (jm_sub_c rfl (jm_sub_c rfl (jm_sub_c rfl (jm_sub_c rfl (jm_sub_c rfl (jm_sub_c rfl (jm_sub_c rfl (jm_sub_c rfl (jm_sub_c rfl (jm_sub_c rfl (jm_sub_c rfl (jm_sub_c rfl (jm_sub_c rfl (jm_sub_0 _)))))))))))))) ?_
                                exact ih56 _ _ _ _ _ _ _ _ _ (v - 1) (by omega) (by first | exact hIN | exact hIM) (fun a ha => by first | exact hM a ha | exact (hN1 a ha).trans (hM a ha)) (by first | exact hN9 | exact hw9) (by omega) (Or.inl ⟨by omega, hnx, by omega, hx, by omega, by omega, by omega, sp, n1, by rw [if_neg (by omega), if_pos (Or.inl (by omega))] at hT; exact hT, by omega, fun q => absurd (by omega) q⟩) (by omega)
                              · skip
                                refine jm_iload C dX6_goes_253 rfl ?_
                                refine jm_if_ne 390 C dX6_goes_255 rfl (by omega) (fun yc44 => ?_) (fun yc44 => ?_)
                                · skip
                                  refine jm_goto 56 C dX6_goes_390 rfl ?_
                                  refine jm_lvs (lv' := [(0, _), (7, _), (8, _), (9, _), (10, _), (11, _), (12, _), (13, _), (14, _), (15, _), (16, _), (17, _), (18, _)]) (jm_sub_c rfl (jm_sub_c rfl (jm_sub_c rfl (jm_sub_c rfl (jm_sub_c rfl (jm_sub_c rfl (jm_sub_c rfl (jm_sub_c rfl (jm_sub_c rfl (jm_sub_c rfl (jm_sub_c rfl (jm_sub_c rfl (jm_sub_c rfl (jm_sub_0 _)))))))))))))) ?_
                                  exact ih56 _ _ _ _ _ _ _ _ _ (v - 1) (by omega) (by first | exact hIN | exact hIM) (fun a ha => by first | exact hM a ha | exact (hN1 a ha).trans (hM a ha)) (by first | exact hN9 | exact hw9) (by omega) (Or.inl ⟨by omega, hnx, by omega, hx, by omega, by omega, by omega, sp, n1, by rw [if_neg (by omega), if_pos (Or.inr (by omega))] at hT; exact hT, by omega, fun q => by have := hsp q; omega⟩) (by omega)
                                · skip
                                  refine jm_iload C dX6_goes_258 rfl ?_
                                  refine jm_bipush C dX6_goes_260 (by decide +kernel) ?_
                                  refine jm_icmp_ge 280 C dX6_goes_262 rfl (by omega) (by decide) (fun yc45 => ?_) (fun yc45 => ?_)
                                  · skip
                                    refine jm_iload C dX6_goes_280 rfl ?_
                                    refine jm_iload C dX6_goes_282 rfl ?_
                                    refine jm_iadd C dX6_goes_284 ?_
                                    refine jm_iconst C dX6_goes_285 ?_
                                    refine jm_bipush C dX6_goes_286 (by decide +kernel) ?_
                                    refine jm_cSd (n := 3) [] C (kX6_in E w N _ _ _ (by omega) (by decide) (by decide)) jw_m_RX6_90 okX6_in rfl ⟨rfl, rfl⟩ ⟨Nat.le_of_ble_eq_true rfl, Nat.le_of_ble_eq_true rfl⟩ rfl rfl (Nat.le_of_ble_eq_true rfl) dX6_goes_288 ⟨Nat.le_of_ble_eq_true rfl, Nat.le_of_ble_eq_true rfl⟩ (fun yz47 yh46 => ?_)
                                    refine jm_if_eq 308 C dX6_goes_291 rfl (by omega) (fun yc48 => ?_) (fun yc48 => ?_)
                                    · skip
                                      refine jm_iconst C dX6_goes_308 ?_
                                      refine jm_istore C dX6_goes_309 (by decide) ?_
                                      refine jm_iload C dX6_goes_311 rfl ?_
                                      refine jm_iload C dX6_goes_313 rfl ?_
                                      refine jm_iadd C dX6_goes_315 ?_
                                      refine jm_iconst C dX6_goes_316 ?_
                                      refine jm_bipush C dX6_goes_317 (by decide +kernel) ?_
                                      refine jm_cSd (n := 3) [] C (kX6_in E w N _ _ _ (by omega) (by decide) (by decide)) jw_m_RX6_90 okX6_in rfl ⟨rfl, rfl⟩ ⟨Nat.le_of_ble_eq_true rfl, Nat.le_of_ble_eq_true rfl⟩ rfl rfl (Nat.le_of_ble_eq_true rfl) dX6_goes_319 ⟨Nat.le_of_ble_eq_true rfl, Nat.le_of_ble_eq_true rfl⟩ (fun yz50 yh49 => ?_)
                                      have yj53 : ∀ (yz52 : Int), ((yz50 = 0 ∧ yz52 = 1) ∨ (¬ (yz50 = 0) ∧ yz52 = 0)) → jm_R yz52 → jm_J E G (0, 0) w N 330 [(0, .ref (w.2.1 300)), (7, jm_v mover), (8, jm_v x), (9, jm_v (y + 1)), (10, jm_v (en - ((10 + (M 324 (((61 * x) + y) + 1))) - yz15))), (11, jm_v tn), (12, jm_v lo), (13, jm_v hi), (15, jm_v gv), (23, jm_v (-1))] [jm_v yz52] := by
                                        intro yz52 ye54 ryz52
                                        refine jm_istore C dX6_goes_330 (by decide) ?_
                                        refine jm_iload C dX6_goes_332 rfl ?_
                                        have yj57 : ∀ (yz56 : Int), ((yz52 = 0 ∧ -1 = -1 ∧ yz56 = 1) ∨ (yz52 = 0 ∧ ¬ (-1 = -1) ∧ yz56 = 0) ∨ (¬ (yz52 = 0) ∧ yz56 = 0)) → jm_R yz56 → jm_J E G (0, 0) w N 348 [(0, .ref (w.2.1 300)), (7, jm_v mover), (8, jm_v x), (9, jm_v (y + 1)), (10, jm_v (en - ((10 + (M 324 (((61 * x) + y) + 1))) - yz15))), (11, jm_v tn), (12, jm_v lo), (13, jm_v hi), (15, jm_v gv), (17, jm_v yz52), (23, jm_v (-1))] [jm_v yz56] := by
                                          intro yz56 ye58 ryz56
                                          refine jm_istore C dX6_goes_348 (by decide) ?_
                                          refine jm_iload C dX6_goes_350 rfl ?_
                                          refine jm_istore C dX6_goes_352 (by decide) ?_
                                          refine jm_iload C dX6_goes_354 rfl ?_
                                          refine jm_iconst C dX6_goes_356 ?_
                                          have yj61 : ∀ (yz60 : Int), ((-1 = -1 ∧ yz60 = gv) ∨ (¬ (-1 = -1) ∧ yz60 = ((en - ((10 + (M 324 (((61 * x) + y) + 1))) - yz15)).tdiv 2))) → jm_R yz60 → jm_J E G (0, 0) w N 369 [(0, .ref (w.2.1 300)), (7, jm_v mover), (8, jm_v x), (9, jm_v (y + 1)), (10, jm_v (en - ((10 + (M 324 (((61 * x) + y) + 1))) - yz15))), (11, jm_v tn), (12, jm_v lo), (13, jm_v hi), (14, jm_v (-1)), (17, jm_v yz52), (18, jm_v yz56)] [jm_v yz60] := by
                                            intro yz60 ye62 ryz60
                                            refine jm_istore C dX6_goes_369 (by decide) ?_
                                            refine jm_iload C dX6_goes_371 rfl ?_
                                            refine jm_iload C dX6_goes_373 rfl ?_
                                            have yj65 : ∀ (yz64 : Int), ((yz56 = 0 ∧ yz64 = 0) ∨ (¬ (yz56 = 0) ∧ yz64 = tn)) → jm_R yz64 → jm_J E G (0, 0) w N 384 [(0, .ref (w.2.1 300)), (7, jm_v mover), (9, jm_v (y + 1)), (10, jm_v (en - ((10 + (M 324 (((61 * x) + y) + 1))) - yz15))), (11, jm_v tn), (12, jm_v lo), (13, jm_v hi), (14, jm_v (-1)), (15, jm_v yz60), (17, jm_v yz52), (18, jm_v yz56)] [jm_v yz64, jm_v x] := by
                                              intro yz64 ye66 ryz64
                                              refine jm_iadd C dX6_goes_384 ?_
                                              refine jm_istore C dX6_goes_385 (by decide) ?_
                                              refine jm_iconst C dX6_goes_387 ?_
                                              refine jm_istore C dX6_goes_388 (by decide) ?_
                                              refine jm_goto 56 C dX6_goes_390 rfl ?_
                                              refine jm_lvs (lv' := [(0, _), (7, _), (8, _), (9, _), (10, _), (11, _), (12, _), (13, _), (14, _), (15, _), (16, _), (17, _), (18, _)]) (jm_sub_c rfl (jm_sub_c rfl (jm_sub_c rfl (jm_sub_c rfl (jm_sub_c rfl (jm_sub_c rfl (jm_sub_c rfl (jm_sub_c rfl (jm_sub_c rfl (jm_sub_c rfl (jm_sub_c rfl (jm_sub_c rfl (jm_sub_c rfl (jm_sub_0 _)))))))))))))) ?_
                                              exact ih56 _ _ _ _ _ _ _ _ _ (v - 1) (by omega) (by first | exact hIN | exact hIM) (fun a ha => by first | exact hM a ha | exact (hN1 a ha).trans (hM a ha)) (by first | exact hN9 | exact hw9) (by omega) (Or.inr ⟨by omega, by rw [show x + yz64 = x by omega]; exact hk_fin1 (by rw [if_neg (by omega), if_neg (fun q => by have := hsp (by omega); omega), if_pos (by have := hsp (by omega); omega), if_pos (by omega)] at hT; exact hT) (by omega) (by omega) hx (by omega)⟩) (by omega)
                                            refine jm_if_eq 383 C dX6_goes_375 rfl (by omega) (fun yc63 => ?_) (fun yc63 => ?_)
                                            · skip
                                              refine jm_iconst C dX6_goes_383 ?_
                                              refine jm_lvs (lv' := [(0, _), (7, _), (9, _), (10, _), (11, _), (12, _), (13, _), (14, _), (15, _), (17, _), (18, _)]) (jm_sub_c rfl (jm_sub_c rfl (jm_sub_c rfl (jm_sub_c rfl (jm_sub_c rfl (jm_sub_c rfl (jm_sub_c rfl (jm_sub_c rfl (jm_sub_c rfl (jm_sub_c rfl (jm_sub_c rfl (jm_sub_0 _)))))))))))) ?_
                                              exact yj65 _ (Or.inl ⟨yc63, rfl⟩) (by decide)
                                            · skip
                                              refine jm_iload C dX6_goes_378 rfl ?_
                                              refine jm_goto 384 C dX6_goes_380 rfl ?_
                                              refine jm_lvs (lv' := [(0, _), (7, _), (9, _), (10, _), (11, _), (12, _), (13, _), (14, _), (15, _), (17, _), (18, _)]) (jm_sub_c rfl (jm_sub_c rfl (jm_sub_c rfl (jm_sub_c rfl (jm_sub_c rfl (jm_sub_c rfl (jm_sub_c rfl (jm_sub_c rfl (jm_sub_c rfl (jm_sub_c rfl (jm_sub_c rfl (jm_sub_0 _)))))))))))) ?_
                                              exact yj65 _ (Or.inr ⟨yc63, rfl⟩) (by omega)
                                          refine jm_icmp_ne 365 C dX6_goes_357 rfl (by decide) (by decide) (fun yc59 => ?_) (fun yc59 => ?_)
                                          · skip
                                            exact absurd yc59 (by decide)
                                          · skip
                                            refine jm_iload C dX6_goes_360 rfl ?_
                                            refine jm_goto 369 C dX6_goes_362 rfl ?_
                                            refine jm_lvs (lv' := [(0, _), (7, _), (8, _), (9, _), (10, _), (11, _), (12, _), (13, _), (14, _), (17, _), (18, _)]) (jm_sub_c rfl (jm_sub_c rfl (jm_sub_c rfl (jm_sub_c rfl (jm_sub_c rfl (jm_sub_c rfl (jm_sub_c rfl (jm_sub_c rfl (jm_sub_c rfl (jm_sub_c rfl (jm_sub_c rfl (jm_sub_0 _)))))))))))) ?_
                                            exact yj61 _ (Or.inl ⟨yc59, rfl⟩) (by omega)
                                        refine jm_if_ne 347 C dX6_goes_334 rfl (by omega) (fun yc55 => ?_) (fun yc55 => ?_)
                                        · skip
                                          refine jm_iconst C dX6_goes_347 ?_
                                          refine jm_lvs (lv' := [(0, _), (7, _), (8, _), (9, _), (10, _), (11, _), (12, _), (13, _), (15, _), (17, _), (23, _)]) (jm_sub_c rfl (jm_sub_c rfl (jm_sub_c rfl (jm_sub_c rfl (jm_sub_c rfl (jm_sub_c rfl (jm_sub_c rfl (jm_sub_c rfl (jm_sub_c rfl (jm_sub_c rfl (jm_sub_c rfl (jm_sub_0 _)))))))))))) ?_
                                          exact yj57 _ (Or.inr (Or.inr ⟨yc55, rfl⟩)) (by decide)
                                        · skip
                                          refine jm_iload C dX6_goes_337 rfl ?_
                                          refine jm_iconst C dX6_goes_339 ?_
                                          refine jm_icmp_ne 347 C dX6_goes_340 rfl (by decide) (by decide) (fun yc67 => ?_) (fun yc67 => ?_)
                                          · skip
                                            exact absurd yc67 (by decide)
                                          · skip
                                            refine jm_iconst C dX6_goes_343 ?_
                                            refine jm_goto 348 C dX6_goes_344 rfl ?_
                                            refine jm_lvs (lv' := [(0, _), (7, _), (8, _), (9, _), (10, _), (11, _), (12, _), (13, _), (15, _), (17, _), (23, _)]) (jm_sub_c rfl (jm_sub_c rfl (jm_sub_c rfl (jm_sub_c rfl (jm_sub_c rfl (jm_sub_c rfl (jm_sub_c rfl (jm_sub_c rfl (jm_sub_c rfl (jm_sub_c rfl (jm_sub_c rfl (jm_sub_0 _)))))))))))) ?_
                                            exact yj57 _ (Or.inl ⟨yc55, yc67, rfl⟩) (by decide)
                                      refine jm_if_ne 329 C dX6_goes_322 rfl (by omega) (fun yc51 => ?_) (fun yc51 => ?_)
                                      · skip
                                        refine jm_iconst C dX6_goes_329 ?_
                                        refine jm_lvs (lv' := [(0, _), (7, _), (8, _), (9, _), (10, _), (11, _), (12, _), (13, _), (15, _), (23, _)]) (jm_sub_c rfl (jm_sub_c rfl (jm_sub_c rfl (jm_sub_c rfl (jm_sub_c rfl (jm_sub_c rfl (jm_sub_c rfl (jm_sub_c rfl (jm_sub_c rfl (jm_sub_c rfl (jm_sub_0 _))))))))))) ?_
                                        exact yj53 _ (Or.inr ⟨yc51, rfl⟩) (by decide)
                                      · skip
                                        refine jm_iconst C dX6_goes_325 ?_
                                        refine jm_goto 330 C dX6_goes_326 rfl ?_
                                        refine jm_lvs (lv' := [(0, _), (7, _), (8, _), (9, _), (10, _), (11, _), (12, _), (13, _), (15, _), (23, _)]) (jm_sub_c rfl (jm_sub_c rfl (jm_sub_c rfl (jm_sub_c rfl (jm_sub_c rfl (jm_sub_c rfl (jm_sub_c rfl (jm_sub_c rfl (jm_sub_c rfl (jm_sub_c rfl (jm_sub_0 _))))))))))) ?_
                                        exact yj53 _ (Or.inl ⟨yc51, rfl⟩) (by decide)
                                    · skip
                                      refine jm_aload_n C dX6_goes_294 rfl ?_
                                      refine jm_iload C dX6_goes_295 rfl ?_
                                      refine jm_iload C dX6_goes_297 rfl ?_
                                      refine jm_iadd C dX6_goes_299 ?_
                                      refine jm_iload C dX6_goes_300 rfl ?_
                                      refine jm_cVd (n := 2) (ci := 6) [] C (kX6_stoneAt E w N Q _ _ (by omega) (by omega)) jw_m_RX6_111 okX6_stoneAt rfl ⟨rfl, rfl⟩ ⟨Nat.le_of_ble_eq_true rfl, Nat.le_of_ble_eq_true rfl⟩ rfl Q.1.1 Q.1.2 rfl rfl (Nat.le_of_ble_eq_true rfl) dX6_goes_302 ⟨Nat.le_of_ble_eq_true rfl, Nat.le_of_ble_eq_true rfl⟩ (fun yz69 yh68 => ?_)
                                      rw [hN25] at yh68
                                      subst yh68
                                      have yh68r : -1 ≤ hk_mst fm (x + tn) (y + 1) ∧ hk_mst fm (x + tn) (y + 1) < (6 : Nat) := hk_last_r fm (100 * (x + tn) + (y + 1)) 6
                                      refine jm_goto 309 C dX6_goes_305 rfl ?_
                                      refine jm_istore C dX6_goes_309 (by decide) ?_
                                      refine jm_iload C dX6_goes_311 rfl ?_
                                      refine jm_iload C dX6_goes_313 rfl ?_
                                      refine jm_iadd C dX6_goes_315 ?_
                                      refine jm_iconst C dX6_goes_316 ?_
                                      refine jm_bipush C dX6_goes_317 (by decide +kernel) ?_
                                      refine jm_cSd (n := 3) [] C (kX6_in E w N _ _ _ (by omega) (by decide) (by decide)) jw_m_RX6_90 okX6_in rfl ⟨rfl, rfl⟩ ⟨Nat.le_of_ble_eq_true rfl, Nat.le_of_ble_eq_true rfl⟩ rfl rfl (Nat.le_of_ble_eq_true rfl) dX6_goes_319 ⟨Nat.le_of_ble_eq_true rfl, Nat.le_of_ble_eq_true rfl⟩ (fun yz71 yh70 => ?_)
                                      have yj74 : ∀ (yz73 : Int), ((yz71 = 0 ∧ yz73 = 1) ∨ (¬ (yz71 = 0) ∧ yz73 = 0)) → jm_R yz73 → jm_J E G (0, 0) w N 330 [(0, .ref (w.2.1 300)), (7, jm_v mover), (8, jm_v x), (9, jm_v (y + 1)), (10, jm_v (en - ((10 + (M 324 (((61 * x) + y) + 1))) - yz15))), (11, jm_v tn), (12, jm_v lo), (13, jm_v hi), (15, jm_v gv), (23, jm_v (hk_mst fm (x + tn) (y + 1)))] [jm_v yz73] := by
                                        intro yz73 ye75 ryz73
                                        refine jm_istore C dX6_goes_330 (by decide) ?_
                                        refine jm_iload C dX6_goes_332 rfl ?_
                                        have yj78 : ∀ (yz77 : Int), ((yz73 = 0 ∧ hk_mst fm (x + tn) (y + 1) = -1 ∧ yz77 = 1) ∨ (yz73 = 0 ∧ ¬ (hk_mst fm (x + tn) (y + 1) = -1) ∧ yz77 = 0) ∨ (¬ (yz73 = 0) ∧ yz77 = 0)) → jm_R yz77 → jm_J E G (0, 0) w N 348 [(0, .ref (w.2.1 300)), (7, jm_v mover), (8, jm_v x), (9, jm_v (y + 1)), (10, jm_v (en - ((10 + (M 324 (((61 * x) + y) + 1))) - yz15))), (11, jm_v tn), (12, jm_v lo), (13, jm_v hi), (15, jm_v gv), (17, jm_v yz73), (23, jm_v (hk_mst fm (x + tn) (y + 1)))] [jm_v yz77] := by
                                          intro yz77 ye79 ryz77
                                          refine jm_istore C dX6_goes_348 (by decide) ?_
                                          refine jm_iload C dX6_goes_350 rfl ?_
                                          refine jm_istore C dX6_goes_352 (by decide) ?_
                                          refine jm_iload C dX6_goes_354 rfl ?_
                                          refine jm_iconst C dX6_goes_356 ?_
                                          have yj82 : ∀ (yz81 : Int), ((hk_mst fm (x + tn) (y + 1) = -1 ∧ yz81 = gv) ∨ (¬ (hk_mst fm (x + tn) (y + 1) = -1) ∧ yz81 = ((en - ((10 + (M 324 (((61 * x) + y) + 1))) - yz15)).tdiv 2))) → jm_R yz81 → jm_J E G (0, 0) w N 369 [(0, .ref (w.2.1 300)), (7, jm_v mover), (8, jm_v x), (9, jm_v (y + 1)), (10, jm_v (en - ((10 + (M 324 (((61 * x) + y) + 1))) - yz15))), (11, jm_v tn), (12, jm_v lo), (13, jm_v hi), (14, jm_v (hk_mst fm (x + tn) (y + 1))), (17, jm_v yz73), (18, jm_v yz77)] [jm_v yz81] := by
                                            intro yz81 ye83 ryz81
                                            refine jm_istore C dX6_goes_369 (by decide) ?_
                                            refine jm_iload C dX6_goes_371 rfl ?_
                                            refine jm_iload C dX6_goes_373 rfl ?_
                                            have yj86 : ∀ (yz85 : Int), ((yz77 = 0 ∧ yz85 = 0) ∨ (¬ (yz77 = 0) ∧ yz85 = tn)) → jm_R yz85 → jm_J E G (0, 0) w N 384 [(0, .ref (w.2.1 300)), (7, jm_v mover), (9, jm_v (y + 1)), (10, jm_v (en - ((10 + (M 324 (((61 * x) + y) + 1))) - yz15))), (11, jm_v tn), (12, jm_v lo), (13, jm_v hi), (14, jm_v (hk_mst fm (x + tn) (y + 1))), (15, jm_v yz81), (17, jm_v yz73), (18, jm_v yz77)] [jm_v yz85, jm_v x] := by
                                              intro yz85 ye87 ryz85
                                              refine jm_iadd C dX6_goes_384 ?_
                                              refine jm_istore C dX6_goes_385 (by decide) ?_
                                              refine jm_iconst C dX6_goes_387 ?_
                                              refine jm_istore C dX6_goes_388 (by decide) ?_
                                              refine jm_goto 56 C dX6_goes_390 rfl ?_
                                              refine jm_lvs (lv' := [(0, _), (7, _), (8, _), (9, _), (10, _), (11, _), (12, _), (13, _), (14, _), (15, _), (16, _), (17, _), (18, _)]) (jm_sub_c rfl (jm_sub_c rfl (jm_sub_c rfl (jm_sub_c rfl (jm_sub_c rfl (jm_sub_c rfl (jm_sub_c rfl (jm_sub_c rfl (jm_sub_c rfl (jm_sub_c rfl (jm_sub_c rfl (jm_sub_c rfl (jm_sub_c rfl (jm_sub_0 _)))))))))))))) ?_
                                              exact ih56 _ _ _ _ _ _ _ _ _ (v - 1) (by omega) (by first | exact hIN | exact hIM) (fun a ha => by first | exact hM a ha | exact (hN1 a ha).trans (hM a ha)) (by first | exact hN9 | exact hw9) (by omega) (by
                                                                                                                              by_cases hh : hk_mst fm (x + tn) (y + 1) = -1
                                                                                                                              · exact Or.inl ⟨by omega, by omega, by omega, by omega, by omega, by omega, by omega, 0, n1, by rw [if_neg (by omega), if_neg (fun q => by have := hsp (by omega); omega), if_pos (by have := hsp (by omega); omega), if_neg (by omega), if_neg (fun q => q hh)] at hT; rw [show x + yz85 = x + tn by omega]; exact hT, by omega, fun q => rfl⟩
                                                                                                                              · exact Or.inr ⟨by omega, by rw [show x + yz85 = x by omega]; exact hk_fin0 (by rw [if_neg (by omega), if_neg (fun q => by have := hsp (by omega); omega), if_pos (by have := hsp (by omega); omega), if_neg (by omega), if_pos hh] at hT; exact hT) (by omega) (fun _ => by omega) hx (by omega)⟩) (by omega)
                                            refine jm_if_eq 383 C dX6_goes_375 rfl (by omega) (fun yc84 => ?_) (fun yc84 => ?_)
                                            · skip
                                              refine jm_iconst C dX6_goes_383 ?_
                                              refine jm_lvs (lv' := [(0, _), (7, _), (9, _), (10, _), (11, _), (12, _), (13, _), (14, _), (15, _), (17, _), (18, _)]) (jm_sub_c rfl (jm_sub_c rfl (jm_sub_c rfl (jm_sub_c rfl (jm_sub_c rfl (jm_sub_c rfl (jm_sub_c rfl (jm_sub_c rfl (jm_sub_c rfl (jm_sub_c rfl (jm_sub_c rfl (jm_sub_0 _)))))))))))) ?_
                                              exact yj86 _ (Or.inl ⟨yc84, rfl⟩) (by decide)
                                            · skip
                                              refine jm_iload C dX6_goes_378 rfl ?_
                                              refine jm_goto 384 C dX6_goes_380 rfl ?_
                                              refine jm_lvs (lv' := [(0, _), (7, _), (9, _), (10, _), (11, _), (12, _), (13, _), (14, _), (15, _), (17, _), (18, _)]) (jm_sub_c rfl (jm_sub_c rfl (jm_sub_c rfl (jm_sub_c rfl (jm_sub_c rfl (jm_sub_c rfl (jm_sub_c rfl (jm_sub_c rfl (jm_sub_c rfl (jm_sub_c rfl (jm_sub_c rfl (jm_sub_0 _)))))))))))) ?_
                                              exact yj86 _ (Or.inr ⟨yc84, rfl⟩) (by omega)
                                          refine jm_icmp_ne 365 C dX6_goes_357 rfl (by omega) (by decide) (fun yc80 => ?_) (fun yc80 => ?_)
                                          · skip
                                            have htd2 := Int.tdiv_eq_ediv_of_nonneg (a := en - ((10 + (M 324 (((61 * x) + y) + 1))) - yz15)) (b := 2) (by omega)
                                            refine jm_iload C dX6_goes_365 rfl ?_
                                            refine jm_iconst C dX6_goes_367 ?_
                                            refine jm_idiv C dX6_goes_368 (by omega) (by decide) (by decide) ?_
                                            refine jm_lvs (lv' := [(0, _), (7, _), (8, _), (9, _), (10, _), (11, _), (12, _), (13, _), (14, _), (17, _), (18, _)]) (jm_sub_c rfl (jm_sub_c rfl (jm_sub_c rfl (jm_sub_c rfl (jm_sub_c rfl (jm_sub_c rfl (jm_sub_c rfl (jm_sub_c rfl (jm_sub_c rfl (jm_sub_c rfl (jm_sub_c rfl (jm_sub_0 _)))))))))))) ?_
                                            exact yj82 _ (Or.inr ⟨yc80, rfl⟩) (by omega)
                                          · skip
                                            refine jm_iload C dX6_goes_360 rfl ?_
                                            refine jm_goto 369 C dX6_goes_362 rfl ?_
                                            refine jm_lvs (lv' := [(0, _), (7, _), (8, _), (9, _), (10, _), (11, _), (12, _), (13, _), (14, _), (17, _), (18, _)]) (jm_sub_c rfl (jm_sub_c rfl (jm_sub_c rfl (jm_sub_c rfl (jm_sub_c rfl (jm_sub_c rfl (jm_sub_c rfl (jm_sub_c rfl (jm_sub_c rfl (jm_sub_c rfl (jm_sub_c rfl (jm_sub_0 _)))))))))))) ?_
                                            exact yj82 _ (Or.inl ⟨yc80, rfl⟩) (by omega)
                                        refine jm_if_ne 347 C dX6_goes_334 rfl (by omega) (fun yc76 => ?_) (fun yc76 => ?_)
                                        · skip
                                          refine jm_iconst C dX6_goes_347 ?_
                                          refine jm_lvs (lv' := [(0, _), (7, _), (8, _), (9, _), (10, _), (11, _), (12, _), (13, _), (15, _), (17, _), (23, _)]) (jm_sub_c rfl (jm_sub_c rfl (jm_sub_c rfl (jm_sub_c rfl (jm_sub_c rfl (jm_sub_c rfl (jm_sub_c rfl (jm_sub_c rfl (jm_sub_c rfl (jm_sub_c rfl (jm_sub_c rfl (jm_sub_0 _)))))))))))) ?_
                                          exact yj78 _ (Or.inr (Or.inr ⟨yc76, rfl⟩)) (by decide)
                                        · skip
                                          refine jm_iload C dX6_goes_337 rfl ?_
                                          refine jm_iconst C dX6_goes_339 ?_
                                          refine jm_icmp_ne 347 C dX6_goes_340 rfl (by omega) (by decide) (fun yc88 => ?_) (fun yc88 => ?_)
                                          · skip
                                            refine jm_iconst C dX6_goes_347 ?_
                                            refine jm_lvs (lv' := [(0, _), (7, _), (8, _), (9, _), (10, _), (11, _), (12, _), (13, _), (15, _), (17, _), (23, _)]) (jm_sub_c rfl (jm_sub_c rfl (jm_sub_c rfl (jm_sub_c rfl (jm_sub_c rfl (jm_sub_c rfl (jm_sub_c rfl (jm_sub_c rfl (jm_sub_c rfl (jm_sub_c rfl (jm_sub_c rfl (jm_sub_0 _)))))))))))) ?_
                                            exact yj78 _ (Or.inr (Or.inl ⟨yc76, yc88, rfl⟩)) (by decide)
                                          · skip
                                            refine jm_iconst C dX6_goes_343 ?_
                                            refine jm_goto 348 C dX6_goes_344 rfl ?_
                                            refine jm_lvs (lv' := [(0, _), (7, _), (8, _), (9, _), (10, _), (11, _), (12, _), (13, _), (15, _), (17, _), (23, _)]) (jm_sub_c rfl (jm_sub_c rfl (jm_sub_c rfl (jm_sub_c rfl (jm_sub_c rfl (jm_sub_c rfl (jm_sub_c rfl (jm_sub_c rfl (jm_sub_c rfl (jm_sub_c rfl (jm_sub_c rfl (jm_sub_0 _)))))))))))) ?_
                                            exact yj78 _ (Or.inl ⟨yc76, yc88, rfl⟩) (by decide)
                                      refine jm_if_ne 329 C dX6_goes_322 rfl (by omega) (fun yc72 => ?_) (fun yc72 => ?_)
                                      · skip
                                        refine jm_iconst C dX6_goes_329 ?_
                                        refine jm_lvs (lv' := [(0, _), (7, _), (8, _), (9, _), (10, _), (11, _), (12, _), (13, _), (15, _), (23, _)]) (jm_sub_c rfl (jm_sub_c rfl (jm_sub_c rfl (jm_sub_c rfl (jm_sub_c rfl (jm_sub_c rfl (jm_sub_c rfl (jm_sub_c rfl (jm_sub_c rfl (jm_sub_c rfl (jm_sub_0 _))))))))))) ?_
                                        exact yj74 _ (Or.inr ⟨yc72, rfl⟩) (by decide)
                                      · skip
                                        refine jm_iconst C dX6_goes_325 ?_
                                        refine jm_goto 330 C dX6_goes_326 rfl ?_
                                        refine jm_lvs (lv' := [(0, _), (7, _), (8, _), (9, _), (10, _), (11, _), (12, _), (13, _), (15, _), (23, _)]) (jm_sub_c rfl (jm_sub_c rfl (jm_sub_c rfl (jm_sub_c rfl (jm_sub_c rfl (jm_sub_c rfl (jm_sub_c rfl (jm_sub_c rfl (jm_sub_c rfl (jm_sub_c rfl (jm_sub_0 _))))))))))) ?_
                                        exact yj74 _ (Or.inl ⟨yc72, rfl⟩) (by decide)
                                  · skip
                                    refine jm_iload C dX6_goes_265 rfl ?_
                                    refine jm_sipush C dX6_goes_267 (by decide +kernel) ?_
                                    refine jm_icmp_ge 390 C dX6_goes_270 rfl (by omega) (by decide) (fun yc89 => ?_) (fun yc89 => ?_)
                                    · skip
                                      refine jm_goto 56 C dX6_goes_390 rfl ?_
                                      refine jm_lvs (lv' := [(0, _), (7, _), (8, _), (9, _), (10, _), (11, _), (12, _), (13, _), (14, _), (15, _), (16, _), (17, _), (18, _)]) (jm_sub_c rfl (jm_sub_c rfl (jm_sub_c rfl (jm_sub_c rfl (jm_sub_c rfl (jm_sub_c rfl (jm_sub_c rfl (jm_sub_c rfl (jm_sub_c rfl (jm_sub_c rfl (jm_sub_c rfl (jm_sub_c rfl (jm_sub_c rfl (jm_sub_0 _)))))))))))))) ?_
                                      exact ih56 _ _ _ _ _ _ _ _ _ (v - 1) (by omega) (by first | exact hIN | exact hIM) (fun a ha => by first | exact hM a ha | exact (hN1 a ha).trans (hM a ha)) (by first | exact hN9 | exact hw9) (by omega) (Or.inl ⟨by omega, hnx, by omega, hx, by omega, by omega, by omega, sp + 1, n1, by rw [if_neg (by omega), if_neg (fun q => by have := hsp (by omega); omega), if_neg (fun q => by have := hsp (by omega); omega)] at hT; exact hT, by omega, fun q => by have := hsp q; omega⟩) (by omega)
                                    · skip
                                      refine jm_iload C dX6_goes_273 rfl ?_
                                      refine jm_bipush C dX6_goes_275 (by decide +kernel) ?_
                                      refine jm_icmp_lt 390 C dX6_goes_277 rfl (by omega) (by decide) (fun yc90 => ?_) (fun yc90 => ?_)
                                      · skip
                                        refine jm_goto 56 C dX6_goes_390 rfl ?_
                                        refine jm_lvs (lv' := [(0, _), (7, _), (8, _), (9, _), (10, _), (11, _), (12, _), (13, _), (14, _), (15, _), (16, _), (17, _), (18, _)]) (jm_sub_c rfl (jm_sub_c rfl (jm_sub_c rfl (jm_sub_c rfl (jm_sub_c rfl (jm_sub_c rfl (jm_sub_c rfl (jm_sub_c rfl (jm_sub_c rfl (jm_sub_c rfl (jm_sub_c rfl (jm_sub_c rfl (jm_sub_c rfl (jm_sub_0 _)))))))))))))) ?_
                                        exact ih56 _ _ _ _ _ _ _ _ _ (v - 1) (by omega) (by first | exact hIN | exact hIM) (fun a ha => by first | exact hM a ha | exact (hN1 a ha).trans (hM a ha)) (by first | exact hN9 | exact hw9) (by omega) (Or.inl ⟨by omega, hnx, by omega, hx, by omega, by omega, by omega, sp + 1, n1, by rw [if_neg (by omega), if_neg (fun q => by have := hsp (by omega); omega), if_neg (fun q => by have := hsp (by omega); omega)] at hT; exact hT, by omega, fun q => by have := hsp q; omega⟩) (by omega)
                                      · skip
                                        refine jm_iload C dX6_goes_280 rfl ?_
                                        refine jm_iload C dX6_goes_282 rfl ?_
                                        refine jm_iadd C dX6_goes_284 ?_
                                        refine jm_iconst C dX6_goes_285 ?_
                                        refine jm_bipush C dX6_goes_286 (by decide +kernel) ?_
                                        refine jm_cSd (n := 3) [] C (kX6_in E w N _ _ _ (by omega) (by decide) (by decide)) jw_m_RX6_90 okX6_in rfl ⟨rfl, rfl⟩ ⟨Nat.le_of_ble_eq_true rfl, Nat.le_of_ble_eq_true rfl⟩ rfl rfl (Nat.le_of_ble_eq_true rfl) dX6_goes_288 ⟨Nat.le_of_ble_eq_true rfl, Nat.le_of_ble_eq_true rfl⟩ (fun yz92 yh91 => ?_)
                                        refine jm_if_eq 308 C dX6_goes_291 rfl (by omega) (fun yc93 => ?_) (fun yc93 => ?_)
                                        · skip
                                          refine jm_iconst C dX6_goes_308 ?_
                                          refine jm_istore C dX6_goes_309 (by decide) ?_
                                          refine jm_iload C dX6_goes_311 rfl ?_
                                          refine jm_iload C dX6_goes_313 rfl ?_
                                          refine jm_iadd C dX6_goes_315 ?_
                                          refine jm_iconst C dX6_goes_316 ?_
                                          refine jm_bipush C dX6_goes_317 (by decide +kernel) ?_
                                          refine jm_cSd (n := 3) [] C (kX6_in E w N _ _ _ (by omega) (by decide) (by decide)) jw_m_RX6_90 okX6_in rfl ⟨rfl, rfl⟩ ⟨Nat.le_of_ble_eq_true rfl, Nat.le_of_ble_eq_true rfl⟩ rfl rfl (Nat.le_of_ble_eq_true rfl) dX6_goes_319 ⟨Nat.le_of_ble_eq_true rfl, Nat.le_of_ble_eq_true rfl⟩ (fun yz95 yh94 => ?_)
                                          have yj98 : ∀ (yz97 : Int), ((yz95 = 0 ∧ yz97 = 1) ∨ (¬ (yz95 = 0) ∧ yz97 = 0)) → jm_R yz97 → jm_J E G (0, 0) w N 330 [(0, .ref (w.2.1 300)), (7, jm_v mover), (8, jm_v x), (9, jm_v (y + 1)), (10, jm_v (en - ((10 + (M 324 (((61 * x) + y) + 1))) - yz15))), (11, jm_v tn), (12, jm_v lo), (13, jm_v hi), (15, jm_v gv), (23, jm_v (-1))] [jm_v yz97] := by
                                            intro yz97 ye99 ryz97
                                            refine jm_istore C dX6_goes_330 (by decide) ?_
                                            refine jm_iload C dX6_goes_332 rfl ?_
                                            have yj102 : ∀ (yz101 : Int), ((yz97 = 0 ∧ -1 = -1 ∧ yz101 = 1) ∨ (yz97 = 0 ∧ ¬ (-1 = -1) ∧ yz101 = 0) ∨ (¬ (yz97 = 0) ∧ yz101 = 0)) → jm_R yz101 → jm_J E G (0, 0) w N 348 [(0, .ref (w.2.1 300)), (7, jm_v mover), (8, jm_v x), (9, jm_v (y + 1)), (10, jm_v (en - ((10 + (M 324 (((61 * x) + y) + 1))) - yz15))), (11, jm_v tn), (12, jm_v lo), (13, jm_v hi), (15, jm_v gv), (17, jm_v yz97), (23, jm_v (-1))] [jm_v yz101] := by
                                              intro yz101 ye103 ryz101
                                              refine jm_istore C dX6_goes_348 (by decide) ?_
                                              refine jm_iload C dX6_goes_350 rfl ?_
                                              refine jm_istore C dX6_goes_352 (by decide) ?_
                                              refine jm_iload C dX6_goes_354 rfl ?_
                                              refine jm_iconst C dX6_goes_356 ?_
                                              have yj106 : ∀ (yz105 : Int), ((-1 = -1 ∧ yz105 = gv) ∨ (¬ (-1 = -1) ∧ yz105 = ((en - ((10 + (M 324 (((61 * x) + y) + 1))) - yz15)).tdiv 2))) → jm_R yz105 → jm_J E G (0, 0) w N 369 [(0, .ref (w.2.1 300)), (7, jm_v mover), (8, jm_v x), (9, jm_v (y + 1)), (10, jm_v (en - ((10 + (M 324 (((61 * x) + y) + 1))) - yz15))), (11, jm_v tn), (12, jm_v lo), (13, jm_v hi), (14, jm_v (-1)), (17, jm_v yz97), (18, jm_v yz101)] [jm_v yz105] := by
                                                intro yz105 ye107 ryz105
                                                refine jm_istore C dX6_goes_369 (by decide) ?_
                                                refine jm_iload C dX6_goes_371 rfl ?_
                                                refine jm_iload C dX6_goes_373 rfl ?_
                                                have yj110 : ∀ (yz109 : Int), ((yz101 = 0 ∧ yz109 = 0) ∨ (¬ (yz101 = 0) ∧ yz109 = tn)) → jm_R yz109 → jm_J E G (0, 0) w N 384 [(0, .ref (w.2.1 300)), (7, jm_v mover), (9, jm_v (y + 1)), (10, jm_v (en - ((10 + (M 324 (((61 * x) + y) + 1))) - yz15))), (11, jm_v tn), (12, jm_v lo), (13, jm_v hi), (14, jm_v (-1)), (15, jm_v yz105), (17, jm_v yz97), (18, jm_v yz101)] [jm_v yz109, jm_v x] := by
                                                  intro yz109 ye111 ryz109
                                                  refine jm_iadd C dX6_goes_384 ?_
                                                  refine jm_istore C dX6_goes_385 (by decide) ?_
                                                  refine jm_iconst C dX6_goes_387 ?_
                                                  refine jm_istore C dX6_goes_388 (by decide) ?_
                                                  refine jm_goto 56 C dX6_goes_390 rfl ?_
                                                  refine jm_lvs (lv' := [(0, _), (7, _), (8, _), (9, _), (10, _), (11, _), (12, _), (13, _), (14, _), (15, _), (16, _), (17, _), (18, _)]) (jm_sub_c rfl (jm_sub_c rfl (jm_sub_c rfl (jm_sub_c rfl (jm_sub_c rfl (jm_sub_c rfl (jm_sub_c rfl (jm_sub_c rfl (jm_sub_c rfl (jm_sub_c rfl (jm_sub_c rfl (jm_sub_c rfl (jm_sub_c rfl (jm_sub_0 _)))))))))))))) ?_
                                                  exact ih56 _ _ _ _ _ _ _ _ _ (v - 1) (by omega) (by first | exact hIN | exact hIM) (fun a ha => by first | exact hM a ha | exact (hN1 a ha).trans (hM a ha)) (by first | exact hN9 | exact hw9) (by omega) (Or.inr ⟨by omega, by rw [show x + yz109 = x by omega]; exact hk_fin1 (by rw [if_neg (by omega), if_neg (fun q => by have := hsp (by omega); omega), if_pos (by have := hsp (by omega); omega), if_pos (by omega)] at hT; exact hT) (by omega) (by omega) hx (by omega)⟩) (by omega)
                                                refine jm_if_eq 383 C dX6_goes_375 rfl (by omega) (fun yc108 => ?_) (fun yc108 => ?_)
                                                · skip
                                                  refine jm_iconst C dX6_goes_383 ?_
                                                  refine jm_lvs (lv' := [(0, _), (7, _), (9, _), (10, _), (11, _), (12, _), (13, _), (14, _), (15, _), (17, _), (18, _)]) (jm_sub_c rfl (jm_sub_c rfl (jm_sub_c rfl (jm_sub_c rfl (jm_sub_c rfl (jm_sub_c rfl (jm_sub_c rfl (jm_sub_c rfl (jm_sub_c rfl (jm_sub_c rfl (jm_sub_c rfl (jm_sub_0 _)))))))))))) ?_
                                                  exact yj110 _ (Or.inl ⟨yc108, rfl⟩) (by decide)
                                                · skip
                                                  refine jm_iload C dX6_goes_378 rfl ?_
                                                  refine jm_goto 384 C dX6_goes_380 rfl ?_
                                                  refine jm_lvs (lv' := [(0, _), (7, _), (9, _), (10, _), (11, _), (12, _), (13, _), (14, _), (15, _), (17, _), (18, _)]) (jm_sub_c rfl (jm_sub_c rfl (jm_sub_c rfl (jm_sub_c rfl (jm_sub_c rfl (jm_sub_c rfl (jm_sub_c rfl (jm_sub_c rfl (jm_sub_c rfl (jm_sub_c rfl (jm_sub_c rfl (jm_sub_0 _)))))))))))) ?_
                                                  exact yj110 _ (Or.inr ⟨yc108, rfl⟩) (by omega)
                                              refine jm_icmp_ne 365 C dX6_goes_357 rfl (by decide) (by decide) (fun yc104 => ?_) (fun yc104 => ?_)
                                              · skip
                                                exact absurd yc104 (by decide)
                                              · skip
                                                refine jm_iload C dX6_goes_360 rfl ?_
                                                refine jm_goto 369 C dX6_goes_362 rfl ?_
                                                refine jm_lvs (lv' := [(0, _), (7, _), (8, _), (9, _), (10, _), (11, _), (12, _), (13, _), (14, _), (17, _), (18, _)]) (jm_sub_c rfl (jm_sub_c rfl (jm_sub_c rfl (jm_sub_c rfl (jm_sub_c rfl (jm_sub_c rfl (jm_sub_c rfl (jm_sub_c rfl (jm_sub_c rfl (jm_sub_c rfl (jm_sub_c rfl (jm_sub_0 _)))))))))))) ?_
                                                exact yj106 _ (Or.inl ⟨yc104, rfl⟩) (by omega)
                                            refine jm_if_ne 347 C dX6_goes_334 rfl (by omega) (fun yc100 => ?_) (fun yc100 => ?_)
                                            · skip
                                              refine jm_iconst C dX6_goes_347 ?_
                                              refine jm_lvs (lv' := [(0, _), (7, _), (8, _), (9, _), (10, _), (11, _), (12, _), (13, _), (15, _), (17, _), (23, _)]) (jm_sub_c rfl (jm_sub_c rfl (jm_sub_c rfl (jm_sub_c rfl (jm_sub_c rfl (jm_sub_c rfl (jm_sub_c rfl (jm_sub_c rfl (jm_sub_c rfl (jm_sub_c rfl (jm_sub_c rfl (jm_sub_0 _)))))))))))) ?_
                                              exact yj102 _ (Or.inr (Or.inr ⟨yc100, rfl⟩)) (by decide)
                                            · skip
                                              refine jm_iload C dX6_goes_337 rfl ?_
                                              refine jm_iconst C dX6_goes_339 ?_
                                              refine jm_icmp_ne 347 C dX6_goes_340 rfl (by decide) (by decide) (fun yc112 => ?_) (fun yc112 => ?_)
                                              · skip
                                                exact absurd yc112 (by decide)
                                              · skip
                                                refine jm_iconst C dX6_goes_343 ?_
                                                refine jm_goto 348 C dX6_goes_344 rfl ?_
                                                refine jm_lvs (lv' := [(0, _), (7, _), (8, _), (9, _), (10, _), (11, _), (12, _), (13, _), (15, _), (17, _), (23, _)]) (jm_sub_c rfl (jm_sub_c rfl (jm_sub_c rfl (jm_sub_c rfl (jm_sub_c rfl (jm_sub_c rfl (jm_sub_c rfl (jm_sub_c rfl (jm_sub_c rfl (jm_sub_c rfl (jm_sub_c rfl (jm_sub_0 _)))))))))))) ?_
                                                exact yj102 _ (Or.inl ⟨yc100, yc112, rfl⟩) (by decide)
                                          refine jm_if_ne 329 C dX6_goes_322 rfl (by omega) (fun yc96 => ?_) (fun yc96 => ?_)
                                          · skip
                                            refine jm_iconst C dX6_goes_329 ?_
                                            refine jm_lvs (lv' := [(0, _), (7, _), (8, _), (9, _), (10, _), (11, _), (12, _), (13, _), (15, _), (23, _)]) (jm_sub_c rfl (jm_sub_c rfl (jm_sub_c rfl (jm_sub_c rfl (jm_sub_c rfl (jm_sub_c rfl (jm_sub_c rfl (jm_sub_c rfl (jm_sub_c rfl (jm_sub_c rfl (jm_sub_0 _))))))))))) ?_
                                            exact yj98 _ (Or.inr ⟨yc96, rfl⟩) (by decide)
                                          · skip
                                            refine jm_iconst C dX6_goes_325 ?_
                                            refine jm_goto 330 C dX6_goes_326 rfl ?_
                                            refine jm_lvs (lv' := [(0, _), (7, _), (8, _), (9, _), (10, _), (11, _), (12, _), (13, _), (15, _), (23, _)]) (jm_sub_c rfl (jm_sub_c rfl (jm_sub_c rfl (jm_sub_c rfl (jm_sub_c rfl (jm_sub_c rfl (jm_sub_c rfl (jm_sub_c rfl (jm_sub_c rfl (jm_sub_c rfl (jm_sub_0 _))))))))))) ?_
                                            exact yj98 _ (Or.inl ⟨yc96, rfl⟩) (by decide)
                                        · skip
                                          refine jm_aload_n C dX6_goes_294 rfl ?_
                                          refine jm_iload C dX6_goes_295 rfl ?_
                                          refine jm_iload C dX6_goes_297 rfl ?_
                                          refine jm_iadd C dX6_goes_299 ?_
                                          refine jm_iload C dX6_goes_300 rfl ?_
                                          refine jm_cVd (n := 2) (ci := 6) [] C (kX6_stoneAt E w N Q _ _ (by omega) (by omega)) jw_m_RX6_111 okX6_stoneAt rfl ⟨rfl, rfl⟩ ⟨Nat.le_of_ble_eq_true rfl, Nat.le_of_ble_eq_true rfl⟩ rfl Q.1.1 Q.1.2 rfl rfl (Nat.le_of_ble_eq_true rfl) dX6_goes_302 ⟨Nat.le_of_ble_eq_true rfl, Nat.le_of_ble_eq_true rfl⟩ (fun yz114 yh113 => ?_)
                                          rw [hN25] at yh113
                                          subst yh113
                                          have yh113r : -1 ≤ hk_mst fm (x + tn) (y + 1) ∧ hk_mst fm (x + tn) (y + 1) < (6 : Nat) := hk_last_r fm (100 * (x + tn) + (y + 1)) 6
                                          refine jm_goto 309 C dX6_goes_305 rfl ?_
                                          refine jm_istore C dX6_goes_309 (by decide) ?_
                                          refine jm_iload C dX6_goes_311 rfl ?_
                                          refine jm_iload C dX6_goes_313 rfl ?_
                                          refine jm_iadd C dX6_goes_315 ?_
                                          refine jm_iconst C dX6_goes_316 ?_
                                          refine jm_bipush C dX6_goes_317 (by decide +kernel) ?_
                                          refine jm_cSd (n := 3) [] C (kX6_in E w N _ _ _ (by omega) (by decide) (by decide)) jw_m_RX6_90 okX6_in rfl ⟨rfl, rfl⟩ ⟨Nat.le_of_ble_eq_true rfl, Nat.le_of_ble_eq_true rfl⟩ rfl rfl (Nat.le_of_ble_eq_true rfl) dX6_goes_319 ⟨Nat.le_of_ble_eq_true rfl, Nat.le_of_ble_eq_true rfl⟩ (fun yz116 yh115 => ?_)
                                          have yj119 : ∀ (yz118 : Int), ((yz116 = 0 ∧ yz118 = 1) ∨ (¬ (yz116 = 0) ∧ yz118 = 0)) → jm_R yz118 → jm_J E G (0, 0) w N 330 [(0, .ref (w.2.1 300)), (7, jm_v mover), (8, jm_v x), (9, jm_v (y + 1)), (10, jm_v (en - ((10 + (M 324 (((61 * x) + y) + 1))) - yz15))), (11, jm_v tn), (12, jm_v lo), (13, jm_v hi), (15, jm_v gv), (23, jm_v (hk_mst fm (x + tn) (y + 1)))] [jm_v yz118] := by
                                            intro yz118 ye120 ryz118
                                            refine jm_istore C dX6_goes_330 (by decide) ?_
                                            refine jm_iload C dX6_goes_332 rfl ?_
                                            have yj123 : ∀ (yz122 : Int), ((yz118 = 0 ∧ hk_mst fm (x + tn) (y + 1) = -1 ∧ yz122 = 1) ∨ (yz118 = 0 ∧ ¬ (hk_mst fm (x + tn) (y + 1) = -1) ∧ yz122 = 0) ∨ (¬ (yz118 = 0) ∧ yz122 = 0)) → jm_R yz122 → jm_J E G (0, 0) w N 348 [(0, .ref (w.2.1 300)), (7, jm_v mover), (8, jm_v x), (9, jm_v (y + 1)), (10, jm_v (en - ((10 + (M 324 (((61 * x) + y) + 1))) - yz15))), (11, jm_v tn), (12, jm_v lo), (13, jm_v hi), (15, jm_v gv), (17, jm_v yz118), (23, jm_v (hk_mst fm (x + tn) (y + 1)))] [jm_v yz122] := by
                                              intro yz122 ye124 ryz122
                                              refine jm_istore C dX6_goes_348 (by decide) ?_
                                              refine jm_iload C dX6_goes_350 rfl ?_
                                              refine jm_istore C dX6_goes_352 (by decide) ?_
                                              refine jm_iload C dX6_goes_354 rfl ?_
                                              refine jm_iconst C dX6_goes_356 ?_
                                              have yj127 : ∀ (yz126 : Int), ((hk_mst fm (x + tn) (y + 1) = -1 ∧ yz126 = gv) ∨ (¬ (hk_mst fm (x + tn) (y + 1) = -1) ∧ yz126 = ((en - ((10 + (M 324 (((61 * x) + y) + 1))) - yz15)).tdiv 2))) → jm_R yz126 → jm_J E G (0, 0) w N 369 [(0, .ref (w.2.1 300)), (7, jm_v mover), (8, jm_v x), (9, jm_v (y + 1)), (10, jm_v (en - ((10 + (M 324 (((61 * x) + y) + 1))) - yz15))), (11, jm_v tn), (12, jm_v lo), (13, jm_v hi), (14, jm_v (hk_mst fm (x + tn) (y + 1))), (17, jm_v yz118), (18, jm_v yz122)] [jm_v yz126] := by
                                                intro yz126 ye128 ryz126
                                                refine jm_istore C dX6_goes_369 (by decide) ?_
                                                refine jm_iload C dX6_goes_371 rfl ?_
                                                refine jm_iload C dX6_goes_373 rfl ?_
                                                have yj131 : ∀ (yz130 : Int), ((yz122 = 0 ∧ yz130 = 0) ∨ (¬ (yz122 = 0) ∧ yz130 = tn)) → jm_R yz130 → jm_J E G (0, 0) w N 384 [(0, .ref (w.2.1 300)), (7, jm_v mover), (9, jm_v (y + 1)), (10, jm_v (en - ((10 + (M 324 (((61 * x) + y) + 1))) - yz15))), (11, jm_v tn), (12, jm_v lo), (13, jm_v hi), (14, jm_v (hk_mst fm (x + tn) (y + 1))), (15, jm_v yz126), (17, jm_v yz118), (18, jm_v yz122)] [jm_v yz130, jm_v x] := by
                                                  intro yz130 ye132 ryz130
                                                  refine jm_iadd C dX6_goes_384 ?_
                                                  refine jm_istore C dX6_goes_385 (by decide) ?_
                                                  refine jm_iconst C dX6_goes_387 ?_
                                                  refine jm_istore C dX6_goes_388 (by decide) ?_
                                                  refine jm_goto 56 C dX6_goes_390 rfl ?_
                                                  refine jm_lvs (lv' := [(0, _), (7, _), (8, _), (9, _), (10, _), (11, _), (12, _), (13, _), (14, _), (15, _), (16, _), (17, _), (18, _)]) (jm_sub_c rfl (jm_sub_c rfl (jm_sub_c rfl (jm_sub_c rfl (jm_sub_c rfl (jm_sub_c rfl (jm_sub_c rfl (jm_sub_c rfl (jm_sub_c rfl (jm_sub_c rfl (jm_sub_c rfl (jm_sub_c rfl (jm_sub_c rfl (jm_sub_0 _)))))))))))))) ?_
                                                  exact ih56 _ _ _ _ _ _ _ _ _ (v - 1) (by omega) (by first | exact hIN | exact hIM) (fun a ha => by first | exact hM a ha | exact (hN1 a ha).trans (hM a ha)) (by first | exact hN9 | exact hw9) (by omega) (by
                                                                                                                                  by_cases hh : hk_mst fm (x + tn) (y + 1) = -1
                                                                                                                                  · exact Or.inl ⟨by omega, by omega, by omega, by omega, by omega, by omega, by omega, 0, n1, by rw [if_neg (by omega), if_neg (fun q => by have := hsp (by omega); omega), if_pos (by have := hsp (by omega); omega), if_neg (by omega), if_neg (fun q => q hh)] at hT; rw [show x + yz130 = x + tn by omega]; exact hT, by omega, fun q => rfl⟩
                                                                                                                                  · exact Or.inr ⟨by omega, by rw [show x + yz130 = x by omega]; exact hk_fin0 (by rw [if_neg (by omega), if_neg (fun q => by have := hsp (by omega); omega), if_pos (by have := hsp (by omega); omega), if_neg (by omega), if_pos hh] at hT; exact hT) (by omega) (fun _ => by omega) hx (by omega)⟩) (by omega)
                                                refine jm_if_eq 383 C dX6_goes_375 rfl (by omega) (fun yc129 => ?_) (fun yc129 => ?_)
                                                · skip
                                                  refine jm_iconst C dX6_goes_383 ?_
                                                  refine jm_lvs (lv' := [(0, _), (7, _), (9, _), (10, _), (11, _), (12, _), (13, _), (14, _), (15, _), (17, _), (18, _)]) (jm_sub_c rfl (jm_sub_c rfl (jm_sub_c rfl (jm_sub_c rfl (jm_sub_c rfl (jm_sub_c rfl (jm_sub_c rfl (jm_sub_c rfl (jm_sub_c rfl (jm_sub_c rfl (jm_sub_c rfl (jm_sub_0 _)))))))))))) ?_
                                                  exact yj131 _ (Or.inl ⟨yc129, rfl⟩) (by decide)
                                                · skip
                                                  refine jm_iload C dX6_goes_378 rfl ?_
                                                  refine jm_goto 384 C dX6_goes_380 rfl ?_
                                                  refine jm_lvs (lv' := [(0, _), (7, _), (9, _), (10, _), (11, _), (12, _), (13, _), (14, _), (15, _), (17, _), (18, _)]) (jm_sub_c rfl (jm_sub_c rfl (jm_sub_c rfl (jm_sub_c rfl (jm_sub_c rfl (jm_sub_c rfl (jm_sub_c rfl (jm_sub_c rfl (jm_sub_c rfl (jm_sub_c rfl (jm_sub_c rfl (jm_sub_0 _)))))))))))) ?_
                                                  exact yj131 _ (Or.inr ⟨yc129, rfl⟩) (by omega)
                                              refine jm_icmp_ne 365 C dX6_goes_357 rfl (by omega) (by decide) (fun yc125 => ?_) (fun yc125 => ?_)
                                              · skip
                                                have htd2 := Int.tdiv_eq_ediv_of_nonneg (a := en - ((10 + (M 324 (((61 * x) + y) + 1))) - yz15)) (b := 2) (by omega)
                                                refine jm_iload C dX6_goes_365 rfl ?_
                                                refine jm_iconst C dX6_goes_367 ?_
                                                refine jm_idiv C dX6_goes_368 (by omega) (by decide) (by decide) ?_
                                                refine jm_lvs (lv' := [(0, _), (7, _), (8, _), (9, _), (10, _), (11, _), (12, _), (13, _), (14, _), (17, _), (18, _)]) (jm_sub_c rfl (jm_sub_c rfl (jm_sub_c rfl (jm_sub_c rfl (jm_sub_c rfl (jm_sub_c rfl (jm_sub_c rfl (jm_sub_c rfl (jm_sub_c rfl (jm_sub_c rfl (jm_sub_c rfl (jm_sub_0 _)))))))))))) ?_
                                                exact yj127 _ (Or.inr ⟨yc125, rfl⟩) (by omega)
                                              · skip
                                                refine jm_iload C dX6_goes_360 rfl ?_
                                                refine jm_goto 369 C dX6_goes_362 rfl ?_
                                                refine jm_lvs (lv' := [(0, _), (7, _), (8, _), (9, _), (10, _), (11, _), (12, _), (13, _), (14, _), (17, _), (18, _)]) (jm_sub_c rfl (jm_sub_c rfl (jm_sub_c rfl (jm_sub_c rfl (jm_sub_c rfl (jm_sub_c rfl (jm_sub_c rfl (jm_sub_c rfl (jm_sub_c rfl (jm_sub_c rfl (jm_sub_c rfl (jm_sub_0 _)))))))))))) ?_
                                                exact yj127 _ (Or.inl ⟨yc125, rfl⟩) (by omega)
                                            refine jm_if_ne 347 C dX6_goes_334 rfl (by omega) (fun yc121 => ?_) (fun yc121 => ?_)
                                            · skip
                                              refine jm_iconst C dX6_goes_347 ?_
                                              refine jm_lvs (lv' := [(0, _), (7, _), (8, _), (9, _), (10, _), (11, _), (12, _), (13, _), (15, _), (17, _), (23, _)]) (jm_sub_c rfl (jm_sub_c rfl (jm_sub_c rfl (jm_sub_c rfl (jm_sub_c rfl (jm_sub_c rfl (jm_sub_c rfl (jm_sub_c rfl (jm_sub_c rfl (jm_sub_c rfl (jm_sub_c rfl (jm_sub_0 _)))))))))))) ?_
                                              exact yj123 _ (Or.inr (Or.inr ⟨yc121, rfl⟩)) (by decide)
                                            · skip
                                              refine jm_iload C dX6_goes_337 rfl ?_
                                              refine jm_iconst C dX6_goes_339 ?_
                                              refine jm_icmp_ne 347 C dX6_goes_340 rfl (by omega) (by decide) (fun yc133 => ?_) (fun yc133 => ?_)
                                              · skip
                                                refine jm_iconst C dX6_goes_347 ?_
                                                refine jm_lvs (lv' := [(0, _), (7, _), (8, _), (9, _), (10, _), (11, _), (12, _), (13, _), (15, _), (17, _), (23, _)]) (jm_sub_c rfl (jm_sub_c rfl (jm_sub_c rfl (jm_sub_c rfl (jm_sub_c rfl (jm_sub_c rfl (jm_sub_c rfl (jm_sub_c rfl (jm_sub_c rfl (jm_sub_c rfl (jm_sub_c rfl (jm_sub_0 _)))))))))))) ?_
                                                exact yj123 _ (Or.inr (Or.inl ⟨yc121, yc133, rfl⟩)) (by decide)
                                              · skip
                                                refine jm_iconst C dX6_goes_343 ?_
                                                refine jm_goto 348 C dX6_goes_344 rfl ?_
                                                refine jm_lvs (lv' := [(0, _), (7, _), (8, _), (9, _), (10, _), (11, _), (12, _), (13, _), (15, _), (17, _), (23, _)]) (jm_sub_c rfl (jm_sub_c rfl (jm_sub_c rfl (jm_sub_c rfl (jm_sub_c rfl (jm_sub_c rfl (jm_sub_c rfl (jm_sub_c rfl (jm_sub_c rfl (jm_sub_c rfl (jm_sub_c rfl (jm_sub_0 _)))))))))))) ?_
                                                exact yj123 _ (Or.inl ⟨yc121, yc133, rfl⟩) (by decide)
                                          refine jm_if_ne 329 C dX6_goes_322 rfl (by omega) (fun yc117 => ?_) (fun yc117 => ?_)
                                          · skip
                                            refine jm_iconst C dX6_goes_329 ?_
                                            refine jm_lvs (lv' := [(0, _), (7, _), (8, _), (9, _), (10, _), (11, _), (12, _), (13, _), (15, _), (23, _)]) (jm_sub_c rfl (jm_sub_c rfl (jm_sub_c rfl (jm_sub_c rfl (jm_sub_c rfl (jm_sub_c rfl (jm_sub_c rfl (jm_sub_c rfl (jm_sub_c rfl (jm_sub_c rfl (jm_sub_0 _))))))))))) ?_
                                            exact yj119 _ (Or.inr ⟨yc117, rfl⟩) (by decide)
                                          · skip
                                            refine jm_iconst C dX6_goes_325 ?_
                                            refine jm_goto 330 C dX6_goes_326 rfl ?_
                                            refine jm_lvs (lv' := [(0, _), (7, _), (8, _), (9, _), (10, _), (11, _), (12, _), (13, _), (15, _), (23, _)]) (jm_sub_c rfl (jm_sub_c rfl (jm_sub_c rfl (jm_sub_c rfl (jm_sub_c rfl (jm_sub_c rfl (jm_sub_c rfl (jm_sub_c rfl (jm_sub_c rfl (jm_sub_c rfl (jm_sub_0 _))))))))))) ?_
                                            exact yj119 _ (Or.inl ⟨yc117, rfl⟩) (by decide)
                          refine jm_if_ne 240 C dX6_goes_233 rfl (by omega) (fun yc38 => ?_) (fun yc38 => ?_)
                          · skip
                            refine jm_iconst C dX6_goes_240 ?_
                            refine jm_lvs (lv' := [(0, _), (7, _), (8, _), (9, _), (10, _), (11, _), (12, _), (13, _), (14, _), (15, _), (16, _), (17, _), (22, _)]) (jm_sub_c rfl (jm_sub_c rfl (jm_sub_c rfl (jm_sub_c rfl (jm_sub_c rfl (jm_sub_c rfl (jm_sub_c rfl (jm_sub_c rfl (jm_sub_c rfl (jm_sub_c rfl (jm_sub_c rfl (jm_sub_c rfl (jm_sub_c rfl (jm_sub_0 _)))))))))))))) ?_
                            exact yj40 _ (Or.inr ⟨yc38, rfl⟩) (by decide)
                          · skip
                            refine jm_iconst C dX6_goes_236 ?_
                            refine jm_goto 241 C dX6_goes_237 rfl ?_
                            refine jm_lvs (lv' := [(0, _), (7, _), (8, _), (9, _), (10, _), (11, _), (12, _), (13, _), (14, _), (15, _), (16, _), (17, _), (22, _)]) (jm_sub_c rfl (jm_sub_c rfl (jm_sub_c rfl (jm_sub_c rfl (jm_sub_c rfl (jm_sub_c rfl (jm_sub_c rfl (jm_sub_c rfl (jm_sub_c rfl (jm_sub_c rfl (jm_sub_c rfl (jm_sub_c rfl (jm_sub_c rfl (jm_sub_0 _)))))))))))))) ?_
                            exact yj40 _ (Or.inl ⟨yc38, rfl⟩) (by decide)
                        refine jm_icmp_ne 228 C dX6_goes_221 rfl (by omega) (by decide) (fun yc34 => ?_) (fun yc34 => ?_)
                        · skip
                          refine jm_iconst C dX6_goes_228 ?_
                          refine jm_lvs (lv' := [(0, _), (7, _), (8, _), (9, _), (10, _), (11, _), (12, _), (13, _), (14, _), (15, _), (16, _), (22, _)]) (jm_sub_c rfl (jm_sub_c rfl (jm_sub_c rfl (jm_sub_c rfl (jm_sub_c rfl (jm_sub_c rfl (jm_sub_c rfl (jm_sub_c rfl (jm_sub_c rfl (jm_sub_c rfl (jm_sub_c rfl (jm_sub_c rfl (jm_sub_0 _))))))))))))) ?_
                          exact yj36 _ (Or.inr ⟨yc34, rfl⟩) (by decide)
                        · skip
                          refine jm_iconst C dX6_goes_224 ?_
                          refine jm_goto 229 C dX6_goes_225 rfl ?_
                          refine jm_lvs (lv' := [(0, _), (7, _), (8, _), (9, _), (10, _), (11, _), (12, _), (13, _), (14, _), (15, _), (16, _), (22, _)]) (jm_sub_c rfl (jm_sub_c rfl (jm_sub_c rfl (jm_sub_c rfl (jm_sub_c rfl (jm_sub_c rfl (jm_sub_c rfl (jm_sub_c rfl (jm_sub_c rfl (jm_sub_c rfl (jm_sub_c rfl (jm_sub_c rfl (jm_sub_0 _))))))))))))) ?_
                          exact yj36 _ (Or.inl ⟨yc34, rfl⟩) (by decide)
                      refine jm_if_eq 213 C dX6_goes_206 rfl (by omega) (fun yc30 => ?_) (fun yc30 => ?_)
                      · skip
                        refine jm_iconst C dX6_goes_213 ?_
                        refine jm_lvs (lv' := [(0, _), (7, _), (8, _), (9, _), (10, _), (11, _), (12, _), (13, _), (14, _), (15, _), (22, _)]) (jm_sub_c rfl (jm_sub_c rfl (jm_sub_c rfl (jm_sub_c rfl (jm_sub_c rfl (jm_sub_c rfl (jm_sub_c rfl (jm_sub_c rfl (jm_sub_c rfl (jm_sub_c rfl (jm_sub_c rfl (jm_sub_0 _)))))))))))) ?_
                        exact yj32 _ (Or.inl ⟨yc30, rfl⟩) (by decide)
                      · skip
                        refine jm_iconst C dX6_goes_209 ?_
                        refine jm_goto 214 C dX6_goes_210 rfl ?_
                        refine jm_lvs (lv' := [(0, _), (7, _), (8, _), (9, _), (10, _), (11, _), (12, _), (13, _), (14, _), (15, _), (22, _)]) (jm_sub_c rfl (jm_sub_c rfl (jm_sub_c rfl (jm_sub_c rfl (jm_sub_c rfl (jm_sub_c rfl (jm_sub_c rfl (jm_sub_c rfl (jm_sub_c rfl (jm_sub_c rfl (jm_sub_c rfl (jm_sub_0 _)))))))))))) ?_
                        exact yj32 _ (Or.inr ⟨yc30, rfl⟩) (by decide)
                    refine jm_icmp_ge 188 C dX6_goes_181 rfl (by omega) (by decide) (fun yc24 => ?_) (fun yc24 => ?_)
                    · skip
                      refine jm_iconst C dX6_goes_188 ?_
                      refine jm_lvs (lv' := [(0, _), (7, _), (8, _), (9, _), (10, _), (11, _), (12, _), (13, _), (14, _), (15, _), (16, _)]) (jm_sub_c rfl (jm_sub_c rfl (jm_sub_c rfl (jm_sub_c rfl (jm_sub_c rfl (jm_sub_c rfl (jm_sub_c rfl (jm_sub_c rfl (jm_sub_c rfl (jm_sub_c rfl (jm_sub_c rfl (jm_sub_0 _)))))))))))) ?_
                      exact yj26 _ (Or.inl ⟨yc24, rfl⟩) (by decide)
                    · skip
                      refine jm_iconst C dX6_goes_184 ?_
                      refine jm_goto 189 C dX6_goes_185 rfl ?_
                      refine jm_lvs (lv' := [(0, _), (7, _), (8, _), (9, _), (10, _), (11, _), (12, _), (13, _), (14, _), (15, _), (16, _)]) (jm_sub_c rfl (jm_sub_c rfl (jm_sub_c rfl (jm_sub_c rfl (jm_sub_c rfl (jm_sub_c rfl (jm_sub_c rfl (jm_sub_c rfl (jm_sub_c rfl (jm_sub_c rfl (jm_sub_c rfl (jm_sub_0 _)))))))))))) ?_
                      exact yj26 _ (Or.inr ⟨yc24, rfl⟩) (by decide)
                  · skip
                    have htd4 := Int.tdiv_eq_ediv_of_nonneg (a := en * 3) (b := 4) (by omega)
                    refine jm_iload C dX6_goes_136 rfl ?_
                    refine jm_istore C dX6_goes_138 (by decide) ?_
                    refine jm_iload C dX6_goes_140 rfl ?_
                    refine jm_iconst C dX6_goes_142 ?_
                    refine jm_imul C dX6_goes_143 ?_
                    refine jm_iconst C dX6_goes_144 ?_
                    refine jm_idiv C dX6_goes_145 (by omega) (by decide) (by decide) ?_
                    refine jm_istore C dX6_goes_146 (by decide) ?_
                    refine jm_iconst C dX6_goes_148 ?_
                    refine jm_istore C dX6_goes_149 (by decide) ?_
                    refine jm_goto 390 C dX6_goes_151 rfl ?_
                    refine jm_goto 56 C dX6_goes_390 rfl ?_
                    refine jm_lvs (lv' := [(0, _), (7, _), (8, _), (9, _), (10, _), (11, _), (12, _), (13, _), (14, _), (15, _), (16, _), (17, _), (18, _)]) (jm_sub_c rfl (jm_sub_c rfl (jm_sub_c rfl (jm_sub_c rfl (jm_sub_c rfl (jm_sub_c rfl (jm_sub_c rfl (jm_sub_c rfl (jm_sub_c rfl (jm_sub_c rfl (jm_sub_c rfl (jm_sub_c rfl (jm_sub_c rfl (jm_sub_0 _)))))))))))))) ?_
                    exact ih56 _ _ _ _ _ _ _ _ _ (v - 1) (by omega) (by first | exact hIN | exact hIM) (fun a ha => by first | exact hM a ha | exact (hN1 a ha).trans (hM a ha)) (by first | exact hN9 | exact hw9) (by omega) (Or.inr ⟨rfl, hk_fin0 (by rw [if_neg (by omega), if_pos (by omega)] at hT; exact hT) hgo (fun _ => rfl) hx (by omega)⟩) (by omega)
                · skip
                  refine jm_iconst C dX6_goes_124 ?_
                  refine jm_istore C dX6_goes_125 (by decide) ?_
                  refine jm_goto 390 C dX6_goes_127 rfl ?_
                  refine jm_goto 56 C dX6_goes_390 rfl ?_
                  refine jm_lvs (lv' := [(0, _), (7, _), (8, _), (9, _), (10, _), (11, _), (12, _), (13, _), (14, _), (15, _), (16, _), (17, _), (18, _)]) (jm_sub_c rfl (jm_sub_c rfl (jm_sub_c rfl (jm_sub_c rfl (jm_sub_c rfl (jm_sub_c rfl (jm_sub_c rfl (jm_sub_c rfl (jm_sub_c rfl (jm_sub_c rfl (jm_sub_c rfl (jm_sub_c rfl (jm_sub_c rfl (jm_sub_0 _)))))))))))))) ?_
                  exact ih56 _ _ _ _ _ _ _ _ _ (v - 1) (by omega) (by first | exact hIN | exact hIM) (fun a ha => by first | exact hM a ha | exact (hN1 a ha).trans (hM a ha)) (by first | exact hN9 | exact hw9) (by omega) (Or.inr ⟨rfl, by rw [hnx]; exact hk_fin0 (by rw [if_pos (by omega)] at hT; exact hT) hgo (fun q => absurd rfl q) hx (by omega)⟩) (by omega)
              refine jm_if_eq 101 C dX6_goes_94 rfl (by omega) (fun yc14 => ?_) (fun yc14 => ?_)
              · skip
                refine jm_iconst C dX6_goes_101 ?_
                refine jm_lvs (lv' := [(0, _), (7, _), (8, _), (9, _), (10, _), (11, _), (12, _), (13, _), (14, _), (15, _), (16, _), (17, _), (19, _)]) (jm_sub_c rfl (jm_sub_c rfl (jm_sub_c rfl (jm_sub_c rfl (jm_sub_c rfl (jm_sub_c rfl (jm_sub_c rfl (jm_sub_c rfl (jm_sub_c rfl (jm_sub_c rfl (jm_sub_c rfl (jm_sub_c rfl (jm_sub_c rfl (jm_sub_0 _)))))))))))))) ?_
                exact yj16 _ (Or.inl ⟨yc14, rfl⟩) (by decide)
              · skip
                refine jm_iconst C dX6_goes_97 ?_
                refine jm_goto 102 C dX6_goes_98 rfl ?_
                refine jm_lvs (lv' := [(0, _), (7, _), (8, _), (9, _), (10, _), (11, _), (12, _), (13, _), (14, _), (15, _), (16, _), (17, _), (19, _)]) (jm_sub_c rfl (jm_sub_c rfl (jm_sub_c rfl (jm_sub_c rfl (jm_sub_c rfl (jm_sub_c rfl (jm_sub_c rfl (jm_sub_c rfl (jm_sub_c rfl (jm_sub_c rfl (jm_sub_c rfl (jm_sub_c rfl (jm_sub_c rfl (jm_sub_0 _)))))))))))))) ?_
                exact yj16 _ (Or.inr ⟨yc14, rfl⟩) (by decide)
        refine jm_lvs (lv' := [(0, _), (7, _), (8, _), (9, _), (10, _), (11, _), (12, _), (13, _), (14, _), (15, _), (16, _), (17, _), (18, _)]) (jm_sub_c rfl (jm_sub_c rfl (jm_sub_c rfl (jm_sub_c rfl (jm_sub_c rfl (jm_sub_c rfl (jm_sub_c rfl (jm_sub_c rfl (jm_sub_c rfl (jm_sub_c rfl (jm_sub_c rfl (jm_sub_c rfl (jm_sub_c rfl (jm_sub_0 _)))))))))))))) ?_
        exact lp56 _ Mo x0 y0 en0 0 (-1) 0 0 1 61 (Nat.lt_succ_self _) hIo (fun _ _ => rfl) (by rw [ho1 _ (by decide)]; exact hw9x) (by decide) (Or.inl ⟨rfl, rfl, rfl, by omega, by omega, by omega, by omega, 0, 60, by rw [ho1 _ (by decide), hfm]; rfl, by omega, fun _ => rfl⟩) (by omega)
  refine jm_lvs (lv' := [(0, _), (7, _), (8, _), (9, _), (10, _), (11, _), (12, _), (13, _)]) (jm_sub_c rfl (jm_sub_c rfl (jm_sub_c rfl (jm_sub_c rfl (jm_sub_c rfl (jm_sub_c rfl (jm_sub_c rfl (jm_sub_c rfl (jm_sub_0 _))))))))) ?_
  exact lp27 _ I slot lane 0 (10 * wt) turn low high 7 (Nat.lt_succ_self _) hI (fun _ _ _ => rfl) hw hg (Or.inr ⟨by omega, hsl, hla, by omega, by omega, htu, hlo, hhi, rfl, by have := hk_ct_le (hk_pt (I 325) slot (-1)) 0 6; omega⟩)
