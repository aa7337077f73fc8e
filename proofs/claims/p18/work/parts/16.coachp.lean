set_option maxRecDepth 100000 in
set_option maxHeartbeats 4000000 in
theorem kX5_worthOfTry (E : jm_E) (w : jm_W) (I : jm_M) (ng : Int) (H : jm_X5 E w ng) (k : Int) (h : jm_X0 E w k) (hk : 30 ≤ k ∧ k < 100) (ln wt tn : Int) (hl : 0 ≤ ln ∧ ln ≤ 8) (hwt : 0 ≤ wt ∧ wt ≤ 100) (htn : -1 ≤ tn ∧ tn ≤ 1) (hpre : hk_wpre I k) : jm_Mi E yX5_worthOfTry wX5_worthOfTry rmX5_worthOfTry 0 0 w I [.ref (w.2.1 0), .ref (w.2.1 k), jm_v ln, jm_v wt, jm_v tn] (fun I' z => hk_off I I' ∧ z = hk_wt I k ln wt tn) := by
  refine jm_in_i (cc := cX5_worthOfTry) (maxL := 6) (rt := .int) RX5 (by decide +kernel) rfl rfl (Nat.le_of_ble_eq_true rfl) (by simp [Value.category]) ?_
  intro G C hR hI
  have hp6 := hpre.1
  refine jm_aload_n C dX5_worthOfTry_0 rfl ?_
  refine jm_getr (ci := 5) (f := 3) C rfl jw_u_5 H.1.1 H.1.2 rfl (by decide) jw_f_RX5_32 dX5_worthOfTry_1 ?_
  refine jm_iload_n C dX5_worthOfTry_4 rfl ?_
  refine jm_iload_n C dX5_worthOfTry_5 rfl ?_
  refine jm_iload C dX5_worthOfTry_6 rfl ?_
  refine jm_iconst C dX5_worthOfTry_8 ?_
  refine jm_iconst C dX5_worthOfTry_9 ?_
  refine jm_cVu (n := 5) (ci := 2) [] C (kX2_aim E w I _ (jm_X5_l H) _ _ _ _ _ (by omega) (by omega) (by omega) (by decide) (by decide)) jw_m_RX5_91 okX2_aim rfl ⟨rfl, rfl⟩ ⟨Nat.le_of_ble_eq_true rfl, Nat.le_of_ble_eq_true rfl⟩ rfl (jm_X5_l H).1 (jm_X5_l H).2.1 rfl rfl (Nat.le_of_ble_eq_true rfl) dX5_worthOfTry_10 ⟨Nat.le_of_ble_eq_true rfl, Nat.le_of_ble_eq_true rfl⟩ ?_
  obtain ⟨MA, hMA⟩ : ∃ X, X = (jm_up (jm_up (jm_up (jm_up (jm_up (jm_up I 4 2 ln) 4 3 0) 4 4 (10 * wt)) 4 5 tn) 4 6 1) 4 7 0) := ⟨_, rfl⟩
  rw [← hMA]
  have a2 : MA 4 2 = ln := by rw [hMA]; simp [jm_up]
  have a3 : MA 4 3 = 0 := by rw [hMA]; simp [jm_up]
  have a4 : MA 4 4 = 10 * wt := by rw [hMA]; simp [jm_up]
  have a5 : MA 4 5 = tn := by rw [hMA]; simp [jm_up]
  have a6 : MA 4 6 = 1 := by rw [hMA]; simp [jm_up]
  have a7 : MA 4 7 = 0 := by rw [hMA]; simp [jm_up]
  have ao : ∀ a, a ≠ 4 → MA a = I a := fun a ha => by rw [hMA]; funext b; rw [jm_up_n (Or.inl ha), jm_up_n (Or.inl ha), jm_up_n (Or.inl ha), jm_up_n (Or.inl ha), jm_up_n (Or.inl ha), jm_up_n (Or.inl ha)]
  have aok : MA k = I k := ao k (by omega)
  have hIA : ∀ a b, jm_R (MA a b) := by rw [hMA]; exact jm_upR (jm_upR (jm_upR (jm_upR (jm_upR (jm_upR hI (by omega)) (by decide)) (by omega)) (by omega)) (by omega)) (by omega)
  refine jm_aload_n C dX5_worthOfTry_13 rfl ?_
  refine jm_getr (ci := 5) (f := 3) C rfl jw_u_5 H.1.1 H.1.2 rfl (by decide) jw_f_RX5_32 dX5_worthOfTry_14 ?_
  refine jm_aload_n C dX5_worthOfTry_17 rfl ?_
  refine jm_aload_n C dX5_worthOfTry_18 rfl ?_
  refine jm_getv (ci := 0) (f := 6) (I k 6) 6 rfl (congrFun aok _) C rfl jw_u_0 h.1 h.2.1 rfl (by decide) jw_f_RX5_95 dX5_worthOfTry_19 (fun yr3 => ?_)
  refine jm_cVrd (n := 1) (ci := 5) [.ref (w.2.1 4)] C (kX5_sheetOf E w MA ng H _ (by omega)) jw_m_RX5_98 okX5_sheetOf rfl ⟨rfl, rfl⟩ ⟨Nat.le_of_ble_eq_true rfl, Nat.le_of_ble_eq_true rfl⟩ rfl H.1.1 H.1.2 rfl rfl (Nat.le_of_ble_eq_true rfl) dX5_worthOfTry_22 ⟨Nat.le_of_ble_eq_true rfl, Nat.le_of_ble_eq_true rfl⟩ ?_
  refine jm_aload_n C dX5_worthOfTry_25 rfl ?_
  refine jm_getr (ci := 0) (f := 3) C rfl jw_u_0 h.1 h.2.1 rfl (by decide) jw_f_RX5_102 dX5_worthOfTry_26 ?_
  refine jm_aload_n C dX5_worthOfTry_29 rfl ?_
  refine jm_cVd (n := 0) (ci := 0) [.ref (w.2.1 (k + 100)), .ref (w.2.1 (10 + (I k 6))), .ref (w.2.1 4)] C (kX0_nextStone E w MA _ h) jw_m_RX5_106 okX0_nextStone rfl ⟨rfl, rfl⟩ ⟨Nat.le_of_ble_eq_true rfl, Nat.le_of_ble_eq_true rfl⟩ rfl h.1 h.2.1 rfl rfl (Nat.le_of_ble_eq_true rfl) dX5_worthOfTry_30 ⟨Nat.le_of_ble_eq_true rfl, Nat.le_of_ble_eq_true rfl⟩ (fun yz7 yh6 => ?_)
  rw [aok] at yh6
  subst yh6
  refine jm_iconst C dX5_worthOfTry_33 ?_
  refine jm_cVi (n := 4) (ci := 2) [] C (kX2_run2 E w MA 4 (jm_X5_l H) (10 + I k 6) (jm_X5_s H (by omega) (by omega)) (k + 100) h.2.2 (by omega) (by omega) (by omega) (hk_slot I k) _ hpre.2.1 (by decide) ln (10 * wt) tn 1 0 (I (10 + I k 6 + 100)) (I (k + 100 + 100)) a2 a3 a4 a5 a6 a7 (ao _ (by omega)) (ao _ (by omega)) (by omega) (by omega) (by omega) hpre.2.2.2.2.1 hpre.2.2.2.1 hpre.2.2.1) jw_m_RX5_110 okX2_run rfl ⟨rfl, rfl⟩ ⟨Nat.le_of_ble_eq_true rfl, Nat.le_of_ble_eq_true rfl⟩ rfl (jm_X5_l H).1 (jm_X5_l H).2.1 rfl rfl (Nat.le_of_ble_eq_true rfl) dX5_worthOfTry_34 ⟨Nat.le_of_ble_eq_true rfl, Nat.le_of_ble_eq_true rfl⟩ (fun yI10 yz9 yh8 => ?_)
  obtain ⟨hz, hr2⟩ := yh8
  have hof : hk_off I yI10 := fun a h1 h2 => by
    by_cases h3 : a = 10 + I k 6 + 100
    · subst h3; exact (hr2.2.2.2.2.1 rfl).trans (ao _ h1)
    · exact (hr2.1 a h1 h2 h3).trans (ao _ h1)
  have hsc : hk_score (yI10 (4 + 100 + 100)) = hk_score (hk_thr (I (10 + I k 6 + 100)) (I (k + 100 + 100)) (hk_slot I k) ln (10 * wt) tn 1 0).2.2 := hk_score_c hr2.2.1
  have hgk : yI10 k = I k := hof k (by omega) (by omega)
  have hns := hpre.2.2.2.2.2
  refine jm_pop C dX5_worthOfTry_37 rfl ?_
  refine jm_aload_n C dX5_worthOfTry_38 rfl ?_
  refine jm_getr (ci := 5) (f := 3) C rfl jw_u_5 H.1.1 H.1.2 rfl (by decide) jw_f_RX5_32 dX5_worthOfTry_39 ?_
  refine jm_getr (ci := 2) (f := 0) C rfl jw_u_2 (jm_X5_l H).1 (jm_X5_l H).2.1 rfl (by decide) jw_f_RX5_125 dX5_worthOfTry_42 ?_
  refine jm_cVd (n := 0) (ci := 3) [] C (kX3_score E w yI10 _ (jm_X5_l H).2.2) jw_m_RX5_192 okX3_score rfl ⟨rfl, rfl⟩ ⟨Nat.le_of_ble_eq_true rfl, Nat.le_of_ble_eq_true rfl⟩ rfl (jm_X5_l H).2.2.1 (jm_X5_l H).2.2.2.1 rfl rfl (Nat.le_of_ble_eq_true rfl) dX5_worthOfTry_45 ⟨Nat.le_of_ble_eq_true rfl, Nat.le_of_ble_eq_true rfl⟩ (fun yz12 yh11 => ?_)
  rw [hsc] at yh11
  subst yh11
  have yh11r := hk_score_r (hk_thr (I (10 + I k 6 + 100)) (I (k + 100 + 100)) (hk_slot I k) ln (10 * wt) tn 1 0).2.2
  refine jm_istore C dX5_worthOfTry_48 (by decide) ?_
  refine jm_aload_n C dX5_worthOfTry_50 rfl ?_
  refine jm_cVd (n := 0) (ci := 0) [] C (kX0_nextSide E w yI10 _ h) jw_m_RX5_181 okX0_nextSide rfl ⟨rfl, rfl⟩ ⟨Nat.le_of_ble_eq_true rfl, Nat.le_of_ble_eq_true rfl⟩ rfl h.1 h.2.1 rfl rfl (Nat.le_of_ble_eq_true rfl) dX5_worthOfTry_51 ⟨Nat.le_of_ble_eq_true rfl, Nat.le_of_ble_eq_true rfl⟩ (fun yz14 yh13 => ?_)
  rw [hgk] at yh13
  subst yh13
  refine jm_if_ne 62 C dX5_worthOfTry_54 rfl (by omega) (fun yc15 => ?_) (fun yc15 => ?_)
  · skip
    refine jm_iload C dX5_worthOfTry_62 rfl ?_
    refine jm_ineg C dX5_worthOfTry_64 ?_
    exact hR _ _ _ _ dX5_worthOfTry_65 rfl ⟨hof, by unfold hk_wt hk_wtry; first | rw [if_pos (by omega)] | rw [if_neg (by omega)]⟩
  · skip
    refine jm_iload C dX5_worthOfTry_57 rfl ?_
    refine jm_goto 65 C dX5_worthOfTry_59 rfl ?_
    exact hR _ _ _ _ dX5_worthOfTry_65 rfl ⟨hof, by unfold hk_wt hk_wtry; first | rw [if_pos (by omega)] | rw [if_neg (by omega)]⟩
set_option maxRecDepth 100000 in
set_option maxHeartbeats 4000000 in
theorem kX5_worthOfShot (E : jm_E) (w : jm_W) (I : jm_M) (ng : Int) (H : jm_X5 E w ng) (k : Int) (h : jm_X0 E w k) (hk : 30 ≤ k ∧ k < 100) (ln wt tn : Int) (hl : 0 ≤ ln ∧ ln ≤ 8) (hwt : 5 ≤ wt ∧ wt ≤ 95) (htn : -1 ≤ tn ∧ tn ≤ 1) (hpre : hk_wpre I k) : jm_Mi E yX5_worthOfShot wX5_worthOfShot rmX5_worthOfShot 0 0 w I [.ref (w.2.1 0), .ref (w.2.1 k), jm_v ln, jm_v wt, jm_v tn] (fun I' z => hk_off I I' ∧ z = hk_wsh I k ln wt tn) := by
  refine jm_in_i (cc := cX5_worthOfShot) (maxL := 6) (rt := .int) RX5 (by decide +kernel) rfl rfl (Nat.le_of_ble_eq_true rfl) (by simp [Value.category]) ?_
  intro G C hR hI
  refine jm_aload_n C dX5_worthOfShot_0 rfl ?_
  refine jm_aload_n C dX5_worthOfShot_1 rfl ?_
  refine jm_iload_n C dX5_worthOfShot_2 rfl ?_
  refine jm_iload_n C dX5_worthOfShot_3 rfl ?_
  refine jm_iload C dX5_worthOfShot_4 rfl ?_
  refine jm_cVi (n := 4) (ci := 5) [] C (kX5_worthOfTry E w I ng H _ h hk _ _ _ hl (by omega) htn (hk_off_wpre (hk_off_rf I) hk hpre)) jw_m_RX5_273 okX5_worthOfTry rfl ⟨rfl, rfl⟩ ⟨Nat.le_of_ble_eq_true rfl, Nat.le_of_ble_eq_true rfl⟩ rfl H.1.1 H.1.2 rfl rfl (Nat.le_of_ble_eq_true rfl) dX5_worthOfShot_6 ⟨Nat.le_of_ble_eq_true rfl, Nat.le_of_ble_eq_true rfl⟩ (fun yI3 yz2 yh1 => ?_)
  obtain ⟨yh1o, yh1z⟩ := yh1
  rw [hk_off_wt (hk_off_rf I) hk hpre] at yh1z
  subst yh1z
  have yh1t : hk_off I yI3 := hk_off_tr (hk_off_rf I) yh1o
  have yh1r := hk_wt_r I k ln wt tn
  refine jm_istore C dX5_worthOfShot_9 (by decide) ?_
  
  refine jm_iload C dX5_worthOfShot_11 rfl ?_
  refine jm_aload_n C dX5_worthOfShot_13 rfl ?_
  refine jm_aload_n C dX5_worthOfShot_14 rfl ?_
  refine jm_iload_n C dX5_worthOfShot_15 rfl ?_
  refine jm_iload_n C dX5_worthOfShot_16 rfl ?_
  refine jm_iconst C dX5_worthOfShot_17 ?_
  refine jm_isub C dX5_worthOfShot_18 ?_
  refine jm_iload C dX5_worthOfShot_19 rfl ?_
  refine jm_cVi (n := 4) (ci := 5) [jm_v (hk_wt I k ln wt tn)] C (kX5_worthOfTry E w yI3 ng H _ h hk _ _ _ hl (by omega) htn (hk_off_wpre yh1t hk hpre)) jw_m_RX5_273 okX5_worthOfTry rfl ⟨rfl, rfl⟩ ⟨Nat.le_of_ble_eq_true rfl, Nat.le_of_ble_eq_true rfl⟩ rfl H.1.1 H.1.2 rfl rfl (Nat.le_of_ble_eq_true rfl) dX5_worthOfShot_21 ⟨Nat.le_of_ble_eq_true rfl, Nat.le_of_ble_eq_true rfl⟩ (fun yI6 yz5 yh4 => ?_)
  obtain ⟨yh4o, yh4z⟩ := yh4
  rw [hk_off_wt yh1t hk hpre] at yh4z
  subst yh4z
  have yh4t : hk_off I yI6 := hk_off_tr yh1t yh4o
  have yh4r := hk_wt_r I k ln (wt - 5) tn
  
  refine jm_min C jw_m_RX5_227 jw_s_min jw_n_Math jw_c_min (Nat.le_of_ble_eq_true rfl) (Nat.le_of_ble_eq_true rfl) (Nat.le_of_ble_eq_true rfl) (Nat.le_of_ble_eq_true rfl) dX5_worthOfShot_24 (by omega) (by omega) ?_
  refine jm_istore C dX5_worthOfShot_27 (by decide) ?_
  refine jm_iload C dX5_worthOfShot_29 rfl ?_
  refine jm_aload_n C dX5_worthOfShot_31 rfl ?_
  refine jm_aload_n C dX5_worthOfShot_32 rfl ?_
  refine jm_iload_n C dX5_worthOfShot_33 rfl ?_
  refine jm_iload_n C dX5_worthOfShot_34 rfl ?_
  refine jm_iconst C dX5_worthOfShot_35 ?_
  refine jm_iadd C dX5_worthOfShot_36 ?_
  refine jm_iload C dX5_worthOfShot_37 rfl ?_
  refine jm_cVi (n := 4) (ci := 5) [jm_v (hk_mn (hk_wt I k ln wt tn) (hk_wt I k ln (wt - 5) tn))] C (kX5_worthOfTry E w yI6 ng H _ h hk _ _ _ hl (by omega) htn (hk_off_wpre yh4t hk hpre)) jw_m_RX5_273 okX5_worthOfTry rfl ⟨rfl, rfl⟩ ⟨Nat.le_of_ble_eq_true rfl, Nat.le_of_ble_eq_true rfl⟩ rfl H.1.1 H.1.2 rfl rfl (Nat.le_of_ble_eq_true rfl) dX5_worthOfShot_39 ⟨Nat.le_of_ble_eq_true rfl, Nat.le_of_ble_eq_true rfl⟩ (fun yI9 yz8 yh7 => ?_)
  obtain ⟨yh7o, yh7z⟩ := yh7
  rw [hk_off_wt yh4t hk hpre] at yh7z
  subst yh7z
  have yh7t : hk_off I yI9 := hk_off_tr yh4t yh7o
  have yh7r := hk_wt_r I k ln (wt + 5) tn
  have hmr : jm_R (hk_mn (hk_wt I k ln wt tn) (hk_wt I k ln (wt - 5) tn)) := by unfold hk_mn; split <;> omega
  refine jm_min C jw_m_RX5_227 jw_s_min jw_n_Math jw_c_min (Nat.le_of_ble_eq_true rfl) (Nat.le_of_ble_eq_true rfl) (Nat.le_of_ble_eq_true rfl) (Nat.le_of_ble_eq_true rfl) dX5_worthOfShot_42 hmr (by omega) ?_
  exact hR _ _ _ _ dX5_worthOfShot_45 rfl ⟨yh7t, rfl⟩
