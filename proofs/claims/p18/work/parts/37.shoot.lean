/-! a throw that counts, of the class -/
theorem hk_thr_R (W f : Int → Int) (n ln en tn lo hi : Int) (he : 0 ≤ en) (hl : 0 ≤ ln ∧ ln ≤ 8) (hW : hk_w9 W) : jm_R (hk_thr W f n ln en tn lo hi).1 := by
  have h := (hk_T_all (hk_lie f) tn lo hi 60 W ln 0 en 0 hW hl (by omega) he).1
  exact hk_ok_R h
set_option maxRecDepth 100000 in
set_option maxHeartbeats 4000000 in
theorem kxX5_shoot (E : jm_E) (hl0 : E.1.stackTraces = false) (w : jm_W) (I : jm_M) (ng : Int) (H : jm_X5 E w ng) (g : Int) (lane wt tn lo hi : Int) (g1 : jm_R g) (g2 : jm_R lane) (g3 : jm_R wt) (g4 : jm_R tn) (g5 : jm_R lo) (g6 : jm_R hi) (hpr : ∀ i, 0 ≤ i → i < ng → I (30 + i) 5 = 1 ∨ I (30 + i) 5 = 2 → hk_wpre I (30 + i)) (hex : ∀ i, 0 ≤ i → i < ng → I (30 + i) 5 = 1 ∨ I (30 + i) 5 = 2 → (0 ≤ I (30 + i) 0 ∧ I (30 + i) 0 < 6) ∧ (0 ≤ I (30 + i) 1 ∧ I (30 + i) 1 < 6) ∧ (0 ≤ I (30 + i) 11 ∧ I (30 + i) 11 ≤ 100000) ∧ (0 ≤ I (30 + i) 8 ∧ I (30 + i) 8 ≤ 100000) ∧ (0 ≤ I (30 + i) 9 ∧ I (30 + i) 9 ≤ 100000) ∧ (0 ≤ I (30 + i) 10 ∧ I (30 + i) 10 ≤ 100000)) (hwn : ∀ t, 0 ≤ t → t < 6 → 0 ≤ I (20 + t) 0 ∧ I (20 + t) 0 ≤ 1000000) (htm : ∀ t, 0 ≤ t → t < 6 → (0 ≤ I (20 + t) 1 ∧ I (20 + t) 1 ≤ 1000000) ∧ (0 ≤ I (20 + t) 2 ∧ I (20 + t) 2 ≤ 1000000)) : jm_Xi E yX5_shoot wX5_shoot rxX5_shoot 2 12 w I [.ref (w.2.1 0), jm_v g, jm_v lane, jm_v wt, jm_v tn, jm_v lo, jm_v hi] (fun I' z => (0 ≤ g ∧ g < ng) ∧ (hk_shot lane wt tn lo hi) ∧ (I (30 + g) 5 = 1 ∨ I (30 + g) 5 = 2) ∧ z = (hk_thr (I (10 + I (30 + g) 6 + 100)) (I (30 + g + 100 + 100)) (hk_slot I (30 + g)) lane (10 * wt) tn lo hi).1 ∧ ∃ M : jm_M, (∀ a, a ≠ 4 → a ≠ 4 + 100 + 100 → a ≠ 10 + I (30 + g) 6 + 100 → M a = I a) ∧ hk_eq6 (M (4 + 100 + 100)) (hk_thr (I (10 + I (30 + g) 6 + 100)) (I (30 + g + 100 + 100)) (hk_slot I (30 + g)) lane (10 * wt) tn lo hi).2.2 ∧ M (10 + I (30 + g) 6 + 100) = (hk_thr (I (10 + I (30 + g) 6 + 100)) (I (30 + g + 100 + 100)) (hk_slot I (30 + g)) lane (10 * wt) tn lo hi).2.1 ∧ hk_w9 (M (10 + I (30 + g) 6 + 100)) ∧ hk_good (hk_thr (I (10 + I (30 + g) 6 + 100)) (I (30 + g + 100 + 100)) (hk_slot I (30 + g)) lane (10 * wt) tn lo hi).2.2 ∧ I' = (if I (30 + g) 5 = 1 then hk_sdr M (30 + g) (hk_dist (hk_thr (I (10 + I (30 + g) 6 + 100)) (I (30 + g + 100 + 100)) (hk_slot I (30 + g)) lane (10 * wt) tn lo hi).1) else hk_sst (hk_fill M (30 + g + 100 + 100) 6 (M (4 + 100 + 100))) (30 + g))) (fun cls I' => I' = I ∧ ((¬ (0 ≤ g ∧ g < ng) ∧ cls = "java/lang/IndexOutOfBoundsException") ∨ ((0 ≤ g ∧ g < ng) ∧ ¬ (hk_shot lane wt tn lo hi) ∧ cls = "java/lang/IllegalArgumentException") ∨ ((0 ≤ g ∧ g < ng) ∧ (hk_shot lane wt tn lo hi) ∧ ¬ (I (30 + g) 5 = 1 ∨ I (30 + g) 5 = 2) ∧ cls = "java/lang/IllegalStateException"))) := by
  refine jm_xin_i (cc := cX5_shoot) (maxL := 9) (rt := .int) RX5 hl0 rfl (by decide +kernel) rfl rfl (Nat.le_of_ble_eq_true rfl) (by simp [Value.category]) ?_
  intro G C hR hT hP hI
  have hng := jm_X5_n H
  refine jm_aload_n C dX5_shoot_0 rfl ?_
  refine jm_iload_n C dX5_shoot_1 rfl ?_
  refine jm_xcVr (n := 1) (ci := 5) [] C (kxX5_gameOf E hl0 w I ng H _ g1) jw_m_RX5_75 okX5_gameOf rfl ⟨rfl, rfl⟩ ⟨Nat.le_of_ble_eq_true rfl, Nat.le_of_ble_eq_true rfl⟩ rfl H.1.1 H.1.2 rfl rfl (Nat.le_of_ble_eq_true rfl) dX5_shoot_2 ⟨Nat.le_of_ble_eq_true rfl, Nat.le_of_ble_eq_true rfl⟩ (fun cls yI3 yh1 => ?_) (fun yI3 yz2 yh1 => ?_)
  · skip
    exact hP _ _ _ _ _ _ ⟨Nat.le_of_ble_eq_true rfl, Nat.le_of_ble_eq_true rfl⟩ (by obtain ⟨rfl, rfl, h9⟩ := yh1; exact ⟨rfl, Or.inl ⟨h9, rfl⟩⟩)
  obtain ⟨yh1e, rfl, yh1⟩ := yh1
  have yh1e2 := yh1e.symm
  clear yh1e
  subst yh1e2
  refine jm_astore C dX5_shoot_5 (by decide) ?_
  refine jm_iload_n C dX5_shoot_7 rfl ?_
  refine jm_iload_n C dX5_shoot_8 rfl ?_
  refine jm_iload C dX5_shoot_9 rfl ?_
  refine jm_iload C dX5_shoot_11 rfl ?_
  refine jm_iload C dX5_shoot_13 rfl ?_
  refine jm_cSd (n := 5) [] C (kX5_isShot E w I _ _ _ _ _ g2 g3 g4 g5 g6) jw_m_RX5_79 okX5_isShot rfl ⟨rfl, rfl⟩ ⟨Nat.le_of_ble_eq_true rfl, Nat.le_of_ble_eq_true rfl⟩ rfl rfl (Nat.le_of_ble_eq_true rfl) dX5_shoot_15 ⟨Nat.le_of_ble_eq_true rfl, Nat.le_of_ble_eq_true rfl⟩ (fun yz5 yh4 => ?_)
  refine jm_if_ne 31 C dX5_shoot_18 rfl (by omega) (fun yc6 => ?_) (fun yc6 => ?_)
  · skip
    refine jm_aload C dX5_shoot_31 rfl ?_
    refine jm_cVd (n := 0) (ci := 0) [] C (kX0_isOnSheet E w I _ (jm_X5_g H (i := g) yh1.1 yh1.2)) jw_m_RX5_85 okX0_isOnSheet rfl ⟨rfl, rfl⟩ ⟨Nat.le_of_ble_eq_true rfl, Nat.le_of_ble_eq_true rfl⟩ rfl (jm_X5_g H (i := g) yh1.1 yh1.2).1 (jm_X5_g H (i := g) yh1.1 yh1.2).2.1 rfl rfl (Nat.le_of_ble_eq_true rfl) dX5_shoot_33 ⟨Nat.le_of_ble_eq_true rfl, Nat.le_of_ble_eq_true rfl⟩ (fun yz8 yh7 => ?_)
    refine jm_if_ne 49 C dX5_shoot_36 rfl (by omega) (fun yc9 => ?_) (fun yc9 => ?_)
    · skip
      have hst0 : hk_shot lane wt tn lo hi := by
        rcases yh4 with ⟨h, _⟩ | ⟨_, e⟩
        · exact h
        · exfalso; omega
      have hst := hst0
      unfold hk_shot at hst
      have hgg : 0 ≤ g ∧ g < ng := yh1
      have hpre := hpr g hgg.1 hgg.2 (by omega)
      have hp6 := hpre.1
      refine jm_aload_n C dX5_shoot_49 rfl ?_
      refine jm_getr (ci := 5) (f := 3) C rfl jw_u_5 H.1.1 H.1.2 rfl (by decide) jw_f_RX5_32 dX5_shoot_50 ?_
      refine jm_iload_n C dX5_shoot_53 rfl ?_
      refine jm_iload_n C dX5_shoot_54 rfl ?_
      refine jm_iload C dX5_shoot_55 rfl ?_
      refine jm_iload C dX5_shoot_57 rfl ?_
      refine jm_iload C dX5_shoot_59 rfl ?_
      refine jm_cVu (n := 5) (ci := 2) [] C (kX2_aim E w I _ (jm_X5_l H) _ _ _ _ _ g2 (by omega) g4 g5 g6) jw_m_RX5_91 okX2_aim rfl ⟨rfl, rfl⟩ ⟨Nat.le_of_ble_eq_true rfl, Nat.le_of_ble_eq_true rfl⟩ rfl (jm_X5_l H).1 (jm_X5_l H).2.1 rfl rfl (Nat.le_of_ble_eq_true rfl) dX5_shoot_61 ⟨Nat.le_of_ble_eq_true rfl, Nat.le_of_ble_eq_true rfl⟩ ?_
      obtain ⟨MA, hMA⟩ : ∃ X, X = (jm_up (jm_up (jm_up (jm_up (jm_up (jm_up I 4 2 lane) 4 3 0) 4 4 (10 * wt)) 4 5 tn) 4 6 lo) 4 7 hi) := ⟨_, rfl⟩
      rw [← hMA]
      have a2 : MA 4 2 = lane := by rw [hMA]; simp [jm_up]
      have a3 : MA 4 3 = 0 := by rw [hMA]; simp [jm_up]
      have a4 : MA 4 4 = 10 * wt := by rw [hMA]; simp [jm_up]
      have a5 : MA 4 5 = tn := by rw [hMA]; simp [jm_up]
      have a6 : MA 4 6 = lo := by rw [hMA]; simp [jm_up]
      have a7 : MA 4 7 = hi := by rw [hMA]; simp [jm_up]
      have ao : ∀ a, a ≠ 4 → MA a = I a := fun a ha => by rw [hMA]; funext b; rw [jm_up_n (Or.inl ha), jm_up_n (Or.inl ha), jm_up_n (Or.inl ha), jm_up_n (Or.inl ha), jm_up_n (Or.inl ha), jm_up_n (Or.inl ha)]
      have aok : MA (30 + g) = I (30 + g) := ao _ (by omega)
      have hIA : ∀ a b, jm_R (MA a b) := by rw [hMA]; exact jm_upR (jm_upR (jm_upR (jm_upR (jm_upR (jm_upR hI (by omega)) (by decide)) (by omega)) (by omega)) (by omega)) (by omega)
      refine jm_aload_n C dX5_shoot_64 rfl ?_
      refine jm_getr (ci := 5) (f := 3) C rfl jw_u_5 H.1.1 H.1.2 rfl (by decide) jw_f_RX5_32 dX5_shoot_65 ?_
      refine jm_aload_n C dX5_shoot_68 rfl ?_
      refine jm_aload C dX5_shoot_69 rfl ?_
      refine jm_getv (ci := 0) (f := 6) (I (30 + g) 6) 6 rfl (congrFun aok _) C rfl jw_u_0 (jm_X5_g H (i := g) yh1.1 yh1.2).1 (jm_X5_g H (i := g) yh1.1 yh1.2).2.1 rfl (by decide) jw_f_RX5_95 dX5_shoot_71 (fun yr12 => ?_)
      refine jm_cVrd (n := 1) (ci := 5) [.ref (w.2.1 4)] C (kX5_sheetOf E w MA ng H _ (by omega)) jw_m_RX5_98 okX5_sheetOf rfl ⟨rfl, rfl⟩ ⟨Nat.le_of_ble_eq_true rfl, Nat.le_of_ble_eq_true rfl⟩ rfl H.1.1 H.1.2 rfl rfl (Nat.le_of_ble_eq_true rfl) dX5_shoot_74 ⟨Nat.le_of_ble_eq_true rfl, Nat.le_of_ble_eq_true rfl⟩ ?_
      refine jm_aload C dX5_shoot_77 rfl ?_
      refine jm_getr (ci := 0) (f := 3) C rfl jw_u_0 (jm_X5_g H (i := g) yh1.1 yh1.2).1 (jm_X5_g H (i := g) yh1.1 yh1.2).2.1 rfl (by decide) jw_f_RX5_102 dX5_shoot_79 ?_
      refine jm_aload C dX5_shoot_82 rfl ?_
      refine jm_cVd (n := 0) (ci := 0) [.ref (w.2.1 ((30 + g) + 100)), .ref (w.2.1 (10 + (I (30 + g) 6))), .ref (w.2.1 4)] C (kX0_nextStone E w MA _ (jm_X5_g H (i := g) yh1.1 yh1.2)) jw_m_RX5_106 okX0_nextStone rfl ⟨rfl, rfl⟩ ⟨Nat.le_of_ble_eq_true rfl, Nat.le_of_ble_eq_true rfl⟩ rfl (jm_X5_g H (i := g) yh1.1 yh1.2).1 (jm_X5_g H (i := g) yh1.1 yh1.2).2.1 rfl rfl (Nat.le_of_ble_eq_true rfl) dX5_shoot_84 ⟨Nat.le_of_ble_eq_true rfl, Nat.le_of_ble_eq_true rfl⟩ (fun yz16 yh15 => ?_)
      rw [aok] at yh15
      subst yh15
      refine jm_iconst C dX5_shoot_87 ?_
      refine jm_cVi (n := 4) (ci := 2) [] C (kX2_run2 E w MA 4 (jm_X5_l H) (10 + I (30 + g) 6) (jm_X5_s H (by omega) (by omega)) (30 + g + 100) (jm_X5_g H (i := g) hgg.1 hgg.2).2.2 (by omega) (by omega) (by omega) (hk_slot I (30 + g)) _ hpre.2.1 (by decide) lane (10 * wt) tn lo hi (I (10 + I (30 + g) 6 + 100)) (I (30 + g + 100 + 100)) a2 a3 a4 a5 a6 a7 (ao _ (by omega)) (ao _ (by omega)) (by omega) (by omega) (by omega) hpre.2.2.2.2.1 hpre.2.2.2.1 hpre.2.2.1) jw_m_RX5_110 okX2_run rfl ⟨rfl, rfl⟩ ⟨Nat.le_of_ble_eq_true rfl, Nat.le_of_ble_eq_true rfl⟩ rfl (jm_X5_l H).1 (jm_X5_l H).2.1 rfl rfl (Nat.le_of_ble_eq_true rfl) dX5_shoot_88 ⟨Nat.le_of_ble_eq_true rfl, Nat.le_of_ble_eq_true rfl⟩ (fun yI19 yz18 yh17 => ?_)
      refine jm_istore C dX5_shoot_91 (by decide) ?_
      obtain ⟨hz, hr2⟩ := yh17
      obtain ⟨MB, hMB⟩ : ∃ X, X = yI19 := ⟨_, rfl⟩
      rw [← hMB] at hr2 ⊢
      have bo : ∀ a, a ≠ 4 → a ≠ 4 + 100 + 100 → a ≠ 10 + I (30 + g) 6 + 100 → MB a = I a := fun a q1 q2 q3 => (hr2.1 a q1 q2 q3).trans (ao _ q1)
      have bok : MB (30 + g) = I (30 + g) := bo _ (by omega) (by omega) (by omega)
      have b0 : MB (30 + g) 0 = I (30 + g) 0 := congrFun bok _
      have b1 : MB (30 + g) 1 = I (30 + g) 1 := congrFun bok _
      have b5 : MB (30 + g) 5 = I (30 + g) 5 := congrFun bok _
      have b6 : MB (30 + g) 6 = I (30 + g) 6 := congrFun bok _
      have b8 : MB (30 + g) 8 = I (30 + g) 8 := congrFun bok _
      have b9 : MB (30 + g) 9 = I (30 + g) 9 := congrFun bok _
      have b10 : MB (30 + g) 10 = I (30 + g) 10 := congrFun bok _
      have b11 : MB (30 + g) 11 = I (30 + g) 11 := congrFun bok _
      have b12 : MB (30 + g) 12 = I (30 + g) 12 := congrFun bok _
      have bt : ∀ t b, 0 ≤ t → t < 6 → MB (20 + t) b = I (20 + t) b := fun t b q1 q2 => congrFun (bo _ (by omega) (by omega) (by omega)) b
      refine jm_R_all (fun hIB => ?_)
      have hzR : jm_R yz18 := by rw [hz]; exact hk_thr_R _ _ _ _ _ _ _ _ (by rw [show (10 * wt) = 10 * wt from rfl]; omega) (by omega) hpre.2.2.2.2.1
      have hq := hex g hgg.1 hgg.2 (by omega)
      refine jm_aload C dX5_shoot_93 rfl ?_
      refine jm_getv (ci := 0) (f := 5) (I (30 + g) 5) 5 rfl b5 C rfl jw_u_0 (jm_X5_g H (i := g) yh1.1 yh1.2).1 (jm_X5_g H (i := g) yh1.1 yh1.2).2.1 rfl (by decide) jw_f_RX5_114 dX5_shoot_95 (fun yr20 => ?_)
      refine jm_iconst C dX5_shoot_98 ?_
      refine jm_icmp_ne 116 C dX5_shoot_99 rfl (by omega) (by decide) (fun yc21 => ?_) (fun yc21 => ?_)
      · skip
        refine jm_aload C dX5_shoot_116 rfl ?_
        refine jm_getr (ci := 0) (f := 3) C rfl jw_u_0 (jm_X5_g H (i := g) yh1.1 yh1.2).1 (jm_X5_g H (i := g) yh1.1 yh1.2).2.1 rfl (by decide) jw_f_RX5_102 dX5_shoot_118 ?_
        refine jm_aload_n C dX5_shoot_121 rfl ?_
        refine jm_getr (ci := 5) (f := 3) C rfl jw_u_5 H.1.1 H.1.2 rfl (by decide) jw_f_RX5_32 dX5_shoot_122 ?_
        refine jm_getr (ci := 2) (f := 0) C rfl jw_u_2 (jm_X5_l H).1 (jm_X5_l H).2.1 rfl (by decide) jw_f_RX5_125 dX5_shoot_125 ?_
        refine jm_cVu (n := 1) (ci := 3) [] C (kX3_copyFrom E w MB _ (jm_X5_g H (i := g) yh1.1 yh1.2).2.2 _ (jm_X5_l H).2.2) jw_m_RX5_126 okX3_copyFrom rfl ⟨rfl, rfl⟩ ⟨Nat.le_of_ble_eq_true rfl, Nat.le_of_ble_eq_true rfl⟩ rfl (jm_X5_g H (i := g) yh1.1 yh1.2).2.2.1 (jm_X5_g H (i := g) yh1.1 yh1.2).2.2.2.1 rfl rfl (Nat.le_of_ble_eq_true rfl) dX5_shoot_128 ⟨Nat.le_of_ble_eq_true rfl, Nat.le_of_ble_eq_true rfl⟩ ?_
        refine jm_aload_n C dX5_shoot_131 rfl ?_
        refine jm_aload C dX5_shoot_132 rfl ?_
        refine jm_cVu (n := 1) (ci := 5) [] C (kX5_settleStone E w (hk_fill MB (((30 + g) + 100) + 100) 6 (MB ((4 + 100) + 100))) ng H _ (jm_X5_g H (i := g) yh1.1 yh1.2) (by omega) (by rw [hk_fill_o (Or.inl (by omega)), b0]; exact hq.1) (by rw [hk_fill_o (Or.inl (by omega)), b1]; exact hq.2.1) (by rw [hk_fill_o (Or.inl (by omega)), b6]; exact hp6) (by rw [hk_fill_o (Or.inl (by omega)), b11]; exact hq.2.2.1) (by rw [hk_fill_o (Or.inl (by omega)), b8]; exact hq.2.2.2.1) (by rw [hk_fill_o (Or.inl (by omega)), b9]; exact hq.2.2.2.2.1) (by rw [hk_fill_o (Or.inl (by omega)), b10]; exact hq.2.2.2.2.2) (fun t q1 q2 => by rw [hk_fill_o (Or.inl (by omega)), bt t 0 q1 q2]; exact hwn t q1 q2)) jw_m_RX5_132 okX5_settleStone rfl ⟨rfl, rfl⟩ ⟨Nat.le_of_ble_eq_true rfl, Nat.le_of_ble_eq_true rfl⟩ rfl H.1.1 H.1.2 rfl rfl (Nat.le_of_ble_eq_true rfl) dX5_shoot_134 ⟨Nat.le_of_ble_eq_true rfl, Nat.le_of_ble_eq_true rfl⟩ ?_
        refine jm_iload C dX5_shoot_137 rfl ?_
        refine jm_wid (q' := (2, 12)) (Nat.le_of_ble_eq_true rfl) (Nat.le_of_ble_eq_true rfl) ?_
        exact hR _ _ _ _ dX5_shoot_139 rfl ⟨hgg, hst0, by omega, hz, MB, bo, hr2.2.1, hr2.2.2.2.1 (by decide), hr2.2.2.1, hr2.2.2.2.2.2, by first | (rw [if_pos (by omega), hz]; done) | (rw [if_neg (by omega)]; done)⟩
      · skip
        refine jm_aload_n C dX5_shoot_102 rfl ?_
        refine jm_aload C dX5_shoot_103 rfl ?_
        refine jm_iload C dX5_shoot_105 rfl ?_
        refine jm_cSd (n := 1) [.ref (w.2.1 (30 + g)), .ref (w.2.1 0)] C (kX5_distanceOf E w MB _ hzR) jw_m_RX5_117 okX5_distanceOf rfl ⟨rfl, rfl⟩ ⟨Nat.le_of_ble_eq_true rfl, Nat.le_of_ble_eq_true rfl⟩ rfl rfl (Nat.le_of_ble_eq_true rfl) dX5_shoot_107 ⟨Nat.le_of_ble_eq_true rfl, Nat.le_of_ble_eq_true rfl⟩ (fun yz27 yh26 => ?_)
        subst yh26
        have yh26r := hk_dist_r yz18
        refine jm_cVu (n := 2) (ci := 5) [] C (kX5_settleDraw E w MB ng H _ (jm_X5_g H (i := g) yh1.1 yh1.2) _ (by omega) (by rw [b0]; exact hq.1) (by rw [b1]; exact hq.2.1) (by rw [b5, b11, b12]; have := hpre.2.2.2.2.2; omega) (fun t q1 q2 => by rw [bt t 1 q1 q2, bt t 2 q1 q2]; exact htm t q1 q2)) jw_m_RX5_121 okX5_settleDraw rfl ⟨rfl, rfl⟩ ⟨Nat.le_of_ble_eq_true rfl, Nat.le_of_ble_eq_true rfl⟩ rfl H.1.1 H.1.2 rfl rfl (Nat.le_of_ble_eq_true rfl) dX5_shoot_110 ⟨Nat.le_of_ble_eq_true rfl, Nat.le_of_ble_eq_true rfl⟩ ?_
        refine jm_goto 137 C dX5_shoot_113 rfl ?_
        refine jm_iload C dX5_shoot_137 rfl ?_
        refine jm_wid (q' := (2, 12)) (Nat.le_of_ble_eq_true rfl) (Nat.le_of_ble_eq_true rfl) ?_
        exact hR _ _ _ _ dX5_shoot_139 rfl ⟨hgg, hst0, by omega, hz, MB, bo, hr2.2.1, hr2.2.2.2.1 (by decide), hr2.2.2.1, hr2.2.2.2.2.2, by first | (rw [if_pos (by omega), hz]; done) | (rw [if_neg (by omega)]; done)⟩
    · skip
      exact hT _ _ _ _ _ "java/lang/IllegalStateException" "nothing is thrown in this game now" 65 89 69 rfl jw_k3.1 jw_k3.2 (by decide) jw_x3 jw_y3 jw_z3 dX5_shoot_39 dX5_shoot_42 dX5_shoot_43 dX5_shoot_45 dX5_shoot_48 (Nat.le_of_ble_eq_true rfl) (Nat.le_of_ble_eq_true rfl) ⟨Nat.le_of_ble_eq_true rfl, Nat.le_of_ble_eq_true rfl⟩ ⟨Nat.le_of_ble_eq_true rfl, Nat.le_of_ble_eq_true rfl⟩ ⟨rfl, Or.inr (Or.inr ⟨yh1, by rcases yh4 with ⟨h, _⟩ | ⟨_, e⟩; exact h; exact absurd e (by omega), by omega, rfl⟩)⟩
  · skip
    exact hT _ _ _ _ _ "java/lang/IllegalArgumentException" "the shot is out of range" 57 83 61 rfl jw_k2.1 jw_k2.2 (by decide) jw_x2 jw_y2 jw_z2 dX5_shoot_21 dX5_shoot_24 dX5_shoot_25 dX5_shoot_27 dX5_shoot_30 (Nat.le_of_ble_eq_true rfl) (Nat.le_of_ble_eq_true rfl) ⟨Nat.le_of_ble_eq_true rfl, Nat.le_of_ble_eq_true rfl⟩ ⟨Nat.le_of_ble_eq_true rfl, Nat.le_of_ble_eq_true rfl⟩ ⟨rfl, Or.inr (Or.inl ⟨yh1, by rcases yh4 with ⟨_, e⟩ | ⟨h, _⟩; exact absurd e (by omega); exact h, rfl⟩)⟩
