set_option maxRecDepth 100000 in
set_option maxHeartbeats 4000000 in
theorem kX2_glide (E : jm_E) (w : jm_W) (I : jm_M) (k : Int) (h : jm_X2 E w k) (ks : Int) (hs : jm_X1 E w ks) (hne : ks ≠ k) (hnw : ks + 100 ≠ k) (hn3 : k + 100 + 100 ≠ ks + 100) (ln0 y0 en0 sp0 ht0 : Int) (hl0 : 0 ≤ ln0 ∧ ln0 ≤ 8) (hy0 : 0 ≤ y0 ∧ y0 ≤ 59) (hen0 : 0 ≤ en0 ∧ en0 ≤ 100000) (htn : -1 ≤ I k 5 ∧ I k 5 ≤ 1) (hw : ∀ c, 0 ≤ I (ks + 100) c ∧ I (ks + 100) c ≤ 9) : jm_Mi E yX2_glide wX2_glide rmX2_glide 0 0 w (hk_sl I k ln0 y0 en0 sp0 ht0) [.ref (w.2.1 k), .ref (w.2.1 ks)] (fun I' z => hk_gpost I k ks (hk_T (hk_lie (I (k + 100 + 100))) (I k 5) (I k 6) (I k 7) 60 (I (ks + 100)) ln0 y0 en0 0) I' z) := by
  refine jm_in_i (cc := cX2_glide) (maxL := 3) (rt := .int) RX2 (by decide +kernel) rfl rfl (Nat.le_of_ble_eq_true rfl) (by simp [Value.category]) ?_
  intro G C hR hI
  have hkk : k ≠ ks + 100 := fun q => hnw q.symm
  refine jm_aload_n C dX2_glide_0 rfl ?_
  refine jm_iconst C dX2_glide_1 ?_
  refine jm_put (ci := 2) (f := 9) (ty := .int) 9 rfl C rfl tyX2 tyX2_ok nmX2 jw_u_2 h.1 h.2.1 rfl (by decide) jw_f_RX2_18 rfl (by decide +kernel) rfl rfl dX2_glide_2 (by decide) ?_
  rw [hk_sl_u9]
  refine jm_aload_n C dX2_glide_5 rfl ?_
  refine jm_iconst C dX2_glide_6 ?_
  refine jm_put (ci := 2) (f := 8) (ty := .int) 8 rfl C rfl tyX2 tyX2_ok nmX2 jw_u_2 h.1 h.2.1 rfl (by decide) jw_f_RX2_64 rfl (by decide +kernel) rfl rfl dX2_glide_7 (by decide) ?_
  rw [hk_sl_u8]
  refine jm_iconst C dX2_glide_10 ?_
  refine jm_istore_n C dX2_glide_11 (by decide) ?_
  have lp12 : ∀ (yn12 : Nat) (m : Nat) (Iv : jm_M) (Wv : Int → Int) (ln y en sp : Int), 60 - m < yn12 → (m ≤ 60) → (hk_T (hk_lie (I (k + 100 + 100))) (I k 5) (I k 6) (I k 7) (60 - m) Wv ln y en sp = hk_T (hk_lie (I (k + 100 + 100))) (I k 5) (I k 6) (I k 7) 60 (I (ks + 100)) ln0 y0 en0 0) → (hk_rel I k ks Iv Wv) → (hk_agr (Iv (ks + 100)) Wv y) → (0 ≤ ln ∧ ln ≤ 8) → (0 ≤ y ∧ y ≤ 59) → (0 ≤ en ∧ en ≤ 100000) → (0 ≤ sp ∧ sp ≤ m) → jm_J E G (0, 0) w (hk_sl Iv k ln y en sp (-1)) 12 [(0, .ref (w.2.1 k)), (1, .ref (w.2.1 ks)), (2, jm_v ((m : Nat) : Int))] [] := by
    intro yn12
    induction yn12 with
    | zero => intro m Iv Wv ln y en sp hlt12 hm hT hrel hag hln hy hen hsp; exact absurd hlt12 (Nat.not_lt_zero _)
    | succ yn12 ih12 =>
      intro m Iv Wv ln y en sp hlt12 hm hT hrel hag hln hy hen hsp
      have hIk : Iv k = I k := hrel.1 k hkk
      have hIp : Iv (k + 100 + 100) = I (k + 100 + 100) := hrel.1 _ hn3
      have hcs : hk_cst (Iv (ks + 100)) (I k 6) (I k 7) ln (y + 1) = hk_cst Wv (I k 6) (I k 7) ln (y + 1) := hk_cst_e (hag ln (y + 1) hln.1 hln.2 (by omega) (by omega))
      have hcr : 7 ≤ hk_cst Wv (I k 6) (I k 7) ln (y + 1) ∧ hk_cst Wv (I k 6) (I k 7) ln (y + 1) ≤ 19 := by rw [← hcs]; exact hk_cst_r (hrel.2.1 _)
      refine jm_iload_n C dX2_glide_12 rfl ?_
      refine jm_bipush C dX2_glide_13 (by decide +kernel) ?_
      refine jm_icmp_ge 90 C dX2_glide_15 rfl (by omega) (by decide) (fun yc1 => ?_) (fun yc1 => ?_)
      · skip
        refine jm_iconst C dX2_glide_90 ?_
        exact hR _ _ _ _ dX2_glide_91 rfl (hk_gp (by rw [show 60 - m = 0 by omega] at hT; exact hT) (fun q => absurd rfl q) hrel)
      · skip
        have hT1 := hT
        rw [show 60 - m = (60 - (m + 1)) + 1 by omega, hk_T] at hT1
        refine jm_aload_n C dX2_glide_18 rfl ?_
        refine jm_aload_n C dX2_glide_19 rfl ?_
        refine jm_cVi (n := 1) (ci := 2) [] C (kX2_stepsForward E w Iv _ h _ hs hne hnw _ _ _ _ _ hln hy hen hrel.2.1) jw_m_RX2_67 okX2_stepsForward rfl ⟨rfl, rfl⟩ ⟨Nat.le_of_ble_eq_true rfl, Nat.le_of_ble_eq_true rfl⟩ rfl h.1 h.2.1 rfl rfl (Nat.le_of_ble_eq_true rfl) dX2_glide_20 ⟨Nat.le_of_ble_eq_true rfl, Nat.le_of_ble_eq_true rfl⟩ (fun yI4 yz3 yh2 => ?_)
        simp only [hIk, hIp, hcs] at yh2
        refine jm_if_ne 31 C dX2_glide_23 rfl (by omega) (fun yc5 => ?_) (fun yc5 => ?_)
        · skip
          obtain ⟨ha, hb, rfl⟩ : ¬ en < hk_cst Wv (I k 6) (I k 7) ln (y + 1) ∧ hk_lie (I (k + 100 + 100)) ln (y + 1) = -1 ∧ yI4 = hk_sl (hk_wr Iv k ks (ln * 61 + (y + 1))) k ln (y + 1) (en - hk_cst Wv (I k 6) (I k 7) ln (y + 1)) sp (-1) := by
            rcases yh2 with ⟨a, b, c⟩ | ⟨a, b, c, d⟩ | ⟨a, b, c, d⟩
            · exact absurd b (by omega)
            · exact absurd c (by omega)
            · exact ⟨a, b, d⟩
          rw [if_neg ha, if_neg (fun q => q hb)] at hT1
          obtain ⟨Iw, hIw⟩ : ∃ X, X = hk_wr Iv k ks (ln * 61 + (y + 1)) := ⟨_, rfl⟩
          obtain ⟨e1, he1⟩ : ∃ X, X = en - hk_cst Wv (I k 6) (I k 7) ln (y + 1) := ⟨_, rfl⟩
          rw [← hIw, ← he1]
          rw [← he1] at hT1
          have hrel2 : hk_rel I k ks Iw (hk_wW Wv (ln * 61 + (y + 1))) := by rw [hIw]; exact hk_rel_wr hrel hkk
          have hag2 : hk_agr (Iw (ks + 100)) (hk_wW Wv (ln * 61 + (y + 1))) (y + 1) := by rw [hIw]; exact hk_agr_wr hag hln hy
          have hIk2 : Iw k = I k := hrel2.1 k hkk
          have hIp2 : Iw (k + 100 + 100) = I (k + 100 + 100) := hrel2.1 _ hn3
          refine jm_aload_n C dX2_glide_31 rfl ?_
          refine jm_getv (ci := 2) (f := 3) (y + 1) 3 rfl (hk_sl_g3 _ _ _ _ _ _ _) C rfl jw_u_2 h.1 h.2.1 rfl (by decide) jw_f_RX2_25 dX2_glide_32 (fun yr6 => ?_)
          refine jm_bipush C dX2_glide_35 (by decide +kernel) ?_
          refine jm_icmp_lt 42 C dX2_glide_37 rfl (by omega) (by decide) (fun yc7 => ?_) (fun yc7 => ?_)
          · skip
            rw [if_neg (show ¬ 60 ≤ y + 1 by omega)] at hT1
            refine jm_aload_n C dX2_glide_42 rfl ?_
            refine jm_cVi (n := 0) (ci := 2) [] C (kX2_mustMoveAside E w Iw _ h _ _ _ _ _ (by omega) (by omega) (by omega)) jw_m_RX2_75 okX2_mustMoveAside rfl ⟨rfl, rfl⟩ ⟨Nat.le_of_ble_eq_true rfl, Nat.le_of_ble_eq_true rfl⟩ rfl h.1 h.2.1 rfl rfl (Nat.le_of_ble_eq_true rfl) dX2_glide_43 ⟨Nat.le_of_ble_eq_true rfl, Nat.le_of_ble_eq_true rfl⟩ (fun yI10 yz9 yh8 => ?_)
            simp only [hIk2] at yh8
            refine jm_if_ne 52 C dX2_glide_46 rfl (by omega) (fun yc11 => ?_) (fun yc11 => ?_)
            · skip
              obtain ⟨hd1, hd2, hd3, rfl⟩ : I k 5 ≠ 0 ∧ ¬ (I k 6 ≤ y + 1 ∧ y + 1 ≤ I k 7) ∧ (12 ≤ sp + 1 ∨ (e1 < 300 ∧ 6 ≤ sp + 1)) ∧ yI10 = hk_sl Iw k ln (y + 1) e1 (sp + 1) (-1) := by
                rcases yh8 with ⟨a, b, c⟩ | ⟨a, a2, b, c⟩ | ⟨a, a2, a3, b, c⟩ | ⟨a, a2, a3, b, c⟩
                · exact absurd b (by omega)
                · exact absurd b (by omega)
                · exact ⟨a, a2, a3, c⟩
                · exact absurd b (by omega)
              rw [if_neg (fun q => q.elim hd1 hd2), if_pos hd3] at hT1
              refine jm_aload_n C dX2_glide_52 rfl ?_
              refine jm_getv (ci := 2) (f := 2) ln 2 rfl (hk_sl_g2 _ _ _ _ _ _ _) C rfl jw_u_2 h.1 h.2.1 rfl (by decide) jw_f_RX2_22 dX2_glide_53 (fun yr12 => ?_)
              refine jm_aload_n C dX2_glide_56 rfl ?_
              refine jm_getv (ci := 2) (f := 5) (I k 5) 5 rfl ((hk_sl_gk _ _ _ _ _ _ _ _ (by decide)).trans (congrFun hIk2 _)) C rfl jw_u_2 h.1 h.2.1 rfl (by decide) jw_f_RX2_31 dX2_glide_57 (fun yr13 => ?_)
              refine jm_iadd C dX2_glide_60 ?_
              refine jm_iconst C dX2_glide_61 ?_
              refine jm_bipush C dX2_glide_62 (by decide +kernel) ?_
              refine jm_cNd (n := 3) [] C (kX5_isWithin E w (hk_sl Iw k ln (y + 1) e1 (sp + 1) (-1)) _ _ _ (by omega) (by decide) (by decide)) RX5 jm_n_isWithin okX5_isWithin rfl ⟨rfl, rfl⟩ ⟨Nat.le_of_ble_eq_true rfl, Nat.le_of_ble_eq_true rfl⟩ rfl rfl (Nat.le_of_ble_eq_true rfl) dX2_glide_64 ⟨Nat.le_of_ble_eq_true rfl, Nat.le_of_ble_eq_true rfl⟩ (fun yz15 yh14 => ?_)
              refine jm_if_ne 72 C dX2_glide_67 rfl (by omega) (fun yc16 => ?_) (fun yc16 => ?_)
              · skip
                rw [if_neg (show ¬ ¬ (0 ≤ ln + I k 5 ∧ ln + I k 5 ≤ 8) by omega)] at hT1
                refine jm_aload_n C dX2_glide_72 rfl ?_
                refine jm_cVi (n := 0) (ci := 2) [] C (kX2_movesAside E w Iw _ h _ _ _ _ _ (by rw [hIk2]; omega) hln (by omega) (by omega)) jw_m_RX2_83 okX2_movesAside rfl ⟨rfl, rfl⟩ ⟨Nat.le_of_ble_eq_true rfl, Nat.le_of_ble_eq_true rfl⟩ rfl h.1 h.2.1 rfl rfl (Nat.le_of_ble_eq_true rfl) dX2_glide_73 ⟨Nat.le_of_ble_eq_true rfl, Nat.le_of_ble_eq_true rfl⟩ (fun yI19 yz18 yh17 => ?_)
                simp only [hIk2, hIp2] at yh17
                refine jm_if_ne 84 C dX2_glide_76 rfl (by omega) (fun yc20 => ?_) (fun yc20 => ?_)
                · skip
                  obtain ⟨hb2, rfl⟩ : hk_lie (I (k + 100 + 100)) (ln + I k 5) (y + 1) = -1 ∧ yI19 = hk_sl Iw k (ln + I k 5) (y + 1) e1 0 (-1) := by
                    rcases yh17 with ⟨a, b, c⟩ | ⟨a, b, c⟩
                    · exact absurd b (by omega)
                    · exact ⟨a, c⟩
                  rw [if_neg (fun q => q hb2)] at hT1
                  have hT2 := hT1
                  have hln2 : 0 ≤ ln + I k 5 ∧ ln + I k 5 ≤ 8 := by omega
                  refine jm_iinc C dX2_glide_84 (by decide) rfl ?_
                  refine jm_goto 12 C dX2_glide_87 rfl ?_
                  refine jm_lvs (lv' := [(0, _), (1, _), (2, _)]) (jm_sub_c rfl (jm_sub_c rfl (jm_sub_c rfl (jm_sub_0 _)))) ?_
                  exact ih12 (m + 1) _ (hk_wW Wv (ln * 61 + (y + 1))) _ _ _ _ (by omega) (by omega) hT2 hrel2 hag2 hln2 (by omega) (by omega) (by omega)
                · skip
                  obtain ⟨hb2, rfl⟩ : hk_lie (I (k + 100 + 100)) (ln + I k 5) (y + 1) ≠ -1 ∧ yI19 = hk_sl Iw k ln (y + 1) (e1.tdiv 2) (sp + 1) (hk_lie (I (k + 100 + 100)) (ln + I k 5) (y + 1)) := by
                    rcases yh17 with ⟨a, b, c⟩ | ⟨a, b, c⟩
                    · exact ⟨a, c⟩
                    · exact absurd b (by omega)
                  rw [if_pos hb2] at hT1
                  refine jm_aload_n C dX2_glide_79 rfl ?_
                  refine jm_cVd (n := 0) (ci := 2) [] C (kX2_restingPlace E w (hk_sl Iw k ln (y + 1) (e1.tdiv 2) (sp + 1) (hk_lie (I (k + 100 + 100)) (ln + I k 5) (y + 1))) _ h (by rw [hk_sl_g2]; omega) (by rw [hk_sl_g3]; omega)) jw_m_RX2_71 okX2_restingPlace rfl ⟨rfl, rfl⟩ ⟨Nat.le_of_ble_eq_true rfl, Nat.le_of_ble_eq_true rfl⟩ rfl h.1 h.2.1 rfl rfl (Nat.le_of_ble_eq_true rfl) dX2_glide_80 ⟨Nat.le_of_ble_eq_true rfl, Nat.le_of_ble_eq_true rfl⟩ (fun yz22 yh21 => ?_)
                  rw [hk_sl_g2, hk_sl_g3] at yh21
                  subst yh21
                  exact hR _ _ _ _ dX2_glide_83 rfl (hk_gp hT1 (fun _ => rfl) hrel2)
              · skip
                refine jm_iconst C dX2_glide_70 ?_
                exact hR _ _ _ _ dX2_glide_71 rfl (hk_gp (by rw [if_pos (show ¬ (0 ≤ ln + I k 5 ∧ ln + I k 5 ≤ 8) by omega)] at hT1; exact hT1) (fun q => absurd rfl q) hrel2)
            · skip
              obtain ⟨sp2, rfl, hT2, hsp2⟩ : ∃ sp2, yI10 = hk_sl Iw k ln (y + 1) e1 sp2 (-1) ∧ hk_T (hk_lie (I (k + 100 + 100))) (I k 5) (I k 6) (I k 7) (60 - (m + 1)) (hk_wW Wv (ln * 61 + (y + 1))) ln (y + 1) e1 sp2 = hk_T (hk_lie (I (k + 100 + 100))) (I k 5) (I k 6) (I k 7) 60 (I (ks + 100)) ln0 y0 en0 0 ∧ (0 ≤ sp2 ∧ sp2 ≤ sp + 1) := by
                rcases yh8 with ⟨a, b, c⟩ | ⟨a, a2, b, c⟩ | ⟨a, a2, a3, b, c⟩ | ⟨a, a2, a3, b, c⟩
                · exact ⟨sp, c, by rw [if_pos (Or.inl a)] at hT1; exact hT1, by omega⟩
                · exact ⟨sp, c, by rw [if_pos (Or.inr ⟨a, a2⟩)] at hT1; exact hT1, by omega⟩
                · exact absurd b (by omega)
                · exact ⟨sp + 1, c, by rw [if_neg (fun q => q.elim a a2), if_neg a3] at hT1; exact hT1, by omega⟩
              have hln2 : 0 ≤ ln ∧ ln ≤ 8 := hln
              refine jm_goto 84 C dX2_glide_49 rfl ?_
              refine jm_iinc C dX2_glide_84 (by decide) rfl ?_
              refine jm_goto 12 C dX2_glide_87 rfl ?_
              refine jm_lvs (lv' := [(0, _), (1, _), (2, _)]) (jm_sub_c rfl (jm_sub_c rfl (jm_sub_c rfl (jm_sub_0 _)))) ?_
              exact ih12 (m + 1) _ (hk_wW Wv (ln * 61 + (y + 1))) _ _ _ _ (by omega) (by omega) hT2 hrel2 hag2 hln2 (by omega) (by omega) (by omega)
          · skip
            refine jm_iconst C dX2_glide_40 ?_
            exact hR _ _ _ _ dX2_glide_41 rfl (hk_gp (by rw [if_pos (show 60 ≤ y + 1 by omega)] at hT1; exact hT1) (fun q => absurd rfl q) hrel2)
        · skip
          obtain ⟨en2, ht2, rfl, hc⟩ : ∃ en2 ht2, yI4 = hk_sl Iv k ln y en2 sp ht2 ∧ ((en < hk_cst Wv (I k 6) (I k 7) ln (y + 1) ∧ en2 = en ∧ ht2 = -1) ∨ (¬ en < hk_cst Wv (I k 6) (I k 7) ln (y + 1) ∧ hk_lie (I (k + 100 + 100)) ln (y + 1) ≠ -1 ∧ en2 = (en * 3).tdiv 4 ∧ ht2 = hk_lie (I (k + 100 + 100)) ln (y + 1))) := by
            rcases yh2 with ⟨a, b, c⟩ | ⟨a, b, c, d⟩ | ⟨a, b, c, d⟩
            · exact ⟨_, _, c, Or.inl ⟨a, rfl, rfl⟩⟩
            · exact ⟨_, _, d, Or.inr ⟨a, b, rfl, rfl⟩⟩
            · exact absurd c (by omega)
          refine jm_aload_n C dX2_glide_26 rfl ?_
          refine jm_cVd (n := 0) (ci := 2) [] C (kX2_restingPlace E w (hk_sl Iv k ln y en2 sp ht2) _ h (by rw [hk_sl_g2]; omega) (by rw [hk_sl_g3]; omega)) jw_m_RX2_71 okX2_restingPlace rfl ⟨rfl, rfl⟩ ⟨Nat.le_of_ble_eq_true rfl, Nat.le_of_ble_eq_true rfl⟩ rfl h.1 h.2.1 rfl rfl (Nat.le_of_ble_eq_true rfl) dX2_glide_27 ⟨Nat.le_of_ble_eq_true rfl, Nat.le_of_ble_eq_true rfl⟩ (fun yz24 yh23 => ?_)
          rw [hk_sl_g2, hk_sl_g3] at yh23
          subst yh23
          exact hR _ _ _ _ dX2_glide_30 rfl (by
              rcases hc with ⟨a, rfl, rfl⟩ | ⟨a, b, rfl, rfl⟩
              · exact hk_gp (by rw [if_pos a] at hT1; exact hT1) (fun q => absurd rfl q) hrel
              · exact hk_gp (by rw [if_neg a, if_pos b] at hT1; exact hT1) (fun _ => rfl) hrel)
  refine jm_lvs (lv' := [(0, _), (1, _), (2, _)]) (jm_sub_c rfl (jm_sub_c rfl (jm_sub_c rfl (jm_sub_0 _)))) ?_
  exact lp12 _ 0 _ (I (ks + 100)) _ _ _ _ (Nat.lt_succ_self _) (Nat.zero_le _) rfl ⟨fun _ _ => rfl, hw, fun _ => rfl, fun _ => rfl⟩ (fun _ _ _ _ _ _ => rfl) hl0 hy0 hen0 (by omega)
