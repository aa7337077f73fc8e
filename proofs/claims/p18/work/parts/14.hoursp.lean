set_option maxRecDepth 100000 in
set_option maxHeartbeats 4000000 in
theorem kX5_sheetToMake (E : jm_E) (w : jm_W) (I : jm_M) (ng : Int) (H : jm_X5 E w ng) : jm_Mi E yX5_sheetToMake wX5_sheetToMake rmX5_sheetToMake 0 0 w I [.ref (w.2.1 0)] (fun I' z => I' = I ∧ z = (hk_stm I ng 3).1) := by
  refine jm_in_i (cc := cX5_sheetToMake) (maxL := 6) (rt := .int) RX5 (by decide +kernel) rfl rfl (Nat.le_of_ble_eq_true rfl) (by simp [Value.category]) ?_
  intro G C hR hI
  have hng := jm_X5_n H
  refine jm_iconst C dX5_sheetToMake_0 ?_
  refine jm_istore_n C dX5_sheetToMake_1 (by decide) ?_
  refine jm_iconst C dX5_sheetToMake_2 ?_
  refine jm_istore_n C dX5_sheetToMake_3 (by decide) ?_
  refine jm_iconst C dX5_sheetToMake_4 ?_
  refine jm_istore_n C dX5_sheetToMake_5 (by decide) ?_
  have lp6 : ∀ (yn6 : Nat) (m : Nat) (ch : Int) (le : Int), 3 - m < yn6 → (m ≤ 3) → ((ch, le) = hk_stm I ng m) → jm_J E G (0, 0) w I 6 [(0, .ref (w.2.1 0)), (1, jm_v ch), (2, jm_v le), (3, jm_v ((m : Nat) : Int))] [] := by
    intro yn6
    induction yn6 with
    | zero => intro m ch le hlt6 hm hc; exact absurd hlt6 (Nat.not_lt_zero _)
    | succ yn6 ih6 =>
      intro m ch le hlt6 hm hc
      have hsr := hk_stm_r hI ng m
      have hc1 : ch = (hk_stm I ng m).1 := congrArg Prod.fst hc
      have hc2 : le = (hk_stm I ng m).2 := congrArg Prod.snd hc
      refine jm_iload_n C dX5_sheetToMake_6 rfl ?_
      refine jm_iconst C dX5_sheetToMake_7 ?_
      refine jm_icmp_ge 67 C dX5_sheetToMake_8 rfl (by omega) (by decide) (fun yc1 => ?_) (fun yc1 => ?_)
      · skip
        refine jm_iload_n C dX5_sheetToMake_67 rfl ?_
        exact hR _ _ _ _ dX5_sheetToMake_68 rfl ⟨rfl, by rw [hc1, show m = 3 by omega]⟩
      · skip
        refine jm_aload_n C dX5_sheetToMake_11 rfl ?_
        refine jm_iload_n C dX5_sheetToMake_12 rfl ?_
        refine jm_cVrd (n := 1) (ci := 5) [] C (kX5_sheetOf E w I ng H _ (by omega)) jw_m_RX5_98 okX5_sheetOf rfl ⟨rfl, rfl⟩ ⟨Nat.le_of_ble_eq_true rfl, Nat.le_of_ble_eq_true rfl⟩ rfl H.1.1 H.1.2 rfl rfl (Nat.le_of_ble_eq_true rfl) dX5_sheetToMake_13 ⟨Nat.le_of_ble_eq_true rfl, Nat.le_of_ble_eq_true rfl⟩ ?_
        refine jm_astore C dX5_sheetToMake_16 (by decide) ?_
        refine jm_aload C dX5_sheetToMake_18 rfl ?_
        refine jm_get (ci := 1) (f := 1) 1 rfl C rfl jw_u_1 (jm_X5_s H (i := ((m : Nat) : Int)) (by omega) (by omega)).1 (jm_X5_s H (i := ((m : Nat) : Int)) (by omega) (by omega)).2.1 rfl (by decide) jw_f_RX5_144 dX5_sheetToMake_20 (fun yr4 => ?_)
        refine jm_if_ne 61 C dX5_sheetToMake_23 rfl (by omega) (fun yc5 => ?_) (fun yc5 => ?_)
        · skip
          refine jm_iinc C dX5_sheetToMake_61 (by decide) rfl ?_
          refine jm_goto 6 C dX5_sheetToMake_64 rfl ?_
          refine jm_lvs (lv' := [(0, _), (1, _), (2, _), (3, _)]) (jm_sub_c rfl (jm_sub_c rfl (jm_sub_c rfl (jm_sub_c rfl (jm_sub_0 _))))) ?_
          exact ih6 (m + 1) _ _ (by omega) (by omega) (by rw [hk_stm, ← hc]; dsimp only; first | rw [if_pos (by omega)] | rw [if_neg (by omega), if_pos (by omega)] | rw [if_neg (by omega), if_neg (by omega)])
        · skip
          refine jm_aload C dX5_sheetToMake_26 rfl ?_
          refine jm_get (ci := 1) (f := 2) 2 rfl C rfl jw_u_1 (jm_X5_s H (i := ((m : Nat) : Int)) (by omega) (by omega)).1 (jm_X5_s H (i := ((m : Nat) : Int)) (by omega) (by omega)).2.1 rfl (by decide) jw_f_RX5_148 dX5_sheetToMake_28 (fun yr6 => ?_)
          refine jm_iconst C dX5_sheetToMake_31 ?_
          refine jm_icmp_eq 38 C dX5_sheetToMake_32 rfl (by omega) (by decide) (fun yc7 => ?_) (fun yc7 => ?_)
          · skip
            refine jm_aload_n C dX5_sheetToMake_38 rfl ?_
            refine jm_iload_n C dX5_sheetToMake_39 rfl ?_
            refine jm_cVd (n := 1) (ci := 5) [] C (kX5_leastHourWished E w I ng H _ (by omega)) jw_m_RX5_261 okX5_leastHourWished rfl ⟨rfl, rfl⟩ ⟨Nat.le_of_ble_eq_true rfl, Nat.le_of_ble_eq_true rfl⟩ rfl H.1.1 H.1.2 rfl rfl (Nat.le_of_ble_eq_true rfl) dX5_sheetToMake_40 ⟨Nat.le_of_ble_eq_true rfl, Nat.le_of_ble_eq_true rfl⟩ (fun yz9 yh8 => ?_)
            subst yh8
            have yh8r := hk_lhw_r hI ng ((m : Nat) : Int) 12
            refine jm_istore C dX5_sheetToMake_43 (by decide) ?_
            refine jm_iload_n C dX5_sheetToMake_45 rfl ?_
            refine jm_iconst C dX5_sheetToMake_46 ?_
            refine jm_icmp_eq 56 C dX5_sheetToMake_47 rfl (by omega) (by decide) (fun yc10 => ?_) (fun yc10 => ?_)
            · skip
              refine jm_iload_n C dX5_sheetToMake_56 rfl ?_
              refine jm_istore_n C dX5_sheetToMake_57 (by decide) ?_
              refine jm_iload C dX5_sheetToMake_58 rfl ?_
              refine jm_istore_n C dX5_sheetToMake_60 (by decide) ?_
              refine jm_iinc C dX5_sheetToMake_61 (by decide) rfl ?_
              refine jm_goto 6 C dX5_sheetToMake_64 rfl ?_
              refine jm_lvs (lv' := [(0, _), (1, _), (2, _), (3, _)]) (jm_sub_c rfl (jm_sub_c rfl (jm_sub_c rfl (jm_sub_c rfl (jm_sub_0 _))))) ?_
              exact ih6 (m + 1) _ _ (by omega) (by omega) (by rw [hk_stm, ← hc]; dsimp only; first | rw [if_pos (by omega)] | rw [if_neg (by omega), if_pos (by omega)] | rw [if_neg (by omega), if_neg (by omega)])
            · skip
              refine jm_iload C dX5_sheetToMake_50 rfl ?_
              refine jm_iload_n C dX5_sheetToMake_52 rfl ?_
              refine jm_icmp_ge 61 C dX5_sheetToMake_53 rfl (by omega) (by omega) (fun yc11 => ?_) (fun yc11 => ?_)
              · skip
                refine jm_iinc C dX5_sheetToMake_61 (by decide) rfl ?_
                refine jm_goto 6 C dX5_sheetToMake_64 rfl ?_
                refine jm_lvs (lv' := [(0, _), (1, _), (2, _), (3, _)]) (jm_sub_c rfl (jm_sub_c rfl (jm_sub_c rfl (jm_sub_c rfl (jm_sub_0 _))))) ?_
                exact ih6 (m + 1) _ _ (by omega) (by omega) (by rw [hk_stm, ← hc]; dsimp only; first | rw [if_pos (by omega)] | rw [if_neg (by omega), if_pos (by omega)] | rw [if_neg (by omega), if_neg (by omega)])
              · skip
                refine jm_iload_n C dX5_sheetToMake_56 rfl ?_
                refine jm_istore_n C dX5_sheetToMake_57 (by decide) ?_
                refine jm_iload C dX5_sheetToMake_58 rfl ?_
                refine jm_istore_n C dX5_sheetToMake_60 (by decide) ?_
                refine jm_iinc C dX5_sheetToMake_61 (by decide) rfl ?_
                refine jm_goto 6 C dX5_sheetToMake_64 rfl ?_
                refine jm_lvs (lv' := [(0, _), (1, _), (2, _), (3, _)]) (jm_sub_c rfl (jm_sub_c rfl (jm_sub_c rfl (jm_sub_c rfl (jm_sub_0 _))))) ?_
                exact ih6 (m + 1) _ _ (by omega) (by omega) (by rw [hk_stm, ← hc]; dsimp only; first | rw [if_pos (by omega)] | rw [if_neg (by omega), if_pos (by omega)] | rw [if_neg (by omega), if_neg (by omega)])
          · skip
            refine jm_goto 61 C dX5_sheetToMake_35 rfl ?_
            refine jm_iinc C dX5_sheetToMake_61 (by decide) rfl ?_
            refine jm_goto 6 C dX5_sheetToMake_64 rfl ?_
            refine jm_lvs (lv' := [(0, _), (1, _), (2, _), (3, _)]) (jm_sub_c rfl (jm_sub_c rfl (jm_sub_c rfl (jm_sub_c rfl (jm_sub_0 _))))) ?_
            exact ih6 (m + 1) _ _ (by omega) (by omega) (by rw [hk_stm, ← hc]; dsimp only; first | rw [if_pos (by omega)] | rw [if_neg (by omega), if_pos (by omega)] | rw [if_neg (by omega), if_neg (by omega)])
  refine jm_lvs (lv' := [(0, _), (1, _), (2, _), (3, _)]) (jm_sub_c rfl (jm_sub_c rfl (jm_sub_c rfl (jm_sub_c rfl (jm_sub_0 _))))) ?_
  exact lp6 _ 0 _ _ (Nat.lt_succ_self _) (Nat.zero_le _) rfl
set_option maxRecDepth 100000 in
set_option maxHeartbeats 4000000 in
theorem kX5_sheetToPlay (E : jm_E) (w : jm_W) (I : jm_M) (ng : Int) (H : jm_X5 E w ng) (wi : Int) (hwi : 0 ≤ wi ∧ wi < 3) : jm_Mi E yX5_sheetToPlay wX5_sheetToPlay rmX5_sheetToPlay 0 0 w I [.ref (w.2.1 0), jm_v wi] (fun I' z => I' = I ∧ z = hk_stp I wi) := by
  refine jm_in_i (cc := cX5_sheetToPlay) (maxL := 3) (rt := .int) RX5 (by decide +kernel) rfl rfl (Nat.le_of_ble_eq_true rfl) (by simp [Value.category]) ?_
  intro G C hR hI
  refine jm_aload_n C dX5_sheetToPlay_0 rfl ?_
  refine jm_iload_n C dX5_sheetToPlay_1 rfl ?_
  refine jm_cVrd (n := 1) (ci := 5) [] C (kX5_sheetOf E w I ng H _ (by omega)) jw_m_RX5_98 okX5_sheetOf rfl ⟨rfl, rfl⟩ ⟨Nat.le_of_ble_eq_true rfl, Nat.le_of_ble_eq_true rfl⟩ rfl H.1.1 H.1.2 rfl rfl (Nat.le_of_ble_eq_true rfl) dX5_sheetToPlay_2 ⟨Nat.le_of_ble_eq_true rfl, Nat.le_of_ble_eq_true rfl⟩ ?_
  refine jm_cVd (n := 0) (ci := 1) [] C (kX1_isReady E w I _ (jm_X5_s H (i := wi) (by omega) (by omega))) jw_m_RX5_270 okX1_isReady rfl ⟨rfl, rfl⟩ ⟨Nat.le_of_ble_eq_true rfl, Nat.le_of_ble_eq_true rfl⟩ rfl (jm_X5_s H (i := wi) (by omega) (by omega)).1 (jm_X5_s H (i := wi) (by omega) (by omega)).2.1 rfl rfl (Nat.le_of_ble_eq_true rfl) dX5_sheetToPlay_5 ⟨Nat.le_of_ble_eq_true rfl, Nat.le_of_ble_eq_true rfl⟩ (fun yz4 yh3 => ?_)
  refine jm_if_eq 13 C dX5_sheetToPlay_8 rfl (by omega) (fun yc5 => ?_) (fun yc5 => ?_)
  · skip
    refine jm_iconst C dX5_sheetToPlay_13 ?_
    refine jm_istore_n C dX5_sheetToPlay_14 (by decide) ?_
    have lp15 : ∀ (yn15 : Nat) (m : Nat), 3 - m < yn15 → (m ≤ 3) → (hk_stp I wi = hk_frd I (3 - m) m) → jm_J E G (0, 0) w I 15 [(0, .ref (w.2.1 0)), (2, jm_v ((m : Nat) : Int))] [] := by
      intro yn15
      induction yn15 with
      | zero => intro m hlt15 hm hf; exact absurd hlt15 (Nat.not_lt_zero _)
      | succ yn15 ih15 =>
        intro m hlt15 hm hf
        have hun : m < 3 → hk_frd I (3 - m) m = if ¬ I (10 + m) 1 = 0 ∧ I (10 + m) 2 = -1 then (m : Int) else hk_frd I (3 - (m + 1)) ((m + 1 : Nat) : Int) := fun hm6 => by
          rw [show 3 - m = (3 - (m + 1)) + 1 by omega]; rfl
        refine jm_iload_n C dX5_sheetToPlay_15 rfl ?_
        refine jm_iconst C dX5_sheetToPlay_16 ?_
        refine jm_icmp_ge 39 C dX5_sheetToPlay_17 rfl (by omega) (by decide) (fun yc6 => ?_) (fun yc6 => ?_)
        · skip
          refine jm_iconst C dX5_sheetToPlay_39 ?_
          exact hR _ _ _ _ dX5_sheetToPlay_40 rfl ⟨rfl, by rw [hf, show m = 3 by omega]; rfl⟩
        · skip
          refine jm_aload_n C dX5_sheetToPlay_20 rfl ?_
          refine jm_iload_n C dX5_sheetToPlay_21 rfl ?_
          refine jm_cVrd (n := 1) (ci := 5) [] C (kX5_sheetOf E w I ng H _ (by omega)) jw_m_RX5_98 okX5_sheetOf rfl ⟨rfl, rfl⟩ ⟨Nat.le_of_ble_eq_true rfl, Nat.le_of_ble_eq_true rfl⟩ rfl H.1.1 H.1.2 rfl rfl (Nat.le_of_ble_eq_true rfl) dX5_sheetToPlay_22 ⟨Nat.le_of_ble_eq_true rfl, Nat.le_of_ble_eq_true rfl⟩ ?_
          refine jm_cVd (n := 0) (ci := 1) [] C (kX1_isReady E w I _ (jm_X5_s H (i := ((m : Nat) : Int)) (by omega) (by omega))) jw_m_RX5_270 okX1_isReady rfl ⟨rfl, rfl⟩ ⟨Nat.le_of_ble_eq_true rfl, Nat.le_of_ble_eq_true rfl⟩ rfl (jm_X5_s H (i := ((m : Nat) : Int)) (by omega) (by omega)).1 (jm_X5_s H (i := ((m : Nat) : Int)) (by omega) (by omega)).2.1 rfl rfl (Nat.le_of_ble_eq_true rfl) dX5_sheetToPlay_25 ⟨Nat.le_of_ble_eq_true rfl, Nat.le_of_ble_eq_true rfl⟩ (fun yz10 yh9 => ?_)
          refine jm_if_eq 33 C dX5_sheetToPlay_28 rfl (by omega) (fun yc11 => ?_) (fun yc11 => ?_)
          · skip
            refine jm_iinc C dX5_sheetToPlay_33 (by decide) rfl ?_
            refine jm_goto 15 C dX5_sheetToPlay_36 rfl ?_
            refine jm_lvs (lv' := [(0, _), (2, _)]) (jm_sub_c rfl (jm_sub_c rfl (jm_sub_0 _))) ?_
            exact ih15 (m + 1) (by omega) (by omega) (by rw [hf, hun (by omega), if_neg (by omega)])
          · skip
            refine jm_iload_n C dX5_sheetToPlay_31 rfl ?_
            exact hR _ _ _ _ dX5_sheetToPlay_32 rfl ⟨rfl, by rw [hf, hun (by omega), if_pos (by omega)]⟩
    refine jm_lvs (lv' := [(0, _), (2, _)]) (jm_sub_c rfl (jm_sub_c rfl (jm_sub_0 _))) ?_
    exact lp15 _ 0 (Nat.lt_succ_self _) (Nat.zero_le _) (by unfold hk_stp; rw [if_neg (by omega)]; rfl)
  · skip
    refine jm_iload_n C dX5_sheetToPlay_11 rfl ?_
    exact hR _ _ _ _ dX5_sheetToPlay_12 rfl ⟨rfl, by unfold hk_stp; rw [if_pos (by omega)]⟩
set_option maxRecDepth 100000 in
set_option maxHeartbeats 4000000 in
theorem kX5_beginGames (E : jm_E) (w : jm_W) (I : jm_M) (ng : Int) (H : jm_X5 E w ng) (hwi : ∀ i, 0 ≤ i → i < ng → 0 ≤ I (30 + i) 2 ∧ I (30 + i) 2 < 3) (hbe : ∀ i, 0 ≤ i → i < ng → I (30 + i) 4 ≤ 1000000) : jm_Mv E yX5_beginGames wX5_beginGames rmX5_beginGames 0 0 w I [.ref (w.2.1 0)] (fun I' => I' = hk_bg I ng 12) := by
  refine jm_in_v (cc := cX5_beginGames) (maxL := 5) RX5 (by decide +kernel) rfl rfl (Nat.le_of_ble_eq_true rfl) (by simp [Value.category]) ?_
  intro G C hR hI
  have hng := jm_X5_n H
  refine jm_iconst C dX5_beginGames_0 ?_
  refine jm_istore_n C dX5_beginGames_1 (by decide) ?_
  have lp2 : ∀ (yn2 : Nat) (m : Nat) (M : jm_M), 12 - m < yn2 → (m ≤ 12) → (M = hk_bg I ng m) → (∀ i, 0 ≤ i → M (30 + i) 2 = I (30 + i) 2) → (∀ i, (m : Int) ≤ i → M (30 + i) 4 = I (30 + i) 4) → (∀ a b, jm_R (M a b)) → jm_J E G (0, 0) w M 2 [(0, .ref (w.2.1 0)), (1, jm_v ((m : Nat) : Int))] [] := by
    intro yn2
    induction yn2 with
    | zero => intro m M hlt2 hm hM h2 h4 hIM; exact absurd hlt2 (Nat.not_lt_zero _)
    | succ yn2 ih2 =>
      intro m M hlt2 hm hM h2 h4 hIM
      refine jm_iload_n C dX5_beginGames_2 rfl ?_
      refine jm_aload_n C dX5_beginGames_3 rfl ?_
      refine jm_getr (ci := 5) (f := 2) C rfl jw_u_5 H.1.1 H.1.2 rfl (by decide) jw_f_RX5_25 dX5_beginGames_4 ?_
      refine jm_alenq 5 12 rfl C H.2.2.2.1.1 rfl H.2.2.2.1.2 dX5_beginGames_7 ?_
      refine jm_icmp_ge 105 C dX5_beginGames_8 rfl (by omega) (by decide) (fun yc1 => ?_) (fun yc1 => ?_)
      · skip
        exact hR _ _ _ dX5_beginGames_105 (by rw [hM, show m = 12 by omega])
      · skip
        refine jm_aload_n C dX5_beginGames_11 rfl ?_
        refine jm_getr (ci := 5) (f := 2) C rfl jw_u_5 H.1.1 H.1.2 rfl (by decide) jw_f_RX5_25 dX5_beginGames_12 ?_
        refine jm_iload_n C dX5_beginGames_15 rfl ?_
        rcases Int.lt_or_le ((m : Nat) : Int) ng with hgi | hgi
        · skip
          refine jm_aaldr 5 (hk_gg_at w (j := ((m : Nat) : Int)) (by omega) hgi) C H.2.2.2.1.1 rfl H.2.2.2.1.2 (by omega) (by omega) (by omega) dX5_beginGames_16 ?_
          refine jm_astore_n C dX5_beginGames_17 (by decide) ?_
          refine jm_aload_n C dX5_beginGames_18 rfl ?_
          refine jm_ifnullN C dX5_beginGames_19 ?_
          have hw1 := hwi m (by omega) hgi
          have hw2 := h2 m (by omega)
          have hb1 := hbe m (by omega) hgi
          have hb2 := h4 m (by omega)
          refine jm_aload_n C dX5_beginGames_22 rfl ?_
          refine jm_get (ci := 0) (f := 5) 5 rfl C rfl jw_u_0 (jm_X5_g H (i := ((m : Nat) : Int)) (by omega) hgi).1 (jm_X5_g H (i := ((m : Nat) : Int)) (by omega) hgi).2.1 rfl (by decide) jw_f_RX5_114 dX5_beginGames_23 (fun yr2 => ?_)
          refine jm_if_ne 99 C dX5_beginGames_26 rfl (by omega) (fun yc3 => ?_) (fun yc3 => ?_)
          · skip
            refine jm_iinc C dX5_beginGames_99 (by decide) rfl ?_
            refine jm_goto 2 C dX5_beginGames_102 rfl ?_
            refine jm_lvs (lv' := [(0, _), (1, _)]) (jm_sub_c rfl (jm_sub_c rfl (jm_sub_0 _))) ?_
            exact ih2 (m + 1) _ (by omega) (by omega) (by rw [hk_bg, ← hM]; unfold hk_bg1; first | rw [if_neg (by omega)] | rw [if_pos (by omega), if_pos (by omega)] | rw [if_pos (by omega), if_neg (by omega)]) (fun i hi => by first | exact h2 i hi | (rw [jm_up_n (Or.inr (by decide))]; exact h2 i hi) | (rw [jm_up_n (Or.inr (by decide)), jm_up_n (Or.inr (by decide)), jm_up_n (Or.inl (by omega)), jm_up_n (Or.inr (by decide))]; exact h2 i hi)) (fun i hi => by first | exact h4 i (by omega) | (rw [jm_up_n (Or.inl (by omega))]; exact h4 i (by omega)) | (rw [jm_up_n (Or.inr (by decide)), jm_up_n (Or.inr (by decide)), jm_up_n (Or.inr (by decide)), jm_up_n (Or.inr (by decide))]; exact h4 i (by omega))) (by first | exact hIM | exact jm_upR hIM (by omega) | exact jm_upR (jm_upR (jm_upR (jm_upR hIM (by decide)) (by omega)) (by omega)) (by decide))
          · skip
            refine jm_aload_n C dX5_beginGames_29 rfl ?_
            refine jm_get (ci := 0) (f := 4) 4 rfl C rfl jw_u_0 (jm_X5_g H (i := ((m : Nat) : Int)) (by omega) hgi).1 (jm_X5_g H (i := ((m : Nat) : Int)) (by omega) hgi).2.1 rfl (by decide) jw_f_RX5_169 dX5_beginGames_30 (fun yr4 => ?_)
            refine jm_aload_n C dX5_beginGames_33 rfl ?_
            refine jm_get (ci := 5) (f := 5) 5 rfl C rfl jw_u_5 H.1.1 H.1.2 rfl (by decide) jw_f_RX5_54 dX5_beginGames_34 (fun yr5 => ?_)
            refine jm_icmp_le 43 C dX5_beginGames_37 rfl (by omega) (by omega) (fun yc6 => ?_) (fun yc6 => ?_)
            · skip
              refine jm_aload_n C dX5_beginGames_43 rfl ?_
              refine jm_aload_n C dX5_beginGames_44 rfl ?_
              refine jm_get (ci := 0) (f := 2) 2 rfl C rfl jw_u_0 (jm_X5_g H (i := ((m : Nat) : Int)) (by omega) hgi).1 (jm_X5_g H (i := ((m : Nat) : Int)) (by omega) hgi).2.1 rfl (by decide) jw_f_RX5_264 dX5_beginGames_45 (fun yr7 => ?_)
              refine jm_cVd (n := 1) (ci := 5) [] C (kX5_sheetToPlay E w M ng H _ (by omega)) jw_m_RX5_267 okX5_sheetToPlay rfl ⟨rfl, rfl⟩ ⟨Nat.le_of_ble_eq_true rfl, Nat.le_of_ble_eq_true rfl⟩ rfl H.1.1 H.1.2 rfl rfl (Nat.le_of_ble_eq_true rfl) dX5_beginGames_48 ⟨Nat.le_of_ble_eq_true rfl, Nat.le_of_ble_eq_true rfl⟩ (fun yz9 yh8 => ?_)
              subst yh8
              have yh8r := hk_stp_r M (wi := M (30 + ((m : Nat) : Int)) 2) (by omega)
              refine jm_istore_n C dX5_beginGames_51 (by decide) ?_
              refine jm_iload_n C dX5_beginGames_52 rfl ?_
              refine jm_iconst C dX5_beginGames_53 ?_
              refine jm_icmp_ne 70 C dX5_beginGames_54 rfl (by omega) (by decide) (fun yc10 => ?_) (fun yc10 => ?_)
              · skip
                refine jm_aload_n C dX5_beginGames_70 rfl ?_
                refine jm_iload_n C dX5_beginGames_71 rfl ?_
                refine jm_cVrd (n := 1) (ci := 5) [] C (kX5_sheetOf E w M ng H _ (by omega)) jw_m_RX5_98 okX5_sheetOf rfl ⟨rfl, rfl⟩ ⟨Nat.le_of_ble_eq_true rfl, Nat.le_of_ble_eq_true rfl⟩ rfl H.1.1 H.1.2 rfl rfl (Nat.le_of_ble_eq_true rfl) dX5_beginGames_72 ⟨Nat.le_of_ble_eq_true rfl, Nat.le_of_ble_eq_true rfl⟩ ?_
                refine jm_astore C dX5_beginGames_75 (by decide) ?_
                refine jm_aload C dX5_beginGames_77 rfl ?_
                refine jm_iconst C dX5_beginGames_79 ?_
                refine jm_put (ci := 1) (f := 1) (ty := .boolean) 1 rfl C rfl tyX1 tyX1_ok nmX1 jw_u_1 (jm_X5_s H (i := hk_stp M (M (30 + ((m : Nat) : Int)) 2)) (by omega) (by omega)).1 (jm_X5_s H (i := hk_stp M (M (30 + ((m : Nat) : Int)) 2)) (by omega) (by omega)).2.1 rfl (by decide) jw_f_RX5_144 rfl (by decide +kernel) (jm_nz (by decide)) (jm_fz (by decide)) dX5_beginGames_80 (by decide) ?_
                refine jm_aload C dX5_beginGames_83 rfl ?_
                refine jm_iload_n C dX5_beginGames_85 rfl ?_
                refine jm_put (ci := 1) (f := 2) (ty := .int) 2 rfl C rfl tyX1 tyX1_ok nmX1 jw_u_1 (jm_X5_s H (i := hk_stp M (M (30 + ((m : Nat) : Int)) 2)) (by omega) (by omega)).1 (jm_X5_s H (i := hk_stp M (M (30 + ((m : Nat) : Int)) 2)) (by omega) (by omega)).2.1 rfl (by decide) jw_f_RX5_148 rfl (by decide +kernel) rfl rfl dX5_beginGames_86 (by omega) ?_
                refine jm_aload_n C dX5_beginGames_89 rfl ?_
                refine jm_iload_n C dX5_beginGames_90 rfl ?_
                refine jm_put (ci := 0) (f := 6) (ty := .int) 6 rfl C rfl tyX0 tyX0_ok nmX0 jw_u_0 (jm_X5_g H (i := ((m : Nat) : Int)) (by omega) hgi).1 (jm_X5_g H (i := ((m : Nat) : Int)) (by omega) hgi).2.1 rfl (by decide) jw_f_RX5_95 rfl (by decide +kernel) rfl rfl dX5_beginGames_91 (by omega) ?_
                refine jm_aload_n C dX5_beginGames_94 rfl ?_
                refine jm_iconst C dX5_beginGames_95 ?_
                refine jm_put (ci := 0) (f := 5) (ty := .int) 5 rfl C rfl tyX0 tyX0_ok nmX0 jw_u_0 (jm_X5_g H (i := ((m : Nat) : Int)) (by omega) hgi).1 (jm_X5_g H (i := ((m : Nat) : Int)) (by omega) hgi).2.1 rfl (by decide) jw_f_RX5_114 rfl (by decide +kernel) rfl rfl dX5_beginGames_96 (by decide) ?_
                refine jm_iinc C dX5_beginGames_99 (by decide) rfl ?_
                refine jm_goto 2 C dX5_beginGames_102 rfl ?_
                refine jm_lvs (lv' := [(0, _), (1, _)]) (jm_sub_c rfl (jm_sub_c rfl (jm_sub_0 _))) ?_
                exact ih2 (m + 1) _ (by omega) (by omega) (by rw [hk_bg, ← hM]; unfold hk_bg1; first | rw [if_neg (by omega)] | rw [if_pos (by omega), if_pos (by omega)] | rw [if_pos (by omega), if_neg (by omega)]) (fun i hi => by first | exact h2 i hi | (rw [jm_up_n (Or.inr (by decide))]; exact h2 i hi) | (rw [jm_up_n (Or.inr (by decide)), jm_up_n (Or.inr (by decide)), jm_up_n (Or.inl (by omega)), jm_up_n (Or.inr (by decide))]; exact h2 i hi)) (fun i hi => by first | exact h4 i (by omega) | (rw [jm_up_n (Or.inl (by omega))]; exact h4 i (by omega)) | (rw [jm_up_n (Or.inr (by decide)), jm_up_n (Or.inr (by decide)), jm_up_n (Or.inr (by decide)), jm_up_n (Or.inr (by decide))]; exact h4 i (by omega))) (by first | exact hIM | exact jm_upR hIM (by omega) | exact jm_upR (jm_upR (jm_upR (jm_upR hIM (by decide)) (by omega)) (by omega)) (by decide))
              · skip
                refine jm_aload_n C dX5_beginGames_57 rfl ?_
                refine jm_dup C dX5_beginGames_58 rfl ?_
                refine jm_get (ci := 0) (f := 4) 4 rfl C rfl jw_u_0 (jm_X5_g H (i := ((m : Nat) : Int)) (by omega) hgi).1 (jm_X5_g H (i := ((m : Nat) : Int)) (by omega) hgi).2.1 rfl (by decide) jw_f_RX5_169 dX5_beginGames_59 (fun yr13 => ?_)
                refine jm_iconst C dX5_beginGames_62 ?_
                refine jm_iadd C dX5_beginGames_63 ?_
                refine jm_put (ci := 0) (f := 4) (ty := .int) 4 rfl C rfl tyX0 tyX0_ok nmX0 jw_u_0 (jm_X5_g H (i := ((m : Nat) : Int)) (by omega) hgi).1 (jm_X5_g H (i := ((m : Nat) : Int)) (by omega) hgi).2.1 rfl (by decide) jw_f_RX5_169 rfl (by decide +kernel) rfl rfl dX5_beginGames_64 (by omega) ?_
                refine jm_goto 99 C dX5_beginGames_67 rfl ?_
                refine jm_iinc C dX5_beginGames_99 (by decide) rfl ?_
                refine jm_goto 2 C dX5_beginGames_102 rfl ?_
                refine jm_lvs (lv' := [(0, _), (1, _)]) (jm_sub_c rfl (jm_sub_c rfl (jm_sub_0 _))) ?_
                exact ih2 (m + 1) _ (by omega) (by omega) (by rw [hk_bg, ← hM]; unfold hk_bg1; first | rw [if_neg (by omega)] | rw [if_pos (by omega), if_pos (by omega)] | rw [if_pos (by omega), if_neg (by omega)]) (fun i hi => by first | exact h2 i hi | (rw [jm_up_n (Or.inr (by decide))]; exact h2 i hi) | (rw [jm_up_n (Or.inr (by decide)), jm_up_n (Or.inr (by decide)), jm_up_n (Or.inl (by omega)), jm_up_n (Or.inr (by decide))]; exact h2 i hi)) (fun i hi => by first | exact h4 i (by omega) | (rw [jm_up_n (Or.inl (by omega))]; exact h4 i (by omega)) | (rw [jm_up_n (Or.inr (by decide)), jm_up_n (Or.inr (by decide)), jm_up_n (Or.inr (by decide)), jm_up_n (Or.inr (by decide))]; exact h4 i (by omega))) (by first | exact hIM | exact jm_upR hIM (by omega) | exact jm_upR (jm_upR (jm_upR (jm_upR hIM (by decide)) (by omega)) (by omega)) (by decide))
            · skip
              refine jm_goto 99 C dX5_beginGames_40 rfl ?_
              refine jm_iinc C dX5_beginGames_99 (by decide) rfl ?_
              refine jm_goto 2 C dX5_beginGames_102 rfl ?_
              refine jm_lvs (lv' := [(0, _), (1, _)]) (jm_sub_c rfl (jm_sub_c rfl (jm_sub_0 _))) ?_
              exact ih2 (m + 1) _ (by omega) (by omega) (by rw [hk_bg, ← hM]; unfold hk_bg1; first | rw [if_neg (by omega)] | rw [if_pos (by omega), if_pos (by omega)] | rw [if_pos (by omega), if_neg (by omega)]) (fun i hi => by first | exact h2 i hi | (rw [jm_up_n (Or.inr (by decide))]; exact h2 i hi) | (rw [jm_up_n (Or.inr (by decide)), jm_up_n (Or.inr (by decide)), jm_up_n (Or.inl (by omega)), jm_up_n (Or.inr (by decide))]; exact h2 i hi)) (fun i hi => by first | exact h4 i (by omega) | (rw [jm_up_n (Or.inl (by omega))]; exact h4 i (by omega)) | (rw [jm_up_n (Or.inr (by decide)), jm_up_n (Or.inr (by decide)), jm_up_n (Or.inr (by decide)), jm_up_n (Or.inr (by decide))]; exact h4 i (by omega))) (by first | exact hIM | exact jm_upR hIM (by omega) | exact jm_upR (jm_upR (jm_upR (jm_upR hIM (by decide)) (by omega)) (by omega)) (by decide))
        · skip
          refine jm_aaldN 5 (hk_gg_no w (j := ((m : Nat) : Int)) (by omega) hgi) C H.2.2.2.1.1 rfl H.2.2.2.1.2 (by omega) (by omega) (by omega) dX5_beginGames_16 ?_
          refine jm_astore_nN C dX5_beginGames_17 (by decide) ?_
          refine jm_aload_nN C dX5_beginGames_18 rfl ?_
          refine jm_ifnullY 99 C dX5_beginGames_19 rfl ?_
          refine jm_iinc C dX5_beginGames_99 (by decide) rfl ?_
          refine jm_goto 2 C dX5_beginGames_102 rfl ?_
          refine jm_lvs (lv' := [(0, _), (1, _)]) (jm_sub_c rfl (jm_sub_c rfl (jm_sub_0 _))) ?_
          exact ih2 (m + 1) _ (by omega) (by omega) (by rw [hk_bg, ← hM]; unfold hk_bg1; first | rw [if_neg (by omega)] | rw [if_pos (by omega), if_pos (by omega)] | rw [if_pos (by omega), if_neg (by omega)]) (fun i hi => by first | exact h2 i hi | (rw [jm_up_n (Or.inr (by decide))]; exact h2 i hi) | (rw [jm_up_n (Or.inr (by decide)), jm_up_n (Or.inr (by decide)), jm_up_n (Or.inl (by omega)), jm_up_n (Or.inr (by decide))]; exact h2 i hi)) (fun i hi => by first | exact h4 i (by omega) | (rw [jm_up_n (Or.inl (by omega))]; exact h4 i (by omega)) | (rw [jm_up_n (Or.inr (by decide)), jm_up_n (Or.inr (by decide)), jm_up_n (Or.inr (by decide)), jm_up_n (Or.inr (by decide))]; exact h4 i (by omega))) (by first | exact hIM | exact jm_upR hIM (by omega) | exact jm_upR (jm_upR (jm_upR (jm_upR hIM (by decide)) (by omega)) (by omega)) (by decide))
  refine jm_lvs (lv' := [(0, _), (1, _)]) (jm_sub_c rfl (jm_sub_c rfl (jm_sub_0 _))) ?_
  exact lp2 _ 0 _ (Nat.lt_succ_self _) (Nat.zero_le _) rfl (fun _ _ => rfl) (fun _ _ => rfl) hI
set_option maxRecDepth 100000 in
set_option maxHeartbeats 4000000 in
theorem kX5_workAnHour (E : jm_E) (w : jm_W) (I : jm_M) (ng : Int) (H : jm_X5 E w ng) (h7 : -1 ≤ I 0 7 ∧ I 0 7 < 3) (h8 : 0 ≤ I 0 8 ∧ I 0 8 ≤ 100000) : jm_Mv E yX5_workAnHour wX5_workAnHour rmX5_workAnHour 0 0 w I [.ref (w.2.1 0)] (fun I' => I' = hk_work I ng) := by
  refine jm_in_v (cc := cX5_workAnHour) (maxL := 1) RX5 (by decide +kernel) rfl rfl (Nat.le_of_ble_eq_true rfl) (by simp [Value.category]) ?_
  intro G C hR hI
  have hng := jm_X5_n H
  refine jm_aload_n C dX5_workAnHour_0 rfl ?_
  refine jm_get (ci := 5) (f := 8) 8 rfl C rfl jw_u_5 H.1.1 H.1.2 rfl (by decide) jw_f_RX5_154 dX5_workAnHour_1 (fun yr1 => ?_)
  refine jm_if_le 17 C dX5_workAnHour_4 rfl (by omega) (fun yc2 => ?_) (fun yc2 => ?_)
  · skip
    have e1 : I = hk_work1 I := by unfold hk_work1; rw [if_neg (by omega)]
    refine jm_meq e1 ?_
    have hIw : ∀ a b, jm_R (hk_work1 I a b) := by rw [← e1]; first | exact hI | exact jm_upR hI (by omega)
    have e7 : hk_work1 I 0 7 = I 0 7 := by rw [← e1]; try exact jm_up_n (Or.inr (by decide))
    have e6 : hk_work1 I 0 6 = I 0 6 := by rw [← e1]; try exact jm_up_n (Or.inr (by decide))
    refine jm_aload_n C dX5_workAnHour_17 rfl ?_
    refine jm_get (ci := 5) (f := 8) 8 rfl C rfl jw_u_5 H.1.1 H.1.2 rfl (by decide) jw_f_RX5_154 dX5_workAnHour_18 (fun yr3 => ?_)
    refine jm_if_le 25 C dX5_workAnHour_21 rfl (by omega) (fun yc4 => ?_) (fun yc4 => ?_)
    · skip
      refine jm_aload_n C dX5_workAnHour_25 rfl ?_
      refine jm_getv (ci := 5) (f := 7) (I 0 7) 7 rfl e7 C rfl jw_u_5 H.1.1 H.1.2 rfl (by decide) jw_f_RX5_40 dX5_workAnHour_26 (fun yr5 => ?_)
      refine jm_iconst C dX5_workAnHour_29 ?_
      refine jm_icmp_eq 44 C dX5_workAnHour_30 rfl (by omega) (by decide) (fun yc6 => ?_) (fun yc6 => ?_)
      · skip
        have e2 : (hk_work1 I) = hk_work2 (hk_work1 I) := by unfold hk_work2; rw [if_pos (by omega)]
        refine jm_meq e2 ?_
        have hIw2 : ∀ a b, jm_R (hk_work2 (hk_work1 I) a b) := by rw [← e2]; first | exact hIw | exact hk_fill_R (jm_upR hIw (by decide)) (fun _ => by decide)
        have e62 : hk_work2 (hk_work1 I) 0 6 = I 0 6 := by rw [← e2]; first | exact e6 | (rw [hk_fill_o (Or.inl (by omega)), jm_up_n (Or.inl (by omega))]; exact e6)
        refine jm_aload_n C dX5_workAnHour_44 rfl ?_
        refine jm_aload_n C dX5_workAnHour_45 rfl ?_
        refine jm_cVd (n := 0) (ci := 5) [.ref (w.2.1 0)] C (kX5_sheetToMake E w (hk_work2 (hk_work1 I)) ng H) jw_m_RX5_258 okX5_sheetToMake rfl ⟨rfl, rfl⟩ ⟨Nat.le_of_ble_eq_true rfl, Nat.le_of_ble_eq_true rfl⟩ rfl H.1.1 H.1.2 rfl rfl (Nat.le_of_ble_eq_true rfl) dX5_workAnHour_46 ⟨Nat.le_of_ble_eq_true rfl, Nat.le_of_ble_eq_true rfl⟩ (fun yz8 yh7 => ?_)
        subst yh7
        have hsr := hk_stm_r hIw2 ng 3
        refine jm_put (ci := 5) (f := 7) (ty := .int) 7 rfl C rfl tyX5 tyX5_ok nmX5 jw_u_5 H.1.1 H.1.2 rfl (by decide) jw_f_RX5_40 rfl (by decide +kernel) rfl rfl dX5_workAnHour_49 (by omega) ?_
        refine jm_meq (show _ = hk_work3 (hk_work2 (hk_work1 I)) ng from rfl) ?_
        have e72 : hk_work3 (hk_work2 (hk_work1 I)) ng 0 7 = (hk_stm (hk_work2 (hk_work1 I)) ng 3).1 := jm_up_s _ _ _ _
        have e63 : hk_work3 (hk_work2 (hk_work1 I)) ng 0 6 = I 0 6 := (jm_up_n (Or.inr (by decide))).trans e62
        refine jm_aload_n C dX5_workAnHour_52 rfl ?_
        refine jm_get (ci := 5) (f := 7) 7 rfl C rfl jw_u_5 H.1.1 H.1.2 rfl (by decide) jw_f_RX5_40 dX5_workAnHour_53 (fun yr9 => ?_)
        refine jm_iconst C dX5_workAnHour_56 ?_
        refine jm_icmp_eq 68 C dX5_workAnHour_57 rfl (by omega) (by decide) (fun yc10 => ?_) (fun yc10 => ?_)
        · skip
          exact hR _ _ _ dX5_workAnHour_68 (by unfold hk_work; rw [if_neg (by omega)]; unfold hk_work4; first | rw [if_pos (by omega)] | rw [if_neg (by omega)])
        · skip
          refine jm_aload_n C dX5_workAnHour_60 rfl ?_
          refine jm_aload_n C dX5_workAnHour_61 rfl ?_
          refine jm_get (ci := 5) (f := 6) 6 rfl C rfl jw_u_5 H.1.1 H.1.2 rfl (by decide) jw_f_RX5_36 dX5_workAnHour_62 (fun yr11 => ?_)
          refine jm_put (ci := 5) (f := 8) (ty := .int) 8 rfl C rfl tyX5 tyX5_ok nmX5 jw_u_5 H.1.1 H.1.2 rfl (by decide) jw_f_RX5_154 rfl (by decide +kernel) rfl rfl dX5_workAnHour_65 (by omega) ?_
          exact hR _ _ _ dX5_workAnHour_68 (by unfold hk_work; rw [if_neg (by omega)]; unfold hk_work4; first | rw [if_pos (by omega)] | rw [if_neg (by omega)])
      · skip
        refine jm_aload_n C dX5_workAnHour_33 rfl ?_
        refine jm_aload_n C dX5_workAnHour_34 rfl ?_
        refine jm_getv (ci := 5) (f := 7) (I 0 7) 7 rfl e7 C rfl jw_u_5 H.1.1 H.1.2 rfl (by decide) jw_f_RX5_40 dX5_workAnHour_35 (fun yr12 => ?_)
        refine jm_cVrd (n := 1) (ci := 5) [] C (kX5_sheetOf E w (hk_work1 I) ng H _ (by omega)) jw_m_RX5_98 okX5_sheetOf rfl ⟨rfl, rfl⟩ ⟨Nat.le_of_ble_eq_true rfl, Nat.le_of_ble_eq_true rfl⟩ rfl H.1.1 H.1.2 rfl rfl (Nat.le_of_ble_eq_true rfl) dX5_workAnHour_38 ⟨Nat.le_of_ble_eq_true rfl, Nat.le_of_ble_eq_true rfl⟩ ?_
        refine jm_cVu (n := 0) (ci := 1) [] C (kX1_renew E w (hk_work1 I) _ (jm_X5_s H (i := I 0 7) (by omega) (by omega))) jw_m_RX5_255 okX1_renew rfl ⟨rfl, rfl⟩ ⟨Nat.le_of_ble_eq_true rfl, Nat.le_of_ble_eq_true rfl⟩ rfl (jm_X5_s H (i := I 0 7) (by omega) (by omega)).1 (jm_X5_s H (i := I 0 7) (by omega) (by omega)).2.1 rfl rfl (Nat.le_of_ble_eq_true rfl) dX5_workAnHour_41 ⟨Nat.le_of_ble_eq_true rfl, Nat.le_of_ble_eq_true rfl⟩ ?_
        have e2 : hk_fill (jm_up (hk_work1 I) (10 + (I 0 7)) 1 1) (10 + (I 0 7) + 100) 549 (fun _ => 0) = hk_work2 (hk_work1 I) := by unfold hk_work2; rw [if_neg (by omega), e7]; rfl
        refine jm_meq e2 ?_
        have hIw2 : ∀ a b, jm_R (hk_work2 (hk_work1 I) a b) := by rw [← e2]; first | exact hIw | exact hk_fill_R (jm_upR hIw (by decide)) (fun _ => by decide)
        have e62 : hk_work2 (hk_work1 I) 0 6 = I 0 6 := by rw [← e2]; first | exact e6 | (rw [hk_fill_o (Or.inl (by omega)), jm_up_n (Or.inl (by omega))]; exact e6)
        refine jm_aload_n C dX5_workAnHour_44 rfl ?_
        refine jm_aload_n C dX5_workAnHour_45 rfl ?_
        refine jm_cVd (n := 0) (ci := 5) [.ref (w.2.1 0)] C (kX5_sheetToMake E w (hk_work2 (hk_work1 I)) ng H) jw_m_RX5_258 okX5_sheetToMake rfl ⟨rfl, rfl⟩ ⟨Nat.le_of_ble_eq_true rfl, Nat.le_of_ble_eq_true rfl⟩ rfl H.1.1 H.1.2 rfl rfl (Nat.le_of_ble_eq_true rfl) dX5_workAnHour_46 ⟨Nat.le_of_ble_eq_true rfl, Nat.le_of_ble_eq_true rfl⟩ (fun yz18 yh17 => ?_)
        subst yh17
        have hsr := hk_stm_r hIw2 ng 3
        refine jm_put (ci := 5) (f := 7) (ty := .int) 7 rfl C rfl tyX5 tyX5_ok nmX5 jw_u_5 H.1.1 H.1.2 rfl (by decide) jw_f_RX5_40 rfl (by decide +kernel) rfl rfl dX5_workAnHour_49 (by omega) ?_
        refine jm_meq (show _ = hk_work3 (hk_work2 (hk_work1 I)) ng from rfl) ?_
        have e72 : hk_work3 (hk_work2 (hk_work1 I)) ng 0 7 = (hk_stm (hk_work2 (hk_work1 I)) ng 3).1 := jm_up_s _ _ _ _
        have e63 : hk_work3 (hk_work2 (hk_work1 I)) ng 0 6 = I 0 6 := (jm_up_n (Or.inr (by decide))).trans e62
        refine jm_aload_n C dX5_workAnHour_52 rfl ?_
        refine jm_get (ci := 5) (f := 7) 7 rfl C rfl jw_u_5 H.1.1 H.1.2 rfl (by decide) jw_f_RX5_40 dX5_workAnHour_53 (fun yr19 => ?_)
        refine jm_iconst C dX5_workAnHour_56 ?_
        refine jm_icmp_eq 68 C dX5_workAnHour_57 rfl (by omega) (by decide) (fun yc20 => ?_) (fun yc20 => ?_)
        · skip
          exact hR _ _ _ dX5_workAnHour_68 (by unfold hk_work; rw [if_neg (by omega)]; unfold hk_work4; first | rw [if_pos (by omega)] | rw [if_neg (by omega)])
        · skip
          refine jm_aload_n C dX5_workAnHour_60 rfl ?_
          refine jm_aload_n C dX5_workAnHour_61 rfl ?_
          refine jm_get (ci := 5) (f := 6) 6 rfl C rfl jw_u_5 H.1.1 H.1.2 rfl (by decide) jw_f_RX5_36 dX5_workAnHour_62 (fun yr21 => ?_)
          refine jm_put (ci := 5) (f := 8) (ty := .int) 8 rfl C rfl tyX5 tyX5_ok nmX5 jw_u_5 H.1.1 H.1.2 rfl (by decide) jw_f_RX5_154 rfl (by decide +kernel) rfl rfl dX5_workAnHour_65 (by omega) ?_
          exact hR _ _ _ dX5_workAnHour_68 (by unfold hk_work; rw [if_neg (by omega)]; unfold hk_work4; first | rw [if_pos (by omega)] | rw [if_neg (by omega)])
    · skip
      exact hR _ _ _ dX5_workAnHour_24 (by unfold hk_work; rw [if_pos (by omega)])
  · skip
    refine jm_aload_n C dX5_workAnHour_7 rfl ?_
    refine jm_dup C dX5_workAnHour_8 rfl ?_
    refine jm_get (ci := 5) (f := 8) 8 rfl C rfl jw_u_5 H.1.1 H.1.2 rfl (by decide) jw_f_RX5_154 dX5_workAnHour_9 (fun yr22 => ?_)
    refine jm_iconst C dX5_workAnHour_12 ?_
    refine jm_isub C dX5_workAnHour_13 ?_
    refine jm_put (ci := 5) (f := 8) (ty := .int) 8 rfl C rfl tyX5 tyX5_ok nmX5 jw_u_5 H.1.1 H.1.2 rfl (by decide) jw_f_RX5_154 rfl (by decide +kernel) rfl rfl dX5_workAnHour_14 (by omega) ?_
    have e1 : jm_up I 0 8 ((I 0 8) - 1) = hk_work1 I := by unfold hk_work1; rw [if_pos (by omega)]
    refine jm_meq e1 ?_
    have hIw : ∀ a b, jm_R (hk_work1 I a b) := by rw [← e1]; first | exact hI | exact jm_upR hI (by omega)
    have e7 : hk_work1 I 0 7 = I 0 7 := by rw [← e1]; try exact jm_up_n (Or.inr (by decide))
    have e6 : hk_work1 I 0 6 = I 0 6 := by rw [← e1]; try exact jm_up_n (Or.inr (by decide))
    refine jm_aload_n C dX5_workAnHour_17 rfl ?_
    refine jm_get (ci := 5) (f := 8) 8 rfl C rfl jw_u_5 H.1.1 H.1.2 rfl (by decide) jw_f_RX5_154 dX5_workAnHour_18 (fun yr23 => ?_)
    refine jm_if_le 25 C dX5_workAnHour_21 rfl (by omega) (fun yc24 => ?_) (fun yc24 => ?_)
    · skip
      refine jm_aload_n C dX5_workAnHour_25 rfl ?_
      refine jm_getv (ci := 5) (f := 7) (I 0 7) 7 rfl e7 C rfl jw_u_5 H.1.1 H.1.2 rfl (by decide) jw_f_RX5_40 dX5_workAnHour_26 (fun yr25 => ?_)
      refine jm_iconst C dX5_workAnHour_29 ?_
      refine jm_icmp_eq 44 C dX5_workAnHour_30 rfl (by omega) (by decide) (fun yc26 => ?_) (fun yc26 => ?_)
      · skip
        have e2 : (hk_work1 I) = hk_work2 (hk_work1 I) := by unfold hk_work2; rw [if_pos (by omega)]
        refine jm_meq e2 ?_
        have hIw2 : ∀ a b, jm_R (hk_work2 (hk_work1 I) a b) := by rw [← e2]; first | exact hIw | exact hk_fill_R (jm_upR hIw (by decide)) (fun _ => by decide)
        have e62 : hk_work2 (hk_work1 I) 0 6 = I 0 6 := by rw [← e2]; first | exact e6 | (rw [hk_fill_o (Or.inl (by omega)), jm_up_n (Or.inl (by omega))]; exact e6)
        refine jm_aload_n C dX5_workAnHour_44 rfl ?_
        refine jm_aload_n C dX5_workAnHour_45 rfl ?_
        refine jm_cVd (n := 0) (ci := 5) [.ref (w.2.1 0)] C (kX5_sheetToMake E w (hk_work2 (hk_work1 I)) ng H) jw_m_RX5_258 okX5_sheetToMake rfl ⟨rfl, rfl⟩ ⟨Nat.le_of_ble_eq_true rfl, Nat.le_of_ble_eq_true rfl⟩ rfl H.1.1 H.1.2 rfl rfl (Nat.le_of_ble_eq_true rfl) dX5_workAnHour_46 ⟨Nat.le_of_ble_eq_true rfl, Nat.le_of_ble_eq_true rfl⟩ (fun yz28 yh27 => ?_)
        subst yh27
        have hsr := hk_stm_r hIw2 ng 3
        refine jm_put (ci := 5) (f := 7) (ty := .int) 7 rfl C rfl tyX5 tyX5_ok nmX5 jw_u_5 H.1.1 H.1.2 rfl (by decide) jw_f_RX5_40 rfl (by decide +kernel) rfl rfl dX5_workAnHour_49 (by omega) ?_
        refine jm_meq (show _ = hk_work3 (hk_work2 (hk_work1 I)) ng from rfl) ?_
        have e72 : hk_work3 (hk_work2 (hk_work1 I)) ng 0 7 = (hk_stm (hk_work2 (hk_work1 I)) ng 3).1 := jm_up_s _ _ _ _
        have e63 : hk_work3 (hk_work2 (hk_work1 I)) ng 0 6 = I 0 6 := (jm_up_n (Or.inr (by decide))).trans e62
        refine jm_aload_n C dX5_workAnHour_52 rfl ?_
        refine jm_get (ci := 5) (f := 7) 7 rfl C rfl jw_u_5 H.1.1 H.1.2 rfl (by decide) jw_f_RX5_40 dX5_workAnHour_53 (fun yr29 => ?_)
        refine jm_iconst C dX5_workAnHour_56 ?_
        refine jm_icmp_eq 68 C dX5_workAnHour_57 rfl (by omega) (by decide) (fun yc30 => ?_) (fun yc30 => ?_)
        · skip
          exact hR _ _ _ dX5_workAnHour_68 (by unfold hk_work; rw [if_neg (by omega)]; unfold hk_work4; first | rw [if_pos (by omega)] | rw [if_neg (by omega)])
        · skip
          refine jm_aload_n C dX5_workAnHour_60 rfl ?_
          refine jm_aload_n C dX5_workAnHour_61 rfl ?_
          refine jm_get (ci := 5) (f := 6) 6 rfl C rfl jw_u_5 H.1.1 H.1.2 rfl (by decide) jw_f_RX5_36 dX5_workAnHour_62 (fun yr31 => ?_)
          refine jm_put (ci := 5) (f := 8) (ty := .int) 8 rfl C rfl tyX5 tyX5_ok nmX5 jw_u_5 H.1.1 H.1.2 rfl (by decide) jw_f_RX5_154 rfl (by decide +kernel) rfl rfl dX5_workAnHour_65 (by omega) ?_
          exact hR _ _ _ dX5_workAnHour_68 (by unfold hk_work; rw [if_neg (by omega)]; unfold hk_work4; first | rw [if_pos (by omega)] | rw [if_neg (by omega)])
      · skip
        refine jm_aload_n C dX5_workAnHour_33 rfl ?_
        refine jm_aload_n C dX5_workAnHour_34 rfl ?_
        refine jm_getv (ci := 5) (f := 7) (I 0 7) 7 rfl e7 C rfl jw_u_5 H.1.1 H.1.2 rfl (by decide) jw_f_RX5_40 dX5_workAnHour_35 (fun yr32 => ?_)
        refine jm_cVrd (n := 1) (ci := 5) [] C (kX5_sheetOf E w (hk_work1 I) ng H _ (by omega)) jw_m_RX5_98 okX5_sheetOf rfl ⟨rfl, rfl⟩ ⟨Nat.le_of_ble_eq_true rfl, Nat.le_of_ble_eq_true rfl⟩ rfl H.1.1 H.1.2 rfl rfl (Nat.le_of_ble_eq_true rfl) dX5_workAnHour_38 ⟨Nat.le_of_ble_eq_true rfl, Nat.le_of_ble_eq_true rfl⟩ ?_
        refine jm_cVu (n := 0) (ci := 1) [] C (kX1_renew E w (hk_work1 I) _ (jm_X5_s H (i := I 0 7) (by omega) (by omega))) jw_m_RX5_255 okX1_renew rfl ⟨rfl, rfl⟩ ⟨Nat.le_of_ble_eq_true rfl, Nat.le_of_ble_eq_true rfl⟩ rfl (jm_X5_s H (i := I 0 7) (by omega) (by omega)).1 (jm_X5_s H (i := I 0 7) (by omega) (by omega)).2.1 rfl rfl (Nat.le_of_ble_eq_true rfl) dX5_workAnHour_41 ⟨Nat.le_of_ble_eq_true rfl, Nat.le_of_ble_eq_true rfl⟩ ?_
        have e2 : hk_fill (jm_up (hk_work1 I) (10 + (I 0 7)) 1 1) (10 + (I 0 7) + 100) 549 (fun _ => 0) = hk_work2 (hk_work1 I) := by unfold hk_work2; rw [if_neg (by omega), e7]; rfl
        refine jm_meq e2 ?_
        have hIw2 : ∀ a b, jm_R (hk_work2 (hk_work1 I) a b) := by rw [← e2]; first | exact hIw | exact hk_fill_R (jm_upR hIw (by decide)) (fun _ => by decide)
        have e62 : hk_work2 (hk_work1 I) 0 6 = I 0 6 := by rw [← e2]; first | exact e6 | (rw [hk_fill_o (Or.inl (by omega)), jm_up_n (Or.inl (by omega))]; exact e6)
        refine jm_aload_n C dX5_workAnHour_44 rfl ?_
        refine jm_aload_n C dX5_workAnHour_45 rfl ?_
        refine jm_cVd (n := 0) (ci := 5) [.ref (w.2.1 0)] C (kX5_sheetToMake E w (hk_work2 (hk_work1 I)) ng H) jw_m_RX5_258 okX5_sheetToMake rfl ⟨rfl, rfl⟩ ⟨Nat.le_of_ble_eq_true rfl, Nat.le_of_ble_eq_true rfl⟩ rfl H.1.1 H.1.2 rfl rfl (Nat.le_of_ble_eq_true rfl) dX5_workAnHour_46 ⟨Nat.le_of_ble_eq_true rfl, Nat.le_of_ble_eq_true rfl⟩ (fun yz38 yh37 => ?_)
        subst yh37
        have hsr := hk_stm_r hIw2 ng 3
        refine jm_put (ci := 5) (f := 7) (ty := .int) 7 rfl C rfl tyX5 tyX5_ok nmX5 jw_u_5 H.1.1 H.1.2 rfl (by decide) jw_f_RX5_40 rfl (by decide +kernel) rfl rfl dX5_workAnHour_49 (by omega) ?_
        refine jm_meq (show _ = hk_work3 (hk_work2 (hk_work1 I)) ng from rfl) ?_
        have e72 : hk_work3 (hk_work2 (hk_work1 I)) ng 0 7 = (hk_stm (hk_work2 (hk_work1 I)) ng 3).1 := jm_up_s _ _ _ _
        have e63 : hk_work3 (hk_work2 (hk_work1 I)) ng 0 6 = I 0 6 := (jm_up_n (Or.inr (by decide))).trans e62
        refine jm_aload_n C dX5_workAnHour_52 rfl ?_
        refine jm_get (ci := 5) (f := 7) 7 rfl C rfl jw_u_5 H.1.1 H.1.2 rfl (by decide) jw_f_RX5_40 dX5_workAnHour_53 (fun yr39 => ?_)
        refine jm_iconst C dX5_workAnHour_56 ?_
        refine jm_icmp_eq 68 C dX5_workAnHour_57 rfl (by omega) (by decide) (fun yc40 => ?_) (fun yc40 => ?_)
        · skip
          exact hR _ _ _ dX5_workAnHour_68 (by unfold hk_work; rw [if_neg (by omega)]; unfold hk_work4; first | rw [if_pos (by omega)] | rw [if_neg (by omega)])
        · skip
          refine jm_aload_n C dX5_workAnHour_60 rfl ?_
          refine jm_aload_n C dX5_workAnHour_61 rfl ?_
          refine jm_get (ci := 5) (f := 6) 6 rfl C rfl jw_u_5 H.1.1 H.1.2 rfl (by decide) jw_f_RX5_36 dX5_workAnHour_62 (fun yr41 => ?_)
          refine jm_put (ci := 5) (f := 8) (ty := .int) 8 rfl C rfl tyX5 tyX5_ok nmX5 jw_u_5 H.1.1 H.1.2 rfl (by decide) jw_f_RX5_154 rfl (by decide +kernel) rfl rfl dX5_workAnHour_65 (by omega) ?_
          exact hR _ _ _ dX5_workAnHour_68 (by unfold hk_work; rw [if_neg (by omega)]; unfold hk_work4; first | rw [if_pos (by omega)] | rw [if_neg (by omega)])
    · skip
      exact hR _ _ _ dX5_workAnHour_24 (by unfold hk_work; rw [if_pos (by omega)])
set_option maxRecDepth 100000 in
set_option maxHeartbeats 4000000 in
theorem kX5_closeGame (E : jm_E) (w : jm_W) (I : jm_M) (ng : Int) (H : jm_X5 E w ng) (k : Int) (h : jm_X0 E w k) (hk : 30 ≤ k ∧ k < 100) (h0 : 0 ≤ I k 0 ∧ I k 0 < 6) (h1 : 0 ≤ I k 1 ∧ I k 1 < 6) (h6 : 0 ≤ I k 6 ∧ I k 6 < 3) (hw : ∀ t, 0 ≤ t → t < 6 → 0 ≤ I (20 + t) 0 ∧ I (20 + t) 0 ≤ 1000000) : jm_Mv E yX5_closeGame wX5_closeGame rmX5_closeGame 0 0 w I [.ref (w.2.1 0), .ref (w.2.1 k)] (fun I' => I' = hk_cg I k) := by
  refine jm_in_v (cc := cX5_closeGame) (maxL := 2) RX5 (by decide +kernel) rfl rfl (Nat.le_of_ble_eq_true rfl) (by simp [Value.category]) ?_
  intro G C hR hI
  have hng := jm_X5_n H
  have n1 : ¬ k = 10 + I k 6 := by omega
  have n2 : ¬ 20 + I k 0 = k := by omega
  have n3 : ¬ 20 + I k 1 = k := by omega
  have n4 : ¬ 20 + I k 0 = 10 + I k 6 := by omega
  have n5 : ¬ 20 + I k 1 = 10 + I k 6 := by omega
  have w1 := hw _ h0.1 h0.2
  have w2 := hw _ h1.1 h1.2
  refine jm_aload_n C dX5_closeGame_0 rfl ?_
  refine jm_iconst C dX5_closeGame_1 ?_
  refine jm_put (ci := 0) (f := 5) (ty := .int) 5 rfl C rfl tyX0 tyX0_ok nmX0 jw_u_0 h.1 h.2.1 rfl (by decide) jw_f_RX5_114 rfl (by decide +kernel) rfl rfl dX5_closeGame_2 (by decide) ?_
  refine jm_aload_n C dX5_closeGame_5 rfl ?_
  refine jm_iconst C dX5_closeGame_6 ?_
  refine jm_put (ci := 0) (f := 12) (ty := .int) 12 rfl C rfl tyX0 tyX0_ok nmX0 jw_u_0 h.1 h.2.1 rfl (by decide) jw_f_RX5_184 rfl (by decide +kernel) rfl rfl dX5_closeGame_7 (by decide) ?_
  refine jm_aload_n C dX5_closeGame_10 rfl ?_
  refine jm_aload_n C dX5_closeGame_11 rfl ?_
  refine jm_getv (ci := 0) (f := 6) (I k 6) 6 rfl (by simp [jm_up, n1, n2, n3, n4, n5]) C rfl jw_u_0 h.1 h.2.1 rfl (by decide) jw_f_RX5_95 dX5_closeGame_12 (fun yr1 => ?_)
  refine jm_cVrd (n := 1) (ci := 5) [] C (kX5_sheetOf E w (jm_up (jm_up I k 5 3) k 12 (-1)) ng H _ (by omega)) jw_m_RX5_98 okX5_sheetOf rfl ⟨rfl, rfl⟩ ⟨Nat.le_of_ble_eq_true rfl, Nat.le_of_ble_eq_true rfl⟩ rfl H.1.1 H.1.2 rfl rfl (Nat.le_of_ble_eq_true rfl) dX5_closeGame_15 ⟨Nat.le_of_ble_eq_true rfl, Nat.le_of_ble_eq_true rfl⟩ ?_
  refine jm_iconst C dX5_closeGame_18 ?_
  refine jm_put (ci := 1) (f := 2) (ty := .int) 2 rfl C rfl tyX1 tyX1_ok nmX1 jw_u_1 (jm_X5_s H (i := I k 6) (by omega) (by omega)).1 (jm_X5_s H (i := I k 6) (by omega) (by omega)).2.1 rfl (by decide) jw_f_RX5_148 rfl (by decide +kernel) rfl rfl dX5_closeGame_19 (by decide) ?_
  refine jm_aload_n C dX5_closeGame_22 rfl ?_
  refine jm_getv (ci := 0) (f := 8) (I k 8) 8 rfl (by simp [jm_up, n1, n2, n3, n4, n5]) C rfl jw_u_0 h.1 h.2.1 rfl (by decide) jw_f_RX5_172 dX5_closeGame_23 (fun yr4 => ?_)
  refine jm_aload_n C dX5_closeGame_26 rfl ?_
  refine jm_getv (ci := 0) (f := 9) (I k 9) 9 rfl (by simp [jm_up, n1, n2, n3, n4, n5]) C rfl jw_u_0 h.1 h.2.1 rfl (by decide) jw_f_RX5_175 dX5_closeGame_27 (fun yr5 => ?_)
  refine jm_icmp_le 53 C dX5_closeGame_30 rfl (by omega) (by omega) (fun yc6 => ?_) (fun yc6 => ?_)
  · skip
    refine jm_aload_n C dX5_closeGame_53 rfl ?_
    refine jm_getv (ci := 0) (f := 9) (I k 9) 9 rfl (by simp [jm_up, n1, n2, n3, n4, n5]) C rfl jw_u_0 h.1 h.2.1 rfl (by decide) jw_f_RX5_175 dX5_closeGame_54 (fun yr7 => ?_)
    refine jm_aload_n C dX5_closeGame_57 rfl ?_
    refine jm_getv (ci := 0) (f := 8) (I k 8) 8 rfl (by simp [jm_up, n1, n2, n3, n4, n5]) C rfl jw_u_0 h.1 h.2.1 rfl (by decide) jw_f_RX5_172 dX5_closeGame_58 (fun yr8 => ?_)
    refine jm_icmp_le 81 C dX5_closeGame_61 rfl (by omega) (by omega) (fun yc9 => ?_) (fun yc9 => ?_)
    · skip
      exact hR _ _ _ dX5_closeGame_81 (by unfold hk_cg hk_cg1; first | rw [if_pos (by omega)] | rw [if_neg (by omega), if_pos (by omega)] | rw [if_neg (by omega), if_neg (by omega)])
    · skip
      refine jm_aload_n C dX5_closeGame_64 rfl ?_
      refine jm_aload_n C dX5_closeGame_65 rfl ?_
      refine jm_getv (ci := 0) (f := 1) (I k 1) 1 rfl (by simp [jm_up, n1, n2, n3, n4, n5]) C rfl jw_u_0 h.1 h.2.1 rfl (by decide) jw_f_RX5_239 dX5_closeGame_66 (fun yr10 => ?_)
      refine jm_cVrd (n := 1) (ci := 5) [] C (kX5_teamOf E w (jm_up (jm_up (jm_up I k 5 3) k 12 (-1)) (10 + (I k 6)) 2 (-1)) ng H _ (by omega)) jw_m_RX5_209 okX5_teamOf rfl ⟨rfl, rfl⟩ ⟨Nat.le_of_ble_eq_true rfl, Nat.le_of_ble_eq_true rfl⟩ rfl H.1.1 H.1.2 rfl rfl (Nat.le_of_ble_eq_true rfl) dX5_closeGame_69 ⟨Nat.le_of_ble_eq_true rfl, Nat.le_of_ble_eq_true rfl⟩ ?_
      refine jm_dup C dX5_closeGame_72 rfl ?_
      refine jm_getv (ci := 4) (f := 0) (I (20 + (I k 1)) 0) 0 rfl (by simp [jm_up, n1, n2, n3, n4, n5]) C rfl jw_u_4 (jm_X5_t H (i := I k 1) (by omega) (by omega)).1 (jm_X5_t H (i := I k 1) (by omega) (by omega)).2 rfl (by decide) jw_f_RX5_213 dX5_closeGame_73 (fun yr13 => ?_)
      refine jm_iconst C dX5_closeGame_76 ?_
      refine jm_iadd C dX5_closeGame_77 ?_
      refine jm_put (ci := 4) (f := 0) (ty := .int) 0 rfl C rfl tyX4 tyX4_ok nmX4 jw_u_4 (jm_X5_t H (i := I k 1) (by omega) (by omega)).1 (jm_X5_t H (i := I k 1) (by omega) (by omega)).2 rfl (by decide) jw_f_RX5_213 rfl (by decide +kernel) rfl rfl dX5_closeGame_78 (by omega) ?_
      exact hR _ _ _ dX5_closeGame_81 (by unfold hk_cg hk_cg1; first | rw [if_pos (by omega)] | rw [if_neg (by omega), if_pos (by omega)] | rw [if_neg (by omega), if_neg (by omega)])
  · skip
    refine jm_aload_n C dX5_closeGame_33 rfl ?_
    refine jm_aload_n C dX5_closeGame_34 rfl ?_
    refine jm_getv (ci := 0) (f := 0) (I k 0) 0 rfl (by simp [jm_up, n1, n2, n3, n4, n5]) C rfl jw_u_0 h.1 h.2.1 rfl (by decide) jw_f_RX5_236 dX5_closeGame_35 (fun yr14 => ?_)
    refine jm_cVrd (n := 1) (ci := 5) [] C (kX5_teamOf E w (jm_up (jm_up (jm_up I k 5 3) k 12 (-1)) (10 + (I k 6)) 2 (-1)) ng H _ (by omega)) jw_m_RX5_209 okX5_teamOf rfl ⟨rfl, rfl⟩ ⟨Nat.le_of_ble_eq_true rfl, Nat.le_of_ble_eq_true rfl⟩ rfl H.1.1 H.1.2 rfl rfl (Nat.le_of_ble_eq_true rfl) dX5_closeGame_38 ⟨Nat.le_of_ble_eq_true rfl, Nat.le_of_ble_eq_true rfl⟩ ?_
    refine jm_dup C dX5_closeGame_41 rfl ?_
    refine jm_getv (ci := 4) (f := 0) (I (20 + (I k 0)) 0) 0 rfl (by simp [jm_up, n1, n2, n3, n4, n5]) C rfl jw_u_4 (jm_X5_t H (i := I k 0) (by omega) (by omega)).1 (jm_X5_t H (i := I k 0) (by omega) (by omega)).2 rfl (by decide) jw_f_RX5_213 dX5_closeGame_42 (fun yr17 => ?_)
    refine jm_iconst C dX5_closeGame_45 ?_
    refine jm_iadd C dX5_closeGame_46 ?_
    refine jm_put (ci := 4) (f := 0) (ty := .int) 0 rfl C rfl tyX4 tyX4_ok nmX4 jw_u_4 (jm_X5_t H (i := I k 0) (by omega) (by omega)).1 (jm_X5_t H (i := I k 0) (by omega) (by omega)).2 rfl (by decide) jw_f_RX5_213 rfl (by decide +kernel) rfl rfl dX5_closeGame_47 (by omega) ?_
    refine jm_goto 81 C dX5_closeGame_50 rfl ?_
    exact hR _ _ _ dX5_closeGame_81 (by unfold hk_cg hk_cg1; first | rw [if_pos (by omega)] | rw [if_neg (by omega), if_pos (by omega)] | rw [if_neg (by omega), if_neg (by omega)])
set_option maxRecDepth 100000 in
set_option maxHeartbeats 4000000 in
theorem kX5_settleStone (E : jm_E) (w : jm_W) (I : jm_M) (ng : Int) (H : jm_X5 E w ng) (k : Int) (h : jm_X0 E w k) (hk : 30 ≤ k ∧ k < 100) (h0 : 0 ≤ I k 0 ∧ I k 0 < 6) (h1 : 0 ≤ I k 1 ∧ I k 1 < 6) (h6 : 0 ≤ I k 6 ∧ I k 6 < 3) (h11 : 0 ≤ I k 11 ∧ I k 11 ≤ 100000) (h8 : 0 ≤ I k 8 ∧ I k 8 ≤ 100000) (h9 : 0 ≤ I k 9 ∧ I k 9 ≤ 100000) (h10 : 0 ≤ I k 10 ∧ I k 10 ≤ 100000) (hw : ∀ t, 0 ≤ t → t < 6 → 0 ≤ I (20 + t) 0 ∧ I (20 + t) 0 ≤ 1000000) : jm_Mv E yX5_settleStone wX5_settleStone rmX5_settleStone 0 0 w I [.ref (w.2.1 0), .ref (w.2.1 k)] (fun I' => I' = hk_sst I k) := by
  refine jm_in_v (cc := cX5_settleStone) (maxL := 2) RX5 (by decide +kernel) rfl rfl (Nat.le_of_ble_eq_true rfl) (by simp [Value.category]) ?_
  intro G C hR hI
  have hng := jm_X5_n H
  refine jm_aload_n C dX5_settleStone_0 rfl ?_
  refine jm_dup C dX5_settleStone_1 rfl ?_
  refine jm_get (ci := 0) (f := 11) 11 rfl C rfl jw_u_0 h.1 h.2.1 rfl (by decide) jw_f_RX5_246 dX5_settleStone_2 (fun yr1 => ?_)
  refine jm_iconst C dX5_settleStone_5 ?_
  refine jm_iadd C dX5_settleStone_6 ?_
  refine jm_put (ci := 0) (f := 11) (ty := .int) 11 rfl C rfl tyX0 tyX0_ok nmX0 jw_u_0 h.1 h.2.1 rfl (by decide) jw_f_RX5_246 rfl (by decide +kernel) rfl rfl dX5_settleStone_7 (by omega) ?_
  refine jm_aload_n C dX5_settleStone_10 rfl ?_
  refine jm_getv (ci := 0) (f := 11) ((I k 11) + 1) 11 rfl (by simp [jm_up]) C rfl jw_u_0 h.1 h.2.1 rfl (by decide) jw_f_RX5_246 dX5_settleStone_11 (fun yr2 => ?_)
  refine jm_bipush C dX5_settleStone_14 (by decide +kernel) ?_
  refine jm_icmp_ge 20 C dX5_settleStone_16 rfl (by omega) (by decide) (fun yc3 => ?_) (fun yc3 => ?_)
  · skip
    refine jm_aload_n C dX5_settleStone_20 rfl ?_
    refine jm_cVu (n := 0) (ci := 0) [] C (kX0_closeEnd E w (jm_up I k 11 ((I k 11) + 1)) _ h (by simp [jm_up]; omega) (by simp [jm_up]; omega) (by simp [jm_up]; omega)) jw_m_RX5_249 okX0_closeEnd rfl ⟨rfl, rfl⟩ ⟨Nat.le_of_ble_eq_true rfl, Nat.le_of_ble_eq_true rfl⟩ rfl h.1 h.2.1 rfl rfl (Nat.le_of_ble_eq_true rfl) dX5_settleStone_21 ⟨Nat.le_of_ble_eq_true rfl, Nat.le_of_ble_eq_true rfl⟩ ?_
    have o1 : ∀ b, (b ≠ 8 ∧ b ≠ 9 ∧ b ≠ 10 ∧ b ≠ 11 ∧ b ≠ 12) → hk_close (jm_up I k 11 (I k 11 + 1)) k k b = I k b := fun b hb => by rw [hk_close_k hb, jm_up_n (Or.inr hb.2.2.2.1)]
    have o2 : ∀ t, (0 ≤ t ∧ t < 6) → hk_close (jm_up I k 11 (I k 11 + 1)) k (20 + t) 0 = I (20 + t) 0 := fun t ht => by rw [hk_close_o ⟨by omega, by omega⟩, jm_up_n (Or.inl (by omega))]
    refine jm_aload_n C dX5_settleStone_24 rfl ?_
    refine jm_get (ci := 0) (f := 10) 10 rfl C rfl jw_u_0 h.1 h.2.1 rfl (by decide) jw_f_RX5_178 dX5_settleStone_25 (fun yr6 => ?_)
    refine jm_iconst C dX5_settleStone_28 ?_
    refine jm_icmp_ne 37 C dX5_settleStone_29 rfl (by omega) (by decide) (fun yc7 => ?_) (fun yc7 => ?_)
    · skip
      exact hR _ _ _ dX5_settleStone_37 (by unfold hk_sst; first | rw [if_pos (by omega)] | rw [if_neg (by omega), if_pos (by omega)] | rw [if_neg (by omega), if_neg (by omega)])
    · skip
      refine jm_aload_n C dX5_settleStone_32 rfl ?_
      refine jm_aload_n C dX5_settleStone_33 rfl ?_
      refine jm_cVu (n := 1) (ci := 5) [] C (kX5_closeGame E w (hk_close (jm_up I k 11 ((I k 11) + 1)) k) ng H _ h hk (by rw [o1 0 (by decide)]; omega) (by rw [o1 1 (by decide)]; omega) (by rw [o1 6 (by decide)]; omega) (fun t ht1 ht2 => by rw [o2 _ (by omega)]; exact hw t ht1 ht2)) jw_m_RX5_252 okX5_closeGame rfl ⟨rfl, rfl⟩ ⟨Nat.le_of_ble_eq_true rfl, Nat.le_of_ble_eq_true rfl⟩ rfl H.1.1 H.1.2 rfl rfl (Nat.le_of_ble_eq_true rfl) dX5_settleStone_34 ⟨Nat.le_of_ble_eq_true rfl, Nat.le_of_ble_eq_true rfl⟩ ?_
      exact hR _ _ _ dX5_settleStone_37 (by unfold hk_sst; first | rw [if_pos (by omega)] | rw [if_neg (by omega), if_pos (by omega)] | rw [if_neg (by omega), if_neg (by omega)])
  · skip
    exact hR _ _ _ dX5_settleStone_19 (by unfold hk_sst; first | rw [if_pos (by omega)] | rw [if_neg (by omega), if_pos (by omega)] | rw [if_neg (by omega), if_neg (by omega)])
set_option maxRecDepth 100000 in
set_option maxHeartbeats 4000000 in
theorem kX5_settleDraw (E : jm_E) (w : jm_W) (I : jm_M) (ng : Int) (H : jm_X5 E w ng) (k : Int) (h : jm_X0 E w k) (d : Int) (hd : 0 ≤ d ∧ d ≤ 1000) (h0 : 0 ≤ I k 0 ∧ I k 0 < 6) (h1 : 0 ≤ I k 1 ∧ I k 1 < 6) (h11 : jm_R (hk_nside (I k 5) (I k 11) (I k 12))) (hw : ∀ t, 0 ≤ t → t < 6 → (0 ≤ I (20 + t) 1 ∧ I (20 + t) 1 ≤ 1000000) ∧ (0 ≤ I (20 + t) 2 ∧ I (20 + t) 2 ≤ 1000000)) : jm_Mv E yX5_settleDraw wX5_settleDraw rmX5_settleDraw 0 0 w I [.ref (w.2.1 0), .ref (w.2.1 k), jm_v d] (fun I' => I' = hk_sdr I k d) := by
  refine jm_in_v (cc := cX5_settleDraw) (maxL := 4) RX5 (by decide +kernel) rfl rfl (Nat.le_of_ble_eq_true rfl) (by simp [Value.category]) ?_
  intro G C hR hI
  have hng := jm_X5_n H
  have w1 := hw _ h0.1 h0.2
  have w2 := hw _ h1.1 h1.2
  refine jm_aload_n C dX5_settleDraw_0 rfl ?_
  refine jm_aload_n C dX5_settleDraw_1 rfl ?_
  refine jm_cVd (n := 0) (ci := 0) [.ref (w.2.1 0)] C (kX0_nextSide E w I _ h) jw_m_RX5_181 okX0_nextSide rfl ⟨rfl, rfl⟩ ⟨Nat.le_of_ble_eq_true rfl, Nat.le_of_ble_eq_true rfl⟩ rfl h.1 h.2.1 rfl rfl (Nat.le_of_ble_eq_true rfl) dX5_settleDraw_2 ⟨Nat.le_of_ble_eq_true rfl, Nat.le_of_ble_eq_true rfl⟩ (fun yz2 yh1 => ?_)
  subst yh1
  refine jm_if_ne 15 C dX5_settleDraw_5 rfl (by omega) (fun yc3 => ?_) (fun yc3 => ?_)
  · skip
    refine jm_aload_n C dX5_settleDraw_15 rfl ?_
    refine jm_get (ci := 0) (f := 1) 1 rfl C rfl jw_u_0 h.1 h.2.1 rfl (by decide) jw_f_RX5_239 dX5_settleDraw_16 (fun yr4 => ?_)
    refine jm_cVrd (n := 1) (ci := 5) [] C (kX5_teamOf E w I ng H _ (by omega)) jw_m_RX5_209 okX5_teamOf rfl ⟨rfl, rfl⟩ ⟨Nat.le_of_ble_eq_true rfl, Nat.le_of_ble_eq_true rfl⟩ rfl H.1.1 H.1.2 rfl rfl (Nat.le_of_ble_eq_true rfl) dX5_settleDraw_19 ⟨Nat.le_of_ble_eq_true rfl, Nat.le_of_ble_eq_true rfl⟩ ?_
    refine jm_astore_n C dX5_settleDraw_22 (by decide) ?_
    refine jm_aload_n C dX5_settleDraw_23 rfl ?_
    refine jm_dup C dX5_settleDraw_24 rfl ?_
    refine jm_get (ci := 4) (f := 1) 1 rfl C rfl jw_u_4 (jm_X5_t H (i := I k 1) (by omega) (by omega)).1 (jm_X5_t H (i := I k 1) (by omega) (by omega)).2 rfl (by decide) jw_f_RX5_216 dX5_settleDraw_25 (fun yr7 => ?_)
    refine jm_iconst C dX5_settleDraw_28 ?_
    refine jm_iadd C dX5_settleDraw_29 ?_
    refine jm_put (ci := 4) (f := 1) (ty := .int) 1 rfl C rfl tyX4 tyX4_ok nmX4 jw_u_4 (jm_X5_t H (i := I k 1) (by omega) (by omega)).1 (jm_X5_t H (i := I k 1) (by omega) (by omega)).2 rfl (by decide) jw_f_RX5_216 rfl (by decide +kernel) rfl rfl dX5_settleDraw_30 (by omega) ?_
    refine jm_aload_n C dX5_settleDraw_33 rfl ?_
    refine jm_dup C dX5_settleDraw_34 rfl ?_
    refine jm_getv (ci := 4) (f := 2) (I (20 + (I k 1)) 2) 2 rfl (by simp [jm_up]) C rfl jw_u_4 (jm_X5_t H (i := I k 1) (by omega) (by omega)).1 (jm_X5_t H (i := I k 1) (by omega) (by omega)).2 rfl (by decide) jw_f_RX5_219 dX5_settleDraw_35 (fun yr8 => ?_)
    refine jm_iload_n C dX5_settleDraw_38 rfl ?_
    refine jm_iadd C dX5_settleDraw_39 ?_
    refine jm_put (ci := 4) (f := 2) (ty := .int) 2 rfl C rfl tyX4 tyX4_ok nmX4 jw_u_4 (jm_X5_t H (i := I k 1) (by omega) (by omega)).1 (jm_X5_t H (i := I k 1) (by omega) (by omega)).2 rfl (by decide) jw_f_RX5_219 rfl (by decide +kernel) rfl rfl dX5_settleDraw_40 (by omega) ?_
    refine jm_aload_n C dX5_settleDraw_43 rfl ?_
    refine jm_iload_n C dX5_settleDraw_44 rfl ?_
    refine jm_cVu (n := 1) (ci := 0) [] C (kX0_takeDraw E w (jm_up (jm_up I (20 + (I k 1)) 1 ((I (20 + (I k 1)) 1) + 1)) (20 + (I k 1)) 2 ((I (20 + (I k 1)) 2) + d)) _ h _ (by omega)) jw_m_RX5_242 okX0_takeDraw rfl ⟨rfl, rfl⟩ ⟨Nat.le_of_ble_eq_true rfl, Nat.le_of_ble_eq_true rfl⟩ rfl h.1 h.2.1 rfl rfl (Nat.le_of_ble_eq_true rfl) dX5_settleDraw_45 ⟨Nat.le_of_ble_eq_true rfl, Nat.le_of_ble_eq_true rfl⟩ ?_
    exact hR _ _ _ dX5_settleDraw_48 (by unfold hk_sdr hk_sdr1 hk_dteam; first | rw [if_pos (by omega)] | rw [if_neg (by omega)])
  · skip
    refine jm_aload_n C dX5_settleDraw_8 rfl ?_
    refine jm_get (ci := 0) (f := 0) 0 rfl C rfl jw_u_0 h.1 h.2.1 rfl (by decide) jw_f_RX5_236 dX5_settleDraw_9 (fun yr11 => ?_)
    refine jm_goto 19 C dX5_settleDraw_12 rfl ?_
    refine jm_cVrd (n := 1) (ci := 5) [] C (kX5_teamOf E w I ng H _ (by omega)) jw_m_RX5_209 okX5_teamOf rfl ⟨rfl, rfl⟩ ⟨Nat.le_of_ble_eq_true rfl, Nat.le_of_ble_eq_true rfl⟩ rfl H.1.1 H.1.2 rfl rfl (Nat.le_of_ble_eq_true rfl) dX5_settleDraw_19 ⟨Nat.le_of_ble_eq_true rfl, Nat.le_of_ble_eq_true rfl⟩ ?_
    refine jm_astore_n C dX5_settleDraw_22 (by decide) ?_
    refine jm_aload_n C dX5_settleDraw_23 rfl ?_
    refine jm_dup C dX5_settleDraw_24 rfl ?_
    refine jm_get (ci := 4) (f := 1) 1 rfl C rfl jw_u_4 (jm_X5_t H (i := I k 0) (by omega) (by omega)).1 (jm_X5_t H (i := I k 0) (by omega) (by omega)).2 rfl (by decide) jw_f_RX5_216 dX5_settleDraw_25 (fun yr14 => ?_)
    refine jm_iconst C dX5_settleDraw_28 ?_
    refine jm_iadd C dX5_settleDraw_29 ?_
    refine jm_put (ci := 4) (f := 1) (ty := .int) 1 rfl C rfl tyX4 tyX4_ok nmX4 jw_u_4 (jm_X5_t H (i := I k 0) (by omega) (by omega)).1 (jm_X5_t H (i := I k 0) (by omega) (by omega)).2 rfl (by decide) jw_f_RX5_216 rfl (by decide +kernel) rfl rfl dX5_settleDraw_30 (by omega) ?_
    refine jm_aload_n C dX5_settleDraw_33 rfl ?_
    refine jm_dup C dX5_settleDraw_34 rfl ?_
    refine jm_getv (ci := 4) (f := 2) (I (20 + (I k 0)) 2) 2 rfl (by simp [jm_up]) C rfl jw_u_4 (jm_X5_t H (i := I k 0) (by omega) (by omega)).1 (jm_X5_t H (i := I k 0) (by omega) (by omega)).2 rfl (by decide) jw_f_RX5_219 dX5_settleDraw_35 (fun yr15 => ?_)
    refine jm_iload_n C dX5_settleDraw_38 rfl ?_
    refine jm_iadd C dX5_settleDraw_39 ?_
    refine jm_put (ci := 4) (f := 2) (ty := .int) 2 rfl C rfl tyX4 tyX4_ok nmX4 jw_u_4 (jm_X5_t H (i := I k 0) (by omega) (by omega)).1 (jm_X5_t H (i := I k 0) (by omega) (by omega)).2 rfl (by decide) jw_f_RX5_219 rfl (by decide +kernel) rfl rfl dX5_settleDraw_40 (by omega) ?_
    refine jm_aload_n C dX5_settleDraw_43 rfl ?_
    refine jm_iload_n C dX5_settleDraw_44 rfl ?_
    refine jm_cVu (n := 1) (ci := 0) [] C (kX0_takeDraw E w (jm_up (jm_up I (20 + (I k 0)) 1 ((I (20 + (I k 0)) 1) + 1)) (20 + (I k 0)) 2 ((I (20 + (I k 0)) 2) + d)) _ h _ (by omega)) jw_m_RX5_242 okX0_takeDraw rfl ⟨rfl, rfl⟩ ⟨Nat.le_of_ble_eq_true rfl, Nat.le_of_ble_eq_true rfl⟩ rfl h.1 h.2.1 rfl rfl (Nat.le_of_ble_eq_true rfl) dX5_settleDraw_45 ⟨Nat.le_of_ble_eq_true rfl, Nat.le_of_ble_eq_true rfl⟩ ?_
    exact hR _ _ _ dX5_settleDraw_48 (by unfold hk_sdr hk_sdr1 hk_dteam; first | rw [if_pos (by omega)] | rw [if_neg (by omega)])
