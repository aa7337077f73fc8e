set_option maxRecDepth 100000 in
set_option maxHeartbeats 4000000 in
theorem kX0_isOnSheet (E : jm_E) (w : jm_W) (I : jm_M) (k : Int) (h : jm_X0 E w k) : jm_Mi E yX0_isOnSheet wX0_isOnSheet rmX0_isOnSheet 0 0 w I [.ref (w.2.1 k)] (fun I' z => I' = I ∧ (((I k 5 = 1 ∨ I k 5 = 2) ∧ z = 1) ∨ (¬ (I k 5 = 1 ∨ I k 5 = 2) ∧ z = 0))) := by
  refine jm_in_i (cc := cX0_isOnSheet) (maxL := 1) (rt := .boolean) RX0 (by decide +kernel) rfl rfl (Nat.le_of_ble_eq_true rfl) (by simp [Value.category]) ?_
  intro G C hR hI
  refine jm_aload_n C dX0_isOnSheet_0 rfl ?_
  refine jm_get (ci := 0) (f := 5) 5 rfl C rfl jw_u_0 h.1 h.2.1 rfl (by decide) jw_f_RX0_18 dX0_isOnSheet_1 (fun yr1 => ?_)
  refine jm_iconst C dX0_isOnSheet_4 ?_
  refine jm_icmp_eq 16 C dX0_isOnSheet_5 rfl (by omega) (by decide) (fun yc2 => ?_) (fun yc2 => ?_)
  · skip
    refine jm_iconst C dX0_isOnSheet_16 ?_
    refine jm_goto 21 C dX0_isOnSheet_17 rfl ?_
    exact hR _ _ _ _ dX0_isOnSheet_21 (jm_nz (by decide)) ⟨rfl, by omega⟩
  · skip
    refine jm_aload_n C dX0_isOnSheet_8 rfl ?_
    refine jm_get (ci := 0) (f := 5) 5 rfl C rfl jw_u_0 h.1 h.2.1 rfl (by decide) jw_f_RX0_18 dX0_isOnSheet_9 (fun yr3 => ?_)
    refine jm_iconst C dX0_isOnSheet_12 ?_
    refine jm_icmp_ne 20 C dX0_isOnSheet_13 rfl (by omega) (by decide) (fun yc4 => ?_) (fun yc4 => ?_)
    · skip
      refine jm_iconst C dX0_isOnSheet_20 ?_
      exact hR _ _ _ _ dX0_isOnSheet_21 (jm_nz (by decide)) ⟨rfl, by omega⟩
    · skip
      refine jm_iconst C dX0_isOnSheet_16 ?_
      refine jm_goto 21 C dX0_isOnSheet_17 rfl ?_
      exact hR _ _ _ _ dX0_isOnSheet_21 (jm_nz (by decide)) ⟨rfl, by omega⟩
set_option maxRecDepth 100000 in
set_option maxHeartbeats 4000000 in
theorem kX0_nextSide (E : jm_E) (w : jm_W) (I : jm_M) (k : Int) (h : jm_X0 E w k) : jm_Mi E yX0_nextSide wX0_nextSide rmX0_nextSide 0 0 w I [.ref (w.2.1 k)] (fun I' z => I' = I ∧ z = hk_nside (I k 5) (I k 11) (I k 12)) := by
  refine jm_in_i (cc := cX0_nextSide) (maxL := 1) (rt := .int) RX0 (by decide +kernel) rfl rfl (Nat.le_of_ble_eq_true rfl) (by simp [Value.category]) ?_
  intro G C hR hI
  refine jm_aload_n C dX0_nextSide_0 rfl ?_
  refine jm_get (ci := 0) (f := 5) 5 rfl C rfl jw_u_0 h.1 h.2.1 rfl (by decide) jw_f_RX0_18 dX0_nextSide_1 (fun yr1 => ?_)
  refine jm_iconst C dX0_nextSide_4 ?_
  refine jm_icmp_ne 13 C dX0_nextSide_5 rfl (by omega) (by decide) (fun yc2 => ?_) (fun yc2 => ?_)
  · skip
    refine jm_aload_n C dX0_nextSide_13 rfl ?_
    refine jm_get (ci := 0) (f := 5) 5 rfl C rfl jw_u_0 h.1 h.2.1 rfl (by decide) jw_f_RX0_18 dX0_nextSide_14 (fun yr3 => ?_)
    refine jm_iconst C dX0_nextSide_17 ?_
    refine jm_icmp_ne 44 C dX0_nextSide_18 rfl (by omega) (by decide) (fun yc4 => ?_) (fun yc4 => ?_)
    · skip
      refine jm_iconst C dX0_nextSide_44 ?_
      exact hR _ _ _ _ dX0_nextSide_45 rfl ⟨rfl, by unfold hk_nside; first | rw [if_pos (by omega)] | rw [if_neg (by omega), if_pos (by omega), if_pos (by omega)] | rw [if_neg (by omega), if_pos (by omega), if_neg (by omega)] | rw [if_neg (by omega), if_neg (by omega)]⟩
    · skip
      refine jm_aload_n C dX0_nextSide_21 rfl ?_
      refine jm_get (ci := 0) (f := 11) 11 rfl C rfl jw_u_0 h.1 h.2.1 rfl (by decide) jw_f_RX0_40 dX0_nextSide_22 (fun yr5 => ?_)
      refine jm_iconst C dX0_nextSide_25 ?_
      refine jm_irem C dX0_nextSide_26 (by omega) (by decide) (by decide) ?_
      have hmo := Int.tmod_lt_of_pos (I k 11) (show (0 : Int) < 2 by decide)
      have hmo2 := Int.lt_tmod_of_pos (I k 11) (show (0 : Int) < 2 by decide)
      refine jm_if_ne 39 C dX0_nextSide_27 rfl (by omega) (fun yc6 => ?_) (fun yc6 => ?_)
      · skip
        refine jm_aload_n C dX0_nextSide_39 rfl ?_
        refine jm_get (ci := 0) (f := 12) 12 rfl C rfl jw_u_0 h.1 h.2.1 rfl (by decide) jw_f_RX0_25 dX0_nextSide_40 (fun yr7 => ?_)
        exact hR _ _ _ _ dX0_nextSide_43 rfl ⟨rfl, by unfold hk_nside; first | rw [if_pos (by omega)] | rw [if_neg (by omega), if_pos (by omega), if_pos (by omega)] | rw [if_neg (by omega), if_pos (by omega), if_neg (by omega)] | rw [if_neg (by omega), if_neg (by omega)]⟩
      · skip
        refine jm_iconst C dX0_nextSide_30 ?_
        refine jm_aload_n C dX0_nextSide_31 rfl ?_
        refine jm_get (ci := 0) (f := 12) 12 rfl C rfl jw_u_0 h.1 h.2.1 rfl (by decide) jw_f_RX0_25 dX0_nextSide_32 (fun yr8 => ?_)
        refine jm_isub C dX0_nextSide_35 ?_
        refine jm_goto 43 C dX0_nextSide_36 rfl ?_
        exact hR _ _ _ _ dX0_nextSide_43 rfl ⟨rfl, by unfold hk_nside; first | rw [if_pos (by omega)] | rw [if_neg (by omega), if_pos (by omega), if_pos (by omega)] | rw [if_neg (by omega), if_pos (by omega), if_neg (by omega)] | rw [if_neg (by omega), if_neg (by omega)]⟩
  · skip
    refine jm_aload_n C dX0_nextSide_8 rfl ?_
    refine jm_get (ci := 0) (f := 11) 11 rfl C rfl jw_u_0 h.1 h.2.1 rfl (by decide) jw_f_RX0_40 dX0_nextSide_9 (fun yr9 => ?_)
    exact hR _ _ _ _ dX0_nextSide_12 rfl ⟨rfl, by unfold hk_nside; first | rw [if_pos (by omega)] | rw [if_neg (by omega), if_pos (by omega), if_pos (by omega)] | rw [if_neg (by omega), if_pos (by omega), if_neg (by omega)] | rw [if_neg (by omega), if_neg (by omega)]⟩
set_option maxRecDepth 100000 in
set_option maxHeartbeats 4000000 in
theorem kX0_nextStone (E : jm_E) (w : jm_W) (I : jm_M) (k : Int) (h : jm_X0 E w k) : jm_Mi E yX0_nextStone wX0_nextStone rmX0_nextStone 0 0 w I [.ref (w.2.1 k)] (fun I' z => I' = I ∧ z = hk_nside (I k 5) (I k 11) (I k 12) * 3 + (I k 11).tdiv 2) := by
  refine jm_in_i (cc := cX0_nextStone) (maxL := 1) (rt := .int) RX0 (by decide +kernel) rfl rfl (Nat.le_of_ble_eq_true rfl) (by simp [Value.category]) ?_
  intro G C hR hI
  refine jm_aload_n C dX0_nextStone_0 rfl ?_
  refine jm_cVd (n := 0) (ci := 0) [] C (kX0_nextSide E w I _ h) jw_m_RX0_43 okX0_nextSide rfl ⟨rfl, rfl⟩ ⟨Nat.le_of_ble_eq_true rfl, Nat.le_of_ble_eq_true rfl⟩ rfl h.1 h.2.1 rfl rfl (Nat.le_of_ble_eq_true rfl) dX0_nextStone_1 ⟨Nat.le_of_ble_eq_true rfl, Nat.le_of_ble_eq_true rfl⟩ (fun yz2 yh1 => ?_)
  subst yh1
  refine jm_iconst C dX0_nextStone_4 ?_
  refine jm_imul C dX0_nextStone_5 ?_
  refine jm_aload_n C dX0_nextStone_6 rfl ?_
  refine jm_get (ci := 0) (f := 11) 11 rfl C rfl jw_u_0 h.1 h.2.1 rfl (by decide) jw_f_RX0_40 dX0_nextStone_7 (fun yr3 => ?_)
  refine jm_iconst C dX0_nextStone_10 ?_
  refine jm_idiv C dX0_nextStone_11 (by omega) (by decide) (by decide) ?_
  refine jm_iadd C dX0_nextStone_12 ?_
  exact hR _ _ _ _ dX0_nextStone_13 rfl ⟨rfl, rfl⟩
set_option maxRecDepth 100000 in
set_option maxHeartbeats 4000000 in
theorem kX0_takeDraw (E : jm_E) (w : jm_W) (I : jm_M) (k : Int) (h : jm_X0 E w k) (d : Int) (hd : jm_R d) : jm_Mv E yX0_takeDraw wX0_takeDraw rmX0_takeDraw 0 0 w I [.ref (w.2.1 k), jm_v d] (fun I' => I' = hk_draw I k d) := by
  refine jm_in_v (cc := cX0_takeDraw) (maxL := 2) RX0 (by decide +kernel) rfl rfl (Nat.le_of_ble_eq_true rfl) (by simp [Value.category]) ?_
  intro G C hR hI
  refine jm_aload_n C dX0_takeDraw_0 rfl ?_
  refine jm_get (ci := 0) (f := 11) 11 rfl C rfl jw_u_0 h.1 h.2.1 rfl (by decide) jw_f_RX0_40 dX0_takeDraw_1 (fun yr1 => ?_)
  refine jm_if_ne 18 C dX0_takeDraw_4 rfl (by omega) (fun yc2 => ?_) (fun yc2 => ?_)
  · skip
    refine jm_aload_n C dX0_takeDraw_18 rfl ?_
    refine jm_aload_n C dX0_takeDraw_19 rfl ?_
    refine jm_get (ci := 0) (f := 7) 7 rfl C rfl jw_u_0 h.1 h.2.1 rfl (by decide) jw_f_RX0_47 dX0_takeDraw_20 (fun yr3 => ?_)
    refine jm_iload_n C dX0_takeDraw_23 rfl ?_
    refine jm_icmp_ge 31 C dX0_takeDraw_24 rfl (by omega) hd (fun yc4 => ?_) (fun yc4 => ?_)
    · skip
      refine jm_iconst C dX0_takeDraw_31 ?_
      refine jm_put (ci := 0) (f := 12) (ty := .int) 12 rfl C rfl tyX0 tyX0_ok nmX0 jw_u_0 h.1 h.2.1 rfl (by decide) jw_f_RX0_25 rfl (by decide +kernel) rfl rfl dX0_takeDraw_32 (by decide) ?_
      refine jm_aload_n C dX0_takeDraw_35 rfl ?_
      refine jm_iconst C dX0_takeDraw_36 ?_
      refine jm_put (ci := 0) (f := 11) (ty := .int) 11 rfl C rfl tyX0 tyX0_ok nmX0 jw_u_0 h.1 h.2.1 rfl (by decide) jw_f_RX0_40 rfl (by decide +kernel) rfl rfl dX0_takeDraw_37 (by decide) ?_
      refine jm_aload_n C dX0_takeDraw_40 rfl ?_
      refine jm_iconst C dX0_takeDraw_41 ?_
      refine jm_put (ci := 0) (f := 5) (ty := .int) 5 rfl C rfl tyX0 tyX0_ok nmX0 jw_u_0 h.1 h.2.1 rfl (by decide) jw_f_RX0_18 rfl (by decide +kernel) rfl rfl dX0_takeDraw_42 (by decide) ?_
      exact hR _ _ _ dX0_takeDraw_45 (by unfold hk_draw; first | rw [if_pos (by omega)] | rw [if_neg (by omega), if_pos (by omega)] | rw [if_neg (by omega), if_neg (by omega)])
    · skip
      refine jm_iconst C dX0_takeDraw_27 ?_
      refine jm_goto 32 C dX0_takeDraw_28 rfl ?_
      refine jm_put (ci := 0) (f := 12) (ty := .int) 12 rfl C rfl tyX0 tyX0_ok nmX0 jw_u_0 h.1 h.2.1 rfl (by decide) jw_f_RX0_25 rfl (by decide +kernel) rfl rfl dX0_takeDraw_32 (by decide) ?_
      refine jm_aload_n C dX0_takeDraw_35 rfl ?_
      refine jm_iconst C dX0_takeDraw_36 ?_
      refine jm_put (ci := 0) (f := 11) (ty := .int) 11 rfl C rfl tyX0 tyX0_ok nmX0 jw_u_0 h.1 h.2.1 rfl (by decide) jw_f_RX0_40 rfl (by decide +kernel) rfl rfl dX0_takeDraw_37 (by decide) ?_
      refine jm_aload_n C dX0_takeDraw_40 rfl ?_
      refine jm_iconst C dX0_takeDraw_41 ?_
      refine jm_put (ci := 0) (f := 5) (ty := .int) 5 rfl C rfl tyX0 tyX0_ok nmX0 jw_u_0 h.1 h.2.1 rfl (by decide) jw_f_RX0_18 rfl (by decide +kernel) rfl rfl dX0_takeDraw_42 (by decide) ?_
      exact hR _ _ _ dX0_takeDraw_45 (by unfold hk_draw; first | rw [if_pos (by omega)] | rw [if_neg (by omega), if_pos (by omega)] | rw [if_neg (by omega), if_neg (by omega)])
  · skip
    refine jm_aload_n C dX0_takeDraw_7 rfl ?_
    refine jm_iload_n C dX0_takeDraw_8 rfl ?_
    refine jm_put (ci := 0) (f := 7) (ty := .int) 7 rfl C rfl tyX0 tyX0_ok nmX0 jw_u_0 h.1 h.2.1 rfl (by decide) jw_f_RX0_47 rfl (by decide +kernel) rfl rfl dX0_takeDraw_9 hd ?_
    refine jm_aload_n C dX0_takeDraw_12 rfl ?_
    refine jm_iconst C dX0_takeDraw_13 ?_
    refine jm_put (ci := 0) (f := 11) (ty := .int) 11 rfl C rfl tyX0 tyX0_ok nmX0 jw_u_0 h.1 h.2.1 rfl (by decide) jw_f_RX0_40 rfl (by decide +kernel) rfl rfl dX0_takeDraw_14 (by decide) ?_
    exact hR _ _ _ dX0_takeDraw_17 (by unfold hk_draw; first | rw [if_pos (by omega)] | rw [if_neg (by omega), if_pos (by omega)] | rw [if_neg (by omega), if_neg (by omega)])
set_option maxRecDepth 100000 in
set_option maxHeartbeats 4000000 in
theorem kX0_closeEnd (E : jm_E) (w : jm_W) (I : jm_M) (k : Int) (h : jm_X0 E w k) (h8 : 0 ≤ I k 8 ∧ I k 8 ≤ 100000) (h9 : 0 ≤ I k 9 ∧ I k 9 ≤ 100000) (h10 : 0 ≤ I k 10 ∧ I k 10 ≤ 100000) : jm_Mv E yX0_closeEnd wX0_closeEnd rmX0_closeEnd 0 0 w I [.ref (w.2.1 k)] (fun I' => I' = hk_close I k) := by
  refine jm_in_v (cc := cX0_closeEnd) (maxL := 2) RX0 (by decide +kernel) rfl rfl (Nat.le_of_ble_eq_true rfl) (by simp [Value.category]) ?_
  intro G C hR hI
  have hkk : ¬ k = k + 100 + 100 := by omega
  refine jm_aload_n C dX0_closeEnd_0 rfl ?_
  refine jm_getr (ci := 0) (f := 3) C rfl jw_u_0 h.1 h.2.1 rfl (by decide) jw_f_RX0_12 dX0_closeEnd_1 ?_
  refine jm_cVd (n := 0) (ci := 3) [] C (kX3_score E w I _ h.2.2) jw_m_RX0_50 okX3_score rfl ⟨rfl, rfl⟩ ⟨Nat.le_of_ble_eq_true rfl, Nat.le_of_ble_eq_true rfl⟩ rfl h.2.2.1 h.2.2.2.1 rfl rfl (Nat.le_of_ble_eq_true rfl) dX0_closeEnd_4 ⟨Nat.le_of_ble_eq_true rfl, Nat.le_of_ble_eq_true rfl⟩ (fun yz2 yh1 => ?_)
  subst yh1
  have yh1r := hk_score_r (I ((k + 100) + 100))
  refine jm_istore_n C dX0_closeEnd_7 (by decide) ?_
  refine jm_iload_n C dX0_closeEnd_8 rfl ?_
  refine jm_if_le 30 C dX0_closeEnd_9 rfl (by omega) (fun yc3 => ?_) (fun yc3 => ?_)
  · skip
    refine jm_iload_n C dX0_closeEnd_30 rfl ?_
    refine jm_if_ge 49 C dX0_closeEnd_31 rfl (by omega) (fun yc4 => ?_) (fun yc4 => ?_)
    · skip
      refine jm_aload_n C dX0_closeEnd_49 rfl ?_
      refine jm_getr (ci := 0) (f := 3) C rfl jw_u_0 h.1 h.2.1 rfl (by decide) jw_f_RX0_12 dX0_closeEnd_50 ?_
      refine jm_cVu (n := 0) (ci := 3) [] C (kX3_takeAway E w I _ h.2.2) jw_m_RX0_59 okX3_takeAway rfl ⟨rfl, rfl⟩ ⟨Nat.le_of_ble_eq_true rfl, Nat.le_of_ble_eq_true rfl⟩ rfl h.2.2.1 h.2.2.2.1 rfl rfl (Nat.le_of_ble_eq_true rfl) dX0_closeEnd_53 ⟨Nat.le_of_ble_eq_true rfl, Nat.le_of_ble_eq_true rfl⟩ ?_
      refine jm_aload_n C dX0_closeEnd_56 rfl ?_
      refine jm_iconst C dX0_closeEnd_57 ?_
      refine jm_put (ci := 0) (f := 11) (ty := .int) 11 rfl C rfl tyX0 tyX0_ok nmX0 jw_u_0 h.1 h.2.1 rfl (by decide) jw_f_RX0_40 rfl (by decide +kernel) rfl rfl dX0_closeEnd_58 (by decide) ?_
      refine jm_aload_n C dX0_closeEnd_61 rfl ?_
      refine jm_dup C dX0_closeEnd_62 rfl ?_
      refine jm_getv (ci := 0) (f := 10) (I k 10) 10 rfl (by simp [jm_up, hk_fill, hkk]) C rfl jw_u_0 h.1 h.2.1 rfl (by decide) jw_f_RX0_62 dX0_closeEnd_63 (fun yr7 => ?_)
      refine jm_iconst C dX0_closeEnd_66 ?_
      refine jm_iadd C dX0_closeEnd_67 ?_
      refine jm_put (ci := 0) (f := 10) (ty := .int) 10 rfl C rfl tyX0 tyX0_ok nmX0 jw_u_0 h.1 h.2.1 rfl (by decide) jw_f_RX0_62 rfl (by decide +kernel) rfl rfl dX0_closeEnd_68 (by omega) ?_
      exact hR _ _ _ dX0_closeEnd_71 (by unfold hk_close; dsimp only; first | rw [if_pos (by omega)] | rw [if_neg (by omega), if_pos (by omega)] | rw [if_neg (by omega), if_neg (by omega)])
    · skip
      refine jm_aload_n C dX0_closeEnd_34 rfl ?_
      refine jm_dup C dX0_closeEnd_35 rfl ?_
      refine jm_get (ci := 0) (f := 9) 9 rfl C rfl jw_u_0 h.1 h.2.1 rfl (by decide) jw_f_RX0_56 dX0_closeEnd_36 (fun yr8 => ?_)
      refine jm_iload_n C dX0_closeEnd_39 rfl ?_
      refine jm_isub C dX0_closeEnd_40 ?_
      refine jm_put (ci := 0) (f := 9) (ty := .int) 9 rfl C rfl tyX0 tyX0_ok nmX0 jw_u_0 h.1 h.2.1 rfl (by decide) jw_f_RX0_56 rfl (by decide +kernel) rfl rfl dX0_closeEnd_41 (by omega) ?_
      refine jm_aload_n C dX0_closeEnd_44 rfl ?_
      refine jm_iconst C dX0_closeEnd_45 ?_
      refine jm_put (ci := 0) (f := 12) (ty := .int) 12 rfl C rfl tyX0 tyX0_ok nmX0 jw_u_0 h.1 h.2.1 rfl (by decide) jw_f_RX0_25 rfl (by decide +kernel) rfl rfl dX0_closeEnd_46 (by decide) ?_
      refine jm_aload_n C dX0_closeEnd_49 rfl ?_
      refine jm_getr (ci := 0) (f := 3) C rfl jw_u_0 h.1 h.2.1 rfl (by decide) jw_f_RX0_12 dX0_closeEnd_50 ?_
      refine jm_cVu (n := 0) (ci := 3) [] C (kX3_takeAway E w (jm_up (jm_up I k 9 ((I k 9) - (hk_score (I ((k + 100) + 100))))) k 12 0) _ h.2.2) jw_m_RX0_59 okX3_takeAway rfl ⟨rfl, rfl⟩ ⟨Nat.le_of_ble_eq_true rfl, Nat.le_of_ble_eq_true rfl⟩ rfl h.2.2.1 h.2.2.2.1 rfl rfl (Nat.le_of_ble_eq_true rfl) dX0_closeEnd_53 ⟨Nat.le_of_ble_eq_true rfl, Nat.le_of_ble_eq_true rfl⟩ ?_
      refine jm_aload_n C dX0_closeEnd_56 rfl ?_
      refine jm_iconst C dX0_closeEnd_57 ?_
      refine jm_put (ci := 0) (f := 11) (ty := .int) 11 rfl C rfl tyX0 tyX0_ok nmX0 jw_u_0 h.1 h.2.1 rfl (by decide) jw_f_RX0_40 rfl (by decide +kernel) rfl rfl dX0_closeEnd_58 (by decide) ?_
      refine jm_aload_n C dX0_closeEnd_61 rfl ?_
      refine jm_dup C dX0_closeEnd_62 rfl ?_
      refine jm_getv (ci := 0) (f := 10) (I k 10) 10 rfl (by simp [jm_up, hk_fill, hkk]) C rfl jw_u_0 h.1 h.2.1 rfl (by decide) jw_f_RX0_62 dX0_closeEnd_63 (fun yr11 => ?_)
      refine jm_iconst C dX0_closeEnd_66 ?_
      refine jm_iadd C dX0_closeEnd_67 ?_
      refine jm_put (ci := 0) (f := 10) (ty := .int) 10 rfl C rfl tyX0 tyX0_ok nmX0 jw_u_0 h.1 h.2.1 rfl (by decide) jw_f_RX0_62 rfl (by decide +kernel) rfl rfl dX0_closeEnd_68 (by omega) ?_
      exact hR _ _ _ dX0_closeEnd_71 (by unfold hk_close; dsimp only; first | rw [if_pos (by omega)] | rw [if_neg (by omega), if_pos (by omega)] | rw [if_neg (by omega), if_neg (by omega)])
  · skip
    refine jm_aload_n C dX0_closeEnd_12 rfl ?_
    refine jm_dup C dX0_closeEnd_13 rfl ?_
    refine jm_get (ci := 0) (f := 8) 8 rfl C rfl jw_u_0 h.1 h.2.1 rfl (by decide) jw_f_RX0_53 dX0_closeEnd_14 (fun yr12 => ?_)
    refine jm_iload_n C dX0_closeEnd_17 rfl ?_
    refine jm_iadd C dX0_closeEnd_18 ?_
    refine jm_put (ci := 0) (f := 8) (ty := .int) 8 rfl C rfl tyX0 tyX0_ok nmX0 jw_u_0 h.1 h.2.1 rfl (by decide) jw_f_RX0_53 rfl (by decide +kernel) rfl rfl dX0_closeEnd_19 (by omega) ?_
    refine jm_aload_n C dX0_closeEnd_22 rfl ?_
    refine jm_iconst C dX0_closeEnd_23 ?_
    refine jm_put (ci := 0) (f := 12) (ty := .int) 12 rfl C rfl tyX0 tyX0_ok nmX0 jw_u_0 h.1 h.2.1 rfl (by decide) jw_f_RX0_25 rfl (by decide +kernel) rfl rfl dX0_closeEnd_24 (by decide) ?_
    refine jm_goto 49 C dX0_closeEnd_27 rfl ?_
    refine jm_aload_n C dX0_closeEnd_49 rfl ?_
    refine jm_getr (ci := 0) (f := 3) C rfl jw_u_0 h.1 h.2.1 rfl (by decide) jw_f_RX0_12 dX0_closeEnd_50 ?_
    refine jm_cVu (n := 0) (ci := 3) [] C (kX3_takeAway E w (jm_up (jm_up I k 8 ((I k 8) + (hk_score (I ((k + 100) + 100))))) k 12 1) _ h.2.2) jw_m_RX0_59 okX3_takeAway rfl ⟨rfl, rfl⟩ ⟨Nat.le_of_ble_eq_true rfl, Nat.le_of_ble_eq_true rfl⟩ rfl h.2.2.1 h.2.2.2.1 rfl rfl (Nat.le_of_ble_eq_true rfl) dX0_closeEnd_53 ⟨Nat.le_of_ble_eq_true rfl, Nat.le_of_ble_eq_true rfl⟩ ?_
    refine jm_aload_n C dX0_closeEnd_56 rfl ?_
    refine jm_iconst C dX0_closeEnd_57 ?_
    refine jm_put (ci := 0) (f := 11) (ty := .int) 11 rfl C rfl tyX0 tyX0_ok nmX0 jw_u_0 h.1 h.2.1 rfl (by decide) jw_f_RX0_40 rfl (by decide +kernel) rfl rfl dX0_closeEnd_58 (by decide) ?_
    refine jm_aload_n C dX0_closeEnd_61 rfl ?_
    refine jm_dup C dX0_closeEnd_62 rfl ?_
    refine jm_getv (ci := 0) (f := 10) (I k 10) 10 rfl (by simp [jm_up, hk_fill, hkk]) C rfl jw_u_0 h.1 h.2.1 rfl (by decide) jw_f_RX0_62 dX0_closeEnd_63 (fun yr15 => ?_)
    refine jm_iconst C dX0_closeEnd_66 ?_
    refine jm_iadd C dX0_closeEnd_67 ?_
    refine jm_put (ci := 0) (f := 10) (ty := .int) 10 rfl C rfl tyX0 tyX0_ok nmX0 jw_u_0 h.1 h.2.1 rfl (by decide) jw_f_RX0_62 rfl (by decide +kernel) rfl rfl dX0_closeEnd_68 (by omega) ?_
    exact hR _ _ _ dX0_closeEnd_71 (by unfold hk_close; dsimp only; first | rw [if_pos (by omega)] | rw [if_neg (by omega), if_pos (by omega)] | rw [if_neg (by omega), if_neg (by omega)])
set_option maxRecDepth 100000 in
set_option maxHeartbeats 4000000 in
theorem kX2_aim (E : jm_E) (w : jm_W) (I : jm_M) (k : Int) (h : jm_X2 E w k) (ln wt tn lo hi : Int) (h1 : jm_R ln) (h2 : 0 ≤ wt ∧ wt ≤ 1000) (h3 : jm_R tn) (h4 : jm_R lo) (h5 : jm_R hi) : jm_Mv E yX2_aim wX2_aim rmX2_aim 0 0 w I [.ref (w.2.1 k), jm_v ln, jm_v wt, jm_v tn, jm_v lo, jm_v hi] (fun I' => I' = jm_up (jm_up (jm_up (jm_up (jm_up (jm_up I k 2 ln) k 3 0) k 4 (10 * wt)) k 5 tn) k 6 lo) k 7 hi) := by
  refine jm_in_v (cc := cX2_aim) (maxL := 6) RX2 (by decide +kernel) rfl rfl (Nat.le_of_ble_eq_true rfl) (by simp [Value.category]) ?_
  intro G C hR hI
  refine jm_aload_n C dX2_aim_0 rfl ?_
  refine jm_iload_n C dX2_aim_1 rfl ?_
  refine jm_put (ci := 2) (f := 2) (ty := .int) 2 rfl C rfl tyX2 tyX2_ok nmX2 jw_u_2 h.1 h.2.1 rfl (by decide) jw_f_RX2_22 rfl (by decide +kernel) rfl rfl dX2_aim_2 h1 ?_
  refine jm_aload_n C dX2_aim_5 rfl ?_
  refine jm_iconst C dX2_aim_6 ?_
  refine jm_put (ci := 2) (f := 3) (ty := .int) 3 rfl C rfl tyX2 tyX2_ok nmX2 jw_u_2 h.1 h.2.1 rfl (by decide) jw_f_RX2_25 rfl (by decide +kernel) rfl rfl dX2_aim_7 (by decide) ?_
  refine jm_aload_n C dX2_aim_10 rfl ?_
  refine jm_bipush C dX2_aim_11 (by decide +kernel) ?_
  refine jm_iload_n C dX2_aim_13 rfl ?_
  refine jm_imul C dX2_aim_14 ?_
  refine jm_put (ci := 2) (f := 4) (ty := .int) 4 rfl C rfl tyX2 tyX2_ok nmX2 jw_u_2 h.1 h.2.1 rfl (by decide) jw_f_RX2_28 rfl (by decide +kernel) rfl rfl dX2_aim_15 (by omega) ?_
  refine jm_aload_n C dX2_aim_18 rfl ?_
  refine jm_iload_n C dX2_aim_19 rfl ?_
  refine jm_put (ci := 2) (f := 5) (ty := .int) 5 rfl C rfl tyX2 tyX2_ok nmX2 jw_u_2 h.1 h.2.1 rfl (by decide) jw_f_RX2_31 rfl (by decide +kernel) rfl rfl dX2_aim_20 h3 ?_
  refine jm_aload_n C dX2_aim_23 rfl ?_
  refine jm_iload C dX2_aim_24 rfl ?_
  refine jm_put (ci := 2) (f := 6) (ty := .int) 6 rfl C rfl tyX2 tyX2_ok nmX2 jw_u_2 h.1 h.2.1 rfl (by decide) jw_f_RX2_34 rfl (by decide +kernel) rfl rfl dX2_aim_26 h4 ?_
  refine jm_aload_n C dX2_aim_29 rfl ?_
  refine jm_iload C dX2_aim_30 rfl ?_
  refine jm_put (ci := 2) (f := 7) (ty := .int) 7 rfl C rfl tyX2 tyX2_ok nmX2 jw_u_2 h.1 h.2.1 rfl (by decide) jw_f_RX2_37 rfl (by decide +kernel) rfl rfl dX2_aim_32 h5 ?_
  exact hR _ _ _ dX2_aim_35 rfl
set_option maxRecDepth 100000 in
set_option maxHeartbeats 4000000 in
theorem kX2_aimPushed (E : jm_E) (w : jm_W) (I : jm_M) (k : Int) (h : jm_X2 E w k) (p : Int) (hp : 0 ≤ p ∧ p ≤ 10000) : jm_Mv E yX2_aimPushed wX2_aimPushed rmX2_aimPushed 0 0 w I [.ref (w.2.1 k), jm_v p] (fun I' => I' = jm_up (jm_up (jm_up (jm_up (jm_up I k 2 (p.tdiv 100)) k 3 (p.tmod 100)) k 5 0) k 6 1) k 7 0) := by
  refine jm_in_v (cc := cX2_aimPushed) (maxL := 2) RX2 (by decide +kernel) rfl rfl (Nat.le_of_ble_eq_true rfl) (by simp [Value.category]) ?_
  intro G C hR hI
  obtain ⟨hd1, hd2⟩ := hk_div p hp.1
  refine jm_aload_n C dX2_aimPushed_0 rfl ?_
  refine jm_iload_n C dX2_aimPushed_1 rfl ?_
  refine jm_bipush C dX2_aimPushed_2 (by decide +kernel) ?_
  refine jm_idiv C dX2_aimPushed_4 (by omega) (by decide) (by decide) ?_
  refine jm_put (ci := 2) (f := 2) (ty := .int) 2 rfl C rfl tyX2 tyX2_ok nmX2 jw_u_2 h.1 h.2.1 rfl (by decide) jw_f_RX2_22 rfl (by decide +kernel) rfl rfl dX2_aimPushed_5 (by omega) ?_
  refine jm_aload_n C dX2_aimPushed_8 rfl ?_
  refine jm_iload_n C dX2_aimPushed_9 rfl ?_
  refine jm_bipush C dX2_aimPushed_10 (by decide +kernel) ?_
  refine jm_irem C dX2_aimPushed_12 (by omega) (by decide) (by decide) ?_
  refine jm_put (ci := 2) (f := 3) (ty := .int) 3 rfl C rfl tyX2 tyX2_ok nmX2 jw_u_2 h.1 h.2.1 rfl (by decide) jw_f_RX2_25 rfl (by decide +kernel) rfl rfl dX2_aimPushed_13 (by omega) ?_
  refine jm_aload_n C dX2_aimPushed_16 rfl ?_
  refine jm_iconst C dX2_aimPushed_17 ?_
  refine jm_put (ci := 2) (f := 5) (ty := .int) 5 rfl C rfl tyX2 tyX2_ok nmX2 jw_u_2 h.1 h.2.1 rfl (by decide) jw_f_RX2_31 rfl (by decide +kernel) rfl rfl dX2_aimPushed_18 (by decide) ?_
  refine jm_aload_n C dX2_aimPushed_21 rfl ?_
  refine jm_iconst C dX2_aimPushed_22 ?_
  refine jm_put (ci := 2) (f := 6) (ty := .int) 6 rfl C rfl tyX2 tyX2_ok nmX2 jw_u_2 h.1 h.2.1 rfl (by decide) jw_f_RX2_34 rfl (by decide +kernel) rfl rfl dX2_aimPushed_23 (by decide) ?_
  refine jm_aload_n C dX2_aimPushed_26 rfl ?_
  refine jm_iconst C dX2_aimPushed_27 ?_
  refine jm_put (ci := 2) (f := 7) (ty := .int) 7 rfl C rfl tyX2 tyX2_ok nmX2 jw_u_2 h.1 h.2.1 rfl (by decide) jw_f_RX2_37 rfl (by decide +kernel) rfl rfl dX2_aimPushed_28 (by decide) ?_
  exact hR _ _ _ dX2_aimPushed_31 rfl
set_option maxRecDepth 100000 in
set_option maxHeartbeats 4000000 in
theorem kX2_isSwept (E : jm_E) (w : jm_W) (I : jm_M) (k : Int) (h : jm_X2 E w k) (y : Int) (hy : jm_R y) : jm_Mi E yX2_isSwept wX2_isSwept rmX2_isSwept 0 0 w I [.ref (w.2.1 k), jm_v y] (fun I' z => I' = I ∧ ((I k 6 ≤ y ∧ y ≤ I k 7 ∧ z = 1) ∨ (¬ (I k 6 ≤ y ∧ y ≤ I k 7) ∧ z = 0))) := by
  refine jm_in_i (cc := cX2_isSwept) (maxL := 2) (rt := .boolean) RX2 (by decide +kernel) rfl rfl (Nat.le_of_ble_eq_true rfl) (by simp [Value.category]) ?_
  intro G C hR hI
  refine jm_iload_n C dX2_isSwept_0 rfl ?_
  refine jm_aload_n C dX2_isSwept_1 rfl ?_
  refine jm_get (ci := 2) (f := 6) 6 rfl C rfl jw_u_2 h.1 h.2.1 rfl (by decide) jw_f_RX2_34 dX2_isSwept_2 (fun yr1 => ?_)
  refine jm_icmp_lt 20 C dX2_isSwept_5 rfl hy (by omega) (fun yc2 => ?_) (fun yc2 => ?_)
  · skip
    refine jm_iconst C dX2_isSwept_20 ?_
    exact hR _ _ _ _ dX2_isSwept_21 (jm_nz (by omega)) ⟨rfl, by omega⟩
  · skip
    refine jm_iload_n C dX2_isSwept_8 rfl ?_
    refine jm_aload_n C dX2_isSwept_9 rfl ?_
    refine jm_get (ci := 2) (f := 7) 7 rfl C rfl jw_u_2 h.1 h.2.1 rfl (by decide) jw_f_RX2_37 dX2_isSwept_10 (fun yr3 => ?_)
    refine jm_icmp_gt 20 C dX2_isSwept_13 rfl hy (by omega) (fun yc4 => ?_) (fun yc4 => ?_)
    · skip
      refine jm_iconst C dX2_isSwept_20 ?_
      exact hR _ _ _ _ dX2_isSwept_21 (jm_nz (by omega)) ⟨rfl, by omega⟩
    · skip
      refine jm_iconst C dX2_isSwept_16 ?_
      refine jm_goto 21 C dX2_isSwept_17 rfl ?_
      exact hR _ _ _ _ dX2_isSwept_21 (jm_nz (by omega)) ⟨rfl, by omega⟩
set_option maxRecDepth 100000 in
set_option maxHeartbeats 4000000 in
theorem kX2_restingPlace (E : jm_E) (w : jm_W) (I : jm_M) (k : Int) (h : jm_X2 E w k) (h2 : 0 ≤ I k 2 ∧ I k 2 ≤ 8) (h3 : 0 ≤ I k 3 ∧ I k 3 ≤ 60) : jm_Mi E yX2_restingPlace wX2_restingPlace rmX2_restingPlace 0 0 w I [.ref (w.2.1 k)] (fun I' z => I' = I ∧ z = hk_rest (I k 2) (I k 3)) := by
  refine jm_in_i (cc := cX2_restingPlace) (maxL := 1) (rt := .int) RX2 (by decide +kernel) rfl rfl (Nat.le_of_ble_eq_true rfl) (by simp [Value.category]) ?_
  intro G C hR hI
  refine jm_aload_n C dX2_restingPlace_0 rfl ?_
  refine jm_get (ci := 2) (f := 3) 3 rfl C rfl jw_u_2 h.1 h.2.1 rfl (by decide) jw_f_RX2_25 dX2_restingPlace_1 (fun yr1 => ?_)
  refine jm_bipush C dX2_restingPlace_4 (by decide +kernel) ?_
  refine jm_icmp_ge 13 C dX2_restingPlace_6 rfl (by omega) (by decide) (fun yc2 => ?_) (fun yc2 => ?_)
  · skip
    refine jm_bipush C dX2_restingPlace_13 (by decide +kernel) ?_
    refine jm_aload_n C dX2_restingPlace_15 rfl ?_
    refine jm_get (ci := 2) (f := 2) 2 rfl C rfl jw_u_2 h.1 h.2.1 rfl (by decide) jw_f_RX2_22 dX2_restingPlace_16 (fun yr3 => ?_)
    refine jm_imul C dX2_restingPlace_19 ?_
    refine jm_aload_n C dX2_restingPlace_20 rfl ?_
    refine jm_get (ci := 2) (f := 3) 3 rfl C rfl jw_u_2 h.1 h.2.1 rfl (by decide) jw_f_RX2_25 dX2_restingPlace_21 (fun yr4 => ?_)
    refine jm_iadd C dX2_restingPlace_24 ?_
    exact hR _ _ _ _ dX2_restingPlace_25 rfl ⟨rfl, by unfold hk_rest; first | rw [if_pos (by omega)] | rw [if_neg (by omega)]⟩
  · skip
    refine jm_iconst C dX2_restingPlace_9 ?_
    refine jm_goto 25 C dX2_restingPlace_10 rfl ?_
    exact hR _ _ _ _ dX2_restingPlace_25 rfl ⟨rfl, by unfold hk_rest; first | rw [if_pos (by omega)] | rw [if_neg (by omega)]⟩
set_option maxRecDepth 100000 in
set_option maxHeartbeats 4000000 in
theorem kX2_mustMoveAside (E : jm_E) (w : jm_W) (I : jm_M) (k : Int) (h : jm_X2 E w k) (ln y en sp ht : Int) (hy : 0 ≤ y ∧ y ≤ 60) (hsp : 0 ≤ sp ∧ sp ≤ 1000) (hen : jm_R en) : jm_Mi E yX2_mustMoveAside wX2_mustMoveAside rmX2_mustMoveAside 0 0 w (hk_sl I k ln y en sp ht) [.ref (w.2.1 k)] (fun I' z => (I k 5 = 0 ∧ z = 0 ∧ I' = hk_sl I k ln y en sp ht) ∨ (I k 6 ≤ y ∧ y ≤ I k 7 ∧ z = 0 ∧ I' = hk_sl I k ln y en sp ht) ∨ (I k 5 ≠ 0 ∧ ¬ (I k 6 ≤ y ∧ y ≤ I k 7) ∧ (12 ≤ sp + 1 ∨ (en < 300 ∧ 6 ≤ sp + 1)) ∧ z = 1 ∧ I' = hk_sl I k ln y en (sp + 1) ht) ∨ (I k 5 ≠ 0 ∧ ¬ (I k 6 ≤ y ∧ y ≤ I k 7) ∧ ¬ (12 ≤ sp + 1 ∨ (en < 300 ∧ 6 ≤ sp + 1)) ∧ z = 0 ∧ I' = hk_sl I k ln y en (sp + 1) ht)) := by
  refine jm_in_i (cc := cX2_mustMoveAside) (maxL := 1) (rt := .boolean) RX2 (by decide +kernel) rfl rfl (Nat.le_of_ble_eq_true rfl) (by simp [Value.category]) ?_
  intro G C hR hI
  refine jm_aload_n C dX2_mustMoveAside_0 rfl ?_
  refine jm_getv (ci := 2) (f := 5) (I k 5) 5 rfl (hk_sl_gk _ _ _ _ _ _ _ _ (by decide)) C rfl jw_u_2 h.1 h.2.1 rfl (by decide) jw_f_RX2_31 dX2_mustMoveAside_1 (fun yr1 => ?_)
  refine jm_if_eq 18 C dX2_mustMoveAside_4 rfl (by omega) (fun yc2 => ?_) (fun yc2 => ?_)
  · skip
    refine jm_iconst C dX2_mustMoveAside_18 ?_
    exact hR _ _ _ _ dX2_mustMoveAside_19 (jm_nz (by decide)) (by first | exact Or.inl ⟨by omega, rfl, rfl⟩ | exact Or.inr (Or.inl ⟨by omega, by omega, rfl, rfl⟩) | exact Or.inr (Or.inr (Or.inl ⟨by omega, by omega, by omega, rfl, rfl⟩)) | exact Or.inr (Or.inr (Or.inr ⟨by omega, by omega, by omega, rfl, rfl⟩)))
  · skip
    refine jm_aload_n C dX2_mustMoveAside_7 rfl ?_
    refine jm_aload_n C dX2_mustMoveAside_8 rfl ?_
    refine jm_getv (ci := 2) (f := 3) y 3 rfl (hk_sl_g3 _ _ _ _ _ _ _) C rfl jw_u_2 h.1 h.2.1 rfl (by decide) jw_f_RX2_25 dX2_mustMoveAside_9 (fun yr3 => ?_)
    refine jm_cVd (n := 1) (ci := 2) [] C (kX2_isSwept E w (hk_sl I k ln y en sp ht) _ h _ (by omega)) jw_m_RX2_92 okX2_isSwept rfl ⟨rfl, rfl⟩ ⟨Nat.le_of_ble_eq_true rfl, Nat.le_of_ble_eq_true rfl⟩ rfl h.1 h.2.1 rfl rfl (Nat.le_of_ble_eq_true rfl) dX2_mustMoveAside_12 ⟨Nat.le_of_ble_eq_true rfl, Nat.le_of_ble_eq_true rfl⟩ (fun yz5 yh4 => ?_)
    rw [hk_sl_gk _ _ _ _ _ _ _ _ (by decide), hk_sl_gk _ _ _ _ _ _ _ _ (by decide)] at yh4
    refine jm_if_eq 20 C dX2_mustMoveAside_15 rfl (by omega) (fun yc6 => ?_) (fun yc6 => ?_)
    · skip
      refine jm_aload_n C dX2_mustMoveAside_20 rfl ?_
      refine jm_dup C dX2_mustMoveAside_21 rfl ?_
      refine jm_getv (ci := 2) (f := 8) sp 8 rfl (hk_sl_g8 _ _ _ _ _ _ _) C rfl jw_u_2 h.1 h.2.1 rfl (by decide) jw_f_RX2_64 dX2_mustMoveAside_22 (fun yr7 => ?_)
      refine jm_iconst C dX2_mustMoveAside_25 ?_
      refine jm_iadd C dX2_mustMoveAside_26 ?_
      refine jm_put (ci := 2) (f := 8) (ty := .int) 8 rfl C rfl tyX2 tyX2_ok nmX2 jw_u_2 h.1 h.2.1 rfl (by decide) jw_f_RX2_64 rfl (by decide +kernel) rfl rfl dX2_mustMoveAside_27 (by omega) ?_
      rw [hk_sl_u8]
      refine jm_aload_n C dX2_mustMoveAside_30 rfl ?_
      refine jm_getv (ci := 2) (f := 8) (sp + 1) 8 rfl (hk_sl_g8 _ _ _ _ _ _ _) C rfl jw_u_2 h.1 h.2.1 rfl (by decide) jw_f_RX2_64 dX2_mustMoveAside_31 (fun yr8 => ?_)
      refine jm_bipush C dX2_mustMoveAside_34 (by decide +kernel) ?_
      refine jm_icmp_ge 58 C dX2_mustMoveAside_36 rfl (by omega) (by decide) (fun yc9 => ?_) (fun yc9 => ?_)
      · skip
        refine jm_iconst C dX2_mustMoveAside_58 ?_
        refine jm_goto 63 C dX2_mustMoveAside_59 rfl ?_
        exact hR _ _ _ _ dX2_mustMoveAside_63 (jm_nz (by decide)) (by first | exact Or.inl ⟨by omega, rfl, rfl⟩ | exact Or.inr (Or.inl ⟨by omega, by omega, rfl, rfl⟩) | exact Or.inr (Or.inr (Or.inl ⟨by omega, by omega, by omega, rfl, rfl⟩)) | exact Or.inr (Or.inr (Or.inr ⟨by omega, by omega, by omega, rfl, rfl⟩)))
      · skip
        refine jm_aload_n C dX2_mustMoveAside_39 rfl ?_
        refine jm_getv (ci := 2) (f := 4) en 4 rfl (hk_sl_g4 _ _ _ _ _ _ _) C rfl jw_u_2 h.1 h.2.1 rfl (by decide) jw_f_RX2_28 dX2_mustMoveAside_40 (fun yr10 => ?_)
        refine jm_sipush C dX2_mustMoveAside_43 (by decide +kernel) ?_
        refine jm_icmp_ge 62 C dX2_mustMoveAside_46 rfl (by omega) (by decide) (fun yc11 => ?_) (fun yc11 => ?_)
        · skip
          refine jm_iconst C dX2_mustMoveAside_62 ?_
          exact hR _ _ _ _ dX2_mustMoveAside_63 (jm_nz (by decide)) (by first | exact Or.inl ⟨by omega, rfl, rfl⟩ | exact Or.inr (Or.inl ⟨by omega, by omega, rfl, rfl⟩) | exact Or.inr (Or.inr (Or.inl ⟨by omega, by omega, by omega, rfl, rfl⟩)) | exact Or.inr (Or.inr (Or.inr ⟨by omega, by omega, by omega, rfl, rfl⟩)))
        · skip
          refine jm_aload_n C dX2_mustMoveAside_49 rfl ?_
          refine jm_getv (ci := 2) (f := 8) (sp + 1) 8 rfl (hk_sl_g8 _ _ _ _ _ _ _) C rfl jw_u_2 h.1 h.2.1 rfl (by decide) jw_f_RX2_64 dX2_mustMoveAside_50 (fun yr12 => ?_)
          refine jm_bipush C dX2_mustMoveAside_53 (by decide +kernel) ?_
          refine jm_icmp_lt 62 C dX2_mustMoveAside_55 rfl (by omega) (by decide) (fun yc13 => ?_) (fun yc13 => ?_)
          · skip
            refine jm_iconst C dX2_mustMoveAside_62 ?_
            exact hR _ _ _ _ dX2_mustMoveAside_63 (jm_nz (by decide)) (by first | exact Or.inl ⟨by omega, rfl, rfl⟩ | exact Or.inr (Or.inl ⟨by omega, by omega, rfl, rfl⟩) | exact Or.inr (Or.inr (Or.inl ⟨by omega, by omega, by omega, rfl, rfl⟩)) | exact Or.inr (Or.inr (Or.inr ⟨by omega, by omega, by omega, rfl, rfl⟩)))
          · skip
            refine jm_iconst C dX2_mustMoveAside_58 ?_
            refine jm_goto 63 C dX2_mustMoveAside_59 rfl ?_
            exact hR _ _ _ _ dX2_mustMoveAside_63 (jm_nz (by decide)) (by first | exact Or.inl ⟨by omega, rfl, rfl⟩ | exact Or.inr (Or.inl ⟨by omega, by omega, rfl, rfl⟩) | exact Or.inr (Or.inr (Or.inl ⟨by omega, by omega, by omega, rfl, rfl⟩)) | exact Or.inr (Or.inr (Or.inr ⟨by omega, by omega, by omega, rfl, rfl⟩)))
    · skip
      refine jm_iconst C dX2_mustMoveAside_18 ?_
      exact hR _ _ _ _ dX2_mustMoveAside_19 (jm_nz (by decide)) (by first | exact Or.inl ⟨by omega, rfl, rfl⟩ | exact Or.inr (Or.inl ⟨by omega, by omega, rfl, rfl⟩) | exact Or.inr (Or.inr (Or.inl ⟨by omega, by omega, by omega, rfl, rfl⟩)) | exact Or.inr (Or.inr (Or.inr ⟨by omega, by omega, by omega, rfl, rfl⟩)))
set_option maxRecDepth 100000 in
set_option maxHeartbeats 4000000 in
theorem kX2_movesAside (E : jm_E) (w : jm_W) (I : jm_M) (k : Int) (h : jm_X2 E w k) (ln y en sp ht : Int) (hl : 0 ≤ ln + I k 5 ∧ ln + I k 5 ≤ 8) (hl2 : 0 ≤ ln ∧ ln ≤ 8) (hy : 0 ≤ y ∧ y ≤ 60) (hen : 0 ≤ en ∧ en ≤ 100000) : jm_Mi E yX2_movesAside wX2_movesAside rmX2_movesAside 0 0 w (hk_sl I k ln y en sp ht) [.ref (w.2.1 k)] (fun I' z => (hk_lie (I (k + 100 + 100)) (ln + I k 5) y ≠ -1 ∧ z = 0 ∧ I' = hk_sl I k ln y (en.tdiv 2) sp (hk_lie (I (k + 100 + 100)) (ln + I k 5) y)) ∨ (hk_lie (I (k + 100 + 100)) (ln + I k 5) y = -1 ∧ z = 1 ∧ I' = hk_sl I k (ln + I k 5) y en 0 (-1))) := by
  refine jm_in_i (cc := cX2_movesAside) (maxL := 1) (rt := .boolean) RX2 (by decide +kernel) rfl rfl (Nat.le_of_ble_eq_true rfl) (by simp [Value.category]) ?_
  intro G C hR hI
  have hn200 : k + 100 + 100 ≠ k := by omega
  have hte : en.tdiv 2 = en / 2 := Int.tdiv_eq_ediv_of_nonneg hen.1
  refine jm_aload_n C dX2_movesAside_0 rfl ?_
  refine jm_aload_n C dX2_movesAside_1 rfl ?_
  refine jm_getr (ci := 2) (f := 0) C rfl jw_u_2 h.1 h.2.1 rfl (by decide) jw_f_RX2_12 dX2_movesAside_2 ?_
  refine jm_aload_n C dX2_movesAside_5 rfl ?_
  refine jm_getv (ci := 2) (f := 2) ln 2 rfl (hk_sl_g2 _ _ _ _ _ _ _) C rfl jw_u_2 h.1 h.2.1 rfl (by decide) jw_f_RX2_22 dX2_movesAside_6 (fun yr1 => ?_)
  refine jm_aload_n C dX2_movesAside_9 rfl ?_
  refine jm_getv (ci := 2) (f := 5) (I k 5) 5 rfl (hk_sl_gk _ _ _ _ _ _ _ _ (by decide)) C rfl jw_u_2 h.1 h.2.1 rfl (by decide) jw_f_RX2_31 dX2_movesAside_10 (fun yr2 => ?_)
  refine jm_iadd C dX2_movesAside_13 ?_
  refine jm_aload_n C dX2_movesAside_14 rfl ?_
  refine jm_getv (ci := 2) (f := 3) y 3 rfl (hk_sl_g3 _ _ _ _ _ _ _) C rfl jw_u_2 h.1 h.2.1 rfl (by decide) jw_f_RX2_25 dX2_movesAside_15 (fun yr3 => ?_)
  refine jm_cVd (n := 2) (ci := 3) [.ref (w.2.1 k)] C (kX3_lyingAt E w (hk_sl I k ln y en sp ht) _ h.2.2 _ _ (by omega) (by omega)) jw_m_RX2_96 okX3_lyingAt rfl ⟨rfl, rfl⟩ ⟨Nat.le_of_ble_eq_true rfl, Nat.le_of_ble_eq_true rfl⟩ rfl h.2.2.1 h.2.2.2.1 rfl rfl (Nat.le_of_ble_eq_true rfl) dX2_movesAside_18 ⟨Nat.le_of_ble_eq_true rfl, Nat.le_of_ble_eq_true rfl⟩ (fun yz5 yh4 => ?_)
  subst yh4
  rw [hk_sl_f _ _ _ _ _ _ _ hn200]
  have yh4r := hk_lie_r (I (k + 100 + 100)) (ln + (I k 5)) y
  refine jm_put (ci := 2) (f := 9) (ty := .int) 9 rfl C rfl tyX2 tyX2_ok nmX2 jw_u_2 h.1 h.2.1 rfl (by decide) jw_f_RX2_18 rfl (by decide +kernel) rfl rfl dX2_movesAside_21 (by omega) ?_
  rw [hk_sl_u9]
  refine jm_aload_n C dX2_movesAside_24 rfl ?_
  refine jm_getv (ci := 2) (f := 9) (hk_lie (I (k + 100 + 100)) (ln + (I k 5)) y) 9 rfl (hk_sl_g9 _ _ _ _ _ _ _) C rfl jw_u_2 h.1 h.2.1 rfl (by decide) jw_f_RX2_18 dX2_movesAside_25 (fun yr6 => ?_)
  refine jm_iconst C dX2_movesAside_28 ?_
  refine jm_icmp_eq 44 C dX2_movesAside_29 rfl (by omega) (by decide) (fun yc7 => ?_) (fun yc7 => ?_)
  · skip
    refine jm_aload_n C dX2_movesAside_44 rfl ?_
    refine jm_dup C dX2_movesAside_45 rfl ?_
    refine jm_getv (ci := 2) (f := 2) ln 2 rfl (hk_sl_g2 _ _ _ _ _ _ _) C rfl jw_u_2 h.1 h.2.1 rfl (by decide) jw_f_RX2_22 dX2_movesAside_46 (fun yr8 => ?_)
    refine jm_aload_n C dX2_movesAside_49 rfl ?_
    refine jm_getv (ci := 2) (f := 5) (I k 5) 5 rfl (hk_sl_gk _ _ _ _ _ _ _ _ (by decide)) C rfl jw_u_2 h.1 h.2.1 rfl (by decide) jw_f_RX2_31 dX2_movesAside_50 (fun yr9 => ?_)
    refine jm_iadd C dX2_movesAside_53 ?_
    refine jm_put (ci := 2) (f := 2) (ty := .int) 2 rfl C rfl tyX2 tyX2_ok nmX2 jw_u_2 h.1 h.2.1 rfl (by decide) jw_f_RX2_22 rfl (by decide +kernel) rfl rfl dX2_movesAside_54 (by omega) ?_
    rw [hk_sl_u2]
    refine jm_aload_n C dX2_movesAside_57 rfl ?_
    refine jm_iconst C dX2_movesAside_58 ?_
    refine jm_put (ci := 2) (f := 8) (ty := .int) 8 rfl C rfl tyX2 tyX2_ok nmX2 jw_u_2 h.1 h.2.1 rfl (by decide) jw_f_RX2_64 rfl (by decide +kernel) rfl rfl dX2_movesAside_59 (by decide) ?_
    rw [hk_sl_u8]
    refine jm_iconst C dX2_movesAside_62 ?_
    exact hR _ _ _ _ dX2_movesAside_63 (jm_nz (by decide)) (by first | exact Or.inl ⟨by omega, rfl, rfl⟩ | exact Or.inr ⟨by omega, rfl, by rw [show hk_lie (I (k + 100 + 100)) (ln + I k 5) y = -1 by omega]⟩)
  · skip
    refine jm_aload_n C dX2_movesAside_32 rfl ?_
    refine jm_dup C dX2_movesAside_33 rfl ?_
    refine jm_getv (ci := 2) (f := 4) en 4 rfl (hk_sl_g4 _ _ _ _ _ _ _) C rfl jw_u_2 h.1 h.2.1 rfl (by decide) jw_f_RX2_28 dX2_movesAside_34 (fun yr10 => ?_)
    refine jm_iconst C dX2_movesAside_37 ?_
    refine jm_idiv C dX2_movesAside_38 (by omega) (by decide) (by decide) ?_
    refine jm_put (ci := 2) (f := 4) (ty := .int) 4 rfl C rfl tyX2 tyX2_ok nmX2 jw_u_2 h.1 h.2.1 rfl (by decide) jw_f_RX2_28 rfl (by decide +kernel) rfl rfl dX2_movesAside_39 (by omega) ?_
    rw [hk_sl_u4]
    refine jm_iconst C dX2_movesAside_42 ?_
    exact hR _ _ _ _ dX2_movesAside_43 (jm_nz (by decide)) (by first | exact Or.inl ⟨by omega, rfl, rfl⟩ | exact Or.inr ⟨by omega, rfl, by rw [show hk_lie (I (k + 100 + 100)) (ln + I k 5) y = -1 by omega]⟩)
set_option maxRecDepth 100000 in
set_option maxHeartbeats 4000000 in
theorem kX2_stepsForward (E : jm_E) (w : jm_W) (I : jm_M) (k : Int) (h : jm_X2 E w k) (ks : Int) (hs : jm_X1 E w ks) (hne : ks ≠ k) (hnw : ks + 100 ≠ k) (ln y en sp ht : Int) (hl : 0 ≤ ln ∧ ln ≤ 8) (hy : 0 ≤ y ∧ y ≤ 59) (hen : 0 ≤ en ∧ en ≤ 100000) (hw : ∀ c, 0 ≤ I (ks + 100) c ∧ I (ks + 100) c ≤ 9) : jm_Mi E yX2_stepsForward wX2_stepsForward rmX2_stepsForward 0 0 w (hk_sl I k ln y en sp ht) [.ref (w.2.1 k), .ref (w.2.1 ks)] (fun I' z => (en < hk_cst (I (ks + 100)) (I k 6) (I k 7) ln (y + 1) ∧ z = 0 ∧ I' = hk_sl I k ln y en sp ht) ∨ (¬ en < hk_cst (I (ks + 100)) (I k 6) (I k 7) ln (y + 1) ∧ hk_lie (I (k + 100 + 100)) ln (y + 1) ≠ -1 ∧ z = 0 ∧ I' = hk_sl I k ln y ((en * 3).tdiv 4) sp (hk_lie (I (k + 100 + 100)) ln (y + 1))) ∨ (¬ en < hk_cst (I (ks + 100)) (I k 6) (I k 7) ln (y + 1) ∧ hk_lie (I (k + 100 + 100)) ln (y + 1) = -1 ∧ z = 1 ∧ I' = hk_sl (hk_wr I k ks (ln * 61 + (y + 1))) k ln (y + 1) (en - hk_cst (I (ks + 100)) (I k 6) (I k 7) ln (y + 1)) sp (-1))) := by
  refine jm_in_i (cc := cX2_stepsForward) (maxL := 4) (rt := .boolean) RX2 (by decide +kernel) rfl rfl (Nat.le_of_ble_eq_true rfl) (by simp [Value.category]) ?_
  intro G C hR hI
  have hn200 : k + 100 + 100 ≠ k := by omega
  refine jm_aload_n C dX2_stepsForward_0 rfl ?_
  refine jm_getv (ci := 2) (f := 3) y 3 rfl (hk_sl_g3 _ _ _ _ _ _ _) C rfl jw_u_2 h.1 h.2.1 rfl (by decide) jw_f_RX2_25 dX2_stepsForward_1 (fun yr1 => ?_)
  refine jm_iconst C dX2_stepsForward_4 ?_
  refine jm_iadd C dX2_stepsForward_5 ?_
  refine jm_istore_n C dX2_stepsForward_6 (by decide) ?_
  refine jm_bipush C dX2_stepsForward_7 (by decide +kernel) ?_
  refine jm_aload_n C dX2_stepsForward_9 rfl ?_
  refine jm_aload_n C dX2_stepsForward_10 rfl ?_
  refine jm_getv (ci := 2) (f := 2) ln 2 rfl (hk_sl_g2 _ _ _ _ _ _ _) C rfl jw_u_2 h.1 h.2.1 rfl (by decide) jw_f_RX2_22 dX2_stepsForward_11 (fun yr2 => ?_)
  refine jm_iload_n C dX2_stepsForward_14 rfl ?_
  refine jm_cVd (n := 2) (ci := 1) [jm_v 10] C (kX1_wornAt E w (hk_sl I k ln y en sp ht) _ hs _ _ (by omega) (by omega)) jw_m_RX2_86 okX1_wornAt rfl ⟨rfl, rfl⟩ ⟨Nat.le_of_ble_eq_true rfl, Nat.le_of_ble_eq_true rfl⟩ rfl hs.1 hs.2.1 rfl rfl (Nat.le_of_ble_eq_true rfl) dX2_stepsForward_15 ⟨Nat.le_of_ble_eq_true rfl, Nat.le_of_ble_eq_true rfl⟩ (fun yz4 yh3 => ?_)
  subst yh3
  rw [hk_sl_f _ _ _ _ _ _ _ hnw]
  have yh3r := hw (ln * 61 + (y + 1))
  refine jm_iadd C dX2_stepsForward_18 ?_
  refine jm_aload_n C dX2_stepsForward_19 rfl ?_
  refine jm_iload_n C dX2_stepsForward_20 rfl ?_
  refine jm_cVd (n := 1) (ci := 2) [jm_v (10 + (I (ks + 100) (ln * 61 + (y + 1))))] C (kX2_isSwept E w (hk_sl I k ln y en sp ht) _ h _ (by omega)) jw_m_RX2_92 okX2_isSwept rfl ⟨rfl, rfl⟩ ⟨Nat.le_of_ble_eq_true rfl, Nat.le_of_ble_eq_true rfl⟩ rfl h.1 h.2.1 rfl rfl (Nat.le_of_ble_eq_true rfl) dX2_stepsForward_21 ⟨Nat.le_of_ble_eq_true rfl, Nat.le_of_ble_eq_true rfl⟩ (fun yz6 yh5 => ?_)
  rw [hk_sl_gk _ _ _ _ _ _ _ _ (by decide), hk_sl_gk _ _ _ _ _ _ _ _ (by decide)] at yh5
  refine jm_if_eq 31 C dX2_stepsForward_24 rfl (by omega) (fun yc7 => ?_) (fun yc7 => ?_)
  · skip
    have hcst : hk_cst (I (ks + 100)) (I k 6) (I k 7) ln (y + 1) = 10 + I (ks + 100) (ln * 61 + (y + 1)) - 0 := by unfold hk_cst; rw [if_neg (by omega)]
    refine jm_iconst C dX2_stepsForward_31 ?_
    refine jm_isub C dX2_stepsForward_32 ?_
    refine jm_istore_n C dX2_stepsForward_33 (by decide) ?_
    refine jm_aload_n C dX2_stepsForward_34 rfl ?_
    refine jm_getv (ci := 2) (f := 4) en 4 rfl (hk_sl_g4 _ _ _ _ _ _ _) C rfl jw_u_2 h.1 h.2.1 rfl (by decide) jw_f_RX2_28 dX2_stepsForward_35 (fun yr8 => ?_)
    refine jm_iload_n C dX2_stepsForward_38 rfl ?_
    refine jm_icmp_ge 44 C dX2_stepsForward_39 rfl (by omega) (by omega) (fun yc9 => ?_) (fun yc9 => ?_)
    · skip
      refine jm_aload_n C dX2_stepsForward_44 rfl ?_
      refine jm_aload_n C dX2_stepsForward_45 rfl ?_
      refine jm_getr (ci := 2) (f := 0) C rfl jw_u_2 h.1 h.2.1 rfl (by decide) jw_f_RX2_12 dX2_stepsForward_46 ?_
      refine jm_aload_n C dX2_stepsForward_49 rfl ?_
      refine jm_getv (ci := 2) (f := 2) ln 2 rfl (hk_sl_g2 _ _ _ _ _ _ _) C rfl jw_u_2 h.1 h.2.1 rfl (by decide) jw_f_RX2_22 dX2_stepsForward_50 (fun yr10 => ?_)
      refine jm_iload_n C dX2_stepsForward_53 rfl ?_
      refine jm_cVd (n := 2) (ci := 3) [.ref (w.2.1 k)] C (kX3_lyingAt E w (hk_sl I k ln y en sp ht) _ h.2.2 _ _ (by omega) (by omega)) jw_m_RX2_96 okX3_lyingAt rfl ⟨rfl, rfl⟩ ⟨Nat.le_of_ble_eq_true rfl, Nat.le_of_ble_eq_true rfl⟩ rfl h.2.2.1 h.2.2.2.1 rfl rfl (Nat.le_of_ble_eq_true rfl) dX2_stepsForward_54 ⟨Nat.le_of_ble_eq_true rfl, Nat.le_of_ble_eq_true rfl⟩ (fun yz12 yh11 => ?_)
      subst yh11
      rw [hk_sl_f _ _ _ _ _ _ _ hn200]
      have yh11r := hk_lie_r (I (k + 100 + 100)) ln (y + 1)
      refine jm_put (ci := 2) (f := 9) (ty := .int) 9 rfl C rfl tyX2 tyX2_ok nmX2 jw_u_2 h.1 h.2.1 rfl (by decide) jw_f_RX2_18 rfl (by decide +kernel) rfl rfl dX2_stepsForward_57 (by omega) ?_
      rw [hk_sl_u9]
      refine jm_aload_n C dX2_stepsForward_60 rfl ?_
      refine jm_getv (ci := 2) (f := 9) (hk_lie (I (k + 100 + 100)) ln (y + 1)) 9 rfl (hk_sl_g9 _ _ _ _ _ _ _) C rfl jw_u_2 h.1 h.2.1 rfl (by decide) jw_f_RX2_18 dX2_stepsForward_61 (fun yr13 => ?_)
      refine jm_iconst C dX2_stepsForward_64 ?_
      refine jm_icmp_eq 82 C dX2_stepsForward_65 rfl (by omega) (by decide) (fun yc14 => ?_) (fun yc14 => ?_)
      · skip
        refine jm_aload_n C dX2_stepsForward_82 rfl ?_
        refine jm_iload_n C dX2_stepsForward_83 rfl ?_
        refine jm_put (ci := 2) (f := 3) (ty := .int) 3 rfl C rfl tyX2 tyX2_ok nmX2 jw_u_2 h.1 h.2.1 rfl (by decide) jw_f_RX2_25 rfl (by decide +kernel) rfl rfl dX2_stepsForward_84 (by omega) ?_
        rw [hk_sl_u3]
        refine jm_aload_n C dX2_stepsForward_87 rfl ?_
        refine jm_dup C dX2_stepsForward_88 rfl ?_
        refine jm_getv (ci := 2) (f := 4) en 4 rfl (hk_sl_g4 _ _ _ _ _ _ _) C rfl jw_u_2 h.1 h.2.1 rfl (by decide) jw_f_RX2_28 dX2_stepsForward_89 (fun yr15 => ?_)
        refine jm_iload_n C dX2_stepsForward_92 rfl ?_
        refine jm_isub C dX2_stepsForward_93 ?_
        refine jm_put (ci := 2) (f := 4) (ty := .int) 4 rfl C rfl tyX2 tyX2_ok nmX2 jw_u_2 h.1 h.2.1 rfl (by decide) jw_f_RX2_28 rfl (by decide +kernel) rfl rfl dX2_stepsForward_94 (by omega) ?_
        rw [hk_sl_u4]
        refine jm_aload_n C dX2_stepsForward_97 rfl ?_
        refine jm_getv (ci := 2) (f := 1) (I k 1) 1 rfl (hk_sl_gk _ _ _ _ _ _ _ _ (by decide)) C rfl jw_u_2 h.1 h.2.1 rfl (by decide) jw_f_RX2_44 dX2_stepsForward_98 (fun yr16 => ?_)
        refine jm_if_eq 113 C dX2_stepsForward_101 rfl (by omega) (fun yc17 => ?_) (fun yc17 => ?_)
        · skip
          refine jm_iconst C dX2_stepsForward_113 ?_
          exact hR _ _ _ _ dX2_stepsForward_114 (jm_nz (by decide)) (by first | exact Or.inl ⟨by omega, rfl, rfl⟩ | exact Or.inr (Or.inl ⟨by omega, by omega, rfl, rfl⟩) | exact Or.inr (Or.inr ⟨by omega, by omega, rfl, by rw [hcst]; first | exact hk_wr_n (by omega) (by omega) | exact hk_wr_y (by omega) hnw (by omega)⟩))
        · skip
          refine jm_aload_n C dX2_stepsForward_104 rfl ?_
          refine jm_aload_n C dX2_stepsForward_105 rfl ?_
          refine jm_getv (ci := 2) (f := 2) ln 2 rfl (hk_sl_g2 _ _ _ _ _ _ _) C rfl jw_u_2 h.1 h.2.1 rfl (by decide) jw_f_RX2_22 dX2_stepsForward_106 (fun yr18 => ?_)
          refine jm_iload_n C dX2_stepsForward_109 rfl ?_
          refine jm_cVu (n := 2) (ci := 1) [] C (kX1_wearDown E w (hk_sl I k ln (y + 1) (en - ((10 + (I (ks + 100) (ln * 61 + (y + 1)))) - 0)) sp (hk_lie (I (k + 100 + 100)) ln (y + 1))) _ hs _ _ (by omega) (by omega)) jw_m_RX2_99 okX1_wearDown rfl ⟨rfl, rfl⟩ ⟨Nat.le_of_ble_eq_true rfl, Nat.le_of_ble_eq_true rfl⟩ rfl hs.1 hs.2.1 rfl rfl (Nat.le_of_ble_eq_true rfl) dX2_stepsForward_110 ⟨Nat.le_of_ble_eq_true rfl, Nat.le_of_ble_eq_true rfl⟩ ?_
          refine jm_iconst C dX2_stepsForward_113 ?_
          exact hR _ _ _ _ dX2_stepsForward_114 (jm_nz (by decide)) (by first | exact Or.inl ⟨by omega, rfl, rfl⟩ | exact Or.inr (Or.inl ⟨by omega, by omega, rfl, rfl⟩) | exact Or.inr (Or.inr ⟨by omega, by omega, rfl, by rw [hcst]; first | exact hk_wr_n (by omega) (by omega) | exact hk_wr_y (by omega) hnw (by omega)⟩))
      · skip
        have hte : (en * 3).tdiv 4 = en * 3 / 4 := Int.tdiv_eq_ediv_of_nonneg (by omega)
        refine jm_aload_n C dX2_stepsForward_68 rfl ?_
        refine jm_aload_n C dX2_stepsForward_69 rfl ?_
        refine jm_getv (ci := 2) (f := 4) en 4 rfl (hk_sl_g4 _ _ _ _ _ _ _) C rfl jw_u_2 h.1 h.2.1 rfl (by decide) jw_f_RX2_28 dX2_stepsForward_70 (fun yr21 => ?_)
        refine jm_iconst C dX2_stepsForward_73 ?_
        refine jm_imul C dX2_stepsForward_74 ?_
        refine jm_iconst C dX2_stepsForward_75 ?_
        refine jm_idiv C dX2_stepsForward_76 (by omega) (by decide) (by decide) ?_
        refine jm_put (ci := 2) (f := 4) (ty := .int) 4 rfl C rfl tyX2 tyX2_ok nmX2 jw_u_2 h.1 h.2.1 rfl (by decide) jw_f_RX2_28 rfl (by decide +kernel) rfl rfl dX2_stepsForward_77 (by omega) ?_
        rw [hk_sl_u4]
        refine jm_iconst C dX2_stepsForward_80 ?_
        exact hR _ _ _ _ dX2_stepsForward_81 (jm_nz (by decide)) (by first | exact Or.inl ⟨by omega, rfl, rfl⟩ | exact Or.inr (Or.inl ⟨by omega, by omega, rfl, rfl⟩) | exact Or.inr (Or.inr ⟨by omega, by omega, rfl, by rw [hcst]; first | exact hk_wr_n (by omega) (by omega) | exact hk_wr_y (by omega) hnw (by omega)⟩))
    · skip
      refine jm_iconst C dX2_stepsForward_42 ?_
      exact hR _ _ _ _ dX2_stepsForward_43 (jm_nz (by decide)) (by first | exact Or.inl ⟨by omega, rfl, rfl⟩ | exact Or.inr (Or.inl ⟨by omega, by omega, rfl, rfl⟩) | exact Or.inr (Or.inr ⟨by omega, by omega, rfl, by rw [hcst]; first | exact hk_wr_n (by omega) (by omega) | exact hk_wr_y (by omega) hnw (by omega)⟩))
  · skip
    have hcst : hk_cst (I (ks + 100)) (I k 6) (I k 7) ln (y + 1) = 10 + I (ks + 100) (ln * 61 + (y + 1)) - 3 := by unfold hk_cst; rw [if_pos (by omega)]
    refine jm_iconst C dX2_stepsForward_27 ?_
    refine jm_goto 32 C dX2_stepsForward_28 rfl ?_
    refine jm_isub C dX2_stepsForward_32 ?_
    refine jm_istore_n C dX2_stepsForward_33 (by decide) ?_
    refine jm_aload_n C dX2_stepsForward_34 rfl ?_
    refine jm_getv (ci := 2) (f := 4) en 4 rfl (hk_sl_g4 _ _ _ _ _ _ _) C rfl jw_u_2 h.1 h.2.1 rfl (by decide) jw_f_RX2_28 dX2_stepsForward_35 (fun yr22 => ?_)
    refine jm_iload_n C dX2_stepsForward_38 rfl ?_
    refine jm_icmp_ge 44 C dX2_stepsForward_39 rfl (by omega) (by omega) (fun yc23 => ?_) (fun yc23 => ?_)
    · skip
      refine jm_aload_n C dX2_stepsForward_44 rfl ?_
      refine jm_aload_n C dX2_stepsForward_45 rfl ?_
      refine jm_getr (ci := 2) (f := 0) C rfl jw_u_2 h.1 h.2.1 rfl (by decide) jw_f_RX2_12 dX2_stepsForward_46 ?_
      refine jm_aload_n C dX2_stepsForward_49 rfl ?_
      refine jm_getv (ci := 2) (f := 2) ln 2 rfl (hk_sl_g2 _ _ _ _ _ _ _) C rfl jw_u_2 h.1 h.2.1 rfl (by decide) jw_f_RX2_22 dX2_stepsForward_50 (fun yr24 => ?_)
      refine jm_iload_n C dX2_stepsForward_53 rfl ?_
      refine jm_cVd (n := 2) (ci := 3) [.ref (w.2.1 k)] C (kX3_lyingAt E w (hk_sl I k ln y en sp ht) _ h.2.2 _ _ (by omega) (by omega)) jw_m_RX2_96 okX3_lyingAt rfl ⟨rfl, rfl⟩ ⟨Nat.le_of_ble_eq_true rfl, Nat.le_of_ble_eq_true rfl⟩ rfl h.2.2.1 h.2.2.2.1 rfl rfl (Nat.le_of_ble_eq_true rfl) dX2_stepsForward_54 ⟨Nat.le_of_ble_eq_true rfl, Nat.le_of_ble_eq_true rfl⟩ (fun yz26 yh25 => ?_)
      subst yh25
      rw [hk_sl_f _ _ _ _ _ _ _ hn200]
      have yh25r := hk_lie_r (I (k + 100 + 100)) ln (y + 1)
      refine jm_put (ci := 2) (f := 9) (ty := .int) 9 rfl C rfl tyX2 tyX2_ok nmX2 jw_u_2 h.1 h.2.1 rfl (by decide) jw_f_RX2_18 rfl (by decide +kernel) rfl rfl dX2_stepsForward_57 (by omega) ?_
      rw [hk_sl_u9]
      refine jm_aload_n C dX2_stepsForward_60 rfl ?_
      refine jm_getv (ci := 2) (f := 9) (hk_lie (I (k + 100 + 100)) ln (y + 1)) 9 rfl (hk_sl_g9 _ _ _ _ _ _ _) C rfl jw_u_2 h.1 h.2.1 rfl (by decide) jw_f_RX2_18 dX2_stepsForward_61 (fun yr27 => ?_)
      refine jm_iconst C dX2_stepsForward_64 ?_
      refine jm_icmp_eq 82 C dX2_stepsForward_65 rfl (by omega) (by decide) (fun yc28 => ?_) (fun yc28 => ?_)
      · skip
        refine jm_aload_n C dX2_stepsForward_82 rfl ?_
        refine jm_iload_n C dX2_stepsForward_83 rfl ?_
        refine jm_put (ci := 2) (f := 3) (ty := .int) 3 rfl C rfl tyX2 tyX2_ok nmX2 jw_u_2 h.1 h.2.1 rfl (by decide) jw_f_RX2_25 rfl (by decide +kernel) rfl rfl dX2_stepsForward_84 (by omega) ?_
        rw [hk_sl_u3]
        refine jm_aload_n C dX2_stepsForward_87 rfl ?_
        refine jm_dup C dX2_stepsForward_88 rfl ?_
        refine jm_getv (ci := 2) (f := 4) en 4 rfl (hk_sl_g4 _ _ _ _ _ _ _) C rfl jw_u_2 h.1 h.2.1 rfl (by decide) jw_f_RX2_28 dX2_stepsForward_89 (fun yr29 => ?_)
        refine jm_iload_n C dX2_stepsForward_92 rfl ?_
        refine jm_isub C dX2_stepsForward_93 ?_
        refine jm_put (ci := 2) (f := 4) (ty := .int) 4 rfl C rfl tyX2 tyX2_ok nmX2 jw_u_2 h.1 h.2.1 rfl (by decide) jw_f_RX2_28 rfl (by decide +kernel) rfl rfl dX2_stepsForward_94 (by omega) ?_
        rw [hk_sl_u4]
        refine jm_aload_n C dX2_stepsForward_97 rfl ?_
        refine jm_getv (ci := 2) (f := 1) (I k 1) 1 rfl (hk_sl_gk _ _ _ _ _ _ _ _ (by decide)) C rfl jw_u_2 h.1 h.2.1 rfl (by decide) jw_f_RX2_44 dX2_stepsForward_98 (fun yr30 => ?_)
        refine jm_if_eq 113 C dX2_stepsForward_101 rfl (by omega) (fun yc31 => ?_) (fun yc31 => ?_)
        · skip
          refine jm_iconst C dX2_stepsForward_113 ?_
          exact hR _ _ _ _ dX2_stepsForward_114 (jm_nz (by decide)) (by first | exact Or.inl ⟨by omega, rfl, rfl⟩ | exact Or.inr (Or.inl ⟨by omega, by omega, rfl, rfl⟩) | exact Or.inr (Or.inr ⟨by omega, by omega, rfl, by rw [hcst]; first | exact hk_wr_n (by omega) (by omega) | exact hk_wr_y (by omega) hnw (by omega)⟩))
        · skip
          refine jm_aload_n C dX2_stepsForward_104 rfl ?_
          refine jm_aload_n C dX2_stepsForward_105 rfl ?_
          refine jm_getv (ci := 2) (f := 2) ln 2 rfl (hk_sl_g2 _ _ _ _ _ _ _) C rfl jw_u_2 h.1 h.2.1 rfl (by decide) jw_f_RX2_22 dX2_stepsForward_106 (fun yr32 => ?_)
          refine jm_iload_n C dX2_stepsForward_109 rfl ?_
          refine jm_cVu (n := 2) (ci := 1) [] C (kX1_wearDown E w (hk_sl I k ln (y + 1) (en - ((10 + (I (ks + 100) (ln * 61 + (y + 1)))) - 3)) sp (hk_lie (I (k + 100 + 100)) ln (y + 1))) _ hs _ _ (by omega) (by omega)) jw_m_RX2_99 okX1_wearDown rfl ⟨rfl, rfl⟩ ⟨Nat.le_of_ble_eq_true rfl, Nat.le_of_ble_eq_true rfl⟩ rfl hs.1 hs.2.1 rfl rfl (Nat.le_of_ble_eq_true rfl) dX2_stepsForward_110 ⟨Nat.le_of_ble_eq_true rfl, Nat.le_of_ble_eq_true rfl⟩ ?_
          refine jm_iconst C dX2_stepsForward_113 ?_
          exact hR _ _ _ _ dX2_stepsForward_114 (jm_nz (by decide)) (by first | exact Or.inl ⟨by omega, rfl, rfl⟩ | exact Or.inr (Or.inl ⟨by omega, by omega, rfl, rfl⟩) | exact Or.inr (Or.inr ⟨by omega, by omega, rfl, by rw [hcst]; first | exact hk_wr_n (by omega) (by omega) | exact hk_wr_y (by omega) hnw (by omega)⟩))
      · skip
        have hte : (en * 3).tdiv 4 = en * 3 / 4 := Int.tdiv_eq_ediv_of_nonneg (by omega)
        refine jm_aload_n C dX2_stepsForward_68 rfl ?_
        refine jm_aload_n C dX2_stepsForward_69 rfl ?_
        refine jm_getv (ci := 2) (f := 4) en 4 rfl (hk_sl_g4 _ _ _ _ _ _ _) C rfl jw_u_2 h.1 h.2.1 rfl (by decide) jw_f_RX2_28 dX2_stepsForward_70 (fun yr35 => ?_)
        refine jm_iconst C dX2_stepsForward_73 ?_
        refine jm_imul C dX2_stepsForward_74 ?_
        refine jm_iconst C dX2_stepsForward_75 ?_
        refine jm_idiv C dX2_stepsForward_76 (by omega) (by decide) (by decide) ?_
        refine jm_put (ci := 2) (f := 4) (ty := .int) 4 rfl C rfl tyX2 tyX2_ok nmX2 jw_u_2 h.1 h.2.1 rfl (by decide) jw_f_RX2_28 rfl (by decide +kernel) rfl rfl dX2_stepsForward_77 (by omega) ?_
        rw [hk_sl_u4]
        refine jm_iconst C dX2_stepsForward_80 ?_
        exact hR _ _ _ _ dX2_stepsForward_81 (jm_nz (by decide)) (by first | exact Or.inl ⟨by omega, rfl, rfl⟩ | exact Or.inr (Or.inl ⟨by omega, by omega, rfl, rfl⟩) | exact Or.inr (Or.inr ⟨by omega, by omega, rfl, by rw [hcst]; first | exact hk_wr_n (by omega) (by omega) | exact hk_wr_y (by omega) hnw (by omega)⟩))
    · skip
      refine jm_iconst C dX2_stepsForward_42 ?_
      exact hR _ _ _ _ dX2_stepsForward_43 (jm_nz (by decide)) (by first | exact Or.inl ⟨by omega, rfl, rfl⟩ | exact Or.inr (Or.inl ⟨by omega, by omega, rfl, rfl⟩) | exact Or.inr (Or.inr ⟨by omega, by omega, rfl, by rw [hcst]; first | exact hk_wr_n (by omega) (by omega) | exact hk_wr_y (by omega) hnw (by omega)⟩))
