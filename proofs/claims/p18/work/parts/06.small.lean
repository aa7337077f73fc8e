set_option maxRecDepth 100000 in
set_option maxHeartbeats 4000000 in
theorem kX5_isWithin (E : jm_E) (w : jm_W) (I : jm_M) (v lo hi : Int) (hv : jm_R v) (hlo : jm_R lo) (hhi : jm_R hi) : jm_Mi E yX5_isWithin wX5_isWithin rmX5_isWithin 0 0 w I [jm_v v, jm_v lo, jm_v hi] (fun I' z => I' = I ∧ ((lo ≤ v ∧ v ≤ hi ∧ z = 1) ∨ (¬ (lo ≤ v ∧ v ≤ hi) ∧ z = 0))) := by
  refine jm_in_i (cc := cX5_isWithin) (maxL := 3) (rt := .boolean) RX5 (by decide +kernel) rfl rfl (Nat.le_of_ble_eq_true rfl) (by simp [Value.category]) ?_
  intro G C hR hI
  refine jm_iload_n C dX5_isWithin_0 rfl ?_
  refine jm_iload_n C dX5_isWithin_1 rfl ?_
  refine jm_icmp_lt 14 C dX5_isWithin_2 rfl hv hlo (fun yc1 => ?_) (fun yc1 => ?_)
  · skip
    refine jm_iconst C dX5_isWithin_14 ?_
    exact hR _ _ _ _ dX5_isWithin_15 (jm_nz (by decide)) ⟨rfl, by omega⟩
  · skip
    refine jm_iload_n C dX5_isWithin_5 rfl ?_
    refine jm_iload_n C dX5_isWithin_6 rfl ?_
    refine jm_icmp_gt 14 C dX5_isWithin_7 rfl hv hhi (fun yc2 => ?_) (fun yc2 => ?_)
    · skip
      refine jm_iconst C dX5_isWithin_14 ?_
      exact hR _ _ _ _ dX5_isWithin_15 (jm_nz (by decide)) ⟨rfl, by omega⟩
    · skip
      refine jm_iconst C dX5_isWithin_10 ?_
      refine jm_goto 15 C dX5_isWithin_11 rfl ?_
      exact hR _ _ _ _ dX5_isWithin_15 (jm_nz (by decide)) ⟨rfl, by omega⟩
set_option maxRecDepth 100000 in
set_option maxHeartbeats 4000000 in
theorem kX5_isCell (E : jm_E) (w : jm_W) (I : jm_M) (lane y : Int) (hl : jm_R lane) (hy : jm_R y) : jm_Mi E yX5_isCell wX5_isCell rmX5_isCell 0 0 w I [jm_v lane, jm_v y] (fun I' z => I' = I ∧ (((0 ≤ lane ∧ lane ≤ 8 ∧ 0 ≤ y ∧ y ≤ 60) ∧ z = 1) ∨ (¬ (0 ≤ lane ∧ lane ≤ 8 ∧ 0 ≤ y ∧ y ≤ 60) ∧ z = 0))) := by
  refine jm_in_i (cc := cX5_isCell) (maxL := 2) (rt := .boolean) RX5 (by decide +kernel) rfl rfl (Nat.le_of_ble_eq_true rfl) (by simp [Value.category]) ?_
  intro G C hR hI
  refine jm_iload_n C dX5_isCell_0 rfl ?_
  refine jm_iconst C dX5_isCell_1 ?_
  refine jm_bipush C dX5_isCell_2 (by decide +kernel) ?_
  refine jm_cSd (n := 3) [] C (kX5_isWithin E w I _ _ _ hl (by decide) (by decide)) jw_m_RX5_43 okX5_isWithin rfl ⟨rfl, rfl⟩ ⟨Nat.le_of_ble_eq_true rfl, Nat.le_of_ble_eq_true rfl⟩ rfl rfl (Nat.le_of_ble_eq_true rfl) dX5_isCell_4 ⟨Nat.le_of_ble_eq_true rfl, Nat.le_of_ble_eq_true rfl⟩ (fun yz2 yh1 => ?_)
  refine jm_if_eq 24 C dX5_isCell_7 rfl (by omega) (fun yc3 => ?_) (fun yc3 => ?_)
  · skip
    refine jm_iconst C dX5_isCell_24 ?_
    exact hR _ _ _ _ dX5_isCell_25 (jm_nz (by decide)) ⟨rfl, by omega⟩
  · skip
    refine jm_iload_n C dX5_isCell_10 rfl ?_
    refine jm_iconst C dX5_isCell_11 ?_
    refine jm_bipush C dX5_isCell_12 (by decide +kernel) ?_
    refine jm_cSd (n := 3) [] C (kX5_isWithin E w I _ _ _ hy (by decide) (by decide)) jw_m_RX5_43 okX5_isWithin rfl ⟨rfl, rfl⟩ ⟨Nat.le_of_ble_eq_true rfl, Nat.le_of_ble_eq_true rfl⟩ rfl rfl (Nat.le_of_ble_eq_true rfl) dX5_isCell_14 ⟨Nat.le_of_ble_eq_true rfl, Nat.le_of_ble_eq_true rfl⟩ (fun yz5 yh4 => ?_)
    refine jm_if_eq 24 C dX5_isCell_17 rfl (by omega) (fun yc6 => ?_) (fun yc6 => ?_)
    · skip
      refine jm_iconst C dX5_isCell_24 ?_
      exact hR _ _ _ _ dX5_isCell_25 (jm_nz (by decide)) ⟨rfl, by omega⟩
    · skip
      refine jm_iconst C dX5_isCell_20 ?_
      refine jm_goto 25 C dX5_isCell_21 rfl ?_
      exact hR _ _ _ _ dX5_isCell_25 (jm_nz (by decide)) ⟨rfl, by omega⟩
set_option maxRecDepth 100000 in
set_option maxHeartbeats 4000000 in
theorem kX5_isShot (E : jm_E) (w : jm_W) (I : jm_M) (lane wt tn lo hi : Int) (h1 : jm_R lane) (h2 : jm_R wt) (h3 : jm_R tn) (h4 : jm_R lo) (h5 : jm_R hi) : jm_Mi E yX5_isShot wX5_isShot rmX5_isShot 0 0 w I [jm_v lane, jm_v wt, jm_v tn, jm_v lo, jm_v hi] (fun I' z => I' = I ∧ ((hk_shot lane wt tn lo hi ∧ z = 1) ∨ (¬ hk_shot lane wt tn lo hi ∧ z = 0))) := by
  refine jm_in_i (cc := cX5_isShot) (maxL := 5) (rt := .boolean) RX5 (by decide +kernel) rfl rfl (Nat.le_of_ble_eq_true rfl) (by simp [Value.category]) ?_
  intro G C hR hI
  refine jm_iload_n C dX5_isShot_0 rfl ?_
  refine jm_iconst C dX5_isShot_1 ?_
  refine jm_bipush C dX5_isShot_2 (by decide +kernel) ?_
  refine jm_cSd (n := 3) [] C (kX5_isWithin E w I _ _ _ h1 (by decide) (by decide)) jw_m_RX5_43 okX5_isWithin rfl ⟨rfl, rfl⟩ ⟨Nat.le_of_ble_eq_true rfl, Nat.le_of_ble_eq_true rfl⟩ rfl rfl (Nat.le_of_ble_eq_true rfl) dX5_isShot_4 ⟨Nat.le_of_ble_eq_true rfl, Nat.le_of_ble_eq_true rfl⟩ (fun yz2 yh1 => ?_)
  refine jm_if_eq 55 C dX5_isShot_7 rfl (by omega) (fun yc3 => ?_) (fun yc3 => ?_)
  · skip
    refine jm_iconst C dX5_isShot_55 ?_
    exact hR _ _ _ _ dX5_isShot_56 (jm_nz (by decide)) ⟨rfl, by unfold hk_shot; omega⟩
  · skip
    refine jm_iload_n C dX5_isShot_10 rfl ?_
    refine jm_iconst C dX5_isShot_11 ?_
    refine jm_bipush C dX5_isShot_12 (by decide +kernel) ?_
    refine jm_cSd (n := 3) [] C (kX5_isWithin E w I _ _ _ h2 (by decide) (by decide)) jw_m_RX5_43 okX5_isWithin rfl ⟨rfl, rfl⟩ ⟨Nat.le_of_ble_eq_true rfl, Nat.le_of_ble_eq_true rfl⟩ rfl rfl (Nat.le_of_ble_eq_true rfl) dX5_isShot_14 ⟨Nat.le_of_ble_eq_true rfl, Nat.le_of_ble_eq_true rfl⟩ (fun yz5 yh4 => ?_)
    refine jm_if_eq 55 C dX5_isShot_17 rfl (by omega) (fun yc6 => ?_) (fun yc6 => ?_)
    · skip
      refine jm_iconst C dX5_isShot_55 ?_
      exact hR _ _ _ _ dX5_isShot_56 (jm_nz (by decide)) ⟨rfl, by unfold hk_shot; omega⟩
    · skip
      refine jm_iload_n C dX5_isShot_20 rfl ?_
      refine jm_iconst C dX5_isShot_21 ?_
      refine jm_icmp_eq 30 C dX5_isShot_22 rfl h3 (by decide) (fun yc7 => ?_) (fun yc7 => ?_)
      · skip
        refine jm_iload_n C dX5_isShot_30 rfl ?_
        refine jm_iconst C dX5_isShot_31 ?_
        refine jm_bipush C dX5_isShot_32 (by decide +kernel) ?_
        refine jm_cSd (n := 3) [] C (kX5_isWithin E w I _ _ _ h4 (by decide) (by decide)) jw_m_RX5_43 okX5_isWithin rfl ⟨rfl, rfl⟩ ⟨Nat.le_of_ble_eq_true rfl, Nat.le_of_ble_eq_true rfl⟩ rfl rfl (Nat.le_of_ble_eq_true rfl) dX5_isShot_34 ⟨Nat.le_of_ble_eq_true rfl, Nat.le_of_ble_eq_true rfl⟩ (fun yz9 yh8 => ?_)
        refine jm_if_eq 55 C dX5_isShot_37 rfl (by omega) (fun yc10 => ?_) (fun yc10 => ?_)
        · skip
          refine jm_iconst C dX5_isShot_55 ?_
          exact hR _ _ _ _ dX5_isShot_56 (jm_nz (by decide)) ⟨rfl, by unfold hk_shot; omega⟩
        · skip
          refine jm_iload C dX5_isShot_40 rfl ?_
          refine jm_iconst C dX5_isShot_42 ?_
          refine jm_bipush C dX5_isShot_43 (by decide +kernel) ?_
          refine jm_cSd (n := 3) [] C (kX5_isWithin E w I _ _ _ h5 (by decide) (by decide)) jw_m_RX5_43 okX5_isWithin rfl ⟨rfl, rfl⟩ ⟨Nat.le_of_ble_eq_true rfl, Nat.le_of_ble_eq_true rfl⟩ rfl rfl (Nat.le_of_ble_eq_true rfl) dX5_isShot_45 ⟨Nat.le_of_ble_eq_true rfl, Nat.le_of_ble_eq_true rfl⟩ (fun yz12 yh11 => ?_)
          refine jm_if_eq 55 C dX5_isShot_48 rfl (by omega) (fun yc13 => ?_) (fun yc13 => ?_)
          · skip
            refine jm_iconst C dX5_isShot_55 ?_
            exact hR _ _ _ _ dX5_isShot_56 (jm_nz (by decide)) ⟨rfl, by unfold hk_shot; omega⟩
          · skip
            refine jm_iconst C dX5_isShot_51 ?_
            refine jm_goto 56 C dX5_isShot_52 rfl ?_
            exact hR _ _ _ _ dX5_isShot_56 (jm_nz (by decide)) ⟨rfl, by unfold hk_shot; omega⟩
      · skip
        refine jm_iload_n C dX5_isShot_25 rfl ?_
        refine jm_iconst C dX5_isShot_26 ?_
        refine jm_icmp_ne 55 C dX5_isShot_27 rfl h3 (by decide) (fun yc14 => ?_) (fun yc14 => ?_)
        · skip
          refine jm_iconst C dX5_isShot_55 ?_
          exact hR _ _ _ _ dX5_isShot_56 (jm_nz (by decide)) ⟨rfl, by unfold hk_shot; omega⟩
        · skip
          refine jm_iload_n C dX5_isShot_30 rfl ?_
          refine jm_iconst C dX5_isShot_31 ?_
          refine jm_bipush C dX5_isShot_32 (by decide +kernel) ?_
          refine jm_cSd (n := 3) [] C (kX5_isWithin E w I _ _ _ h4 (by decide) (by decide)) jw_m_RX5_43 okX5_isWithin rfl ⟨rfl, rfl⟩ ⟨Nat.le_of_ble_eq_true rfl, Nat.le_of_ble_eq_true rfl⟩ rfl rfl (Nat.le_of_ble_eq_true rfl) dX5_isShot_34 ⟨Nat.le_of_ble_eq_true rfl, Nat.le_of_ble_eq_true rfl⟩ (fun yz16 yh15 => ?_)
          refine jm_if_eq 55 C dX5_isShot_37 rfl (by omega) (fun yc17 => ?_) (fun yc17 => ?_)
          · skip
            refine jm_iconst C dX5_isShot_55 ?_
            exact hR _ _ _ _ dX5_isShot_56 (jm_nz (by decide)) ⟨rfl, by unfold hk_shot; omega⟩
          · skip
            refine jm_iload C dX5_isShot_40 rfl ?_
            refine jm_iconst C dX5_isShot_42 ?_
            refine jm_bipush C dX5_isShot_43 (by decide +kernel) ?_
            refine jm_cSd (n := 3) [] C (kX5_isWithin E w I _ _ _ h5 (by decide) (by decide)) jw_m_RX5_43 okX5_isWithin rfl ⟨rfl, rfl⟩ ⟨Nat.le_of_ble_eq_true rfl, Nat.le_of_ble_eq_true rfl⟩ rfl rfl (Nat.le_of_ble_eq_true rfl) dX5_isShot_45 ⟨Nat.le_of_ble_eq_true rfl, Nat.le_of_ble_eq_true rfl⟩ (fun yz19 yh18 => ?_)
            refine jm_if_eq 55 C dX5_isShot_48 rfl (by omega) (fun yc20 => ?_) (fun yc20 => ?_)
            · skip
              refine jm_iconst C dX5_isShot_55 ?_
              exact hR _ _ _ _ dX5_isShot_56 (jm_nz (by decide)) ⟨rfl, by unfold hk_shot; omega⟩
            · skip
              refine jm_iconst C dX5_isShot_51 ?_
              refine jm_goto 56 C dX5_isShot_52 rfl ?_
              exact hR _ _ _ _ dX5_isShot_56 (jm_nz (by decide)) ⟨rfl, by unfold hk_shot; omega⟩
set_option maxRecDepth 100000 in
set_option maxHeartbeats 4000000 in
theorem kX5_distanceOf (E : jm_E) (w : jm_W) (I : jm_M) (p : Int) (hp : jm_R p) : jm_Mi E yX5_distanceOf wX5_distanceOf rmX5_distanceOf 0 0 w I [jm_v p] (fun I' z => I' = I ∧ z = hk_dist p) := by
  refine jm_in_i (cc := cX5_distanceOf) (maxL := 3) (rt := .int) RX5 (by decide +kernel) rfl rfl (Nat.le_of_ble_eq_true rfl) (by simp [Value.category]) ?_
  intro G C hR hI
  refine jm_iload_n C dX5_distanceOf_0 rfl ?_
  refine jm_if_ge 7 C dX5_distanceOf_1 rfl hp (fun yc1 => ?_) (fun yc1 => ?_)
  · skip
    have hp0 : 0 ≤ p := by omega
    obtain ⟨hd1, hd2⟩ := hk_div p hp0
    have ha1 := hk_ab_r (p.tdiv 100 - 4)
    have ha2 := hk_ab_r (p.tmod 100 - 50)
    have hb1 : hk_ab (p.tdiv 100 - 4) ≤ 100000000 := by unfold hk_ab; split <;> omega
    have hb2 : hk_ab (p.tmod 100 - 50) ≤ 1000 := by unfold hk_ab; split <;> omega
    refine jm_iconst C dX5_distanceOf_7 ?_
    refine jm_iload_n C dX5_distanceOf_8 rfl ?_
    refine jm_bipush C dX5_distanceOf_9 (by decide +kernel) ?_
    refine jm_idiv C dX5_distanceOf_11 hp (by decide) (by decide) ?_
    refine jm_iconst C dX5_distanceOf_12 ?_
    refine jm_isub C dX5_distanceOf_13 ?_
    refine jm_abs C jw_m_RX5_222 jw_s_abs jw_n_Math jw_c_abs (Nat.le_of_ble_eq_true rfl) (Nat.le_of_ble_eq_true rfl) (Nat.le_of_ble_eq_true rfl) (Nat.le_of_ble_eq_true rfl) dX5_distanceOf_14 (by omega) ?_
    refine jm_imul C dX5_distanceOf_17 ?_
    refine jm_istore_n C dX5_distanceOf_18 (by decide) ?_
    refine jm_iload_n C dX5_distanceOf_19 rfl ?_
    refine jm_bipush C dX5_distanceOf_20 (by decide +kernel) ?_
    refine jm_irem C dX5_distanceOf_22 hp (by decide) (by decide) ?_
    refine jm_bipush C dX5_distanceOf_23 (by decide +kernel) ?_
    refine jm_isub C dX5_distanceOf_25 ?_
    refine jm_abs C jw_m_RX5_222 jw_s_abs jw_n_Math jw_c_abs (Nat.le_of_ble_eq_true rfl) (Nat.le_of_ble_eq_true rfl) (Nat.le_of_ble_eq_true rfl) (Nat.le_of_ble_eq_true rfl) dX5_distanceOf_26 (by omega) ?_
    refine jm_istore_n C dX5_distanceOf_29 (by decide) ?_
    refine jm_iload_n C dX5_distanceOf_30 rfl ?_
    refine jm_iload_n C dX5_distanceOf_31 rfl ?_
    refine jm_iadd C dX5_distanceOf_32 ?_
    refine jm_bipush C dX5_distanceOf_33 (by decide +kernel) ?_
    refine jm_min C jw_m_RX5_227 jw_s_min jw_n_Math jw_c_min (Nat.le_of_ble_eq_true rfl) (Nat.le_of_ble_eq_true rfl) (Nat.le_of_ble_eq_true rfl) (Nat.le_of_ble_eq_true rfl) dX5_distanceOf_35 (by omega) (by decide) ?_
    exact hR _ _ _ _ dX5_distanceOf_38 rfl ⟨rfl, by unfold hk_dist; first | rw [if_pos (by omega)] | (rw [if_neg (by omega)])⟩
  · skip
    refine jm_bipush C dX5_distanceOf_4 (by decide +kernel) ?_
    exact hR _ _ _ _ dX5_distanceOf_6 rfl ⟨rfl, by unfold hk_dist; first | rw [if_pos (by omega)] | (rw [if_neg (by omega)])⟩
set_option maxRecDepth 100000 in
set_option maxHeartbeats 4000000 in
theorem kX3_placeOf (E : jm_E) (w : jm_W) (I : jm_M) (k : Int) (h : jm_X3 E w k) (n : Int) (hn : jm_R n) : jm_Mi E yX3_placeOf wX3_placeOf rmX3_placeOf 0 0 w I [.ref (w.2.1 k), jm_v n] (fun I' z => I' = I ∧ z = hk_at (I (k + 100)) n) := by
  refine jm_in_i (cc := cX3_placeOf) (maxL := 2) (rt := .int) RX3 (by decide +kernel) rfl rfl (Nat.le_of_ble_eq_true rfl) (by simp [Value.category]) ?_
  intro G C hR hI
  refine jm_iload_n C dX3_placeOf_0 rfl ?_
  refine jm_if_lt 22 C dX3_placeOf_1 rfl hn (fun yc1 => ?_) (fun yc1 => ?_)
  · skip
    refine jm_iconst C dX3_placeOf_22 ?_
    exact hR _ _ _ _ dX3_placeOf_23 rfl ⟨rfl, by unfold hk_at; first | rw [if_pos (by omega)] | rw [if_neg (by omega)]⟩
  · skip
    refine jm_iload_n C dX3_placeOf_4 rfl ?_
    refine jm_aload_n C dX3_placeOf_5 rfl ?_
    refine jm_getr (ci := 3) (f := 0) C rfl jw_u_3 h.1 h.2.1 rfl (by decide) jw_f_RX3_9 dX3_placeOf_6 ?_
    refine jm_alen 0 6 rfl C h.2.2.1 rfl h.2.2.2 dX3_placeOf_9 ?_
    refine jm_icmp_ge 22 C dX3_placeOf_10 rfl hn (by decide) (fun yc2 => ?_) (fun yc2 => ?_)
    · skip
      refine jm_iconst C dX3_placeOf_22 ?_
      exact hR _ _ _ _ dX3_placeOf_23 rfl ⟨rfl, by unfold hk_at; first | rw [if_pos (by omega)] | rw [if_neg (by omega)]⟩
    · skip
      refine jm_aload_n C dX3_placeOf_13 rfl ?_
      refine jm_getr (ci := 3) (f := 0) C rfl jw_u_3 h.1 h.2.1 rfl (by decide) jw_f_RX3_9 dX3_placeOf_14 ?_
      refine jm_iload_n C dX3_placeOf_17 rfl ?_
      refine jm_iald C h.2.2.1 rfl h.2.2.2 (by omega) (by omega) (by omega) dX3_placeOf_18 (fun yr3 => ?_)
      refine jm_goto 23 C dX3_placeOf_19 rfl ?_
      exact hR _ _ _ _ dX3_placeOf_23 rfl ⟨rfl, by unfold hk_at; first | rw [if_pos (by omega)] | rw [if_neg (by omega)]⟩
set_option maxRecDepth 100000 in
set_option maxHeartbeats 4000000 in
theorem kX3_put (E : jm_E) (w : jm_W) (I : jm_M) (k : Int) (h : jm_X3 E w k) (n p : Int) (hn : jm_R n) (hp : jm_R p) : jm_Mv E yX3_put wX3_put rmX3_put 0 0 w I [.ref (w.2.1 k), jm_v n, jm_v p] (fun I' => I' = if 0 ≤ n ∧ n < 6 then jm_up I (k + 100) n p else I) := by
  refine jm_in_v (cc := cX3_put) (maxL := 3) RX3 (by decide +kernel) rfl rfl (Nat.le_of_ble_eq_true rfl) (by simp [Value.category]) ?_
  intro G C hR hI
  refine jm_iload_n C dX3_put_0 rfl ?_
  refine jm_if_lt 20 C dX3_put_1 rfl hn (fun yc1 => ?_) (fun yc1 => ?_)
  · skip
    exact hR _ _ _ dX3_put_20 (by first | rw [if_pos (by omega)] | rw [if_neg (by omega)])
  · skip
    refine jm_iload_n C dX3_put_4 rfl ?_
    refine jm_aload_n C dX3_put_5 rfl ?_
    refine jm_getr (ci := 3) (f := 0) C rfl jw_u_3 h.1 h.2.1 rfl (by decide) jw_f_RX3_9 dX3_put_6 ?_
    refine jm_alen 0 6 rfl C h.2.2.1 rfl h.2.2.2 dX3_put_9 ?_
    refine jm_icmp_ge 20 C dX3_put_10 rfl hn (by decide) (fun yc2 => ?_) (fun yc2 => ?_)
    · skip
      exact hR _ _ _ dX3_put_20 (by first | rw [if_pos (by omega)] | rw [if_neg (by omega)])
    · skip
      refine jm_aload_n C dX3_put_13 rfl ?_
      refine jm_getr (ci := 3) (f := 0) C rfl jw_u_3 h.1 h.2.1 rfl (by decide) jw_f_RX3_9 dX3_put_14 ?_
      refine jm_iload_n C dX3_put_17 rfl ?_
      refine jm_iload_n C dX3_put_18 rfl ?_
      refine jm_iast C h.2.2.1 rfl h.2.2.2 (by omega) (by omega) (by omega) dX3_put_19 hp ?_
      exact hR _ _ _ dX3_put_20 (by first | rw [if_pos (by omega)] | rw [if_neg (by omega)])
set_option maxRecDepth 100000 in
set_option maxHeartbeats 4000000 in
theorem kX3_takeAway (E : jm_E) (w : jm_W) (I : jm_M) (k : Int) (h : jm_X3 E w k) : jm_Mv E yX3_takeAway wX3_takeAway rmX3_takeAway 0 0 w I [.ref (w.2.1 k)] (fun I' => I' = hk_fill I (k + 100) 6 (fun _ => -1)) := by
  refine jm_in_v (cc := cX3_takeAway) (maxL := 2) RX3 (by decide +kernel) rfl rfl (Nat.le_of_ble_eq_true rfl) (by simp [Value.category]) ?_
  intro G C hR hI
  refine jm_iconst C dX3_takeAway_0 ?_
  refine jm_istore_n C dX3_takeAway_1 (by decide) ?_
  have lp2 : ∀ (yn2 : Nat) (m : Nat) (I2 : jm_M), 6 - m < yn2 → (m ≤ 6) → (I2 = hk_fill I (k + 100) m (fun _ => -1)) → (∀ k j, jm_R (I2 k j)) → jm_J E G (0, 0) w I2 2 [(0, .ref (w.2.1 k)), (1, jm_v ((m : Nat) : Int))] [] := by
    intro yn2
    induction yn2 with
    | zero => intro m I2 hlt2 hm hI2 hImem; exact absurd hlt2 (Nat.not_lt_zero _)
    | succ yn2 ih2 =>
      intro m I2 hlt2 hm hI2 hImem
      refine jm_iload_n C dX3_takeAway_2 rfl ?_
      refine jm_aload_n C dX3_takeAway_3 rfl ?_
      refine jm_getr (ci := 3) (f := 0) C rfl jw_u_3 h.1 h.2.1 rfl (by decide) jw_f_RX3_9 dX3_takeAway_4 ?_
      refine jm_alen 0 6 rfl C h.2.2.1 rfl h.2.2.2 dX3_takeAway_7 ?_
      refine jm_icmp_ge 24 C dX3_takeAway_8 rfl (by omega) (by decide) (fun yc1 => ?_) (fun yc1 => ?_)
      · skip
        exact hR _ _ _ dX3_takeAway_24 (by rw [hI2, show m = 6 by omega]; rfl)
      · skip
        refine jm_aload_n C dX3_takeAway_11 rfl ?_
        refine jm_getr (ci := 3) (f := 0) C rfl jw_u_3 h.1 h.2.1 rfl (by decide) jw_f_RX3_9 dX3_takeAway_12 ?_
        refine jm_iload_n C dX3_takeAway_15 rfl ?_
        refine jm_iconst C dX3_takeAway_16 ?_
        refine jm_iast C h.2.2.1 rfl h.2.2.2 (by omega) (by omega) (by omega) dX3_takeAway_17 (by decide) ?_
        refine jm_iinc C dX3_takeAway_18 (by decide) rfl ?_
        refine jm_goto 2 C dX3_takeAway_21 rfl ?_
        refine jm_lvs (lv' := [(0, _), (1, _)]) (jm_sub_c rfl (jm_sub_c rfl (jm_sub_0 _))) ?_
        exact ih2 (m + 1) _ (by omega) (by omega) (by rw [hI2]; exact hk_fill_s I (k + 100) m (fun _ => -1)) (jm_upR hImem (by decide))
  refine jm_lvs (lv' := [(0, _), (1, _)]) (jm_sub_c rfl (jm_sub_c rfl (jm_sub_0 _))) ?_
  exact lp2 _ 0 _ (Nat.lt_succ_self _) (Nat.zero_le _) (hk_fill_0 _ _ _).symm hI
set_option maxRecDepth 100000 in
set_option maxHeartbeats 4000000 in
theorem kX3_copyFrom (E : jm_E) (w : jm_W) (I : jm_M) (k : Int) (h : jm_X3 E w k) (k2 : Int) (h2 : jm_X3 E w k2) : jm_Mv E yX3_copyFrom wX3_copyFrom rmX3_copyFrom 0 0 w I [.ref (w.2.1 k), .ref (w.2.1 k2)] (fun I' => I' = hk_fill I (k + 100) 6 (I (k2 + 100))) := by
  refine jm_in_v (cc := cX3_copyFrom) (maxL := 3) RX3 (by decide +kernel) rfl rfl (Nat.le_of_ble_eq_true rfl) (by simp [Value.category]) ?_
  intro G C hR hI
  refine jm_iconst C dX3_copyFrom_0 ?_
  refine jm_istore_n C dX3_copyFrom_1 (by decide) ?_
  have lp2 : ∀ (yn2 : Nat) (m : Nat) (I2 : jm_M), 6 - m < yn2 → (m ≤ 6) → (I2 = hk_fill I (k + 100) m (I (k2 + 100))) → (∀ k j, jm_R (I2 k j)) → jm_J E G (0, 0) w I2 2 [(0, .ref (w.2.1 k)), (1, .ref (w.2.1 k2)), (2, jm_v ((m : Nat) : Int))] [] := by
    intro yn2
    induction yn2 with
    | zero => intro m I2 hlt2 hm hI2 hImem; exact absurd hlt2 (Nat.not_lt_zero _)
    | succ yn2 ih2 =>
      intro m I2 hlt2 hm hI2 hImem
      refine jm_iload_n C dX3_copyFrom_2 rfl ?_
      refine jm_aload_n C dX3_copyFrom_3 rfl ?_
      refine jm_getr (ci := 3) (f := 0) C rfl jw_u_3 h.1 h.2.1 rfl (by decide) jw_f_RX3_9 dX3_copyFrom_4 ?_
      refine jm_alen 0 6 rfl C h.2.2.1 rfl h.2.2.2 dX3_copyFrom_7 ?_
      refine jm_icmp_ge 28 C dX3_copyFrom_8 rfl (by omega) (by decide) (fun yc1 => ?_) (fun yc1 => ?_)
      · skip
        exact hR _ _ _ dX3_copyFrom_28 (by rw [hI2, show m = 6 by omega]; rfl)
      · skip
        refine jm_aload_n C dX3_copyFrom_11 rfl ?_
        refine jm_getr (ci := 3) (f := 0) C rfl jw_u_3 h.1 h.2.1 rfl (by decide) jw_f_RX3_9 dX3_copyFrom_12 ?_
        refine jm_iload_n C dX3_copyFrom_15 rfl ?_
        refine jm_aload_n C dX3_copyFrom_16 rfl ?_
        refine jm_iload_n C dX3_copyFrom_17 rfl ?_
        refine jm_cVd (n := 1) (ci := 3) [jm_v ((m : Nat) : Int), .ref (w.2.1 (k + 100))] C (kX3_placeOf E w I2 _ h2 _ (by omega)) jw_m_RX3_18 okX3_placeOf rfl ⟨rfl, rfl⟩ ⟨Nat.le_of_ble_eq_true rfl, Nat.le_of_ble_eq_true rfl⟩ rfl h2.1 h2.2.1 rfl rfl (Nat.le_of_ble_eq_true rfl) dX3_copyFrom_18 ⟨Nat.le_of_ble_eq_true rfl, Nat.le_of_ble_eq_true rfl⟩ (fun yz3 yh2 => ?_)
        subst yh2
        refine jm_iast C h.2.2.1 rfl h.2.2.2 (by omega) (by omega) (by omega) dX3_copyFrom_21 (hk_at_R hImem (k2 + 100) m) ?_
        refine jm_iinc C dX3_copyFrom_22 (by decide) rfl ?_
        refine jm_goto 2 C dX3_copyFrom_25 rfl ?_
        refine jm_lvs (lv' := [(0, _), (1, _), (2, _)]) (jm_sub_c rfl (jm_sub_c rfl (jm_sub_c rfl (jm_sub_0 _)))) ?_
        exact ih2 (m + 1) _ (by omega) (by omega) (by rw [hI2]; exact (congrArg (fun z => jm_up (hk_fill I (k + 100) m (I (k2 + 100))) (k + 100) m z) (hk_copy I (k + 100) (k2 + 100) m (by omega))).trans (hk_fill_s I (k + 100) m (I (k2 + 100)))) (jm_upR hImem (hk_at_R hImem (k2 + 100) m))
  refine jm_lvs (lv' := [(0, _), (1, _), (2, _)]) (jm_sub_c rfl (jm_sub_c rfl (jm_sub_c rfl (jm_sub_0 _)))) ?_
  exact lp2 _ 0 _ (Nat.lt_succ_self _) (Nat.zero_le _) (hk_fill_0 _ _ _).symm hI
set_option maxRecDepth 100000 in
set_option maxHeartbeats 4000000 in
theorem kX3_lyingAt (E : jm_E) (w : jm_W) (I : jm_M) (k : Int) (h : jm_X3 E w k) (lane y : Int) (hl : 0 ≤ lane ∧ lane ≤ 8) (hy : 0 ≤ y ∧ y ≤ 60) : jm_Mi E yX3_lyingAt wX3_lyingAt rmX3_lyingAt 0 0 w I [.ref (w.2.1 k), jm_v lane, jm_v y] (fun I' z => I' = I ∧ z = hk_lie (I (k + 100)) lane y) := by
  refine jm_in_i (cc := cX3_lyingAt) (maxL := 5) (rt := .int) RX3 (by decide +kernel) rfl rfl (Nat.le_of_ble_eq_true rfl) (by simp [Value.category]) ?_
  intro G C hR hI
  refine jm_iload_n C dX3_lyingAt_0 rfl ?_
  refine jm_bipush C dX3_lyingAt_1 (by decide +kernel) ?_
  refine jm_icmp_ge 8 C dX3_lyingAt_3 rfl (by omega) (by decide) (fun yc1 => ?_) (fun yc1 => ?_)
  · skip
    refine jm_bipush C dX3_lyingAt_8 (by decide +kernel) ?_
    refine jm_iload_n C dX3_lyingAt_10 rfl ?_
    refine jm_imul C dX3_lyingAt_11 ?_
    refine jm_iload_n C dX3_lyingAt_12 rfl ?_
    refine jm_iadd C dX3_lyingAt_13 ?_
    refine jm_istore_n C dX3_lyingAt_14 (by decide) ?_
    refine jm_iconst C dX3_lyingAt_15 ?_
    refine jm_istore C dX3_lyingAt_16 (by decide) ?_
    have lp18 : ∀ (yn18 : Nat) (m : Nat), 6 - m < yn18 → (m ≤ 6) → (hk_first (I (k + 100)) (100 * lane + y) 6 0 = hk_first (I (k + 100)) (100 * lane + y) (6 - m) m) → jm_J E G (0, 0) w I 18 [(0, .ref (w.2.1 k)), (3, jm_v ((100 * lane) + y)), (4, jm_v ((m : Nat) : Int))] [] := by
      intro yn18
      induction yn18 with
      | zero => intro m hlt18 hm hf; exact absurd hlt18 (Nat.not_lt_zero _)
      | succ yn18 ih18 =>
        intro m hlt18 hm hf
        have hun : m < 6 → hk_first (I (k + 100)) (100 * lane + y) (6 - m) m = if I (k + 100) m = 100 * lane + y then (m : Int) else hk_first (I (k + 100)) (100 * lane + y) (6 - (m + 1)) ((m + 1 : Nat) : Int) := fun hm6 => by
          rw [show 6 - m = (6 - (m + 1)) + 1 by omega]; rfl
        refine jm_iload C dX3_lyingAt_18 rfl ?_
        refine jm_aload_n C dX3_lyingAt_20 rfl ?_
        refine jm_getr (ci := 3) (f := 0) C rfl jw_u_3 h.1 h.2.1 rfl (by decide) jw_f_RX3_9 dX3_lyingAt_21 ?_
        refine jm_alen 0 6 rfl C h.2.2.1 rfl h.2.2.2 dX3_lyingAt_24 ?_
        refine jm_icmp_ge 48 C dX3_lyingAt_25 rfl (by omega) (by decide) (fun yc2 => ?_) (fun yc2 => ?_)
        · skip
          refine jm_iconst C dX3_lyingAt_48 ?_
          exact hR _ _ _ _ dX3_lyingAt_49 rfl ⟨rfl, by unfold hk_lie; rw [if_neg (by omega), hf, show m = 6 by omega]; rfl⟩
        · skip
          refine jm_aload_n C dX3_lyingAt_28 rfl ?_
          refine jm_getr (ci := 3) (f := 0) C rfl jw_u_3 h.1 h.2.1 rfl (by decide) jw_f_RX3_9 dX3_lyingAt_29 ?_
          refine jm_iload C dX3_lyingAt_32 rfl ?_
          refine jm_iald C h.2.2.1 rfl h.2.2.2 (by omega) (by omega) (by omega) dX3_lyingAt_34 (fun yr3 => ?_)
          refine jm_iload_n C dX3_lyingAt_35 rfl ?_
          refine jm_icmp_ne 42 C dX3_lyingAt_36 rfl (by omega) (by omega) (fun yc4 => ?_) (fun yc4 => ?_)
          · skip
            refine jm_iinc C dX3_lyingAt_42 (by decide) rfl ?_
            refine jm_goto 18 C dX3_lyingAt_45 rfl ?_
            refine jm_lvs (lv' := [(0, _), (3, _), (4, _)]) (jm_sub_c rfl (jm_sub_c rfl (jm_sub_c rfl (jm_sub_0 _)))) ?_
            exact ih18 (m + 1) (by omega) (by omega) (by rw [hf, hun (by omega), if_neg yc4])
          · skip
            refine jm_iload C dX3_lyingAt_39 rfl ?_
            exact hR _ _ _ _ dX3_lyingAt_41 rfl ⟨rfl, by unfold hk_lie; rw [if_neg (by omega), hf, hun (by omega), if_pos yc4]⟩
    refine jm_lvs (lv' := [(0, _), (3, _), (4, _)]) (jm_sub_c rfl (jm_sub_c rfl (jm_sub_c rfl (jm_sub_0 _)))) ?_
    exact lp18 _ 0 (Nat.lt_succ_self _) (Nat.zero_le _) rfl
  · skip
    refine jm_iconst C dX3_lyingAt_6 ?_
    exact hR _ _ _ _ dX3_lyingAt_7 rfl ⟨rfl, by unfold hk_lie; rw [if_pos (by omega)]⟩
set_option maxRecDepth 100000 in
set_option maxHeartbeats 4000000 in
theorem kX3_nearest (E : jm_E) (w : jm_W) (I : jm_M) (k : Int) (h : jm_X3 E w k) (st : Int) (hst : 0 ≤ st ∧ st ≤ 10) : jm_Mi E yX3_nearest wX3_nearest rmX3_nearest 0 0 w I [.ref (w.2.1 k), jm_v st] (fun I' z => I' = I ∧ z = hk_near (I (k + 100)) st 3) := by
  refine jm_in_i (cc := cX3_nearest) (maxL := 4) (rt := .int) RX3 (by decide +kernel) rfl rfl (Nat.le_of_ble_eq_true rfl) (by simp [Value.category]) ?_
  intro G C hR hI
  refine jm_bipush C dX3_nearest_0 (by decide +kernel) ?_
  refine jm_istore_n C dX3_nearest_2 (by decide) ?_
  refine jm_iconst C dX3_nearest_3 ?_
  refine jm_istore_n C dX3_nearest_4 (by decide) ?_
  have lp5 : ∀ (yn5 : Nat) (m : Nat) (least : Int), 3 - m < yn5 → (m ≤ 3) → (least = hk_near (I (k + 100)) st m) → jm_J E G (0, 0) w I 5 [(0, .ref (w.2.1 k)), (1, jm_v st), (2, jm_v least), (3, jm_v ((m : Nat) : Int))] [] := by
    intro yn5
    induction yn5 with
    | zero => intro m least hlt5 hm hle; exact absurd hlt5 (Nat.not_lt_zero _)
    | succ yn5 ih5 =>
      intro m least hlt5 hm hle
      have hr := hk_near_r (I (k + 100)) st m
      refine jm_iload_n C dX3_nearest_5 rfl ?_
      refine jm_iconst C dX3_nearest_6 ?_
      refine jm_icmp_ge 31 C dX3_nearest_7 rfl (by omega) (by decide) (fun yc1 => ?_) (fun yc1 => ?_)
      · skip
        refine jm_iload_n C dX3_nearest_31 rfl ?_
        exact hR _ _ _ _ dX3_nearest_32 rfl ⟨rfl, by rw [hle, show m = 3 by omega]⟩
      · skip
        refine jm_iload_n C dX3_nearest_10 rfl ?_
        refine jm_aload_n C dX3_nearest_11 rfl ?_
        refine jm_iload_n C dX3_nearest_12 rfl ?_
        refine jm_iload_n C dX3_nearest_13 rfl ?_
        refine jm_iadd C dX3_nearest_14 ?_
        refine jm_cVd (n := 1) (ci := 3) [jm_v least] C (kX3_placeOf E w I _ h _ (by omega)) jw_m_RX3_18 okX3_placeOf rfl ⟨rfl, rfl⟩ ⟨Nat.le_of_ble_eq_true rfl, Nat.le_of_ble_eq_true rfl⟩ rfl h.1 h.2.1 rfl rfl (Nat.le_of_ble_eq_true rfl) dX3_nearest_15 ⟨Nat.le_of_ble_eq_true rfl, Nat.le_of_ble_eq_true rfl⟩ (fun yz3 yh2 => ?_)
        subst yh2
        have yh2r := hk_at_R hI (k + 100) (st + ((m : Nat) : Int))
        refine jm_cNd (n := 1) [jm_v least] C (kX5_distanceOf E w I _ (by omega)) RX5 jm_n_distanceOf okX5_distanceOf rfl ⟨rfl, rfl⟩ ⟨Nat.le_of_ble_eq_true rfl, Nat.le_of_ble_eq_true rfl⟩ rfl rfl (Nat.le_of_ble_eq_true rfl) dX3_nearest_18 ⟨Nat.le_of_ble_eq_true rfl, Nat.le_of_ble_eq_true rfl⟩ (fun yz5 yh4 => ?_)
        subst yh4
        have yh4r := hk_dist_r (hk_at (I (k + 100)) (st + ((m : Nat) : Int)))
        refine jm_min C jw_m_RX3_32 jw_s_min jw_n_Math jw_c_min (Nat.le_of_ble_eq_true rfl) (Nat.le_of_ble_eq_true rfl) (Nat.le_of_ble_eq_true rfl) (Nat.le_of_ble_eq_true rfl) dX3_nearest_21 (by omega) (by omega) ?_
        refine jm_istore_n C dX3_nearest_24 (by decide) ?_
        refine jm_iinc C dX3_nearest_25 (by decide) rfl ?_
        refine jm_goto 5 C dX3_nearest_28 rfl ?_
        refine jm_lvs (lv' := [(0, _), (1, _), (2, _), (3, _)]) (jm_sub_c rfl (jm_sub_c rfl (jm_sub_c rfl (jm_sub_c rfl (jm_sub_0 _))))) ?_
        exact ih5 (m + 1) _ (by omega) (by omega) (by rw [hle]; rfl)
  refine jm_lvs (lv' := [(0, _), (1, _), (2, _), (3, _)]) (jm_sub_c rfl (jm_sub_c rfl (jm_sub_c rfl (jm_sub_c rfl (jm_sub_0 _))))) ?_
  exact lp5 _ 0 _ (Nat.lt_succ_self _) (Nat.zero_le _) rfl
set_option maxRecDepth 100000 in
set_option maxHeartbeats 4000000 in
theorem kX3_countNearer (E : jm_E) (w : jm_W) (I : jm_M) (k : Int) (h : jm_X3 E w k) (st lim : Int) (hst : 0 ≤ st ∧ st ≤ 10) (hli : jm_R lim) : jm_Mi E yX3_countNearer wX3_countNearer rmX3_countNearer 0 0 w I [.ref (w.2.1 k), jm_v st, jm_v lim] (fun I' z => I' = I ∧ z = hk_cntn (I (k + 100)) st lim 3) := by
  refine jm_in_i (cc := cX3_countNearer) (maxL := 5) (rt := .int) RX3 (by decide +kernel) rfl rfl (Nat.le_of_ble_eq_true rfl) (by simp [Value.category]) ?_
  intro G C hR hI
  refine jm_iconst C dX3_countNearer_0 ?_
  refine jm_istore_n C dX3_countNearer_1 (by decide) ?_
  refine jm_iconst C dX3_countNearer_2 ?_
  refine jm_istore C dX3_countNearer_3 (by decide) ?_
  have lp5 : ∀ (yn5 : Nat) (m : Nat) (cnt : Int), 3 - m < yn5 → (m ≤ 3) → (cnt = hk_cntn (I (k + 100)) st lim m) → jm_J E G (0, 0) w I 5 [(0, .ref (w.2.1 k)), (1, jm_v st), (2, jm_v lim), (3, jm_v cnt), (4, jm_v ((m : Nat) : Int))] [] := by
    intro yn5
    induction yn5 with
    | zero => intro m cnt hlt5 hm hle; exact absurd hlt5 (Nat.not_lt_zero _)
    | succ yn5 ih5 =>
      intro m cnt hlt5 hm hle
      refine jm_iload C dX3_countNearer_5 rfl ?_
      refine jm_iconst C dX3_countNearer_7 ?_
      refine jm_icmp_ge 35 C dX3_countNearer_8 rfl (by omega) (by decide) (fun yc1 => ?_) (fun yc1 => ?_)
      · skip
        refine jm_iload_n C dX3_countNearer_35 rfl ?_
        exact hR _ _ _ _ dX3_countNearer_36 rfl ⟨rfl, by rw [hle, show m = 3 by omega]⟩
      · skip
        refine jm_aload_n C dX3_countNearer_11 rfl ?_
        refine jm_iload_n C dX3_countNearer_12 rfl ?_
        refine jm_iload C dX3_countNearer_13 rfl ?_
        refine jm_iadd C dX3_countNearer_15 ?_
        refine jm_cVd (n := 1) (ci := 3) [] C (kX3_placeOf E w I _ h _ (by omega)) jw_m_RX3_18 okX3_placeOf rfl ⟨rfl, rfl⟩ ⟨Nat.le_of_ble_eq_true rfl, Nat.le_of_ble_eq_true rfl⟩ rfl h.1 h.2.1 rfl rfl (Nat.le_of_ble_eq_true rfl) dX3_countNearer_16 ⟨Nat.le_of_ble_eq_true rfl, Nat.le_of_ble_eq_true rfl⟩ (fun yz3 yh2 => ?_)
        subst yh2
        have yh2r := hk_at_R hI (k + 100) (st + ((m : Nat) : Int))
        refine jm_cNd (n := 1) [] C (kX5_distanceOf E w I _ (by omega)) RX5 jm_n_distanceOf okX5_distanceOf rfl ⟨rfl, rfl⟩ ⟨Nat.le_of_ble_eq_true rfl, Nat.le_of_ble_eq_true rfl⟩ rfl rfl (Nat.le_of_ble_eq_true rfl) dX3_countNearer_19 ⟨Nat.le_of_ble_eq_true rfl, Nat.le_of_ble_eq_true rfl⟩ (fun yz5 yh4 => ?_)
        subst yh4
        have yh4r := hk_dist_r (hk_at (I (k + 100)) (st + ((m : Nat) : Int)))
        refine jm_iload_n C dX3_countNearer_22 rfl ?_
        refine jm_icmp_ge 29 C dX3_countNearer_23 rfl (by omega) hli (fun yc6 => ?_) (fun yc6 => ?_)
        · skip
          refine jm_iinc C dX3_countNearer_29 (by decide) rfl ?_
          refine jm_goto 5 C dX3_countNearer_32 rfl ?_
          refine jm_lvs (lv' := [(0, _), (1, _), (2, _), (3, _), (4, _)]) (jm_sub_c rfl (jm_sub_c rfl (jm_sub_c rfl (jm_sub_c rfl (jm_sub_c rfl (jm_sub_0 _)))))) ?_
          exact ih5 (m + 1) _ (by omega) (by omega) (by rw [hle, hk_cntn]; first | rw [if_pos (by omega)] | rw [if_neg (by omega)])
        · skip
          refine jm_iinc C dX3_countNearer_26 (by decide) rfl ?_
          refine jm_iinc C dX3_countNearer_29 (by decide) rfl ?_
          refine jm_goto 5 C dX3_countNearer_32 rfl ?_
          refine jm_lvs (lv' := [(0, _), (1, _), (2, _), (3, _), (4, _)]) (jm_sub_c rfl (jm_sub_c rfl (jm_sub_c rfl (jm_sub_c rfl (jm_sub_c rfl (jm_sub_0 _)))))) ?_
          exact ih5 (m + 1) _ (by omega) (by omega) (by rw [hle, hk_cntn]; first | rw [if_pos (by omega)] | rw [if_neg (by omega)])
  refine jm_lvs (lv' := [(0, _), (1, _), (2, _), (3, _), (4, _)]) (jm_sub_c rfl (jm_sub_c rfl (jm_sub_c rfl (jm_sub_c rfl (jm_sub_c rfl (jm_sub_0 _)))))) ?_
  exact lp5 _ 0 _ (Nat.lt_succ_self _) (Nat.zero_le _) rfl
set_option maxRecDepth 100000 in
set_option maxHeartbeats 4000000 in
theorem kX3_score (E : jm_E) (w : jm_W) (I : jm_M) (k : Int) (h : jm_X3 E w k) : jm_Mi E yX3_score wX3_score rmX3_score 0 0 w I [.ref (w.2.1 k)] (fun I' z => I' = I ∧ z = hk_score (I (k + 100))) := by
  refine jm_in_i (cc := cX3_score) (maxL := 3) (rt := .int) RX3 (by decide +kernel) rfl rfl (Nat.le_of_ble_eq_true rfl) (by simp [Value.category]) ?_
  intro G C hR hI
  refine jm_aload_n C dX3_score_0 rfl ?_
  refine jm_iconst C dX3_score_1 ?_
  refine jm_cVd (n := 1) (ci := 3) [] C (kX3_nearest E w I _ h _ (by decide)) jw_m_RX3_22 okX3_nearest rfl ⟨rfl, rfl⟩ ⟨Nat.le_of_ble_eq_true rfl, Nat.le_of_ble_eq_true rfl⟩ rfl h.1 h.2.1 rfl rfl (Nat.le_of_ble_eq_true rfl) dX3_score_2 ⟨Nat.le_of_ble_eq_true rfl, Nat.le_of_ble_eq_true rfl⟩ (fun yz2 yh1 => ?_)
  subst yh1
  have yh1r := hk_near_r (I (k + 100)) 0 3
  refine jm_istore_n C dX3_score_5 (by decide) ?_
  refine jm_aload_n C dX3_score_6 rfl ?_
  refine jm_iconst C dX3_score_7 ?_
  refine jm_cVd (n := 1) (ci := 3) [] C (kX3_nearest E w I _ h _ (by decide)) jw_m_RX3_22 okX3_nearest rfl ⟨rfl, rfl⟩ ⟨Nat.le_of_ble_eq_true rfl, Nat.le_of_ble_eq_true rfl⟩ rfl h.1 h.2.1 rfl rfl (Nat.le_of_ble_eq_true rfl) dX3_score_8 ⟨Nat.le_of_ble_eq_true rfl, Nat.le_of_ble_eq_true rfl⟩ (fun yz4 yh3 => ?_)
  subst yh3
  have yh3r := hk_near_r (I (k + 100)) 3 3
  refine jm_istore_n C dX3_score_11 (by decide) ?_
  refine jm_iload_n C dX3_score_12 rfl ?_
  refine jm_iload_n C dX3_score_13 rfl ?_
  refine jm_icmp_ge 24 C dX3_score_14 rfl (by omega) (by omega) (fun yc5 => ?_) (fun yc5 => ?_)
  · skip
    refine jm_iload_n C dX3_score_24 rfl ?_
    refine jm_iload_n C dX3_score_25 rfl ?_
    refine jm_icmp_ge 39 C dX3_score_26 rfl (by omega) (by omega) (fun yc6 => ?_) (fun yc6 => ?_)
    · skip
      refine jm_iconst C dX3_score_39 ?_
      exact hR _ _ _ _ dX3_score_40 rfl ⟨rfl, by unfold hk_score; first | rw [if_pos (by omega)] | rw [if_neg (by omega), if_pos (by omega)] | rw [if_neg (by omega), if_neg (by omega)]⟩
    · skip
      refine jm_aload_n C dX3_score_29 rfl ?_
      refine jm_iconst C dX3_score_30 ?_
      refine jm_iload_n C dX3_score_31 rfl ?_
      refine jm_cVd (n := 2) (ci := 3) [] C (kX3_countNearer E w I _ h _ _ (by omega) (by omega)) jw_m_RX3_25 okX3_countNearer rfl ⟨rfl, rfl⟩ ⟨Nat.le_of_ble_eq_true rfl, Nat.le_of_ble_eq_true rfl⟩ rfl h.1 h.2.1 rfl rfl (Nat.le_of_ble_eq_true rfl) dX3_score_32 ⟨Nat.le_of_ble_eq_true rfl, Nat.le_of_ble_eq_true rfl⟩ (fun yz8 yh7 => ?_)
      subst yh7
      have yh7r := hk_cntn_r (I (k + 100)) 3 (hk_near (I (k + 100)) 0 3) 3
      refine jm_ineg C dX3_score_35 ?_
      refine jm_goto 40 C dX3_score_36 rfl ?_
      exact hR _ _ _ _ dX3_score_40 rfl ⟨rfl, by unfold hk_score; first | rw [if_pos (by omega)] | rw [if_neg (by omega), if_pos (by omega)] | rw [if_neg (by omega), if_neg (by omega)]⟩
  · skip
    refine jm_aload_n C dX3_score_17 rfl ?_
    refine jm_iconst C dX3_score_18 ?_
    refine jm_iload_n C dX3_score_19 rfl ?_
    refine jm_cVd (n := 2) (ci := 3) [] C (kX3_countNearer E w I _ h _ _ (by omega) (by omega)) jw_m_RX3_25 okX3_countNearer rfl ⟨rfl, rfl⟩ ⟨Nat.le_of_ble_eq_true rfl, Nat.le_of_ble_eq_true rfl⟩ rfl h.1 h.2.1 rfl rfl (Nat.le_of_ble_eq_true rfl) dX3_score_20 ⟨Nat.le_of_ble_eq_true rfl, Nat.le_of_ble_eq_true rfl⟩ (fun yz10 yh9 => ?_)
    subst yh9
    have yh9r := hk_cntn_r (I (k + 100)) 0 (hk_near (I (k + 100)) 3 3) 3
    exact hR _ _ _ _ dX3_score_23 rfl ⟨rfl, by unfold hk_score; first | rw [if_pos (by omega)] | rw [if_neg (by omega), if_pos (by omega)] | rw [if_neg (by omega), if_neg (by omega)]⟩
set_option maxRecDepth 100000 in
set_option maxHeartbeats 4000000 in
theorem kX3_scoreOneByOne (E : jm_E) (w : jm_W) (I : jm_M) (k : Int) (h : jm_X3 E w k) : jm_Mi E yX3_scoreOneByOne wX3_scoreOneByOne rmX3_scoreOneByOne 0 0 w I [.ref (w.2.1 k)] (fun I' z => I' = I ∧ z = hk_one (I (k + 100)) 6) := by
  refine jm_in_i (cc := cX3_scoreOneByOne) (maxL := 6) (rt := .int) RX3 (by decide +kernel) rfl rfl (Nat.le_of_ble_eq_true rfl) (by simp [Value.category]) ?_
  intro G C hR hI
  refine jm_iconst C dX3_scoreOneByOne_0 ?_
  refine jm_istore_n C dX3_scoreOneByOne_1 (by decide) ?_
  refine jm_iconst C dX3_scoreOneByOne_2 ?_
  refine jm_istore_n C dX3_scoreOneByOne_3 (by decide) ?_
  have lp4 : ∀ (yn4 : Nat) (m : Nat) (sc : Int), 6 - m < yn4 → (m ≤ 6) → (sc = hk_one (I (k + 100)) m) → jm_J E G (0, 0) w I 4 [(0, .ref (w.2.1 k)), (1, jm_v sc), (2, jm_v ((m : Nat) : Int))] [] := by
    intro yn4
    induction yn4 with
    | zero => intro m sc hlt4 hm hle; exact absurd hlt4 (Nat.not_lt_zero _)
    | succ yn4 ih4 =>
      intro m sc hlt4 hm hle
      refine jm_iload_n C dX3_scoreOneByOne_4 rfl ?_
      refine jm_bipush C dX3_scoreOneByOne_5 (by decide +kernel) ?_
      refine jm_icmp_ge 80 C dX3_scoreOneByOne_7 rfl (by omega) (by decide) (fun yc1 => ?_) (fun yc1 => ?_)
      · skip
        refine jm_iload_n C dX3_scoreOneByOne_80 rfl ?_
        exact hR _ _ _ _ dX3_scoreOneByOne_81 rfl ⟨rfl, by rw [hle, show m = 6 by omega]⟩
      · skip
        refine jm_iload_n C dX3_scoreOneByOne_10 rfl ?_
        refine jm_iconst C dX3_scoreOneByOne_11 ?_
        have yj4 : ∀ (yz3 : Int), yz3 = (if 3 ≤ ((m : Nat) : Int) then 0 else 1) → jm_R yz3 → jm_J E G (0, 0) w I 20 [(0, .ref (w.2.1 k)), (1, jm_v sc), (2, jm_v ((m : Nat) : Int))] [jm_v yz3] := by
          intro yz3 eyz3 ryz3
          refine jm_istore_n C dX3_scoreOneByOne_20 (by decide) ?_
          refine jm_aload_n C dX3_scoreOneByOne_21 rfl ?_
          refine jm_iload_n C dX3_scoreOneByOne_22 rfl ?_
          refine jm_cVd (n := 1) (ci := 3) [] C (kX3_placeOf E w I _ h _ (by omega)) jw_m_RX3_18 okX3_placeOf rfl ⟨rfl, rfl⟩ ⟨Nat.le_of_ble_eq_true rfl, Nat.le_of_ble_eq_true rfl⟩ rfl h.1 h.2.1 rfl rfl (Nat.le_of_ble_eq_true rfl) dX3_scoreOneByOne_23 ⟨Nat.le_of_ble_eq_true rfl, Nat.le_of_ble_eq_true rfl⟩ (fun yz6 yh5 => ?_)
          subst yh5
          have yh5r := hk_at_R hI (k + 100) ((m : Nat) : Int)
          refine jm_cNd (n := 1) [] C (kX5_distanceOf E w I _ (by omega)) RX5 jm_n_distanceOf okX5_distanceOf rfl ⟨rfl, rfl⟩ ⟨Nat.le_of_ble_eq_true rfl, Nat.le_of_ble_eq_true rfl⟩ rfl rfl (Nat.le_of_ble_eq_true rfl) dX3_scoreOneByOne_26 ⟨Nat.le_of_ble_eq_true rfl, Nat.le_of_ble_eq_true rfl⟩ (fun yz8 yh7 => ?_)
          subst yh7
          have yh7r := hk_dist_r (hk_at (I (k + 100)) ((m : Nat) : Int))
          refine jm_istore C dX3_scoreOneByOne_29 (by decide) ?_
          refine jm_aload_n C dX3_scoreOneByOne_31 rfl ?_
          refine jm_iload_n C dX3_scoreOneByOne_32 rfl ?_
          have yj11 : ∀ (yz10 : Int), yz10 = (if yz3 = 0 then 0 else 3) → jm_R yz10 → jm_J E G (0, 0) w I 41 [(0, .ref (w.2.1 k)), (1, jm_v sc), (2, jm_v ((m : Nat) : Int)), (3, jm_v yz3), (4, jm_v (hk_dist (hk_at (I (k + 100)) ((m : Nat) : Int))))] [jm_v yz10, .ref (w.2.1 k)] := by
            intro yz10 eyz10 ryz10
            have hz10 : yz10 = if (m : Int) < 3 then 3 else 0 := by
              rcases Int.lt_or_le (m : Int) 3 with q | q
              · rw [eyz10, eyz3, if_neg (show ¬ (3 : Int) ≤ m by omega), if_pos q]; rfl
              · rw [eyz10, eyz3, if_pos q, if_neg (show ¬ (m : Int) < 3 by omega)]; rfl
            refine jm_iload C dX3_scoreOneByOne_41 rfl ?_
            refine jm_iconst C dX3_scoreOneByOne_43 ?_
            refine jm_iadd C dX3_scoreOneByOne_44 ?_
            refine jm_cVd (n := 2) (ci := 3) [] C (kX3_countNearer E w I _ h _ _ (by omega) (by omega)) jw_m_RX3_25 okX3_countNearer rfl ⟨rfl, rfl⟩ ⟨Nat.le_of_ble_eq_true rfl, Nat.le_of_ble_eq_true rfl⟩ rfl h.1 h.2.1 rfl rfl (Nat.le_of_ble_eq_true rfl) dX3_scoreOneByOne_45 ⟨Nat.le_of_ble_eq_true rfl, Nat.le_of_ble_eq_true rfl⟩ (fun yz13 yh12 => ?_)
            subst yh12
            have yh12r := hk_cntn_r (I (k + 100)) yz10 ((hk_dist (hk_at (I (k + 100)) ((m : Nat) : Int))) + 1) 3
            refine jm_istore C dX3_scoreOneByOne_48 (by decide) ?_
            refine jm_iload C dX3_scoreOneByOne_50 rfl ?_
            refine jm_bipush C dX3_scoreOneByOne_52 (by decide +kernel) ?_
            refine jm_icmp_gt 74 C dX3_scoreOneByOne_54 rfl (by omega) (by decide) (fun yc14 => ?_) (fun yc14 => ?_)
            · skip
              refine jm_iinc C dX3_scoreOneByOne_74 (by decide) rfl ?_
              refine jm_goto 4 C dX3_scoreOneByOne_77 rfl ?_
              refine jm_lvs (lv' := [(0, _), (1, _), (2, _)]) (jm_sub_c rfl (jm_sub_c rfl (jm_sub_c rfl (jm_sub_0 _)))) ?_
              exact ih4 (m + 1) _ (by omega) (by omega) (by rw [hle, hk_one, hk_onet_no hz10 (Or.inl yc14), Int.add_zero])
            · skip
              refine jm_iload C dX3_scoreOneByOne_57 rfl ?_
              refine jm_if_ne 74 C dX3_scoreOneByOne_59 rfl (by omega) (fun yc15 => ?_) (fun yc15 => ?_)
              · skip
                refine jm_iinc C dX3_scoreOneByOne_74 (by decide) rfl ?_
                refine jm_goto 4 C dX3_scoreOneByOne_77 rfl ?_
                refine jm_lvs (lv' := [(0, _), (1, _), (2, _)]) (jm_sub_c rfl (jm_sub_c rfl (jm_sub_c rfl (jm_sub_0 _)))) ?_
                exact ih4 (m + 1) _ (by omega) (by omega) (by rw [hle, hk_one, hk_onet_no hz10 (Or.inr yc15), Int.add_zero])
              · skip
                refine jm_iload_n C dX3_scoreOneByOne_62 rfl ?_
                refine jm_iload_n C dX3_scoreOneByOne_63 rfl ?_
                have yj18 : ∀ (yz17 : Int), yz17 = (if yz3 = 0 then (-1) else 1) → jm_R yz17 → jm_J E G (0, 0) w I 72 [(0, .ref (w.2.1 k)), (2, jm_v ((m : Nat) : Int))] [jm_v yz17, jm_v sc] := by
                  intro yz17 eyz17 ryz17
                  have hv : yz17 = if (m : Int) < 3 then 1 else -1 := by
                    rcases Int.lt_or_le (m : Int) 3 with q | q
                    · rw [eyz17, eyz3, if_neg (show ¬ (3 : Int) ≤ m by omega), if_pos q]; rfl
                    · rw [eyz17, eyz3, if_pos q, if_neg (show ¬ (m : Int) < 3 by omega)]; rfl
                  refine jm_iadd C dX3_scoreOneByOne_72 ?_
                  refine jm_istore_n C dX3_scoreOneByOne_73 (by decide) ?_
                  refine jm_iinc C dX3_scoreOneByOne_74 (by decide) rfl ?_
                  refine jm_goto 4 C dX3_scoreOneByOne_77 rfl ?_
                  refine jm_lvs (lv' := [(0, _), (1, _), (2, _)]) (jm_sub_c rfl (jm_sub_c rfl (jm_sub_c rfl (jm_sub_0 _)))) ?_
                  exact ih4 (m + 1) _ (by omega) (by omega) (by rw [hle, hk_one, hk_onet_yes hz10 yc14 yc15 hv])
                refine jm_if_eq 71 C dX3_scoreOneByOne_64 rfl (by omega) (fun yc16 => ?_) (fun yc16 => ?_)
                · skip
                  refine jm_iconst C dX3_scoreOneByOne_71 ?_
                  refine jm_lvs (lv' := [(0, _), (2, _)]) (jm_sub_c rfl (jm_sub_c rfl (jm_sub_0 _))) ?_
                  exact yj18 _ (by rw [if_pos yc16]) (by decide)
                · skip
                  refine jm_iconst C dX3_scoreOneByOne_67 ?_
                  refine jm_goto 72 C dX3_scoreOneByOne_68 rfl ?_
                  refine jm_lvs (lv' := [(0, _), (2, _)]) (jm_sub_c rfl (jm_sub_c rfl (jm_sub_0 _))) ?_
                  exact yj18 _ (by rw [if_neg yc16]) (by decide)
          refine jm_if_eq 40 C dX3_scoreOneByOne_33 rfl (by omega) (fun yc9 => ?_) (fun yc9 => ?_)
          · skip
            refine jm_iconst C dX3_scoreOneByOne_40 ?_
            refine jm_lvs (lv' := [(0, _), (1, _), (2, _), (3, _), (4, _)]) (jm_sub_c rfl (jm_sub_c rfl (jm_sub_c rfl (jm_sub_c rfl (jm_sub_c rfl (jm_sub_0 _)))))) ?_
            exact yj11 _ (by rw [if_pos yc9]) (by decide)
          · skip
            refine jm_iconst C dX3_scoreOneByOne_36 ?_
            refine jm_goto 41 C dX3_scoreOneByOne_37 rfl ?_
            refine jm_lvs (lv' := [(0, _), (1, _), (2, _), (3, _), (4, _)]) (jm_sub_c rfl (jm_sub_c rfl (jm_sub_c rfl (jm_sub_c rfl (jm_sub_c rfl (jm_sub_0 _)))))) ?_
            exact yj11 _ (by rw [if_neg yc9]) (by decide)
        refine jm_icmp_ge 19 C dX3_scoreOneByOne_12 rfl (by omega) (by decide) (fun yc2 => ?_) (fun yc2 => ?_)
        · skip
          refine jm_iconst C dX3_scoreOneByOne_19 ?_
          refine jm_lvs (lv' := [(0, _), (1, _), (2, _)]) (jm_sub_c rfl (jm_sub_c rfl (jm_sub_c rfl (jm_sub_0 _)))) ?_
          exact yj4 _ (by rw [if_pos yc2]) (by decide)
        · skip
          refine jm_iconst C dX3_scoreOneByOne_15 ?_
          refine jm_goto 20 C dX3_scoreOneByOne_16 rfl ?_
          refine jm_lvs (lv' := [(0, _), (1, _), (2, _)]) (jm_sub_c rfl (jm_sub_c rfl (jm_sub_c rfl (jm_sub_0 _)))) ?_
          exact yj4 _ (by rw [if_neg yc2]) (by decide)
  refine jm_lvs (lv' := [(0, _), (1, _), (2, _)]) (jm_sub_c rfl (jm_sub_c rfl (jm_sub_c rfl (jm_sub_0 _)))) ?_
  exact lp4 _ 0 _ (Nat.lt_succ_self _) (Nat.zero_le _) rfl
set_option maxRecDepth 100000 in
set_option maxHeartbeats 4000000 in
theorem kX1_isReady (E : jm_E) (w : jm_W) (I : jm_M) (k : Int) (h : jm_X1 E w k) : jm_Mi E yX1_isReady wX1_isReady rmX1_isReady 0 0 w I [.ref (w.2.1 k)] (fun I' z => I' = I ∧ ((I k 1 ≠ 0 ∧ I k 2 = -1 ∧ z = 1) ∨ (¬ (I k 1 ≠ 0 ∧ I k 2 = -1) ∧ z = 0))) := by
  refine jm_in_i (cc := cX1_isReady) (maxL := 1) (rt := .boolean) RX1 (by decide +kernel) rfl rfl (Nat.le_of_ble_eq_true rfl) (by simp [Value.category]) ?_
  intro G C hR hI
  refine jm_aload_n C dX1_isReady_0 rfl ?_
  refine jm_get (ci := 1) (f := 1) 1 rfl C rfl jw_u_1 h.1 h.2.1 rfl (by decide) jw_f_RX1_15 dX1_isReady_1 (fun yr1 => ?_)
  refine jm_if_eq 19 C dX1_isReady_4 rfl (by omega) (fun yc2 => ?_) (fun yc2 => ?_)
  · skip
    refine jm_iconst C dX1_isReady_19 ?_
    exact hR _ _ _ _ dX1_isReady_20 (jm_nz (by decide)) ⟨rfl, by omega⟩
  · skip
    refine jm_aload_n C dX1_isReady_7 rfl ?_
    refine jm_get (ci := 1) (f := 2) 2 rfl C rfl jw_u_1 h.1 h.2.1 rfl (by decide) jw_f_RX1_19 dX1_isReady_8 (fun yr3 => ?_)
    refine jm_iconst C dX1_isReady_11 ?_
    refine jm_icmp_ne 19 C dX1_isReady_12 rfl (by omega) (by decide) (fun yc4 => ?_) (fun yc4 => ?_)
    · skip
      refine jm_iconst C dX1_isReady_19 ?_
      exact hR _ _ _ _ dX1_isReady_20 (jm_nz (by decide)) ⟨rfl, by omega⟩
    · skip
      refine jm_iconst C dX1_isReady_15 ?_
      refine jm_goto 20 C dX1_isReady_16 rfl ?_
      exact hR _ _ _ _ dX1_isReady_20 (jm_nz (by decide)) ⟨rfl, by omega⟩
set_option maxRecDepth 100000 in
set_option maxHeartbeats 4000000 in
theorem kX1_wornAt (E : jm_E) (w : jm_W) (I : jm_M) (k : Int) (h : jm_X1 E w k) (lane y : Int) (hl : 0 ≤ lane ∧ lane ≤ 8) (hy : 0 ≤ y ∧ y ≤ 60) : jm_Mi E yX1_wornAt wX1_wornAt rmX1_wornAt 0 0 w I [.ref (w.2.1 k), jm_v lane, jm_v y] (fun I' z => I' = I ∧ z = I (k + 100) (lane * 61 + y)) := by
  refine jm_in_i (cc := cX1_wornAt) (maxL := 4) (rt := .int) RX1 (by decide +kernel) rfl rfl (Nat.le_of_ble_eq_true rfl) (by simp [Value.category]) ?_
  intro G C hR hI
  refine jm_iload_n C dX1_wornAt_0 rfl ?_
  refine jm_bipush C dX1_wornAt_1 (by decide +kernel) ?_
  refine jm_imul C dX1_wornAt_3 ?_
  refine jm_iload_n C dX1_wornAt_4 rfl ?_
  refine jm_iadd C dX1_wornAt_5 ?_
  refine jm_istore_n C dX1_wornAt_6 (by decide) ?_
  refine jm_iload_n C dX1_wornAt_7 rfl ?_
  refine jm_if_lt 29 C dX1_wornAt_8 rfl (by omega) (fun yc1 => ?_) (fun yc1 => ?_)
  · skip
    refine jm_iconst C dX1_wornAt_29 ?_
    exact hR _ _ _ _ dX1_wornAt_30 rfl (by first | exact ⟨rfl, rfl⟩ | (exfalso; omega))
  · skip
    refine jm_iload_n C dX1_wornAt_11 rfl ?_
    refine jm_aload_n C dX1_wornAt_12 rfl ?_
    refine jm_getr (ci := 1) (f := 0) C rfl jw_u_1 h.1 h.2.1 rfl (by decide) jw_f_RX1_9 dX1_wornAt_13 ?_
    refine jm_alen 0 549 rfl C h.2.2.1 rfl h.2.2.2 dX1_wornAt_16 ?_
    refine jm_icmp_ge 29 C dX1_wornAt_17 rfl (by omega) (by decide) (fun yc2 => ?_) (fun yc2 => ?_)
    · skip
      refine jm_iconst C dX1_wornAt_29 ?_
      exact hR _ _ _ _ dX1_wornAt_30 rfl (by first | exact ⟨rfl, rfl⟩ | (exfalso; omega))
    · skip
      refine jm_aload_n C dX1_wornAt_20 rfl ?_
      refine jm_getr (ci := 1) (f := 0) C rfl jw_u_1 h.1 h.2.1 rfl (by decide) jw_f_RX1_9 dX1_wornAt_21 ?_
      refine jm_iload_n C dX1_wornAt_24 rfl ?_
      refine jm_iald C h.2.2.1 rfl h.2.2.2 (by omega) (by omega) (by omega) dX1_wornAt_25 (fun yr3 => ?_)
      refine jm_goto 30 C dX1_wornAt_26 rfl ?_
      exact hR _ _ _ _ dX1_wornAt_30 rfl (by first | exact ⟨rfl, rfl⟩ | (exfalso; omega))
set_option maxRecDepth 100000 in
set_option maxHeartbeats 4000000 in
theorem kX1_wearDown (E : jm_E) (w : jm_W) (I : jm_M) (k : Int) (h : jm_X1 E w k) (lane y : Int) (hl : 0 ≤ lane ∧ lane ≤ 8) (hy : 0 ≤ y ∧ y ≤ 60) : jm_Mv E yX1_wearDown wX1_wearDown rmX1_wearDown 0 0 w I [.ref (w.2.1 k), jm_v lane, jm_v y] (fun I' => I' = if I (k + 100) (lane * 61 + y) < 9 then jm_up I (k + 100) (lane * 61 + y) (I (k + 100) (lane * 61 + y) + 1) else I) := by
  refine jm_in_v (cc := cX1_wearDown) (maxL := 4) RX1 (by decide +kernel) rfl rfl (Nat.le_of_ble_eq_true rfl) (by simp [Value.category]) ?_
  intro G C hR hI
  refine jm_iload_n C dX1_wearDown_0 rfl ?_
  refine jm_bipush C dX1_wearDown_1 (by decide +kernel) ?_
  refine jm_imul C dX1_wearDown_3 ?_
  refine jm_iload_n C dX1_wearDown_4 rfl ?_
  refine jm_iadd C dX1_wearDown_5 ?_
  refine jm_istore_n C dX1_wearDown_6 (by decide) ?_
  refine jm_iload_n C dX1_wearDown_7 rfl ?_
  refine jm_if_lt 41 C dX1_wearDown_8 rfl (by omega) (fun yc1 => ?_) (fun yc1 => ?_)
  · skip
    exact hR _ _ _ dX1_wearDown_41 (by first | (exfalso; omega) | rw [if_pos (by omega)] | rw [if_neg (by omega)])
  · skip
    refine jm_iload_n C dX1_wearDown_11 rfl ?_
    refine jm_aload_n C dX1_wearDown_12 rfl ?_
    refine jm_getr (ci := 1) (f := 0) C rfl jw_u_1 h.1 h.2.1 rfl (by decide) jw_f_RX1_9 dX1_wearDown_13 ?_
    refine jm_alen 0 549 rfl C h.2.2.1 rfl h.2.2.2 dX1_wearDown_16 ?_
    refine jm_icmp_ge 41 C dX1_wearDown_17 rfl (by omega) (by decide) (fun yc2 => ?_) (fun yc2 => ?_)
    · skip
      exact hR _ _ _ dX1_wearDown_41 (by first | (exfalso; omega) | rw [if_pos (by omega)] | rw [if_neg (by omega)])
    · skip
      refine jm_aload_n C dX1_wearDown_20 rfl ?_
      refine jm_getr (ci := 1) (f := 0) C rfl jw_u_1 h.1 h.2.1 rfl (by decide) jw_f_RX1_9 dX1_wearDown_21 ?_
      refine jm_iload_n C dX1_wearDown_24 rfl ?_
      refine jm_iald C h.2.2.1 rfl h.2.2.2 (by omega) (by omega) (by omega) dX1_wearDown_25 (fun yr3 => ?_)
      refine jm_bipush C dX1_wearDown_26 (by decide +kernel) ?_
      refine jm_icmp_ge 41 C dX1_wearDown_28 rfl (by omega) (by decide) (fun yc4 => ?_) (fun yc4 => ?_)
      · skip
        exact hR _ _ _ dX1_wearDown_41 (by first | (exfalso; omega) | rw [if_pos (by omega)] | rw [if_neg (by omega)])
      · skip
        refine jm_aload_n C dX1_wearDown_31 rfl ?_
        refine jm_getr (ci := 1) (f := 0) C rfl jw_u_1 h.1 h.2.1 rfl (by decide) jw_f_RX1_9 dX1_wearDown_32 ?_
        refine jm_iload_n C dX1_wearDown_35 rfl ?_
        refine jm_dup2 C dX1_wearDown_36 rfl rfl ?_
        refine jm_iald C h.2.2.1 rfl h.2.2.2 (by omega) (by omega) (by omega) dX1_wearDown_37 (fun yr5 => ?_)
        refine jm_iconst C dX1_wearDown_38 ?_
        refine jm_iadd C dX1_wearDown_39 ?_
        refine jm_iast C h.2.2.1 rfl h.2.2.2 (by omega) (by omega) (by omega) dX1_wearDown_40 (by omega) ?_
        exact hR _ _ _ dX1_wearDown_41 (by first | (exfalso; omega) | rw [if_pos (by omega)] | rw [if_neg (by omega)])
set_option maxRecDepth 100000 in
set_option maxHeartbeats 4000000 in
theorem kX1_allWorn (E : jm_E) (w : jm_W) (I : jm_M) (k : Int) (h : jm_X1 E w k) : jm_Mi E yX1_allWorn wX1_allWorn rmX1_allWorn 0 0 w I [.ref (w.2.1 k)] (fun I' z => I' = I ∧ z = hk_sum (I (k + 100)) 549) := by
  refine jm_in_i (cc := cX1_allWorn) (maxL := 3) (rt := .int) RX1 (by decide +kernel) rfl rfl (Nat.le_of_ble_eq_true rfl) (by simp [Value.category]) ?_
  intro G C hR hI
  refine jm_iconst C dX1_allWorn_0 ?_
  refine jm_istore_n C dX1_allWorn_1 (by decide) ?_
  refine jm_iconst C dX1_allWorn_2 ?_
  refine jm_istore_n C dX1_allWorn_3 (by decide) ?_
  have lp4 : ∀ (yn4 : Nat) (m : Nat) (sm : Int), 549 - m < yn4 → (m ≤ 549) → (sm = hk_sum (I (k + 100)) m) → jm_J E G (0, 0) w I 4 [(0, .ref (w.2.1 k)), (1, jm_v sm), (2, jm_v ((m : Nat) : Int))] [] := by
    intro yn4
    induction yn4 with
    | zero => intro m sm hlt4 hm hle; exact absurd hlt4 (Nat.not_lt_zero _)
    | succ yn4 ih4 =>
      intro m sm hlt4 hm hle
      refine jm_iload_n C dX1_allWorn_4 rfl ?_
      refine jm_aload_n C dX1_allWorn_5 rfl ?_
      refine jm_getr (ci := 1) (f := 0) C rfl jw_u_1 h.1 h.2.1 rfl (by decide) jw_f_RX1_9 dX1_allWorn_6 ?_
      refine jm_alen 0 549 rfl C h.2.2.1 rfl h.2.2.2 dX1_allWorn_9 ?_
      refine jm_icmp_ge 28 C dX1_allWorn_10 rfl (by omega) (by decide) (fun yc1 => ?_) (fun yc1 => ?_)
      · skip
        refine jm_iload_n C dX1_allWorn_28 rfl ?_
        exact hR _ _ _ _ dX1_allWorn_29 rfl ⟨rfl, by rw [hle, show m = 549 by omega]⟩
      · skip
        refine jm_iload_n C dX1_allWorn_13 rfl ?_
        refine jm_aload_n C dX1_allWorn_14 rfl ?_
        refine jm_getr (ci := 1) (f := 0) C rfl jw_u_1 h.1 h.2.1 rfl (by decide) jw_f_RX1_9 dX1_allWorn_15 ?_
        refine jm_iload_n C dX1_allWorn_18 rfl ?_
        refine jm_iald C h.2.2.1 rfl h.2.2.2 (by omega) (by omega) (by omega) dX1_allWorn_19 (fun yr2 => ?_)
        refine jm_iadd C dX1_allWorn_20 ?_
        refine jm_istore_n C dX1_allWorn_21 (by decide) ?_
        refine jm_iinc C dX1_allWorn_22 (by decide) rfl ?_
        refine jm_goto 4 C dX1_allWorn_25 rfl ?_
        refine jm_lvs (lv' := [(0, _), (1, _), (2, _)]) (jm_sub_c rfl (jm_sub_c rfl (jm_sub_c rfl (jm_sub_0 _)))) ?_
        exact ih4 (m + 1) _ (by omega) (by omega) (by rw [hle]; rfl)
  refine jm_lvs (lv' := [(0, _), (1, _), (2, _)]) (jm_sub_c rfl (jm_sub_c rfl (jm_sub_c rfl (jm_sub_0 _)))) ?_
  exact lp4 _ 0 _ (Nat.lt_succ_self _) (Nat.zero_le _) rfl
set_option maxRecDepth 100000 in
set_option maxHeartbeats 4000000 in
theorem kX1_renew (E : jm_E) (w : jm_W) (I : jm_M) (k : Int) (h : jm_X1 E w k) : jm_Mv E yX1_renew wX1_renew rmX1_renew 0 0 w I [.ref (w.2.1 k)] (fun I' => I' = hk_fill (jm_up I k 1 1) (k + 100) 549 (fun _ => 0)) := by
  refine jm_in_v (cc := cX1_renew) (maxL := 2) RX1 (by decide +kernel) rfl rfl (Nat.le_of_ble_eq_true rfl) (by simp [Value.category]) ?_
  intro G C hR hI
  refine jm_aload_n C dX1_renew_0 rfl ?_
  refine jm_iconst C dX1_renew_1 ?_
  refine jm_put (ci := 1) (f := 1) (ty := .boolean) 1 rfl C rfl tyX1 tyX1_ok nmX1 jw_u_1 h.1 h.2.1 rfl (by decide) jw_f_RX1_15 rfl (by decide +kernel) (jm_nz (by decide)) (jm_fz (by decide)) dX1_renew_2 (by decide) ?_
  refine jm_iconst C dX1_renew_5 ?_
  refine jm_istore_n C dX1_renew_6 (by decide) ?_
  have lp7 : ∀ (yn7 : Nat) (m : Nat) (I2 : jm_M), 549 - m < yn7 → (m ≤ 549) → (I2 = hk_fill (jm_up I k 1 1) (k + 100) m (fun _ => 0)) → (∀ k j, jm_R (I2 k j)) → jm_J E G (0, 0) w I2 7 [(0, .ref (w.2.1 k)), (1, jm_v ((m : Nat) : Int))] [] := by
    intro yn7
    induction yn7 with
    | zero => intro m I2 hlt7 hm hI2 hImem; exact absurd hlt7 (Nat.not_lt_zero _)
    | succ yn7 ih7 =>
      intro m I2 hlt7 hm hI2 hImem
      refine jm_iload_n C dX1_renew_7 rfl ?_
      refine jm_aload_n C dX1_renew_8 rfl ?_
      refine jm_getr (ci := 1) (f := 0) C rfl jw_u_1 h.1 h.2.1 rfl (by decide) jw_f_RX1_9 dX1_renew_9 ?_
      refine jm_alen 0 549 rfl C h.2.2.1 rfl h.2.2.2 dX1_renew_12 ?_
      refine jm_icmp_ge 29 C dX1_renew_13 rfl (by omega) (by decide) (fun yc1 => ?_) (fun yc1 => ?_)
      · skip
        exact hR _ _ _ dX1_renew_29 (by rw [hI2, show m = 549 by omega]; rfl)
      · skip
        refine jm_aload_n C dX1_renew_16 rfl ?_
        refine jm_getr (ci := 1) (f := 0) C rfl jw_u_1 h.1 h.2.1 rfl (by decide) jw_f_RX1_9 dX1_renew_17 ?_
        refine jm_iload_n C dX1_renew_20 rfl ?_
        refine jm_iconst C dX1_renew_21 ?_
        refine jm_iast C h.2.2.1 rfl h.2.2.2 (by omega) (by omega) (by omega) dX1_renew_22 (by decide) ?_
        refine jm_iinc C dX1_renew_23 (by decide) rfl ?_
        refine jm_goto 7 C dX1_renew_26 rfl ?_
        refine jm_lvs (lv' := [(0, _), (1, _)]) (jm_sub_c rfl (jm_sub_c rfl (jm_sub_0 _))) ?_
        exact ih7 (m + 1) _ (by omega) (by omega) (by rw [hI2]; exact hk_fill_s (jm_up I k 1 1) (k + 100) m (fun _ => 0)) (jm_upR hImem (by decide))
  refine jm_lvs (lv' := [(0, _), (1, _)]) (jm_sub_c rfl (jm_sub_c rfl (jm_sub_0 _))) ?_
  exact lp7 _ 0 _ (Nat.lt_succ_self _) (Nat.zero_le _) (hk_fill_0 _ _ _).symm (jm_upR hI (by decide))
set_option maxRecDepth 100000 in
set_option maxHeartbeats 4000000 in
theorem kX4_lastStonesPerGame (E : jm_E) (w : jm_W) (I : jm_M) (k : Int) (h : jm_X4 E w k) : jm_Mi E yX4_lastStonesPerGame wX4_lastStonesPerGame rmX4_lastStonesPerGame 0 0 w I [.ref (w.2.1 k)] (fun I' z => I' = I ∧ z = (if 0 < I k 1 then (I k 2).tdiv (I k 1) else 30)) := by
  refine jm_in_i (cc := cX4_lastStonesPerGame) (maxL := 1) (rt := .int) RX4 (by decide +kernel) rfl rfl (Nat.le_of_ble_eq_true rfl) (by simp [Value.category]) ?_
  intro G C hR hI
  refine jm_aload_n C dX4_lastStonesPerGame_0 rfl ?_
  refine jm_get (ci := 4) (f := 1) 1 rfl C rfl jw_u_4 h.1 h.2 rfl (by decide) jw_f_RX4_9 dX4_lastStonesPerGame_1 (fun yr1 => ?_)
  refine jm_if_le 19 C dX4_lastStonesPerGame_4 rfl (by omega) (fun yc2 => ?_) (fun yc2 => ?_)
  · skip
    refine jm_bipush C dX4_lastStonesPerGame_19 (by decide +kernel) ?_
    exact hR _ _ _ _ dX4_lastStonesPerGame_21 rfl ⟨rfl, by first | rw [if_pos (by omega)] | rw [if_neg (by omega)]⟩
  · skip
    refine jm_aload_n C dX4_lastStonesPerGame_7 rfl ?_
    refine jm_get (ci := 4) (f := 2) 2 rfl C rfl jw_u_4 h.1 h.2 rfl (by decide) jw_f_RX4_15 dX4_lastStonesPerGame_8 (fun yr3 => ?_)
    refine jm_aload_n C dX4_lastStonesPerGame_11 rfl ?_
    refine jm_get (ci := 4) (f := 1) 1 rfl C rfl jw_u_4 h.1 h.2 rfl (by decide) jw_f_RX4_9 dX4_lastStonesPerGame_12 (fun yr4 => ?_)
    refine jm_idiv C dX4_lastStonesPerGame_15 (by omega) (by omega) (by omega) ?_
    refine jm_goto 21 C dX4_lastStonesPerGame_16 rfl ?_
    exact hR _ _ _ _ dX4_lastStonesPerGame_21 rfl ⟨rfl, by first | rw [if_pos (by omega)] | rw [if_neg (by omega)]⟩
