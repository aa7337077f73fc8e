set_option maxRecDepth 100000 in
set_option maxHeartbeats 4000000 in
theorem kX6_in (E : jm_E) (w : jm_W) (I : jm_M) (v lo hi : Int) (hv : jm_R v) (hlo : jm_R lo) (hhi : jm_R hi) : jm_Mi E yX6_in wX6_in rmX6_in 0 0 w I [jm_v v, jm_v lo, jm_v hi] (fun I' z => I' = I ∧ ((lo ≤ v ∧ v ≤ hi ∧ z = 1) ∨ (¬ (lo ≤ v ∧ v ≤ hi) ∧ z = 0))) := by
  refine jm_in_i (cc := cX6_in) (maxL := 3) (rt := .boolean) RX6 (by decide +kernel) rfl rfl (Nat.le_of_ble_eq_true rfl) (by simp [Value.category]) ?_
  intro G C hR hI
  refine jm_iload_n C dX6_in_0 rfl ?_
  refine jm_iload_n C dX6_in_1 rfl ?_
  refine jm_icmp_lt 14 C dX6_in_2 rfl hv hlo (fun yc1 => ?_) (fun yc1 => ?_)
  · skip
    refine jm_iconst C dX6_in_14 ?_
    exact hR _ _ _ _ dX6_in_15 (jm_nz (by decide)) ⟨rfl, by omega⟩
  · skip
    refine jm_iload_n C dX6_in_5 rfl ?_
    refine jm_iload_n C dX6_in_6 rfl ?_
    refine jm_icmp_gt 14 C dX6_in_7 rfl hv hhi (fun yc2 => ?_) (fun yc2 => ?_)
    · skip
      refine jm_iconst C dX6_in_14 ?_
      exact hR _ _ _ _ dX6_in_15 (jm_nz (by decide)) ⟨rfl, by omega⟩
    · skip
      refine jm_iconst C dX6_in_10 ?_
      refine jm_goto 15 C dX6_in_11 rfl ?_
      exact hR _ _ _ _ dX6_in_15 (jm_nz (by decide)) ⟨rfl, by omega⟩
set_option maxRecDepth 100000 in
set_option maxHeartbeats 4000000 in
theorem kX6_isTeam (E : jm_E) (w : jm_W) (I : jm_M) (v : Int) (hv : jm_R v) : jm_Mi E yX6_isTeam wX6_isTeam rmX6_isTeam 0 0 w I [jm_v v] (fun I' z => I' = I ∧ ((0 ≤ v ∧ v ≤ 5 ∧ z = 1) ∨ (¬ (0 ≤ v ∧ v ≤ 5) ∧ z = 0))) := by
  refine jm_in_i (cc := cX6_isTeam) (maxL := 1) (rt := .boolean) RX6 (by decide +kernel) rfl rfl (Nat.le_of_ble_eq_true rfl) (by simp [Value.category]) ?_
  intro G C hR hI
  refine jm_iload_n C dX6_isTeam_0 rfl ?_
  refine jm_iconst C dX6_isTeam_1 ?_
  refine jm_iconst C dX6_isTeam_2 ?_
  refine jm_cSd (n := 3) [] C (kX6_in E w I _ _ _ hv (by decide) (by decide)) jw_m_RX6_90 okX6_in rfl ⟨rfl, rfl⟩ ⟨Nat.le_of_ble_eq_true rfl, Nat.le_of_ble_eq_true rfl⟩ rfl rfl (Nat.le_of_ble_eq_true rfl) dX6_isTeam_3 ⟨Nat.le_of_ble_eq_true rfl, Nat.le_of_ble_eq_true rfl⟩ (fun yz2 yh1 => ?_)
  exact hR _ _ _ _ dX6_isTeam_6 (jm_nz (by omega)) ⟨rfl, by omega⟩
set_option maxRecDepth 100000 in
set_option maxHeartbeats 4000000 in
theorem kX6_isSheet (E : jm_E) (w : jm_W) (I : jm_M) (v : Int) (hv : jm_R v) : jm_Mi E yX6_isSheet wX6_isSheet rmX6_isSheet 0 0 w I [jm_v v] (fun I' z => I' = I ∧ ((0 ≤ v ∧ v ≤ 2 ∧ z = 1) ∨ (¬ (0 ≤ v ∧ v ≤ 2) ∧ z = 0))) := by
  refine jm_in_i (cc := cX6_isSheet) (maxL := 1) (rt := .boolean) RX6 (by decide +kernel) rfl rfl (Nat.le_of_ble_eq_true rfl) (by simp [Value.category]) ?_
  intro G C hR hI
  refine jm_iload_n C dX6_isSheet_0 rfl ?_
  refine jm_iconst C dX6_isSheet_1 ?_
  refine jm_iconst C dX6_isSheet_2 ?_
  refine jm_cSd (n := 3) [] C (kX6_in E w I _ _ _ hv (by decide) (by decide)) jw_m_RX6_90 okX6_in rfl ⟨rfl, rfl⟩ ⟨Nat.le_of_ble_eq_true rfl, Nat.le_of_ble_eq_true rfl⟩ rfl rfl (Nat.le_of_ble_eq_true rfl) dX6_isSheet_3 ⟨Nat.le_of_ble_eq_true rfl, Nat.le_of_ble_eq_true rfl⟩ (fun yz2 yh1 => ?_)
  exact hR _ _ _ _ dX6_isSheet_6 (jm_nz (by omega)) ⟨rfl, by omega⟩
set_option maxRecDepth 100000 in
set_option maxHeartbeats 4000000 in
theorem kX6_isGame (E : jm_E) (w : jm_W) (I : jm_M) (Q : jm_X6 E w) (v : Int) (hv : jm_R v) (hg : 0 ≤ I 300 8 ∧ I 300 8 ≤ 12) : jm_Mi E yX6_isGame wX6_isGame rmX6_isGame 0 0 w I [.ref (w.2.1 300), jm_v v] (fun I' z => I' = I ∧ ((0 ≤ v ∧ v < I 300 8 ∧ z = 1) ∨ (¬ (0 ≤ v ∧ v < I 300 8) ∧ z = 0))) := by
  refine jm_in_i (cc := cX6_isGame) (maxL := 2) (rt := .boolean) RX6 (by decide +kernel) rfl rfl (Nat.le_of_ble_eq_true rfl) (by simp [Value.category]) ?_
  intro G C hR hI
  refine jm_iload_n C dX6_isGame_0 rfl ?_
  refine jm_iconst C dX6_isGame_1 ?_
  refine jm_aload_n C dX6_isGame_2 rfl ?_
  refine jm_get (ci := 6) (f := 8) 8 rfl C rfl jw_u_6 Q.1.1 Q.1.2 rfl (by decide) jw_f_RX6_87 dX6_isGame_3 (fun yr1 => ?_)
  refine jm_iconst C dX6_isGame_6 ?_
  refine jm_isub C dX6_isGame_7 ?_
  refine jm_cSd (n := 3) [] C (kX6_in E w I _ _ _ hv (by decide) (by omega)) jw_m_RX6_90 okX6_in rfl ⟨rfl, rfl⟩ ⟨Nat.le_of_ble_eq_true rfl, Nat.le_of_ble_eq_true rfl⟩ rfl rfl (Nat.le_of_ble_eq_true rfl) dX6_isGame_8 ⟨Nat.le_of_ble_eq_true rfl, Nat.le_of_ble_eq_true rfl⟩ (fun yz3 yh2 => ?_)
  exact hR _ _ _ _ dX6_isGame_11 (jm_nz (by omega)) ⟨rfl, by omega⟩
set_option maxRecDepth 100000 in
set_option maxHeartbeats 4000000 in
theorem kX6_isShot (E : jm_E) (w : jm_W) (I : jm_M) (lane wt tn lo hi : Int) (g1 : jm_R lane) (g2 : jm_R wt) (g3 : jm_R tn) (g4 : jm_R lo) (g5 : jm_R hi) : jm_Mi E yX6_isShot wX6_isShot rmX6_isShot 0 0 w I [jm_v lane, jm_v wt, jm_v tn, jm_v lo, jm_v hi] (fun I' z => I' = I ∧ ((hk_shot lane wt tn lo hi ∧ z = 1) ∨ (¬ hk_shot lane wt tn lo hi ∧ z = 0))) := by
  refine jm_in_i (cc := cX6_isShot) (maxL := 5) (rt := .boolean) RX6 (by decide +kernel) rfl rfl (Nat.le_of_ble_eq_true rfl) (by simp [Value.category]) ?_
  intro G C hR hI
  refine jm_iload_n C dX6_isShot_0 rfl ?_
  refine jm_iconst C dX6_isShot_1 ?_
  refine jm_bipush C dX6_isShot_2 (by decide +kernel) ?_
  refine jm_cSd (n := 3) [] C (kX6_in E w I _ _ _ g1 (by decide) (by decide)) jw_m_RX6_90 okX6_in rfl ⟨rfl, rfl⟩ ⟨Nat.le_of_ble_eq_true rfl, Nat.le_of_ble_eq_true rfl⟩ rfl rfl (Nat.le_of_ble_eq_true rfl) dX6_isShot_4 ⟨Nat.le_of_ble_eq_true rfl, Nat.le_of_ble_eq_true rfl⟩ (fun yz2 yh1 => ?_)
  refine jm_if_eq 55 C dX6_isShot_7 rfl (by omega) (fun yc3 => ?_) (fun yc3 => ?_)
  · skip
    refine jm_iconst C dX6_isShot_55 ?_
    exact hR _ _ _ _ dX6_isShot_56 (jm_nz (by decide)) ⟨rfl, by unfold hk_shot; omega⟩
  · skip
    refine jm_iload_n C dX6_isShot_10 rfl ?_
    refine jm_iconst C dX6_isShot_11 ?_
    refine jm_bipush C dX6_isShot_12 (by decide +kernel) ?_
    refine jm_cSd (n := 3) [] C (kX6_in E w I _ _ _ g2 (by decide) (by decide)) jw_m_RX6_90 okX6_in rfl ⟨rfl, rfl⟩ ⟨Nat.le_of_ble_eq_true rfl, Nat.le_of_ble_eq_true rfl⟩ rfl rfl (Nat.le_of_ble_eq_true rfl) dX6_isShot_14 ⟨Nat.le_of_ble_eq_true rfl, Nat.le_of_ble_eq_true rfl⟩ (fun yz5 yh4 => ?_)
    refine jm_if_eq 55 C dX6_isShot_17 rfl (by omega) (fun yc6 => ?_) (fun yc6 => ?_)
    · skip
      refine jm_iconst C dX6_isShot_55 ?_
      exact hR _ _ _ _ dX6_isShot_56 (jm_nz (by decide)) ⟨rfl, by unfold hk_shot; omega⟩
    · skip
      refine jm_iload_n C dX6_isShot_20 rfl ?_
      refine jm_iconst C dX6_isShot_21 ?_
      refine jm_icmp_eq 30 C dX6_isShot_22 rfl g3 (by decide) (fun yc7 => ?_) (fun yc7 => ?_)
      · skip
        refine jm_iload_n C dX6_isShot_30 rfl ?_
        refine jm_iconst C dX6_isShot_31 ?_
        refine jm_bipush C dX6_isShot_32 (by decide +kernel) ?_
        refine jm_cSd (n := 3) [] C (kX6_in E w I _ _ _ g4 (by decide) (by decide)) jw_m_RX6_90 okX6_in rfl ⟨rfl, rfl⟩ ⟨Nat.le_of_ble_eq_true rfl, Nat.le_of_ble_eq_true rfl⟩ rfl rfl (Nat.le_of_ble_eq_true rfl) dX6_isShot_34 ⟨Nat.le_of_ble_eq_true rfl, Nat.le_of_ble_eq_true rfl⟩ (fun yz9 yh8 => ?_)
        refine jm_if_eq 55 C dX6_isShot_37 rfl (by omega) (fun yc10 => ?_) (fun yc10 => ?_)
        · skip
          refine jm_iconst C dX6_isShot_55 ?_
          exact hR _ _ _ _ dX6_isShot_56 (jm_nz (by decide)) ⟨rfl, by unfold hk_shot; omega⟩
        · skip
          refine jm_iload C dX6_isShot_40 rfl ?_
          refine jm_iconst C dX6_isShot_42 ?_
          refine jm_bipush C dX6_isShot_43 (by decide +kernel) ?_
          refine jm_cSd (n := 3) [] C (kX6_in E w I _ _ _ g5 (by decide) (by decide)) jw_m_RX6_90 okX6_in rfl ⟨rfl, rfl⟩ ⟨Nat.le_of_ble_eq_true rfl, Nat.le_of_ble_eq_true rfl⟩ rfl rfl (Nat.le_of_ble_eq_true rfl) dX6_isShot_45 ⟨Nat.le_of_ble_eq_true rfl, Nat.le_of_ble_eq_true rfl⟩ (fun yz12 yh11 => ?_)
          refine jm_if_eq 55 C dX6_isShot_48 rfl (by omega) (fun yc13 => ?_) (fun yc13 => ?_)
          · skip
            refine jm_iconst C dX6_isShot_55 ?_
            exact hR _ _ _ _ dX6_isShot_56 (jm_nz (by decide)) ⟨rfl, by unfold hk_shot; omega⟩
          · skip
            refine jm_iconst C dX6_isShot_51 ?_
            refine jm_goto 56 C dX6_isShot_52 rfl ?_
            exact hR _ _ _ _ dX6_isShot_56 (jm_nz (by decide)) ⟨rfl, by unfold hk_shot; omega⟩
      · skip
        refine jm_iload_n C dX6_isShot_25 rfl ?_
        refine jm_iconst C dX6_isShot_26 ?_
        refine jm_icmp_ne 55 C dX6_isShot_27 rfl g3 (by decide) (fun yc14 => ?_) (fun yc14 => ?_)
        · skip
          refine jm_iconst C dX6_isShot_55 ?_
          exact hR _ _ _ _ dX6_isShot_56 (jm_nz (by decide)) ⟨rfl, by unfold hk_shot; omega⟩
        · skip
          refine jm_iload_n C dX6_isShot_30 rfl ?_
          refine jm_iconst C dX6_isShot_31 ?_
          refine jm_bipush C dX6_isShot_32 (by decide +kernel) ?_
          refine jm_cSd (n := 3) [] C (kX6_in E w I _ _ _ g4 (by decide) (by decide)) jw_m_RX6_90 okX6_in rfl ⟨rfl, rfl⟩ ⟨Nat.le_of_ble_eq_true rfl, Nat.le_of_ble_eq_true rfl⟩ rfl rfl (Nat.le_of_ble_eq_true rfl) dX6_isShot_34 ⟨Nat.le_of_ble_eq_true rfl, Nat.le_of_ble_eq_true rfl⟩ (fun yz16 yh15 => ?_)
          refine jm_if_eq 55 C dX6_isShot_37 rfl (by omega) (fun yc17 => ?_) (fun yc17 => ?_)
          · skip
            refine jm_iconst C dX6_isShot_55 ?_
            exact hR _ _ _ _ dX6_isShot_56 (jm_nz (by decide)) ⟨rfl, by unfold hk_shot; omega⟩
          · skip
            refine jm_iload C dX6_isShot_40 rfl ?_
            refine jm_iconst C dX6_isShot_42 ?_
            refine jm_bipush C dX6_isShot_43 (by decide +kernel) ?_
            refine jm_cSd (n := 3) [] C (kX6_in E w I _ _ _ g5 (by decide) (by decide)) jw_m_RX6_90 okX6_in rfl ⟨rfl, rfl⟩ ⟨Nat.le_of_ble_eq_true rfl, Nat.le_of_ble_eq_true rfl⟩ rfl rfl (Nat.le_of_ble_eq_true rfl) dX6_isShot_45 ⟨Nat.le_of_ble_eq_true rfl, Nat.le_of_ble_eq_true rfl⟩ (fun yz19 yh18 => ?_)
            refine jm_if_eq 55 C dX6_isShot_48 rfl (by omega) (fun yc20 => ?_) (fun yc20 => ?_)
            · skip
              refine jm_iconst C dX6_isShot_55 ?_
              exact hR _ _ _ _ dX6_isShot_56 (jm_nz (by decide)) ⟨rfl, by unfold hk_shot; omega⟩
            · skip
              refine jm_iconst C dX6_isShot_51 ?_
              refine jm_goto 56 C dX6_isShot_52 rfl ?_
              exact hR _ _ _ _ dX6_isShot_56 (jm_nz (by decide)) ⟨rfl, by unfold hk_shot; omega⟩
set_option maxRecDepth 100000 in
set_option maxHeartbeats 4000000 in
theorem kX6_asked (E : jm_E) (w : jm_W) (I : jm_M) (Q : jm_X6 E w) (a : Int) (ha : a = 0 ∨ a = 1) : jm_Mi E yX6_asked wX6_asked rmX6_asked 0 0 w I [.ref (w.2.1 300), jm_v a] (fun I' z => I' = jm_up I 300 0 (if a = 0 then 1 else 0) ∧ z = a) := by
  refine jm_in_i (cc := cX6_asked) (maxL := 2) (rt := .boolean) RX6 (by decide +kernel) rfl rfl (Nat.le_of_ble_eq_true rfl) (by simp [Value.category]) ?_
  intro G C hR hI
  refine jm_aload_n C dX6_asked_0 rfl ?_
  refine jm_iload_n C dX6_asked_1 rfl ?_
  refine jm_if_eq 9 C dX6_asked_2 rfl (by omega) (fun yc1 => ?_) (fun yc1 => ?_)
  · skip
    refine jm_iconst C dX6_asked_9 ?_
    refine jm_put (ci := 6) (f := 0) (ty := .int) 0 rfl C rfl tyX6 tyX6_ok nmX6 jw_u_6 Q.1.1 Q.1.2 rfl (by decide) jw_f_RX6_84 rfl (by decide +kernel) rfl rfl dX6_asked_10 (by decide) ?_
    refine jm_iload_n C dX6_asked_13 rfl ?_
    exact hR _ _ _ _ dX6_asked_14 (jm_nz ha) ⟨by first | rw [if_pos (by omega)] | rw [if_neg (by omega)], rfl⟩
  · skip
    refine jm_iconst C dX6_asked_5 ?_
    refine jm_goto 10 C dX6_asked_6 rfl ?_
    refine jm_put (ci := 6) (f := 0) (ty := .int) 0 rfl C rfl tyX6 tyX6_ok nmX6 jw_u_6 Q.1.1 Q.1.2 rfl (by decide) jw_f_RX6_84 rfl (by decide +kernel) rfl rfl dX6_asked_10 (by decide) ?_
    refine jm_iload_n C dX6_asked_13 rfl ?_
    exact hR _ _ _ _ dX6_asked_14 (jm_nz ha) ⟨by first | rw [if_pos (by omega)] | rw [if_neg (by omega)], rfl⟩
set_option maxRecDepth 100000 in
set_option maxHeartbeats 4000000 in
theorem kX6_asked_ (E : jm_E) (w : jm_W) (I : jm_M) (Q : jm_X6 E w) (a b : Int) (ha : a = 0 ∨ a = 1) (hb : b = 0 ∨ b = 1) : jm_Mi E yX6_asked_ wX6_asked_ rmX6_asked_ 0 0 w I [.ref (w.2.1 300), jm_v a, jm_v b] (fun I' z => I' = jm_up I 300 0 (if a = 0 then 1 else if b = 0 then 2 else 0) ∧ ((a = 1 ∧ b = 1 ∧ z = 1) ∨ (¬ (a = 1 ∧ b = 1) ∧ z = 0))) := by
  refine jm_in_i (cc := cX6_asked_) (maxL := 3) (rt := .boolean) RX6 (by decide +kernel) rfl rfl (Nat.le_of_ble_eq_true rfl) (by simp [Value.category]) ?_
  intro G C hR hI
  refine jm_aload_n C dX6_asked__0 rfl ?_
  refine jm_iload_n C dX6_asked__1 rfl ?_
  refine jm_if_ne 9 C dX6_asked__2 rfl (by omega) (fun yc1 => ?_) (fun yc1 => ?_)
  · skip
    refine jm_iload_n C dX6_asked__9 rfl ?_
    refine jm_if_eq 17 C dX6_asked__10 rfl (by omega) (fun yc2 => ?_) (fun yc2 => ?_)
    · skip
      refine jm_iconst C dX6_asked__17 ?_
      refine jm_put (ci := 6) (f := 0) (ty := .int) 0 rfl C rfl tyX6 tyX6_ok nmX6 jw_u_6 Q.1.1 Q.1.2 rfl (by decide) jw_f_RX6_84 rfl (by decide +kernel) rfl rfl dX6_asked__18 (by decide) ?_
      refine jm_aload_n C dX6_asked__21 rfl ?_
      refine jm_getv (ci := 6) (f := 0) 2 0 rfl (by simp [jm_up]) C rfl jw_u_6 Q.1.1 Q.1.2 rfl (by decide) jw_f_RX6_84 dX6_asked__22 (fun yr3 => ?_)
      refine jm_if_ne 32 C dX6_asked__25 rfl (by decide) (fun yc4 => ?_) (fun yc4 => ?_)
      · skip
        refine jm_iconst C dX6_asked__32 ?_
        exact hR _ _ _ _ dX6_asked__33 (jm_nz (by decide)) ⟨by first | rw [if_pos (by omega)] | rw [if_neg (by omega), if_pos (by omega)] | rw [if_neg (by omega), if_neg (by omega)], by omega⟩
      · skip
        exact absurd yc4 (by decide)
    · skip
      refine jm_iconst C dX6_asked__13 ?_
      refine jm_goto 18 C dX6_asked__14 rfl ?_
      refine jm_put (ci := 6) (f := 0) (ty := .int) 0 rfl C rfl tyX6 tyX6_ok nmX6 jw_u_6 Q.1.1 Q.1.2 rfl (by decide) jw_f_RX6_84 rfl (by decide +kernel) rfl rfl dX6_asked__18 (by decide) ?_
      refine jm_aload_n C dX6_asked__21 rfl ?_
      refine jm_getv (ci := 6) (f := 0) 0 0 rfl (by simp [jm_up]) C rfl jw_u_6 Q.1.1 Q.1.2 rfl (by decide) jw_f_RX6_84 dX6_asked__22 (fun yr5 => ?_)
      refine jm_if_ne 32 C dX6_asked__25 rfl (by decide) (fun yc6 => ?_) (fun yc6 => ?_)
      · skip
        exact absurd yc6 (by decide)
      · skip
        refine jm_iconst C dX6_asked__28 ?_
        refine jm_goto 33 C dX6_asked__29 rfl ?_
        exact hR _ _ _ _ dX6_asked__33 (jm_nz (by decide)) ⟨by first | rw [if_pos (by omega)] | rw [if_neg (by omega), if_pos (by omega)] | rw [if_neg (by omega), if_neg (by omega)], by omega⟩
  · skip
    refine jm_iconst C dX6_asked__5 ?_
    refine jm_goto 18 C dX6_asked__6 rfl ?_
    refine jm_put (ci := 6) (f := 0) (ty := .int) 0 rfl C rfl tyX6 tyX6_ok nmX6 jw_u_6 Q.1.1 Q.1.2 rfl (by decide) jw_f_RX6_84 rfl (by decide +kernel) rfl rfl dX6_asked__18 (by decide) ?_
    refine jm_aload_n C dX6_asked__21 rfl ?_
    refine jm_getv (ci := 6) (f := 0) 1 0 rfl (by simp [jm_up]) C rfl jw_u_6 Q.1.1 Q.1.2 rfl (by decide) jw_f_RX6_84 dX6_asked__22 (fun yr7 => ?_)
    refine jm_if_ne 32 C dX6_asked__25 rfl (by decide) (fun yc8 => ?_) (fun yc8 => ?_)
    · skip
      refine jm_iconst C dX6_asked__32 ?_
      exact hR _ _ _ _ dX6_asked__33 (jm_nz (by decide)) ⟨by first | rw [if_pos (by omega)] | rw [if_neg (by omega), if_pos (by omega)] | rw [if_neg (by omega), if_neg (by omega)], by omega⟩
    · skip
      exact absurd yc8 (by decide)
set_option maxRecDepth 100000 in
set_option maxHeartbeats 4000000 in
theorem kX6_asked__ (E : jm_E) (w : jm_W) (I : jm_M) (Q : jm_X6 E w) (a b c : Int) (ha : a = 0 ∨ a = 1) (hb : b = 0 ∨ b = 1) (hc : c = 0 ∨ c = 1) : jm_Mi E yX6_asked__ wX6_asked__ rmX6_asked__ 0 0 w I [.ref (w.2.1 300), jm_v a, jm_v b, jm_v c] (fun I' z => I' = jm_up I 300 0 (if a = 0 then 1 else if b = 0 then 2 else if c = 0 then 3 else 0) ∧ ((a = 1 ∧ b = 1 ∧ c = 1 ∧ z = 1) ∨ (¬ (a = 1 ∧ b = 1 ∧ c = 1) ∧ z = 0))) := by
  refine jm_in_i (cc := cX6_asked__) (maxL := 4) (rt := .boolean) RX6 (by decide +kernel) rfl rfl (Nat.le_of_ble_eq_true rfl) (by simp [Value.category]) ?_
  intro G C hR hI
  refine jm_aload_n C dX6_asked___0 rfl ?_
  refine jm_iload_n C dX6_asked___1 rfl ?_
  refine jm_if_ne 9 C dX6_asked___2 rfl (by omega) (fun yc1 => ?_) (fun yc1 => ?_)
  · skip
    refine jm_iload_n C dX6_asked___9 rfl ?_
    refine jm_if_ne 17 C dX6_asked___10 rfl (by omega) (fun yc2 => ?_) (fun yc2 => ?_)
    · skip
      refine jm_iload_n C dX6_asked___17 rfl ?_
      refine jm_if_eq 25 C dX6_asked___18 rfl (by omega) (fun yc3 => ?_) (fun yc3 => ?_)
      · skip
        refine jm_iconst C dX6_asked___25 ?_
        refine jm_put (ci := 6) (f := 0) (ty := .int) 0 rfl C rfl tyX6 tyX6_ok nmX6 jw_u_6 Q.1.1 Q.1.2 rfl (by decide) jw_f_RX6_84 rfl (by decide +kernel) rfl rfl dX6_asked___26 (by decide) ?_
        refine jm_aload_n C dX6_asked___29 rfl ?_
        refine jm_getv (ci := 6) (f := 0) 3 0 rfl (by simp [jm_up]) C rfl jw_u_6 Q.1.1 Q.1.2 rfl (by decide) jw_f_RX6_84 dX6_asked___30 (fun yr4 => ?_)
        refine jm_if_ne 40 C dX6_asked___33 rfl (by decide) (fun yc5 => ?_) (fun yc5 => ?_)
        · skip
          refine jm_iconst C dX6_asked___40 ?_
          exact hR _ _ _ _ dX6_asked___41 (jm_nz (by decide)) ⟨by first | rw [if_pos (by omega)] | rw [if_neg (by omega), if_pos (by omega)] | rw [if_neg (by omega), if_neg (by omega), if_pos (by omega)] | rw [if_neg (by omega), if_neg (by omega), if_neg (by omega)], by omega⟩
        · skip
          exact absurd yc5 (by decide)
      · skip
        refine jm_iconst C dX6_asked___21 ?_
        refine jm_goto 26 C dX6_asked___22 rfl ?_
        refine jm_put (ci := 6) (f := 0) (ty := .int) 0 rfl C rfl tyX6 tyX6_ok nmX6 jw_u_6 Q.1.1 Q.1.2 rfl (by decide) jw_f_RX6_84 rfl (by decide +kernel) rfl rfl dX6_asked___26 (by decide) ?_
        refine jm_aload_n C dX6_asked___29 rfl ?_
        refine jm_getv (ci := 6) (f := 0) 0 0 rfl (by simp [jm_up]) C rfl jw_u_6 Q.1.1 Q.1.2 rfl (by decide) jw_f_RX6_84 dX6_asked___30 (fun yr6 => ?_)
        refine jm_if_ne 40 C dX6_asked___33 rfl (by decide) (fun yc7 => ?_) (fun yc7 => ?_)
        · skip
          exact absurd yc7 (by decide)
        · skip
          refine jm_iconst C dX6_asked___36 ?_
          refine jm_goto 41 C dX6_asked___37 rfl ?_
          exact hR _ _ _ _ dX6_asked___41 (jm_nz (by decide)) ⟨by first | rw [if_pos (by omega)] | rw [if_neg (by omega), if_pos (by omega)] | rw [if_neg (by omega), if_neg (by omega), if_pos (by omega)] | rw [if_neg (by omega), if_neg (by omega), if_neg (by omega)], by omega⟩
    · skip
      refine jm_iconst C dX6_asked___13 ?_
      refine jm_goto 26 C dX6_asked___14 rfl ?_
      refine jm_put (ci := 6) (f := 0) (ty := .int) 0 rfl C rfl tyX6 tyX6_ok nmX6 jw_u_6 Q.1.1 Q.1.2 rfl (by decide) jw_f_RX6_84 rfl (by decide +kernel) rfl rfl dX6_asked___26 (by decide) ?_
      refine jm_aload_n C dX6_asked___29 rfl ?_
      refine jm_getv (ci := 6) (f := 0) 2 0 rfl (by simp [jm_up]) C rfl jw_u_6 Q.1.1 Q.1.2 rfl (by decide) jw_f_RX6_84 dX6_asked___30 (fun yr8 => ?_)
      refine jm_if_ne 40 C dX6_asked___33 rfl (by decide) (fun yc9 => ?_) (fun yc9 => ?_)
      · skip
        refine jm_iconst C dX6_asked___40 ?_
        exact hR _ _ _ _ dX6_asked___41 (jm_nz (by decide)) ⟨by first | rw [if_pos (by omega)] | rw [if_neg (by omega), if_pos (by omega)] | rw [if_neg (by omega), if_neg (by omega), if_pos (by omega)] | rw [if_neg (by omega), if_neg (by omega), if_neg (by omega)], by omega⟩
      · skip
        exact absurd yc9 (by decide)
  · skip
    refine jm_iconst C dX6_asked___5 ?_
    refine jm_goto 26 C dX6_asked___6 rfl ?_
    refine jm_put (ci := 6) (f := 0) (ty := .int) 0 rfl C rfl tyX6 tyX6_ok nmX6 jw_u_6 Q.1.1 Q.1.2 rfl (by decide) jw_f_RX6_84 rfl (by decide +kernel) rfl rfl dX6_asked___26 (by decide) ?_
    refine jm_aload_n C dX6_asked___29 rfl ?_
    refine jm_getv (ci := 6) (f := 0) 1 0 rfl (by simp [jm_up]) C rfl jw_u_6 Q.1.1 Q.1.2 rfl (by decide) jw_f_RX6_84 dX6_asked___30 (fun yr10 => ?_)
    refine jm_if_ne 40 C dX6_asked___33 rfl (by decide) (fun yc11 => ?_) (fun yc11 => ?_)
    · skip
      refine jm_iconst C dX6_asked___40 ?_
      exact hR _ _ _ _ dX6_asked___41 (jm_nz (by decide)) ⟨by first | rw [if_pos (by omega)] | rw [if_neg (by omega), if_pos (by omega)] | rw [if_neg (by omega), if_neg (by omega), if_pos (by omega)] | rw [if_neg (by omega), if_neg (by omega), if_neg (by omega)], by omega⟩
    · skip
      exact absurd yc11 (by decide)
set_option maxRecDepth 100000 in
set_option maxHeartbeats 4000000 in
theorem kX6_turnOf (E : jm_E) (w : jm_W) (I : jm_M) (Q : jm_X6 E w) (g : Int) (hg12 : 0 ≤ g ∧ g < 12) : jm_Mi E yX6_turnOf wX6_turnOf rmX6_turnOf 0 0 w I [.ref (w.2.1 300), jm_v g] (fun I' z => I' = I ∧ z = hk_mturn I g) := by
  refine jm_in_i (cc := cX6_turnOf) (maxL := 3) (rt := .int) RX6 (by decide +kernel) rfl rfl (Nat.le_of_ble_eq_true rfl) (by simp [Value.category]) ?_
  intro G C hR hI
  have hmo := Int.tmod_lt_of_pos (I 317 g) (show (0 : Int) < 2 by decide)
  have hmo2 := Int.lt_tmod_of_pos (I 317 g) (show (0 : Int) < 2 by decide)
  refine jm_aload_n C dX6_turnOf_0 rfl ?_
  refine jm_getr (ci := 6) (f := 17) C rfl jw_u_6 Q.1.1 Q.1.2 rfl (by decide) jw_f_RX6_51 dX6_turnOf_1 ?_
  refine jm_iload_n C dX6_turnOf_4 rfl ?_
  refine jm_iald C (jm_X6_317 Q).1 rfl (jm_X6_317 Q).2 (by omega) (by omega) (by omega) dX6_turnOf_5 (fun yr1 => ?_)
  refine jm_iconst C dX6_turnOf_6 ?_
  refine jm_irem C dX6_turnOf_7 (by omega) (by decide) (by decide) ?_
  refine jm_istore_n C dX6_turnOf_8 (by decide) ?_
  refine jm_aload_n C dX6_turnOf_9 rfl ?_
  refine jm_getr (ci := 6) (f := 9) C rfl jw_u_6 Q.1.1 Q.1.2 rfl (by decide) jw_f_RX6_27 dX6_turnOf_10 ?_
  refine jm_iload_n C dX6_turnOf_13 rfl ?_
  refine jm_iald C (jm_X6_309 Q).1 rfl (jm_X6_309 Q).2 (by omega) (by omega) (by omega) dX6_turnOf_14 (fun yr2 => ?_)
  refine jm_iconst C dX6_turnOf_15 ?_
  refine jm_icmp_ne 28 C dX6_turnOf_16 rfl (by omega) (by decide) (fun yc3 => ?_) (fun yc3 => ?_)
  · skip
    refine jm_aload_n C dX6_turnOf_28 rfl ?_
    refine jm_getr (ci := 6) (f := 9) C rfl jw_u_6 Q.1.1 Q.1.2 rfl (by decide) jw_f_RX6_27 dX6_turnOf_29 ?_
    refine jm_iload_n C dX6_turnOf_32 rfl ?_
    refine jm_iald C (jm_X6_309 Q).1 rfl (jm_X6_309 Q).2 (by omega) (by omega) (by omega) dX6_turnOf_33 (fun yr4 => ?_)
    refine jm_iconst C dX6_turnOf_34 ?_
    refine jm_icmp_ne 57 C dX6_turnOf_35 rfl (by omega) (by decide) (fun yc5 => ?_) (fun yc5 => ?_)
    · skip
      refine jm_iconst C dX6_turnOf_57 ?_
      exact hR _ _ _ _ dX6_turnOf_58 rfl ⟨rfl, by
          unfold hk_mturn
          first
          | rw [if_pos (by omega)]
          | rw [if_neg (by omega), if_pos (by omega), if_pos (by omega)]
          | rw [if_neg (by omega), if_pos (by omega), if_neg (by omega)]
          | rw [if_neg (by omega), if_neg (by omega)]⟩
    · skip
      refine jm_aload_n C dX6_turnOf_38 rfl ?_
      refine jm_getr (ci := 6) (f := 18) C rfl jw_u_6 Q.1.1 Q.1.2 rfl (by decide) jw_f_RX6_54 dX6_turnOf_39 ?_
      refine jm_iload_n C dX6_turnOf_42 rfl ?_
      refine jm_iald C (jm_X6_318 Q).1 rfl (jm_X6_318 Q).2 (by omega) (by omega) (by omega) dX6_turnOf_43 (fun yr6 => ?_)
      refine jm_if_ne 53 C dX6_turnOf_44 rfl (by omega) (fun yc7 => ?_) (fun yc7 => ?_)
      · skip
        refine jm_iload_n C dX6_turnOf_53 rfl ?_
        refine jm_goto 58 C dX6_turnOf_54 rfl ?_
        exact hR _ _ _ _ dX6_turnOf_58 rfl ⟨rfl, by
            unfold hk_mturn
            first
            | rw [if_pos (by omega)]
            | rw [if_neg (by omega), if_pos (by omega), if_pos (by omega)]
            | rw [if_neg (by omega), if_pos (by omega), if_neg (by omega)]
            | rw [if_neg (by omega), if_neg (by omega)]⟩
      · skip
        refine jm_iconst C dX6_turnOf_47 ?_
        refine jm_iload_n C dX6_turnOf_48 rfl ?_
        refine jm_isub C dX6_turnOf_49 ?_
        refine jm_goto 58 C dX6_turnOf_50 rfl ?_
        exact hR _ _ _ _ dX6_turnOf_58 rfl ⟨rfl, by
            unfold hk_mturn
            first
            | rw [if_pos (by omega)]
            | rw [if_neg (by omega), if_pos (by omega), if_pos (by omega)]
            | rw [if_neg (by omega), if_pos (by omega), if_neg (by omega)]
            | rw [if_neg (by omega), if_neg (by omega)]⟩
  · skip
    refine jm_aload_n C dX6_turnOf_19 rfl ?_
    refine jm_getr (ci := 6) (f := 17) C rfl jw_u_6 Q.1.1 Q.1.2 rfl (by decide) jw_f_RX6_51 dX6_turnOf_20 ?_
    refine jm_iload_n C dX6_turnOf_23 rfl ?_
    refine jm_iald C (jm_X6_317 Q).1 rfl (jm_X6_317 Q).2 (by omega) (by omega) (by omega) dX6_turnOf_24 (fun yr8 => ?_)
    refine jm_goto 58 C dX6_turnOf_25 rfl ?_
    exact hR _ _ _ _ dX6_turnOf_58 rfl ⟨rfl, by
        unfold hk_mturn
        first
        | rw [if_pos (by omega)]
        | rw [if_neg (by omega), if_pos (by omega), if_pos (by omega)]
        | rw [if_neg (by omega), if_pos (by omega), if_neg (by omega)]
        | rw [if_neg (by omega), if_neg (by omega)]⟩
set_option maxRecDepth 100000 in
set_option maxHeartbeats 4000000 in
theorem kX6_slotOf (E : jm_E) (w : jm_W) (I : jm_M) (Q : jm_X6 E w) (g : Int) (hg12 : 0 ≤ g ∧ g < 12) : jm_Mi E yX6_slotOf wX6_slotOf rmX6_slotOf 0 0 w I [.ref (w.2.1 300), jm_v g] (fun I' z => I' = I ∧ z = hk_mslot I g) := by
  refine jm_in_i (cc := cX6_slotOf) (maxL := 2) (rt := .int) RX6 (by decide +kernel) rfl rfl (Nat.le_of_ble_eq_true rfl) (by simp [Value.category]) ?_
  intro G C hR hI
  refine jm_iconst C dX6_slotOf_0 ?_
  refine jm_aload_n C dX6_slotOf_1 rfl ?_
  refine jm_iload_n C dX6_slotOf_2 rfl ?_
  refine jm_cVd (n := 1) (ci := 6) [jm_v 3] C (kX6_turnOf E w I Q _ hg12) jw_m_RX6_119 okX6_turnOf rfl ⟨rfl, rfl⟩ ⟨Nat.le_of_ble_eq_true rfl, Nat.le_of_ble_eq_true rfl⟩ rfl Q.1.1 Q.1.2 rfl rfl (Nat.le_of_ble_eq_true rfl) dX6_slotOf_3 ⟨Nat.le_of_ble_eq_true rfl, Nat.le_of_ble_eq_true rfl⟩ (fun yz2 yh1 => ?_)
  subst yh1
  refine jm_imul C dX6_slotOf_6 ?_
  refine jm_aload_n C dX6_slotOf_7 rfl ?_
  refine jm_getr (ci := 6) (f := 9) C rfl jw_u_6 Q.1.1 Q.1.2 rfl (by decide) jw_f_RX6_27 dX6_slotOf_8 ?_
  refine jm_iload_n C dX6_slotOf_11 rfl ?_
  refine jm_iald C (jm_X6_309 Q).1 rfl (jm_X6_309 Q).2 (by omega) (by omega) (by omega) dX6_slotOf_12 (fun yr3 => ?_)
  refine jm_iconst C dX6_slotOf_13 ?_
  refine jm_icmp_ne 28 C dX6_slotOf_14 rfl (by omega) (by decide) (fun yc4 => ?_) (fun yc4 => ?_)
  · skip
    refine jm_iconst C dX6_slotOf_28 ?_
    refine jm_iadd C dX6_slotOf_29 ?_
    exact hR _ _ _ _ dX6_slotOf_30 rfl ⟨rfl, by unfold hk_mslot; first | rw [if_pos (by omega)] | rw [if_neg (by omega)]⟩
  · skip
    refine jm_aload_n C dX6_slotOf_17 rfl ?_
    refine jm_getr (ci := 6) (f := 17) C rfl jw_u_6 Q.1.1 Q.1.2 rfl (by decide) jw_f_RX6_51 dX6_slotOf_18 ?_
    refine jm_iload_n C dX6_slotOf_21 rfl ?_
    refine jm_iald C (jm_X6_317 Q).1 rfl (jm_X6_317 Q).2 (by omega) (by omega) (by omega) dX6_slotOf_22 (fun yr5 => ?_)
    refine jm_iconst C dX6_slotOf_23 ?_
    refine jm_idiv C dX6_slotOf_24 (by omega) (by decide) (by decide) ?_
    refine jm_goto 29 C dX6_slotOf_25 rfl ?_
    refine jm_iadd C dX6_slotOf_29 ?_
    exact hR _ _ _ _ dX6_slotOf_30 rfl ⟨rfl, by unfold hk_mslot; first | rw [if_pos (by omega)] | rw [if_neg (by omega)]⟩
set_option maxRecDepth 100000 in
set_option maxHeartbeats 4000000 in
theorem kX6_throwsAt (E : jm_E) (w : jm_W) (I : jm_M) (Q : jm_X6 E w) (g : Int) (hg12 : 0 ≤ g ∧ g < 12) : jm_Mi E yX6_throwsAt wX6_throwsAt rmX6_throwsAt 0 0 w I [.ref (w.2.1 300), jm_v g] (fun I' z => I' = I ∧ (((I 309 g = 1 ∨ I 309 g = 2) ∧ z = 1) ∨ (¬ (I 309 g = 1 ∨ I 309 g = 2) ∧ z = 0))) := by
  refine jm_in_i (cc := cX6_throwsAt) (maxL := 2) (rt := .boolean) RX6 (by decide +kernel) rfl rfl (Nat.le_of_ble_eq_true rfl) (by simp [Value.category]) ?_
  intro G C hR hI
  refine jm_aload_n C dX6_throwsAt_0 rfl ?_
  refine jm_getr (ci := 6) (f := 9) C rfl jw_u_6 Q.1.1 Q.1.2 rfl (by decide) jw_f_RX6_27 dX6_throwsAt_1 ?_
  refine jm_iload_n C dX6_throwsAt_4 rfl ?_
  refine jm_iald C (jm_X6_309 Q).1 rfl (jm_X6_309 Q).2 (by omega) (by omega) (by omega) dX6_throwsAt_5 (fun yr1 => ?_)
  refine jm_iconst C dX6_throwsAt_6 ?_
  refine jm_icmp_eq 20 C dX6_throwsAt_7 rfl (by omega) (by decide) (fun yc2 => ?_) (fun yc2 => ?_)
  · skip
    refine jm_iconst C dX6_throwsAt_20 ?_
    refine jm_goto 25 C dX6_throwsAt_21 rfl ?_
    exact hR _ _ _ _ dX6_throwsAt_25 (jm_nz (by decide)) ⟨rfl, by omega⟩
  · skip
    refine jm_aload_n C dX6_throwsAt_10 rfl ?_
    refine jm_getr (ci := 6) (f := 9) C rfl jw_u_6 Q.1.1 Q.1.2 rfl (by decide) jw_f_RX6_27 dX6_throwsAt_11 ?_
    refine jm_iload_n C dX6_throwsAt_14 rfl ?_
    refine jm_iald C (jm_X6_309 Q).1 rfl (jm_X6_309 Q).2 (by omega) (by omega) (by omega) dX6_throwsAt_15 (fun yr3 => ?_)
    refine jm_iconst C dX6_throwsAt_16 ?_
    refine jm_icmp_ne 24 C dX6_throwsAt_17 rfl (by omega) (by decide) (fun yc4 => ?_) (fun yc4 => ?_)
    · skip
      refine jm_iconst C dX6_throwsAt_24 ?_
      exact hR _ _ _ _ dX6_throwsAt_25 (jm_nz (by decide)) ⟨rfl, by omega⟩
    · skip
      refine jm_iconst C dX6_throwsAt_20 ?_
      refine jm_goto 25 C dX6_throwsAt_21 rfl ?_
      exact hR _ _ _ _ dX6_throwsAt_25 (jm_nz (by decide)) ⟨rfl, by omega⟩
set_option maxRecDepth 100000 in
set_option maxHeartbeats 4000000 in
theorem kX6_distance (E : jm_E) (w : jm_W) (I : jm_M) (p : Int) (hp : jm_R p) : jm_Mi E yX6_distance wX6_distance rmX6_distance 0 0 w I [jm_v p] (fun I' z => I' = I ∧ z = hk_dis p) := by
  refine jm_in_i (cc := cX6_distance) (maxL := 3) (rt := .int) RX6 (by decide +kernel) rfl rfl (Nat.le_of_ble_eq_true rfl) (by simp [Value.category]) ?_
  intro G C hR hI
  have e1 : -21474837 ≤ p.tdiv 100 ∧ p.tdiv 100 ≤ 21474837 := by
    rcases Int.le_total 0 p with q | q
    · rw [Int.tdiv_eq_ediv_of_nonneg q]; omega
    · have e : p.tdiv 100 = -((-p).tdiv 100) := by rw [Int.neg_tdiv, Int.neg_neg]
      rw [e, Int.tdiv_eq_ediv_of_nonneg (by omega)]; omega
  have e2 : -100 < p.tmod 100 ∧ p.tmod 100 < 100 := ⟨Int.lt_tmod_of_pos p (by decide), Int.tmod_lt_of_pos p (by decide)⟩
  refine jm_iload_n C dX6_distance_0 rfl ?_
  refine jm_bipush C dX6_distance_1 (by decide +kernel) ?_
  refine jm_idiv C dX6_distance_3 hp (by decide) (by decide) ?_
  refine jm_iconst C dX6_distance_4 ?_
  refine jm_isub C dX6_distance_5 ?_
  refine jm_istore_n C dX6_distance_6 (by decide) ?_
  refine jm_iload_n C dX6_distance_7 rfl ?_
  refine jm_bipush C dX6_distance_8 (by decide +kernel) ?_
  refine jm_irem C dX6_distance_10 hp (by decide) (by decide) ?_
  refine jm_bipush C dX6_distance_11 (by decide +kernel) ?_
  refine jm_isub C dX6_distance_13 ?_
  refine jm_istore_n C dX6_distance_14 (by decide) ?_
  refine jm_iload_n C dX6_distance_15 rfl ?_
  refine jm_iconst C dX6_distance_16 ?_
  refine jm_icmp_ne 26 C dX6_distance_17 rfl hp (by decide) (fun yc1 => ?_) (fun yc1 => ?_)
  · skip
    refine jm_iconst C dX6_distance_26 ?_
    refine jm_iload_n C dX6_distance_27 rfl ?_
    refine jm_if_ge 36 C dX6_distance_28 rfl (by omega) (fun yc2 => ?_) (fun yc2 => ?_)
    · skip
      refine jm_iload_n C dX6_distance_36 rfl ?_
      refine jm_imul C dX6_distance_37 ?_
      refine jm_iload_n C dX6_distance_38 rfl ?_
      refine jm_if_ge 47 C dX6_distance_39 rfl (by omega) (fun yc3 => ?_) (fun yc3 => ?_)
      · skip
        refine jm_iload_n C dX6_distance_47 rfl ?_
        refine jm_iadd C dX6_distance_48 ?_
        exact hR _ _ _ _ dX6_distance_49 rfl ⟨rfl, by
            unfold hk_dis hk_ab
            first
            | rw [if_pos (by omega)]
            | rw [if_neg (by omega), if_pos (by omega), if_pos (by omega)]
            | rw [if_neg (by omega), if_pos (by omega), if_neg (by omega)]
            | rw [if_neg (by omega), if_neg (by omega), if_pos (by omega)]
            | rw [if_neg (by omega), if_neg (by omega), if_neg (by omega)]⟩
      · skip
        refine jm_iload_n C dX6_distance_42 rfl ?_
        refine jm_ineg C dX6_distance_43 ?_
        refine jm_goto 48 C dX6_distance_44 rfl ?_
        refine jm_iadd C dX6_distance_48 ?_
        exact hR _ _ _ _ dX6_distance_49 rfl ⟨rfl, by
            unfold hk_dis hk_ab
            first
            | rw [if_pos (by omega)]
            | rw [if_neg (by omega), if_pos (by omega), if_pos (by omega)]
            | rw [if_neg (by omega), if_pos (by omega), if_neg (by omega)]
            | rw [if_neg (by omega), if_neg (by omega), if_pos (by omega)]
            | rw [if_neg (by omega), if_neg (by omega), if_neg (by omega)]⟩
    · skip
      refine jm_iload_n C dX6_distance_31 rfl ?_
      refine jm_ineg C dX6_distance_32 ?_
      refine jm_goto 37 C dX6_distance_33 rfl ?_
      refine jm_imul C dX6_distance_37 ?_
      refine jm_iload_n C dX6_distance_38 rfl ?_
      refine jm_if_ge 47 C dX6_distance_39 rfl (by omega) (fun yc4 => ?_) (fun yc4 => ?_)
      · skip
        refine jm_iload_n C dX6_distance_47 rfl ?_
        refine jm_iadd C dX6_distance_48 ?_
        exact hR _ _ _ _ dX6_distance_49 rfl ⟨rfl, by
            unfold hk_dis hk_ab
            first
            | rw [if_pos (by omega)]
            | rw [if_neg (by omega), if_pos (by omega), if_pos (by omega)]
            | rw [if_neg (by omega), if_pos (by omega), if_neg (by omega)]
            | rw [if_neg (by omega), if_neg (by omega), if_pos (by omega)]
            | rw [if_neg (by omega), if_neg (by omega), if_neg (by omega)]⟩
      · skip
        refine jm_iload_n C dX6_distance_42 rfl ?_
        refine jm_ineg C dX6_distance_43 ?_
        refine jm_goto 48 C dX6_distance_44 rfl ?_
        refine jm_iadd C dX6_distance_48 ?_
        exact hR _ _ _ _ dX6_distance_49 rfl ⟨rfl, by
            unfold hk_dis hk_ab
            first
            | rw [if_pos (by omega)]
            | rw [if_neg (by omega), if_pos (by omega), if_pos (by omega)]
            | rw [if_neg (by omega), if_pos (by omega), if_neg (by omega)]
            | rw [if_neg (by omega), if_neg (by omega), if_pos (by omega)]
            | rw [if_neg (by omega), if_neg (by omega), if_neg (by omega)]⟩
  · skip
    refine jm_sipush C dX6_distance_20 (by decide +kernel) ?_
    refine jm_goto 49 C dX6_distance_23 rfl ?_
    exact hR _ _ _ _ dX6_distance_49 rfl ⟨rfl, by
        unfold hk_dis hk_ab
        first
        | rw [if_pos (by omega)]
        | rw [if_neg (by omega), if_pos (by omega), if_pos (by omega)]
        | rw [if_neg (by omega), if_pos (by omega), if_neg (by omega)]
        | rw [if_neg (by omega), if_neg (by omega), if_pos (by omega)]
        | rw [if_neg (by omega), if_neg (by omega), if_neg (by omega)]⟩
set_option maxRecDepth 100000 in
set_option maxHeartbeats 4000000 in
theorem kX6_stoneAt (E : jm_E) (w : jm_W) (I : jm_M) (Q : jm_X6 E w) (x y : Int) (hx : -10 ≤ x ∧ x ≤ 20) (hy : -10 ≤ y ∧ y ≤ 100) : jm_Mi E yX6_stoneAt wX6_stoneAt rmX6_stoneAt 0 0 w I [.ref (w.2.1 300), jm_v x, jm_v y] (fun I' z => I' = I ∧ z = hk_mst (I 325) x y) := by
  refine jm_in_i (cc := cX6_stoneAt) (maxL := 5) (rt := .int) RX6 (by decide +kernel) rfl rfl (Nat.le_of_ble_eq_true rfl) (by simp [Value.category]) ?_
  intro G C hR hI
  refine jm_iconst C dX6_stoneAt_0 ?_
  refine jm_istore_n C dX6_stoneAt_1 (by decide) ?_
  refine jm_iconst C dX6_stoneAt_2 ?_
  refine jm_istore C dX6_stoneAt_3 (by decide) ?_
  have lp5 : ∀ (yn5 : Nat) (m : Nat) (its : Int), 6 - m < yn5 → (m ≤ 6) → (its = hk_last (I 325) (100 * x + y) m) → jm_J E G (0, 0) w I 5 [(0, .ref (w.2.1 300)), (1, jm_v x), (2, jm_v y), (3, jm_v its), (4, jm_v ((m : Nat) : Int))] [] := by
    intro yn5
    induction yn5 with
    | zero => intro m its hlt5 hm hl; exact absurd hlt5 (Nat.not_lt_zero _)
    | succ yn5 ih5 =>
      intro m its hlt5 hm hl
      refine jm_iload C dX6_stoneAt_5 rfl ?_
      refine jm_bipush C dX6_stoneAt_7 (by decide +kernel) ?_
      refine jm_icmp_ge 41 C dX6_stoneAt_9 rfl (by omega) (by decide) (fun yc1 => ?_) (fun yc1 => ?_)
      · skip
        refine jm_iload_n C dX6_stoneAt_41 rfl ?_
        exact hR _ _ _ _ dX6_stoneAt_42 rfl ⟨rfl, by rw [hl, show m = 6 by omega]; rfl⟩
      · skip
        refine jm_aload_n C dX6_stoneAt_12 rfl ?_
        refine jm_getr (ci := 6) (f := 25) C rfl jw_u_6 Q.1.1 Q.1.2 rfl (by decide) jw_f_RX6_75 dX6_stoneAt_13 ?_
        refine jm_iload C dX6_stoneAt_16 rfl ?_
        refine jm_iald C (jm_X6_325 Q).1 rfl (jm_X6_325 Q).2 (by omega) (by omega) (by omega) dX6_stoneAt_18 (fun yr2 => ?_)
        refine jm_bipush C dX6_stoneAt_19 (by decide +kernel) ?_
        refine jm_iload_n C dX6_stoneAt_21 rfl ?_
        refine jm_imul C dX6_stoneAt_22 ?_
        refine jm_iload_n C dX6_stoneAt_23 rfl ?_
        refine jm_iadd C dX6_stoneAt_24 ?_
        refine jm_icmp_ne 33 C dX6_stoneAt_25 rfl (by omega) (by omega) (fun yc3 => ?_) (fun yc3 => ?_)
        · skip
          refine jm_iload_n C dX6_stoneAt_33 rfl ?_
          refine jm_istore_n C dX6_stoneAt_34 (by decide) ?_
          refine jm_iinc C dX6_stoneAt_35 (by decide) rfl ?_
          refine jm_goto 5 C dX6_stoneAt_38 rfl ?_
          refine jm_lvs (lv' := [(0, _), (1, _), (2, _), (3, _), (4, _)]) (jm_sub_c rfl (jm_sub_c rfl (jm_sub_c rfl (jm_sub_c rfl (jm_sub_c rfl (jm_sub_0 _)))))) ?_
          exact ih5 (m + 1) _ (by omega) (by omega) (by rw [hk_last]; first | (exfalso; omega) | rw [if_pos (by omega)] | (rw [if_neg (by omega)]; exact hl))
        · skip
          refine jm_iload C dX6_stoneAt_28 rfl ?_
          refine jm_goto 34 C dX6_stoneAt_30 rfl ?_
          refine jm_istore_n C dX6_stoneAt_34 (by decide) ?_
          refine jm_iinc C dX6_stoneAt_35 (by decide) rfl ?_
          refine jm_goto 5 C dX6_stoneAt_38 rfl ?_
          refine jm_lvs (lv' := [(0, _), (1, _), (2, _), (3, _), (4, _)]) (jm_sub_c rfl (jm_sub_c rfl (jm_sub_c rfl (jm_sub_c rfl (jm_sub_c rfl (jm_sub_0 _)))))) ?_
          exact ih5 (m + 1) _ (by omega) (by omega) (by rw [hk_last]; first | (exfalso; omega) | rw [if_pos (by omega)] | (rw [if_neg (by omega)]; exact hl))
  refine jm_lvs (lv' := [(0, _), (1, _), (2, _), (3, _), (4, _)]) (jm_sub_c rfl (jm_sub_c rfl (jm_sub_c rfl (jm_sub_c rfl (jm_sub_c rfl (jm_sub_0 _)))))) ?_
  exact lp5 _ 0 _ (Nat.lt_succ_self _) (Nat.zero_le _) rfl
set_option maxRecDepth 100000 in
set_option maxHeartbeats 4000000 in
theorem kX6_scored (E : jm_E) (w : jm_W) (I : jm_M) (Q : jm_X6 E w) : jm_Mi E yX6_scored wX6_scored rmX6_scored 0 0 w I [.ref (w.2.1 300)] (fun I' z => I' = I ∧ z = hk_scd (I 325)) := by
  refine jm_in_i (cc := cX6_scored) (maxL := 6) (rt := .int) RX6 (by decide +kernel) rfl rfl (Nat.le_of_ble_eq_true rfl) (by simp [Value.category]) ?_
  intro G C hR hI
  refine jm_bipush C dX6_scored_0 (by decide +kernel) ?_
  refine jm_istore_n C dX6_scored_2 (by decide) ?_
  refine jm_bipush C dX6_scored_3 (by decide +kernel) ?_
  refine jm_istore_n C dX6_scored_5 (by decide) ?_
  refine jm_iconst C dX6_scored_6 ?_
  refine jm_istore_n C dX6_scored_7 (by decide) ?_
  have lp8 : ∀ (yn8 : Nat) (m : Nat) (one : Int) (two : Int), 6 - m < yn8 → (m ≤ 6) → (one = hk_on (I 325) m) → (two = hk_tw (I 325) m) → jm_J E G (0, 0) w I 8 [(0, .ref (w.2.1 300)), (1, jm_v one), (2, jm_v two), (3, jm_v ((m : Nat) : Int))] [] := by
    intro yn8
    induction yn8 with
    | zero => intro m one two hlt8 hm h1 h2; exact absurd hlt8 (Nat.not_lt_zero _)
    | succ yn8 ih8 =>
      intro m one two hlt8 hm h1 h2
      have r1 := hk_on_R (hI 325) m
      have r2 := hk_tw_R (hI 325) m
      refine jm_iload_n C dX6_scored_8 rfl ?_
      refine jm_bipush C dX6_scored_9 (by decide +kernel) ?_
      refine jm_icmp_ge 67 C dX6_scored_11 rfl (by omega) (by decide) (fun yc1 => ?_) (fun yc1 => ?_)
      · skip
        have hm6 : m = 6 := by omega
        subst hm6
        refine jm_iconst C dX6_scored_67 ?_
        refine jm_istore_n C dX6_scored_68 (by decide) ?_
        refine jm_iconst C dX6_scored_69 ?_
        refine jm_istore C dX6_scored_70 (by decide) ?_
        have lp72 : ∀ (yn72 : Nat) (m2 : Nat) (cn : Int), 6 - m2 < yn72 → (m2 ≤ 6) → (cn = hk_nn (I 325) one two m2) → jm_J E G (0, 0) w I 72 [(0, .ref (w.2.1 300)), (1, jm_v one), (2, jm_v two), (3, jm_v cn), (4, jm_v ((m2 : Nat) : Int))] [] := by
          intro yn72
          induction yn72 with
          | zero => intro m2 cn hlt72 hm h3; exact absurd hlt72 (Nat.not_lt_zero _)
          | succ yn72 ih72 =>
            intro m2 cn hlt72 hm h3
            refine jm_iload C dX6_scored_72 rfl ?_
            refine jm_bipush C dX6_scored_74 (by decide +kernel) ?_
            refine jm_icmp_ge 147 C dX6_scored_76 rfl (by omega) (by decide) (fun yc2 => ?_) (fun yc2 => ?_)
            · skip
              refine jm_iload_n C dX6_scored_147 rfl ?_
              exact hR _ _ _ _ dX6_scored_148 rfl ⟨rfl, by rw [h3, show m2 = 6 by omega, h1, h2]; rfl⟩
            · skip
              refine jm_aload_n C dX6_scored_79 rfl ?_
              refine jm_getr (ci := 6) (f := 25) C rfl jw_u_6 Q.1.1 Q.1.2 rfl (by decide) jw_f_RX6_75 dX6_scored_80 ?_
              refine jm_iload C dX6_scored_83 rfl ?_
              refine jm_iald C (jm_X6_325 Q).1 rfl (jm_X6_325 Q).2 (by omega) (by omega) (by omega) dX6_scored_85 (fun yr3 => ?_)
              refine jm_cSd (n := 1) [] C (kX6_distance E w I _ (by omega)) jw_m_RX6_115 okX6_distance rfl ⟨rfl, rfl⟩ ⟨Nat.le_of_ble_eq_true rfl, Nat.le_of_ble_eq_true rfl⟩ rfl rfl (Nat.le_of_ble_eq_true rfl) dX6_scored_86 ⟨Nat.le_of_ble_eq_true rfl, Nat.le_of_ble_eq_true rfl⟩ (fun yz5 yh4 => ?_)
              subst yh4
              have yh4r := hk_dis_R (p := I 325 ((m2 : Nat) : Int)) (by omega)
              refine jm_istore C dX6_scored_89 (by decide) ?_
              refine jm_iload_n C dX6_scored_91 rfl ?_
              refine jm_iload_n C dX6_scored_92 rfl ?_
              refine jm_iload_n C dX6_scored_93 rfl ?_
              refine jm_icmp_ge 113 C dX6_scored_94 rfl (by omega) (by omega) (fun yc6 => ?_) (fun yc6 => ?_)
              · skip
                refine jm_iconst C dX6_scored_113 ?_
                refine jm_iadd C dX6_scored_114 ?_
                refine jm_istore_n C dX6_scored_115 (by decide) ?_
                refine jm_iload_n C dX6_scored_116 rfl ?_
                refine jm_iload_n C dX6_scored_117 rfl ?_
                refine jm_iload_n C dX6_scored_118 rfl ?_
                refine jm_icmp_ge 138 C dX6_scored_119 rfl (by omega) (by omega) (fun yc7 => ?_) (fun yc7 => ?_)
                · skip
                  refine jm_iconst C dX6_scored_138 ?_
                  refine jm_isub C dX6_scored_139 ?_
                  refine jm_istore_n C dX6_scored_140 (by decide) ?_
                  refine jm_iinc C dX6_scored_141 (by decide) rfl ?_
                  refine jm_goto 72 C dX6_scored_144 rfl ?_
                  refine jm_lvs (lv' := [(0, _), (1, _), (2, _), (3, _), (4, _)]) (jm_sub_c rfl (jm_sub_c rfl (jm_sub_c rfl (jm_sub_c rfl (jm_sub_c rfl (jm_sub_0 _)))))) ?_
                  exact ih72 (m2 + 1) _ (by omega) (by omega) (by rw [hk_nn, ← h3]; first | (exfalso; omega) | (rw [if_pos (by omega), if_neg (by omega)]; try omega) | (rw [if_neg (by omega), if_pos (by omega)]; try omega) | (rw [if_neg (by omega), if_neg (by omega)]; try omega))
                · skip
                  refine jm_iload C dX6_scored_122 rfl ?_
                  refine jm_iconst C dX6_scored_124 ?_
                  refine jm_icmp_lt 138 C dX6_scored_125 rfl (by omega) (by decide) (fun yc8 => ?_) (fun yc8 => ?_)
                  · skip
                    refine jm_iconst C dX6_scored_138 ?_
                    refine jm_isub C dX6_scored_139 ?_
                    refine jm_istore_n C dX6_scored_140 (by decide) ?_
                    refine jm_iinc C dX6_scored_141 (by decide) rfl ?_
                    refine jm_goto 72 C dX6_scored_144 rfl ?_
                    refine jm_lvs (lv' := [(0, _), (1, _), (2, _), (3, _), (4, _)]) (jm_sub_c rfl (jm_sub_c rfl (jm_sub_c rfl (jm_sub_c rfl (jm_sub_c rfl (jm_sub_0 _)))))) ?_
                    exact ih72 (m2 + 1) _ (by omega) (by omega) (by rw [hk_nn, ← h3]; first | (exfalso; omega) | (rw [if_pos (by omega), if_neg (by omega)]; try omega) | (rw [if_neg (by omega), if_pos (by omega)]; try omega) | (rw [if_neg (by omega), if_neg (by omega)]; try omega))
                  · skip
                    refine jm_iload C dX6_scored_128 rfl ?_
                    refine jm_iload_n C dX6_scored_130 rfl ?_
                    refine jm_icmp_ge 138 C dX6_scored_131 rfl (by omega) (by omega) (fun yc9 => ?_) (fun yc9 => ?_)
                    · skip
                      refine jm_iconst C dX6_scored_138 ?_
                      refine jm_isub C dX6_scored_139 ?_
                      refine jm_istore_n C dX6_scored_140 (by decide) ?_
                      refine jm_iinc C dX6_scored_141 (by decide) rfl ?_
                      refine jm_goto 72 C dX6_scored_144 rfl ?_
                      refine jm_lvs (lv' := [(0, _), (1, _), (2, _), (3, _), (4, _)]) (jm_sub_c rfl (jm_sub_c rfl (jm_sub_c rfl (jm_sub_c rfl (jm_sub_c rfl (jm_sub_0 _)))))) ?_
                      exact ih72 (m2 + 1) _ (by omega) (by omega) (by rw [hk_nn, ← h3]; first | (exfalso; omega) | (rw [if_pos (by omega), if_neg (by omega)]; try omega) | (rw [if_neg (by omega), if_pos (by omega)]; try omega) | (rw [if_neg (by omega), if_neg (by omega)]; try omega))
                    · skip
                      refine jm_iconst C dX6_scored_134 ?_
                      refine jm_goto 139 C dX6_scored_135 rfl ?_
                      refine jm_isub C dX6_scored_139 ?_
                      refine jm_istore_n C dX6_scored_140 (by decide) ?_
                      refine jm_iinc C dX6_scored_141 (by decide) rfl ?_
                      refine jm_goto 72 C dX6_scored_144 rfl ?_
                      refine jm_lvs (lv' := [(0, _), (1, _), (2, _), (3, _), (4, _)]) (jm_sub_c rfl (jm_sub_c rfl (jm_sub_c rfl (jm_sub_c rfl (jm_sub_c rfl (jm_sub_0 _)))))) ?_
                      exact ih72 (m2 + 1) _ (by omega) (by omega) (by rw [hk_nn, ← h3]; first | (exfalso; omega) | (rw [if_pos (by omega), if_neg (by omega)]; try omega) | (rw [if_neg (by omega), if_pos (by omega)]; try omega) | (rw [if_neg (by omega), if_neg (by omega)]; try omega))
              · skip
                refine jm_iload C dX6_scored_97 rfl ?_
                refine jm_iconst C dX6_scored_99 ?_
                refine jm_icmp_ge 113 C dX6_scored_100 rfl (by omega) (by decide) (fun yc10 => ?_) (fun yc10 => ?_)
                · skip
                  refine jm_iconst C dX6_scored_113 ?_
                  refine jm_iadd C dX6_scored_114 ?_
                  refine jm_istore_n C dX6_scored_115 (by decide) ?_
                  refine jm_iload_n C dX6_scored_116 rfl ?_
                  refine jm_iload_n C dX6_scored_117 rfl ?_
                  refine jm_iload_n C dX6_scored_118 rfl ?_
                  refine jm_icmp_ge 138 C dX6_scored_119 rfl (by omega) (by omega) (fun yc11 => ?_) (fun yc11 => ?_)
                  · skip
                    refine jm_iconst C dX6_scored_138 ?_
                    refine jm_isub C dX6_scored_139 ?_
                    refine jm_istore_n C dX6_scored_140 (by decide) ?_
                    refine jm_iinc C dX6_scored_141 (by decide) rfl ?_
                    refine jm_goto 72 C dX6_scored_144 rfl ?_
                    refine jm_lvs (lv' := [(0, _), (1, _), (2, _), (3, _), (4, _)]) (jm_sub_c rfl (jm_sub_c rfl (jm_sub_c rfl (jm_sub_c rfl (jm_sub_c rfl (jm_sub_0 _)))))) ?_
                    exact ih72 (m2 + 1) _ (by omega) (by omega) (by rw [hk_nn, ← h3]; first | (exfalso; omega) | (rw [if_pos (by omega), if_neg (by omega)]; try omega) | (rw [if_neg (by omega), if_pos (by omega)]; try omega) | (rw [if_neg (by omega), if_neg (by omega)]; try omega))
                  · skip
                    refine jm_iload C dX6_scored_122 rfl ?_
                    refine jm_iconst C dX6_scored_124 ?_
                    refine jm_icmp_lt 138 C dX6_scored_125 rfl (by omega) (by decide) (fun yc12 => ?_) (fun yc12 => ?_)
                    · skip
                      refine jm_iconst C dX6_scored_138 ?_
                      refine jm_isub C dX6_scored_139 ?_
                      refine jm_istore_n C dX6_scored_140 (by decide) ?_
                      refine jm_iinc C dX6_scored_141 (by decide) rfl ?_
                      refine jm_goto 72 C dX6_scored_144 rfl ?_
                      refine jm_lvs (lv' := [(0, _), (1, _), (2, _), (3, _), (4, _)]) (jm_sub_c rfl (jm_sub_c rfl (jm_sub_c rfl (jm_sub_c rfl (jm_sub_c rfl (jm_sub_0 _)))))) ?_
                      exact ih72 (m2 + 1) _ (by omega) (by omega) (by rw [hk_nn, ← h3]; first | (exfalso; omega) | (rw [if_pos (by omega), if_neg (by omega)]; try omega) | (rw [if_neg (by omega), if_pos (by omega)]; try omega) | (rw [if_neg (by omega), if_neg (by omega)]; try omega))
                    · skip
                      refine jm_iload C dX6_scored_128 rfl ?_
                      refine jm_iload_n C dX6_scored_130 rfl ?_
                      refine jm_icmp_ge 138 C dX6_scored_131 rfl (by omega) (by omega) (fun yc13 => ?_) (fun yc13 => ?_)
                      · skip
                        refine jm_iconst C dX6_scored_138 ?_
                        refine jm_isub C dX6_scored_139 ?_
                        refine jm_istore_n C dX6_scored_140 (by decide) ?_
                        refine jm_iinc C dX6_scored_141 (by decide) rfl ?_
                        refine jm_goto 72 C dX6_scored_144 rfl ?_
                        refine jm_lvs (lv' := [(0, _), (1, _), (2, _), (3, _), (4, _)]) (jm_sub_c rfl (jm_sub_c rfl (jm_sub_c rfl (jm_sub_c rfl (jm_sub_c rfl (jm_sub_0 _)))))) ?_
                        exact ih72 (m2 + 1) _ (by omega) (by omega) (by rw [hk_nn, ← h3]; first | (exfalso; omega) | (rw [if_pos (by omega), if_neg (by omega)]; try omega) | (rw [if_neg (by omega), if_pos (by omega)]; try omega) | (rw [if_neg (by omega), if_neg (by omega)]; try omega))
                      · skip
                        refine jm_iconst C dX6_scored_134 ?_
                        refine jm_goto 139 C dX6_scored_135 rfl ?_
                        refine jm_isub C dX6_scored_139 ?_
                        refine jm_istore_n C dX6_scored_140 (by decide) ?_
                        refine jm_iinc C dX6_scored_141 (by decide) rfl ?_
                        refine jm_goto 72 C dX6_scored_144 rfl ?_
                        refine jm_lvs (lv' := [(0, _), (1, _), (2, _), (3, _), (4, _)]) (jm_sub_c rfl (jm_sub_c rfl (jm_sub_c rfl (jm_sub_c rfl (jm_sub_c rfl (jm_sub_0 _)))))) ?_
                        exact ih72 (m2 + 1) _ (by omega) (by omega) (by rw [hk_nn, ← h3]; first | (exfalso; omega) | (rw [if_pos (by omega), if_neg (by omega)]; try omega) | (rw [if_neg (by omega), if_pos (by omega)]; try omega) | (rw [if_neg (by omega), if_neg (by omega)]; try omega))
                · skip
                  refine jm_iload C dX6_scored_103 rfl ?_
                  refine jm_iload_n C dX6_scored_105 rfl ?_
                  refine jm_icmp_ge 113 C dX6_scored_106 rfl (by omega) (by omega) (fun yc14 => ?_) (fun yc14 => ?_)
                  · skip
                    refine jm_iconst C dX6_scored_113 ?_
                    refine jm_iadd C dX6_scored_114 ?_
                    refine jm_istore_n C dX6_scored_115 (by decide) ?_
                    refine jm_iload_n C dX6_scored_116 rfl ?_
                    refine jm_iload_n C dX6_scored_117 rfl ?_
                    refine jm_iload_n C dX6_scored_118 rfl ?_
                    refine jm_icmp_ge 138 C dX6_scored_119 rfl (by omega) (by omega) (fun yc15 => ?_) (fun yc15 => ?_)
                    · skip
                      refine jm_iconst C dX6_scored_138 ?_
                      refine jm_isub C dX6_scored_139 ?_
                      refine jm_istore_n C dX6_scored_140 (by decide) ?_
                      refine jm_iinc C dX6_scored_141 (by decide) rfl ?_
                      refine jm_goto 72 C dX6_scored_144 rfl ?_
                      refine jm_lvs (lv' := [(0, _), (1, _), (2, _), (3, _), (4, _)]) (jm_sub_c rfl (jm_sub_c rfl (jm_sub_c rfl (jm_sub_c rfl (jm_sub_c rfl (jm_sub_0 _)))))) ?_
                      exact ih72 (m2 + 1) _ (by omega) (by omega) (by rw [hk_nn, ← h3]; first | (exfalso; omega) | (rw [if_pos (by omega), if_neg (by omega)]; try omega) | (rw [if_neg (by omega), if_pos (by omega)]; try omega) | (rw [if_neg (by omega), if_neg (by omega)]; try omega))
                    · skip
                      refine jm_iload C dX6_scored_122 rfl ?_
                      refine jm_iconst C dX6_scored_124 ?_
                      refine jm_icmp_lt 138 C dX6_scored_125 rfl (by omega) (by decide) (fun yc16 => ?_) (fun yc16 => ?_)
                      · skip
                        refine jm_iconst C dX6_scored_138 ?_
                        refine jm_isub C dX6_scored_139 ?_
                        refine jm_istore_n C dX6_scored_140 (by decide) ?_
                        refine jm_iinc C dX6_scored_141 (by decide) rfl ?_
                        refine jm_goto 72 C dX6_scored_144 rfl ?_
                        refine jm_lvs (lv' := [(0, _), (1, _), (2, _), (3, _), (4, _)]) (jm_sub_c rfl (jm_sub_c rfl (jm_sub_c rfl (jm_sub_c rfl (jm_sub_c rfl (jm_sub_0 _)))))) ?_
                        exact ih72 (m2 + 1) _ (by omega) (by omega) (by rw [hk_nn, ← h3]; first | (exfalso; omega) | (rw [if_pos (by omega), if_neg (by omega)]; try omega) | (rw [if_neg (by omega), if_pos (by omega)]; try omega) | (rw [if_neg (by omega), if_neg (by omega)]; try omega))
                      · skip
                        refine jm_iload C dX6_scored_128 rfl ?_
                        refine jm_iload_n C dX6_scored_130 rfl ?_
                        refine jm_icmp_ge 138 C dX6_scored_131 rfl (by omega) (by omega) (fun yc17 => ?_) (fun yc17 => ?_)
                        · skip
                          refine jm_iconst C dX6_scored_138 ?_
                          refine jm_isub C dX6_scored_139 ?_
                          refine jm_istore_n C dX6_scored_140 (by decide) ?_
                          refine jm_iinc C dX6_scored_141 (by decide) rfl ?_
                          refine jm_goto 72 C dX6_scored_144 rfl ?_
                          refine jm_lvs (lv' := [(0, _), (1, _), (2, _), (3, _), (4, _)]) (jm_sub_c rfl (jm_sub_c rfl (jm_sub_c rfl (jm_sub_c rfl (jm_sub_c rfl (jm_sub_0 _)))))) ?_
                          exact ih72 (m2 + 1) _ (by omega) (by omega) (by rw [hk_nn, ← h3]; first | (exfalso; omega) | (rw [if_pos (by omega), if_neg (by omega)]; try omega) | (rw [if_neg (by omega), if_pos (by omega)]; try omega) | (rw [if_neg (by omega), if_neg (by omega)]; try omega))
                        · skip
                          refine jm_iconst C dX6_scored_134 ?_
                          refine jm_goto 139 C dX6_scored_135 rfl ?_
                          refine jm_isub C dX6_scored_139 ?_
                          refine jm_istore_n C dX6_scored_140 (by decide) ?_
                          refine jm_iinc C dX6_scored_141 (by decide) rfl ?_
                          refine jm_goto 72 C dX6_scored_144 rfl ?_
                          refine jm_lvs (lv' := [(0, _), (1, _), (2, _), (3, _), (4, _)]) (jm_sub_c rfl (jm_sub_c rfl (jm_sub_c rfl (jm_sub_c rfl (jm_sub_c rfl (jm_sub_0 _)))))) ?_
                          exact ih72 (m2 + 1) _ (by omega) (by omega) (by rw [hk_nn, ← h3]; first | (exfalso; omega) | (rw [if_pos (by omega), if_neg (by omega)]; try omega) | (rw [if_neg (by omega), if_pos (by omega)]; try omega) | (rw [if_neg (by omega), if_neg (by omega)]; try omega))
                  · skip
                    refine jm_iconst C dX6_scored_109 ?_
                    refine jm_goto 114 C dX6_scored_110 rfl ?_
                    refine jm_iadd C dX6_scored_114 ?_
                    refine jm_istore_n C dX6_scored_115 (by decide) ?_
                    refine jm_iload_n C dX6_scored_116 rfl ?_
                    refine jm_iload_n C dX6_scored_117 rfl ?_
                    refine jm_iload_n C dX6_scored_118 rfl ?_
                    refine jm_icmp_ge 138 C dX6_scored_119 rfl (by omega) (by omega) (fun yc18 => ?_) (fun yc18 => ?_)
                    · skip
                      refine jm_iconst C dX6_scored_138 ?_
                      refine jm_isub C dX6_scored_139 ?_
                      refine jm_istore_n C dX6_scored_140 (by decide) ?_
                      refine jm_iinc C dX6_scored_141 (by decide) rfl ?_
                      refine jm_goto 72 C dX6_scored_144 rfl ?_
                      refine jm_lvs (lv' := [(0, _), (1, _), (2, _), (3, _), (4, _)]) (jm_sub_c rfl (jm_sub_c rfl (jm_sub_c rfl (jm_sub_c rfl (jm_sub_c rfl (jm_sub_0 _)))))) ?_
                      exact ih72 (m2 + 1) _ (by omega) (by omega) (by rw [hk_nn, ← h3]; first | (exfalso; omega) | (rw [if_pos (by omega), if_neg (by omega)]; try omega) | (rw [if_neg (by omega), if_pos (by omega)]; try omega) | (rw [if_neg (by omega), if_neg (by omega)]; try omega))
                    · skip
                      refine jm_iload C dX6_scored_122 rfl ?_
                      refine jm_iconst C dX6_scored_124 ?_
                      refine jm_icmp_lt 138 C dX6_scored_125 rfl (by omega) (by decide) (fun yc19 => ?_) (fun yc19 => ?_)
                      · skip
                        refine jm_iconst C dX6_scored_138 ?_
                        refine jm_isub C dX6_scored_139 ?_
                        refine jm_istore_n C dX6_scored_140 (by decide) ?_
                        refine jm_iinc C dX6_scored_141 (by decide) rfl ?_
                        refine jm_goto 72 C dX6_scored_144 rfl ?_
                        refine jm_lvs (lv' := [(0, _), (1, _), (2, _), (3, _), (4, _)]) (jm_sub_c rfl (jm_sub_c rfl (jm_sub_c rfl (jm_sub_c rfl (jm_sub_c rfl (jm_sub_0 _)))))) ?_
                        exact ih72 (m2 + 1) _ (by omega) (by omega) (by rw [hk_nn, ← h3]; first | (exfalso; omega) | (rw [if_pos (by omega), if_neg (by omega)]; try omega) | (rw [if_neg (by omega), if_pos (by omega)]; try omega) | (rw [if_neg (by omega), if_neg (by omega)]; try omega))
                      · skip
                        refine jm_iload C dX6_scored_128 rfl ?_
                        refine jm_iload_n C dX6_scored_130 rfl ?_
                        refine jm_icmp_ge 138 C dX6_scored_131 rfl (by omega) (by omega) (fun yc20 => ?_) (fun yc20 => ?_)
                        · skip
                          refine jm_iconst C dX6_scored_138 ?_
                          refine jm_isub C dX6_scored_139 ?_
                          refine jm_istore_n C dX6_scored_140 (by decide) ?_
                          refine jm_iinc C dX6_scored_141 (by decide) rfl ?_
                          refine jm_goto 72 C dX6_scored_144 rfl ?_
                          refine jm_lvs (lv' := [(0, _), (1, _), (2, _), (3, _), (4, _)]) (jm_sub_c rfl (jm_sub_c rfl (jm_sub_c rfl (jm_sub_c rfl (jm_sub_c rfl (jm_sub_0 _)))))) ?_
                          exact ih72 (m2 + 1) _ (by omega) (by omega) (by rw [hk_nn, ← h3]; first | (exfalso; omega) | (rw [if_pos (by omega), if_neg (by omega)]; try omega) | (rw [if_neg (by omega), if_pos (by omega)]; try omega) | (rw [if_neg (by omega), if_neg (by omega)]; try omega))
                        · skip
                          refine jm_iconst C dX6_scored_134 ?_
                          refine jm_goto 139 C dX6_scored_135 rfl ?_
                          refine jm_isub C dX6_scored_139 ?_
                          refine jm_istore_n C dX6_scored_140 (by decide) ?_
                          refine jm_iinc C dX6_scored_141 (by decide) rfl ?_
                          refine jm_goto 72 C dX6_scored_144 rfl ?_
                          refine jm_lvs (lv' := [(0, _), (1, _), (2, _), (3, _), (4, _)]) (jm_sub_c rfl (jm_sub_c rfl (jm_sub_c rfl (jm_sub_c rfl (jm_sub_c rfl (jm_sub_0 _)))))) ?_
                          exact ih72 (m2 + 1) _ (by omega) (by omega) (by rw [hk_nn, ← h3]; first | (exfalso; omega) | (rw [if_pos (by omega), if_neg (by omega)]; try omega) | (rw [if_neg (by omega), if_pos (by omega)]; try omega) | (rw [if_neg (by omega), if_neg (by omega)]; try omega))
        refine jm_lvs (lv' := [(0, _), (1, _), (2, _), (3, _), (4, _)]) (jm_sub_c rfl (jm_sub_c rfl (jm_sub_c rfl (jm_sub_c rfl (jm_sub_c rfl (jm_sub_0 _)))))) ?_
        exact lp72 _ 0 _ (Nat.lt_succ_self _) (Nat.zero_le _) rfl
      · skip
        refine jm_aload_n C dX6_scored_14 rfl ?_
        refine jm_getr (ci := 6) (f := 25) C rfl jw_u_6 Q.1.1 Q.1.2 rfl (by decide) jw_f_RX6_75 dX6_scored_15 ?_
        refine jm_iload_n C dX6_scored_18 rfl ?_
        refine jm_iald C (jm_X6_325 Q).1 rfl (jm_X6_325 Q).2 (by omega) (by omega) (by omega) dX6_scored_19 (fun yr21 => ?_)
        refine jm_cSd (n := 1) [] C (kX6_distance E w I _ (by omega)) jw_m_RX6_115 okX6_distance rfl ⟨rfl, rfl⟩ ⟨Nat.le_of_ble_eq_true rfl, Nat.le_of_ble_eq_true rfl⟩ rfl rfl (Nat.le_of_ble_eq_true rfl) dX6_scored_20 ⟨Nat.le_of_ble_eq_true rfl, Nat.le_of_ble_eq_true rfl⟩ (fun yz23 yh22 => ?_)
        subst yh22
        have yh22r := hk_dis_R (p := I 325 ((m : Nat) : Int)) (by omega)
        refine jm_istore C dX6_scored_23 (by decide) ?_
        refine jm_iload_n C dX6_scored_25 rfl ?_
        refine jm_iconst C dX6_scored_26 ?_
        refine jm_icmp_ge 41 C dX6_scored_27 rfl (by omega) (by decide) (fun yc24 => ?_) (fun yc24 => ?_)
        · skip
          refine jm_iload_n C dX6_scored_41 rfl ?_
          refine jm_istore_n C dX6_scored_42 (by decide) ?_
          refine jm_iload_n C dX6_scored_43 rfl ?_
          refine jm_iconst C dX6_scored_44 ?_
          refine jm_icmp_lt 59 C dX6_scored_45 rfl (by omega) (by decide) (fun yc25 => ?_) (fun yc25 => ?_)
          · skip
            refine jm_iload_n C dX6_scored_59 rfl ?_
            refine jm_istore_n C dX6_scored_60 (by decide) ?_
            refine jm_iinc C dX6_scored_61 (by decide) rfl ?_
            refine jm_goto 8 C dX6_scored_64 rfl ?_
            refine jm_lvs (lv' := [(0, _), (1, _), (2, _), (3, _)]) (jm_sub_c rfl (jm_sub_c rfl (jm_sub_c rfl (jm_sub_c rfl (jm_sub_0 _))))) ?_
            exact ih8 (m + 1) _ _ (by omega) (by omega) (by rw [hk_on]; first | (exfalso; omega) | (rw [if_pos (by omega)]) | (rw [if_neg (by omega)]; exact h1)) (by rw [hk_tw]; first | (exfalso; omega) | (rw [if_pos (by omega)]) | (rw [if_neg (by omega)]; exact h2))
          · skip
            refine jm_iload C dX6_scored_48 rfl ?_
            refine jm_iload_n C dX6_scored_50 rfl ?_
            refine jm_icmp_ge 59 C dX6_scored_51 rfl (by omega) (by omega) (fun yc26 => ?_) (fun yc26 => ?_)
            · skip
              refine jm_iload_n C dX6_scored_59 rfl ?_
              refine jm_istore_n C dX6_scored_60 (by decide) ?_
              refine jm_iinc C dX6_scored_61 (by decide) rfl ?_
              refine jm_goto 8 C dX6_scored_64 rfl ?_
              refine jm_lvs (lv' := [(0, _), (1, _), (2, _), (3, _)]) (jm_sub_c rfl (jm_sub_c rfl (jm_sub_c rfl (jm_sub_c rfl (jm_sub_0 _))))) ?_
              exact ih8 (m + 1) _ _ (by omega) (by omega) (by rw [hk_on]; first | (exfalso; omega) | (rw [if_pos (by omega)]) | (rw [if_neg (by omega)]; exact h1)) (by rw [hk_tw]; first | (exfalso; omega) | (rw [if_pos (by omega)]) | (rw [if_neg (by omega)]; exact h2))
            · skip
              refine jm_iload C dX6_scored_54 rfl ?_
              refine jm_goto 60 C dX6_scored_56 rfl ?_
              refine jm_istore_n C dX6_scored_60 (by decide) ?_
              refine jm_iinc C dX6_scored_61 (by decide) rfl ?_
              refine jm_goto 8 C dX6_scored_64 rfl ?_
              refine jm_lvs (lv' := [(0, _), (1, _), (2, _), (3, _)]) (jm_sub_c rfl (jm_sub_c rfl (jm_sub_c rfl (jm_sub_c rfl (jm_sub_0 _))))) ?_
              exact ih8 (m + 1) _ _ (by omega) (by omega) (by rw [hk_on]; first | (exfalso; omega) | (rw [if_pos (by omega)]) | (rw [if_neg (by omega)]; exact h1)) (by rw [hk_tw]; first | (exfalso; omega) | (rw [if_pos (by omega)]) | (rw [if_neg (by omega)]; exact h2))
        · skip
          refine jm_iload C dX6_scored_30 rfl ?_
          refine jm_iload_n C dX6_scored_32 rfl ?_
          refine jm_icmp_ge 41 C dX6_scored_33 rfl (by omega) (by omega) (fun yc27 => ?_) (fun yc27 => ?_)
          · skip
            refine jm_iload_n C dX6_scored_41 rfl ?_
            refine jm_istore_n C dX6_scored_42 (by decide) ?_
            refine jm_iload_n C dX6_scored_43 rfl ?_
            refine jm_iconst C dX6_scored_44 ?_
            refine jm_icmp_lt 59 C dX6_scored_45 rfl (by omega) (by decide) (fun yc28 => ?_) (fun yc28 => ?_)
            · skip
              refine jm_iload_n C dX6_scored_59 rfl ?_
              refine jm_istore_n C dX6_scored_60 (by decide) ?_
              refine jm_iinc C dX6_scored_61 (by decide) rfl ?_
              refine jm_goto 8 C dX6_scored_64 rfl ?_
              refine jm_lvs (lv' := [(0, _), (1, _), (2, _), (3, _)]) (jm_sub_c rfl (jm_sub_c rfl (jm_sub_c rfl (jm_sub_c rfl (jm_sub_0 _))))) ?_
              exact ih8 (m + 1) _ _ (by omega) (by omega) (by rw [hk_on]; first | (exfalso; omega) | (rw [if_pos (by omega)]) | (rw [if_neg (by omega)]; exact h1)) (by rw [hk_tw]; first | (exfalso; omega) | (rw [if_pos (by omega)]) | (rw [if_neg (by omega)]; exact h2))
            · skip
              refine jm_iload C dX6_scored_48 rfl ?_
              refine jm_iload_n C dX6_scored_50 rfl ?_
              refine jm_icmp_ge 59 C dX6_scored_51 rfl (by omega) (by omega) (fun yc29 => ?_) (fun yc29 => ?_)
              · skip
                refine jm_iload_n C dX6_scored_59 rfl ?_
                refine jm_istore_n C dX6_scored_60 (by decide) ?_
                refine jm_iinc C dX6_scored_61 (by decide) rfl ?_
                refine jm_goto 8 C dX6_scored_64 rfl ?_
                refine jm_lvs (lv' := [(0, _), (1, _), (2, _), (3, _)]) (jm_sub_c rfl (jm_sub_c rfl (jm_sub_c rfl (jm_sub_c rfl (jm_sub_0 _))))) ?_
                exact ih8 (m + 1) _ _ (by omega) (by omega) (by rw [hk_on]; first | (exfalso; omega) | (rw [if_pos (by omega)]) | (rw [if_neg (by omega)]; exact h1)) (by rw [hk_tw]; first | (exfalso; omega) | (rw [if_pos (by omega)]) | (rw [if_neg (by omega)]; exact h2))
              · skip
                refine jm_iload C dX6_scored_54 rfl ?_
                refine jm_goto 60 C dX6_scored_56 rfl ?_
                refine jm_istore_n C dX6_scored_60 (by decide) ?_
                refine jm_iinc C dX6_scored_61 (by decide) rfl ?_
                refine jm_goto 8 C dX6_scored_64 rfl ?_
                refine jm_lvs (lv' := [(0, _), (1, _), (2, _), (3, _)]) (jm_sub_c rfl (jm_sub_c rfl (jm_sub_c rfl (jm_sub_c rfl (jm_sub_0 _))))) ?_
                exact ih8 (m + 1) _ _ (by omega) (by omega) (by rw [hk_on]; first | (exfalso; omega) | (rw [if_pos (by omega)]) | (rw [if_neg (by omega)]; exact h1)) (by rw [hk_tw]; first | (exfalso; omega) | (rw [if_pos (by omega)]) | (rw [if_neg (by omega)]; exact h2))
          · skip
            refine jm_iload C dX6_scored_36 rfl ?_
            refine jm_goto 42 C dX6_scored_38 rfl ?_
            refine jm_istore_n C dX6_scored_42 (by decide) ?_
            refine jm_iload_n C dX6_scored_43 rfl ?_
            refine jm_iconst C dX6_scored_44 ?_
            refine jm_icmp_lt 59 C dX6_scored_45 rfl (by omega) (by decide) (fun yc30 => ?_) (fun yc30 => ?_)
            · skip
              refine jm_iload_n C dX6_scored_59 rfl ?_
              refine jm_istore_n C dX6_scored_60 (by decide) ?_
              refine jm_iinc C dX6_scored_61 (by decide) rfl ?_
              refine jm_goto 8 C dX6_scored_64 rfl ?_
              refine jm_lvs (lv' := [(0, _), (1, _), (2, _), (3, _)]) (jm_sub_c rfl (jm_sub_c rfl (jm_sub_c rfl (jm_sub_c rfl (jm_sub_0 _))))) ?_
              exact ih8 (m + 1) _ _ (by omega) (by omega) (by rw [hk_on]; first | (exfalso; omega) | (rw [if_pos (by omega)]) | (rw [if_neg (by omega)]; exact h1)) (by rw [hk_tw]; first | (exfalso; omega) | (rw [if_pos (by omega)]) | (rw [if_neg (by omega)]; exact h2))
            · skip
              refine jm_iload C dX6_scored_48 rfl ?_
              refine jm_iload_n C dX6_scored_50 rfl ?_
              refine jm_icmp_ge 59 C dX6_scored_51 rfl (by omega) (by omega) (fun yc31 => ?_) (fun yc31 => ?_)
              · skip
                refine jm_iload_n C dX6_scored_59 rfl ?_
                refine jm_istore_n C dX6_scored_60 (by decide) ?_
                refine jm_iinc C dX6_scored_61 (by decide) rfl ?_
                refine jm_goto 8 C dX6_scored_64 rfl ?_
                refine jm_lvs (lv' := [(0, _), (1, _), (2, _), (3, _)]) (jm_sub_c rfl (jm_sub_c rfl (jm_sub_c rfl (jm_sub_c rfl (jm_sub_0 _))))) ?_
                exact ih8 (m + 1) _ _ (by omega) (by omega) (by rw [hk_on]; first | (exfalso; omega) | (rw [if_pos (by omega)]) | (rw [if_neg (by omega)]; exact h1)) (by rw [hk_tw]; first | (exfalso; omega) | (rw [if_pos (by omega)]) | (rw [if_neg (by omega)]; exact h2))
              · skip
                refine jm_iload C dX6_scored_54 rfl ?_
                refine jm_goto 60 C dX6_scored_56 rfl ?_
                refine jm_istore_n C dX6_scored_60 (by decide) ?_
                refine jm_iinc C dX6_scored_61 (by decide) rfl ?_
                refine jm_goto 8 C dX6_scored_64 rfl ?_
                refine jm_lvs (lv' := [(0, _), (1, _), (2, _), (3, _)]) (jm_sub_c rfl (jm_sub_c rfl (jm_sub_c rfl (jm_sub_c rfl (jm_sub_0 _))))) ?_
                exact ih8 (m + 1) _ _ (by omega) (by omega) (by rw [hk_on]; first | (exfalso; omega) | (rw [if_pos (by omega)]) | (rw [if_neg (by omega)]; exact h1)) (by rw [hk_tw]; first | (exfalso; omega) | (rw [if_pos (by omega)]) | (rw [if_neg (by omega)]; exact h2))
  refine jm_lvs (lv' := [(0, _), (1, _), (2, _), (3, _)]) (jm_sub_c rfl (jm_sub_c rfl (jm_sub_c rfl (jm_sub_c rfl (jm_sub_0 _))))) ?_
  exact lp8 _ 0 _ _ (Nat.lt_succ_self _) (Nat.zero_le _) rfl rfl
set_option maxRecDepth 100000 in
set_option maxHeartbeats 4000000 in
theorem kX6_takesUp (E : jm_E) (w : jm_W) (I : jm_M) (Q : jm_X6 E w) (g : Int) (hg12 : 0 ≤ g ∧ g < 12) (hs : 0 ≤ I 314 g ∧ I 314 g < 3) : jm_Mv E yX6_takesUp wX6_takesUp rmX6_takesUp 0 0 w I [.ref (w.2.1 300), jm_v g] (fun I' => I' = hk_tku I g) := by
  refine jm_in_v (cc := cX6_takesUp) (maxL := 3) RX6 (by decide +kernel) rfl rfl (Nat.le_of_ble_eq_true rfl) (by simp [Value.category]) ?_
  intro G C hR hI
  refine jm_iconst C dX6_takesUp_0 ?_
  refine jm_istore_n C dX6_takesUp_1 (by decide) ?_
  have lp2 : ∀ (yn2 : Nat) (m : Nat) (I2 : jm_M), 549 - m < yn2 → (m ≤ 549) → (I2 = hk_fill I 324 m (fun c => I 305 (549 * I 314 g + c))) → (∀ k j, jm_R (I2 k j)) → jm_J E G (0, 0) w I2 2 [(0, .ref (w.2.1 300)), (1, jm_v g), (2, jm_v ((m : Nat) : Int))] [] := by
    intro yn2
    induction yn2 with
    | zero => intro m I2 hlt2 hm hI2 hImem; exact absurd hlt2 (Nat.not_lt_zero _)
    | succ yn2 ih2 =>
      intro m I2 hlt2 hm hI2 hImem
      have hsh : I2 314 g = I 314 g := by rw [hI2]; exact hk_fill_o (Or.inl (by decide))
      have hrow : I2 305 = I 305 := by rw [hI2]; exact hk_fill_f (by decide)
      refine jm_iload_n C dX6_takesUp_2 rfl ?_
      refine jm_sipush C dX6_takesUp_3 (by decide +kernel) ?_
      refine jm_icmp_ge 38 C dX6_takesUp_6 rfl (by omega) (by decide) (fun yc1 => ?_) (fun yc1 => ?_)
      · skip
        refine jm_iconst C dX6_takesUp_38 ?_
        refine jm_istore_n C dX6_takesUp_39 (by decide) ?_
        have lp40 : ∀ (yn40 : Nat) (m2 : Nat) (I3 : jm_M), 6 - m2 < yn40 → (m2 ≤ 6) → (I3 = hk_fill (hk_fill I 324 549 (fun c => I 305 (549 * I 314 g + c))) 325 m2 (fun k => I 320 (6 * g + k))) → (∀ k j, jm_R (I3 k j)) → jm_J E G (0, 0) w I3 40 [(0, .ref (w.2.1 300)), (1, jm_v g), (2, jm_v ((m2 : Nat) : Int))] [] := by
          intro yn40
          induction yn40 with
          | zero => intro m2 I3 hlt40 hm hI3 hImem; exact absurd hlt40 (Nat.not_lt_zero _)
          | succ yn40 ih40 =>
            intro m2 I3 hlt40 hm hI3 hImem
            have hrow2 : I3 320 = I 320 := by rw [hI3, hk_fill_f (by decide), hk_fill_f (by decide)]
            refine jm_iload_n C dX6_takesUp_40 rfl ?_
            refine jm_bipush C dX6_takesUp_41 (by decide +kernel) ?_
            refine jm_icmp_ge 69 C dX6_takesUp_43 rfl (by omega) (by decide) (fun yc2 => ?_) (fun yc2 => ?_)
            · skip
              exact hR _ _ _ dX6_takesUp_69 (by rw [hI3, show m2 = 6 by omega]; rfl)
            · skip
              refine jm_aload_n C dX6_takesUp_46 rfl ?_
              refine jm_getr (ci := 6) (f := 25) C rfl jw_u_6 Q.1.1 Q.1.2 rfl (by decide) jw_f_RX6_75 dX6_takesUp_47 ?_
              refine jm_iload_n C dX6_takesUp_50 rfl ?_
              refine jm_aload_n C dX6_takesUp_51 rfl ?_
              refine jm_getr (ci := 6) (f := 20) C rfl jw_u_6 Q.1.1 Q.1.2 rfl (by decide) jw_f_RX6_60 dX6_takesUp_52 ?_
              refine jm_bipush C dX6_takesUp_55 (by decide +kernel) ?_
              refine jm_iload_n C dX6_takesUp_57 rfl ?_
              refine jm_imul C dX6_takesUp_58 ?_
              refine jm_iload_n C dX6_takesUp_59 rfl ?_
              refine jm_iadd C dX6_takesUp_60 ?_
              refine jm_iald C (jm_X6_320 Q).1 rfl (jm_X6_320 Q).2 (by omega) (by omega) (by omega) dX6_takesUp_61 (fun yr3 => ?_)
              refine jm_iast C (jm_X6_325 Q).1 rfl (jm_X6_325 Q).2 (by omega) (by omega) (by omega) dX6_takesUp_62 (by omega) ?_
              refine jm_iinc C dX6_takesUp_63 (by decide) rfl ?_
              refine jm_goto 40 C dX6_takesUp_66 rfl ?_
              refine jm_lvs (lv' := [(0, _), (1, _), (2, _)]) (jm_sub_c rfl (jm_sub_c rfl (jm_sub_c rfl (jm_sub_0 _)))) ?_
              exact ih40 (m2 + 1) _ (by omega) (by omega) (by rw [hrow2, hI3]; exact hk_fill_s (hk_fill I 324 549 (fun c => I 305 (549 * I 314 g + c))) 325 m2 (fun k => I 320 (6 * g + k))) (jm_upR hImem (by omega))
        refine jm_lvs (lv' := [(0, _), (1, _), (2, _)]) (jm_sub_c rfl (jm_sub_c rfl (jm_sub_c rfl (jm_sub_0 _)))) ?_
        exact lp40 _ 0 _ (Nat.lt_succ_self _) (Nat.zero_le _) (by rw [hI2, show m = 549 by omega]; exact (hk_fill_0 _ _ _).symm) hImem
      · skip
        refine jm_aload_n C dX6_takesUp_9 rfl ?_
        refine jm_getr (ci := 6) (f := 24) C rfl jw_u_6 Q.1.1 Q.1.2 rfl (by decide) jw_f_RX6_72 dX6_takesUp_10 ?_
        refine jm_iload_n C dX6_takesUp_13 rfl ?_
        refine jm_aload_n C dX6_takesUp_14 rfl ?_
        refine jm_getr (ci := 6) (f := 5) C rfl jw_u_6 Q.1.1 Q.1.2 rfl (by decide) jw_f_RX6_16 dX6_takesUp_15 ?_
        refine jm_sipush C dX6_takesUp_18 (by decide +kernel) ?_
        refine jm_aload_n C dX6_takesUp_21 rfl ?_
        refine jm_getr (ci := 6) (f := 14) C rfl jw_u_6 Q.1.1 Q.1.2 rfl (by decide) jw_f_RX6_42 dX6_takesUp_22 ?_
        refine jm_iload_n C dX6_takesUp_25 rfl ?_
        refine jm_iald C (jm_X6_314 Q).1 rfl (jm_X6_314 Q).2 (by omega) (by omega) (by omega) dX6_takesUp_26 (fun yr4 => ?_)
        refine jm_imul C dX6_takesUp_27 ?_
        refine jm_iload_n C dX6_takesUp_28 rfl ?_
        refine jm_iadd C dX6_takesUp_29 ?_
        refine jm_iald C (jm_X6_305 Q).1 rfl (jm_X6_305 Q).2 (by omega) (by omega) (by omega) dX6_takesUp_30 (fun yr5 => ?_)
        refine jm_iast C (jm_X6_324 Q).1 rfl (jm_X6_324 Q).2 (by omega) (by omega) (by omega) dX6_takesUp_31 (by omega) ?_
        refine jm_iinc C dX6_takesUp_32 (by decide) rfl ?_
        refine jm_goto 2 C dX6_takesUp_35 rfl ?_
        refine jm_lvs (lv' := [(0, _), (1, _), (2, _)]) (jm_sub_c rfl (jm_sub_c rfl (jm_sub_c rfl (jm_sub_0 _)))) ?_
        exact ih2 (m + 1) _ (by omega) (by omega) (by rw [hrow, hsh, hI2]; exact hk_fill_s I 324 m (fun c => I 305 (549 * I 314 g + c))) (jm_upR hImem (by omega))
  refine jm_lvs (lv' := [(0, _), (1, _), (2, _)]) (jm_sub_c rfl (jm_sub_c rfl (jm_sub_c rfl (jm_sub_0 _)))) ?_
  exact lp2 _ 0 _ (Nat.lt_succ_self _) (Nat.zero_le _) (hk_fill_0 _ _ _).symm hI
set_option maxRecDepth 100000 in
set_option maxHeartbeats 4000000 in
theorem kX6_isFree (E : jm_E) (w : jm_W) (I : jm_M) (Q : jm_X6 E w) (s : Int) (hs : 0 ≤ s ∧ s < 3) : jm_Mi E yX6_isFree wX6_isFree rmX6_isFree 0 0 w I [.ref (w.2.1 300), jm_v s] (fun I' z => I' = I ∧ ((I 307 s = -1 ∧ z = 1) ∨ (¬ I 307 s = -1 ∧ z = 0))) := by
  refine jm_in_i (cc := cX6_isFree) (maxL := 2) (rt := .boolean) RX6 (by decide +kernel) rfl rfl (Nat.le_of_ble_eq_true rfl) (by simp [Value.category]) ?_
  intro G C hR hI
  refine jm_aload_n C dX6_isFree_0 rfl ?_
  refine jm_getr (ci := 6) (f := 7) C rfl jw_u_6 Q.1.1 Q.1.2 rfl (by decide) jw_f_RX6_24 dX6_isFree_1 ?_
  refine jm_iload_n C dX6_isFree_4 rfl ?_
  refine jm_iald C (jm_X6_307 Q).1 rfl (jm_X6_307 Q).2 (by omega) (by omega) (by omega) dX6_isFree_5 (fun yr1 => ?_)
  refine jm_iconst C dX6_isFree_6 ?_
  refine jm_icmp_ne 14 C dX6_isFree_7 rfl (by omega) (by decide) (fun yc2 => ?_) (fun yc2 => ?_)
  · skip
    refine jm_iconst C dX6_isFree_14 ?_
    exact hR _ _ _ _ dX6_isFree_15 (jm_nz (by decide)) ⟨rfl, by omega⟩
  · skip
    refine jm_iconst C dX6_isFree_10 ?_
    refine jm_goto 15 C dX6_isFree_11 rfl ?_
    exact hR _ _ _ _ dX6_isFree_15 (jm_nz (by decide)) ⟨rfl, by omega⟩
set_option maxRecDepth 100000 in
set_option maxHeartbeats 4000000 in
theorem kX6_average (E : jm_E) (w : jm_W) (I : jm_M) (Q : jm_X6 E w) (t : Int) (ht : 0 ≤ t ∧ t < 6) : jm_Mi E yX6_average wX6_average rmX6_average 0 0 w I [.ref (w.2.1 300), jm_v t] (fun I' z => I' = I ∧ z = hk_mavg I t) := by
  refine jm_in_i (cc := cX6_average) (maxL := 2) (rt := .int) RX6 (by decide +kernel) rfl rfl (Nat.le_of_ble_eq_true rfl) (by simp [Value.category]) ?_
  intro G C hR hI
  refine jm_aload_n C dX6_average_0 rfl ?_
  refine jm_getr (ci := 6) (f := 22) C rfl jw_u_6 Q.1.1 Q.1.2 rfl (by decide) jw_f_RX6_66 dX6_average_1 ?_
  refine jm_iload_n C dX6_average_4 rfl ?_
  refine jm_iald C (jm_X6_322 Q).1 rfl (jm_X6_322 Q).2 (by omega) (by omega) (by omega) dX6_average_5 (fun yr1 => ?_)
  refine jm_if_ne 14 C dX6_average_6 rfl (by omega) (fun yc2 => ?_) (fun yc2 => ?_)
  · skip
    refine jm_aload_n C dX6_average_14 rfl ?_
    refine jm_getr (ci := 6) (f := 23) C rfl jw_u_6 Q.1.1 Q.1.2 rfl (by decide) jw_f_RX6_69 dX6_average_15 ?_
    refine jm_iload_n C dX6_average_18 rfl ?_
    refine jm_iald C (jm_X6_323 Q).1 rfl (jm_X6_323 Q).2 (by omega) (by omega) (by omega) dX6_average_19 (fun yr3 => ?_)
    refine jm_aload_n C dX6_average_20 rfl ?_
    refine jm_getr (ci := 6) (f := 22) C rfl jw_u_6 Q.1.1 Q.1.2 rfl (by decide) jw_f_RX6_66 dX6_average_21 ?_
    refine jm_iload_n C dX6_average_24 rfl ?_
    refine jm_iald C (jm_X6_322 Q).1 rfl (jm_X6_322 Q).2 (by omega) (by omega) (by omega) dX6_average_25 (fun yr4 => ?_)
    refine jm_idiv C dX6_average_26 (by omega) (by omega) (by omega) ?_
    exact hR _ _ _ _ dX6_average_27 rfl ⟨rfl, by unfold hk_mavg; first | rw [if_pos (by omega)] | rw [if_neg (by omega)]⟩
  · skip
    refine jm_bipush C dX6_average_9 (by decide +kernel) ?_
    refine jm_goto 27 C dX6_average_11 rfl ?_
    exact hR _ _ _ _ dX6_average_27 rfl ⟨rfl, by unfold hk_mavg; first | rw [if_pos (by omega)] | rw [if_neg (by omega)]⟩
set_option maxRecDepth 100000 in
set_option maxHeartbeats 4000000 in
theorem kX6_thrown (E : jm_E) (w : jm_W) (I : jm_M) (Q : jm_X6 E w) : jm_Mi E yX6_thrown wX6_thrown rmX6_thrown 0 0 w I [.ref (w.2.1 300)] (fun I' z => I' = I ∧ z = I 300 0) := by
  refine jm_in_i (cc := cX6_thrown) (maxL := 1) (rt := .int) RX6 (by decide +kernel) rfl rfl (Nat.le_of_ble_eq_true rfl) (by simp [Value.category]) ?_
  intro G C hR hI
  refine jm_aload_n C dX6_thrown_0 rfl ?_
  refine jm_get (ci := 6) (f := 0) 0 rfl C rfl jw_u_6 Q.1.1 Q.1.2 rfl (by decide) jw_f_RX6_84 dX6_thrown_1 (fun yr1 => ?_)
  exact hR _ _ _ _ dX6_thrown_4 rfl ⟨rfl, rfl⟩
set_option maxRecDepth 100000 in
set_option maxHeartbeats 4000000 in
theorem kX6_hour (E : jm_E) (w : jm_W) (I : jm_M) (Q : jm_X6 E w) : jm_Mi E yX6_hour wX6_hour rmX6_hour 0 0 w I [.ref (w.2.1 300)] (fun I' z => I' = jm_up I 300 0 0 ∧ z = I 300 1) := by
  refine jm_in_i (cc := cX6_hour) (maxL := 1) (rt := .int) RX6 (by decide +kernel) rfl rfl (Nat.le_of_ble_eq_true rfl) (by simp [Value.category]) ?_
  intro G C hR hI
  refine jm_aload_n C dX6_hour_0 rfl ?_
  refine jm_iconst C dX6_hour_1 ?_
  refine jm_put (ci := 6) (f := 0) (ty := .int) 0 rfl C rfl tyX6 tyX6_ok nmX6 jw_u_6 Q.1.1 Q.1.2 rfl (by decide) jw_f_RX6_84 rfl (by decide +kernel) rfl rfl dX6_hour_2 (by decide) ?_
  refine jm_aload_n C dX6_hour_5 rfl ?_
  refine jm_getv (ci := 6) (f := 1) (I 300 1) 1 rfl (by simp [jm_up]) C rfl jw_u_6 Q.1.1 Q.1.2 rfl (by decide) jw_f_RX6_101 dX6_hour_6 (fun yr1 => ?_)
  exact hR _ _ _ _ dX6_hour_9 rfl ⟨rfl, rfl⟩
