/-- a throw over any map, told by the rows alone -/
theorem kX2_run2 (E : jm_E) (w : jm_W) (I : jm_M) (k : Int) (h : jm_X2 E w k) (ks : Int) (hs : jm_X1 E w ks) (k2 : Int) (h2 : jm_X3 E w k2) (hne : ks ≠ k) (hnw : ks + 100 ≠ k) (hn3 : k + 100 + 100 ≠ ks + 100) (n wv : Int) (hn : 0 ≤ n ∧ n < 6) (hwv : wv = 0 ∨ wv = 1) (ln en tn lo hi : Int) (W f : Int → Int) (e2 : I k 2 = ln) (e3 : I k 3 = 0) (e4 : I k 4 = en) (e5 : I k 5 = tn) (e6 : I k 6 = lo) (e7 : I k 7 = hi) (eW : I (ks + 100) = W) (ef : I (k2 + 100) = f) (hl0 : 0 ≤ ln ∧ ln ≤ 8) (hen0 : 0 ≤ en ∧ en ≤ 1000) (htn : -1 ≤ tn ∧ tn ≤ 1) (hw : hk_w9 W) (hg : hk_good f) (hfn : f n = -1) : jm_Mi E yX2_run wX2_run rmX2_run 0 0 w I [.ref (w.2.1 k), .ref (w.2.1 ks), .ref (w.2.1 k2), jm_v n, jm_v wv] (fun I' z => z = (hk_thr W f n ln en tn lo hi).1 ∧ hk_r2 I k ks wv (hk_thr W f n ln en tn lo hi) I') := by
  subst e2; subst e4; subst e5; subst e6; subst e7; subst eW; subst ef
  refine jm_Mi_w (kX2_run E w I k h ks hs k2 h2 hne hnw hn3 n wv hn hwv hl0 (by omega) hen0 htn hw hg hfn) (fun I' z q => ?_)
  obtain ⟨q1, q2, q3, q4, q5, q6, q7, q8⟩ := q
  have hc : hk_eq6 (hk_F0 I k k2) (I (k2 + 100)) := fun i h1 h2 => by unfold hk_F0; rw [hk_fill_i ⟨h1, by omega⟩]
  have hR : hk_R1 I k ks k2 = hk_T (hk_lie (I (k2 + 100))) (I k 5) (I k 6) (I k 7) 60 (I (ks + 100)) (I k 2) 0 (I k 4) 0 := by unfold hk_R1; rw [hk_lie_c hc, e3]
  have hC := hk_chain_c 6 (hk_R1 I k ks k2).1 _ _ (hk_R1 I k ks k2).2.2.1 (hk_R1 I k ks k2).2.2.2 (hk_pt_c hc n (hk_R1 I k ks k2).2.1)
  have e1 : (hk_RR I k ks k2 n).1 = (hk_thr (I (ks + 100)) (I (k2 + 100)) n (I k 2) (I k 4) (I k 5) (I k 6) (I k 7)).2.1 := by unfold hk_RR hk_thr; rw [hC.1, hR]
  have e2 : hk_eq6 (hk_RR I k ks k2 n).2 (hk_thr (I (ks + 100)) (I (k2 + 100)) n (I k 2) (I k 4) (I k 5) (I k 6) (I k 7)).2.2 := by unfold hk_RR hk_thr; rw [← hR]; exact hC.2
  refine ⟨by rw [q1]; unfold hk_thr; rw [hR], q2, by rw [q3]; exact e2, q4, fun z => (q5 z).trans e1, q6, hk_good_c e2 q7⟩
set_option maxRecDepth 100000 in
set_option maxHeartbeats 4000000 in
theorem kX5_sheetOf (E : jm_E) (w : jm_W) (I : jm_M) (ng : Int) (H : jm_X5 E w ng) (n : Int) (hn : 0 ≤ n ∧ n < 3) : jm_Mr E yX5_sheetOf wX5_sheetOf rmX5_sheetOf 0 0 w I [.ref (w.2.1 0), jm_v n] (fun I' z => I' = I ∧ z = 10 + n) := by
  refine jm_in_r (cc := cX5_sheetOf) (maxL := 3) RX5 (by decide +kernel) rfl rfl (Nat.le_of_ble_eq_true rfl) (by simp [Value.category]) ?_
  intro G C hR hI
  have hng := jm_X5_n H
  refine jm_iload_n C dX5_sheetOf_0 rfl ?_
  refine jm_if_lt 22 C dX5_sheetOf_1 rfl (by omega) (fun yc1 => ?_) (fun yc1 => ?_)
  · skip
    exact absurd yc1 (by omega)
  · skip
    refine jm_iload_n C dX5_sheetOf_4 rfl ?_
    refine jm_aload_n C dX5_sheetOf_5 rfl ?_
    refine jm_getr (ci := 5) (f := 0) C rfl jw_u_5 H.1.1 H.1.2 rfl (by decide) jw_f_RX5_11 dX5_sheetOf_6 ?_
    refine jm_alenq 3 3 rfl C H.2.1.1 rfl H.2.1.2 dX5_sheetOf_9 ?_
    refine jm_icmp_ge 22 C dX5_sheetOf_10 rfl (by omega) (by decide) (fun yc2 => ?_) (fun yc2 => ?_)
    · skip
      exact absurd yc2 (by omega)
    · skip
      refine jm_aload_n C dX5_sheetOf_13 rfl ?_
      refine jm_getr (ci := 5) (f := 0) C rfl jw_u_5 H.1.1 H.1.2 rfl (by decide) jw_f_RX5_11 dX5_sheetOf_14 ?_
      refine jm_iload_n C dX5_sheetOf_17 rfl ?_
      refine jm_aaldr 3 (hk_gs_at w 10 (j := n) (by omega)) C H.2.1.1 rfl H.2.1.2 (by omega) (by omega) (by omega) dX5_sheetOf_18 ?_
      refine jm_goto 23 C dX5_sheetOf_19 rfl ?_
      refine jm_astore_n C dX5_sheetOf_23 (by decide) ?_
      refine jm_aload_n C dX5_sheetOf_24 rfl ?_
      refine jm_ifnonnullY 38 C dX5_sheetOf_25 rfl ?_
      refine jm_aload_n C dX5_sheetOf_38 rfl ?_
      exact hR _ _ _ _ dX5_sheetOf_39 ⟨rfl, rfl⟩
set_option maxRecDepth 100000 in
set_option maxHeartbeats 4000000 in
theorem kX5_teamOf (E : jm_E) (w : jm_W) (I : jm_M) (ng : Int) (H : jm_X5 E w ng) (n : Int) (hn : 0 ≤ n ∧ n < 6) : jm_Mr E yX5_teamOf wX5_teamOf rmX5_teamOf 0 0 w I [.ref (w.2.1 0), jm_v n] (fun I' z => I' = I ∧ z = 20 + n) := by
  refine jm_in_r (cc := cX5_teamOf) (maxL := 3) RX5 (by decide +kernel) rfl rfl (Nat.le_of_ble_eq_true rfl) (by simp [Value.category]) ?_
  intro G C hR hI
  have hng := jm_X5_n H
  refine jm_iload_n C dX5_teamOf_0 rfl ?_
  refine jm_if_lt 22 C dX5_teamOf_1 rfl (by omega) (fun yc1 => ?_) (fun yc1 => ?_)
  · skip
    exact absurd yc1 (by omega)
  · skip
    refine jm_iload_n C dX5_teamOf_4 rfl ?_
    refine jm_aload_n C dX5_teamOf_5 rfl ?_
    refine jm_getr (ci := 5) (f := 1) C rfl jw_u_5 H.1.1 H.1.2 rfl (by decide) jw_f_RX5_18 dX5_teamOf_6 ?_
    refine jm_alenq 4 6 rfl C H.2.2.1.1 rfl H.2.2.1.2 dX5_teamOf_9 ?_
    refine jm_icmp_ge 22 C dX5_teamOf_10 rfl (by omega) (by decide) (fun yc2 => ?_) (fun yc2 => ?_)
    · skip
      exact absurd yc2 (by omega)
    · skip
      refine jm_aload_n C dX5_teamOf_13 rfl ?_
      refine jm_getr (ci := 5) (f := 1) C rfl jw_u_5 H.1.1 H.1.2 rfl (by decide) jw_f_RX5_18 dX5_teamOf_14 ?_
      refine jm_iload_n C dX5_teamOf_17 rfl ?_
      refine jm_aaldr 4 (hk_gs_at w 20 (j := n) (by omega)) C H.2.2.1.1 rfl H.2.2.1.2 (by omega) (by omega) (by omega) dX5_teamOf_18 ?_
      refine jm_goto 23 C dX5_teamOf_19 rfl ?_
      refine jm_astore_n C dX5_teamOf_23 (by decide) ?_
      refine jm_aload_n C dX5_teamOf_24 rfl ?_
      refine jm_ifnonnullY 38 C dX5_teamOf_25 rfl ?_
      refine jm_aload_n C dX5_teamOf_38 rfl ?_
      exact hR _ _ _ _ dX5_teamOf_39 ⟨rfl, rfl⟩
set_option maxRecDepth 100000 in
set_option maxHeartbeats 4000000 in
theorem kX5_isAhead (E : jm_E) (w : jm_W) (I : jm_M) (ng : Int) (H : jm_X5 E w ng) (a b : Int) (ha : 0 ≤ a ∧ a < 6) (hb : 0 ≤ b ∧ b < 6) : jm_Mi E yX5_isAhead wX5_isAhead rmX5_isAhead 0 0 w I [.ref (w.2.1 0), jm_v a, jm_v b] (fun I' z => I' = I ∧ z = hk_ah I a b) := by
  refine jm_in_i (cc := cX5_isAhead) (maxL := 5) (rt := .boolean) RX5 (by decide +kernel) rfl rfl (Nat.le_of_ble_eq_true rfl) (by simp [Value.category]) ?_
  intro G C hR hI
  refine jm_aload_n C dX5_isAhead_0 rfl ?_
  refine jm_iload_n C dX5_isAhead_1 rfl ?_
  refine jm_cVrd (n := 1) (ci := 5) [] C (kX5_teamOf E w I ng H _ (by omega)) jw_m_RX5_209 okX5_teamOf rfl ⟨rfl, rfl⟩ ⟨Nat.le_of_ble_eq_true rfl, Nat.le_of_ble_eq_true rfl⟩ rfl H.1.1 H.1.2 rfl rfl (Nat.le_of_ble_eq_true rfl) dX5_isAhead_2 ⟨Nat.le_of_ble_eq_true rfl, Nat.le_of_ble_eq_true rfl⟩ ?_
  refine jm_astore_n C dX5_isAhead_5 (by decide) ?_
  refine jm_aload_n C dX5_isAhead_6 rfl ?_
  refine jm_iload_n C dX5_isAhead_7 rfl ?_
  refine jm_cVrd (n := 1) (ci := 5) [] C (kX5_teamOf E w I ng H _ (by omega)) jw_m_RX5_209 okX5_teamOf rfl ⟨rfl, rfl⟩ ⟨Nat.le_of_ble_eq_true rfl, Nat.le_of_ble_eq_true rfl⟩ rfl H.1.1 H.1.2 rfl rfl (Nat.le_of_ble_eq_true rfl) dX5_isAhead_8 ⟨Nat.le_of_ble_eq_true rfl, Nat.le_of_ble_eq_true rfl⟩ ?_
  refine jm_astore C dX5_isAhead_11 (by decide) ?_
  refine jm_aload_n C dX5_isAhead_13 rfl ?_
  refine jm_get (ci := 4) (f := 0) 0 rfl C rfl jw_u_4 (jm_X5_t H (i := a) (by omega) (by omega)).1 (jm_X5_t H (i := a) (by omega) (by omega)).2 rfl (by decide) jw_f_RX5_213 dX5_isAhead_14 (fun yr5 => ?_)
  refine jm_aload C dX5_isAhead_17 rfl ?_
  refine jm_get (ci := 4) (f := 0) 0 rfl C rfl jw_u_4 (jm_X5_t H (i := b) (by omega) (by omega)).1 (jm_X5_t H (i := b) (by omega) (by omega)).2 rfl (by decide) jw_f_RX5_213 dX5_isAhead_19 (fun yr6 => ?_)
  refine jm_icmp_eq 43 C dX5_isAhead_22 rfl (by omega) (by omega) (fun yc7 => ?_) (fun yc7 => ?_)
  · skip
    refine jm_aload_n C dX5_isAhead_43 rfl ?_
    refine jm_cVd (n := 0) (ci := 4) [] C (kX4_lastStonesPerGame E w I _ (jm_X5_t H (i := a) (by omega) (by omega))) jw_m_RX5_279 okX4_lastStonesPerGame rfl ⟨rfl, rfl⟩ ⟨Nat.le_of_ble_eq_true rfl, Nat.le_of_ble_eq_true rfl⟩ rfl (jm_X5_t H (i := a) (by omega) (by omega)).1 (jm_X5_t H (i := a) (by omega) (by omega)).2 rfl rfl (Nat.le_of_ble_eq_true rfl) dX5_isAhead_44 ⟨Nat.le_of_ble_eq_true rfl, Nat.le_of_ble_eq_true rfl⟩ (fun yz9 yh8 => ?_)
    rw [show (if 0 < I (20 + a) 1 then (I (20 + a) 2).tdiv (I (20 + a) 1) else 30) = hk_avg I a from rfl] at yh8
    subst yh8
    have yh8r := hk_avg_R hI a
    refine jm_aload C dX5_isAhead_47 rfl ?_
    refine jm_cVd (n := 0) (ci := 4) [jm_v (hk_avg I a)] C (kX4_lastStonesPerGame E w I _ (jm_X5_t H (i := b) (by omega) (by omega))) jw_m_RX5_279 okX4_lastStonesPerGame rfl ⟨rfl, rfl⟩ ⟨Nat.le_of_ble_eq_true rfl, Nat.le_of_ble_eq_true rfl⟩ rfl (jm_X5_t H (i := b) (by omega) (by omega)).1 (jm_X5_t H (i := b) (by omega) (by omega)).2 rfl rfl (Nat.le_of_ble_eq_true rfl) dX5_isAhead_49 ⟨Nat.le_of_ble_eq_true rfl, Nat.le_of_ble_eq_true rfl⟩ (fun yz11 yh10 => ?_)
    rw [show (if 0 < I (20 + b) 1 then (I (20 + b) 2).tdiv (I (20 + b) 1) else 30) = hk_avg I b from rfl] at yh10
    subst yh10
    have yh10r := hk_avg_R hI b
    refine jm_icmp_eq 73 C dX5_isAhead_52 rfl (by omega) (by omega) (fun yc12 => ?_) (fun yc12 => ?_)
    · skip
      refine jm_iload_n C dX5_isAhead_73 rfl ?_
      refine jm_iload_n C dX5_isAhead_74 rfl ?_
      refine jm_icmp_ge 82 C dX5_isAhead_75 rfl (by omega) (by omega) (fun yc13 => ?_) (fun yc13 => ?_)
      · skip
        refine jm_iconst C dX5_isAhead_82 ?_
        exact hR _ _ _ _ dX5_isAhead_83 (jm_nz (by decide)) ⟨rfl, by
            unfold hk_ah
            first
            | rw [if_pos (by omega), if_pos (by omega)]
            | rw [if_pos (by omega), if_neg (by omega)]
            | rw [if_neg (by omega), if_pos (by omega), if_pos (by omega)]
            | rw [if_neg (by omega), if_pos (by omega), if_neg (by omega)]
            | rw [if_neg (by omega), if_neg (by omega), if_pos (by omega)]
            | rw [if_neg (by omega), if_neg (by omega), if_neg (by omega)]⟩
      · skip
        refine jm_iconst C dX5_isAhead_78 ?_
        refine jm_goto 83 C dX5_isAhead_79 rfl ?_
        exact hR _ _ _ _ dX5_isAhead_83 (jm_nz (by decide)) ⟨rfl, by
            unfold hk_ah
            first
            | rw [if_pos (by omega), if_pos (by omega)]
            | rw [if_pos (by omega), if_neg (by omega)]
            | rw [if_neg (by omega), if_pos (by omega), if_pos (by omega)]
            | rw [if_neg (by omega), if_pos (by omega), if_neg (by omega)]
            | rw [if_neg (by omega), if_neg (by omega), if_pos (by omega)]
            | rw [if_neg (by omega), if_neg (by omega), if_neg (by omega)]⟩
    · skip
      refine jm_aload_n C dX5_isAhead_55 rfl ?_
      refine jm_cVd (n := 0) (ci := 4) [] C (kX4_lastStonesPerGame E w I _ (jm_X5_t H (i := a) (by omega) (by omega))) jw_m_RX5_279 okX4_lastStonesPerGame rfl ⟨rfl, rfl⟩ ⟨Nat.le_of_ble_eq_true rfl, Nat.le_of_ble_eq_true rfl⟩ rfl (jm_X5_t H (i := a) (by omega) (by omega)).1 (jm_X5_t H (i := a) (by omega) (by omega)).2 rfl rfl (Nat.le_of_ble_eq_true rfl) dX5_isAhead_56 ⟨Nat.le_of_ble_eq_true rfl, Nat.le_of_ble_eq_true rfl⟩ (fun yz15 yh14 => ?_)
      rw [show (if 0 < I (20 + a) 1 then (I (20 + a) 2).tdiv (I (20 + a) 1) else 30) = hk_avg I a from rfl] at yh14
      subst yh14
      have yh14r := hk_avg_R hI a
      refine jm_aload C dX5_isAhead_59 rfl ?_
      refine jm_cVd (n := 0) (ci := 4) [jm_v (hk_avg I a)] C (kX4_lastStonesPerGame E w I _ (jm_X5_t H (i := b) (by omega) (by omega))) jw_m_RX5_279 okX4_lastStonesPerGame rfl ⟨rfl, rfl⟩ ⟨Nat.le_of_ble_eq_true rfl, Nat.le_of_ble_eq_true rfl⟩ rfl (jm_X5_t H (i := b) (by omega) (by omega)).1 (jm_X5_t H (i := b) (by omega) (by omega)).2 rfl rfl (Nat.le_of_ble_eq_true rfl) dX5_isAhead_61 ⟨Nat.le_of_ble_eq_true rfl, Nat.le_of_ble_eq_true rfl⟩ (fun yz17 yh16 => ?_)
      rw [show (if 0 < I (20 + b) 1 then (I (20 + b) 2).tdiv (I (20 + b) 1) else 30) = hk_avg I b from rfl] at yh16
      subst yh16
      have yh16r := hk_avg_R hI b
      refine jm_icmp_ge 71 C dX5_isAhead_64 rfl (by omega) (by omega) (fun yc18 => ?_) (fun yc18 => ?_)
      · skip
        refine jm_iconst C dX5_isAhead_71 ?_
        exact hR _ _ _ _ dX5_isAhead_72 (jm_nz (by decide)) ⟨rfl, by
            unfold hk_ah
            first
            | rw [if_pos (by omega), if_pos (by omega)]
            | rw [if_pos (by omega), if_neg (by omega)]
            | rw [if_neg (by omega), if_pos (by omega), if_pos (by omega)]
            | rw [if_neg (by omega), if_pos (by omega), if_neg (by omega)]
            | rw [if_neg (by omega), if_neg (by omega), if_pos (by omega)]
            | rw [if_neg (by omega), if_neg (by omega), if_neg (by omega)]⟩
      · skip
        refine jm_iconst C dX5_isAhead_67 ?_
        refine jm_goto 72 C dX5_isAhead_68 rfl ?_
        exact hR _ _ _ _ dX5_isAhead_72 (jm_nz (by decide)) ⟨rfl, by
            unfold hk_ah
            first
            | rw [if_pos (by omega), if_pos (by omega)]
            | rw [if_pos (by omega), if_neg (by omega)]
            | rw [if_neg (by omega), if_pos (by omega), if_pos (by omega)]
            | rw [if_neg (by omega), if_pos (by omega), if_neg (by omega)]
            | rw [if_neg (by omega), if_neg (by omega), if_pos (by omega)]
            | rw [if_neg (by omega), if_neg (by omega), if_neg (by omega)]⟩
  · skip
    refine jm_aload_n C dX5_isAhead_25 rfl ?_
    refine jm_get (ci := 4) (f := 0) 0 rfl C rfl jw_u_4 (jm_X5_t H (i := a) (by omega) (by omega)).1 (jm_X5_t H (i := a) (by omega) (by omega)).2 rfl (by decide) jw_f_RX5_213 dX5_isAhead_26 (fun yr19 => ?_)
    refine jm_aload C dX5_isAhead_29 rfl ?_
    refine jm_get (ci := 4) (f := 0) 0 rfl C rfl jw_u_4 (jm_X5_t H (i := b) (by omega) (by omega)).1 (jm_X5_t H (i := b) (by omega) (by omega)).2 rfl (by decide) jw_f_RX5_213 dX5_isAhead_31 (fun yr20 => ?_)
    refine jm_icmp_le 41 C dX5_isAhead_34 rfl (by omega) (by omega) (fun yc21 => ?_) (fun yc21 => ?_)
    · skip
      refine jm_iconst C dX5_isAhead_41 ?_
      exact hR _ _ _ _ dX5_isAhead_42 (jm_nz (by decide)) ⟨rfl, by
          unfold hk_ah
          first
          | rw [if_pos (by omega), if_pos (by omega)]
          | rw [if_pos (by omega), if_neg (by omega)]
          | rw [if_neg (by omega), if_pos (by omega), if_pos (by omega)]
          | rw [if_neg (by omega), if_pos (by omega), if_neg (by omega)]
          | rw [if_neg (by omega), if_neg (by omega), if_pos (by omega)]
          | rw [if_neg (by omega), if_neg (by omega), if_neg (by omega)]⟩
    · skip
      refine jm_iconst C dX5_isAhead_37 ?_
      refine jm_goto 42 C dX5_isAhead_38 rfl ?_
      exact hR _ _ _ _ dX5_isAhead_42 (jm_nz (by decide)) ⟨rfl, by
          unfold hk_ah
          first
          | rw [if_pos (by omega), if_pos (by omega)]
          | rw [if_pos (by omega), if_neg (by omega)]
          | rw [if_neg (by omega), if_pos (by omega), if_pos (by omega)]
          | rw [if_neg (by omega), if_pos (by omega), if_neg (by omega)]
          | rw [if_neg (by omega), if_neg (by omega), if_pos (by omega)]
          | rw [if_neg (by omega), if_neg (by omega), if_neg (by omega)]⟩
set_option maxRecDepth 100000 in
set_option maxHeartbeats 4000000 in
theorem kX5_teamsAheadOf (E : jm_E) (w : jm_W) (I : jm_M) (ng : Int) (H : jm_X5 E w ng) (t : Int) (ht : 0 ≤ t ∧ t < 6) : jm_Mi E yX5_teamsAheadOf wX5_teamsAheadOf rmX5_teamsAheadOf 0 0 w I [.ref (w.2.1 0), jm_v t] (fun I' z => I' = I ∧ z = hk_tah I t 6) := by
  refine jm_in_i (cc := cX5_teamsAheadOf) (maxL := 4) (rt := .int) RX5 (by decide +kernel) rfl rfl (Nat.le_of_ble_eq_true rfl) (by simp [Value.category]) ?_
  intro G C hR hI
  refine jm_iconst C dX5_teamsAheadOf_0 ?_
  refine jm_istore_n C dX5_teamsAheadOf_1 (by decide) ?_
  refine jm_iconst C dX5_teamsAheadOf_2 ?_
  refine jm_istore_n C dX5_teamsAheadOf_3 (by decide) ?_
  have lp4 : ∀ (yn4 : Nat) (m : Nat) (cn : Int), 6 - m < yn4 → (m ≤ 6) → (cn = hk_tah I t m) → jm_J E G (0, 0) w I 4 [(0, .ref (w.2.1 0)), (1, jm_v t), (2, jm_v cn), (3, jm_v ((m : Nat) : Int))] [] := by
    intro yn4
    induction yn4 with
    | zero => intro m cn hlt4 hm hc; exact absurd hlt4 (Nat.not_lt_zero _)
    | succ yn4 ih4 =>
      intro m cn hlt4 hm hc
      refine jm_iload_n C dX5_teamsAheadOf_4 rfl ?_
      refine jm_bipush C dX5_teamsAheadOf_5 (by decide +kernel) ?_
      refine jm_icmp_ge 33 C dX5_teamsAheadOf_7 rfl (by omega) (by decide) (fun yc1 => ?_) (fun yc1 => ?_)
      · skip
        refine jm_iload_n C dX5_teamsAheadOf_33 rfl ?_
        exact hR _ _ _ _ dX5_teamsAheadOf_34 rfl ⟨rfl, by rw [hc, show m = 6 by omega]⟩
      · skip
        refine jm_iload_n C dX5_teamsAheadOf_10 rfl ?_
        refine jm_iload_n C dX5_teamsAheadOf_11 rfl ?_
        refine jm_icmp_eq 27 C dX5_teamsAheadOf_12 rfl (by omega) (by omega) (fun yc2 => ?_) (fun yc2 => ?_)
        · skip
          refine jm_iinc C dX5_teamsAheadOf_27 (by decide) rfl ?_
          refine jm_goto 4 C dX5_teamsAheadOf_30 rfl ?_
          refine jm_lvs (lv' := [(0, _), (1, _), (2, _), (3, _)]) (jm_sub_c rfl (jm_sub_c rfl (jm_sub_c rfl (jm_sub_c rfl (jm_sub_0 _))))) ?_
          exact ih4 (m + 1) _ (by omega) (by omega) (by rw [hc, hk_tah]; first | (rw [if_pos (by omega)]; omega) | (rw [if_neg (by omega)]; omega))
        · skip
          refine jm_aload_n C dX5_teamsAheadOf_15 rfl ?_
          refine jm_iload_n C dX5_teamsAheadOf_16 rfl ?_
          refine jm_iload_n C dX5_teamsAheadOf_17 rfl ?_
          refine jm_cVd (n := 2) (ci := 5) [] C (kX5_isAhead E w I ng H _ _ (by omega) (by omega)) jw_m_RX5_276 okX5_isAhead rfl ⟨rfl, rfl⟩ ⟨Nat.le_of_ble_eq_true rfl, Nat.le_of_ble_eq_true rfl⟩ rfl H.1.1 H.1.2 rfl rfl (Nat.le_of_ble_eq_true rfl) dX5_teamsAheadOf_18 ⟨Nat.le_of_ble_eq_true rfl, Nat.le_of_ble_eq_true rfl⟩ (fun yz4 yh3 => ?_)
          have yh3r := hk_ah_r I ((m : Nat) : Int) t
          refine jm_if_eq 27 C dX5_teamsAheadOf_21 rfl (by omega) (fun yc5 => ?_) (fun yc5 => ?_)
          · skip
            refine jm_iinc C dX5_teamsAheadOf_27 (by decide) rfl ?_
            refine jm_goto 4 C dX5_teamsAheadOf_30 rfl ?_
            refine jm_lvs (lv' := [(0, _), (1, _), (2, _), (3, _)]) (jm_sub_c rfl (jm_sub_c rfl (jm_sub_c rfl (jm_sub_c rfl (jm_sub_0 _))))) ?_
            exact ih4 (m + 1) _ (by omega) (by omega) (by rw [hc, hk_tah]; first | (rw [if_pos (by omega)]; omega) | (rw [if_neg (by omega)]; omega))
          · skip
            refine jm_iinc C dX5_teamsAheadOf_24 (by decide) rfl ?_
            refine jm_iinc C dX5_teamsAheadOf_27 (by decide) rfl ?_
            refine jm_goto 4 C dX5_teamsAheadOf_30 rfl ?_
            refine jm_lvs (lv' := [(0, _), (1, _), (2, _), (3, _)]) (jm_sub_c rfl (jm_sub_c rfl (jm_sub_c rfl (jm_sub_c rfl (jm_sub_0 _))))) ?_
            exact ih4 (m + 1) _ (by omega) (by omega) (by rw [hc, hk_tah]; first | (rw [if_pos (by omega)]; omega) | (rw [if_neg (by omega)]; omega))
  refine jm_lvs (lv' := [(0, _), (1, _), (2, _), (3, _)]) (jm_sub_c rfl (jm_sub_c rfl (jm_sub_c rfl (jm_sub_c rfl (jm_sub_0 _))))) ?_
  exact lp4 _ 0 _ (Nat.lt_succ_self _) (Nat.zero_le _) rfl
set_option maxRecDepth 100000 in
set_option maxHeartbeats 4000000 in
theorem kX5_leastHourWished (E : jm_E) (w : jm_W) (I : jm_M) (ng : Int) (H : jm_X5 E w ng) (s : Int) (hs : jm_R s) : jm_Mi E yX5_leastHourWished wX5_leastHourWished rmX5_leastHourWished 0 0 w I [.ref (w.2.1 0), jm_v s] (fun I' z => I' = I ∧ z = hk_lhw I ng s 12) := by
  refine jm_in_i (cc := cX5_leastHourWished) (maxL := 5) (rt := .int) RX5 (by decide +kernel) rfl rfl (Nat.le_of_ble_eq_true rfl) (by simp [Value.category]) ?_
  intro G C hR hI
  have hng := jm_X5_n H
  refine jm_sipush C dX5_leastHourWished_0 (by decide +kernel) ?_
  refine jm_istore_n C dX5_leastHourWished_3 (by decide) ?_
  refine jm_iconst C dX5_leastHourWished_4 ?_
  refine jm_istore_n C dX5_leastHourWished_5 (by decide) ?_
  have lp6 : ∀ (yn6 : Nat) (m : Nat) (le : Int), 12 - m < yn6 → (m ≤ 12) → (le = hk_lhw I ng s m) → (jm_R le) → jm_J E G (0, 0) w I 6 [(0, .ref (w.2.1 0)), (1, jm_v s), (2, jm_v le), (3, jm_v ((m : Nat) : Int))] [] := by
    intro yn6
    induction yn6 with
    | zero => intro m le hlt6 hm hle hler; exact absurd hlt6 (Nat.not_lt_zero _)
    | succ yn6 ih6 =>
      intro m le hlt6 hm hle hler
      refine jm_iload_n C dX5_leastHourWished_6 rfl ?_
      refine jm_aload_n C dX5_leastHourWished_7 rfl ?_
      refine jm_getr (ci := 5) (f := 2) C rfl jw_u_5 H.1.1 H.1.2 rfl (by decide) jw_f_RX5_25 dX5_leastHourWished_8 ?_
      refine jm_alenq 5 12 rfl C H.2.2.2.1.1 rfl H.2.2.2.1.2 dX5_leastHourWished_11 ?_
      refine jm_icmp_ge 61 C dX5_leastHourWished_12 rfl (by omega) (by decide) (fun yc1 => ?_) (fun yc1 => ?_)
      · skip
        refine jm_iload_n C dX5_leastHourWished_61 rfl ?_
        exact hR _ _ _ _ dX5_leastHourWished_62 rfl ⟨rfl, by rw [hle, show m = 12 by omega]⟩
      · skip
        refine jm_aload_n C dX5_leastHourWished_15 rfl ?_
        refine jm_getr (ci := 5) (f := 2) C rfl jw_u_5 H.1.1 H.1.2 rfl (by decide) jw_f_RX5_25 dX5_leastHourWished_16 ?_
        refine jm_iload_n C dX5_leastHourWished_19 rfl ?_
        rcases Int.lt_or_le ((m : Nat) : Int) ng with hgi | hgi
        · skip
          refine jm_aaldr 5 (hk_gg_at w (j := ((m : Nat) : Int)) (by omega) hgi) C H.2.2.2.1.1 rfl H.2.2.2.1.2 (by omega) (by omega) (by omega) dX5_leastHourWished_20 ?_
          refine jm_astore C dX5_leastHourWished_21 (by decide) ?_
          refine jm_aload C dX5_leastHourWished_23 rfl ?_
          refine jm_ifnullN C dX5_leastHourWished_25 ?_
          refine jm_aload C dX5_leastHourWished_28 rfl ?_
          refine jm_get (ci := 0) (f := 5) 5 rfl C rfl jw_u_0 (jm_X5_g H (i := ((m : Nat) : Int)) (by omega) hgi).1 (jm_X5_g H (i := ((m : Nat) : Int)) (by omega) hgi).2.1 rfl (by decide) jw_f_RX5_114 dX5_leastHourWished_30 (fun yr2 => ?_)
          refine jm_if_ne 55 C dX5_leastHourWished_33 rfl (by omega) (fun yc3 => ?_) (fun yc3 => ?_)
          · skip
            refine jm_iinc C dX5_leastHourWished_55 (by decide) rfl ?_
            refine jm_goto 6 C dX5_leastHourWished_58 rfl ?_
            refine jm_lvs (lv' := [(0, _), (1, _), (2, _), (3, _)]) (jm_sub_c rfl (jm_sub_c rfl (jm_sub_c rfl (jm_sub_c rfl (jm_sub_0 _))))) ?_
            exact ih6 (m + 1) _ (by omega) (by omega) (by rw [hle, hk_lhw]; first | rw [if_pos (by omega)] | rw [if_neg (by omega)]) (by first | assumption | (unfold hk_mn; split <;> omega))
          · skip
            refine jm_aload C dX5_leastHourWished_36 rfl ?_
            refine jm_get (ci := 0) (f := 2) 2 rfl C rfl jw_u_0 (jm_X5_g H (i := ((m : Nat) : Int)) (by omega) hgi).1 (jm_X5_g H (i := ((m : Nat) : Int)) (by omega) hgi).2.1 rfl (by decide) jw_f_RX5_264 dX5_leastHourWished_38 (fun yr4 => ?_)
            refine jm_iload_n C dX5_leastHourWished_41 rfl ?_
            refine jm_icmp_ne 55 C dX5_leastHourWished_42 rfl (by omega) hs (fun yc5 => ?_) (fun yc5 => ?_)
            · skip
              refine jm_iinc C dX5_leastHourWished_55 (by decide) rfl ?_
              refine jm_goto 6 C dX5_leastHourWished_58 rfl ?_
              refine jm_lvs (lv' := [(0, _), (1, _), (2, _), (3, _)]) (jm_sub_c rfl (jm_sub_c rfl (jm_sub_c rfl (jm_sub_c rfl (jm_sub_0 _))))) ?_
              exact ih6 (m + 1) _ (by omega) (by omega) (by rw [hle, hk_lhw]; first | rw [if_pos (by omega)] | rw [if_neg (by omega)]) (by first | assumption | (unfold hk_mn; split <;> omega))
            · skip
              refine jm_iload_n C dX5_leastHourWished_45 rfl ?_
              refine jm_aload C dX5_leastHourWished_46 rfl ?_
              refine jm_get (ci := 0) (f := 4) 4 rfl C rfl jw_u_0 (jm_X5_g H (i := ((m : Nat) : Int)) (by omega) hgi).1 (jm_X5_g H (i := ((m : Nat) : Int)) (by omega) hgi).2.1 rfl (by decide) jw_f_RX5_169 dX5_leastHourWished_48 (fun yr6 => ?_)
              refine jm_min C jw_m_RX5_227 jw_s_min jw_n_Math jw_c_min (Nat.le_of_ble_eq_true rfl) (Nat.le_of_ble_eq_true rfl) (Nat.le_of_ble_eq_true rfl) (Nat.le_of_ble_eq_true rfl) dX5_leastHourWished_51 (by omega) (by omega) ?_
              refine jm_istore_n C dX5_leastHourWished_54 (by decide) ?_
              refine jm_iinc C dX5_leastHourWished_55 (by decide) rfl ?_
              refine jm_goto 6 C dX5_leastHourWished_58 rfl ?_
              refine jm_lvs (lv' := [(0, _), (1, _), (2, _), (3, _)]) (jm_sub_c rfl (jm_sub_c rfl (jm_sub_c rfl (jm_sub_c rfl (jm_sub_0 _))))) ?_
              exact ih6 (m + 1) _ (by omega) (by omega) (by rw [hle, hk_lhw]; first | rw [if_pos (by omega)] | rw [if_neg (by omega)]) (by first | assumption | (unfold hk_mn; split <;> omega))
        · skip
          refine jm_aaldN 5 (hk_gg_no w (j := ((m : Nat) : Int)) (by omega) hgi) C H.2.2.2.1.1 rfl H.2.2.2.1.2 (by omega) (by omega) (by omega) dX5_leastHourWished_20 ?_
          refine jm_astoreN C dX5_leastHourWished_21 (by decide) ?_
          refine jm_aloadN C dX5_leastHourWished_23 rfl ?_
          refine jm_ifnullY 55 C dX5_leastHourWished_25 rfl ?_
          refine jm_iinc C dX5_leastHourWished_55 (by decide) rfl ?_
          refine jm_goto 6 C dX5_leastHourWished_58 rfl ?_
          refine jm_lvs (lv' := [(0, _), (1, _), (2, _), (3, _)]) (jm_sub_c rfl (jm_sub_c rfl (jm_sub_c rfl (jm_sub_c rfl (jm_sub_0 _))))) ?_
          exact ih6 (m + 1) _ (by omega) (by omega) (by rw [hle, hk_lhw]; first | rw [if_pos (by omega)] | rw [if_neg (by omega)]) (by first | assumption | (unfold hk_mn; split <;> omega))
  refine jm_lvs (lv' := [(0, _), (1, _), (2, _), (3, _)]) (jm_sub_c rfl (jm_sub_c rfl (jm_sub_c rfl (jm_sub_c rfl (jm_sub_0 _))))) ?_
  exact lp6 _ 0 _ (Nat.lt_succ_self _) (Nat.zero_le _) rfl (by decide)
