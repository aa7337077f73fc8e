set_option maxRecDepth 100000 in
set_option maxHeartbeats 4000000 in
theorem kxX5_gameOf (E : jm_E) (hl0 : E.1.stackTraces = false) (w : jm_W) (I : jm_M) (ng : Int) (H : jm_X5 E w ng) (n : Int) (hn : jm_R n) : jm_Xr E yX5_gameOf wX5_gameOf rxX5_gameOf 1 6 w I [.ref (w.2.1 0), jm_v n] (fun I' z => I' = I ∧ z = 30 + n ∧ (0 ≤ n ∧ n < ng)) (fun cls I' => I' = I ∧ cls = "java/lang/IndexOutOfBoundsException" ∧ ¬ (0 ≤ n ∧ n < ng)) := by
  refine jm_xin_r (cc := cX5_gameOf) (maxL := 3) RX5 hl0 rfl (by decide +kernel) rfl rfl (Nat.le_of_ble_eq_true rfl) (by simp [Value.category]) ?_
  intro G C hR hT hP hI
  have hng := jm_X5_n H
  refine jm_iload_n C dX5_gameOf_0 rfl ?_
  refine jm_if_lt 22 C dX5_gameOf_1 rfl hn (fun yc1 => ?_) (fun yc1 => ?_)
  · skip
    refine jm_aconst_null C dX5_gameOf_22 ?_
    refine jm_astore_nN C dX5_gameOf_23 (by decide) ?_
    refine jm_aload_nN C dX5_gameOf_24 rfl ?_
    refine jm_ifnonnullN C dX5_gameOf_25 ?_
    exact hT _ _ _ _ _ "java/lang/IndexOutOfBoundsException" "no such game" 47 230 51 rfl jw_k1.1 jw_k1.2 (by decide) jw_x1 jw_y1 jw_z1 dX5_gameOf_28 dX5_gameOf_31 dX5_gameOf_32 dX5_gameOf_34 dX5_gameOf_37 (Nat.le_of_ble_eq_true rfl) (Nat.le_of_ble_eq_true rfl) ⟨Nat.le_of_ble_eq_true rfl, Nat.le_of_ble_eq_true rfl⟩ ⟨Nat.le_of_ble_eq_true rfl, Nat.le_of_ble_eq_true rfl⟩ ⟨rfl, rfl, by omega⟩
  · skip
    refine jm_iload_n C dX5_gameOf_4 rfl ?_
    refine jm_aload_n C dX5_gameOf_5 rfl ?_
    refine jm_getr (ci := 5) (f := 2) C rfl jw_u_5 H.1.1 H.1.2 rfl (by decide) jw_f_RX5_25 dX5_gameOf_6 ?_
    refine jm_alenq 5 12 rfl C H.2.2.2.1.1 rfl H.2.2.2.1.2 dX5_gameOf_9 ?_
    refine jm_icmp_ge 22 C dX5_gameOf_10 rfl hn (by decide) (fun yc2 => ?_) (fun yc2 => ?_)
    · skip
      refine jm_aconst_null C dX5_gameOf_22 ?_
      refine jm_astore_nN C dX5_gameOf_23 (by decide) ?_
      refine jm_aload_nN C dX5_gameOf_24 rfl ?_
      refine jm_ifnonnullN C dX5_gameOf_25 ?_
      exact hT _ _ _ _ _ "java/lang/IndexOutOfBoundsException" "no such game" 47 230 51 rfl jw_k1.1 jw_k1.2 (by decide) jw_x1 jw_y1 jw_z1 dX5_gameOf_28 dX5_gameOf_31 dX5_gameOf_32 dX5_gameOf_34 dX5_gameOf_37 (Nat.le_of_ble_eq_true rfl) (Nat.le_of_ble_eq_true rfl) ⟨Nat.le_of_ble_eq_true rfl, Nat.le_of_ble_eq_true rfl⟩ ⟨Nat.le_of_ble_eq_true rfl, Nat.le_of_ble_eq_true rfl⟩ ⟨rfl, rfl, by omega⟩
    · skip
      refine jm_aload_n C dX5_gameOf_13 rfl ?_
      refine jm_getr (ci := 5) (f := 2) C rfl jw_u_5 H.1.1 H.1.2 rfl (by decide) jw_f_RX5_25 dX5_gameOf_14 ?_
      refine jm_iload_n C dX5_gameOf_17 rfl ?_
      rcases Int.lt_or_le n ng with hgi | hgi
      · skip
        refine jm_aaldr 5 (hk_gg_at w (j := n) (by omega) hgi) C H.2.2.2.1.1 rfl H.2.2.2.1.2 (by omega) (by omega) (by omega) dX5_gameOf_18 ?_
        refine jm_goto 23 C dX5_gameOf_19 rfl ?_
        refine jm_astore_n C dX5_gameOf_23 (by decide) ?_
        refine jm_aload_n C dX5_gameOf_24 rfl ?_
        refine jm_ifnonnullY 38 C dX5_gameOf_25 rfl ?_
        refine jm_aload_n C dX5_gameOf_38 rfl ?_
        refine jm_wid (q' := (1, 6)) (Nat.le_of_ble_eq_true rfl) (Nat.le_of_ble_eq_true rfl) ?_
        exact hR _ _ _ _ dX5_gameOf_39 ⟨rfl, rfl, by omega⟩
      · skip
        refine jm_aaldN 5 (hk_gg_no w (j := n) (by omega) hgi) C H.2.2.2.1.1 rfl H.2.2.2.1.2 (by omega) (by omega) (by omega) dX5_gameOf_18 ?_
        refine jm_goto 23 C dX5_gameOf_19 rfl ?_
        refine jm_astore_nN C dX5_gameOf_23 (by decide) ?_
        refine jm_aload_nN C dX5_gameOf_24 rfl ?_
        refine jm_ifnonnullN C dX5_gameOf_25 ?_
        exact hT _ _ _ _ _ "java/lang/IndexOutOfBoundsException" "no such game" 47 230 51 rfl jw_k1.1 jw_k1.2 (by decide) jw_x1 jw_y1 jw_z1 dX5_gameOf_28 dX5_gameOf_31 dX5_gameOf_32 dX5_gameOf_34 dX5_gameOf_37 (Nat.le_of_ble_eq_true rfl) (Nat.le_of_ble_eq_true rfl) ⟨Nat.le_of_ble_eq_true rfl, Nat.le_of_ble_eq_true rfl⟩ ⟨Nat.le_of_ble_eq_true rfl, Nat.le_of_ble_eq_true rfl⟩ ⟨rfl, rfl, by omega⟩
set_option maxRecDepth 100000 in
set_option maxHeartbeats 4000000 in
theorem kxX5_sheetOf (E : jm_E) (hl0 : E.1.stackTraces = false) (w : jm_W) (I : jm_M) (ng : Int) (H : jm_X5 E w ng) (n : Int) (hn : jm_R n) : jm_Xr E yX5_sheetOf wX5_sheetOf rxX5_sheetOf 1 6 w I [.ref (w.2.1 0), jm_v n] (fun I' z => I' = I ∧ z = 10 + n ∧ (0 ≤ n ∧ n < 3)) (fun cls I' => I' = I ∧ cls = "java/lang/IndexOutOfBoundsException" ∧ ¬ (0 ≤ n ∧ n < 3)) := by
  refine jm_xin_r (cc := cX5_sheetOf) (maxL := 3) RX5 hl0 rfl (by decide +kernel) rfl rfl (Nat.le_of_ble_eq_true rfl) (by simp [Value.category]) ?_
  intro G C hR hT hP hI
  have hng := jm_X5_n H
  refine jm_iload_n C dX5_sheetOf_0 rfl ?_
  refine jm_if_lt 22 C dX5_sheetOf_1 rfl hn (fun yc1 => ?_) (fun yc1 => ?_)
  · skip
    refine jm_aconst_null C dX5_sheetOf_22 ?_
    refine jm_astore_nN C dX5_sheetOf_23 (by decide) ?_
    refine jm_aload_nN C dX5_sheetOf_24 rfl ?_
    refine jm_ifnonnullN C dX5_sheetOf_25 ?_
    exact hT _ _ _ _ _ "java/lang/IndexOutOfBoundsException" "no such sheet" 47 232 51 rfl jw_k1.1 jw_k1.2 (by decide) jw_x1 jw_y1 jw_z1 dX5_sheetOf_28 dX5_sheetOf_31 dX5_sheetOf_32 dX5_sheetOf_34 dX5_sheetOf_37 (Nat.le_of_ble_eq_true rfl) (Nat.le_of_ble_eq_true rfl) ⟨Nat.le_of_ble_eq_true rfl, Nat.le_of_ble_eq_true rfl⟩ ⟨Nat.le_of_ble_eq_true rfl, Nat.le_of_ble_eq_true rfl⟩ ⟨rfl, rfl, by omega⟩
  · skip
    refine jm_iload_n C dX5_sheetOf_4 rfl ?_
    refine jm_aload_n C dX5_sheetOf_5 rfl ?_
    refine jm_getr (ci := 5) (f := 0) C rfl jw_u_5 H.1.1 H.1.2 rfl (by decide) jw_f_RX5_11 dX5_sheetOf_6 ?_
    refine jm_alenq 3 3 rfl C H.2.1.1 rfl H.2.1.2 dX5_sheetOf_9 ?_
    refine jm_icmp_ge 22 C dX5_sheetOf_10 rfl hn (by decide) (fun yc2 => ?_) (fun yc2 => ?_)
    · skip
      refine jm_aconst_null C dX5_sheetOf_22 ?_
      refine jm_astore_nN C dX5_sheetOf_23 (by decide) ?_
      refine jm_aload_nN C dX5_sheetOf_24 rfl ?_
      refine jm_ifnonnullN C dX5_sheetOf_25 ?_
      exact hT _ _ _ _ _ "java/lang/IndexOutOfBoundsException" "no such sheet" 47 232 51 rfl jw_k1.1 jw_k1.2 (by decide) jw_x1 jw_y1 jw_z1 dX5_sheetOf_28 dX5_sheetOf_31 dX5_sheetOf_32 dX5_sheetOf_34 dX5_sheetOf_37 (Nat.le_of_ble_eq_true rfl) (Nat.le_of_ble_eq_true rfl) ⟨Nat.le_of_ble_eq_true rfl, Nat.le_of_ble_eq_true rfl⟩ ⟨Nat.le_of_ble_eq_true rfl, Nat.le_of_ble_eq_true rfl⟩ ⟨rfl, rfl, by omega⟩
    · skip
      refine jm_aload_n C dX5_sheetOf_13 rfl ?_
      refine jm_getr (ci := 5) (f := 0) C rfl jw_u_5 H.1.1 H.1.2 rfl (by decide) jw_f_RX5_11 dX5_sheetOf_14 ?_
      refine jm_iload_n C dX5_sheetOf_17 rfl ?_
      refine jm_aaldr 3 (hk_gs_at w 10 (j := n) (by omega)) C H.2.1.1 rfl H.2.1.2 (by omega) (by omega) (by omega) dX5_sheetOf_18 ?_
      refine jm_goto 23 C dX5_sheetOf_19 rfl ?_
      refine jm_astore_n C dX5_sheetOf_23 (by decide) ?_
      refine jm_aload_n C dX5_sheetOf_24 rfl ?_
      refine jm_ifnonnullY 38 C dX5_sheetOf_25 rfl ?_
      refine jm_aload_n C dX5_sheetOf_38 rfl ?_
      refine jm_wid (q' := (1, 6)) (Nat.le_of_ble_eq_true rfl) (Nat.le_of_ble_eq_true rfl) ?_
      exact hR _ _ _ _ dX5_sheetOf_39 ⟨rfl, rfl, by omega⟩
set_option maxRecDepth 100000 in
set_option maxHeartbeats 4000000 in
theorem kxX5_teamOf (E : jm_E) (hl0 : E.1.stackTraces = false) (w : jm_W) (I : jm_M) (ng : Int) (H : jm_X5 E w ng) (n : Int) (hn : jm_R n) : jm_Xr E yX5_teamOf wX5_teamOf rxX5_teamOf 1 6 w I [.ref (w.2.1 0), jm_v n] (fun I' z => I' = I ∧ z = 20 + n ∧ (0 ≤ n ∧ n < 6)) (fun cls I' => I' = I ∧ cls = "java/lang/IndexOutOfBoundsException" ∧ ¬ (0 ≤ n ∧ n < 6)) := by
  refine jm_xin_r (cc := cX5_teamOf) (maxL := 3) RX5 hl0 rfl (by decide +kernel) rfl rfl (Nat.le_of_ble_eq_true rfl) (by simp [Value.category]) ?_
  intro G C hR hT hP hI
  have hng := jm_X5_n H
  refine jm_iload_n C dX5_teamOf_0 rfl ?_
  refine jm_if_lt 22 C dX5_teamOf_1 rfl hn (fun yc1 => ?_) (fun yc1 => ?_)
  · skip
    refine jm_aconst_null C dX5_teamOf_22 ?_
    refine jm_astore_nN C dX5_teamOf_23 (by decide) ?_
    refine jm_aload_nN C dX5_teamOf_24 rfl ?_
    refine jm_ifnonnullN C dX5_teamOf_25 ?_
    exact hT _ _ _ _ _ "java/lang/IndexOutOfBoundsException" "no such team" 47 234 51 rfl jw_k1.1 jw_k1.2 (by decide) jw_x1 jw_y1 jw_z1 dX5_teamOf_28 dX5_teamOf_31 dX5_teamOf_32 dX5_teamOf_34 dX5_teamOf_37 (Nat.le_of_ble_eq_true rfl) (Nat.le_of_ble_eq_true rfl) ⟨Nat.le_of_ble_eq_true rfl, Nat.le_of_ble_eq_true rfl⟩ ⟨Nat.le_of_ble_eq_true rfl, Nat.le_of_ble_eq_true rfl⟩ ⟨rfl, rfl, by omega⟩
  · skip
    refine jm_iload_n C dX5_teamOf_4 rfl ?_
    refine jm_aload_n C dX5_teamOf_5 rfl ?_
    refine jm_getr (ci := 5) (f := 1) C rfl jw_u_5 H.1.1 H.1.2 rfl (by decide) jw_f_RX5_18 dX5_teamOf_6 ?_
    refine jm_alenq 4 6 rfl C H.2.2.1.1 rfl H.2.2.1.2 dX5_teamOf_9 ?_
    refine jm_icmp_ge 22 C dX5_teamOf_10 rfl hn (by decide) (fun yc2 => ?_) (fun yc2 => ?_)
    · skip
      refine jm_aconst_null C dX5_teamOf_22 ?_
      refine jm_astore_nN C dX5_teamOf_23 (by decide) ?_
      refine jm_aload_nN C dX5_teamOf_24 rfl ?_
      refine jm_ifnonnullN C dX5_teamOf_25 ?_
      exact hT _ _ _ _ _ "java/lang/IndexOutOfBoundsException" "no such team" 47 234 51 rfl jw_k1.1 jw_k1.2 (by decide) jw_x1 jw_y1 jw_z1 dX5_teamOf_28 dX5_teamOf_31 dX5_teamOf_32 dX5_teamOf_34 dX5_teamOf_37 (Nat.le_of_ble_eq_true rfl) (Nat.le_of_ble_eq_true rfl) ⟨Nat.le_of_ble_eq_true rfl, Nat.le_of_ble_eq_true rfl⟩ ⟨Nat.le_of_ble_eq_true rfl, Nat.le_of_ble_eq_true rfl⟩ ⟨rfl, rfl, by omega⟩
    · skip
      refine jm_aload_n C dX5_teamOf_13 rfl ?_
      refine jm_getr (ci := 5) (f := 1) C rfl jw_u_5 H.1.1 H.1.2 rfl (by decide) jw_f_RX5_18 dX5_teamOf_14 ?_
      refine jm_iload_n C dX5_teamOf_17 rfl ?_
      refine jm_aaldr 4 (hk_gs_at w 20 (j := n) (by omega)) C H.2.2.1.1 rfl H.2.2.1.2 (by omega) (by omega) (by omega) dX5_teamOf_18 ?_
      refine jm_goto 23 C dX5_teamOf_19 rfl ?_
      refine jm_astore_n C dX5_teamOf_23 (by decide) ?_
      refine jm_aload_n C dX5_teamOf_24 rfl ?_
      refine jm_ifnonnullY 38 C dX5_teamOf_25 rfl ?_
      refine jm_aload_n C dX5_teamOf_38 rfl ?_
      refine jm_wid (q' := (1, 6)) (Nat.le_of_ble_eq_true rfl) (Nat.le_of_ble_eq_true rfl) ?_
      exact hR _ _ _ _ dX5_teamOf_39 ⟨rfl, rfl, by omega⟩
set_option maxRecDepth 100000 in
set_option maxHeartbeats 4000000 in
theorem kxX5_crew (E : jm_E) (hl0 : E.1.stackTraces = false) (w : jm_W) (I : jm_M) (ng : Int) (H : jm_X5 E w ng) (n : Int) (hn : jm_R n) : jm_Xi E yX5_crew wX5_crew rxX5_crew 2 12 w I [.ref (w.2.1 0), jm_v n] (fun I' z => (1 ≤ n ∧ n ≤ 6) ∧ I' = jm_up I 0 6 n ∧ z = I 0 6) (fun cls I' => I' = I ∧ cls = "java/lang/IllegalArgumentException" ∧ ¬ (1 ≤ n ∧ n ≤ 6)) := by
  refine jm_xin_i (cc := cX5_crew) (maxL := 3) (rt := .int) RX5 hl0 rfl (by decide +kernel) rfl rfl (Nat.le_of_ble_eq_true rfl) (by simp [Value.category]) ?_
  intro G C hR hT hP hI
  refine jm_iload_n C dX5_crew_0 rfl ?_
  refine jm_iconst C dX5_crew_1 ?_
  refine jm_bipush C dX5_crew_2 (by decide +kernel) ?_
  refine jm_cSd (n := 3) [] C (kX5_isWithin E w I _ _ _ hn (by decide) (by decide)) jw_m_RX5_43 okX5_isWithin rfl ⟨rfl, rfl⟩ ⟨Nat.le_of_ble_eq_true rfl, Nat.le_of_ble_eq_true rfl⟩ rfl rfl (Nat.le_of_ble_eq_true rfl) dX5_crew_4 ⟨Nat.le_of_ble_eq_true rfl, Nat.le_of_ble_eq_true rfl⟩ (fun yz2 yh1 => ?_)
  refine jm_if_ne 20 C dX5_crew_7 rfl (by omega) (fun yc3 => ?_) (fun yc3 => ?_)
  · skip
    refine jm_aload_n C dX5_crew_20 rfl ?_
    refine jm_get (ci := 5) (f := 6) 6 rfl C rfl jw_u_5 H.1.1 H.1.2 rfl (by decide) jw_f_RX5_36 dX5_crew_21 (fun yr4 => ?_)
    refine jm_istore_n C dX5_crew_24 (by decide) ?_
    refine jm_aload_n C dX5_crew_25 rfl ?_
    refine jm_iload_n C dX5_crew_26 rfl ?_
    refine jm_put (ci := 5) (f := 6) (ty := .int) 6 rfl C rfl tyX5 tyX5_ok nmX5 jw_u_5 H.1.1 H.1.2 rfl (by decide) jw_f_RX5_36 rfl (by decide +kernel) rfl rfl dX5_crew_27 hn ?_
    refine jm_iload_n C dX5_crew_30 rfl ?_
    refine jm_wid (q' := (2, 12)) (Nat.le_of_ble_eq_true rfl) (Nat.le_of_ble_eq_true rfl) ?_
    exact hR _ _ _ _ dX5_crew_31 rfl ⟨by omega, rfl, rfl⟩
  · skip
    exact hT _ _ _ _ _ "java/lang/IllegalArgumentException" "hours is out of range" 57 73 61 rfl jw_k2.1 jw_k2.2 (by decide) jw_x2 jw_y2 jw_z2 dX5_crew_10 dX5_crew_13 dX5_crew_14 dX5_crew_16 dX5_crew_19 (Nat.le_of_ble_eq_true rfl) (Nat.le_of_ble_eq_true rfl) ⟨Nat.le_of_ble_eq_true rfl, Nat.le_of_ble_eq_true rfl⟩ ⟨Nat.le_of_ble_eq_true rfl, Nat.le_of_ble_eq_true rfl⟩ ⟨rfl, rfl, by omega⟩
set_option maxRecDepth 100000 in
set_option maxHeartbeats 4000000 in
theorem kxX5_ofTeam (E : jm_E) (hl0 : E.1.stackTraces = false) (w : jm_W) (I : jm_M) (ng : Int) (H : jm_X5 E w ng) (t k : Int) (h1 : jm_R t) (h2 : jm_R k) : jm_Xi E yX5_ofTeam wX5_ofTeam rxX5_ofTeam 2 12 w I [.ref (w.2.1 0), jm_v t, jm_v k] (fun I' z => (0 ≤ t ∧ t < 6) ∧ (0 ≤ k ∧ k ≤ 2) ∧ I' = I ∧ z = if k = 0 then I (20 + t) 0 else if k = 1 then I (20 + t) 1 else I (20 + t) 2) (fun cls I' => I' = I ∧ ((¬ (0 ≤ t ∧ t < 6) ∧ cls = "java/lang/IndexOutOfBoundsException") ∨ ((0 ≤ t ∧ t < 6) ∧ ¬ (0 ≤ k ∧ k ≤ 2) ∧ cls = "java/lang/IllegalArgumentException"))) := by
  refine jm_xin_i (cc := cX5_ofTeam) (maxL := 4) (rt := .int) RX5 hl0 rfl (by decide +kernel) rfl rfl (Nat.le_of_ble_eq_true rfl) (by simp [Value.category]) ?_
  intro G C hR hT hP hI
  refine jm_aload_n C dX5_ofTeam_0 rfl ?_
  refine jm_iload_n C dX5_ofTeam_1 rfl ?_
  refine jm_xcVr (n := 1) (ci := 5) [] C (kxX5_teamOf E hl0 w I ng H _ h1) jw_m_RX5_209 okX5_teamOf rfl ⟨rfl, rfl⟩ ⟨Nat.le_of_ble_eq_true rfl, Nat.le_of_ble_eq_true rfl⟩ rfl H.1.1 H.1.2 rfl rfl (Nat.le_of_ble_eq_true rfl) dX5_ofTeam_2 ⟨Nat.le_of_ble_eq_true rfl, Nat.le_of_ble_eq_true rfl⟩ (fun cls yI3 yh1 => ?_) (fun yI3 yz2 yh1 => ?_)
  · skip
    exact hP _ _ _ _ _ _ ⟨Nat.le_of_ble_eq_true rfl, Nat.le_of_ble_eq_true rfl⟩ (by obtain ⟨rfl, rfl, h9⟩ := yh1; exact ⟨rfl, Or.inl ⟨h9, rfl⟩⟩)
  obtain ⟨yh1e, rfl, yh1⟩ := yh1
  have yh1e2 := yh1e.symm
  clear yh1e
  subst yh1e2
  refine jm_astore_n C dX5_ofTeam_5 (by decide) ?_
  refine jm_iload_n C dX5_ofTeam_6 rfl ?_
  have yw4 : (k < 0 ∨ 2 < k) ∨ k = 0 ∨ k = 1 ∨ k = 2 := by omega
  rcases yw4 with yw4 | yw4 | yw4 | yw4
  · skip
    refine jm_tswO 47 C dX5_ofTeam_7 h2 yw4 rfl ?_
    exact hT _ _ _ _ _ "java/lang/IllegalArgumentException" "what is out of range" 57 157 61 rfl jw_k2.1 jw_k2.2 (by decide) jw_x2 jw_y2 jw_z2 dX5_ofTeam_47 dX5_ofTeam_50 dX5_ofTeam_51 dX5_ofTeam_53 dX5_ofTeam_56 (Nat.le_of_ble_eq_true rfl) (Nat.le_of_ble_eq_true rfl) ⟨Nat.le_of_ble_eq_true rfl, Nat.le_of_ble_eq_true rfl⟩ ⟨Nat.le_of_ble_eq_true rfl, Nat.le_of_ble_eq_true rfl⟩ ⟨rfl, Or.inr ⟨by omega, by omega, rfl⟩⟩
  · skip
    refine jm_tswI 32 (0) (25) C dX5_ofTeam_7 yw4 (by decide) (by decide) (by decide) rfl rfl ?_
    refine jm_aload_n C dX5_ofTeam_32 rfl ?_
    refine jm_get (ci := 4) (f := 0) 0 rfl C rfl jw_u_4 (jm_X5_t H (i := t) yh1.1 yh1.2).1 (jm_X5_t H (i := t) yh1.1 yh1.2).2 rfl (by decide) jw_f_RX5_213 dX5_ofTeam_33 (fun yr5 => ?_)
    refine jm_wid (q' := (2, 12)) (Nat.le_of_ble_eq_true rfl) (Nat.le_of_ble_eq_true rfl) ?_
    exact hR _ _ _ _ dX5_ofTeam_36 rfl ⟨by omega, by omega, rfl, by first | rw [if_pos (by omega)] | rw [if_neg (by omega), if_pos (by omega)] | rw [if_neg (by omega), if_neg (by omega)]⟩
  · skip
    refine jm_tswI 37 (1) (30) C dX5_ofTeam_7 yw4 (by decide) (by decide) (by decide) rfl rfl ?_
    refine jm_aload_n C dX5_ofTeam_37 rfl ?_
    refine jm_get (ci := 4) (f := 1) 1 rfl C rfl jw_u_4 (jm_X5_t H (i := t) yh1.1 yh1.2).1 (jm_X5_t H (i := t) yh1.1 yh1.2).2 rfl (by decide) jw_f_RX5_216 dX5_ofTeam_38 (fun yr6 => ?_)
    refine jm_wid (q' := (2, 12)) (Nat.le_of_ble_eq_true rfl) (Nat.le_of_ble_eq_true rfl) ?_
    exact hR _ _ _ _ dX5_ofTeam_41 rfl ⟨by omega, by omega, rfl, by first | rw [if_pos (by omega)] | rw [if_neg (by omega), if_pos (by omega)] | rw [if_neg (by omega), if_neg (by omega)]⟩
  · skip
    refine jm_tswI 42 (2) (35) C dX5_ofTeam_7 yw4 (by decide) (by decide) (by decide) rfl rfl ?_
    refine jm_aload_n C dX5_ofTeam_42 rfl ?_
    refine jm_get (ci := 4) (f := 2) 2 rfl C rfl jw_u_4 (jm_X5_t H (i := t) yh1.1 yh1.2).1 (jm_X5_t H (i := t) yh1.1 yh1.2).2 rfl (by decide) jw_f_RX5_219 dX5_ofTeam_43 (fun yr7 => ?_)
    refine jm_wid (q' := (2, 12)) (Nat.le_of_ble_eq_true rfl) (Nat.le_of_ble_eq_true rfl) ?_
    exact hR _ _ _ _ dX5_ofTeam_46 rfl ⟨by omega, by omega, rfl, by first | rw [if_pos (by omega)] | rw [if_neg (by omega), if_pos (by omega)] | rw [if_neg (by omega), if_neg (by omega)]⟩
set_option maxRecDepth 100000 in
set_option maxHeartbeats 4000000 in
theorem kxX5_stone (E : jm_E) (hl0 : E.1.stackTraces = false) (w : jm_W) (I : jm_M) (ng : Int) (H : jm_X5 E w ng) (g t k : Int) (h1 : jm_R g) (h2 : jm_R t) (h3 : jm_R k) : jm_Xi E yX5_stone wX5_stone rxX5_stone 2 12 w I [.ref (w.2.1 0), jm_v g, jm_v t, jm_v k] (fun I' z => (0 ≤ g ∧ g < ng) ∧ ((0 ≤ t ∧ t ≤ 1) ∧ (0 ≤ k ∧ k ≤ 2)) ∧ I' = I ∧ z = hk_at (I (30 + g + 100 + 100)) (t * 3 + k)) (fun cls I' => I' = I ∧ cls = "java/lang/IndexOutOfBoundsException" ∧ ¬ ((0 ≤ g ∧ g < ng) ∧ ((0 ≤ t ∧ t ≤ 1) ∧ (0 ≤ k ∧ k ≤ 2)))) := by
  refine jm_xin_i (cc := cX5_stone) (maxL := 5) (rt := .int) RX5 hl0 rfl (by decide +kernel) rfl rfl (Nat.le_of_ble_eq_true rfl) (by simp [Value.category]) ?_
  intro G C hR hT hP hI
  refine jm_aload_n C dX5_stone_0 rfl ?_
  refine jm_iload_n C dX5_stone_1 rfl ?_
  refine jm_xcVr (n := 1) (ci := 5) [] C (kxX5_gameOf E hl0 w I ng H _ h1) jw_m_RX5_75 okX5_gameOf rfl ⟨rfl, rfl⟩ ⟨Nat.le_of_ble_eq_true rfl, Nat.le_of_ble_eq_true rfl⟩ rfl H.1.1 H.1.2 rfl rfl (Nat.le_of_ble_eq_true rfl) dX5_stone_2 ⟨Nat.le_of_ble_eq_true rfl, Nat.le_of_ble_eq_true rfl⟩ (fun cls yI3 yh1 => ?_) (fun yI3 yz2 yh1 => ?_)
  · skip
    exact hP _ _ _ _ _ _ ⟨Nat.le_of_ble_eq_true rfl, Nat.le_of_ble_eq_true rfl⟩ (by obtain ⟨rfl, rfl, h9⟩ := yh1; exact ⟨rfl, rfl, fun q => h9 q.1⟩)
  obtain ⟨yh1e, rfl, yh1⟩ := yh1
  have yh1e2 := yh1e.symm
  clear yh1e
  subst yh1e2
  refine jm_astore C dX5_stone_5 (by decide) ?_
  refine jm_iload_n C dX5_stone_7 rfl ?_
  refine jm_iconst C dX5_stone_8 ?_
  refine jm_iconst C dX5_stone_9 ?_
  refine jm_cSd (n := 3) [] C (kX5_isWithin E w I _ _ _ h2 (by decide) (by decide)) jw_m_RX5_43 okX5_isWithin rfl ⟨rfl, rfl⟩ ⟨Nat.le_of_ble_eq_true rfl, Nat.le_of_ble_eq_true rfl⟩ rfl rfl (Nat.le_of_ble_eq_true rfl) dX5_stone_10 ⟨Nat.le_of_ble_eq_true rfl, Nat.le_of_ble_eq_true rfl⟩ (fun yz5 yh4 => ?_)
  refine jm_if_eq 25 C dX5_stone_13 rfl (by omega) (fun yc6 => ?_) (fun yc6 => ?_)
  · skip
    exact hT _ _ _ _ _ "java/lang/IndexOutOfBoundsException" "no such team of the game, or stone" 47 187 51 rfl jw_k1.1 jw_k1.2 (by decide) jw_x1 jw_y1 jw_z1 dX5_stone_25 dX5_stone_28 dX5_stone_29 dX5_stone_31 dX5_stone_34 (Nat.le_of_ble_eq_true rfl) (Nat.le_of_ble_eq_true rfl) ⟨Nat.le_of_ble_eq_true rfl, Nat.le_of_ble_eq_true rfl⟩ ⟨Nat.le_of_ble_eq_true rfl, Nat.le_of_ble_eq_true rfl⟩ ⟨rfl, rfl, by omega⟩
  · skip
    refine jm_iload_n C dX5_stone_16 rfl ?_
    refine jm_iconst C dX5_stone_17 ?_
    refine jm_iconst C dX5_stone_18 ?_
    refine jm_cSd (n := 3) [] C (kX5_isWithin E w I _ _ _ h3 (by decide) (by decide)) jw_m_RX5_43 okX5_isWithin rfl ⟨rfl, rfl⟩ ⟨Nat.le_of_ble_eq_true rfl, Nat.le_of_ble_eq_true rfl⟩ rfl rfl (Nat.le_of_ble_eq_true rfl) dX5_stone_19 ⟨Nat.le_of_ble_eq_true rfl, Nat.le_of_ble_eq_true rfl⟩ (fun yz8 yh7 => ?_)
    refine jm_if_ne 35 C dX5_stone_22 rfl (by omega) (fun yc9 => ?_) (fun yc9 => ?_)
    · skip
      refine jm_aload C dX5_stone_35 rfl ?_
      refine jm_getr (ci := 0) (f := 3) C rfl jw_u_0 (jm_X5_g H (i := g) yh1.1 yh1.2).1 (jm_X5_g H (i := g) yh1.1 yh1.2).2.1 rfl (by decide) jw_f_RX5_102 dX5_stone_37 ?_
      refine jm_iload_n C dX5_stone_40 rfl ?_
      refine jm_iconst C dX5_stone_41 ?_
      refine jm_imul C dX5_stone_42 ?_
      refine jm_iload_n C dX5_stone_43 rfl ?_
      refine jm_iadd C dX5_stone_44 ?_
      refine jm_cVd (n := 1) (ci := 3) [] C (kX3_placeOf E w I _ (jm_X5_g H (i := g) yh1.1 yh1.2).2.2 _ (by omega)) jw_m_RX5_189 okX3_placeOf rfl ⟨rfl, rfl⟩ ⟨Nat.le_of_ble_eq_true rfl, Nat.le_of_ble_eq_true rfl⟩ rfl (jm_X5_g H (i := g) yh1.1 yh1.2).2.2.1 (jm_X5_g H (i := g) yh1.1 yh1.2).2.2.2.1 rfl rfl (Nat.le_of_ble_eq_true rfl) dX5_stone_45 ⟨Nat.le_of_ble_eq_true rfl, Nat.le_of_ble_eq_true rfl⟩ (fun yz11 yh10 => ?_)
      subst yh10
      have yh10r := hk_at_R hI (((30 + g) + 100) + 100) ((t * 3) + k)
      refine jm_wid (q' := (2, 12)) (Nat.le_of_ble_eq_true rfl) (Nat.le_of_ble_eq_true rfl) ?_
      exact hR _ _ _ _ dX5_stone_48 rfl ⟨by omega, by omega, rfl, rfl⟩
    · skip
      exact hT _ _ _ _ _ "java/lang/IndexOutOfBoundsException" "no such team of the game, or stone" 47 187 51 rfl jw_k1.1 jw_k1.2 (by decide) jw_x1 jw_y1 jw_z1 dX5_stone_25 dX5_stone_28 dX5_stone_29 dX5_stone_31 dX5_stone_34 (Nat.le_of_ble_eq_true rfl) (Nat.le_of_ble_eq_true rfl) ⟨Nat.le_of_ble_eq_true rfl, Nat.le_of_ble_eq_true rfl⟩ ⟨Nat.le_of_ble_eq_true rfl, Nat.le_of_ble_eq_true rfl⟩ ⟨rfl, rfl, by omega⟩
set_option maxRecDepth 100000 in
set_option maxHeartbeats 4000000 in
theorem kxX5_wouldScore (E : jm_E) (hl0 : E.1.stackTraces = false) (w : jm_W) (I : jm_M) (ng : Int) (H : jm_X5 E w ng) (g : Int) (h1 : jm_R g) : jm_Xi E yX5_wouldScore wX5_wouldScore rxX5_wouldScore 2 12 w I [.ref (w.2.1 0), jm_v g] (fun I' z => (0 ≤ g ∧ g < ng) ∧ I' = I ∧ z = hk_score (I (30 + g + 100 + 100))) (fun cls I' => I' = I ∧ cls = "java/lang/IndexOutOfBoundsException" ∧ ¬ (0 ≤ g ∧ g < ng)) := by
  refine jm_xin_i (cc := cX5_wouldScore) (maxL := 2) (rt := .int) RX5 hl0 rfl (by decide +kernel) rfl rfl (Nat.le_of_ble_eq_true rfl) (by simp [Value.category]) ?_
  intro G C hR hT hP hI
  refine jm_aload_n C dX5_wouldScore_0 rfl ?_
  refine jm_iload_n C dX5_wouldScore_1 rfl ?_
  refine jm_xcVr (n := 1) (ci := 5) [] C (kxX5_gameOf E hl0 w I ng H _ h1) jw_m_RX5_75 okX5_gameOf rfl ⟨rfl, rfl⟩ ⟨Nat.le_of_ble_eq_true rfl, Nat.le_of_ble_eq_true rfl⟩ rfl H.1.1 H.1.2 rfl rfl (Nat.le_of_ble_eq_true rfl) dX5_wouldScore_2 ⟨Nat.le_of_ble_eq_true rfl, Nat.le_of_ble_eq_true rfl⟩ (fun cls yI3 yh1 => ?_) (fun yI3 yz2 yh1 => ?_)
  · skip
    exact hP _ _ _ _ _ _ ⟨Nat.le_of_ble_eq_true rfl, Nat.le_of_ble_eq_true rfl⟩ (by obtain ⟨rfl, rfl, h9⟩ := yh1; exact ⟨rfl, rfl, h9⟩)
  obtain ⟨yh1e, rfl, yh1⟩ := yh1
  have yh1e2 := yh1e.symm
  clear yh1e
  subst yh1e2
  refine jm_getr (ci := 0) (f := 3) C rfl jw_u_0 (jm_X5_g H (i := g) yh1.1 yh1.2).1 (jm_X5_g H (i := g) yh1.1 yh1.2).2.1 rfl (by decide) jw_f_RX5_102 dX5_wouldScore_5 ?_
  refine jm_cVd (n := 0) (ci := 3) [] C (kX3_score E w I _ (jm_X5_g H (i := g) yh1.1 yh1.2).2.2) jw_m_RX5_192 okX3_score rfl ⟨rfl, rfl⟩ ⟨Nat.le_of_ble_eq_true rfl, Nat.le_of_ble_eq_true rfl⟩ rfl (jm_X5_g H (i := g) yh1.1 yh1.2).2.2.1 (jm_X5_g H (i := g) yh1.1 yh1.2).2.2.2.1 rfl rfl (Nat.le_of_ble_eq_true rfl) dX5_wouldScore_8 ⟨Nat.le_of_ble_eq_true rfl, Nat.le_of_ble_eq_true rfl⟩ (fun yz5 yh4 => ?_)
  refine jm_wid (q' := (2, 12)) (Nat.le_of_ble_eq_true rfl) (Nat.le_of_ble_eq_true rfl) ?_
  exact hR _ _ _ _ dX5_wouldScore_11 rfl ⟨by omega, rfl, by assumption⟩
set_option maxRecDepth 100000 in
set_option maxHeartbeats 4000000 in
theorem kxX5_wouldScoreAnew (E : jm_E) (hl0 : E.1.stackTraces = false) (w : jm_W) (I : jm_M) (ng : Int) (H : jm_X5 E w ng) (g : Int) (h1 : jm_R g) : jm_Xi E yX5_wouldScoreAnew wX5_wouldScoreAnew rxX5_wouldScoreAnew 2 12 w I [.ref (w.2.1 0), jm_v g] (fun I' z => (0 ≤ g ∧ g < ng) ∧ I' = I ∧ z = hk_one (I (30 + g + 100 + 100)) 6) (fun cls I' => I' = I ∧ cls = "java/lang/IndexOutOfBoundsException" ∧ ¬ (0 ≤ g ∧ g < ng)) := by
  refine jm_xin_i (cc := cX5_wouldScoreAnew) (maxL := 2) (rt := .int) RX5 hl0 rfl (by decide +kernel) rfl rfl (Nat.le_of_ble_eq_true rfl) (by simp [Value.category]) ?_
  intro G C hR hT hP hI
  refine jm_aload_n C dX5_wouldScoreAnew_0 rfl ?_
  refine jm_iload_n C dX5_wouldScoreAnew_1 rfl ?_
  refine jm_xcVr (n := 1) (ci := 5) [] C (kxX5_gameOf E hl0 w I ng H _ h1) jw_m_RX5_75 okX5_gameOf rfl ⟨rfl, rfl⟩ ⟨Nat.le_of_ble_eq_true rfl, Nat.le_of_ble_eq_true rfl⟩ rfl H.1.1 H.1.2 rfl rfl (Nat.le_of_ble_eq_true rfl) dX5_wouldScoreAnew_2 ⟨Nat.le_of_ble_eq_true rfl, Nat.le_of_ble_eq_true rfl⟩ (fun cls yI3 yh1 => ?_) (fun yI3 yz2 yh1 => ?_)
  · skip
    exact hP _ _ _ _ _ _ ⟨Nat.le_of_ble_eq_true rfl, Nat.le_of_ble_eq_true rfl⟩ (by obtain ⟨rfl, rfl, h9⟩ := yh1; exact ⟨rfl, rfl, h9⟩)
  obtain ⟨yh1e, rfl, yh1⟩ := yh1
  have yh1e2 := yh1e.symm
  clear yh1e
  subst yh1e2
  refine jm_getr (ci := 0) (f := 3) C rfl jw_u_0 (jm_X5_g H (i := g) yh1.1 yh1.2).1 (jm_X5_g H (i := g) yh1.1 yh1.2).2.1 rfl (by decide) jw_f_RX5_102 dX5_wouldScoreAnew_5 ?_
  refine jm_cVd (n := 0) (ci := 3) [] C (kX3_scoreOneByOne E w I _ (jm_X5_g H (i := g) yh1.1 yh1.2).2.2) jw_m_RX5_195 okX3_scoreOneByOne rfl ⟨rfl, rfl⟩ ⟨Nat.le_of_ble_eq_true rfl, Nat.le_of_ble_eq_true rfl⟩ rfl (jm_X5_g H (i := g) yh1.1 yh1.2).2.2.1 (jm_X5_g H (i := g) yh1.1 yh1.2).2.2.2.1 rfl rfl (Nat.le_of_ble_eq_true rfl) dX5_wouldScoreAnew_8 ⟨Nat.le_of_ble_eq_true rfl, Nat.le_of_ble_eq_true rfl⟩ (fun yz5 yh4 => ?_)
  refine jm_wid (q' := (2, 12)) (Nat.le_of_ble_eq_true rfl) (Nat.le_of_ble_eq_true rfl) ?_
  exact hR _ _ _ _ dX5_wouldScoreAnew_11 rfl ⟨by omega, rfl, by assumption⟩
set_option maxRecDepth 100000 in
set_option maxHeartbeats 4000000 in
theorem kxX5_standing (E : jm_E) (hl0 : E.1.stackTraces = false) (w : jm_W) (I : jm_M) (ng : Int) (H : jm_X5 E w ng) (p : Int) (h1 : jm_R p) : jm_Xi E yX5_standing wX5_standing rxX5_standing 2 12 w I [.ref (w.2.1 0), jm_v p] (fun I' z => (0 ≤ p ∧ p ≤ 5) ∧ I' = I ∧ z = hk_std I p 6) (fun cls I' => I' = I ∧ cls = "java/lang/IndexOutOfBoundsException" ∧ ¬ (0 ≤ p ∧ p ≤ 5)) := by
  refine jm_xin_i (cc := cX5_standing) (maxL := 4) (rt := .int) RX5 hl0 rfl (by decide +kernel) rfl rfl (Nat.le_of_ble_eq_true rfl) (by simp [Value.category]) ?_
  intro G C hR hT hP hI
  refine jm_iload_n C dX5_standing_0 rfl ?_
  refine jm_iconst C dX5_standing_1 ?_
  refine jm_iconst C dX5_standing_2 ?_
  refine jm_cSd (n := 3) [] C (kX5_isWithin E w I _ _ _ h1 (by decide) (by decide)) jw_m_RX5_43 okX5_isWithin rfl ⟨rfl, rfl⟩ ⟨Nat.le_of_ble_eq_true rfl, Nat.le_of_ble_eq_true rfl⟩ rfl rfl (Nat.le_of_ble_eq_true rfl) dX5_standing_3 ⟨Nat.le_of_ble_eq_true rfl, Nat.le_of_ble_eq_true rfl⟩ (fun yz2 yh1 => ?_)
  refine jm_if_ne 19 C dX5_standing_6 rfl (by omega) (fun yc3 => ?_) (fun yc3 => ?_)
  · skip
    refine jm_iconst C dX5_standing_19 ?_
    refine jm_istore_n C dX5_standing_20 (by decide) ?_
    refine jm_iconst C dX5_standing_21 ?_
    refine jm_istore_n C dX5_standing_22 (by decide) ?_
    have lp23 : ∀ (yn23 : Nat) (m : Nat) (fo : Int), 6 - m < yn23 → (m ≤ 6) → (fo = hk_std I p m) → (-1 ≤ fo ∧ fo < 6) → jm_J E G (0, 0) w I 23 [(0, .ref (w.2.1 0)), (1, jm_v p), (2, jm_v fo), (3, jm_v ((m : Nat) : Int))] [] := by
      intro yn23
      induction yn23 with
      | zero => intro m fo hlt23 hm hf hfr; exact absurd hlt23 (Nat.not_lt_zero _)
      | succ yn23 ih23 =>
        intro m fo hlt23 hm hf hfr
        refine jm_iload_n C dX5_standing_23 rfl ?_
        refine jm_bipush C dX5_standing_24 (by decide +kernel) ?_
        refine jm_icmp_ge 46 C dX5_standing_26 rfl (by omega) (by decide) (fun yc4 => ?_) (fun yc4 => ?_)
        · skip
          refine jm_iload_n C dX5_standing_46 rfl ?_
          refine jm_wid (q' := (2, 12)) (Nat.le_of_ble_eq_true rfl) (Nat.le_of_ble_eq_true rfl) ?_
          exact hR _ _ _ _ dX5_standing_47 rfl ⟨by omega, rfl, by rw [hf, show m = 6 by omega]⟩
        · skip
          refine jm_aload_n C dX5_standing_29 rfl ?_
          refine jm_iload_n C dX5_standing_30 rfl ?_
          refine jm_cVd (n := 1) (ci := 5) [] C (kX5_teamsAheadOf E w I ng H _ (by omega)) jw_m_RX5_206 okX5_teamsAheadOf rfl ⟨rfl, rfl⟩ ⟨Nat.le_of_ble_eq_true rfl, Nat.le_of_ble_eq_true rfl⟩ rfl H.1.1 H.1.2 rfl rfl (Nat.le_of_ble_eq_true rfl) dX5_standing_31 ⟨Nat.le_of_ble_eq_true rfl, Nat.le_of_ble_eq_true rfl⟩ (fun yz6 yh5 => ?_)
          subst yh5
          have yh5r := hk_tah_r I ((m : Nat) : Int) 6
          refine jm_iload_n C dX5_standing_34 rfl ?_
          refine jm_icmp_ne 40 C dX5_standing_35 rfl (by omega) h1 (fun yc7 => ?_) (fun yc7 => ?_)
          · skip
            refine jm_iinc C dX5_standing_40 (by decide) rfl ?_
            refine jm_goto 23 C dX5_standing_43 rfl ?_
            refine jm_lvs (lv' := [(0, _), (1, _), (2, _), (3, _)]) (jm_sub_c rfl (jm_sub_c rfl (jm_sub_c rfl (jm_sub_c rfl (jm_sub_0 _))))) ?_
            exact ih23 (m + 1) _ (by omega) (by omega) (by rw [hk_std, ← hf]; first | rw [if_pos (by omega)] | rw [if_neg (by omega)]) (by omega)
          · skip
            refine jm_iload_n C dX5_standing_38 rfl ?_
            refine jm_istore_n C dX5_standing_39 (by decide) ?_
            refine jm_iinc C dX5_standing_40 (by decide) rfl ?_
            refine jm_goto 23 C dX5_standing_43 rfl ?_
            refine jm_lvs (lv' := [(0, _), (1, _), (2, _), (3, _)]) (jm_sub_c rfl (jm_sub_c rfl (jm_sub_c rfl (jm_sub_c rfl (jm_sub_0 _))))) ?_
            exact ih23 (m + 1) _ (by omega) (by omega) (by rw [hk_std, ← hf]; first | rw [if_pos (by omega)] | rw [if_neg (by omega)]) (by omega)
    refine jm_lvs (lv' := [(0, _), (1, _), (2, _), (3, _)]) (jm_sub_c rfl (jm_sub_c rfl (jm_sub_c rfl (jm_sub_c rfl (jm_sub_0 _))))) ?_
    exact lp23 _ 0 _ (Nat.lt_succ_self _) (Nat.zero_le _) rfl (by decide)
  · skip
    exact hT _ _ _ _ _ "java/lang/IndexOutOfBoundsException" "no such place" 47 204 51 rfl jw_k1.1 jw_k1.2 (by decide) jw_x1 jw_y1 jw_z1 dX5_standing_9 dX5_standing_12 dX5_standing_13 dX5_standing_15 dX5_standing_18 (Nat.le_of_ble_eq_true rfl) (Nat.le_of_ble_eq_true rfl) ⟨Nat.le_of_ble_eq_true rfl, Nat.le_of_ble_eq_true rfl⟩ ⟨Nat.le_of_ble_eq_true rfl, Nat.le_of_ble_eq_true rfl⟩ ⟨rfl, rfl, by omega⟩
set_option maxRecDepth 100000 in
set_option maxHeartbeats 4000000 in
theorem kxX5_wear (E : jm_E) (hl0 : E.1.stackTraces = false) (w : jm_W) (I : jm_M) (ng : Int) (H : jm_X5 E w ng) (s x y : Int) (h1 : jm_R s) (h2 : jm_R x) (h3 : jm_R y) : jm_Xi E yX5_wear wX5_wear rxX5_wear 2 12 w I [.ref (w.2.1 0), jm_v s, jm_v x, jm_v y] (fun I' z => (0 ≤ s ∧ s < 3) ∧ (0 ≤ x ∧ x ≤ 8 ∧ 0 ≤ y ∧ y ≤ 60) ∧ I' = I ∧ z = I (10 + s + 100) (x * 61 + y)) (fun cls I' => I' = I ∧ cls = "java/lang/IndexOutOfBoundsException" ∧ ¬ ((0 ≤ s ∧ s < 3) ∧ (0 ≤ x ∧ x ≤ 8 ∧ 0 ≤ y ∧ y ≤ 60))) := by
  refine jm_xin_i (cc := cX5_wear) (maxL := 5) (rt := .int) RX5 hl0 rfl (by decide +kernel) rfl rfl (Nat.le_of_ble_eq_true rfl) (by simp [Value.category]) ?_
  intro G C hR hT hP hI
  refine jm_aload_n C dX5_wear_0 rfl ?_
  refine jm_iload_n C dX5_wear_1 rfl ?_
  refine jm_xcVr (n := 1) (ci := 5) [] C (kxX5_sheetOf E hl0 w I ng H _ h1) jw_m_RX5_98 okX5_sheetOf rfl ⟨rfl, rfl⟩ ⟨Nat.le_of_ble_eq_true rfl, Nat.le_of_ble_eq_true rfl⟩ rfl H.1.1 H.1.2 rfl rfl (Nat.le_of_ble_eq_true rfl) dX5_wear_2 ⟨Nat.le_of_ble_eq_true rfl, Nat.le_of_ble_eq_true rfl⟩ (fun cls yI3 yh1 => ?_) (fun yI3 yz2 yh1 => ?_)
  · skip
    exact hP _ _ _ _ _ _ ⟨Nat.le_of_ble_eq_true rfl, Nat.le_of_ble_eq_true rfl⟩ (by obtain ⟨rfl, rfl, h9⟩ := yh1; exact ⟨rfl, rfl, fun q => h9 q.1⟩)
  obtain ⟨yh1e, rfl, yh1⟩ := yh1
  have yh1e2 := yh1e.symm
  clear yh1e
  subst yh1e2
  refine jm_astore C dX5_wear_5 (by decide) ?_
  refine jm_iload_n C dX5_wear_7 rfl ?_
  refine jm_iload_n C dX5_wear_8 rfl ?_
  refine jm_cSd (n := 2) [] C (kX5_isCell E w I _ _ h2 h3) jw_m_RX5_159 okX5_isCell rfl ⟨rfl, rfl⟩ ⟨Nat.le_of_ble_eq_true rfl, Nat.le_of_ble_eq_true rfl⟩ rfl rfl (Nat.le_of_ble_eq_true rfl) dX5_wear_9 ⟨Nat.le_of_ble_eq_true rfl, Nat.le_of_ble_eq_true rfl⟩ (fun yz5 yh4 => ?_)
  refine jm_if_ne 25 C dX5_wear_12 rfl (by omega) (fun yc6 => ?_) (fun yc6 => ?_)
  · skip
    refine jm_aload C dX5_wear_25 rfl ?_
    refine jm_iload_n C dX5_wear_27 rfl ?_
    refine jm_iload_n C dX5_wear_28 rfl ?_
    refine jm_cVd (n := 2) (ci := 1) [] C (kX1_wornAt E w I _ (jm_X5_s H (i := s) yh1.1 yh1.2) _ _ (by omega) (by omega)) jw_m_RX5_165 okX1_wornAt rfl ⟨rfl, rfl⟩ ⟨Nat.le_of_ble_eq_true rfl, Nat.le_of_ble_eq_true rfl⟩ rfl (jm_X5_s H (i := s) yh1.1 yh1.2).1 (jm_X5_s H (i := s) yh1.1 yh1.2).2.1 rfl rfl (Nat.le_of_ble_eq_true rfl) dX5_wear_29 ⟨Nat.le_of_ble_eq_true rfl, Nat.le_of_ble_eq_true rfl⟩ (fun yz8 yh7 => ?_)
    refine jm_wid (q' := (2, 12)) (Nat.le_of_ble_eq_true rfl) (Nat.le_of_ble_eq_true rfl) ?_
    exact hR _ _ _ _ dX5_wear_32 rfl ⟨by omega, by omega, rfl, by assumption⟩
  · skip
    exact hT _ _ _ _ _ "java/lang/IndexOutOfBoundsException" "no such cell" 47 163 51 rfl jw_k1.1 jw_k1.2 (by decide) jw_x1 jw_y1 jw_z1 dX5_wear_15 dX5_wear_18 dX5_wear_19 dX5_wear_21 dX5_wear_24 (Nat.le_of_ble_eq_true rfl) (Nat.le_of_ble_eq_true rfl) ⟨Nat.le_of_ble_eq_true rfl, Nat.le_of_ble_eq_true rfl⟩ ⟨Nat.le_of_ble_eq_true rfl, Nat.le_of_ble_eq_true rfl⟩ ⟨rfl, rfl, by omega⟩
set_option maxRecDepth 100000 in
set_option maxHeartbeats 4000000 in
theorem kxX5_ofSheet (E : jm_E) (hl0 : E.1.stackTraces = false) (w : jm_W) (I : jm_M) (ng : Int) (H : jm_X5 E w ng) (s k : Int) (h1 : jm_R s) (h2 : jm_R k) : jm_Xi E yX5_ofSheet wX5_ofSheet rxX5_ofSheet 2 12 w I [.ref (w.2.1 0), jm_v s, jm_v k] (fun I' z => (0 ≤ s ∧ s < 3) ∧ (0 ≤ k ∧ k ≤ 3) ∧ I' = I ∧ z = if k = 0 then (if I (10 + s) 1 = 0 then 0 else 1) else if k = 1 then I (10 + s) 2 else if k = 2 then hk_sum (I (10 + s + 100)) 549 else if I 0 7 = s then I 0 8 else 0) (fun cls I' => I' = I ∧ ((¬ (0 ≤ s ∧ s < 3) ∧ cls = "java/lang/IndexOutOfBoundsException") ∨ ((0 ≤ s ∧ s < 3) ∧ ¬ (0 ≤ k ∧ k ≤ 3) ∧ cls = "java/lang/IllegalArgumentException"))) := by
  refine jm_xin_i (cc := cX5_ofSheet) (maxL := 4) (rt := .int) RX5 hl0 rfl (by decide +kernel) rfl rfl (Nat.le_of_ble_eq_true rfl) (by simp [Value.category]) ?_
  intro G C hR hT hP hI
  refine jm_aload_n C dX5_ofSheet_0 rfl ?_
  refine jm_iload_n C dX5_ofSheet_1 rfl ?_
  refine jm_xcVr (n := 1) (ci := 5) [] C (kxX5_sheetOf E hl0 w I ng H _ h1) jw_m_RX5_98 okX5_sheetOf rfl ⟨rfl, rfl⟩ ⟨Nat.le_of_ble_eq_true rfl, Nat.le_of_ble_eq_true rfl⟩ rfl H.1.1 H.1.2 rfl rfl (Nat.le_of_ble_eq_true rfl) dX5_ofSheet_2 ⟨Nat.le_of_ble_eq_true rfl, Nat.le_of_ble_eq_true rfl⟩ (fun cls yI3 yh1 => ?_) (fun yI3 yz2 yh1 => ?_)
  · skip
    exact hP _ _ _ _ _ _ ⟨Nat.le_of_ble_eq_true rfl, Nat.le_of_ble_eq_true rfl⟩ (by obtain ⟨rfl, rfl, h9⟩ := yh1; exact ⟨rfl, Or.inl ⟨h9, rfl⟩⟩)
  obtain ⟨yh1e, rfl, yh1⟩ := yh1
  have yh1e2 := yh1e.symm
  clear yh1e
  subst yh1e2
  refine jm_astore_n C dX5_ofSheet_5 (by decide) ?_
  refine jm_iload_n C dX5_ofSheet_6 rfl ?_
  have yw4 : (k < 0 ∨ 3 < k) ∨ k = 0 ∨ k = 1 ∨ k = 2 ∨ k = 3 := by omega
  rcases yw4 with yw4 | yw4 | yw4 | yw4 | yw4
  · skip
    refine jm_tswO 76 C dX5_ofSheet_7 h2 yw4 rfl ?_
    exact hT _ _ _ _ _ "java/lang/IllegalArgumentException" "what is out of range" 57 157 61 rfl jw_k2.1 jw_k2.2 (by decide) jw_x2 jw_y2 jw_z2 dX5_ofSheet_76 dX5_ofSheet_79 dX5_ofSheet_80 dX5_ofSheet_82 dX5_ofSheet_85 (Nat.le_of_ble_eq_true rfl) (Nat.le_of_ble_eq_true rfl) ⟨Nat.le_of_ble_eq_true rfl, Nat.le_of_ble_eq_true rfl⟩ ⟨Nat.le_of_ble_eq_true rfl, Nat.le_of_ble_eq_true rfl⟩ ⟨rfl, Or.inr ⟨by omega, by omega, rfl⟩⟩
  · skip
    refine jm_tswI 36 (0) (29) C dX5_ofSheet_7 yw4 (by decide) (by decide) (by decide) rfl rfl ?_
    refine jm_aload_n C dX5_ofSheet_36 rfl ?_
    refine jm_get (ci := 1) (f := 1) 1 rfl C rfl jw_u_1 (jm_X5_s H (i := s) yh1.1 yh1.2).1 (jm_X5_s H (i := s) yh1.1 yh1.2).2.1 rfl (by decide) jw_f_RX5_144 dX5_ofSheet_37 (fun yr5 => ?_)
    refine jm_if_eq 47 C dX5_ofSheet_40 rfl (by omega) (fun yc6 => ?_) (fun yc6 => ?_)
    · skip
      refine jm_iconst C dX5_ofSheet_47 ?_
      refine jm_wid (q' := (2, 12)) (Nat.le_of_ble_eq_true rfl) (Nat.le_of_ble_eq_true rfl) ?_
      exact hR _ _ _ _ dX5_ofSheet_48 rfl ⟨by omega, by omega, rfl, by first | rw [if_pos (by omega), if_pos (by omega)] | rw [if_pos (by omega), if_neg (by omega)] | rw [if_neg (by omega), if_pos (by omega)] | (rw [if_neg (by omega), if_neg (by omega), if_pos (by omega)]; assumption) | rw [if_neg (by omega), if_neg (by omega), if_neg (by omega), if_pos (by omega)] | rw [if_neg (by omega), if_neg (by omega), if_neg (by omega), if_neg (by omega)]⟩
    · skip
      refine jm_iconst C dX5_ofSheet_43 ?_
      refine jm_goto 48 C dX5_ofSheet_44 rfl ?_
      refine jm_wid (q' := (2, 12)) (Nat.le_of_ble_eq_true rfl) (Nat.le_of_ble_eq_true rfl) ?_
      exact hR _ _ _ _ dX5_ofSheet_48 rfl ⟨by omega, by omega, rfl, by first | rw [if_pos (by omega), if_pos (by omega)] | rw [if_pos (by omega), if_neg (by omega)] | rw [if_neg (by omega), if_pos (by omega)] | (rw [if_neg (by omega), if_neg (by omega), if_pos (by omega)]; assumption) | rw [if_neg (by omega), if_neg (by omega), if_neg (by omega), if_pos (by omega)] | rw [if_neg (by omega), if_neg (by omega), if_neg (by omega), if_neg (by omega)]⟩
  · skip
    refine jm_tswI 49 (1) (42) C dX5_ofSheet_7 yw4 (by decide) (by decide) (by decide) rfl rfl ?_
    refine jm_aload_n C dX5_ofSheet_49 rfl ?_
    refine jm_get (ci := 1) (f := 2) 2 rfl C rfl jw_u_1 (jm_X5_s H (i := s) yh1.1 yh1.2).1 (jm_X5_s H (i := s) yh1.1 yh1.2).2.1 rfl (by decide) jw_f_RX5_148 dX5_ofSheet_50 (fun yr7 => ?_)
    refine jm_wid (q' := (2, 12)) (Nat.le_of_ble_eq_true rfl) (Nat.le_of_ble_eq_true rfl) ?_
    exact hR _ _ _ _ dX5_ofSheet_53 rfl ⟨by omega, by omega, rfl, by first | rw [if_pos (by omega), if_pos (by omega)] | rw [if_pos (by omega), if_neg (by omega)] | rw [if_neg (by omega), if_pos (by omega)] | (rw [if_neg (by omega), if_neg (by omega), if_pos (by omega)]; assumption) | rw [if_neg (by omega), if_neg (by omega), if_neg (by omega), if_pos (by omega)] | rw [if_neg (by omega), if_neg (by omega), if_neg (by omega), if_neg (by omega)]⟩
  · skip
    refine jm_tswI 54 (2) (47) C dX5_ofSheet_7 yw4 (by decide) (by decide) (by decide) rfl rfl ?_
    refine jm_aload_n C dX5_ofSheet_54 rfl ?_
    refine jm_cVd (n := 0) (ci := 1) [] C (kX1_allWorn E w I _ (jm_X5_s H (i := s) yh1.1 yh1.2)) jw_m_RX5_151 okX1_allWorn rfl ⟨rfl, rfl⟩ ⟨Nat.le_of_ble_eq_true rfl, Nat.le_of_ble_eq_true rfl⟩ rfl (jm_X5_s H (i := s) yh1.1 yh1.2).1 (jm_X5_s H (i := s) yh1.1 yh1.2).2.1 rfl rfl (Nat.le_of_ble_eq_true rfl) dX5_ofSheet_55 ⟨Nat.le_of_ble_eq_true rfl, Nat.le_of_ble_eq_true rfl⟩ (fun yz9 yh8 => ?_)
    refine jm_wid (q' := (2, 12)) (Nat.le_of_ble_eq_true rfl) (Nat.le_of_ble_eq_true rfl) ?_
    exact hR _ _ _ _ dX5_ofSheet_58 rfl ⟨by omega, by omega, rfl, by first | rw [if_pos (by omega), if_pos (by omega)] | rw [if_pos (by omega), if_neg (by omega)] | rw [if_neg (by omega), if_pos (by omega)] | (rw [if_neg (by omega), if_neg (by omega), if_pos (by omega)]; assumption) | rw [if_neg (by omega), if_neg (by omega), if_neg (by omega), if_pos (by omega)] | rw [if_neg (by omega), if_neg (by omega), if_neg (by omega), if_neg (by omega)]⟩
  · skip
    refine jm_tswI 59 (3) (52) C dX5_ofSheet_7 yw4 (by decide) (by decide) (by decide) rfl rfl ?_
    refine jm_aload_n C dX5_ofSheet_59 rfl ?_
    refine jm_get (ci := 5) (f := 7) 7 rfl C rfl jw_u_5 H.1.1 H.1.2 rfl (by decide) jw_f_RX5_40 dX5_ofSheet_60 (fun yr10 => ?_)
    refine jm_iload_n C dX5_ofSheet_63 rfl ?_
    refine jm_icmp_ne 74 C dX5_ofSheet_64 rfl (by omega) h1 (fun yc11 => ?_) (fun yc11 => ?_)
    · skip
      refine jm_iconst C dX5_ofSheet_74 ?_
      refine jm_wid (q' := (2, 12)) (Nat.le_of_ble_eq_true rfl) (Nat.le_of_ble_eq_true rfl) ?_
      exact hR _ _ _ _ dX5_ofSheet_75 rfl ⟨by omega, by omega, rfl, by first | rw [if_pos (by omega), if_pos (by omega)] | rw [if_pos (by omega), if_neg (by omega)] | rw [if_neg (by omega), if_pos (by omega)] | (rw [if_neg (by omega), if_neg (by omega), if_pos (by omega)]; assumption) | rw [if_neg (by omega), if_neg (by omega), if_neg (by omega), if_pos (by omega)] | rw [if_neg (by omega), if_neg (by omega), if_neg (by omega), if_neg (by omega)]⟩
    · skip
      refine jm_aload_n C dX5_ofSheet_67 rfl ?_
      refine jm_get (ci := 5) (f := 8) 8 rfl C rfl jw_u_5 H.1.1 H.1.2 rfl (by decide) jw_f_RX5_154 dX5_ofSheet_68 (fun yr12 => ?_)
      refine jm_goto 75 C dX5_ofSheet_71 rfl ?_
      refine jm_wid (q' := (2, 12)) (Nat.le_of_ble_eq_true rfl) (Nat.le_of_ble_eq_true rfl) ?_
      exact hR _ _ _ _ dX5_ofSheet_75 rfl ⟨by omega, by omega, rfl, by first | rw [if_pos (by omega), if_pos (by omega)] | rw [if_pos (by omega), if_neg (by omega)] | rw [if_neg (by omega), if_pos (by omega)] | (rw [if_neg (by omega), if_neg (by omega), if_pos (by omega)]; assumption) | rw [if_neg (by omega), if_neg (by omega), if_neg (by omega), if_pos (by omega)] | rw [if_neg (by omega), if_neg (by omega), if_neg (by omega), if_neg (by omega)]⟩
