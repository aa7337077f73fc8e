set_option maxRecDepth 100000 in
set_option maxHeartbeats 4000000 in
theorem kX6_crew (E : jm_E) (w : jm_W) (I : jm_M) (Q : jm_X6 E w) (n : Int) (hn : jm_R n) : jm_Mi E yX6_crew wX6_crew rmX6_crew 0 0 w I [.ref (w.2.1 300), jm_v n] (fun I' z => hk_cd I' (1 ≤ n ∧ n ≤ 6) True True ∧ (1 ≤ n ∧ n ≤ 6 → I' = jm_up (jm_up I 300 0 0) 300 2 n ∧ z = I 300 2) ∧ (¬ (1 ≤ n ∧ n ≤ 6) → hk_wk I I')) := by
  refine jm_in_i (cc := cX6_crew) (maxL := 3) (rt := .int) RX6 (by decide +kernel) rfl rfl (Nat.le_of_ble_eq_true rfl) (by simp [Value.category]) ?_
  intro G C hR hI
  refine jm_aload_n C dX6_crew_0 rfl ?_
  refine jm_iload_n C dX6_crew_1 rfl ?_
  refine jm_iconst C dX6_crew_2 ?_
  refine jm_bipush C dX6_crew_3 (by decide +kernel) ?_
  refine jm_cSd (n := 3) [.ref (w.2.1 300)] C (kX6_in E w I _ _ _ hn (by decide) (by decide)) jw_m_RX6_90 okX6_in rfl ⟨rfl, rfl⟩ ⟨Nat.le_of_ble_eq_true rfl, Nat.le_of_ble_eq_true rfl⟩ rfl rfl (Nat.le_of_ble_eq_true rfl) dX6_crew_5 ⟨Nat.le_of_ble_eq_true rfl, Nat.le_of_ble_eq_true rfl⟩ (fun yz2 yh1 => ?_)
  refine jm_cVd (n := 1) (ci := 6) [] C (kX6_asked E w I Q _ (by omega)) jw_m_RX6_108 okX6_asked rfl ⟨rfl, rfl⟩ ⟨Nat.le_of_ble_eq_true rfl, Nat.le_of_ble_eq_true rfl⟩ rfl Q.1.1 Q.1.2 rfl rfl (Nat.le_of_ble_eq_true rfl) dX6_crew_8 ⟨Nat.le_of_ble_eq_true rfl, Nat.le_of_ble_eq_true rfl⟩ (fun yz4 yh3 => ?_)
  refine jm_if_ne 16 C dX6_crew_11 rfl (by omega) (fun yc5 => ?_) (fun yc5 => ?_)
  · skip
    refine jm_aload_n C dX6_crew_16 rfl ?_
    refine jm_getv (ci := 6) (f := 2) (I 300 2) 2 rfl (jm_up_n (Or.inr (by decide))) C rfl jw_u_6 Q.1.1 Q.1.2 rfl (by decide) jw_f_RX6_7 dX6_crew_17 (fun yr6 => ?_)
    refine jm_istore_n C dX6_crew_20 (by decide) ?_
    refine jm_aload_n C dX6_crew_21 rfl ?_
    refine jm_iload_n C dX6_crew_22 rfl ?_
    refine jm_put (ci := 6) (f := 2) (ty := .int) 2 rfl C rfl tyX6 tyX6_ok nmX6 jw_u_6 Q.1.1 Q.1.2 rfl (by decide) jw_f_RX6_7 rfl (by decide +kernel) rfl rfl dX6_crew_23 hn ?_
    refine jm_iload_n C dX6_crew_26 rfl ?_
    exact hR _ _ _ _ dX6_crew_27 rfl ⟨hk_cd1 (Eq.trans (jm_up_n (Or.inr (by decide))) (jm_up_s _ _ _ _)) (by omega), fun _ => ⟨by rw [if_neg (by omega)], rfl⟩, fun q => absurd q (by omega)⟩
  · skip
    refine jm_iconst C dX6_crew_14 ?_
    exact hR _ _ _ _ dX6_crew_15 rfl ⟨hk_cd1 (jm_up_s _ _ _ _) (by omega), fun q => absurd q (by omega), fun _ => hk_wk_0 _ _⟩
set_option maxRecDepth 100000 in
set_option maxHeartbeats 4000000 in
theorem kX6_wear (E : jm_E) (w : jm_W) (I : jm_M) (Q : jm_X6 E w) (s x y : Int) (g1 : jm_R s) (g2 : jm_R x) (g3 : jm_R y) : jm_Mi E yX6_wear wX6_wear rmX6_wear 0 0 w I [.ref (w.2.1 300), jm_v s, jm_v x, jm_v y] (fun I' z => hk_cd I' (0 ≤ s ∧ s ≤ 2 ∧ 0 ≤ x ∧ x ≤ 8 ∧ 0 ≤ y ∧ y ≤ 60) True True ∧ hk_wk I I' ∧ ((0 ≤ s ∧ s ≤ 2 ∧ 0 ≤ x ∧ x ≤ 8 ∧ 0 ≤ y ∧ y ≤ 60) → z = I 305 (549 * s + 61 * x + y))) := by
  refine jm_in_i (cc := cX6_wear) (maxL := 4) (rt := .int) RX6 (by decide +kernel) rfl rfl (Nat.le_of_ble_eq_true rfl) (by simp [Value.category]) ?_
  intro G C hR hI
  refine jm_aload_n C dX6_wear_0 rfl ?_
  refine jm_iload_n C dX6_wear_1 rfl ?_
  refine jm_cSd (n := 1) [.ref (w.2.1 300)] C (kX6_isSheet E w I _ g1) jw_m_RX6_98 okX6_isSheet rfl ⟨rfl, rfl⟩ ⟨Nat.le_of_ble_eq_true rfl, Nat.le_of_ble_eq_true rfl⟩ rfl rfl (Nat.le_of_ble_eq_true rfl) dX6_wear_2 ⟨Nat.le_of_ble_eq_true rfl, Nat.le_of_ble_eq_true rfl⟩ (fun yz2 yh1 => ?_)
  refine jm_if_eq 32 C dX6_wear_5 rfl (by omega) (fun yc3 => ?_) (fun yc3 => ?_)
  · skip
    refine jm_iconst C dX6_wear_32 ?_
    refine jm_cVd (n := 1) (ci := 6) [] C (kX6_asked E w I Q _ (by omega)) jw_m_RX6_108 okX6_asked rfl ⟨rfl, rfl⟩ ⟨Nat.le_of_ble_eq_true rfl, Nat.le_of_ble_eq_true rfl⟩ rfl Q.1.1 Q.1.2 rfl rfl (Nat.le_of_ble_eq_true rfl) dX6_wear_33 ⟨Nat.le_of_ble_eq_true rfl, Nat.le_of_ble_eq_true rfl⟩ (fun yz5 yh4 => ?_)
    refine jm_if_eq 59 C dX6_wear_36 rfl (by omega) (fun yc6 => ?_) (fun yc6 => ?_)
    · skip
      refine jm_iconst C dX6_wear_59 ?_
      exact hR _ _ _ _ dX6_wear_60 rfl ⟨hk_cd1 (jm_up_s _ _ _ _) (by omega), hk_wk_0 _ _, fun q => absurd q (by omega)⟩
    · skip
      refine jm_aload_n C dX6_wear_39 rfl ?_
      refine jm_getr (ci := 6) (f := 5) C rfl jw_u_6 Q.1.1 Q.1.2 rfl (by decide) jw_f_RX6_16 dX6_wear_40 ?_
      refine jm_sipush C dX6_wear_43 (by decide +kernel) ?_
      refine jm_iload_n C dX6_wear_46 rfl ?_
      refine jm_imul C dX6_wear_47 ?_
      refine jm_bipush C dX6_wear_48 (by decide +kernel) ?_
      refine jm_iload_n C dX6_wear_50 rfl ?_
      refine jm_imul C dX6_wear_51 ?_
      refine jm_iadd C dX6_wear_52 ?_
      refine jm_iload_n C dX6_wear_53 rfl ?_
      refine jm_iadd C dX6_wear_54 ?_
      refine jm_ialdv (I 305 (((549 * s) + (61 * x)) + y)) (jm_up_n (Or.inl (by decide))) C (jm_X6_305 Q).1 rfl (jm_X6_305 Q).2 (by omega) (by omega) (by omega) dX6_wear_55 (fun yr7 => ?_)
      refine jm_goto 60 C dX6_wear_56 rfl ?_
      exact hR _ _ _ _ dX6_wear_60 rfl ⟨hk_cd1 (jm_up_s _ _ _ _) (by omega), hk_wk_0 _ _, fun q => rfl⟩
  · skip
    refine jm_iload_n C dX6_wear_8 rfl ?_
    refine jm_iconst C dX6_wear_9 ?_
    refine jm_bipush C dX6_wear_10 (by decide +kernel) ?_
    refine jm_cSd (n := 3) [.ref (w.2.1 300)] C (kX6_in E w I _ _ _ g2 (by decide) (by decide)) jw_m_RX6_90 okX6_in rfl ⟨rfl, rfl⟩ ⟨Nat.le_of_ble_eq_true rfl, Nat.le_of_ble_eq_true rfl⟩ rfl rfl (Nat.le_of_ble_eq_true rfl) dX6_wear_12 ⟨Nat.le_of_ble_eq_true rfl, Nat.le_of_ble_eq_true rfl⟩ (fun yz9 yh8 => ?_)
    refine jm_if_eq 32 C dX6_wear_15 rfl (by omega) (fun yc10 => ?_) (fun yc10 => ?_)
    · skip
      refine jm_iconst C dX6_wear_32 ?_
      refine jm_cVd (n := 1) (ci := 6) [] C (kX6_asked E w I Q _ (by omega)) jw_m_RX6_108 okX6_asked rfl ⟨rfl, rfl⟩ ⟨Nat.le_of_ble_eq_true rfl, Nat.le_of_ble_eq_true rfl⟩ rfl Q.1.1 Q.1.2 rfl rfl (Nat.le_of_ble_eq_true rfl) dX6_wear_33 ⟨Nat.le_of_ble_eq_true rfl, Nat.le_of_ble_eq_true rfl⟩ (fun yz12 yh11 => ?_)
      refine jm_if_eq 59 C dX6_wear_36 rfl (by omega) (fun yc13 => ?_) (fun yc13 => ?_)
      · skip
        refine jm_iconst C dX6_wear_59 ?_
        exact hR _ _ _ _ dX6_wear_60 rfl ⟨hk_cd1 (jm_up_s _ _ _ _) (by omega), hk_wk_0 _ _, fun q => absurd q (by omega)⟩
      · skip
        refine jm_aload_n C dX6_wear_39 rfl ?_
        refine jm_getr (ci := 6) (f := 5) C rfl jw_u_6 Q.1.1 Q.1.2 rfl (by decide) jw_f_RX6_16 dX6_wear_40 ?_
        refine jm_sipush C dX6_wear_43 (by decide +kernel) ?_
        refine jm_iload_n C dX6_wear_46 rfl ?_
        refine jm_imul C dX6_wear_47 ?_
        refine jm_bipush C dX6_wear_48 (by decide +kernel) ?_
        refine jm_iload_n C dX6_wear_50 rfl ?_
        refine jm_imul C dX6_wear_51 ?_
        refine jm_iadd C dX6_wear_52 ?_
        refine jm_iload_n C dX6_wear_53 rfl ?_
        refine jm_iadd C dX6_wear_54 ?_
        refine jm_ialdv (I 305 (((549 * s) + (61 * x)) + y)) (jm_up_n (Or.inl (by decide))) C (jm_X6_305 Q).1 rfl (jm_X6_305 Q).2 (by omega) (by omega) (by omega) dX6_wear_55 (fun yr14 => ?_)
        refine jm_goto 60 C dX6_wear_56 rfl ?_
        exact hR _ _ _ _ dX6_wear_60 rfl ⟨hk_cd1 (jm_up_s _ _ _ _) (by omega), hk_wk_0 _ _, fun q => rfl⟩
    · skip
      refine jm_iload_n C dX6_wear_18 rfl ?_
      refine jm_iconst C dX6_wear_19 ?_
      refine jm_bipush C dX6_wear_20 (by decide +kernel) ?_
      refine jm_cSd (n := 3) [.ref (w.2.1 300)] C (kX6_in E w I _ _ _ g3 (by decide) (by decide)) jw_m_RX6_90 okX6_in rfl ⟨rfl, rfl⟩ ⟨Nat.le_of_ble_eq_true rfl, Nat.le_of_ble_eq_true rfl⟩ rfl rfl (Nat.le_of_ble_eq_true rfl) dX6_wear_22 ⟨Nat.le_of_ble_eq_true rfl, Nat.le_of_ble_eq_true rfl⟩ (fun yz16 yh15 => ?_)
      have yj19 : ∀ (yz18 : Int), ((yz16 = 0 ∧ yz18 = 0) ∨ (¬ (yz16 = 0) ∧ yz18 = 1)) → jm_R yz18 → jm_J E G (0, 0) w I 33 [(0, .ref (w.2.1 300)), (1, jm_v s), (2, jm_v x), (3, jm_v y)] [jm_v yz18, .ref (w.2.1 300)] := by
        intro yz18 ye20 ryz18
        refine jm_cVd (n := 1) (ci := 6) [] C (kX6_asked E w I Q _ (by omega)) jw_m_RX6_108 okX6_asked rfl ⟨rfl, rfl⟩ ⟨Nat.le_of_ble_eq_true rfl, Nat.le_of_ble_eq_true rfl⟩ rfl Q.1.1 Q.1.2 rfl rfl (Nat.le_of_ble_eq_true rfl) dX6_wear_33 ⟨Nat.le_of_ble_eq_true rfl, Nat.le_of_ble_eq_true rfl⟩ (fun yz22 yh21 => ?_)
        refine jm_if_eq 59 C dX6_wear_36 rfl (by omega) (fun yc23 => ?_) (fun yc23 => ?_)
        · skip
          refine jm_iconst C dX6_wear_59 ?_
          exact hR _ _ _ _ dX6_wear_60 rfl ⟨hk_cd1 (jm_up_s _ _ _ _) (by omega), hk_wk_0 _ _, fun q => absurd q (by omega)⟩
        · skip
          refine jm_aload_n C dX6_wear_39 rfl ?_
          refine jm_getr (ci := 6) (f := 5) C rfl jw_u_6 Q.1.1 Q.1.2 rfl (by decide) jw_f_RX6_16 dX6_wear_40 ?_
          refine jm_sipush C dX6_wear_43 (by decide +kernel) ?_
          refine jm_iload_n C dX6_wear_46 rfl ?_
          refine jm_imul C dX6_wear_47 ?_
          refine jm_bipush C dX6_wear_48 (by decide +kernel) ?_
          refine jm_iload_n C dX6_wear_50 rfl ?_
          refine jm_imul C dX6_wear_51 ?_
          refine jm_iadd C dX6_wear_52 ?_
          refine jm_iload_n C dX6_wear_53 rfl ?_
          refine jm_iadd C dX6_wear_54 ?_
          refine jm_ialdv (I 305 (((549 * s) + (61 * x)) + y)) (jm_up_n (Or.inl (by decide))) C (jm_X6_305 Q).1 rfl (jm_X6_305 Q).2 (by omega) (by omega) (by omega) dX6_wear_55 (fun yr24 => ?_)
          refine jm_goto 60 C dX6_wear_56 rfl ?_
          exact hR _ _ _ _ dX6_wear_60 rfl ⟨hk_cd1 (jm_up_s _ _ _ _) (by omega), hk_wk_0 _ _, fun q => rfl⟩
      refine jm_if_eq 32 C dX6_wear_25 rfl (by omega) (fun yc17 => ?_) (fun yc17 => ?_)
      · skip
        refine jm_iconst C dX6_wear_32 ?_
        refine jm_lvs (lv' := [(0, _), (1, _), (2, _), (3, _)]) (jm_sub_c rfl (jm_sub_c rfl (jm_sub_c rfl (jm_sub_c rfl (jm_sub_0 _))))) ?_
        exact yj19 _ (Or.inl ⟨yc17, rfl⟩) (by decide)
      · skip
        refine jm_iconst C dX6_wear_28 ?_
        refine jm_goto 33 C dX6_wear_29 rfl ?_
        refine jm_lvs (lv' := [(0, _), (1, _), (2, _), (3, _)]) (jm_sub_c rfl (jm_sub_c rfl (jm_sub_c rfl (jm_sub_c rfl (jm_sub_0 _))))) ?_
        exact yj19 _ (Or.inr ⟨yc17, rfl⟩) (by decide)
set_option maxRecDepth 100000 in
set_option maxHeartbeats 4000000 in
theorem kX6_ofTeam (E : jm_E) (w : jm_W) (I : jm_M) (Q : jm_X6 E w) (t k : Int) (g1 : jm_R t) (g2 : jm_R k) : jm_Mi E yX6_ofTeam wX6_ofTeam rmX6_ofTeam 0 0 w I [.ref (w.2.1 300), jm_v t, jm_v k] (fun I' z => hk_cd I' (0 ≤ t ∧ t ≤ 5) (0 ≤ k ∧ k ≤ 2) True ∧ hk_wk I I' ∧ ((0 ≤ t ∧ t ≤ 5) → (0 ≤ k ∧ k ≤ 2) → z = if k = 0 then I 321 t else if k = 1 then I 322 t else I 323 t)) := by
  refine jm_in_i (cc := cX6_ofTeam) (maxL := 3) (rt := .int) RX6 (by decide +kernel) rfl rfl (Nat.le_of_ble_eq_true rfl) (by simp [Value.category]) ?_
  intro G C hR hI
  refine jm_aload_n C dX6_ofTeam_0 rfl ?_
  refine jm_iload_n C dX6_ofTeam_1 rfl ?_
  refine jm_cSd (n := 1) [.ref (w.2.1 300)] C (kX6_isTeam E w I _ g1) jw_m_RX6_94 okX6_isTeam rfl ⟨rfl, rfl⟩ ⟨Nat.le_of_ble_eq_true rfl, Nat.le_of_ble_eq_true rfl⟩ rfl rfl (Nat.le_of_ble_eq_true rfl) dX6_ofTeam_2 ⟨Nat.le_of_ble_eq_true rfl, Nat.le_of_ble_eq_true rfl⟩ (fun yz2 yh1 => ?_)
  refine jm_iload_n C dX6_ofTeam_5 rfl ?_
  refine jm_iconst C dX6_ofTeam_6 ?_
  refine jm_iconst C dX6_ofTeam_7 ?_
  refine jm_cSd (n := 3) [jm_v yz2, .ref (w.2.1 300)] C (kX6_in E w I _ _ _ g2 (by decide) (by decide)) jw_m_RX6_90 okX6_in rfl ⟨rfl, rfl⟩ ⟨Nat.le_of_ble_eq_true rfl, Nat.le_of_ble_eq_true rfl⟩ rfl rfl (Nat.le_of_ble_eq_true rfl) dX6_ofTeam_8 ⟨Nat.le_of_ble_eq_true rfl, Nat.le_of_ble_eq_true rfl⟩ (fun yz4 yh3 => ?_)
  refine jm_cVd (n := 2) (ci := 6) [] C (kX6_asked_ E w I Q _ _ (by omega) (by omega)) jw_m_RX6_161 okX6_asked_ rfl ⟨rfl, rfl⟩ ⟨Nat.le_of_ble_eq_true rfl, Nat.le_of_ble_eq_true rfl⟩ rfl Q.1.1 Q.1.2 rfl rfl (Nat.le_of_ble_eq_true rfl) dX6_ofTeam_11 ⟨Nat.le_of_ble_eq_true rfl, Nat.le_of_ble_eq_true rfl⟩ (fun yz6 yh5 => ?_)
  refine jm_if_ne 19 C dX6_ofTeam_14 rfl (by omega) (fun yc7 => ?_) (fun yc7 => ?_)
  · skip
    refine jm_iload_n C dX6_ofTeam_19 rfl ?_
    refine jm_if_ne 32 C dX6_ofTeam_20 rfl g2 (fun yc8 => ?_) (fun yc8 => ?_)
    · skip
      refine jm_iload_n C dX6_ofTeam_32 rfl ?_
      refine jm_iconst C dX6_ofTeam_33 ?_
      refine jm_icmp_ne 46 C dX6_ofTeam_34 rfl g2 (by decide) (fun yc9 => ?_) (fun yc9 => ?_)
      · skip
        refine jm_aload_n C dX6_ofTeam_46 rfl ?_
        refine jm_getr (ci := 6) (f := 23) C rfl jw_u_6 Q.1.1 Q.1.2 rfl (by decide) jw_f_RX6_69 dX6_ofTeam_47 ?_
        refine jm_iload_n C dX6_ofTeam_50 rfl ?_
        refine jm_ialdv (I 323 t) (jm_up_n (Or.inl (by decide))) C (jm_X6_323 Q).1 rfl (jm_X6_323 Q).2 (by omega) (by omega) (by omega) dX6_ofTeam_51 (fun yr10 => ?_)
        exact hR _ _ _ _ dX6_ofTeam_52 rfl ⟨hk_cd2 (jm_up_s _ _ _ _) (by omega) (by omega), hk_wk_0 _ _, fun q1 q2 => by first | rw [if_pos (by omega)] | rw [if_neg (by omega), if_pos (by omega)] | rw [if_neg (by omega), if_neg (by omega)]⟩
      · skip
        refine jm_aload_n C dX6_ofTeam_37 rfl ?_
        refine jm_getr (ci := 6) (f := 22) C rfl jw_u_6 Q.1.1 Q.1.2 rfl (by decide) jw_f_RX6_66 dX6_ofTeam_38 ?_
        refine jm_iload_n C dX6_ofTeam_41 rfl ?_
        refine jm_ialdv (I 322 t) (jm_up_n (Or.inl (by decide))) C (jm_X6_322 Q).1 rfl (jm_X6_322 Q).2 (by omega) (by omega) (by omega) dX6_ofTeam_42 (fun yr11 => ?_)
        refine jm_goto 52 C dX6_ofTeam_43 rfl ?_
        exact hR _ _ _ _ dX6_ofTeam_52 rfl ⟨hk_cd2 (jm_up_s _ _ _ _) (by omega) (by omega), hk_wk_0 _ _, fun q1 q2 => by first | rw [if_pos (by omega)] | rw [if_neg (by omega), if_pos (by omega)] | rw [if_neg (by omega), if_neg (by omega)]⟩
    · skip
      refine jm_aload_n C dX6_ofTeam_23 rfl ?_
      refine jm_getr (ci := 6) (f := 21) C rfl jw_u_6 Q.1.1 Q.1.2 rfl (by decide) jw_f_RX6_63 dX6_ofTeam_24 ?_
      refine jm_iload_n C dX6_ofTeam_27 rfl ?_
      refine jm_ialdv (I 321 t) (jm_up_n (Or.inl (by decide))) C (jm_X6_321 Q).1 rfl (jm_X6_321 Q).2 (by omega) (by omega) (by omega) dX6_ofTeam_28 (fun yr12 => ?_)
      refine jm_goto 52 C dX6_ofTeam_29 rfl ?_
      exact hR _ _ _ _ dX6_ofTeam_52 rfl ⟨hk_cd2 (jm_up_s _ _ _ _) (by omega) (by omega), hk_wk_0 _ _, fun q1 q2 => by first | rw [if_pos (by omega)] | rw [if_neg (by omega), if_pos (by omega)] | rw [if_neg (by omega), if_neg (by omega)]⟩
  · skip
    refine jm_iconst C dX6_ofTeam_17 ?_
    exact hR _ _ _ _ dX6_ofTeam_18 rfl ⟨hk_cd2 (jm_up_s _ _ _ _) (by omega) (by omega), hk_wk_0 _ _, fun q1 q2 => absurd q1 (by omega)⟩
set_option maxRecDepth 100000 in
set_option maxHeartbeats 4000000 in
theorem kX6_stone (E : jm_E) (w : jm_W) (I : jm_M) (Q : jm_X6 E w) (hg8 : 0 ≤ I 300 8 ∧ I 300 8 ≤ 12) (g t k : Int) (g1 : jm_R g) (g2 : jm_R t) (g3 : jm_R k) : jm_Mi E yX6_stone wX6_stone rmX6_stone 0 0 w I [.ref (w.2.1 300), jm_v g, jm_v t, jm_v k] (fun I' z => hk_cd I' ((0 ≤ g ∧ g < I 300 8) ∧ (0 ≤ t ∧ t ≤ 1) ∧ (0 ≤ k ∧ k ≤ 2)) True True ∧ hk_wk I I' ∧ (((0 ≤ g ∧ g < I 300 8) ∧ (0 ≤ t ∧ t ≤ 1) ∧ (0 ≤ k ∧ k ≤ 2)) → z = I 320 (6 * g + 3 * t + k))) := by
  refine jm_in_i (cc := cX6_stone) (maxL := 4) (rt := .int) RX6 (by decide +kernel) rfl rfl (Nat.le_of_ble_eq_true rfl) (by simp [Value.category]) ?_
  intro G C hR hI
  refine jm_aload_n C dX6_stone_0 rfl ?_
  refine jm_aload_n C dX6_stone_1 rfl ?_
  refine jm_iload_n C dX6_stone_2 rfl ?_
  refine jm_cVd (n := 1) (ci := 6) [.ref (w.2.1 300)] C (kX6_isGame E w I Q _ g1 hg8) jw_m_RX6_126 okX6_isGame rfl ⟨rfl, rfl⟩ ⟨Nat.le_of_ble_eq_true rfl, Nat.le_of_ble_eq_true rfl⟩ rfl Q.1.1 Q.1.2 rfl rfl (Nat.le_of_ble_eq_true rfl) dX6_stone_3 ⟨Nat.le_of_ble_eq_true rfl, Nat.le_of_ble_eq_true rfl⟩ (fun yz2 yh1 => ?_)
  refine jm_if_eq 31 C dX6_stone_6 rfl (by omega) (fun yc3 => ?_) (fun yc3 => ?_)
  · skip
    refine jm_iconst C dX6_stone_31 ?_
    refine jm_cVd (n := 1) (ci := 6) [] C (kX6_asked E w I Q _ (by omega)) jw_m_RX6_108 okX6_asked rfl ⟨rfl, rfl⟩ ⟨Nat.le_of_ble_eq_true rfl, Nat.le_of_ble_eq_true rfl⟩ rfl Q.1.1 Q.1.2 rfl rfl (Nat.le_of_ble_eq_true rfl) dX6_stone_32 ⟨Nat.le_of_ble_eq_true rfl, Nat.le_of_ble_eq_true rfl⟩ (fun yz5 yh4 => ?_)
    refine jm_if_eq 56 C dX6_stone_35 rfl (by omega) (fun yc6 => ?_) (fun yc6 => ?_)
    · skip
      refine jm_iconst C dX6_stone_56 ?_
      exact hR _ _ _ _ dX6_stone_57 rfl ⟨hk_cd1 (jm_up_s _ _ _ _) (by omega), hk_wk_0 _ _, fun q => absurd q (by omega)⟩
    · skip
      refine jm_aload_n C dX6_stone_38 rfl ?_
      refine jm_getr (ci := 6) (f := 20) C rfl jw_u_6 Q.1.1 Q.1.2 rfl (by decide) jw_f_RX6_60 dX6_stone_39 ?_
      refine jm_bipush C dX6_stone_42 (by decide +kernel) ?_
      refine jm_iload_n C dX6_stone_44 rfl ?_
      refine jm_imul C dX6_stone_45 ?_
      refine jm_iconst C dX6_stone_46 ?_
      refine jm_iload_n C dX6_stone_47 rfl ?_
      refine jm_imul C dX6_stone_48 ?_
      refine jm_iadd C dX6_stone_49 ?_
      refine jm_iload_n C dX6_stone_50 rfl ?_
      refine jm_iadd C dX6_stone_51 ?_
      refine jm_ialdv (I 320 (((6 * g) + (3 * t)) + k)) (jm_up_n (Or.inl (by decide))) C (jm_X6_320 Q).1 rfl (jm_X6_320 Q).2 (by omega) (by omega) (by omega) dX6_stone_52 (fun yr7 => ?_)
      refine jm_goto 57 C dX6_stone_53 rfl ?_
      exact hR _ _ _ _ dX6_stone_57 rfl ⟨hk_cd1 (jm_up_s _ _ _ _) (by omega), hk_wk_0 _ _, fun q => rfl⟩
  · skip
    refine jm_iload_n C dX6_stone_9 rfl ?_
    refine jm_iconst C dX6_stone_10 ?_
    refine jm_iconst C dX6_stone_11 ?_
    refine jm_cSd (n := 3) [.ref (w.2.1 300)] C (kX6_in E w I _ _ _ g2 (by decide) (by decide)) jw_m_RX6_90 okX6_in rfl ⟨rfl, rfl⟩ ⟨Nat.le_of_ble_eq_true rfl, Nat.le_of_ble_eq_true rfl⟩ rfl rfl (Nat.le_of_ble_eq_true rfl) dX6_stone_12 ⟨Nat.le_of_ble_eq_true rfl, Nat.le_of_ble_eq_true rfl⟩ (fun yz9 yh8 => ?_)
    refine jm_if_eq 31 C dX6_stone_15 rfl (by omega) (fun yc10 => ?_) (fun yc10 => ?_)
    · skip
      refine jm_iconst C dX6_stone_31 ?_
      refine jm_cVd (n := 1) (ci := 6) [] C (kX6_asked E w I Q _ (by omega)) jw_m_RX6_108 okX6_asked rfl ⟨rfl, rfl⟩ ⟨Nat.le_of_ble_eq_true rfl, Nat.le_of_ble_eq_true rfl⟩ rfl Q.1.1 Q.1.2 rfl rfl (Nat.le_of_ble_eq_true rfl) dX6_stone_32 ⟨Nat.le_of_ble_eq_true rfl, Nat.le_of_ble_eq_true rfl⟩ (fun yz12 yh11 => ?_)
      refine jm_if_eq 56 C dX6_stone_35 rfl (by omega) (fun yc13 => ?_) (fun yc13 => ?_)
      · skip
        refine jm_iconst C dX6_stone_56 ?_
        exact hR _ _ _ _ dX6_stone_57 rfl ⟨hk_cd1 (jm_up_s _ _ _ _) (by omega), hk_wk_0 _ _, fun q => absurd q (by omega)⟩
      · skip
        refine jm_aload_n C dX6_stone_38 rfl ?_
        refine jm_getr (ci := 6) (f := 20) C rfl jw_u_6 Q.1.1 Q.1.2 rfl (by decide) jw_f_RX6_60 dX6_stone_39 ?_
        refine jm_bipush C dX6_stone_42 (by decide +kernel) ?_
        refine jm_iload_n C dX6_stone_44 rfl ?_
        refine jm_imul C dX6_stone_45 ?_
        refine jm_iconst C dX6_stone_46 ?_
        refine jm_iload_n C dX6_stone_47 rfl ?_
        refine jm_imul C dX6_stone_48 ?_
        refine jm_iadd C dX6_stone_49 ?_
        refine jm_iload_n C dX6_stone_50 rfl ?_
        refine jm_iadd C dX6_stone_51 ?_
        refine jm_ialdv (I 320 (((6 * g) + (3 * t)) + k)) (jm_up_n (Or.inl (by decide))) C (jm_X6_320 Q).1 rfl (jm_X6_320 Q).2 (by omega) (by omega) (by omega) dX6_stone_52 (fun yr14 => ?_)
        refine jm_goto 57 C dX6_stone_53 rfl ?_
        exact hR _ _ _ _ dX6_stone_57 rfl ⟨hk_cd1 (jm_up_s _ _ _ _) (by omega), hk_wk_0 _ _, fun q => rfl⟩
    · skip
      refine jm_iload_n C dX6_stone_18 rfl ?_
      refine jm_iconst C dX6_stone_19 ?_
      refine jm_iconst C dX6_stone_20 ?_
      refine jm_cSd (n := 3) [.ref (w.2.1 300)] C (kX6_in E w I _ _ _ g3 (by decide) (by decide)) jw_m_RX6_90 okX6_in rfl ⟨rfl, rfl⟩ ⟨Nat.le_of_ble_eq_true rfl, Nat.le_of_ble_eq_true rfl⟩ rfl rfl (Nat.le_of_ble_eq_true rfl) dX6_stone_21 ⟨Nat.le_of_ble_eq_true rfl, Nat.le_of_ble_eq_true rfl⟩ (fun yz16 yh15 => ?_)
      have yj19 : ∀ (yz18 : Int), ((yz16 = 0 ∧ yz18 = 0) ∨ (¬ (yz16 = 0) ∧ yz18 = 1)) → jm_R yz18 → jm_J E G (0, 0) w I 32 [(0, .ref (w.2.1 300)), (1, jm_v g), (2, jm_v t), (3, jm_v k)] [jm_v yz18, .ref (w.2.1 300)] := by
        intro yz18 ye20 ryz18
        refine jm_cVd (n := 1) (ci := 6) [] C (kX6_asked E w I Q _ (by omega)) jw_m_RX6_108 okX6_asked rfl ⟨rfl, rfl⟩ ⟨Nat.le_of_ble_eq_true rfl, Nat.le_of_ble_eq_true rfl⟩ rfl Q.1.1 Q.1.2 rfl rfl (Nat.le_of_ble_eq_true rfl) dX6_stone_32 ⟨Nat.le_of_ble_eq_true rfl, Nat.le_of_ble_eq_true rfl⟩ (fun yz22 yh21 => ?_)
        refine jm_if_eq 56 C dX6_stone_35 rfl (by omega) (fun yc23 => ?_) (fun yc23 => ?_)
        · skip
          refine jm_iconst C dX6_stone_56 ?_
          exact hR _ _ _ _ dX6_stone_57 rfl ⟨hk_cd1 (jm_up_s _ _ _ _) (by omega), hk_wk_0 _ _, fun q => absurd q (by omega)⟩
        · skip
          refine jm_aload_n C dX6_stone_38 rfl ?_
          refine jm_getr (ci := 6) (f := 20) C rfl jw_u_6 Q.1.1 Q.1.2 rfl (by decide) jw_f_RX6_60 dX6_stone_39 ?_
          refine jm_bipush C dX6_stone_42 (by decide +kernel) ?_
          refine jm_iload_n C dX6_stone_44 rfl ?_
          refine jm_imul C dX6_stone_45 ?_
          refine jm_iconst C dX6_stone_46 ?_
          refine jm_iload_n C dX6_stone_47 rfl ?_
          refine jm_imul C dX6_stone_48 ?_
          refine jm_iadd C dX6_stone_49 ?_
          refine jm_iload_n C dX6_stone_50 rfl ?_
          refine jm_iadd C dX6_stone_51 ?_
          refine jm_ialdv (I 320 (((6 * g) + (3 * t)) + k)) (jm_up_n (Or.inl (by decide))) C (jm_X6_320 Q).1 rfl (jm_X6_320 Q).2 (by omega) (by omega) (by omega) dX6_stone_52 (fun yr24 => ?_)
          refine jm_goto 57 C dX6_stone_53 rfl ?_
          exact hR _ _ _ _ dX6_stone_57 rfl ⟨hk_cd1 (jm_up_s _ _ _ _) (by omega), hk_wk_0 _ _, fun q => rfl⟩
      refine jm_if_eq 31 C dX6_stone_24 rfl (by omega) (fun yc17 => ?_) (fun yc17 => ?_)
      · skip
        refine jm_iconst C dX6_stone_31 ?_
        refine jm_lvs (lv' := [(0, _), (1, _), (2, _), (3, _)]) (jm_sub_c rfl (jm_sub_c rfl (jm_sub_c rfl (jm_sub_c rfl (jm_sub_0 _))))) ?_
        exact yj19 _ (Or.inl ⟨yc17, rfl⟩) (by decide)
      · skip
        refine jm_iconst C dX6_stone_27 ?_
        refine jm_goto 32 C dX6_stone_28 rfl ?_
        refine jm_lvs (lv' := [(0, _), (1, _), (2, _), (3, _)]) (jm_sub_c rfl (jm_sub_c rfl (jm_sub_c rfl (jm_sub_c rfl (jm_sub_0 _))))) ?_
        exact yj19 _ (Or.inr ⟨yc17, rfl⟩) (by decide)
set_option maxRecDepth 100000 in
set_option maxHeartbeats 4000000 in
theorem kX6_ofGame (E : jm_E) (w : jm_W) (I : jm_M) (Q : jm_X6 E w) (hg8 : 0 ≤ I 300 8 ∧ I 300 8 ≤ 12) (g k : Int) (g1 : jm_R g) (g2 : jm_R k) : jm_Mi E yX6_ofGame wX6_ofGame rmX6_ofGame 0 0 w I [.ref (w.2.1 300), jm_v g, jm_v k] (fun I' z => hk_cd I' (0 ≤ g ∧ g < I 300 8) (0 ≤ k ∧ k ≤ 7) True ∧ hk_wk I I' ∧ ((0 ≤ g ∧ g < I 300 8) → (0 ≤ k ∧ k ≤ 7) → z = if k = 0 then I 309 g else if k = 1 then I 312 g else if k = 2 then I 314 g else if k < 5 then I 315 (2 * g + k - 3) else if k = 5 then I 316 g else if k = 6 then hk_mturn I g else if I 309 g = 2 then I 318 g else -1)) := by
  refine jm_in_i (cc := cX6_ofGame) (maxL := 3) (rt := .int) RX6 (by decide +kernel) rfl rfl (Nat.le_of_ble_eq_true rfl) (by simp [Value.category]) ?_
  intro G C hR hI
  refine jm_aload_n C dX6_ofGame_0 rfl ?_
  refine jm_aload_n C dX6_ofGame_1 rfl ?_
  refine jm_iload_n C dX6_ofGame_2 rfl ?_
  refine jm_cVd (n := 1) (ci := 6) [.ref (w.2.1 300)] C (kX6_isGame E w I Q _ g1 hg8) jw_m_RX6_126 okX6_isGame rfl ⟨rfl, rfl⟩ ⟨Nat.le_of_ble_eq_true rfl, Nat.le_of_ble_eq_true rfl⟩ rfl Q.1.1 Q.1.2 rfl rfl (Nat.le_of_ble_eq_true rfl) dX6_ofGame_3 ⟨Nat.le_of_ble_eq_true rfl, Nat.le_of_ble_eq_true rfl⟩ (fun yz2 yh1 => ?_)
  refine jm_iload_n C dX6_ofGame_6 rfl ?_
  refine jm_iconst C dX6_ofGame_7 ?_
  refine jm_bipush C dX6_ofGame_8 (by decide +kernel) ?_
  refine jm_cSd (n := 3) [jm_v yz2, .ref (w.2.1 300)] C (kX6_in E w I _ _ _ g2 (by decide) (by decide)) jw_m_RX6_90 okX6_in rfl ⟨rfl, rfl⟩ ⟨Nat.le_of_ble_eq_true rfl, Nat.le_of_ble_eq_true rfl⟩ rfl rfl (Nat.le_of_ble_eq_true rfl) dX6_ofGame_10 ⟨Nat.le_of_ble_eq_true rfl, Nat.le_of_ble_eq_true rfl⟩ (fun yz4 yh3 => ?_)
  refine jm_cVd (n := 2) (ci := 6) [] C (kX6_asked_ E w I Q _ _ (by omega) (by omega)) jw_m_RX6_161 okX6_asked_ rfl ⟨rfl, rfl⟩ ⟨Nat.le_of_ble_eq_true rfl, Nat.le_of_ble_eq_true rfl⟩ rfl Q.1.1 Q.1.2 rfl rfl (Nat.le_of_ble_eq_true rfl) dX6_ofGame_13 ⟨Nat.le_of_ble_eq_true rfl, Nat.le_of_ble_eq_true rfl⟩ (fun yz6 yh5 => ?_)
  refine jm_if_ne 21 C dX6_ofGame_16 rfl (by omega) (fun yc7 => ?_) (fun yc7 => ?_)
  · skip
    refine jm_iload_n C dX6_ofGame_21 rfl ?_
    refine jm_if_ne 34 C dX6_ofGame_22 rfl g2 (fun yc8 => ?_) (fun yc8 => ?_)
    · skip
      refine jm_iload_n C dX6_ofGame_34 rfl ?_
      refine jm_iconst C dX6_ofGame_35 ?_
      refine jm_icmp_ne 48 C dX6_ofGame_36 rfl g2 (by decide) (fun yc9 => ?_) (fun yc9 => ?_)
      · skip
        refine jm_iload_n C dX6_ofGame_48 rfl ?_
        refine jm_iconst C dX6_ofGame_49 ?_
        refine jm_icmp_ne 62 C dX6_ofGame_50 rfl g2 (by decide) (fun yc10 => ?_) (fun yc10 => ?_)
        · skip
          refine jm_iload_n C dX6_ofGame_62 rfl ?_
          refine jm_iconst C dX6_ofGame_63 ?_
          refine jm_icmp_ge 82 C dX6_ofGame_64 rfl g2 (by decide) (fun yc11 => ?_) (fun yc11 => ?_)
          · skip
            refine jm_iload_n C dX6_ofGame_82 rfl ?_
            refine jm_iconst C dX6_ofGame_83 ?_
            refine jm_icmp_ne 96 C dX6_ofGame_84 rfl g2 (by decide) (fun yc12 => ?_) (fun yc12 => ?_)
            · skip
              refine jm_iload_n C dX6_ofGame_96 rfl ?_
              refine jm_bipush C dX6_ofGame_97 (by decide +kernel) ?_
              refine jm_icmp_ne 110 C dX6_ofGame_99 rfl g2 (by decide) (fun yc13 => ?_) (fun yc13 => ?_)
              · skip
                refine jm_aload_n C dX6_ofGame_110 rfl ?_
                refine jm_getr (ci := 6) (f := 9) C rfl jw_u_6 Q.1.1 Q.1.2 rfl (by decide) jw_f_RX6_27 dX6_ofGame_111 ?_
                refine jm_iload_n C dX6_ofGame_114 rfl ?_
                refine jm_ialdv (I 309 g) (jm_up_n (Or.inl (by decide))) C (jm_X6_309 Q).1 rfl (jm_X6_309 Q).2 (by omega) (by omega) (by omega) dX6_ofGame_115 (fun yr14 => ?_)
                refine jm_iconst C dX6_ofGame_116 ?_
                refine jm_icmp_ne 129 C dX6_ofGame_117 rfl (by omega) (by decide) (fun yc15 => ?_) (fun yc15 => ?_)
                · skip
                  refine jm_iconst C dX6_ofGame_129 ?_
                  exact hR _ _ _ _ dX6_ofGame_130 rfl ⟨hk_cd2 (jm_up_s _ _ _ _) (by omega) (by omega), hk_wk_0 _ _, fun q1 q2 => by first | rw [if_pos (by omega)] | rw [if_neg (by omega), if_pos (by omega)] | rw [if_neg (by omega), if_neg (by omega), if_pos (by omega)] | rw [if_neg (by omega), if_neg (by omega), if_neg (by omega), if_pos (by omega)] | rw [if_neg (by omega), if_neg (by omega), if_neg (by omega), if_neg (by omega), if_pos (by omega)] | rw [if_neg (by omega), if_neg (by omega), if_neg (by omega), if_neg (by omega), if_neg (by omega), if_pos (by omega)] | rw [if_neg (by omega), if_neg (by omega), if_neg (by omega), if_neg (by omega), if_neg (by omega), if_neg (by omega), if_pos (by omega)] | rw [if_neg (by omega), if_neg (by omega), if_neg (by omega), if_neg (by omega), if_neg (by omega), if_neg (by omega), if_neg (by omega)]⟩
                · skip
                  refine jm_aload_n C dX6_ofGame_120 rfl ?_
                  refine jm_getr (ci := 6) (f := 18) C rfl jw_u_6 Q.1.1 Q.1.2 rfl (by decide) jw_f_RX6_54 dX6_ofGame_121 ?_
                  refine jm_iload_n C dX6_ofGame_124 rfl ?_
                  refine jm_ialdv (I 318 g) (jm_up_n (Or.inl (by decide))) C (jm_X6_318 Q).1 rfl (jm_X6_318 Q).2 (by omega) (by omega) (by omega) dX6_ofGame_125 (fun yr16 => ?_)
                  refine jm_goto 130 C dX6_ofGame_126 rfl ?_
                  exact hR _ _ _ _ dX6_ofGame_130 rfl ⟨hk_cd2 (jm_up_s _ _ _ _) (by omega) (by omega), hk_wk_0 _ _, fun q1 q2 => by first | rw [if_pos (by omega)] | rw [if_neg (by omega), if_pos (by omega)] | rw [if_neg (by omega), if_neg (by omega), if_pos (by omega)] | rw [if_neg (by omega), if_neg (by omega), if_neg (by omega), if_pos (by omega)] | rw [if_neg (by omega), if_neg (by omega), if_neg (by omega), if_neg (by omega), if_pos (by omega)] | rw [if_neg (by omega), if_neg (by omega), if_neg (by omega), if_neg (by omega), if_neg (by omega), if_pos (by omega)] | rw [if_neg (by omega), if_neg (by omega), if_neg (by omega), if_neg (by omega), if_neg (by omega), if_neg (by omega), if_pos (by omega)] | rw [if_neg (by omega), if_neg (by omega), if_neg (by omega), if_neg (by omega), if_neg (by omega), if_neg (by omega), if_neg (by omega)]⟩
              · skip
                refine jm_aload_n C dX6_ofGame_102 rfl ?_
                refine jm_iload_n C dX6_ofGame_103 rfl ?_
                refine jm_cVd (n := 1) (ci := 6) [] C (kX6_turnOf E w (jm_up I 300 0 (if (yz2 : Int) = 0 then 1 else if (yz4 : Int) = 0 then 2 else 0)) Q _ (by omega)) jw_m_RX6_119 okX6_turnOf rfl ⟨rfl, rfl⟩ ⟨Nat.le_of_ble_eq_true rfl, Nat.le_of_ble_eq_true rfl⟩ rfl Q.1.1 Q.1.2 rfl rfl (Nat.le_of_ble_eq_true rfl) dX6_ofGame_104 ⟨Nat.le_of_ble_eq_true rfl, Nat.le_of_ble_eq_true rfl⟩ (fun yz18 yh17 => ?_)
                rw [show hk_mturn (jm_up I 300 0 (if (yz2 : Int) = 0 then 1 else if (yz4 : Int) = 0 then 2 else 0)) g = hk_mturn I g from rfl] at yh17
                subst yh17
                refine jm_goto 130 C dX6_ofGame_107 rfl ?_
                exact hR _ _ _ _ dX6_ofGame_130 rfl ⟨hk_cd2 (jm_up_s _ _ _ _) (by omega) (by omega), hk_wk_0 _ _, fun q1 q2 => by first | rw [if_pos (by omega)] | rw [if_neg (by omega), if_pos (by omega)] | rw [if_neg (by omega), if_neg (by omega), if_pos (by omega)] | rw [if_neg (by omega), if_neg (by omega), if_neg (by omega), if_pos (by omega)] | rw [if_neg (by omega), if_neg (by omega), if_neg (by omega), if_neg (by omega), if_pos (by omega)] | rw [if_neg (by omega), if_neg (by omega), if_neg (by omega), if_neg (by omega), if_neg (by omega), if_pos (by omega)] | rw [if_neg (by omega), if_neg (by omega), if_neg (by omega), if_neg (by omega), if_neg (by omega), if_neg (by omega), if_pos (by omega)] | rw [if_neg (by omega), if_neg (by omega), if_neg (by omega), if_neg (by omega), if_neg (by omega), if_neg (by omega), if_neg (by omega)]⟩
            · skip
              refine jm_aload_n C dX6_ofGame_87 rfl ?_
              refine jm_getr (ci := 6) (f := 16) C rfl jw_u_6 Q.1.1 Q.1.2 rfl (by decide) jw_f_RX6_48 dX6_ofGame_88 ?_
              refine jm_iload_n C dX6_ofGame_91 rfl ?_
              refine jm_ialdv (I 316 g) (jm_up_n (Or.inl (by decide))) C (jm_X6_316 Q).1 rfl (jm_X6_316 Q).2 (by omega) (by omega) (by omega) dX6_ofGame_92 (fun yr19 => ?_)
              refine jm_goto 130 C dX6_ofGame_93 rfl ?_
              exact hR _ _ _ _ dX6_ofGame_130 rfl ⟨hk_cd2 (jm_up_s _ _ _ _) (by omega) (by omega), hk_wk_0 _ _, fun q1 q2 => by first | rw [if_pos (by omega)] | rw [if_neg (by omega), if_pos (by omega)] | rw [if_neg (by omega), if_neg (by omega), if_pos (by omega)] | rw [if_neg (by omega), if_neg (by omega), if_neg (by omega), if_pos (by omega)] | rw [if_neg (by omega), if_neg (by omega), if_neg (by omega), if_neg (by omega), if_pos (by omega)] | rw [if_neg (by omega), if_neg (by omega), if_neg (by omega), if_neg (by omega), if_neg (by omega), if_pos (by omega)] | rw [if_neg (by omega), if_neg (by omega), if_neg (by omega), if_neg (by omega), if_neg (by omega), if_neg (by omega), if_pos (by omega)] | rw [if_neg (by omega), if_neg (by omega), if_neg (by omega), if_neg (by omega), if_neg (by omega), if_neg (by omega), if_neg (by omega)]⟩
          · skip
            refine jm_aload_n C dX6_ofGame_67 rfl ?_
            refine jm_getr (ci := 6) (f := 15) C rfl jw_u_6 Q.1.1 Q.1.2 rfl (by decide) jw_f_RX6_45 dX6_ofGame_68 ?_
            refine jm_iconst C dX6_ofGame_71 ?_
            refine jm_iload_n C dX6_ofGame_72 rfl ?_
            refine jm_imul C dX6_ofGame_73 ?_
            refine jm_iload_n C dX6_ofGame_74 rfl ?_
            refine jm_iadd C dX6_ofGame_75 ?_
            refine jm_iconst C dX6_ofGame_76 ?_
            refine jm_isub C dX6_ofGame_77 ?_
            refine jm_ialdv (I 315 (((2 * g) + k) - 3)) (jm_up_n (Or.inl (by decide))) C (jm_X6_315 Q).1 rfl (jm_X6_315 Q).2 (by omega) (by omega) (by omega) dX6_ofGame_78 (fun yr20 => ?_)
            refine jm_goto 130 C dX6_ofGame_79 rfl ?_
            exact hR _ _ _ _ dX6_ofGame_130 rfl ⟨hk_cd2 (jm_up_s _ _ _ _) (by omega) (by omega), hk_wk_0 _ _, fun q1 q2 => by first | rw [if_pos (by omega)] | rw [if_neg (by omega), if_pos (by omega)] | rw [if_neg (by omega), if_neg (by omega), if_pos (by omega)] | rw [if_neg (by omega), if_neg (by omega), if_neg (by omega), if_pos (by omega)] | rw [if_neg (by omega), if_neg (by omega), if_neg (by omega), if_neg (by omega), if_pos (by omega)] | rw [if_neg (by omega), if_neg (by omega), if_neg (by omega), if_neg (by omega), if_neg (by omega), if_pos (by omega)] | rw [if_neg (by omega), if_neg (by omega), if_neg (by omega), if_neg (by omega), if_neg (by omega), if_neg (by omega), if_pos (by omega)] | rw [if_neg (by omega), if_neg (by omega), if_neg (by omega), if_neg (by omega), if_neg (by omega), if_neg (by omega), if_neg (by omega)]⟩
        · skip
          refine jm_aload_n C dX6_ofGame_53 rfl ?_
          refine jm_getr (ci := 6) (f := 14) C rfl jw_u_6 Q.1.1 Q.1.2 rfl (by decide) jw_f_RX6_42 dX6_ofGame_54 ?_
          refine jm_iload_n C dX6_ofGame_57 rfl ?_
          refine jm_ialdv (I 314 g) (jm_up_n (Or.inl (by decide))) C (jm_X6_314 Q).1 rfl (jm_X6_314 Q).2 (by omega) (by omega) (by omega) dX6_ofGame_58 (fun yr21 => ?_)
          refine jm_goto 130 C dX6_ofGame_59 rfl ?_
          exact hR _ _ _ _ dX6_ofGame_130 rfl ⟨hk_cd2 (jm_up_s _ _ _ _) (by omega) (by omega), hk_wk_0 _ _, fun q1 q2 => by first | rw [if_pos (by omega)] | rw [if_neg (by omega), if_pos (by omega)] | rw [if_neg (by omega), if_neg (by omega), if_pos (by omega)] | rw [if_neg (by omega), if_neg (by omega), if_neg (by omega), if_pos (by omega)] | rw [if_neg (by omega), if_neg (by omega), if_neg (by omega), if_neg (by omega), if_pos (by omega)] | rw [if_neg (by omega), if_neg (by omega), if_neg (by omega), if_neg (by omega), if_neg (by omega), if_pos (by omega)] | rw [if_neg (by omega), if_neg (by omega), if_neg (by omega), if_neg (by omega), if_neg (by omega), if_neg (by omega), if_pos (by omega)] | rw [if_neg (by omega), if_neg (by omega), if_neg (by omega), if_neg (by omega), if_neg (by omega), if_neg (by omega), if_neg (by omega)]⟩
      · skip
        refine jm_aload_n C dX6_ofGame_39 rfl ?_
        refine jm_getr (ci := 6) (f := 12) C rfl jw_u_6 Q.1.1 Q.1.2 rfl (by decide) jw_f_RX6_36 dX6_ofGame_40 ?_
        refine jm_iload_n C dX6_ofGame_43 rfl ?_
        refine jm_ialdv (I 312 g) (jm_up_n (Or.inl (by decide))) C (jm_X6_312 Q).1 rfl (jm_X6_312 Q).2 (by omega) (by omega) (by omega) dX6_ofGame_44 (fun yr22 => ?_)
        refine jm_goto 130 C dX6_ofGame_45 rfl ?_
        exact hR _ _ _ _ dX6_ofGame_130 rfl ⟨hk_cd2 (jm_up_s _ _ _ _) (by omega) (by omega), hk_wk_0 _ _, fun q1 q2 => by first | rw [if_pos (by omega)] | rw [if_neg (by omega), if_pos (by omega)] | rw [if_neg (by omega), if_neg (by omega), if_pos (by omega)] | rw [if_neg (by omega), if_neg (by omega), if_neg (by omega), if_pos (by omega)] | rw [if_neg (by omega), if_neg (by omega), if_neg (by omega), if_neg (by omega), if_pos (by omega)] | rw [if_neg (by omega), if_neg (by omega), if_neg (by omega), if_neg (by omega), if_neg (by omega), if_pos (by omega)] | rw [if_neg (by omega), if_neg (by omega), if_neg (by omega), if_neg (by omega), if_neg (by omega), if_neg (by omega), if_pos (by omega)] | rw [if_neg (by omega), if_neg (by omega), if_neg (by omega), if_neg (by omega), if_neg (by omega), if_neg (by omega), if_neg (by omega)]⟩
    · skip
      refine jm_aload_n C dX6_ofGame_25 rfl ?_
      refine jm_getr (ci := 6) (f := 9) C rfl jw_u_6 Q.1.1 Q.1.2 rfl (by decide) jw_f_RX6_27 dX6_ofGame_26 ?_
      refine jm_iload_n C dX6_ofGame_29 rfl ?_
      refine jm_ialdv (I 309 g) (jm_up_n (Or.inl (by decide))) C (jm_X6_309 Q).1 rfl (jm_X6_309 Q).2 (by omega) (by omega) (by omega) dX6_ofGame_30 (fun yr23 => ?_)
      refine jm_goto 130 C dX6_ofGame_31 rfl ?_
      exact hR _ _ _ _ dX6_ofGame_130 rfl ⟨hk_cd2 (jm_up_s _ _ _ _) (by omega) (by omega), hk_wk_0 _ _, fun q1 q2 => by first | rw [if_pos (by omega)] | rw [if_neg (by omega), if_pos (by omega)] | rw [if_neg (by omega), if_neg (by omega), if_pos (by omega)] | rw [if_neg (by omega), if_neg (by omega), if_neg (by omega), if_pos (by omega)] | rw [if_neg (by omega), if_neg (by omega), if_neg (by omega), if_neg (by omega), if_pos (by omega)] | rw [if_neg (by omega), if_neg (by omega), if_neg (by omega), if_neg (by omega), if_neg (by omega), if_pos (by omega)] | rw [if_neg (by omega), if_neg (by omega), if_neg (by omega), if_neg (by omega), if_neg (by omega), if_neg (by omega), if_pos (by omega)] | rw [if_neg (by omega), if_neg (by omega), if_neg (by omega), if_neg (by omega), if_neg (by omega), if_neg (by omega), if_neg (by omega)]⟩
  · skip
    refine jm_iconst C dX6_ofGame_19 ?_
    exact hR _ _ _ _ dX6_ofGame_20 rfl ⟨hk_cd2 (jm_up_s _ _ _ _) (by omega) (by omega), hk_wk_0 _ _, fun q1 q2 => absurd q1 (by omega)⟩
set_option maxRecDepth 100000 in
set_option maxHeartbeats 4000000 in
theorem kX6_ofSheet (E : jm_E) (w : jm_W) (I : jm_M) (Q : jm_X6 E w) (s k : Int) (g1 : jm_R s) (g2 : jm_R k) (hwr : ∀ c, 0 ≤ I 305 c ∧ I 305 c ≤ 9) : jm_Mi E yX6_ofSheet wX6_ofSheet rmX6_ofSheet 0 0 w I [.ref (w.2.1 300), jm_v s, jm_v k] (fun I' z => hk_cd I' (0 ≤ s ∧ s ≤ 2) (0 ≤ k ∧ k ≤ 3) True ∧ hk_wk I I' ∧ ((0 ≤ s ∧ s ≤ 2) → (0 ≤ k ∧ k ≤ 3) → z = if k = 0 then (if I 306 s = 0 then 1 else 0) else if k = 1 then I 307 s else if k = 2 then hk_sumo (I 305) (549 * s) 549 else if I 300 3 = s then I 300 4 else 0)) := by
  refine jm_in_i (cc := cX6_ofSheet) (maxL := 5) (rt := .int) RX6 (by decide +kernel) rfl rfl (Nat.le_of_ble_eq_true rfl) (by simp [Value.category]) ?_
  intro G C hR hI
  refine jm_aload_n C dX6_ofSheet_0 rfl ?_
  refine jm_iload_n C dX6_ofSheet_1 rfl ?_
  refine jm_cSd (n := 1) [.ref (w.2.1 300)] C (kX6_isSheet E w I _ g1) jw_m_RX6_98 okX6_isSheet rfl ⟨rfl, rfl⟩ ⟨Nat.le_of_ble_eq_true rfl, Nat.le_of_ble_eq_true rfl⟩ rfl rfl (Nat.le_of_ble_eq_true rfl) dX6_ofSheet_2 ⟨Nat.le_of_ble_eq_true rfl, Nat.le_of_ble_eq_true rfl⟩ (fun yz2 yh1 => ?_)
  refine jm_iload_n C dX6_ofSheet_5 rfl ?_
  refine jm_iconst C dX6_ofSheet_6 ?_
  refine jm_iconst C dX6_ofSheet_7 ?_
  refine jm_cSd (n := 3) [jm_v yz2, .ref (w.2.1 300)] C (kX6_in E w I _ _ _ g2 (by decide) (by decide)) jw_m_RX6_90 okX6_in rfl ⟨rfl, rfl⟩ ⟨Nat.le_of_ble_eq_true rfl, Nat.le_of_ble_eq_true rfl⟩ rfl rfl (Nat.le_of_ble_eq_true rfl) dX6_ofSheet_8 ⟨Nat.le_of_ble_eq_true rfl, Nat.le_of_ble_eq_true rfl⟩ (fun yz4 yh3 => ?_)
  refine jm_cVd (n := 2) (ci := 6) [] C (kX6_asked_ E w I Q _ _ (by omega) (by omega)) jw_m_RX6_161 okX6_asked_ rfl ⟨rfl, rfl⟩ ⟨Nat.le_of_ble_eq_true rfl, Nat.le_of_ble_eq_true rfl⟩ rfl Q.1.1 Q.1.2 rfl rfl (Nat.le_of_ble_eq_true rfl) dX6_ofSheet_11 ⟨Nat.le_of_ble_eq_true rfl, Nat.le_of_ble_eq_true rfl⟩ (fun yz6 yh5 => ?_)
  refine jm_if_ne 19 C dX6_ofSheet_14 rfl (by omega) (fun yc7 => ?_) (fun yc7 => ?_)
  · skip
    refine jm_iconst C dX6_ofSheet_19 ?_
    refine jm_istore_n C dX6_ofSheet_20 (by decide) ?_
    refine jm_iconst C dX6_ofSheet_21 ?_
    refine jm_istore C dX6_ofSheet_22 (by decide) ?_
    have lp24 : ∀ (yn24 : Nat) (m : Nat) (su : Int), 549 - m < yn24 → (m ≤ 549) → (su = hk_sumo (I 305) (549 * s) m) → (0 ≤ su ∧ su ≤ 9 * m) → jm_J E G (0, 0) w (jm_up I 300 0 (if (yz2 : Int) = 0 then 1 else if (yz4 : Int) = 0 then 2 else 0)) 24 [(0, .ref (w.2.1 300)), (1, jm_v s), (2, jm_v k), (3, jm_v su), (4, jm_v ((m : Nat) : Int))] [] := by
      intro yn24
      induction yn24 with
      | zero => intro m su hlt24 hm hsu hsr; exact absurd hlt24 (Nat.not_lt_zero _)
      | succ yn24 ih24 =>
        intro m su hlt24 hm hsu hsr
        have hw1 := hwr ((549 * s) + m)
        refine jm_iload C dX6_ofSheet_24 rfl ?_
        refine jm_sipush C dX6_ofSheet_26 (by decide +kernel) ?_
        refine jm_icmp_ge 54 C dX6_ofSheet_29 rfl (by omega) (by decide) (fun yc8 => ?_) (fun yc8 => ?_)
        · skip
          refine jm_iload_n C dX6_ofSheet_54 rfl ?_
          refine jm_if_ne 75 C dX6_ofSheet_55 rfl g2 (fun yc9 => ?_) (fun yc9 => ?_)
          · skip
            refine jm_iload_n C dX6_ofSheet_75 rfl ?_
            refine jm_iconst C dX6_ofSheet_76 ?_
            refine jm_icmp_ne 89 C dX6_ofSheet_77 rfl g2 (by decide) (fun yc10 => ?_) (fun yc10 => ?_)
            · skip
              refine jm_iload_n C dX6_ofSheet_89 rfl ?_
              refine jm_iconst C dX6_ofSheet_90 ?_
              refine jm_icmp_ne 98 C dX6_ofSheet_91 rfl g2 (by decide) (fun yc11 => ?_) (fun yc11 => ?_)
              · skip
                refine jm_aload_n C dX6_ofSheet_98 rfl ?_
                refine jm_getv (ci := 6) (f := 3) (I 300 3) 3 rfl (jm_up_n (Or.inr (by decide))) C rfl jw_u_6 Q.1.1 Q.1.2 rfl (by decide) jw_f_RX6_13 dX6_ofSheet_99 (fun yr12 => ?_)
                refine jm_iload_n C dX6_ofSheet_102 rfl ?_
                refine jm_icmp_ne 113 C dX6_ofSheet_103 rfl (by omega) g1 (fun yc13 => ?_) (fun yc13 => ?_)
                · skip
                  refine jm_iconst C dX6_ofSheet_113 ?_
                  exact hR _ _ _ _ dX6_ofSheet_114 rfl ⟨hk_cd2 (jm_up_s _ _ _ _) (by omega) (by omega), hk_wk_0 _ _, fun q1 q2 => by first | rw [if_pos (by omega), if_pos (by omega)] | rw [if_pos (by omega), if_neg (by omega)] | rw [if_neg (by omega), if_pos (by omega)] | rw [if_neg (by omega), if_neg (by omega), if_neg (by omega), if_pos (by omega)] | rw [if_neg (by omega), if_neg (by omega), if_neg (by omega), if_neg (by omega)]⟩
                · skip
                  refine jm_aload_n C dX6_ofSheet_106 rfl ?_
                  refine jm_getv (ci := 6) (f := 4) (I 300 4) 4 rfl (jm_up_n (Or.inr (by decide))) C rfl jw_u_6 Q.1.1 Q.1.2 rfl (by decide) jw_f_RX6_152 dX6_ofSheet_107 (fun yr14 => ?_)
                  refine jm_goto 114 C dX6_ofSheet_110 rfl ?_
                  exact hR _ _ _ _ dX6_ofSheet_114 rfl ⟨hk_cd2 (jm_up_s _ _ _ _) (by omega) (by omega), hk_wk_0 _ _, fun q1 q2 => by first | rw [if_pos (by omega), if_pos (by omega)] | rw [if_pos (by omega), if_neg (by omega)] | rw [if_neg (by omega), if_pos (by omega)] | rw [if_neg (by omega), if_neg (by omega), if_neg (by omega), if_pos (by omega)] | rw [if_neg (by omega), if_neg (by omega), if_neg (by omega), if_neg (by omega)]⟩
              · skip
                refine jm_iload_n C dX6_ofSheet_94 rfl ?_
                refine jm_goto 114 C dX6_ofSheet_95 rfl ?_
                exact hR _ _ _ _ dX6_ofSheet_114 rfl ⟨hk_cd2 (jm_up_s _ _ _ _) (by omega) (by omega), hk_wk_0 _ _, fun q1 q2 => by rw [hsu, show m = 549 by omega, if_neg (by omega), if_neg (by omega), if_pos (by omega)]⟩
            · skip
              refine jm_aload_n C dX6_ofSheet_80 rfl ?_
              refine jm_getr (ci := 6) (f := 7) C rfl jw_u_6 Q.1.1 Q.1.2 rfl (by decide) jw_f_RX6_24 dX6_ofSheet_81 ?_
              refine jm_iload_n C dX6_ofSheet_84 rfl ?_
              refine jm_ialdv (I 307 s) (jm_up_n (Or.inl (by decide))) C (jm_X6_307 Q).1 rfl (jm_X6_307 Q).2 (by omega) (by omega) (by omega) dX6_ofSheet_85 (fun yr15 => ?_)
              refine jm_goto 114 C dX6_ofSheet_86 rfl ?_
              exact hR _ _ _ _ dX6_ofSheet_114 rfl ⟨hk_cd2 (jm_up_s _ _ _ _) (by omega) (by omega), hk_wk_0 _ _, fun q1 q2 => by first | rw [if_pos (by omega), if_pos (by omega)] | rw [if_pos (by omega), if_neg (by omega)] | rw [if_neg (by omega), if_pos (by omega)] | rw [if_neg (by omega), if_neg (by omega), if_neg (by omega), if_pos (by omega)] | rw [if_neg (by omega), if_neg (by omega), if_neg (by omega), if_neg (by omega)]⟩
          · skip
            refine jm_aload_n C dX6_ofSheet_58 rfl ?_
            refine jm_getr (ci := 6) (f := 6) C rfl jw_u_6 Q.1.1 Q.1.2 rfl (by decide) jw_f_RX6_20 dX6_ofSheet_59 ?_
            refine jm_iload_n C dX6_ofSheet_62 rfl ?_
            refine jm_zaldv (I 306 s) (jm_up_n (Or.inl (by decide))) C (jm_X6_306 Q).1 rfl (jm_X6_306 Q).2 (by omega) (by omega) (by omega) dX6_ofSheet_63 (fun yr16 => ?_)
            refine jm_if_eq 71 C dX6_ofSheet_64 rfl (by omega) (fun yc17 => ?_) (fun yc17 => ?_)
            · skip
              refine jm_iconst C dX6_ofSheet_71 ?_
              refine jm_goto 114 C dX6_ofSheet_72 rfl ?_
              exact hR _ _ _ _ dX6_ofSheet_114 rfl ⟨hk_cd2 (jm_up_s _ _ _ _) (by omega) (by omega), hk_wk_0 _ _, fun q1 q2 => by first | rw [if_pos (by omega), if_pos (by omega)] | rw [if_pos (by omega), if_neg (by omega)] | rw [if_neg (by omega), if_pos (by omega)] | rw [if_neg (by omega), if_neg (by omega), if_neg (by omega), if_pos (by omega)] | rw [if_neg (by omega), if_neg (by omega), if_neg (by omega), if_neg (by omega)]⟩
            · skip
              refine jm_iconst C dX6_ofSheet_67 ?_
              refine jm_goto 114 C dX6_ofSheet_68 rfl ?_
              exact hR _ _ _ _ dX6_ofSheet_114 rfl ⟨hk_cd2 (jm_up_s _ _ _ _) (by omega) (by omega), hk_wk_0 _ _, fun q1 q2 => by first | rw [if_pos (by omega), if_pos (by omega)] | rw [if_pos (by omega), if_neg (by omega)] | rw [if_neg (by omega), if_pos (by omega)] | rw [if_neg (by omega), if_neg (by omega), if_neg (by omega), if_pos (by omega)] | rw [if_neg (by omega), if_neg (by omega), if_neg (by omega), if_neg (by omega)]⟩
        · skip
          refine jm_iload_n C dX6_ofSheet_32 rfl ?_
          refine jm_aload_n C dX6_ofSheet_33 rfl ?_
          refine jm_getr (ci := 6) (f := 5) C rfl jw_u_6 Q.1.1 Q.1.2 rfl (by decide) jw_f_RX6_16 dX6_ofSheet_34 ?_
          refine jm_sipush C dX6_ofSheet_37 (by decide +kernel) ?_
          refine jm_iload_n C dX6_ofSheet_40 rfl ?_
          refine jm_imul C dX6_ofSheet_41 ?_
          refine jm_iload C dX6_ofSheet_42 rfl ?_
          refine jm_iadd C dX6_ofSheet_44 ?_
          refine jm_ialdv (I 305 ((549 * s) + ((m : Nat) : Int))) (jm_up_n (Or.inl (by decide))) C (jm_X6_305 Q).1 rfl (jm_X6_305 Q).2 (by omega) (by omega) (by omega) dX6_ofSheet_45 (fun yr18 => ?_)
          refine jm_iadd C dX6_ofSheet_46 ?_
          refine jm_istore_n C dX6_ofSheet_47 (by decide) ?_
          refine jm_iinc C dX6_ofSheet_48 (by decide) rfl ?_
          refine jm_goto 24 C dX6_ofSheet_51 rfl ?_
          refine jm_lvs (lv' := [(0, _), (1, _), (2, _), (3, _), (4, _)]) (jm_sub_c rfl (jm_sub_c rfl (jm_sub_c rfl (jm_sub_c rfl (jm_sub_c rfl (jm_sub_0 _)))))) ?_
          exact ih24 (m + 1) _ (by omega) (by omega) (by rw [hk_sumo, hsu]) (by omega)
    refine jm_lvs (lv' := [(0, _), (1, _), (2, _), (3, _), (4, _)]) (jm_sub_c rfl (jm_sub_c rfl (jm_sub_c rfl (jm_sub_c rfl (jm_sub_c rfl (jm_sub_0 _)))))) ?_
    exact lp24 _ 0 _ (Nat.lt_succ_self _) (Nat.zero_le _) rfl (by omega)
  · skip
    refine jm_iconst C dX6_ofSheet_17 ?_
    exact hR _ _ _ _ dX6_ofSheet_18 rfl ⟨hk_cd2 (jm_up_s _ _ _ _) (by omega) (by omega), hk_wk_0 _ _, fun q1 q2 => absurd q1 (by omega)⟩
set_option maxRecDepth 100000 in
set_option maxHeartbeats 4000000 in
theorem kX6_scoreOf (E : jm_E) (w : jm_W) (I : jm_M) (Q : jm_X6 E w) (g : Int) (hg12 : 0 ≤ g ∧ g < 12) : jm_Mi E yX6_scoreOf wX6_scoreOf rmX6_scoreOf 0 0 w I [.ref (w.2.1 300), jm_v g] (fun I' z => I' = hk_fill I 325 6 (fun k => I 320 (6 * g + k)) ∧ z = if I 309 g = 2 then hk_scd (hk_fill I 325 6 (fun k => I 320 (6 * g + k)) 325) else 0) := by
  refine jm_in_i (cc := cX6_scoreOf) (maxL := 3) (rt := .int) RX6 (by decide +kernel) rfl rfl (Nat.le_of_ble_eq_true rfl) (by simp [Value.category]) ?_
  intro G C hR hI
  refine jm_iconst C dX6_scoreOf_0 ?_
  refine jm_istore_n C dX6_scoreOf_1 (by decide) ?_
  have lp2 : ∀ (yn2 : Nat) (m : Nat), 6 - m < yn2 → (m ≤ 6) → jm_J E G (0, 0) w (hk_fill I 325 ((m : Nat) : Int) (fun k => I 320 (6 * g + k))) 2 [(0, .ref (w.2.1 300)), (1, jm_v g), (2, jm_v ((m : Nat) : Int))] [] := by
    intro yn2
    induction yn2 with
    | zero => intro m hlt2 hm; exact absurd hlt2 (Nat.not_lt_zero _)
    | succ yn2 ih2 =>
      intro m hlt2 hm
      refine jm_iload_n C dX6_scoreOf_2 rfl ?_
      refine jm_bipush C dX6_scoreOf_3 (by decide +kernel) ?_
      refine jm_icmp_ge 31 C dX6_scoreOf_5 rfl (by omega) (by decide) (fun yc1 => ?_) (fun yc1 => ?_)
      · skip
        refine jm_aload_n C dX6_scoreOf_31 rfl ?_
        refine jm_getr (ci := 6) (f := 9) C rfl jw_u_6 Q.1.1 Q.1.2 rfl (by decide) jw_f_RX6_27 dX6_scoreOf_32 ?_
        refine jm_iload_n C dX6_scoreOf_35 rfl ?_
        refine jm_ialdv (I 309 g) (hk_fill_o (Or.inl (by decide))) C (jm_X6_309 Q).1 rfl (jm_X6_309 Q).2 (by omega) (by omega) (by omega) dX6_scoreOf_36 (fun yr2 => ?_)
        refine jm_iconst C dX6_scoreOf_37 ?_
        refine jm_icmp_ne 48 C dX6_scoreOf_38 rfl (by omega) (by decide) (fun yc3 => ?_) (fun yc3 => ?_)
        · skip
          refine jm_iconst C dX6_scoreOf_48 ?_
          exact hR _ _ _ _ dX6_scoreOf_49 rfl ⟨by rw [show m = 6 by omega]; rfl, by first | (rw [if_neg (by omega)]) | (rw [if_pos (by omega), show m = 6 by omega]; rfl)⟩
        · skip
          refine jm_aload_n C dX6_scoreOf_41 rfl ?_
          refine jm_cVd (n := 0) (ci := 6) [] C (kX6_scored E w (hk_fill I 325 ((m : Nat) : Int) (fun k => I 320 (6 * g + k))) Q) jw_m_RX6_122 okX6_scored rfl ⟨rfl, rfl⟩ ⟨Nat.le_of_ble_eq_true rfl, Nat.le_of_ble_eq_true rfl⟩ rfl Q.1.1 Q.1.2 rfl rfl (Nat.le_of_ble_eq_true rfl) dX6_scoreOf_42 ⟨Nat.le_of_ble_eq_true rfl, Nat.le_of_ble_eq_true rfl⟩ (fun yz5 yh4 => ?_)
          subst yh4
          have yh4r : -6 ≤ hk_scd ((hk_fill I 325 ((m : Nat) : Int) (fun k => I 320 (6 * g + k))) 325) ∧ hk_scd ((hk_fill I 325 ((m : Nat) : Int) (fun k => I 320 (6 * g + k))) 325) ≤ 6 := hk_nn_R ((hk_fill I 325 ((m : Nat) : Int) (fun k => I 320 (6 * g + k))) 325) _ _ 6
          refine jm_goto 49 C dX6_scoreOf_45 rfl ?_
          exact hR _ _ _ _ dX6_scoreOf_49 rfl ⟨by rw [show m = 6 by omega]; rfl, by first | (rw [if_neg (by omega)]) | (rw [if_pos (by omega), show m = 6 by omega]; rfl)⟩
      · skip
        refine jm_aload_n C dX6_scoreOf_8 rfl ?_
        refine jm_getr (ci := 6) (f := 25) C rfl jw_u_6 Q.1.1 Q.1.2 rfl (by decide) jw_f_RX6_75 dX6_scoreOf_9 ?_
        refine jm_iload_n C dX6_scoreOf_12 rfl ?_
        refine jm_aload_n C dX6_scoreOf_13 rfl ?_
        refine jm_getr (ci := 6) (f := 20) C rfl jw_u_6 Q.1.1 Q.1.2 rfl (by decide) jw_f_RX6_60 dX6_scoreOf_14 ?_
        refine jm_bipush C dX6_scoreOf_17 (by decide +kernel) ?_
        refine jm_iload_n C dX6_scoreOf_19 rfl ?_
        refine jm_imul C dX6_scoreOf_20 ?_
        refine jm_iload_n C dX6_scoreOf_21 rfl ?_
        refine jm_iadd C dX6_scoreOf_22 ?_
        refine jm_ialdv (I 320 ((6 * g) + ((m : Nat) : Int))) (hk_fill_o (Or.inl (by decide))) C (jm_X6_320 Q).1 rfl (jm_X6_320 Q).2 (by omega) (by omega) (by omega) dX6_scoreOf_23 (fun yr6 => ?_)
        refine jm_iast C (jm_X6_325 Q).1 rfl (jm_X6_325 Q).2 (by omega) (by omega) (by omega) dX6_scoreOf_24 (by omega) ?_
        refine jm_iinc C dX6_scoreOf_25 (by decide) rfl ?_
        refine jm_goto 2 C dX6_scoreOf_28 rfl ?_
        refine jm_mq (hk_fill_s _ 325 m (fun k => I 320 (6 * g + k))).symm ?_
        refine jm_lvs (lv' := [(0, _), (1, _), (2, _)]) (jm_sub_c rfl (jm_sub_c rfl (jm_sub_c rfl (jm_sub_0 _)))) ?_
        exact ih2 (m + 1) (by omega) (by omega)
  refine jm_mq (hk_fill_0 _ 325 (fun k => I 320 (6 * g + k))) ?_
  refine jm_lvs (lv' := [(0, _), (1, _), (2, _)]) (jm_sub_c rfl (jm_sub_c rfl (jm_sub_c rfl (jm_sub_0 _)))) ?_
  exact lp2 _ 0 (Nat.lt_succ_self _) (Nat.zero_le _)
