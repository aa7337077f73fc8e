set_option maxRecDepth 100000 in
set_option maxHeartbeats 4000000 in
theorem kX6_wouldScore (E : jm_E) (w : jm_W) (I : jm_M) (Q : jm_X6 E w) (hg8 : 0 ≤ I 300 8 ∧ I 300 8 ≤ 12) (g : Int) (g1 : jm_R g) : jm_Mi E yX6_wouldScore wX6_wouldScore rmX6_wouldScore 0 0 w I [.ref (w.2.1 300), jm_v g] (fun I' z => hk_cd I' (0 ≤ g ∧ g < I 300 8) True True ∧ hk_wk I I' ∧ ((0 ≤ g ∧ g < I 300 8) → z = if I 309 g = 2 then hk_scd (hk_fill I 325 6 (fun k => I 320 (6 * g + k)) 325) else 0)) := by
  refine jm_in_i (cc := cX6_wouldScore) (maxL := 2) (rt := .int) RX6 (by decide +kernel) rfl rfl (Nat.le_of_ble_eq_true rfl) (by simp [Value.category]) ?_
  intro G C hR hI
  refine jm_aload_n C dX6_wouldScore_0 rfl ?_
  refine jm_aload_n C dX6_wouldScore_1 rfl ?_
  refine jm_iload_n C dX6_wouldScore_2 rfl ?_
  refine jm_cVd (n := 1) (ci := 6) [.ref (w.2.1 300)] C (kX6_isGame E w I Q _ g1 hg8) jw_m_RX6_126 okX6_isGame rfl ⟨rfl, rfl⟩ ⟨Nat.le_of_ble_eq_true rfl, Nat.le_of_ble_eq_true rfl⟩ rfl Q.1.1 Q.1.2 rfl rfl (Nat.le_of_ble_eq_true rfl) dX6_wouldScore_3 ⟨Nat.le_of_ble_eq_true rfl, Nat.le_of_ble_eq_true rfl⟩ (fun yz2 yh1 => ?_)
  refine jm_cVd (n := 1) (ci := 6) [] C (kX6_asked E w I Q _ (by omega)) jw_m_RX6_108 okX6_asked rfl ⟨rfl, rfl⟩ ⟨Nat.le_of_ble_eq_true rfl, Nat.le_of_ble_eq_true rfl⟩ rfl Q.1.1 Q.1.2 rfl rfl (Nat.le_of_ble_eq_true rfl) dX6_wouldScore_6 ⟨Nat.le_of_ble_eq_true rfl, Nat.le_of_ble_eq_true rfl⟩ (fun yz4 yh3 => ?_)
  refine jm_if_eq 20 C dX6_wouldScore_9 rfl (by omega) (fun yc5 => ?_) (fun yc5 => ?_)
  · skip
    refine jm_iconst C dX6_wouldScore_20 ?_
    exact hR _ _ _ _ dX6_wouldScore_21 rfl ⟨hk_cd1 (jm_up_s _ _ _ _) (by omega), hk_wk_0 _ _, fun q => absurd q (by omega)⟩
  · skip
    refine jm_aload_n C dX6_wouldScore_12 rfl ?_
    refine jm_iload_n C dX6_wouldScore_13 rfl ?_
    refine jm_cVd (n := 1) (ci := 6) [] C (kX6_scoreOf E w (jm_up I 300 0 (if (yz2 : Int) = 0 then 1 else 0)) Q _ (by omega)) jw_m_RX6_167 okX6_scoreOf rfl ⟨rfl, rfl⟩ ⟨Nat.le_of_ble_eq_true rfl, Nat.le_of_ble_eq_true rfl⟩ rfl Q.1.1 Q.1.2 rfl rfl (Nat.le_of_ble_eq_true rfl) dX6_wouldScore_14 ⟨Nat.le_of_ble_eq_true rfl, Nat.le_of_ble_eq_true rfl⟩ (fun yz7 yh6 => ?_)
    have HSC : yz7 = if I 309 g = 2 then hk_scd (hk_fill I 325 6 (fun k => I 320 (6 * g + k)) 325) else 0 := by
      rw [yh6]
      congr 1
    refine jm_goto 21 C dX6_wouldScore_17 rfl ?_
    exact hR _ _ _ _ dX6_wouldScore_21 rfl ⟨hk_cd1 (Eq.trans (hk_fill_o (Or.inl (by decide))) (jm_up_s _ _ _ _)) (by omega), fun a b q1 q2 q3 q4 q5 => (hk_fill_o (Or.inl q2)).trans (jm_up_n q5), fun q => HSC⟩
set_option maxRecDepth 100000 in
set_option maxHeartbeats 4000000 in
theorem kX6_wouldScoreAnew (E : jm_E) (w : jm_W) (I : jm_M) (Q : jm_X6 E w) (hg8 : 0 ≤ I 300 8 ∧ I 300 8 ≤ 12) (g : Int) (g1 : jm_R g) : jm_Mi E yX6_wouldScoreAnew wX6_wouldScoreAnew rmX6_wouldScoreAnew 0 0 w I [.ref (w.2.1 300), jm_v g] (fun I' z => hk_cd I' (0 ≤ g ∧ g < I 300 8) True True ∧ hk_wk I I' ∧ ((0 ≤ g ∧ g < I 300 8) → z = if I 309 g = 2 then hk_scd (hk_fill I 325 6 (fun k => I 320 (6 * g + k)) 325) else 0)) := by
  refine jm_in_i (cc := cX6_wouldScoreAnew) (maxL := 2) (rt := .int) RX6 (by decide +kernel) rfl rfl (Nat.le_of_ble_eq_true rfl) (by simp [Value.category]) ?_
  intro G C hR hI
  refine jm_aload_n C dX6_wouldScoreAnew_0 rfl ?_
  refine jm_aload_n C dX6_wouldScoreAnew_1 rfl ?_
  refine jm_iload_n C dX6_wouldScoreAnew_2 rfl ?_
  refine jm_cVd (n := 1) (ci := 6) [.ref (w.2.1 300)] C (kX6_isGame E w I Q _ g1 hg8) jw_m_RX6_126 okX6_isGame rfl ⟨rfl, rfl⟩ ⟨Nat.le_of_ble_eq_true rfl, Nat.le_of_ble_eq_true rfl⟩ rfl Q.1.1 Q.1.2 rfl rfl (Nat.le_of_ble_eq_true rfl) dX6_wouldScoreAnew_3 ⟨Nat.le_of_ble_eq_true rfl, Nat.le_of_ble_eq_true rfl⟩ (fun yz2 yh1 => ?_)
  refine jm_cVd (n := 1) (ci := 6) [] C (kX6_asked E w I Q _ (by omega)) jw_m_RX6_108 okX6_asked rfl ⟨rfl, rfl⟩ ⟨Nat.le_of_ble_eq_true rfl, Nat.le_of_ble_eq_true rfl⟩ rfl Q.1.1 Q.1.2 rfl rfl (Nat.le_of_ble_eq_true rfl) dX6_wouldScoreAnew_6 ⟨Nat.le_of_ble_eq_true rfl, Nat.le_of_ble_eq_true rfl⟩ (fun yz4 yh3 => ?_)
  refine jm_if_eq 20 C dX6_wouldScoreAnew_9 rfl (by omega) (fun yc5 => ?_) (fun yc5 => ?_)
  · skip
    refine jm_iconst C dX6_wouldScoreAnew_20 ?_
    exact hR _ _ _ _ dX6_wouldScoreAnew_21 rfl ⟨hk_cd1 (jm_up_s _ _ _ _) (by omega), hk_wk_0 _ _, fun q => absurd q (by omega)⟩
  · skip
    refine jm_aload_n C dX6_wouldScoreAnew_12 rfl ?_
    refine jm_iload_n C dX6_wouldScoreAnew_13 rfl ?_
    refine jm_cVd (n := 1) (ci := 6) [] C (kX6_scoreOf E w (jm_up I 300 0 (if (yz2 : Int) = 0 then 1 else 0)) Q _ (by omega)) jw_m_RX6_167 okX6_scoreOf rfl ⟨rfl, rfl⟩ ⟨Nat.le_of_ble_eq_true rfl, Nat.le_of_ble_eq_true rfl⟩ rfl Q.1.1 Q.1.2 rfl rfl (Nat.le_of_ble_eq_true rfl) dX6_wouldScoreAnew_14 ⟨Nat.le_of_ble_eq_true rfl, Nat.le_of_ble_eq_true rfl⟩ (fun yz7 yh6 => ?_)
    have HSC : yz7 = if I 309 g = 2 then hk_scd (hk_fill I 325 6 (fun k => I 320 (6 * g + k)) 325) else 0 := by
      rw [yh6]
      congr 1
    refine jm_goto 21 C dX6_wouldScoreAnew_17 rfl ?_
    exact hR _ _ _ _ dX6_wouldScoreAnew_21 rfl ⟨hk_cd1 (Eq.trans (hk_fill_o (Or.inl (by decide))) (jm_up_s _ _ _ _)) (by omega), fun a b q1 q2 q3 q4 q5 => (hk_fill_o (Or.inl q2)).trans (jm_up_n q5), fun q => HSC⟩
set_option maxRecDepth 100000 in
set_option maxHeartbeats 4000000 in
theorem kX6_tries (E : jm_E) (w : jm_W) (I : jm_M) (Q : jm_X6 E w) (hg8 : 0 ≤ I 300 8 ∧ I 300 8 ≤ 12) (g lane wt tn lo hi : Int) (g1 : jm_R g) (g2 : jm_R lane) (g3 : jm_R wt) (g4 : jm_R tn) (g5 : jm_R lo) (g6 : jm_R hi) (hsh : ∀ i, 0 ≤ i → i < I 300 8 → I 309 i = 1 ∨ I 309 i = 2 → 0 ≤ I 314 i ∧ I 314 i < 3) (hsl : ∀ i, 0 ≤ i → i < I 300 8 → I 309 i = 1 ∨ I 309 i = 2 → 0 ≤ hk_mslot I i ∧ hk_mslot I i < 6) (hw9 : ∀ i, 0 ≤ i → i < I 300 8 → I 309 i = 1 ∨ I 309 i = 2 → hk_w9 (hk_tku I i 324)) (hgd : ∀ i, 0 ≤ i → i < I 300 8 → I 309 i = 1 ∨ I 309 i = 2 → hk_good (hk_tku I i 325)) : jm_Mi E yX6_tries wX6_tries rmX6_tries 0 0 w I [.ref (w.2.1 300), jm_v g, jm_v lane, jm_v wt, jm_v tn, jm_v lo, jm_v hi] (fun I' z => hk_cd I' (0 ≤ g ∧ g < I 300 8) (hk_shot lane wt tn lo hi) (I 309 g = 1 ∨ I 309 g = 2) ∧ hk_wk I I' ∧ ((0 ≤ g ∧ g < I 300 8) → hk_shot lane wt tn lo hi → (I 309 g = 1 ∨ I 309 g = 2) → z = (hk_mch 7 (hk_tku I g 324) (hk_tku I g 325) (hk_mslot I g) lane 0 (10 * wt) tn lo hi).2 (hk_mslot I g))) := by
  refine jm_in_i (cc := cX6_tries) (maxL := 9) (rt := .int) RX6 (by decide +kernel) rfl rfl (Nat.le_of_ble_eq_true rfl) (by simp [Value.category]) ?_
  intro G C hR hI
  refine jm_aload_n C dX6_tries_0 rfl ?_
  refine jm_iload_n C dX6_tries_1 rfl ?_
  refine jm_cVd (n := 1) (ci := 6) [] C (kX6_isGame E w I Q _ g1 hg8) jw_m_RX6_126 okX6_isGame rfl ⟨rfl, rfl⟩ ⟨Nat.le_of_ble_eq_true rfl, Nat.le_of_ble_eq_true rfl⟩ rfl Q.1.1 Q.1.2 rfl rfl (Nat.le_of_ble_eq_true rfl) dX6_tries_2 ⟨Nat.le_of_ble_eq_true rfl, Nat.le_of_ble_eq_true rfl⟩ (fun yz2 yh1 => ?_)
  refine jm_istore C dX6_tries_5 (by decide) ?_
  refine jm_aload_n C dX6_tries_7 rfl ?_
  refine jm_iload C dX6_tries_8 rfl ?_
  refine jm_iload_n C dX6_tries_10 rfl ?_
  refine jm_iload_n C dX6_tries_11 rfl ?_
  refine jm_iload C dX6_tries_12 rfl ?_
  refine jm_iload C dX6_tries_14 rfl ?_
  refine jm_iload C dX6_tries_16 rfl ?_
  refine jm_cSd (n := 5) [jm_v yz2, .ref (w.2.1 300)] C (kX6_isShot E w I _ _ _ _ _ g2 g3 g4 g5 g6) jw_m_RX6_129 okX6_isShot rfl ⟨rfl, rfl⟩ ⟨Nat.le_of_ble_eq_true rfl, Nat.le_of_ble_eq_true rfl⟩ rfl rfl (Nat.le_of_ble_eq_true rfl) dX6_tries_18 ⟨Nat.le_of_ble_eq_true rfl, Nat.le_of_ble_eq_true rfl⟩ (fun yz4 yh3 => ?_)
  refine jm_iload C dX6_tries_21 rfl ?_
  refine jm_if_eq 38 C dX6_tries_23 rfl (by omega) (fun yc5 => ?_) (fun yc5 => ?_)
  · skip
    refine jm_iconst C dX6_tries_38 ?_
    refine jm_cVd (n := 3) (ci := 6) [] C (kX6_asked__ E w I Q _ _ _ (by omega) (by omega) (by omega)) jw_m_RX6_104 okX6_asked__ rfl ⟨rfl, rfl⟩ ⟨Nat.le_of_ble_eq_true rfl, Nat.le_of_ble_eq_true rfl⟩ rfl Q.1.1 Q.1.2 rfl rfl (Nat.le_of_ble_eq_true rfl) dX6_tries_39 ⟨Nat.le_of_ble_eq_true rfl, Nat.le_of_ble_eq_true rfl⟩ (fun yz7 yh6 => ?_)
    refine jm_if_ne 47 C dX6_tries_42 rfl (by omega) (fun yc8 => ?_) (fun yc8 => ?_)
    · skip
      have hgi : 0 ≤ g ∧ g < I 300 8 := by omega
      have htt : I 309 g = 1 ∨ I 309 g = 2 := by omega
      have hst0 : hk_shot lane wt tn lo hi := by
        rcases yh3 with ⟨h, _⟩ | ⟨_, e⟩
        · exact h
        · exfalso; omega
      have hst := hst0
      unfold hk_shot at hst
      have p1 := hsh g hgi.1 hgi.2 htt
      have p2 := hsl g hgi.1 hgi.2 htt
      have p3 := hw9 g hgi.1 hgi.2 htt
      have p4 := hgd g hgi.1 hgi.2 htt
      obtain ⟨J, hJ⟩ : ∃ X, X = jm_up I 300 0 (if (yz2 : Int) = 0 then 1 else if (yz4 : Int) = 0 then 2 else if (0 : Int) = 0 then 3 else 0) := ⟨_, rfl⟩
      rw [← hJ]
      have hJn : ∀ a, a ≠ 300 → J a = I a := fun a ha => by rw [hJ]; funext b; exact jm_up_n (Or.inl ha)
      have hJ0 : hk_cd J (0 ≤ g ∧ g < I 300 8) (hk_shot lane wt tn lo hi) (I 309 g = 1 ∨ I 309 g = 2) := hk_cd3 (by rw [hJ]; exact jm_up_s _ _ _ _) (by omega) (fun _ => yh3) (by omega)
      have hJw : hk_wk I J := by rw [hJ]; exact hk_wk_0 _ _
      have hJ14 : J 314 g = I 314 g := congrFun (hJn 314 (by decide)) g
      have hJt : hk_tku J g 324 = hk_tku I g 324 := hk_tku_4 (hJn 305 (by decide)) hJ14 (hJn 324 (by decide))
      have hJu : hk_tku J g 325 = hk_tku I g 325 := hk_tku_5 (hJn 320 (by decide)) (hJn 325 (by decide))
      have hJs : hk_mslot J g = hk_mslot I g := hk_mslot_c (hJn 309 (by decide)) (hJn 317 (by decide)) (hJn 318 (by decide))
      refine jm_aload_n C dX6_tries_47 rfl ?_
      refine jm_iload_n C dX6_tries_48 rfl ?_
      refine jm_cVu (n := 1) (ci := 6) [] C (kX6_takesUp E w J Q _ (by omega) (by omega)) jw_m_RX6_136 okX6_takesUp rfl ⟨rfl, rfl⟩ ⟨Nat.le_of_ble_eq_true rfl, Nat.le_of_ble_eq_true rfl⟩ rfl Q.1.1 Q.1.2 rfl rfl (Nat.le_of_ble_eq_true rfl) dX6_tries_49 ⟨Nat.le_of_ble_eq_true rfl, Nat.le_of_ble_eq_true rfl⟩ ?_
      refine jm_aload_n C dX6_tries_52 rfl ?_
      refine jm_iload_n C dX6_tries_53 rfl ?_
      refine jm_cVd (n := 1) (ci := 6) [] C (kX6_slotOf E w (hk_tku J g) Q _ (by omega)) jw_m_RX6_140 okX6_slotOf rfl ⟨rfl, rfl⟩ ⟨Nat.le_of_ble_eq_true rfl, Nat.le_of_ble_eq_true rfl⟩ rfl Q.1.1 Q.1.2 rfl rfl (Nat.le_of_ble_eq_true rfl) dX6_tries_54 ⟨Nat.le_of_ble_eq_true rfl, Nat.le_of_ble_eq_true rfl⟩ (fun yz12 yh11 => ?_)
      rw [hk_mslot_c (I := J) (hk_tku_f (by decide) (by decide)) (hk_tku_f (by decide) (by decide)) (hk_tku_f (by decide) (by decide)), hJs] at yh11
      subst yh11
      refine jm_istore C dX6_tries_57 (by decide) ?_
      refine jm_aload_n C dX6_tries_59 rfl ?_
      refine jm_iload C dX6_tries_60 rfl ?_
      refine jm_iload_n C dX6_tries_62 rfl ?_
      refine jm_iload_n C dX6_tries_63 rfl ?_
      refine jm_iload C dX6_tries_64 rfl ?_
      refine jm_iload C dX6_tries_66 rfl ?_
      refine jm_iload C dX6_tries_68 rfl ?_
      refine jm_cVv (n := 6) (ci := 6) [] C (kX6_goes E w (hk_tku J g) Q _ _ _ _ _ _ (by omega) (by omega) (by omega) (by omega) (by omega) (by omega) (by rw [hJt]; exact p3) (by rw [hJu]; exact p4)) jw_m_RX6_143 okX6_goes rfl ⟨rfl, rfl⟩ ⟨Nat.le_of_ble_eq_true rfl, Nat.le_of_ble_eq_true rfl⟩ rfl Q.1.1 Q.1.2 rfl rfl (Nat.le_of_ble_eq_true rfl) dX6_tries_70 ⟨Nat.le_of_ble_eq_true rfl, Nat.le_of_ble_eq_true rfl⟩ (fun yI15 yh13 => ?_)
      obtain ⟨gg1, gg2, gg3, gg4, gg5⟩ := yh13
      rw [hJt, hJu] at gg2 gg3
      refine jm_aload_n C dX6_tries_73 rfl ?_
      refine jm_getr (ci := 6) (f := 25) C rfl jw_u_6 Q.1.1 Q.1.2 rfl (by decide) jw_f_RX6_75 dX6_tries_74 ?_
      refine jm_iload C dX6_tries_77 rfl ?_
      refine jm_iald C (jm_X6_325 Q).1 rfl (jm_X6_325 Q).2 (by omega) (by omega) (by omega) dX6_tries_79 (fun yr16 => ?_)
      exact hR _ _ _ _ dX6_tries_80 rfl ⟨hk_cd_c (by rw [gg1 _ (by decide) (by decide), hk_tku_f (by decide) (by decide)]) hJ0, hk_wk_tr hJw (fun a b q1 q2 _ _ _ => by rw [gg1 a q1 q2, hk_tku_f q1 q2]), fun _ _ _ => by rw [gg3]⟩
    · skip
      refine jm_iconst C dX6_tries_45 ?_
      exact hR _ _ _ _ dX6_tries_46 rfl ⟨hk_cd3 (jm_up_s _ _ _ _) (by omega) (fun _ => yh3) (by omega), hk_wk_0 _ _, fun q1 q2 q3 => by
          exfalso
          rcases yh3 with ⟨_, e⟩ | ⟨e, _⟩
          · omega
          · exact e q2⟩
  · skip
    refine jm_aload_n C dX6_tries_26 rfl ?_
    refine jm_iload_n C dX6_tries_27 rfl ?_
    refine jm_cVd (n := 1) (ci := 6) [jm_v yz4, jm_v yz2, .ref (w.2.1 300)] C (kX6_throwsAt E w I Q _ (by omega)) jw_m_RX6_133 okX6_throwsAt rfl ⟨rfl, rfl⟩ ⟨Nat.le_of_ble_eq_true rfl, Nat.le_of_ble_eq_true rfl⟩ rfl Q.1.1 Q.1.2 rfl rfl (Nat.le_of_ble_eq_true rfl) dX6_tries_28 ⟨Nat.le_of_ble_eq_true rfl, Nat.le_of_ble_eq_true rfl⟩ (fun yz18 yh17 => ?_)
    refine jm_if_eq 38 C dX6_tries_31 rfl (by omega) (fun yc19 => ?_) (fun yc19 => ?_)
    · skip
      refine jm_iconst C dX6_tries_38 ?_
      refine jm_cVd (n := 3) (ci := 6) [] C (kX6_asked__ E w I Q _ _ _ (by omega) (by omega) (by omega)) jw_m_RX6_104 okX6_asked__ rfl ⟨rfl, rfl⟩ ⟨Nat.le_of_ble_eq_true rfl, Nat.le_of_ble_eq_true rfl⟩ rfl Q.1.1 Q.1.2 rfl rfl (Nat.le_of_ble_eq_true rfl) dX6_tries_39 ⟨Nat.le_of_ble_eq_true rfl, Nat.le_of_ble_eq_true rfl⟩ (fun yz21 yh20 => ?_)
      refine jm_if_ne 47 C dX6_tries_42 rfl (by omega) (fun yc22 => ?_) (fun yc22 => ?_)
      · skip
        have hgi : 0 ≤ g ∧ g < I 300 8 := by omega
        have htt : I 309 g = 1 ∨ I 309 g = 2 := by omega
        have hst0 : hk_shot lane wt tn lo hi := by
          rcases yh3 with ⟨h, _⟩ | ⟨_, e⟩
          · exact h
          · exfalso; omega
        have hst := hst0
        unfold hk_shot at hst
        have p1 := hsh g hgi.1 hgi.2 htt
        have p2 := hsl g hgi.1 hgi.2 htt
        have p3 := hw9 g hgi.1 hgi.2 htt
        have p4 := hgd g hgi.1 hgi.2 htt
        obtain ⟨J, hJ⟩ : ∃ X, X = jm_up I 300 0 (if (yz2 : Int) = 0 then 1 else if (yz4 : Int) = 0 then 2 else if (0 : Int) = 0 then 3 else 0) := ⟨_, rfl⟩
        rw [← hJ]
        have hJn : ∀ a, a ≠ 300 → J a = I a := fun a ha => by rw [hJ]; funext b; exact jm_up_n (Or.inl ha)
        have hJ0 : hk_cd J (0 ≤ g ∧ g < I 300 8) (hk_shot lane wt tn lo hi) (I 309 g = 1 ∨ I 309 g = 2) := hk_cd3 (by rw [hJ]; exact jm_up_s _ _ _ _) (by omega) (fun _ => yh3) (by omega)
        have hJw : hk_wk I J := by rw [hJ]; exact hk_wk_0 _ _
        have hJ14 : J 314 g = I 314 g := congrFun (hJn 314 (by decide)) g
        have hJt : hk_tku J g 324 = hk_tku I g 324 := hk_tku_4 (hJn 305 (by decide)) hJ14 (hJn 324 (by decide))
        have hJu : hk_tku J g 325 = hk_tku I g 325 := hk_tku_5 (hJn 320 (by decide)) (hJn 325 (by decide))
        have hJs : hk_mslot J g = hk_mslot I g := hk_mslot_c (hJn 309 (by decide)) (hJn 317 (by decide)) (hJn 318 (by decide))
        refine jm_aload_n C dX6_tries_47 rfl ?_
        refine jm_iload_n C dX6_tries_48 rfl ?_
        refine jm_cVu (n := 1) (ci := 6) [] C (kX6_takesUp E w J Q _ (by omega) (by omega)) jw_m_RX6_136 okX6_takesUp rfl ⟨rfl, rfl⟩ ⟨Nat.le_of_ble_eq_true rfl, Nat.le_of_ble_eq_true rfl⟩ rfl Q.1.1 Q.1.2 rfl rfl (Nat.le_of_ble_eq_true rfl) dX6_tries_49 ⟨Nat.le_of_ble_eq_true rfl, Nat.le_of_ble_eq_true rfl⟩ ?_
        refine jm_aload_n C dX6_tries_52 rfl ?_
        refine jm_iload_n C dX6_tries_53 rfl ?_
        refine jm_cVd (n := 1) (ci := 6) [] C (kX6_slotOf E w (hk_tku J g) Q _ (by omega)) jw_m_RX6_140 okX6_slotOf rfl ⟨rfl, rfl⟩ ⟨Nat.le_of_ble_eq_true rfl, Nat.le_of_ble_eq_true rfl⟩ rfl Q.1.1 Q.1.2 rfl rfl (Nat.le_of_ble_eq_true rfl) dX6_tries_54 ⟨Nat.le_of_ble_eq_true rfl, Nat.le_of_ble_eq_true rfl⟩ (fun yz26 yh25 => ?_)
        rw [hk_mslot_c (I := J) (hk_tku_f (by decide) (by decide)) (hk_tku_f (by decide) (by decide)) (hk_tku_f (by decide) (by decide)), hJs] at yh25
        subst yh25
        refine jm_istore C dX6_tries_57 (by decide) ?_
        refine jm_aload_n C dX6_tries_59 rfl ?_
        refine jm_iload C dX6_tries_60 rfl ?_
        refine jm_iload_n C dX6_tries_62 rfl ?_
        refine jm_iload_n C dX6_tries_63 rfl ?_
        refine jm_iload C dX6_tries_64 rfl ?_
        refine jm_iload C dX6_tries_66 rfl ?_
        refine jm_iload C dX6_tries_68 rfl ?_
        refine jm_cVv (n := 6) (ci := 6) [] C (kX6_goes E w (hk_tku J g) Q _ _ _ _ _ _ (by omega) (by omega) (by omega) (by omega) (by omega) (by omega) (by rw [hJt]; exact p3) (by rw [hJu]; exact p4)) jw_m_RX6_143 okX6_goes rfl ⟨rfl, rfl⟩ ⟨Nat.le_of_ble_eq_true rfl, Nat.le_of_ble_eq_true rfl⟩ rfl Q.1.1 Q.1.2 rfl rfl (Nat.le_of_ble_eq_true rfl) dX6_tries_70 ⟨Nat.le_of_ble_eq_true rfl, Nat.le_of_ble_eq_true rfl⟩ (fun yI29 yh27 => ?_)
        obtain ⟨gg1, gg2, gg3, gg4, gg5⟩ := yh27
        rw [hJt, hJu] at gg2 gg3
        refine jm_aload_n C dX6_tries_73 rfl ?_
        refine jm_getr (ci := 6) (f := 25) C rfl jw_u_6 Q.1.1 Q.1.2 rfl (by decide) jw_f_RX6_75 dX6_tries_74 ?_
        refine jm_iload C dX6_tries_77 rfl ?_
        refine jm_iald C (jm_X6_325 Q).1 rfl (jm_X6_325 Q).2 (by omega) (by omega) (by omega) dX6_tries_79 (fun yr30 => ?_)
        exact hR _ _ _ _ dX6_tries_80 rfl ⟨hk_cd_c (by rw [gg1 _ (by decide) (by decide), hk_tku_f (by decide) (by decide)]) hJ0, hk_wk_tr hJw (fun a b q1 q2 _ _ _ => by rw [gg1 a q1 q2, hk_tku_f q1 q2]), fun _ _ _ => by rw [gg3]⟩
      · skip
        refine jm_iconst C dX6_tries_45 ?_
        exact hR _ _ _ _ dX6_tries_46 rfl ⟨hk_cd3 (jm_up_s _ _ _ _) (by omega) (fun _ => yh3) (by omega), hk_wk_0 _ _, fun q1 q2 q3 => by
            exfalso
            rcases yh3 with ⟨_, e⟩ | ⟨e, _⟩
            · omega
            · exact e q2⟩
    · skip
      refine jm_iconst C dX6_tries_34 ?_
      refine jm_goto 39 C dX6_tries_35 rfl ?_
      refine jm_cVd (n := 3) (ci := 6) [] C (kX6_asked__ E w I Q _ _ _ (by omega) (by omega) (by omega)) jw_m_RX6_104 okX6_asked__ rfl ⟨rfl, rfl⟩ ⟨Nat.le_of_ble_eq_true rfl, Nat.le_of_ble_eq_true rfl⟩ rfl Q.1.1 Q.1.2 rfl rfl (Nat.le_of_ble_eq_true rfl) dX6_tries_39 ⟨Nat.le_of_ble_eq_true rfl, Nat.le_of_ble_eq_true rfl⟩ (fun yz32 yh31 => ?_)
      refine jm_if_ne 47 C dX6_tries_42 rfl (by omega) (fun yc33 => ?_) (fun yc33 => ?_)
      · skip
        have hgi : 0 ≤ g ∧ g < I 300 8 := by omega
        have htt : I 309 g = 1 ∨ I 309 g = 2 := by omega
        have hst0 : hk_shot lane wt tn lo hi := by
          rcases yh3 with ⟨h, _⟩ | ⟨_, e⟩
          · exact h
          · exfalso; omega
        have hst := hst0
        unfold hk_shot at hst
        have p1 := hsh g hgi.1 hgi.2 htt
        have p2 := hsl g hgi.1 hgi.2 htt
        have p3 := hw9 g hgi.1 hgi.2 htt
        have p4 := hgd g hgi.1 hgi.2 htt
        obtain ⟨J, hJ⟩ : ∃ X, X = jm_up I 300 0 (if (yz2 : Int) = 0 then 1 else if (yz4 : Int) = 0 then 2 else if (1 : Int) = 0 then 3 else 0) := ⟨_, rfl⟩
        rw [← hJ]
        have hJn : ∀ a, a ≠ 300 → J a = I a := fun a ha => by rw [hJ]; funext b; exact jm_up_n (Or.inl ha)
        have hJ0 : hk_cd J (0 ≤ g ∧ g < I 300 8) (hk_shot lane wt tn lo hi) (I 309 g = 1 ∨ I 309 g = 2) := hk_cd3 (by rw [hJ]; exact jm_up_s _ _ _ _) (by omega) (fun _ => yh3) (by omega)
        have hJw : hk_wk I J := by rw [hJ]; exact hk_wk_0 _ _
        have hJ14 : J 314 g = I 314 g := congrFun (hJn 314 (by decide)) g
        have hJt : hk_tku J g 324 = hk_tku I g 324 := hk_tku_4 (hJn 305 (by decide)) hJ14 (hJn 324 (by decide))
        have hJu : hk_tku J g 325 = hk_tku I g 325 := hk_tku_5 (hJn 320 (by decide)) (hJn 325 (by decide))
        have hJs : hk_mslot J g = hk_mslot I g := hk_mslot_c (hJn 309 (by decide)) (hJn 317 (by decide)) (hJn 318 (by decide))
        refine jm_aload_n C dX6_tries_47 rfl ?_
        refine jm_iload_n C dX6_tries_48 rfl ?_
        refine jm_cVu (n := 1) (ci := 6) [] C (kX6_takesUp E w J Q _ (by omega) (by omega)) jw_m_RX6_136 okX6_takesUp rfl ⟨rfl, rfl⟩ ⟨Nat.le_of_ble_eq_true rfl, Nat.le_of_ble_eq_true rfl⟩ rfl Q.1.1 Q.1.2 rfl rfl (Nat.le_of_ble_eq_true rfl) dX6_tries_49 ⟨Nat.le_of_ble_eq_true rfl, Nat.le_of_ble_eq_true rfl⟩ ?_
        refine jm_aload_n C dX6_tries_52 rfl ?_
        refine jm_iload_n C dX6_tries_53 rfl ?_
        refine jm_cVd (n := 1) (ci := 6) [] C (kX6_slotOf E w (hk_tku J g) Q _ (by omega)) jw_m_RX6_140 okX6_slotOf rfl ⟨rfl, rfl⟩ ⟨Nat.le_of_ble_eq_true rfl, Nat.le_of_ble_eq_true rfl⟩ rfl Q.1.1 Q.1.2 rfl rfl (Nat.le_of_ble_eq_true rfl) dX6_tries_54 ⟨Nat.le_of_ble_eq_true rfl, Nat.le_of_ble_eq_true rfl⟩ (fun yz37 yh36 => ?_)
        rw [hk_mslot_c (I := J) (hk_tku_f (by decide) (by decide)) (hk_tku_f (by decide) (by decide)) (hk_tku_f (by decide) (by decide)), hJs] at yh36
        subst yh36
        refine jm_istore C dX6_tries_57 (by decide) ?_
        refine jm_aload_n C dX6_tries_59 rfl ?_
        refine jm_iload C dX6_tries_60 rfl ?_
        refine jm_iload_n C dX6_tries_62 rfl ?_
        refine jm_iload_n C dX6_tries_63 rfl ?_
        refine jm_iload C dX6_tries_64 rfl ?_
        refine jm_iload C dX6_tries_66 rfl ?_
        refine jm_iload C dX6_tries_68 rfl ?_
        refine jm_cVv (n := 6) (ci := 6) [] C (kX6_goes E w (hk_tku J g) Q _ _ _ _ _ _ (by omega) (by omega) (by omega) (by omega) (by omega) (by omega) (by rw [hJt]; exact p3) (by rw [hJu]; exact p4)) jw_m_RX6_143 okX6_goes rfl ⟨rfl, rfl⟩ ⟨Nat.le_of_ble_eq_true rfl, Nat.le_of_ble_eq_true rfl⟩ rfl Q.1.1 Q.1.2 rfl rfl (Nat.le_of_ble_eq_true rfl) dX6_tries_70 ⟨Nat.le_of_ble_eq_true rfl, Nat.le_of_ble_eq_true rfl⟩ (fun yI40 yh38 => ?_)
        obtain ⟨gg1, gg2, gg3, gg4, gg5⟩ := yh38
        rw [hJt, hJu] at gg2 gg3
        refine jm_aload_n C dX6_tries_73 rfl ?_
        refine jm_getr (ci := 6) (f := 25) C rfl jw_u_6 Q.1.1 Q.1.2 rfl (by decide) jw_f_RX6_75 dX6_tries_74 ?_
        refine jm_iload C dX6_tries_77 rfl ?_
        refine jm_iald C (jm_X6_325 Q).1 rfl (jm_X6_325 Q).2 (by omega) (by omega) (by omega) dX6_tries_79 (fun yr41 => ?_)
        exact hR _ _ _ _ dX6_tries_80 rfl ⟨hk_cd_c (by rw [gg1 _ (by decide) (by decide), hk_tku_f (by decide) (by decide)]) hJ0, hk_wk_tr hJw (fun a b q1 q2 _ _ _ => by rw [gg1 a q1 q2, hk_tku_f q1 q2]), fun _ _ _ => by rw [gg3]⟩
      · skip
        refine jm_iconst C dX6_tries_45 ?_
        exact hR _ _ _ _ dX6_tries_46 rfl ⟨hk_cd3 (jm_up_s _ _ _ _) (by omega) (fun _ => yh3) (by omega), hk_wk_0 _ _, fun q1 q2 q3 => by
            exfalso
            rcases yh3 with ⟨_, e⟩ | ⟨e, _⟩
            · omega
            · exact e q2⟩
set_option maxRecDepth 100000 in
set_option maxHeartbeats 4000000 in
theorem kX6_worth (E : jm_E) (w : jm_W) (I : jm_M) (Q : jm_X6 E w) (g lane wt tn : Int) (g2 : 0 ≤ lane ∧ lane ≤ 8) (g3 : 0 ≤ wt ∧ wt ≤ 100) (g4 : -1 ≤ tn ∧ tn ≤ 1) (hgi : 0 ≤ g ∧ g < 12) (p1 : 0 ≤ I 314 g ∧ I 314 g < 3) (p2 : 0 ≤ hk_mslot I g ∧ hk_mslot I g < 6) (p3 : hk_w9 (hk_tku I g 324)) (p4 : hk_good (hk_tku I g 325)) (p5 : 0 ≤ I 317 g ∧ I 317 g ≤ 6) : jm_Mi E yX6_worth wX6_worth rmX6_worth 0 0 w I [.ref (w.2.1 300), jm_v g, jm_v lane, jm_v wt, jm_v tn] (fun I' z => (∀ a, a ≠ 324 → a ≠ 325 → I' a = I a) ∧ hk_out (I' 324) (I 324) 549 ∧ hk_out (I' 325) (I 325) 6 ∧ z = hk_mworth I g lane wt tn) := by
  refine jm_in_i (cc := cX6_worth) (maxL := 5) (rt := .int) RX6 (by decide +kernel) rfl rfl (Nat.le_of_ble_eq_true rfl) (by simp [Value.category]) ?_
  intro G C hR hI
  have hJt : hk_tku I g 324 = hk_tku I g 324 := rfl
  have hJu : hk_tku I g 325 = hk_tku I g 325 := rfl
  refine jm_aload_n C dX6_worth_0 rfl ?_
  refine jm_iload_n C dX6_worth_1 rfl ?_
  refine jm_cVu (n := 1) (ci := 6) [] C (kX6_takesUp E w I Q _ (by omega) (by omega)) jw_m_RX6_136 okX6_takesUp rfl ⟨rfl, rfl⟩ ⟨Nat.le_of_ble_eq_true rfl, Nat.le_of_ble_eq_true rfl⟩ rfl Q.1.1 Q.1.2 rfl rfl (Nat.le_of_ble_eq_true rfl) dX6_worth_2 ⟨Nat.le_of_ble_eq_true rfl, Nat.le_of_ble_eq_true rfl⟩ ?_
  refine jm_aload_n C dX6_worth_5 rfl ?_
  refine jm_aload_n C dX6_worth_6 rfl ?_
  refine jm_iload_n C dX6_worth_7 rfl ?_
  refine jm_cVd (n := 1) (ci := 6) [.ref (w.2.1 300)] C (kX6_slotOf E w (hk_tku I g) Q _ (by omega)) jw_m_RX6_140 okX6_slotOf rfl ⟨rfl, rfl⟩ ⟨Nat.le_of_ble_eq_true rfl, Nat.le_of_ble_eq_true rfl⟩ rfl Q.1.1 Q.1.2 rfl rfl (Nat.le_of_ble_eq_true rfl) dX6_worth_8 ⟨Nat.le_of_ble_eq_true rfl, Nat.le_of_ble_eq_true rfl⟩ (fun yz4 yh3 => ?_)
  rw [hk_mslot_c (I := I) (hk_tku_f (by decide) (by decide)) (hk_tku_f (by decide) (by decide)) (hk_tku_f (by decide) (by decide))] at yh3
  subst yh3
  refine jm_iload_n C dX6_worth_11 rfl ?_
  refine jm_iload_n C dX6_worth_12 rfl ?_
  refine jm_iload C dX6_worth_13 rfl ?_
  refine jm_iconst C dX6_worth_15 ?_
  refine jm_iconst C dX6_worth_16 ?_
  refine jm_cVv (n := 6) (ci := 6) [] C (kX6_goes E w (hk_tku I g) Q _ _ _ _ _ _ (by omega) (by omega) (by omega) (by omega) (by decide) (by decide) p3 p4) jw_m_RX6_143 okX6_goes rfl ⟨rfl, rfl⟩ ⟨Nat.le_of_ble_eq_true rfl, Nat.le_of_ble_eq_true rfl⟩ rfl Q.1.1 Q.1.2 rfl rfl (Nat.le_of_ble_eq_true rfl) dX6_worth_17 ⟨Nat.le_of_ble_eq_true rfl, Nat.le_of_ble_eq_true rfl⟩ (fun yI7 yh5 => ?_)
  obtain ⟨gg1, gg2, gg3, gg4, gg5⟩ := yh5
  have hJ2 : ∀ a, a ≠ 324 → a ≠ 325 → yI7 a = I a := fun a q1 q2 => (gg1 a q1 q2).trans (hk_tku_f q1 q2)
  refine jm_aload_n C dX6_worth_20 rfl ?_
  refine jm_iload_n C dX6_worth_21 rfl ?_
  refine jm_cVd (n := 1) (ci := 6) [] C (kX6_turnOf E w yI7 Q _ (by omega)) jw_m_RX6_119 okX6_turnOf rfl ⟨rfl, rfl⟩ ⟨Nat.le_of_ble_eq_true rfl, Nat.le_of_ble_eq_true rfl⟩ rfl Q.1.1 Q.1.2 rfl rfl (Nat.le_of_ble_eq_true rfl) dX6_worth_22 ⟨Nat.le_of_ble_eq_true rfl, Nat.le_of_ble_eq_true rfl⟩ (fun yz9 yh8 => ?_)
  rw [hk_mturn_c (hJ2 309 (by decide) (by decide)) (hJ2 317 (by decide) (by decide)) (hJ2 318 (by decide) (by decide))] at yh8
  have hmtr : -100 ≤ hk_mturn I g ∧ hk_mturn I g ≤ 100 := hk_mturn_r p2 p5
  subst yh8
  refine jm_if_ne 35 C dX6_worth_25 rfl (by omega) (fun yc10 => ?_) (fun yc10 => ?_)
  · skip
    refine jm_aload_n C dX6_worth_35 rfl ?_
    refine jm_cVd (n := 0) (ci := 6) [] C (kX6_scored E w yI7 Q) jw_m_RX6_122 okX6_scored rfl ⟨rfl, rfl⟩ ⟨Nat.le_of_ble_eq_true rfl, Nat.le_of_ble_eq_true rfl⟩ rfl Q.1.1 Q.1.2 rfl rfl (Nat.le_of_ble_eq_true rfl) dX6_worth_36 ⟨Nat.le_of_ble_eq_true rfl, Nat.le_of_ble_eq_true rfl⟩ (fun yz12 yh11 => ?_)
    subst yh11
    have yh11r : -6 ≤ hk_scd (yI7 325) ∧ hk_scd (yI7 325) ≤ 6 := hk_nn_R (yI7 325) _ _ 6
    refine jm_ineg C dX6_worth_39 ?_
    exact hR _ _ _ _ dX6_worth_40 rfl ⟨hJ2, by rw [gg2]; exact hk_out_tr (hk_mch_out 7 _ _ _ _ _ _ _ _ _ p3 p4 p2 g2 (by omega) (by omega)).1 (hk_tku_out4 I g), by rw [gg3]; exact hk_out_tr (hk_mch_out 7 _ _ _ _ _ _ _ _ _ p3 p4 p2 g2 (by omega) (by omega)).2 (hk_tku_out5 I g), by unfold hk_mworth; rw [← gg3]; first | rw [if_pos (by omega)] | rw [if_neg (by omega)]⟩
  · skip
    refine jm_aload_n C dX6_worth_28 rfl ?_
    refine jm_cVd (n := 0) (ci := 6) [] C (kX6_scored E w yI7 Q) jw_m_RX6_122 okX6_scored rfl ⟨rfl, rfl⟩ ⟨Nat.le_of_ble_eq_true rfl, Nat.le_of_ble_eq_true rfl⟩ rfl Q.1.1 Q.1.2 rfl rfl (Nat.le_of_ble_eq_true rfl) dX6_worth_29 ⟨Nat.le_of_ble_eq_true rfl, Nat.le_of_ble_eq_true rfl⟩ (fun yz14 yh13 => ?_)
    subst yh13
    have yh13r : -6 ≤ hk_scd (yI7 325) ∧ hk_scd (yI7 325) ≤ 6 := hk_nn_R (yI7 325) _ _ 6
    refine jm_goto 40 C dX6_worth_32 rfl ?_
    exact hR _ _ _ _ dX6_worth_40 rfl ⟨hJ2, by rw [gg2]; exact hk_out_tr (hk_mch_out 7 _ _ _ _ _ _ _ _ _ p3 p4 p2 g2 (by omega) (by omega)).1 (hk_tku_out4 I g), by rw [gg3]; exact hk_out_tr (hk_mch_out 7 _ _ _ _ _ _ _ _ _ p3 p4 p2 g2 (by omega) (by omega)).2 (hk_tku_out5 I g), by unfold hk_mworth; rw [← gg3]; first | rw [if_pos (by omega)] | rw [if_neg (by omega)]⟩
