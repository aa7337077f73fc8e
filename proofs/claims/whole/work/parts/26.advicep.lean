set_option maxRecDepth 100000 in
set_option maxHeartbeats 4000000 in
theorem kX6_advice (E : jm_E) (w : jm_W) (I : jm_M) (Q : jm_X6 E w) (hg8 : 0 ≤ I 300 8 ∧ I 300 8 ≤ 12) (g : Int) (g1 : jm_R g) (hpl : ∀ i, 0 ≤ i → i < I 300 8 → I 309 i = 2 → (0 ≤ I 314 i ∧ I 314 i < 3) ∧ (0 ≤ hk_mslot I i ∧ hk_mslot I i < 6) ∧ hk_w9 (hk_tku I i 324) ∧ hk_good (hk_tku I i 325) ∧ (0 ≤ I 317 i ∧ I 317 i ≤ 6)) : jm_Mi E yX6_advice wX6_advice rmX6_advice 0 0 w I [.ref (w.2.1 300), jm_v g] (fun I' z => hk_cd I' (0 ≤ g ∧ g < I 300 8) (I 309 g = 2) True ∧ hk_wk I I' ∧ ((0 ≤ g ∧ g < I 300 8) → I 309 g = 2 → z = (hk_adv (hk_advm I g) hk_advc 90).1)) := by
  refine jm_in_i (cc := cX6_advice) (maxL := 12) (rt := .int) RX6 (by decide +kernel) rfl rfl (Nat.le_of_ble_eq_true rfl) (by simp [Value.category]) ?_
  intro G C hR hI
  refine jm_aload_n C dX6_advice_0 rfl ?_
  refine jm_iload_n C dX6_advice_1 rfl ?_
  refine jm_cVd (n := 1) (ci := 6) [] C (kX6_isGame E w I Q _ g1 hg8) jw_m_RX6_126 okX6_isGame rfl ⟨rfl, rfl⟩ ⟨Nat.le_of_ble_eq_true rfl, Nat.le_of_ble_eq_true rfl⟩ rfl Q.1.1 Q.1.2 rfl rfl (Nat.le_of_ble_eq_true rfl) dX6_advice_2 ⟨Nat.le_of_ble_eq_true rfl, Nat.le_of_ble_eq_true rfl⟩ (fun yz2 yh1 => ?_)
  refine jm_istore_n C dX6_advice_5 (by decide) ?_
  refine jm_aload_n C dX6_advice_6 rfl ?_
  refine jm_iload_n C dX6_advice_7 rfl ?_
  refine jm_iload_n C dX6_advice_8 rfl ?_
  refine jm_if_eq 26 C dX6_advice_9 rfl (by omega) (fun yc3 => ?_) (fun yc3 => ?_)
  · skip
    refine jm_iconst C dX6_advice_26 ?_
    refine jm_cVd (n := 2) (ci := 6) [] C (kX6_asked_ E w I Q _ _ (by omega) (by omega)) jw_m_RX6_161 okX6_asked_ rfl ⟨rfl, rfl⟩ ⟨Nat.le_of_ble_eq_true rfl, Nat.le_of_ble_eq_true rfl⟩ rfl Q.1.1 Q.1.2 rfl rfl (Nat.le_of_ble_eq_true rfl) dX6_advice_27 ⟨Nat.le_of_ble_eq_true rfl, Nat.le_of_ble_eq_true rfl⟩ (fun yz5 yh4 => ?_)
    refine jm_if_ne 35 C dX6_advice_30 rfl (by omega) (fun yc6 => ?_) (fun yc6 => ?_)
    · skip
      have hgi : 0 ≤ g ∧ g < I 300 8 := by omega
      have htt : I 309 g = 2 := by omega
      have hp := hpl g hgi.1 hgi.2 htt
      obtain ⟨J, hJ⟩ : ∃ X, X = jm_up I 300 0 (if (yz2 : Int) = 0 then 1 else if (0 : Int) = 0 then 2 else 0) := ⟨_, rfl⟩
      rw [← hJ]
      refine jm_R_all (fun hIJ => ?_)
      have hJ0 : hk_cd J (0 ≤ g ∧ g < I 300 8) (I 309 g = 2) True := hk_cd2 (by rw [hJ]; exact jm_up_s _ _ _ _) (by omega) (by omega)
      have hJw : hk_wk I J := by rw [hJ]; exact hk_wk_0 _ _
      have hJr : hk_wkr I J := by rw [hJ]; exact ⟨fun a _ _ ha => by funext b; exact jm_up_n (Or.inl ha), fun c _ => jm_up_n (Or.inl (by decide)), fun c _ => jm_up_n (Or.inl (by decide))⟩
      refine jm_iconst C dX6_advice_35 ?_
      refine jm_istore_n C dX6_advice_36 (by decide) ?_
      refine jm_iconst C dX6_advice_37 ?_
      refine jm_istore C dX6_advice_38 (by decide) ?_
      refine jm_iconst C dX6_advice_40 ?_
      refine jm_istore C dX6_advice_41 (by decide) ?_
      have lp43 : ∀ (yn43 : Nat) (m : Nat) (be : Int) (mo : Int) (M : jm_M), 90 - m < yn43 → (m ≤ 90) → ((be, mo) = hk_adv (hk_advm I g) hk_advc m) → (hk_wkr I M) → (M 300 = J 300) → (-6 ≤ mo ∧ mo ≤ 6) → (-1 ≤ be ∧ be ≤ 100000) → (∀ k j, jm_R (M k j)) → jm_J E G (0, 0) w M 43 [(0, .ref (w.2.1 300)), (1, jm_v g), (3, jm_v be), (4, jm_v mo), (5, jm_v ((m : Nat) : Int))] [] := by
        intro yn43
        induction yn43 with
        | zero => intro m be mo M hlt43 hm hbm hMr hMg hmo hber hImem; exact absurd hlt43 (Nat.not_lt_zero _)
        | succ yn43 ih43 =>
          intro m be mo M hlt43 hm hbm hMr hMg hmo hber hImem
          have e1 : ((m : Nat) : Int).tdiv 10 = (m : Int) / 10 := Int.tdiv_eq_ediv_of_nonneg (by omega)
          have e2 : (((m : Nat) : Int).tdiv 2).tmod 5 = (m : Int) / 2 % 5 := by rw [Int.tdiv_eq_ediv_of_nonneg (by omega), Int.tmod_eq_emod_of_nonneg (by omega)]
          have e4 : ((m : Nat) : Int).tdiv 2 = (m : Int) / 2 := Int.tdiv_eq_ediv_of_nonneg (by omega)
          have e3 : ((m : Nat) : Int).tmod 2 = (m : Int) % 2 := Int.tmod_eq_emod_of_nonneg (by omega)
          have hb1 : be = (hk_adv (hk_advm I g) hk_advc m).1 := congrArg Prod.fst hbm
          have hb2 : mo = (hk_adv (hk_advm I g) hk_advc m).2 := congrArg Prod.snd hbm
          refine jm_iload C dX6_advice_43 rfl ?_
          refine jm_bipush C dX6_advice_45 (by decide +kernel) ?_
          refine jm_icmp_ge 200 C dX6_advice_47 rfl (by omega) (by decide) (fun yc7 => ?_) (fun yc7 => ?_)
          · skip
            refine jm_iload_n C dX6_advice_200 rfl ?_
            exact hR _ _ _ _ dX6_advice_201 rfl ⟨hk_cd_c hMg hJ0, hk_wk_tr hJw (hk_wkr_wk hJr hMr hMg), fun _ _ => by rw [hb1, show m = 90 by omega]⟩
          · skip
            refine jm_iload C dX6_advice_50 rfl ?_
            refine jm_bipush C dX6_advice_52 (by decide +kernel) ?_
            refine jm_idiv C dX6_advice_54 (by omega) (by decide) (by decide) ?_
            refine jm_istore C dX6_advice_55 (by decide) ?_
            refine jm_bipush C dX6_advice_57 (by decide +kernel) ?_
            refine jm_iload C dX6_advice_59 rfl ?_
            refine jm_iconst C dX6_advice_61 ?_
            refine jm_idiv C dX6_advice_62 (by omega) (by decide) (by decide) ?_
            refine jm_iconst C dX6_advice_63 ?_
            refine jm_irem C dX6_advice_64 (by omega) (by decide) (by decide) ?_
            refine jm_bipush C dX6_advice_65 (by decide +kernel) ?_
            refine jm_imul C dX6_advice_67 ?_
            refine jm_iadd C dX6_advice_68 ?_
            refine jm_istore C dX6_advice_69 (by decide) ?_
            refine jm_iload C dX6_advice_71 rfl ?_
            refine jm_iconst C dX6_advice_73 ?_
            refine jm_irem C dX6_advice_74 (by omega) (by decide) (by decide) ?_
            have yj10 : ∀ (yz9 : Int), ((((m : Nat) : Int).tmod 2 = 0 ∧ yz9 = (-1)) ∨ (¬ (((m : Nat) : Int).tmod 2 = 0) ∧ yz9 = 1)) → jm_R yz9 → jm_J E G (0, 0) w M 83 [(0, .ref (w.2.1 300)), (1, jm_v g), (3, jm_v be), (4, jm_v mo), (5, jm_v ((m : Nat) : Int)), (6, jm_v (((m : Nat) : Int).tdiv 10)), (7, jm_v (40 + (((((m : Nat) : Int).tdiv 2).tmod 5) * 10)))] [jm_v yz9] := by
              intro yz9 ye11 ryz9
              refine jm_istore C dX6_advice_83 (by decide) ?_
              refine jm_aload_n C dX6_advice_85 rfl ?_
              refine jm_iload_n C dX6_advice_86 rfl ?_
              refine jm_iload C dX6_advice_87 rfl ?_
              refine jm_iload C dX6_advice_89 rfl ?_
              refine jm_iload C dX6_advice_91 rfl ?_
              refine jm_cVi (n := 4) (ci := 6) [] C (kX6_worth E w M Q _ _ _ _ (by omega) (by omega) (by omega) (by omega) (by rw [hk_wkr_14 hMr]; exact hp.1) (by rw [hk_wkr_sl hMr]; exact hp.2.1) (by rw [hk_wkr_t4 hMr]; exact hp.2.2.1) (by rw [hk_wkr_t5 hMr]; exact hp.2.2.2.1) (by rw [hk_wkr_17 hMr]; exact hp.2.2.2.2)) jw_m_RX6_170 okX6_worth rfl ⟨rfl, rfl⟩ ⟨Nat.le_of_ble_eq_true rfl, Nat.le_of_ble_eq_true rfl⟩ rfl Q.1.1 Q.1.2 rfl rfl (Nat.le_of_ble_eq_true rfl) dX6_advice_93 ⟨Nat.le_of_ble_eq_true rfl, Nat.le_of_ble_eq_true rfl⟩ (fun yI14 yz13 yh12 => ?_)
              obtain ⟨hw1o, hw1x, hw1y, hw1z⟩ := yh12
              rw [hk_wkr_mw hMr] at hw1z
              have hw1r : -6 ≤ yz13 ∧ yz13 ≤ 6 := by rw [hw1z]; exact hk_mworth_r _ _ _ _ _
              have hw1 : hk_wkr I yI14 := hk_wkr_st hMr hw1o hw1x hw1y
              have hw1g : yI14 300 = J 300 := (hw1o 300 (by decide) (by decide)).trans hMg
              refine jm_istore C dX6_advice_96 (by decide) ?_
              refine jm_aload_n C dX6_advice_98 rfl ?_
              refine jm_iload_n C dX6_advice_99 rfl ?_
              refine jm_iload C dX6_advice_100 rfl ?_
              refine jm_iload C dX6_advice_102 rfl ?_
              refine jm_iconst C dX6_advice_104 ?_
              refine jm_isub C dX6_advice_105 ?_
              refine jm_iload C dX6_advice_106 rfl ?_
              refine jm_cVi (n := 4) (ci := 6) [] C (kX6_worth E w yI14 Q _ _ _ _ (by omega) (by omega) (by omega) (by omega) (by rw [hk_wkr_14 hw1]; exact hp.1) (by rw [hk_wkr_sl hw1]; exact hp.2.1) (by rw [hk_wkr_t4 hw1]; exact hp.2.2.1) (by rw [hk_wkr_t5 hw1]; exact hp.2.2.2.1) (by rw [hk_wkr_17 hw1]; exact hp.2.2.2.2)) jw_m_RX6_170 okX6_worth rfl ⟨rfl, rfl⟩ ⟨Nat.le_of_ble_eq_true rfl, Nat.le_of_ble_eq_true rfl⟩ rfl Q.1.1 Q.1.2 rfl rfl (Nat.le_of_ble_eq_true rfl) dX6_advice_108 ⟨Nat.le_of_ble_eq_true rfl, Nat.le_of_ble_eq_true rfl⟩ (fun yI17 yz16 yh15 => ?_)
              obtain ⟨hw2o, hw2x, hw2y, hw2z⟩ := yh15
              rw [hk_wkr_mw hw1] at hw2z
              have hw2r : -6 ≤ yz16 ∧ yz16 ≤ 6 := by rw [hw2z]; exact hk_mworth_r _ _ _ _ _
              have hw2 : hk_wkr I yI17 := hk_wkr_st hw1 hw2o hw2x hw2y
              have hw2g : yI17 300 = J 300 := (hw2o 300 (by decide) (by decide)).trans hw1g
              refine jm_istore C dX6_advice_111 (by decide) ?_
              refine jm_aload_n C dX6_advice_113 rfl ?_
              refine jm_iload_n C dX6_advice_114 rfl ?_
              refine jm_iload C dX6_advice_115 rfl ?_
              refine jm_iload C dX6_advice_117 rfl ?_
              refine jm_iconst C dX6_advice_119 ?_
              refine jm_iadd C dX6_advice_120 ?_
              refine jm_iload C dX6_advice_121 rfl ?_
              refine jm_cVi (n := 4) (ci := 6) [] C (kX6_worth E w yI17 Q _ _ _ _ (by omega) (by omega) (by omega) (by omega) (by rw [hk_wkr_14 hw2]; exact hp.1) (by rw [hk_wkr_sl hw2]; exact hp.2.1) (by rw [hk_wkr_t4 hw2]; exact hp.2.2.1) (by rw [hk_wkr_t5 hw2]; exact hp.2.2.2.1) (by rw [hk_wkr_17 hw2]; exact hp.2.2.2.2)) jw_m_RX6_170 okX6_worth rfl ⟨rfl, rfl⟩ ⟨Nat.le_of_ble_eq_true rfl, Nat.le_of_ble_eq_true rfl⟩ rfl Q.1.1 Q.1.2 rfl rfl (Nat.le_of_ble_eq_true rfl) dX6_advice_123 ⟨Nat.le_of_ble_eq_true rfl, Nat.le_of_ble_eq_true rfl⟩ (fun yI20 yz19 yh18 => ?_)
              obtain ⟨hw3o, hw3x, hw3y, hw3z⟩ := yh18
              rw [hk_wkr_mw hw2] at hw3z
              have hw3r : -6 ≤ yz19 ∧ yz19 ≤ 6 := by rw [hw3z]; exact hk_mworth_r _ _ _ _ _
              have hw3 : hk_wkr I yI20 := hk_wkr_st hw2 hw3o hw3x hw3y
              have hw3g : yI20 300 = J 300 := (hw3o 300 (by decide) (by decide)).trans hw2g
              refine jm_istore C dX6_advice_126 (by decide) ?_
              rw [e1, e2] at hw1z hw2z hw3z
              have ht3 : yz9 = if (m : Int) % 2 = 0 then -1 else 1 := by
                by_cases hq : (m : Int) % 2 = 0
                · rw [if_pos hq]; omega
                · rw [if_neg hq]; omega
              rw [ht3] at hw1z hw2z hw3z
              refine jm_iload C dX6_advice_128 rfl ?_
              refine jm_iload C dX6_advice_130 rfl ?_
              have yj23 : ∀ (yz22 : Int), ((yz13 ≤ yz16 ∧ yz22 = yz13) ∨ (¬ (yz13 ≤ yz16) ∧ yz22 = yz16)) → jm_R yz22 → jm_J E G (0, 0) w yI20 142 [(0, .ref (w.2.1 300)), (1, jm_v g), (3, jm_v be), (4, jm_v mo), (5, jm_v ((m : Nat) : Int)), (6, jm_v (((m : Nat) : Int).tdiv 10)), (7, jm_v (40 + (((((m : Nat) : Int).tdiv 2).tmod 5) * 10))), (11, jm_v yz19)] [jm_v yz22] := by
                intro yz22 ye24 ryz22
                refine jm_istore C dX6_advice_142 (by decide) ?_
                refine jm_iload C dX6_advice_144 rfl ?_
                refine jm_iload C dX6_advice_146 rfl ?_
                have yj27 : ∀ (yz26 : Int), ((yz22 ≤ yz19 ∧ yz26 = yz22) ∨ (¬ (yz22 ≤ yz19) ∧ yz26 = yz19)) → jm_R yz26 → jm_J E G (0, 0) w yI20 158 [(0, .ref (w.2.1 300)), (1, jm_v g), (3, jm_v be), (4, jm_v mo), (5, jm_v ((m : Nat) : Int)), (6, jm_v (((m : Nat) : Int).tdiv 10)), (7, jm_v (40 + (((((m : Nat) : Int).tdiv 2).tmod 5) * 10)))] [jm_v yz26] := by
                  intro yz26 ye28 ryz26
                  refine jm_istore C dX6_advice_158 (by decide) ?_
                  refine jm_R_all (fun hIq => ?_)
                  have hits : yz26 = hk_advm I g m := by
                    unfold hk_advm hk_m3
                    rw [← hw1z, ← hw2z, ← hw3z]
                    by_cases q1 : yz16 < yz13
                    · rw [if_pos q1]
                      by_cases q2 : yz19 < yz16
                      · rw [if_pos q2]; omega
                      · rw [if_neg q2]; omega
                    · rw [if_neg q1]
                      by_cases q2 : yz19 < yz13
                      · rw [if_pos q2]; omega
                      · rw [if_neg q2]; omega
                  refine jm_iload_n C dX6_advice_160 rfl ?_
                  refine jm_iconst C dX6_advice_161 ?_
                  refine jm_icmp_eq 172 C dX6_advice_162 rfl (by omega) (by decide) (fun yc29 => ?_) (fun yc29 => ?_)
                  · skip
                    refine jm_sipush C dX6_advice_172 (by decide +kernel) ?_
                    refine jm_iload C dX6_advice_175 rfl ?_
                    refine jm_imul C dX6_advice_177 ?_
                    refine jm_bipush C dX6_advice_178 (by decide +kernel) ?_
                    refine jm_iload C dX6_advice_180 rfl ?_
                    refine jm_imul C dX6_advice_182 ?_
                    refine jm_iadd C dX6_advice_183 ?_
                    refine jm_iload C dX6_advice_184 rfl ?_
                    refine jm_iconst C dX6_advice_186 ?_
                    refine jm_irem C dX6_advice_187 (by omega) (by decide) (by decide) ?_
                    refine jm_iadd C dX6_advice_188 ?_
                    refine jm_istore_n C dX6_advice_189 (by decide) ?_
                    refine jm_iload C dX6_advice_190 rfl ?_
                    refine jm_istore C dX6_advice_192 (by decide) ?_
                    refine jm_iinc C dX6_advice_194 (by decide) rfl ?_
                    refine jm_goto 43 C dX6_advice_197 rfl ?_
                    refine jm_lvs (lv' := [(0, _), (1, _), (3, _), (4, _), (5, _)]) (jm_sub_c rfl (jm_sub_c rfl (jm_sub_c rfl (jm_sub_c rfl (jm_sub_c rfl (jm_sub_0 _)))))) ?_
                    exact ih43 (m + 1) _ _ _ (by omega) (by omega) (by rw [hk_adv, ← hb1, ← hb2, ← hits]; first | (rw [if_pos (by omega)]; unfold hk_advc; rw [Prod.mk.injEq]; constructor <;> omega) | (rw [if_neg (by omega)]; exact hbm)) hw3 hw3g (by omega) (by omega) hIq
                  · skip
                    refine jm_iload C dX6_advice_165 rfl ?_
                    refine jm_iload C dX6_advice_167 rfl ?_
                    refine jm_icmp_le 194 C dX6_advice_169 rfl (by omega) (by omega) (fun yc30 => ?_) (fun yc30 => ?_)
                    · skip
                      refine jm_iinc C dX6_advice_194 (by decide) rfl ?_
                      refine jm_goto 43 C dX6_advice_197 rfl ?_
                      refine jm_lvs (lv' := [(0, _), (1, _), (3, _), (4, _), (5, _)]) (jm_sub_c rfl (jm_sub_c rfl (jm_sub_c rfl (jm_sub_c rfl (jm_sub_c rfl (jm_sub_0 _)))))) ?_
                      exact ih43 (m + 1) _ _ _ (by omega) (by omega) (by rw [hk_adv, ← hb1, ← hb2, ← hits]; first | (rw [if_pos (by omega)]; unfold hk_advc; rw [Prod.mk.injEq]; constructor <;> omega) | (rw [if_neg (by omega)]; exact hbm)) hw3 hw3g (by omega) (by omega) hIq
                    · skip
                      refine jm_sipush C dX6_advice_172 (by decide +kernel) ?_
                      refine jm_iload C dX6_advice_175 rfl ?_
                      refine jm_imul C dX6_advice_177 ?_
                      refine jm_bipush C dX6_advice_178 (by decide +kernel) ?_
                      refine jm_iload C dX6_advice_180 rfl ?_
                      refine jm_imul C dX6_advice_182 ?_
                      refine jm_iadd C dX6_advice_183 ?_
                      refine jm_iload C dX6_advice_184 rfl ?_
                      refine jm_iconst C dX6_advice_186 ?_
                      refine jm_irem C dX6_advice_187 (by omega) (by decide) (by decide) ?_
                      refine jm_iadd C dX6_advice_188 ?_
                      refine jm_istore_n C dX6_advice_189 (by decide) ?_
                      refine jm_iload C dX6_advice_190 rfl ?_
                      refine jm_istore C dX6_advice_192 (by decide) ?_
                      refine jm_iinc C dX6_advice_194 (by decide) rfl ?_
                      refine jm_goto 43 C dX6_advice_197 rfl ?_
                      refine jm_lvs (lv' := [(0, _), (1, _), (3, _), (4, _), (5, _)]) (jm_sub_c rfl (jm_sub_c rfl (jm_sub_c rfl (jm_sub_c rfl (jm_sub_c rfl (jm_sub_0 _)))))) ?_
                      exact ih43 (m + 1) _ _ _ (by omega) (by omega) (by rw [hk_adv, ← hb1, ← hb2, ← hits]; first | (rw [if_pos (by omega)]; unfold hk_advc; rw [Prod.mk.injEq]; constructor <;> omega) | (rw [if_neg (by omega)]; exact hbm)) hw3 hw3g (by omega) (by omega) hIq
                refine jm_icmp_ge 156 C dX6_advice_148 rfl (by omega) (by omega) (fun yc25 => ?_) (fun yc25 => ?_)
                · skip
                  refine jm_iload C dX6_advice_156 rfl ?_
                  refine jm_lvs (lv' := [(0, _), (1, _), (3, _), (4, _), (5, _), (6, _), (7, _)]) (jm_sub_c rfl (jm_sub_c rfl (jm_sub_c rfl (jm_sub_c rfl (jm_sub_c rfl (jm_sub_c rfl (jm_sub_c rfl (jm_sub_0 _)))))))) ?_
                  exact yj27 _ (Or.inl ⟨yc25, rfl⟩) (by omega)
                · skip
                  refine jm_iload C dX6_advice_151 rfl ?_
                  refine jm_goto 158 C dX6_advice_153 rfl ?_
                  refine jm_lvs (lv' := [(0, _), (1, _), (3, _), (4, _), (5, _), (6, _), (7, _)]) (jm_sub_c rfl (jm_sub_c rfl (jm_sub_c rfl (jm_sub_c rfl (jm_sub_c rfl (jm_sub_c rfl (jm_sub_c rfl (jm_sub_0 _)))))))) ?_
                  exact yj27 _ (Or.inr ⟨yc25, rfl⟩) (by omega)
              refine jm_icmp_ge 140 C dX6_advice_132 rfl (by omega) (by omega) (fun yc21 => ?_) (fun yc21 => ?_)
              · skip
                refine jm_iload C dX6_advice_140 rfl ?_
                refine jm_lvs (lv' := [(0, _), (1, _), (3, _), (4, _), (5, _), (6, _), (7, _), (11, _)]) (jm_sub_c rfl (jm_sub_c rfl (jm_sub_c rfl (jm_sub_c rfl (jm_sub_c rfl (jm_sub_c rfl (jm_sub_c rfl (jm_sub_c rfl (jm_sub_0 _))))))))) ?_
                exact yj23 _ (Or.inl ⟨yc21, rfl⟩) (by omega)
              · skip
                refine jm_iload C dX6_advice_135 rfl ?_
                refine jm_goto 142 C dX6_advice_137 rfl ?_
                refine jm_lvs (lv' := [(0, _), (1, _), (3, _), (4, _), (5, _), (6, _), (7, _), (11, _)]) (jm_sub_c rfl (jm_sub_c rfl (jm_sub_c rfl (jm_sub_c rfl (jm_sub_c rfl (jm_sub_c rfl (jm_sub_c rfl (jm_sub_c rfl (jm_sub_0 _))))))))) ?_
                exact yj23 _ (Or.inr ⟨yc21, rfl⟩) (by omega)
            refine jm_if_ne 82 C dX6_advice_75 rfl (by omega) (fun yc8 => ?_) (fun yc8 => ?_)
            · skip
              refine jm_iconst C dX6_advice_82 ?_
              refine jm_lvs (lv' := [(0, _), (1, _), (3, _), (4, _), (5, _), (6, _), (7, _)]) (jm_sub_c rfl (jm_sub_c rfl (jm_sub_c rfl (jm_sub_c rfl (jm_sub_c rfl (jm_sub_c rfl (jm_sub_c rfl (jm_sub_0 _)))))))) ?_
              exact yj10 _ (Or.inr ⟨yc8, rfl⟩) (by decide)
            · skip
              refine jm_iconst C dX6_advice_78 ?_
              refine jm_goto 83 C dX6_advice_79 rfl ?_
              refine jm_lvs (lv' := [(0, _), (1, _), (3, _), (4, _), (5, _), (6, _), (7, _)]) (jm_sub_c rfl (jm_sub_c rfl (jm_sub_c rfl (jm_sub_c rfl (jm_sub_c rfl (jm_sub_c rfl (jm_sub_c rfl (jm_sub_0 _)))))))) ?_
              exact yj10 _ (Or.inl ⟨yc8, rfl⟩) (by decide)
      refine jm_lvs (lv' := [(0, _), (1, _), (3, _), (4, _), (5, _)]) (jm_sub_c rfl (jm_sub_c rfl (jm_sub_c rfl (jm_sub_c rfl (jm_sub_c rfl (jm_sub_0 _)))))) ?_
      exact lp43 _ 0 _ _ _ (Nat.lt_succ_self _) (Nat.zero_le _) rfl hJr rfl (by decide) (by decide) hIJ
    · skip
      refine jm_iconst C dX6_advice_33 ?_
      exact hR _ _ _ _ dX6_advice_34 rfl ⟨hk_cd2 (jm_up_s _ _ _ _) (by omega) (by omega), hk_wk_0 _ _, fun q1 q2 => absurd q1 (by omega)⟩
  · skip
    refine jm_aload_n C dX6_advice_12 rfl ?_
    refine jm_getr (ci := 6) (f := 9) C rfl jw_u_6 Q.1.1 Q.1.2 rfl (by decide) jw_f_RX6_27 dX6_advice_13 ?_
    refine jm_iload_n C dX6_advice_16 rfl ?_
    refine jm_iald C (jm_X6_309 Q).1 rfl (jm_X6_309 Q).2 (by omega) (by omega) (by omega) dX6_advice_17 (fun yr31 => ?_)
    refine jm_iconst C dX6_advice_18 ?_
    refine jm_icmp_ne 26 C dX6_advice_19 rfl (by omega) (by decide) (fun yc32 => ?_) (fun yc32 => ?_)
    · skip
      refine jm_iconst C dX6_advice_26 ?_
      refine jm_cVd (n := 2) (ci := 6) [] C (kX6_asked_ E w I Q _ _ (by omega) (by omega)) jw_m_RX6_161 okX6_asked_ rfl ⟨rfl, rfl⟩ ⟨Nat.le_of_ble_eq_true rfl, Nat.le_of_ble_eq_true rfl⟩ rfl Q.1.1 Q.1.2 rfl rfl (Nat.le_of_ble_eq_true rfl) dX6_advice_27 ⟨Nat.le_of_ble_eq_true rfl, Nat.le_of_ble_eq_true rfl⟩ (fun yz34 yh33 => ?_)
      refine jm_if_ne 35 C dX6_advice_30 rfl (by omega) (fun yc35 => ?_) (fun yc35 => ?_)
      · skip
        have hgi : 0 ≤ g ∧ g < I 300 8 := by omega
        have htt : I 309 g = 2 := by omega
        have hp := hpl g hgi.1 hgi.2 htt
        obtain ⟨J, hJ⟩ : ∃ X, X = jm_up I 300 0 (if (yz2 : Int) = 0 then 1 else if (0 : Int) = 0 then 2 else 0) := ⟨_, rfl⟩
        rw [← hJ]
        refine jm_R_all (fun hIJ => ?_)
        have hJ0 : hk_cd J (0 ≤ g ∧ g < I 300 8) (I 309 g = 2) True := hk_cd2 (by rw [hJ]; exact jm_up_s _ _ _ _) (by omega) (by omega)
        have hJw : hk_wk I J := by rw [hJ]; exact hk_wk_0 _ _
        have hJr : hk_wkr I J := by rw [hJ]; exact ⟨fun a _ _ ha => by funext b; exact jm_up_n (Or.inl ha), fun c _ => jm_up_n (Or.inl (by decide)), fun c _ => jm_up_n (Or.inl (by decide))⟩
        refine jm_iconst C dX6_advice_35 ?_
        refine jm_istore_n C dX6_advice_36 (by decide) ?_
        refine jm_iconst C dX6_advice_37 ?_
        refine jm_istore C dX6_advice_38 (by decide) ?_
        refine jm_iconst C dX6_advice_40 ?_
        refine jm_istore C dX6_advice_41 (by decide) ?_
        have lp43 : ∀ (yn43 : Nat) (m : Nat) (be : Int) (mo : Int) (M : jm_M), 90 - m < yn43 → (m ≤ 90) → ((be, mo) = hk_adv (hk_advm I g) hk_advc m) → (hk_wkr I M) → (M 300 = J 300) → (-6 ≤ mo ∧ mo ≤ 6) → (-1 ≤ be ∧ be ≤ 100000) → (∀ k j, jm_R (M k j)) → jm_J E G (0, 0) w M 43 [(0, .ref (w.2.1 300)), (1, jm_v g), (3, jm_v be), (4, jm_v mo), (5, jm_v ((m : Nat) : Int))] [] := by
          intro yn43
          induction yn43 with
          | zero => intro m be mo M hlt43 hm hbm hMr hMg hmo hber hImem; exact absurd hlt43 (Nat.not_lt_zero _)
          | succ yn43 ih43 =>
            intro m be mo M hlt43 hm hbm hMr hMg hmo hber hImem
            have e1 : ((m : Nat) : Int).tdiv 10 = (m : Int) / 10 := Int.tdiv_eq_ediv_of_nonneg (by omega)
            have e2 : (((m : Nat) : Int).tdiv 2).tmod 5 = (m : Int) / 2 % 5 := by rw [Int.tdiv_eq_ediv_of_nonneg (by omega), Int.tmod_eq_emod_of_nonneg (by omega)]
            have e4 : ((m : Nat) : Int).tdiv 2 = (m : Int) / 2 := Int.tdiv_eq_ediv_of_nonneg (by omega)
            have e3 : ((m : Nat) : Int).tmod 2 = (m : Int) % 2 := Int.tmod_eq_emod_of_nonneg (by omega)
            have hb1 : be = (hk_adv (hk_advm I g) hk_advc m).1 := congrArg Prod.fst hbm
            have hb2 : mo = (hk_adv (hk_advm I g) hk_advc m).2 := congrArg Prod.snd hbm
            refine jm_iload C dX6_advice_43 rfl ?_
            refine jm_bipush C dX6_advice_45 (by decide +kernel) ?_
            refine jm_icmp_ge 200 C dX6_advice_47 rfl (by omega) (by decide) (fun yc36 => ?_) (fun yc36 => ?_)
            · skip
              refine jm_iload_n C dX6_advice_200 rfl ?_
              exact hR _ _ _ _ dX6_advice_201 rfl ⟨hk_cd_c hMg hJ0, hk_wk_tr hJw (hk_wkr_wk hJr hMr hMg), fun _ _ => by rw [hb1, show m = 90 by omega]⟩
            · skip
              refine jm_iload C dX6_advice_50 rfl ?_
              refine jm_bipush C dX6_advice_52 (by decide +kernel) ?_
              refine jm_idiv C dX6_advice_54 (by omega) (by decide) (by decide) ?_
              refine jm_istore C dX6_advice_55 (by decide) ?_
              refine jm_bipush C dX6_advice_57 (by decide +kernel) ?_
              refine jm_iload C dX6_advice_59 rfl ?_
              refine jm_iconst C dX6_advice_61 ?_
              refine jm_idiv C dX6_advice_62 (by omega) (by decide) (by decide) ?_
              refine jm_iconst C dX6_advice_63 ?_
              refine jm_irem C dX6_advice_64 (by omega) (by decide) (by decide) ?_
              refine jm_bipush C dX6_advice_65 (by decide +kernel) ?_
              refine jm_imul C dX6_advice_67 ?_
              refine jm_iadd C dX6_advice_68 ?_
              refine jm_istore C dX6_advice_69 (by decide) ?_
              refine jm_iload C dX6_advice_71 rfl ?_
              refine jm_iconst C dX6_advice_73 ?_
              refine jm_irem C dX6_advice_74 (by omega) (by decide) (by decide) ?_
              have yj39 : ∀ (yz38 : Int), ((((m : Nat) : Int).tmod 2 = 0 ∧ yz38 = (-1)) ∨ (¬ (((m : Nat) : Int).tmod 2 = 0) ∧ yz38 = 1)) → jm_R yz38 → jm_J E G (0, 0) w M 83 [(0, .ref (w.2.1 300)), (1, jm_v g), (3, jm_v be), (4, jm_v mo), (5, jm_v ((m : Nat) : Int)), (6, jm_v (((m : Nat) : Int).tdiv 10)), (7, jm_v (40 + (((((m : Nat) : Int).tdiv 2).tmod 5) * 10)))] [jm_v yz38] := by
                intro yz38 ye40 ryz38
                refine jm_istore C dX6_advice_83 (by decide) ?_
                refine jm_aload_n C dX6_advice_85 rfl ?_
                refine jm_iload_n C dX6_advice_86 rfl ?_
                refine jm_iload C dX6_advice_87 rfl ?_
                refine jm_iload C dX6_advice_89 rfl ?_
                refine jm_iload C dX6_advice_91 rfl ?_
                refine jm_cVi (n := 4) (ci := 6) [] C (kX6_worth E w M Q _ _ _ _ (by omega) (by omega) (by omega) (by omega) (by rw [hk_wkr_14 hMr]; exact hp.1) (by rw [hk_wkr_sl hMr]; exact hp.2.1) (by rw [hk_wkr_t4 hMr]; exact hp.2.2.1) (by rw [hk_wkr_t5 hMr]; exact hp.2.2.2.1) (by rw [hk_wkr_17 hMr]; exact hp.2.2.2.2)) jw_m_RX6_170 okX6_worth rfl ⟨rfl, rfl⟩ ⟨Nat.le_of_ble_eq_true rfl, Nat.le_of_ble_eq_true rfl⟩ rfl Q.1.1 Q.1.2 rfl rfl (Nat.le_of_ble_eq_true rfl) dX6_advice_93 ⟨Nat.le_of_ble_eq_true rfl, Nat.le_of_ble_eq_true rfl⟩ (fun yI43 yz42 yh41 => ?_)
                obtain ⟨hw4o, hw4x, hw4y, hw4z⟩ := yh41
                rw [hk_wkr_mw hMr] at hw4z
                have hw4r : -6 ≤ yz42 ∧ yz42 ≤ 6 := by rw [hw4z]; exact hk_mworth_r _ _ _ _ _
                have hw4 : hk_wkr I yI43 := hk_wkr_st hMr hw4o hw4x hw4y
                have hw4g : yI43 300 = J 300 := (hw4o 300 (by decide) (by decide)).trans hMg
                refine jm_istore C dX6_advice_96 (by decide) ?_
                refine jm_aload_n C dX6_advice_98 rfl ?_
                refine jm_iload_n C dX6_advice_99 rfl ?_
                refine jm_iload C dX6_advice_100 rfl ?_
                refine jm_iload C dX6_advice_102 rfl ?_
                refine jm_iconst C dX6_advice_104 ?_
                refine jm_isub C dX6_advice_105 ?_
                refine jm_iload C dX6_advice_106 rfl ?_
                refine jm_cVi (n := 4) (ci := 6) [] C (kX6_worth E w yI43 Q _ _ _ _ (by omega) (by omega) (by omega) (by omega) (by rw [hk_wkr_14 hw4]; exact hp.1) (by rw [hk_wkr_sl hw4]; exact hp.2.1) (by rw [hk_wkr_t4 hw4]; exact hp.2.2.1) (by rw [hk_wkr_t5 hw4]; exact hp.2.2.2.1) (by rw [hk_wkr_17 hw4]; exact hp.2.2.2.2)) jw_m_RX6_170 okX6_worth rfl ⟨rfl, rfl⟩ ⟨Nat.le_of_ble_eq_true rfl, Nat.le_of_ble_eq_true rfl⟩ rfl Q.1.1 Q.1.2 rfl rfl (Nat.le_of_ble_eq_true rfl) dX6_advice_108 ⟨Nat.le_of_ble_eq_true rfl, Nat.le_of_ble_eq_true rfl⟩ (fun yI46 yz45 yh44 => ?_)
                obtain ⟨hw5o, hw5x, hw5y, hw5z⟩ := yh44
                rw [hk_wkr_mw hw4] at hw5z
                have hw5r : -6 ≤ yz45 ∧ yz45 ≤ 6 := by rw [hw5z]; exact hk_mworth_r _ _ _ _ _
                have hw5 : hk_wkr I yI46 := hk_wkr_st hw4 hw5o hw5x hw5y
                have hw5g : yI46 300 = J 300 := (hw5o 300 (by decide) (by decide)).trans hw4g
                refine jm_istore C dX6_advice_111 (by decide) ?_
                refine jm_aload_n C dX6_advice_113 rfl ?_
                refine jm_iload_n C dX6_advice_114 rfl ?_
                refine jm_iload C dX6_advice_115 rfl ?_
                refine jm_iload C dX6_advice_117 rfl ?_
                refine jm_iconst C dX6_advice_119 ?_
                refine jm_iadd C dX6_advice_120 ?_
                refine jm_iload C dX6_advice_121 rfl ?_
                refine jm_cVi (n := 4) (ci := 6) [] C (kX6_worth E w yI46 Q _ _ _ _ (by omega) (by omega) (by omega) (by omega) (by rw [hk_wkr_14 hw5]; exact hp.1) (by rw [hk_wkr_sl hw5]; exact hp.2.1) (by rw [hk_wkr_t4 hw5]; exact hp.2.2.1) (by rw [hk_wkr_t5 hw5]; exact hp.2.2.2.1) (by rw [hk_wkr_17 hw5]; exact hp.2.2.2.2)) jw_m_RX6_170 okX6_worth rfl ⟨rfl, rfl⟩ ⟨Nat.le_of_ble_eq_true rfl, Nat.le_of_ble_eq_true rfl⟩ rfl Q.1.1 Q.1.2 rfl rfl (Nat.le_of_ble_eq_true rfl) dX6_advice_123 ⟨Nat.le_of_ble_eq_true rfl, Nat.le_of_ble_eq_true rfl⟩ (fun yI49 yz48 yh47 => ?_)
                obtain ⟨hw6o, hw6x, hw6y, hw6z⟩ := yh47
                rw [hk_wkr_mw hw5] at hw6z
                have hw6r : -6 ≤ yz48 ∧ yz48 ≤ 6 := by rw [hw6z]; exact hk_mworth_r _ _ _ _ _
                have hw6 : hk_wkr I yI49 := hk_wkr_st hw5 hw6o hw6x hw6y
                have hw6g : yI49 300 = J 300 := (hw6o 300 (by decide) (by decide)).trans hw5g
                refine jm_istore C dX6_advice_126 (by decide) ?_
                rw [e1, e2] at hw4z hw5z hw6z
                have ht3 : yz38 = if (m : Int) % 2 = 0 then -1 else 1 := by
                  by_cases hq : (m : Int) % 2 = 0
                  · rw [if_pos hq]; omega
                  · rw [if_neg hq]; omega
                rw [ht3] at hw4z hw5z hw6z
                refine jm_iload C dX6_advice_128 rfl ?_
                refine jm_iload C dX6_advice_130 rfl ?_
                have yj52 : ∀ (yz51 : Int), ((yz42 ≤ yz45 ∧ yz51 = yz42) ∨ (¬ (yz42 ≤ yz45) ∧ yz51 = yz45)) → jm_R yz51 → jm_J E G (0, 0) w yI49 142 [(0, .ref (w.2.1 300)), (1, jm_v g), (3, jm_v be), (4, jm_v mo), (5, jm_v ((m : Nat) : Int)), (6, jm_v (((m : Nat) : Int).tdiv 10)), (7, jm_v (40 + (((((m : Nat) : Int).tdiv 2).tmod 5) * 10))), (11, jm_v yz48)] [jm_v yz51] := by
                  intro yz51 ye53 ryz51
                  refine jm_istore C dX6_advice_142 (by decide) ?_
                  refine jm_iload C dX6_advice_144 rfl ?_
                  refine jm_iload C dX6_advice_146 rfl ?_
                  have yj56 : ∀ (yz55 : Int), ((yz51 ≤ yz48 ∧ yz55 = yz51) ∨ (¬ (yz51 ≤ yz48) ∧ yz55 = yz48)) → jm_R yz55 → jm_J E G (0, 0) w yI49 158 [(0, .ref (w.2.1 300)), (1, jm_v g), (3, jm_v be), (4, jm_v mo), (5, jm_v ((m : Nat) : Int)), (6, jm_v (((m : Nat) : Int).tdiv 10)), (7, jm_v (40 + (((((m : Nat) : Int).tdiv 2).tmod 5) * 10)))] [jm_v yz55] := by
                    intro yz55 ye57 ryz55
                    refine jm_istore C dX6_advice_158 (by decide) ?_
                    refine jm_R_all (fun hIq => ?_)
                    have hits : yz55 = hk_advm I g m := by
                      unfold hk_advm hk_m3
                      rw [← hw4z, ← hw5z, ← hw6z]
                      by_cases q1 : yz45 < yz42
                      · rw [if_pos q1]
                        by_cases q2 : yz48 < yz45
                        · rw [if_pos q2]; omega
                        · rw [if_neg q2]; omega
                      · rw [if_neg q1]
                        by_cases q2 : yz48 < yz42
                        · rw [if_pos q2]; omega
                        · rw [if_neg q2]; omega
                    refine jm_iload_n C dX6_advice_160 rfl ?_
                    refine jm_iconst C dX6_advice_161 ?_
                    refine jm_icmp_eq 172 C dX6_advice_162 rfl (by omega) (by decide) (fun yc58 => ?_) (fun yc58 => ?_)
                    · skip
                      refine jm_sipush C dX6_advice_172 (by decide +kernel) ?_
                      refine jm_iload C dX6_advice_175 rfl ?_
                      refine jm_imul C dX6_advice_177 ?_
                      refine jm_bipush C dX6_advice_178 (by decide +kernel) ?_
                      refine jm_iload C dX6_advice_180 rfl ?_
                      refine jm_imul C dX6_advice_182 ?_
                      refine jm_iadd C dX6_advice_183 ?_
                      refine jm_iload C dX6_advice_184 rfl ?_
                      refine jm_iconst C dX6_advice_186 ?_
                      refine jm_irem C dX6_advice_187 (by omega) (by decide) (by decide) ?_
                      refine jm_iadd C dX6_advice_188 ?_
                      refine jm_istore_n C dX6_advice_189 (by decide) ?_
                      refine jm_iload C dX6_advice_190 rfl ?_
                      refine jm_istore C dX6_advice_192 (by decide) ?_
                      refine jm_iinc C dX6_advice_194 (by decide) rfl ?_
                      refine jm_goto 43 C dX6_advice_197 rfl ?_
                      refine jm_lvs (lv' := [(0, _), (1, _), (3, _), (4, _), (5, _)]) (jm_sub_c rfl (jm_sub_c rfl (jm_sub_c rfl (jm_sub_c rfl (jm_sub_c rfl (jm_sub_0 _)))))) ?_
                      exact ih43 (m + 1) _ _ _ (by omega) (by omega) (by rw [hk_adv, ← hb1, ← hb2, ← hits]; first | (rw [if_pos (by omega)]; unfold hk_advc; rw [Prod.mk.injEq]; constructor <;> omega) | (rw [if_neg (by omega)]; exact hbm)) hw6 hw6g (by omega) (by omega) hIq
                    · skip
                      refine jm_iload C dX6_advice_165 rfl ?_
                      refine jm_iload C dX6_advice_167 rfl ?_
                      refine jm_icmp_le 194 C dX6_advice_169 rfl (by omega) (by omega) (fun yc59 => ?_) (fun yc59 => ?_)
                      · skip
                        refine jm_iinc C dX6_advice_194 (by decide) rfl ?_
                        refine jm_goto 43 C dX6_advice_197 rfl ?_
                        refine jm_lvs (lv' := [(0, _), (1, _), (3, _), (4, _), (5, _)]) (jm_sub_c rfl (jm_sub_c rfl (jm_sub_c rfl (jm_sub_c rfl (jm_sub_c rfl (jm_sub_0 _)))))) ?_
                        exact ih43 (m + 1) _ _ _ (by omega) (by omega) (by rw [hk_adv, ← hb1, ← hb2, ← hits]; first | (rw [if_pos (by omega)]; unfold hk_advc; rw [Prod.mk.injEq]; constructor <;> omega) | (rw [if_neg (by omega)]; exact hbm)) hw6 hw6g (by omega) (by omega) hIq
                      · skip
                        refine jm_sipush C dX6_advice_172 (by decide +kernel) ?_
                        refine jm_iload C dX6_advice_175 rfl ?_
                        refine jm_imul C dX6_advice_177 ?_
                        refine jm_bipush C dX6_advice_178 (by decide +kernel) ?_
                        refine jm_iload C dX6_advice_180 rfl ?_
                        refine jm_imul C dX6_advice_182 ?_
                        refine jm_iadd C dX6_advice_183 ?_
                        refine jm_iload C dX6_advice_184 rfl ?_
                        refine jm_iconst C dX6_advice_186 ?_
                        refine jm_irem C dX6_advice_187 (by omega) (by decide) (by decide) ?_
                        refine jm_iadd C dX6_advice_188 ?_
                        refine jm_istore_n C dX6_advice_189 (by decide) ?_
                        refine jm_iload C dX6_advice_190 rfl ?_
                        refine jm_istore C dX6_advice_192 (by decide) ?_
                        refine jm_iinc C dX6_advice_194 (by decide) rfl ?_
                        refine jm_goto 43 C dX6_advice_197 rfl ?_
                        refine jm_lvs (lv' := [(0, _), (1, _), (3, _), (4, _), (5, _)]) (jm_sub_c rfl (jm_sub_c rfl (jm_sub_c rfl (jm_sub_c rfl (jm_sub_c rfl (jm_sub_0 _)))))) ?_
                        exact ih43 (m + 1) _ _ _ (by omega) (by omega) (by rw [hk_adv, ← hb1, ← hb2, ← hits]; first | (rw [if_pos (by omega)]; unfold hk_advc; rw [Prod.mk.injEq]; constructor <;> omega) | (rw [if_neg (by omega)]; exact hbm)) hw6 hw6g (by omega) (by omega) hIq
                  refine jm_icmp_ge 156 C dX6_advice_148 rfl (by omega) (by omega) (fun yc54 => ?_) (fun yc54 => ?_)
                  · skip
                    refine jm_iload C dX6_advice_156 rfl ?_
                    refine jm_lvs (lv' := [(0, _), (1, _), (3, _), (4, _), (5, _), (6, _), (7, _)]) (jm_sub_c rfl (jm_sub_c rfl (jm_sub_c rfl (jm_sub_c rfl (jm_sub_c rfl (jm_sub_c rfl (jm_sub_c rfl (jm_sub_0 _)))))))) ?_
                    exact yj56 _ (Or.inl ⟨yc54, rfl⟩) (by omega)
                  · skip
                    refine jm_iload C dX6_advice_151 rfl ?_
                    refine jm_goto 158 C dX6_advice_153 rfl ?_
                    refine jm_lvs (lv' := [(0, _), (1, _), (3, _), (4, _), (5, _), (6, _), (7, _)]) (jm_sub_c rfl (jm_sub_c rfl (jm_sub_c rfl (jm_sub_c rfl (jm_sub_c rfl (jm_sub_c rfl (jm_sub_c rfl (jm_sub_0 _)))))))) ?_
                    exact yj56 _ (Or.inr ⟨yc54, rfl⟩) (by omega)
                refine jm_icmp_ge 140 C dX6_advice_132 rfl (by omega) (by omega) (fun yc50 => ?_) (fun yc50 => ?_)
                · skip
                  refine jm_iload C dX6_advice_140 rfl ?_
                  refine jm_lvs (lv' := [(0, _), (1, _), (3, _), (4, _), (5, _), (6, _), (7, _), (11, _)]) (jm_sub_c rfl (jm_sub_c rfl (jm_sub_c rfl (jm_sub_c rfl (jm_sub_c rfl (jm_sub_c rfl (jm_sub_c rfl (jm_sub_c rfl (jm_sub_0 _))))))))) ?_
                  exact yj52 _ (Or.inl ⟨yc50, rfl⟩) (by omega)
                · skip
                  refine jm_iload C dX6_advice_135 rfl ?_
                  refine jm_goto 142 C dX6_advice_137 rfl ?_
                  refine jm_lvs (lv' := [(0, _), (1, _), (3, _), (4, _), (5, _), (6, _), (7, _), (11, _)]) (jm_sub_c rfl (jm_sub_c rfl (jm_sub_c rfl (jm_sub_c rfl (jm_sub_c rfl (jm_sub_c rfl (jm_sub_c rfl (jm_sub_c rfl (jm_sub_0 _))))))))) ?_
                  exact yj52 _ (Or.inr ⟨yc50, rfl⟩) (by omega)
              refine jm_if_ne 82 C dX6_advice_75 rfl (by omega) (fun yc37 => ?_) (fun yc37 => ?_)
              · skip
                refine jm_iconst C dX6_advice_82 ?_
                refine jm_lvs (lv' := [(0, _), (1, _), (3, _), (4, _), (5, _), (6, _), (7, _)]) (jm_sub_c rfl (jm_sub_c rfl (jm_sub_c rfl (jm_sub_c rfl (jm_sub_c rfl (jm_sub_c rfl (jm_sub_c rfl (jm_sub_0 _)))))))) ?_
                exact yj39 _ (Or.inr ⟨yc37, rfl⟩) (by decide)
              · skip
                refine jm_iconst C dX6_advice_78 ?_
                refine jm_goto 83 C dX6_advice_79 rfl ?_
                refine jm_lvs (lv' := [(0, _), (1, _), (3, _), (4, _), (5, _), (6, _), (7, _)]) (jm_sub_c rfl (jm_sub_c rfl (jm_sub_c rfl (jm_sub_c rfl (jm_sub_c rfl (jm_sub_c rfl (jm_sub_c rfl (jm_sub_0 _)))))))) ?_
                exact yj39 _ (Or.inl ⟨yc37, rfl⟩) (by decide)
        refine jm_lvs (lv' := [(0, _), (1, _), (3, _), (4, _), (5, _)]) (jm_sub_c rfl (jm_sub_c rfl (jm_sub_c rfl (jm_sub_c rfl (jm_sub_c rfl (jm_sub_0 _)))))) ?_
        exact lp43 _ 0 _ _ _ (Nat.lt_succ_self _) (Nat.zero_le _) rfl hJr rfl (by decide) (by decide) hIJ
      · skip
        refine jm_iconst C dX6_advice_33 ?_
        exact hR _ _ _ _ dX6_advice_34 rfl ⟨hk_cd2 (jm_up_s _ _ _ _) (by omega) (by omega), hk_wk_0 _ _, fun q1 q2 => absurd q1 (by omega)⟩
    · skip
      refine jm_iconst C dX6_advice_22 ?_
      refine jm_goto 27 C dX6_advice_23 rfl ?_
      refine jm_cVd (n := 2) (ci := 6) [] C (kX6_asked_ E w I Q _ _ (by omega) (by omega)) jw_m_RX6_161 okX6_asked_ rfl ⟨rfl, rfl⟩ ⟨Nat.le_of_ble_eq_true rfl, Nat.le_of_ble_eq_true rfl⟩ rfl Q.1.1 Q.1.2 rfl rfl (Nat.le_of_ble_eq_true rfl) dX6_advice_27 ⟨Nat.le_of_ble_eq_true rfl, Nat.le_of_ble_eq_true rfl⟩ (fun yz61 yh60 => ?_)
      refine jm_if_ne 35 C dX6_advice_30 rfl (by omega) (fun yc62 => ?_) (fun yc62 => ?_)
      · skip
        have hgi : 0 ≤ g ∧ g < I 300 8 := by omega
        have htt : I 309 g = 2 := by omega
        have hp := hpl g hgi.1 hgi.2 htt
        obtain ⟨J, hJ⟩ : ∃ X, X = jm_up I 300 0 (if (yz2 : Int) = 0 then 1 else if (1 : Int) = 0 then 2 else 0) := ⟨_, rfl⟩
        rw [← hJ]
        refine jm_R_all (fun hIJ => ?_)
        have hJ0 : hk_cd J (0 ≤ g ∧ g < I 300 8) (I 309 g = 2) True := hk_cd2 (by rw [hJ]; exact jm_up_s _ _ _ _) (by omega) (by omega)
        have hJw : hk_wk I J := by rw [hJ]; exact hk_wk_0 _ _
        have hJr : hk_wkr I J := by rw [hJ]; exact ⟨fun a _ _ ha => by funext b; exact jm_up_n (Or.inl ha), fun c _ => jm_up_n (Or.inl (by decide)), fun c _ => jm_up_n (Or.inl (by decide))⟩
        refine jm_iconst C dX6_advice_35 ?_
        refine jm_istore_n C dX6_advice_36 (by decide) ?_
        refine jm_iconst C dX6_advice_37 ?_
        refine jm_istore C dX6_advice_38 (by decide) ?_
        refine jm_iconst C dX6_advice_40 ?_
        refine jm_istore C dX6_advice_41 (by decide) ?_
        have lp43 : ∀ (yn43 : Nat) (m : Nat) (be : Int) (mo : Int) (M : jm_M), 90 - m < yn43 → (m ≤ 90) → ((be, mo) = hk_adv (hk_advm I g) hk_advc m) → (hk_wkr I M) → (M 300 = J 300) → (-6 ≤ mo ∧ mo ≤ 6) → (-1 ≤ be ∧ be ≤ 100000) → (∀ k j, jm_R (M k j)) → jm_J E G (0, 0) w M 43 [(0, .ref (w.2.1 300)), (1, jm_v g), (3, jm_v be), (4, jm_v mo), (5, jm_v ((m : Nat) : Int))] [] := by
          intro yn43
          induction yn43 with
          | zero => intro m be mo M hlt43 hm hbm hMr hMg hmo hber hImem; exact absurd hlt43 (Nat.not_lt_zero _)
          | succ yn43 ih43 =>
            intro m be mo M hlt43 hm hbm hMr hMg hmo hber hImem
            have e1 : ((m : Nat) : Int).tdiv 10 = (m : Int) / 10 := Int.tdiv_eq_ediv_of_nonneg (by omega)
            have e2 : (((m : Nat) : Int).tdiv 2).tmod 5 = (m : Int) / 2 % 5 := by rw [Int.tdiv_eq_ediv_of_nonneg (by omega), Int.tmod_eq_emod_of_nonneg (by omega)]
            have e4 : ((m : Nat) : Int).tdiv 2 = (m : Int) / 2 := Int.tdiv_eq_ediv_of_nonneg (by omega)
            have e3 : ((m : Nat) : Int).tmod 2 = (m : Int) % 2 := Int.tmod_eq_emod_of_nonneg (by omega)
            have hb1 : be = (hk_adv (hk_advm I g) hk_advc m).1 := congrArg Prod.fst hbm
            have hb2 : mo = (hk_adv (hk_advm I g) hk_advc m).2 := congrArg Prod.snd hbm
            refine jm_iload C dX6_advice_43 rfl ?_
            refine jm_bipush C dX6_advice_45 (by decide +kernel) ?_
            refine jm_icmp_ge 200 C dX6_advice_47 rfl (by omega) (by decide) (fun yc63 => ?_) (fun yc63 => ?_)
            · skip
              refine jm_iload_n C dX6_advice_200 rfl ?_
              exact hR _ _ _ _ dX6_advice_201 rfl ⟨hk_cd_c hMg hJ0, hk_wk_tr hJw (hk_wkr_wk hJr hMr hMg), fun _ _ => by rw [hb1, show m = 90 by omega]⟩
            · skip
              refine jm_iload C dX6_advice_50 rfl ?_
              refine jm_bipush C dX6_advice_52 (by decide +kernel) ?_
              refine jm_idiv C dX6_advice_54 (by omega) (by decide) (by decide) ?_
              refine jm_istore C dX6_advice_55 (by decide) ?_
              refine jm_bipush C dX6_advice_57 (by decide +kernel) ?_
              refine jm_iload C dX6_advice_59 rfl ?_
              refine jm_iconst C dX6_advice_61 ?_
              refine jm_idiv C dX6_advice_62 (by omega) (by decide) (by decide) ?_
              refine jm_iconst C dX6_advice_63 ?_
              refine jm_irem C dX6_advice_64 (by omega) (by decide) (by decide) ?_
              refine jm_bipush C dX6_advice_65 (by decide +kernel) ?_
              refine jm_imul C dX6_advice_67 ?_
              refine jm_iadd C dX6_advice_68 ?_
              refine jm_istore C dX6_advice_69 (by decide) ?_
              refine jm_iload C dX6_advice_71 rfl ?_
              refine jm_iconst C dX6_advice_73 ?_
              refine jm_irem C dX6_advice_74 (by omega) (by decide) (by decide) ?_
              have yj66 : ∀ (yz65 : Int), ((((m : Nat) : Int).tmod 2 = 0 ∧ yz65 = (-1)) ∨ (¬ (((m : Nat) : Int).tmod 2 = 0) ∧ yz65 = 1)) → jm_R yz65 → jm_J E G (0, 0) w M 83 [(0, .ref (w.2.1 300)), (1, jm_v g), (3, jm_v be), (4, jm_v mo), (5, jm_v ((m : Nat) : Int)), (6, jm_v (((m : Nat) : Int).tdiv 10)), (7, jm_v (40 + (((((m : Nat) : Int).tdiv 2).tmod 5) * 10)))] [jm_v yz65] := by
                intro yz65 ye67 ryz65
                refine jm_istore C dX6_advice_83 (by decide) ?_
                refine jm_aload_n C dX6_advice_85 rfl ?_
                refine jm_iload_n C dX6_advice_86 rfl ?_
                refine jm_iload C dX6_advice_87 rfl ?_
                refine jm_iload C dX6_advice_89 rfl ?_
                refine jm_iload C dX6_advice_91 rfl ?_
                refine jm_cVi (n := 4) (ci := 6) [] C (kX6_worth E w M Q _ _ _ _ (by omega) (by omega) (by omega) (by omega) (by rw [hk_wkr_14 hMr]; exact hp.1) (by rw [hk_wkr_sl hMr]; exact hp.2.1) (by rw [hk_wkr_t4 hMr]; exact hp.2.2.1) (by rw [hk_wkr_t5 hMr]; exact hp.2.2.2.1) (by rw [hk_wkr_17 hMr]; exact hp.2.2.2.2)) jw_m_RX6_170 okX6_worth rfl ⟨rfl, rfl⟩ ⟨Nat.le_of_ble_eq_true rfl, Nat.le_of_ble_eq_true rfl⟩ rfl Q.1.1 Q.1.2 rfl rfl (Nat.le_of_ble_eq_true rfl) dX6_advice_93 ⟨Nat.le_of_ble_eq_true rfl, Nat.le_of_ble_eq_true rfl⟩ (fun yI70 yz69 yh68 => ?_)
                obtain ⟨hw7o, hw7x, hw7y, hw7z⟩ := yh68
                rw [hk_wkr_mw hMr] at hw7z
                have hw7r : -6 ≤ yz69 ∧ yz69 ≤ 6 := by rw [hw7z]; exact hk_mworth_r _ _ _ _ _
                have hw7 : hk_wkr I yI70 := hk_wkr_st hMr hw7o hw7x hw7y
                have hw7g : yI70 300 = J 300 := (hw7o 300 (by decide) (by decide)).trans hMg
                refine jm_istore C dX6_advice_96 (by decide) ?_
                refine jm_aload_n C dX6_advice_98 rfl ?_
                refine jm_iload_n C dX6_advice_99 rfl ?_
                refine jm_iload C dX6_advice_100 rfl ?_
                refine jm_iload C dX6_advice_102 rfl ?_
                refine jm_iconst C dX6_advice_104 ?_
                refine jm_isub C dX6_advice_105 ?_
                refine jm_iload C dX6_advice_106 rfl ?_
                refine jm_cVi (n := 4) (ci := 6) [] C (kX6_worth E w yI70 Q _ _ _ _ (by omega) (by omega) (by omega) (by omega) (by rw [hk_wkr_14 hw7]; exact hp.1) (by rw [hk_wkr_sl hw7]; exact hp.2.1) (by rw [hk_wkr_t4 hw7]; exact hp.2.2.1) (by rw [hk_wkr_t5 hw7]; exact hp.2.2.2.1) (by rw [hk_wkr_17 hw7]; exact hp.2.2.2.2)) jw_m_RX6_170 okX6_worth rfl ⟨rfl, rfl⟩ ⟨Nat.le_of_ble_eq_true rfl, Nat.le_of_ble_eq_true rfl⟩ rfl Q.1.1 Q.1.2 rfl rfl (Nat.le_of_ble_eq_true rfl) dX6_advice_108 ⟨Nat.le_of_ble_eq_true rfl, Nat.le_of_ble_eq_true rfl⟩ (fun yI73 yz72 yh71 => ?_)
                obtain ⟨hw8o, hw8x, hw8y, hw8z⟩ := yh71
                rw [hk_wkr_mw hw7] at hw8z
                have hw8r : -6 ≤ yz72 ∧ yz72 ≤ 6 := by rw [hw8z]; exact hk_mworth_r _ _ _ _ _
                have hw8 : hk_wkr I yI73 := hk_wkr_st hw7 hw8o hw8x hw8y
                have hw8g : yI73 300 = J 300 := (hw8o 300 (by decide) (by decide)).trans hw7g
                refine jm_istore C dX6_advice_111 (by decide) ?_
                refine jm_aload_n C dX6_advice_113 rfl ?_
                refine jm_iload_n C dX6_advice_114 rfl ?_
                refine jm_iload C dX6_advice_115 rfl ?_
                refine jm_iload C dX6_advice_117 rfl ?_
                refine jm_iconst C dX6_advice_119 ?_
                refine jm_iadd C dX6_advice_120 ?_
                refine jm_iload C dX6_advice_121 rfl ?_
                refine jm_cVi (n := 4) (ci := 6) [] C (kX6_worth E w yI73 Q _ _ _ _ (by omega) (by omega) (by omega) (by omega) (by rw [hk_wkr_14 hw8]; exact hp.1) (by rw [hk_wkr_sl hw8]; exact hp.2.1) (by rw [hk_wkr_t4 hw8]; exact hp.2.2.1) (by rw [hk_wkr_t5 hw8]; exact hp.2.2.2.1) (by rw [hk_wkr_17 hw8]; exact hp.2.2.2.2)) jw_m_RX6_170 okX6_worth rfl ⟨rfl, rfl⟩ ⟨Nat.le_of_ble_eq_true rfl, Nat.le_of_ble_eq_true rfl⟩ rfl Q.1.1 Q.1.2 rfl rfl (Nat.le_of_ble_eq_true rfl) dX6_advice_123 ⟨Nat.le_of_ble_eq_true rfl, Nat.le_of_ble_eq_true rfl⟩ (fun yI76 yz75 yh74 => ?_)
                obtain ⟨hw9o, hw9x, hw9y, hw9z⟩ := yh74
                rw [hk_wkr_mw hw8] at hw9z
                have hw9r : -6 ≤ yz75 ∧ yz75 ≤ 6 := by rw [hw9z]; exact hk_mworth_r _ _ _ _ _
                have hw9 : hk_wkr I yI76 := hk_wkr_st hw8 hw9o hw9x hw9y
                have hw9g : yI76 300 = J 300 := (hw9o 300 (by decide) (by decide)).trans hw8g
                refine jm_istore C dX6_advice_126 (by decide) ?_
                rw [e1, e2] at hw7z hw8z hw9z
                have ht3 : yz65 = if (m : Int) % 2 = 0 then -1 else 1 := by
                  by_cases hq : (m : Int) % 2 = 0
                  · rw [if_pos hq]; omega
                  · rw [if_neg hq]; omega
                rw [ht3] at hw7z hw8z hw9z
                refine jm_iload C dX6_advice_128 rfl ?_
                refine jm_iload C dX6_advice_130 rfl ?_
                have yj79 : ∀ (yz78 : Int), ((yz69 ≤ yz72 ∧ yz78 = yz69) ∨ (¬ (yz69 ≤ yz72) ∧ yz78 = yz72)) → jm_R yz78 → jm_J E G (0, 0) w yI76 142 [(0, .ref (w.2.1 300)), (1, jm_v g), (3, jm_v be), (4, jm_v mo), (5, jm_v ((m : Nat) : Int)), (6, jm_v (((m : Nat) : Int).tdiv 10)), (7, jm_v (40 + (((((m : Nat) : Int).tdiv 2).tmod 5) * 10))), (11, jm_v yz75)] [jm_v yz78] := by
                  intro yz78 ye80 ryz78
                  refine jm_istore C dX6_advice_142 (by decide) ?_
                  refine jm_iload C dX6_advice_144 rfl ?_
                  refine jm_iload C dX6_advice_146 rfl ?_
                  have yj83 : ∀ (yz82 : Int), ((yz78 ≤ yz75 ∧ yz82 = yz78) ∨ (¬ (yz78 ≤ yz75) ∧ yz82 = yz75)) → jm_R yz82 → jm_J E G (0, 0) w yI76 158 [(0, .ref (w.2.1 300)), (1, jm_v g), (3, jm_v be), (4, jm_v mo), (5, jm_v ((m : Nat) : Int)), (6, jm_v (((m : Nat) : Int).tdiv 10)), (7, jm_v (40 + (((((m : Nat) : Int).tdiv 2).tmod 5) * 10)))] [jm_v yz82] := by
                    intro yz82 ye84 ryz82
                    refine jm_istore C dX6_advice_158 (by decide) ?_
                    refine jm_R_all (fun hIq => ?_)
                    have hits : yz82 = hk_advm I g m := by
                      unfold hk_advm hk_m3
                      rw [← hw7z, ← hw8z, ← hw9z]
                      by_cases q1 : yz72 < yz69
                      · rw [if_pos q1]
                        by_cases q2 : yz75 < yz72
                        · rw [if_pos q2]; omega
                        · rw [if_neg q2]; omega
                      · rw [if_neg q1]
                        by_cases q2 : yz75 < yz69
                        · rw [if_pos q2]; omega
                        · rw [if_neg q2]; omega
                    refine jm_iload_n C dX6_advice_160 rfl ?_
                    refine jm_iconst C dX6_advice_161 ?_
                    refine jm_icmp_eq 172 C dX6_advice_162 rfl (by omega) (by decide) (fun yc85 => ?_) (fun yc85 => ?_)
                    · skip
                      refine jm_sipush C dX6_advice_172 (by decide +kernel) ?_
                      refine jm_iload C dX6_advice_175 rfl ?_
                      refine jm_imul C dX6_advice_177 ?_
                      refine jm_bipush C dX6_advice_178 (by decide +kernel) ?_
                      refine jm_iload C dX6_advice_180 rfl ?_
                      refine jm_imul C dX6_advice_182 ?_
                      refine jm_iadd C dX6_advice_183 ?_
                      refine jm_iload C dX6_advice_184 rfl ?_
                      refine jm_iconst C dX6_advice_186 ?_
                      refine jm_irem C dX6_advice_187 (by omega) (by decide) (by decide) ?_
                      refine jm_iadd C dX6_advice_188 ?_
                      refine jm_istore_n C dX6_advice_189 (by decide) ?_
                      refine jm_iload C dX6_advice_190 rfl ?_
                      refine jm_istore C dX6_advice_192 (by decide) ?_
                      refine jm_iinc C dX6_advice_194 (by decide) rfl ?_
                      refine jm_goto 43 C dX6_advice_197 rfl ?_
                      refine jm_lvs (lv' := [(0, _), (1, _), (3, _), (4, _), (5, _)]) (jm_sub_c rfl (jm_sub_c rfl (jm_sub_c rfl (jm_sub_c rfl (jm_sub_c rfl (jm_sub_0 _)))))) ?_
                      exact ih43 (m + 1) _ _ _ (by omega) (by omega) (by rw [hk_adv, ← hb1, ← hb2, ← hits]; first | (rw [if_pos (by omega)]; unfold hk_advc; rw [Prod.mk.injEq]; constructor <;> omega) | (rw [if_neg (by omega)]; exact hbm)) hw9 hw9g (by omega) (by omega) hIq
                    · skip
                      refine jm_iload C dX6_advice_165 rfl ?_
                      refine jm_iload C dX6_advice_167 rfl ?_
                      refine jm_icmp_le 194 C dX6_advice_169 rfl (by omega) (by omega) (fun yc86 => ?_) (fun yc86 => ?_)
                      · skip
                        refine jm_iinc C dX6_advice_194 (by decide) rfl ?_
                        refine jm_goto 43 C dX6_advice_197 rfl ?_
                        refine jm_lvs (lv' := [(0, _), (1, _), (3, _), (4, _), (5, _)]) (jm_sub_c rfl (jm_sub_c rfl (jm_sub_c rfl (jm_sub_c rfl (jm_sub_c rfl (jm_sub_0 _)))))) ?_
                        exact ih43 (m + 1) _ _ _ (by omega) (by omega) (by rw [hk_adv, ← hb1, ← hb2, ← hits]; first | (rw [if_pos (by omega)]; unfold hk_advc; rw [Prod.mk.injEq]; constructor <;> omega) | (rw [if_neg (by omega)]; exact hbm)) hw9 hw9g (by omega) (by omega) hIq
                      · skip
                        refine jm_sipush C dX6_advice_172 (by decide +kernel) ?_
                        refine jm_iload C dX6_advice_175 rfl ?_
                        refine jm_imul C dX6_advice_177 ?_
                        refine jm_bipush C dX6_advice_178 (by decide +kernel) ?_
                        refine jm_iload C dX6_advice_180 rfl ?_
                        refine jm_imul C dX6_advice_182 ?_
                        refine jm_iadd C dX6_advice_183 ?_
                        refine jm_iload C dX6_advice_184 rfl ?_
                        refine jm_iconst C dX6_advice_186 ?_
                        refine jm_irem C dX6_advice_187 (by omega) (by decide) (by decide) ?_
                        refine jm_iadd C dX6_advice_188 ?_
                        refine jm_istore_n C dX6_advice_189 (by decide) ?_
                        refine jm_iload C dX6_advice_190 rfl ?_
                        refine jm_istore C dX6_advice_192 (by decide) ?_
                        refine jm_iinc C dX6_advice_194 (by decide) rfl ?_
                        refine jm_goto 43 C dX6_advice_197 rfl ?_
                        refine jm_lvs (lv' := [(0, _), (1, _), (3, _), (4, _), (5, _)]) (jm_sub_c rfl (jm_sub_c rfl (jm_sub_c rfl (jm_sub_c rfl (jm_sub_c rfl (jm_sub_0 _)))))) ?_
                        exact ih43 (m + 1) _ _ _ (by omega) (by omega) (by rw [hk_adv, ← hb1, ← hb2, ← hits]; first | (rw [if_pos (by omega)]; unfold hk_advc; rw [Prod.mk.injEq]; constructor <;> omega) | (rw [if_neg (by omega)]; exact hbm)) hw9 hw9g (by omega) (by omega) hIq
                  refine jm_icmp_ge 156 C dX6_advice_148 rfl (by omega) (by omega) (fun yc81 => ?_) (fun yc81 => ?_)
                  · skip
                    refine jm_iload C dX6_advice_156 rfl ?_
                    refine jm_lvs (lv' := [(0, _), (1, _), (3, _), (4, _), (5, _), (6, _), (7, _)]) (jm_sub_c rfl (jm_sub_c rfl (jm_sub_c rfl (jm_sub_c rfl (jm_sub_c rfl (jm_sub_c rfl (jm_sub_c rfl (jm_sub_0 _)))))))) ?_
                    exact yj83 _ (Or.inl ⟨yc81, rfl⟩) (by omega)
                  · skip
                    refine jm_iload C dX6_advice_151 rfl ?_
                    refine jm_goto 158 C dX6_advice_153 rfl ?_
                    refine jm_lvs (lv' := [(0, _), (1, _), (3, _), (4, _), (5, _), (6, _), (7, _)]) (jm_sub_c rfl (jm_sub_c rfl (jm_sub_c rfl (jm_sub_c rfl (jm_sub_c rfl (jm_sub_c rfl (jm_sub_c rfl (jm_sub_0 _)))))))) ?_
                    exact yj83 _ (Or.inr ⟨yc81, rfl⟩) (by omega)
                refine jm_icmp_ge 140 C dX6_advice_132 rfl (by omega) (by omega) (fun yc77 => ?_) (fun yc77 => ?_)
                · skip
                  refine jm_iload C dX6_advice_140 rfl ?_
                  refine jm_lvs (lv' := [(0, _), (1, _), (3, _), (4, _), (5, _), (6, _), (7, _), (11, _)]) (jm_sub_c rfl (jm_sub_c rfl (jm_sub_c rfl (jm_sub_c rfl (jm_sub_c rfl (jm_sub_c rfl (jm_sub_c rfl (jm_sub_c rfl (jm_sub_0 _))))))))) ?_
                  exact yj79 _ (Or.inl ⟨yc77, rfl⟩) (by omega)
                · skip
                  refine jm_iload C dX6_advice_135 rfl ?_
                  refine jm_goto 142 C dX6_advice_137 rfl ?_
                  refine jm_lvs (lv' := [(0, _), (1, _), (3, _), (4, _), (5, _), (6, _), (7, _), (11, _)]) (jm_sub_c rfl (jm_sub_c rfl (jm_sub_c rfl (jm_sub_c rfl (jm_sub_c rfl (jm_sub_c rfl (jm_sub_c rfl (jm_sub_c rfl (jm_sub_0 _))))))))) ?_
                  exact yj79 _ (Or.inr ⟨yc77, rfl⟩) (by omega)
              refine jm_if_ne 82 C dX6_advice_75 rfl (by omega) (fun yc64 => ?_) (fun yc64 => ?_)
              · skip
                refine jm_iconst C dX6_advice_82 ?_
                refine jm_lvs (lv' := [(0, _), (1, _), (3, _), (4, _), (5, _), (6, _), (7, _)]) (jm_sub_c rfl (jm_sub_c rfl (jm_sub_c rfl (jm_sub_c rfl (jm_sub_c rfl (jm_sub_c rfl (jm_sub_c rfl (jm_sub_0 _)))))))) ?_
                exact yj66 _ (Or.inr ⟨yc64, rfl⟩) (by decide)
              · skip
                refine jm_iconst C dX6_advice_78 ?_
                refine jm_goto 83 C dX6_advice_79 rfl ?_
                refine jm_lvs (lv' := [(0, _), (1, _), (3, _), (4, _), (5, _), (6, _), (7, _)]) (jm_sub_c rfl (jm_sub_c rfl (jm_sub_c rfl (jm_sub_c rfl (jm_sub_c rfl (jm_sub_c rfl (jm_sub_c rfl (jm_sub_0 _)))))))) ?_
                exact yj66 _ (Or.inl ⟨yc64, rfl⟩) (by decide)
        refine jm_lvs (lv' := [(0, _), (1, _), (3, _), (4, _), (5, _)]) (jm_sub_c rfl (jm_sub_c rfl (jm_sub_c rfl (jm_sub_c rfl (jm_sub_c rfl (jm_sub_0 _)))))) ?_
        exact lp43 _ 0 _ _ _ (Nat.lt_succ_self _) (Nat.zero_le _) rfl hJr rfl (by decide) (by decide) hIJ
      · skip
        refine jm_iconst C dX6_advice_33 ?_
        exact hR _ _ _ _ dX6_advice_34 rfl ⟨hk_cd2 (jm_up_s _ _ _ _) (by omega) (by omega), hk_wk_0 _ _, fun q1 q2 => absurd q1 (by omega)⟩
set_option maxRecDepth 100000 in
set_option maxHeartbeats 4000000 in
theorem kX6_standing (E : jm_E) (w : jm_W) (I : jm_M) (Q : jm_X6 E w) (p : Int) (g1 : jm_R p) (hav : ∀ t, 0 ≤ t → t < 6 → (0 ≤ I 323 t ∧ I 323 t ≤ 1000000) ∧ 0 ≤ I 322 t) : jm_Mi E yX6_standing wX6_standing rmX6_standing 0 0 w I [.ref (w.2.1 300), jm_v p] (fun I' z => hk_cd I' (0 ≤ p ∧ p ≤ 5) True True ∧ hk_wk I I' ∧ (0 ≤ p ∧ p ≤ 5 → z = hk_ord I 6 p)) := by
  refine jm_in_i (cc := cX6_standing) (maxL := 6) (rt := .int) RX6 (by decide +kernel) rfl rfl (Nat.le_of_ble_eq_true rfl) (by simp [Value.category]) ?_
  intro G C hR hI
  refine jm_aload_n C dX6_standing_0 rfl ?_
  refine jm_iload_n C dX6_standing_1 rfl ?_
  refine jm_iconst C dX6_standing_2 ?_
  refine jm_iconst C dX6_standing_3 ?_
  refine jm_cSd (n := 3) [.ref (w.2.1 300)] C (kX6_in E w I _ _ _ g1 (by decide) (by decide)) jw_m_RX6_90 okX6_in rfl ⟨rfl, rfl⟩ ⟨Nat.le_of_ble_eq_true rfl, Nat.le_of_ble_eq_true rfl⟩ rfl rfl (Nat.le_of_ble_eq_true rfl) dX6_standing_4 ⟨Nat.le_of_ble_eq_true rfl, Nat.le_of_ble_eq_true rfl⟩ (fun yz2 yh1 => ?_)
  refine jm_cVd (n := 1) (ci := 6) [] C (kX6_asked E w I Q _ (by omega)) jw_m_RX6_108 okX6_asked rfl ⟨rfl, rfl⟩ ⟨Nat.le_of_ble_eq_true rfl, Nat.le_of_ble_eq_true rfl⟩ rfl Q.1.1 Q.1.2 rfl rfl (Nat.le_of_ble_eq_true rfl) dX6_standing_7 ⟨Nat.le_of_ble_eq_true rfl, Nat.le_of_ble_eq_true rfl⟩ (fun yz4 yh3 => ?_)
  refine jm_if_ne 15 C dX6_standing_10 rfl (by omega) (fun yc5 => ?_) (fun yc5 => ?_)
  · skip
    obtain ⟨J, hJ⟩ : ∃ X, X = jm_up I 300 0 (if (yz2 : Int) = 0 then 1 else 0) := ⟨_, rfl⟩
    rw [← hJ]
    refine jm_R_all (fun hIJ => ?_)
    have hJw : hk_wk I J := by rw [hJ]; exact hk_wk_0 _ _
    have hJ0 : hk_cd J (0 ≤ p ∧ p ≤ 5) True True := hk_cd1 (by rw [hJ]; exact jm_up_s _ _ _ _) (by omega)
    have hJ1 : J 321 = I 321 := by rw [hJ]; funext b; exact jm_up_n (Or.inl (by decide))
    have hJ2 : J 322 = I 322 := by rw [hJ]; funext b; exact jm_up_n (Or.inl (by decide))
    have hJ3 : J 323 = I 323 := by rw [hJ]; funext b; exact jm_up_n (Or.inl (by decide))
    have hJ6 : J 326 = I 326 := by rw [hJ]; funext b; exact jm_up_n (Or.inl (by decide))
    refine jm_iconst C dX6_standing_15 ?_
    refine jm_istore_n C dX6_standing_16 (by decide) ?_
    have lp17 : ∀ (yn17 : Nat) (t : Nat) (M : jm_M), 6 - t < yn17 → (t ≤ 6) → (∀ a, a ≠ 326 → M a = J a) → (M 326 = hk_ord I t) → (∀ k j, jm_R (M k j)) → jm_J E G (0, 0) w M 17 [(0, .ref (w.2.1 300)), (1, jm_v p), (2, jm_v ((t : Nat) : Int))] [] := by
      intro yn17
      induction yn17 with
      | zero => intro t M hlt17 hm ho hor hImem; exact absurd hlt17 (Nat.not_lt_zero _)
      | succ yn17 ih17 =>
        intro t M hlt17 hm ho hor hImem
        have hM1 : M 321 = I 321 := (ho _ (by decide)).trans hJ1
        have hM2 : M 322 = I 322 := (ho _ (by decide)).trans hJ2
        have hM3 : M 323 = I 323 := (ho _ (by decide)).trans hJ3
        refine jm_iload_n C dX6_standing_17 rfl ?_
        refine jm_bipush C dX6_standing_18 (by decide +kernel) ?_
        refine jm_icmp_ge 140 C dX6_standing_20 rfl (by omega) (by decide) (fun yc6 => ?_) (fun yc6 => ?_)
        · skip
          refine jm_aload_n C dX6_standing_140 rfl ?_
          refine jm_getr (ci := 6) (f := 26) C rfl jw_u_6 Q.1.1 Q.1.2 rfl (by decide) jw_f_RX6_78 dX6_standing_141 ?_
          refine jm_iload_n C dX6_standing_144 rfl ?_
          refine jm_iald C (jm_X6_326 Q).1 rfl (jm_X6_326 Q).2 (by omega) (by omega) (by omega) dX6_standing_145 (fun yr7 => ?_)
          exact hR _ _ _ _ dX6_standing_146 rfl ⟨hk_cd_c (ho _ (by decide)) hJ0, hk_wk_tr hJw (fun a b _ _ q _ _ => congrFun (ho a q) b), fun _ => by rw [hor, show t = 6 by omega]⟩
        · skip
          refine jm_iconst C dX6_standing_23 ?_
          refine jm_istore_n C dX6_standing_24 (by decide) ?_
          refine jm_iconst C dX6_standing_25 ?_
          refine jm_istore C dX6_standing_26 (by decide) ?_
          have lp28 : ∀ (yn28 : Nat) (m2 : Nat) (cn : Int), 6 - m2 < yn28 → (m2 ≤ 6) → (cn = hk_mrk I t m2) → jm_J E G (0, 0) w M 28 [(0, .ref (w.2.1 300)), (1, jm_v p), (2, jm_v ((t : Nat) : Int)), (3, jm_v cn), (4, jm_v ((m2 : Nat) : Int))] [] := by
            intro yn28
            induction yn28 with
            | zero => intro m2 cn hlt28 hm hcn; exact absurd hlt28 (Nat.not_lt_zero _)
            | succ yn28 ih28 =>
              intro m2 cn hlt28 hm hcn
              have hcr := hk_mrk_r I t m2
              have hr1 := congrFun hM1 t
              have hr2 := congrFun hM1 m2
              refine jm_iload C dX6_standing_28 rfl ?_
              refine jm_bipush C dX6_standing_30 (by decide +kernel) ?_
              refine jm_icmp_ge 127 C dX6_standing_32 rfl (by omega) (by decide) (fun yc8 => ?_) (fun yc8 => ?_)
              · skip
                have hn6 := hk_mrk_r I t 6
                have hi6 : m2 = 6 := by omega
                subst hi6
                refine jm_aload_n C dX6_standing_127 rfl ?_
                refine jm_getr (ci := 6) (f := 26) C rfl jw_u_6 Q.1.1 Q.1.2 rfl (by decide) jw_f_RX6_78 dX6_standing_128 ?_
                refine jm_iload_n C dX6_standing_131 rfl ?_
                refine jm_iload_n C dX6_standing_132 rfl ?_
                refine jm_iast C (jm_X6_326 Q).1 rfl (jm_X6_326 Q).2 (by omega) (by omega) (by omega) dX6_standing_133 (by omega) ?_
                refine jm_iinc C dX6_standing_134 (by decide) rfl ?_
                refine jm_goto 17 C dX6_standing_137 rfl ?_
                refine jm_lvs (lv' := [(0, _), (1, _), (2, _)]) (jm_sub_c rfl (jm_sub_c rfl (jm_sub_c rfl (jm_sub_0 _)))) ?_
                exact ih17 (t + 1) _ (by omega) (by omega) (fun a ha => by funext b; rw [jm_up_n (Or.inl ha)]; exact congrFun (ho a ha) b) (by rw [hk_ord, ← hor]; funext b; unfold hk_pt jm_up; rw [hcn]; by_cases hb : b = hk_mrk I t 6; rw [if_pos hb]; exact if_pos ⟨rfl, hb⟩; rw [if_neg hb]; exact if_neg (fun q => hb q.2)) (jm_upR hImem (by omega))
              · skip
                refine jm_aload_n C dX6_standing_35 rfl ?_
                refine jm_getr (ci := 6) (f := 21) C rfl jw_u_6 Q.1.1 Q.1.2 rfl (by decide) jw_f_RX6_63 dX6_standing_36 ?_
                refine jm_iload C dX6_standing_39 rfl ?_
                refine jm_iald C (jm_X6_321 Q).1 rfl (jm_X6_321 Q).2 (by omega) (by omega) (by omega) dX6_standing_41 (fun yr9 => ?_)
                refine jm_aload_n C dX6_standing_42 rfl ?_
                refine jm_getr (ci := 6) (f := 21) C rfl jw_u_6 Q.1.1 Q.1.2 rfl (by decide) jw_f_RX6_63 dX6_standing_43 ?_
                refine jm_iload_n C dX6_standing_46 rfl ?_
                refine jm_iald C (jm_X6_321 Q).1 rfl (jm_X6_321 Q).2 (by omega) (by omega) (by omega) dX6_standing_47 (fun yr10 => ?_)
                refine jm_icmp_ne 89 C dX6_standing_48 rfl (by omega) (by omega) (fun yc11 => ?_) (fun yc11 => ?_)
                · skip
                  refine jm_iconst C dX6_standing_89 ?_
                  refine jm_istore C dX6_standing_90 (by decide) ?_
                  refine jm_iload_n C dX6_standing_92 rfl ?_
                  refine jm_aload_n C dX6_standing_93 rfl ?_
                  refine jm_getr (ci := 6) (f := 21) C rfl jw_u_6 Q.1.1 Q.1.2 rfl (by decide) jw_f_RX6_63 dX6_standing_94 ?_
                  refine jm_iload C dX6_standing_97 rfl ?_
                  refine jm_iald C (jm_X6_321 Q).1 rfl (jm_X6_321 Q).2 (by omega) (by omega) (by omega) dX6_standing_99 (fun yr12 => ?_)
                  refine jm_aload_n C dX6_standing_100 rfl ?_
                  refine jm_getr (ci := 6) (f := 21) C rfl jw_u_6 Q.1.1 Q.1.2 rfl (by decide) jw_f_RX6_63 dX6_standing_101 ?_
                  refine jm_iload_n C dX6_standing_104 rfl ?_
                  refine jm_iald C (jm_X6_321 Q).1 rfl (jm_X6_321 Q).2 (by omega) (by omega) (by omega) dX6_standing_105 (fun yr13 => ?_)
                  refine jm_icmp_gt 114 C dX6_standing_106 rfl (by omega) (by omega) (fun yc14 => ?_) (fun yc14 => ?_)
                  · skip
                    refine jm_iconst C dX6_standing_114 ?_
                    refine jm_goto 119 C dX6_standing_115 rfl ?_
                    refine jm_iadd C dX6_standing_119 ?_
                    refine jm_istore_n C dX6_standing_120 (by decide) ?_
                    refine jm_iinc C dX6_standing_121 (by decide) rfl ?_
                    refine jm_goto 28 C dX6_standing_124 rfl ?_
                    refine jm_lvs (lv' := [(0, _), (1, _), (2, _), (3, _), (4, _)]) (jm_sub_c rfl (jm_sub_c rfl (jm_sub_c rfl (jm_sub_c rfl (jm_sub_c rfl (jm_sub_0 _)))))) ?_
                    exact ih28 (m2 + 1) _ (by omega) (by omega) (by rw [hk_mrk, hcn]; unfold hk_mla; first | rw [if_pos (by omega)] | rw [if_neg (by omega)]; try omega)
                  · skip
                    refine jm_iload C dX6_standing_109 rfl ?_
                    refine jm_if_eq 118 C dX6_standing_111 rfl (by decide) (fun yc15 => ?_) (fun yc15 => ?_)
                    · skip
                      refine jm_iconst C dX6_standing_118 ?_
                      refine jm_iadd C dX6_standing_119 ?_
                      refine jm_istore_n C dX6_standing_120 (by decide) ?_
                      refine jm_iinc C dX6_standing_121 (by decide) rfl ?_
                      refine jm_goto 28 C dX6_standing_124 rfl ?_
                      refine jm_lvs (lv' := [(0, _), (1, _), (2, _), (3, _), (4, _)]) (jm_sub_c rfl (jm_sub_c rfl (jm_sub_c rfl (jm_sub_c rfl (jm_sub_c rfl (jm_sub_0 _)))))) ?_
                      exact ih28 (m2 + 1) _ (by omega) (by omega) (by rw [hk_mrk, hcn]; unfold hk_mla; first | rw [if_pos (by omega)] | rw [if_neg (by omega)]; try omega)
                    · skip
                      exact absurd yc15 (by decide)
                · skip
                  refine jm_aload_n C dX6_standing_51 rfl ?_
                  refine jm_iload C dX6_standing_52 rfl ?_
                  refine jm_cVd (n := 1) (ci := 6) [] C (kX6_average E w M Q _ (by omega)) jw_m_RX6_174 okX6_average rfl ⟨rfl, rfl⟩ ⟨Nat.le_of_ble_eq_true rfl, Nat.le_of_ble_eq_true rfl⟩ rfl Q.1.1 Q.1.2 rfl rfl (Nat.le_of_ble_eq_true rfl) dX6_standing_54 ⟨Nat.le_of_ble_eq_true rfl, Nat.le_of_ble_eq_true rfl⟩ (fun yz17 yh16 => ?_)
                  rw [hk_mavg_c hM2 hM3] at yh16
                  have yh16r := hk_mavg_r (hav ((m2 : Nat) : Int) (by omega) (by omega))
                  subst yh16
                  refine jm_aload_n C dX6_standing_57 rfl ?_
                  refine jm_iload_n C dX6_standing_58 rfl ?_
                  refine jm_cVd (n := 1) (ci := 6) [jm_v (hk_mavg I ((m2 : Nat) : Int))] C (kX6_average E w M Q _ (by omega)) jw_m_RX6_174 okX6_average rfl ⟨rfl, rfl⟩ ⟨Nat.le_of_ble_eq_true rfl, Nat.le_of_ble_eq_true rfl⟩ rfl Q.1.1 Q.1.2 rfl rfl (Nat.le_of_ble_eq_true rfl) dX6_standing_59 ⟨Nat.le_of_ble_eq_true rfl, Nat.le_of_ble_eq_true rfl⟩ (fun yz19 yh18 => ?_)
                  rw [hk_mavg_c hM2 hM3] at yh18
                  have yh18r := hk_mavg_r (hav ((t : Nat) : Int) (by omega) (by omega))
                  subst yh18
                  refine jm_icmp_lt 85 C dX6_standing_62 rfl (by omega) (by omega) (fun yc20 => ?_) (fun yc20 => ?_)
                  · skip
                    refine jm_iconst C dX6_standing_85 ?_
                    refine jm_goto 90 C dX6_standing_86 rfl ?_
                    refine jm_istore C dX6_standing_90 (by decide) ?_
                    refine jm_iload_n C dX6_standing_92 rfl ?_
                    refine jm_aload_n C dX6_standing_93 rfl ?_
                    refine jm_getr (ci := 6) (f := 21) C rfl jw_u_6 Q.1.1 Q.1.2 rfl (by decide) jw_f_RX6_63 dX6_standing_94 ?_
                    refine jm_iload C dX6_standing_97 rfl ?_
                    refine jm_iald C (jm_X6_321 Q).1 rfl (jm_X6_321 Q).2 (by omega) (by omega) (by omega) dX6_standing_99 (fun yr21 => ?_)
                    refine jm_aload_n C dX6_standing_100 rfl ?_
                    refine jm_getr (ci := 6) (f := 21) C rfl jw_u_6 Q.1.1 Q.1.2 rfl (by decide) jw_f_RX6_63 dX6_standing_101 ?_
                    refine jm_iload_n C dX6_standing_104 rfl ?_
                    refine jm_iald C (jm_X6_321 Q).1 rfl (jm_X6_321 Q).2 (by omega) (by omega) (by omega) dX6_standing_105 (fun yr22 => ?_)
                    refine jm_icmp_gt 114 C dX6_standing_106 rfl (by omega) (by omega) (fun yc23 => ?_) (fun yc23 => ?_)
                    · skip
                      refine jm_iconst C dX6_standing_114 ?_
                      refine jm_goto 119 C dX6_standing_115 rfl ?_
                      refine jm_iadd C dX6_standing_119 ?_
                      refine jm_istore_n C dX6_standing_120 (by decide) ?_
                      refine jm_iinc C dX6_standing_121 (by decide) rfl ?_
                      refine jm_goto 28 C dX6_standing_124 rfl ?_
                      refine jm_lvs (lv' := [(0, _), (1, _), (2, _), (3, _), (4, _)]) (jm_sub_c rfl (jm_sub_c rfl (jm_sub_c rfl (jm_sub_c rfl (jm_sub_c rfl (jm_sub_0 _)))))) ?_
                      exact ih28 (m2 + 1) _ (by omega) (by omega) (by rw [hk_mrk, hcn]; unfold hk_mla; first | rw [if_pos (by omega)] | rw [if_neg (by omega)]; try omega)
                    · skip
                      refine jm_iload C dX6_standing_109 rfl ?_
                      refine jm_if_eq 118 C dX6_standing_111 rfl (by decide) (fun yc24 => ?_) (fun yc24 => ?_)
                      · skip
                        exact absurd yc24 (by decide)
                      · skip
                        refine jm_iconst C dX6_standing_114 ?_
                        refine jm_goto 119 C dX6_standing_115 rfl ?_
                        refine jm_iadd C dX6_standing_119 ?_
                        refine jm_istore_n C dX6_standing_120 (by decide) ?_
                        refine jm_iinc C dX6_standing_121 (by decide) rfl ?_
                        refine jm_goto 28 C dX6_standing_124 rfl ?_
                        refine jm_lvs (lv' := [(0, _), (1, _), (2, _), (3, _), (4, _)]) (jm_sub_c rfl (jm_sub_c rfl (jm_sub_c rfl (jm_sub_c rfl (jm_sub_c rfl (jm_sub_0 _)))))) ?_
                        exact ih28 (m2 + 1) _ (by omega) (by omega) (by rw [hk_mrk, hcn]; unfold hk_mla; first | rw [if_pos (by omega)] | rw [if_neg (by omega)]; try omega)
                  · skip
                    refine jm_aload_n C dX6_standing_65 rfl ?_
                    refine jm_iload C dX6_standing_66 rfl ?_
                    refine jm_cVd (n := 1) (ci := 6) [] C (kX6_average E w M Q _ (by omega)) jw_m_RX6_174 okX6_average rfl ⟨rfl, rfl⟩ ⟨Nat.le_of_ble_eq_true rfl, Nat.le_of_ble_eq_true rfl⟩ rfl Q.1.1 Q.1.2 rfl rfl (Nat.le_of_ble_eq_true rfl) dX6_standing_68 ⟨Nat.le_of_ble_eq_true rfl, Nat.le_of_ble_eq_true rfl⟩ (fun yz26 yh25 => ?_)
                    rw [hk_mavg_c hM2 hM3] at yh25
                    have yh25r := hk_mavg_r (hav ((m2 : Nat) : Int) (by omega) (by omega))
                    subst yh25
                    refine jm_aload_n C dX6_standing_71 rfl ?_
                    refine jm_iload_n C dX6_standing_72 rfl ?_
                    refine jm_cVd (n := 1) (ci := 6) [jm_v (hk_mavg I ((m2 : Nat) : Int))] C (kX6_average E w M Q _ (by omega)) jw_m_RX6_174 okX6_average rfl ⟨rfl, rfl⟩ ⟨Nat.le_of_ble_eq_true rfl, Nat.le_of_ble_eq_true rfl⟩ rfl Q.1.1 Q.1.2 rfl rfl (Nat.le_of_ble_eq_true rfl) dX6_standing_73 ⟨Nat.le_of_ble_eq_true rfl, Nat.le_of_ble_eq_true rfl⟩ (fun yz28 yh27 => ?_)
                    rw [hk_mavg_c hM2 hM3] at yh27
                    have yh27r := hk_mavg_r (hav ((t : Nat) : Int) (by omega) (by omega))
                    subst yh27
                    refine jm_icmp_ne 89 C dX6_standing_76 rfl (by omega) (by omega) (fun yc29 => ?_) (fun yc29 => ?_)
                    · skip
                      refine jm_iconst C dX6_standing_89 ?_
                      refine jm_istore C dX6_standing_90 (by decide) ?_
                      refine jm_iload_n C dX6_standing_92 rfl ?_
                      refine jm_aload_n C dX6_standing_93 rfl ?_
                      refine jm_getr (ci := 6) (f := 21) C rfl jw_u_6 Q.1.1 Q.1.2 rfl (by decide) jw_f_RX6_63 dX6_standing_94 ?_
                      refine jm_iload C dX6_standing_97 rfl ?_
                      refine jm_iald C (jm_X6_321 Q).1 rfl (jm_X6_321 Q).2 (by omega) (by omega) (by omega) dX6_standing_99 (fun yr30 => ?_)
                      refine jm_aload_n C dX6_standing_100 rfl ?_
                      refine jm_getr (ci := 6) (f := 21) C rfl jw_u_6 Q.1.1 Q.1.2 rfl (by decide) jw_f_RX6_63 dX6_standing_101 ?_
                      refine jm_iload_n C dX6_standing_104 rfl ?_
                      refine jm_iald C (jm_X6_321 Q).1 rfl (jm_X6_321 Q).2 (by omega) (by omega) (by omega) dX6_standing_105 (fun yr31 => ?_)
                      refine jm_icmp_gt 114 C dX6_standing_106 rfl (by omega) (by omega) (fun yc32 => ?_) (fun yc32 => ?_)
                      · skip
                        refine jm_iconst C dX6_standing_114 ?_
                        refine jm_goto 119 C dX6_standing_115 rfl ?_
                        refine jm_iadd C dX6_standing_119 ?_
                        refine jm_istore_n C dX6_standing_120 (by decide) ?_
                        refine jm_iinc C dX6_standing_121 (by decide) rfl ?_
                        refine jm_goto 28 C dX6_standing_124 rfl ?_
                        refine jm_lvs (lv' := [(0, _), (1, _), (2, _), (3, _), (4, _)]) (jm_sub_c rfl (jm_sub_c rfl (jm_sub_c rfl (jm_sub_c rfl (jm_sub_c rfl (jm_sub_0 _)))))) ?_
                        exact ih28 (m2 + 1) _ (by omega) (by omega) (by rw [hk_mrk, hcn]; unfold hk_mla; first | rw [if_pos (by omega)] | rw [if_neg (by omega)]; try omega)
                      · skip
                        refine jm_iload C dX6_standing_109 rfl ?_
                        refine jm_if_eq 118 C dX6_standing_111 rfl (by decide) (fun yc33 => ?_) (fun yc33 => ?_)
                        · skip
                          refine jm_iconst C dX6_standing_118 ?_
                          refine jm_iadd C dX6_standing_119 ?_
                          refine jm_istore_n C dX6_standing_120 (by decide) ?_
                          refine jm_iinc C dX6_standing_121 (by decide) rfl ?_
                          refine jm_goto 28 C dX6_standing_124 rfl ?_
                          refine jm_lvs (lv' := [(0, _), (1, _), (2, _), (3, _), (4, _)]) (jm_sub_c rfl (jm_sub_c rfl (jm_sub_c rfl (jm_sub_c rfl (jm_sub_c rfl (jm_sub_0 _)))))) ?_
                          exact ih28 (m2 + 1) _ (by omega) (by omega) (by rw [hk_mrk, hcn]; unfold hk_mla; first | rw [if_pos (by omega)] | rw [if_neg (by omega)]; try omega)
                        · skip
                          exact absurd yc33 (by decide)
                    · skip
                      refine jm_iload C dX6_standing_79 rfl ?_
                      refine jm_iload_n C dX6_standing_81 rfl ?_
                      refine jm_icmp_ge 89 C dX6_standing_82 rfl (by omega) (by omega) (fun yc34 => ?_) (fun yc34 => ?_)
                      · skip
                        refine jm_iconst C dX6_standing_89 ?_
                        refine jm_istore C dX6_standing_90 (by decide) ?_
                        refine jm_iload_n C dX6_standing_92 rfl ?_
                        refine jm_aload_n C dX6_standing_93 rfl ?_
                        refine jm_getr (ci := 6) (f := 21) C rfl jw_u_6 Q.1.1 Q.1.2 rfl (by decide) jw_f_RX6_63 dX6_standing_94 ?_
                        refine jm_iload C dX6_standing_97 rfl ?_
                        refine jm_iald C (jm_X6_321 Q).1 rfl (jm_X6_321 Q).2 (by omega) (by omega) (by omega) dX6_standing_99 (fun yr35 => ?_)
                        refine jm_aload_n C dX6_standing_100 rfl ?_
                        refine jm_getr (ci := 6) (f := 21) C rfl jw_u_6 Q.1.1 Q.1.2 rfl (by decide) jw_f_RX6_63 dX6_standing_101 ?_
                        refine jm_iload_n C dX6_standing_104 rfl ?_
                        refine jm_iald C (jm_X6_321 Q).1 rfl (jm_X6_321 Q).2 (by omega) (by omega) (by omega) dX6_standing_105 (fun yr36 => ?_)
                        refine jm_icmp_gt 114 C dX6_standing_106 rfl (by omega) (by omega) (fun yc37 => ?_) (fun yc37 => ?_)
                        · skip
                          refine jm_iconst C dX6_standing_114 ?_
                          refine jm_goto 119 C dX6_standing_115 rfl ?_
                          refine jm_iadd C dX6_standing_119 ?_
                          refine jm_istore_n C dX6_standing_120 (by decide) ?_
                          refine jm_iinc C dX6_standing_121 (by decide) rfl ?_
                          refine jm_goto 28 C dX6_standing_124 rfl ?_
                          refine jm_lvs (lv' := [(0, _), (1, _), (2, _), (3, _), (4, _)]) (jm_sub_c rfl (jm_sub_c rfl (jm_sub_c rfl (jm_sub_c rfl (jm_sub_c rfl (jm_sub_0 _)))))) ?_
                          exact ih28 (m2 + 1) _ (by omega) (by omega) (by rw [hk_mrk, hcn]; unfold hk_mla; first | rw [if_pos (by omega)] | rw [if_neg (by omega)]; try omega)
                        · skip
                          refine jm_iload C dX6_standing_109 rfl ?_
                          refine jm_if_eq 118 C dX6_standing_111 rfl (by decide) (fun yc38 => ?_) (fun yc38 => ?_)
                          · skip
                            refine jm_iconst C dX6_standing_118 ?_
                            refine jm_iadd C dX6_standing_119 ?_
                            refine jm_istore_n C dX6_standing_120 (by decide) ?_
                            refine jm_iinc C dX6_standing_121 (by decide) rfl ?_
                            refine jm_goto 28 C dX6_standing_124 rfl ?_
                            refine jm_lvs (lv' := [(0, _), (1, _), (2, _), (3, _), (4, _)]) (jm_sub_c rfl (jm_sub_c rfl (jm_sub_c rfl (jm_sub_c rfl (jm_sub_c rfl (jm_sub_0 _)))))) ?_
                            exact ih28 (m2 + 1) _ (by omega) (by omega) (by rw [hk_mrk, hcn]; unfold hk_mla; first | rw [if_pos (by omega)] | rw [if_neg (by omega)]; try omega)
                          · skip
                            exact absurd yc38 (by decide)
                      · skip
                        refine jm_iconst C dX6_standing_85 ?_
                        refine jm_goto 90 C dX6_standing_86 rfl ?_
                        refine jm_istore C dX6_standing_90 (by decide) ?_
                        refine jm_iload_n C dX6_standing_92 rfl ?_
                        refine jm_aload_n C dX6_standing_93 rfl ?_
                        refine jm_getr (ci := 6) (f := 21) C rfl jw_u_6 Q.1.1 Q.1.2 rfl (by decide) jw_f_RX6_63 dX6_standing_94 ?_
                        refine jm_iload C dX6_standing_97 rfl ?_
                        refine jm_iald C (jm_X6_321 Q).1 rfl (jm_X6_321 Q).2 (by omega) (by omega) (by omega) dX6_standing_99 (fun yr39 => ?_)
                        refine jm_aload_n C dX6_standing_100 rfl ?_
                        refine jm_getr (ci := 6) (f := 21) C rfl jw_u_6 Q.1.1 Q.1.2 rfl (by decide) jw_f_RX6_63 dX6_standing_101 ?_
                        refine jm_iload_n C dX6_standing_104 rfl ?_
                        refine jm_iald C (jm_X6_321 Q).1 rfl (jm_X6_321 Q).2 (by omega) (by omega) (by omega) dX6_standing_105 (fun yr40 => ?_)
                        refine jm_icmp_gt 114 C dX6_standing_106 rfl (by omega) (by omega) (fun yc41 => ?_) (fun yc41 => ?_)
                        · skip
                          refine jm_iconst C dX6_standing_114 ?_
                          refine jm_goto 119 C dX6_standing_115 rfl ?_
                          refine jm_iadd C dX6_standing_119 ?_
                          refine jm_istore_n C dX6_standing_120 (by decide) ?_
                          refine jm_iinc C dX6_standing_121 (by decide) rfl ?_
                          refine jm_goto 28 C dX6_standing_124 rfl ?_
                          refine jm_lvs (lv' := [(0, _), (1, _), (2, _), (3, _), (4, _)]) (jm_sub_c rfl (jm_sub_c rfl (jm_sub_c rfl (jm_sub_c rfl (jm_sub_c rfl (jm_sub_0 _)))))) ?_
                          exact ih28 (m2 + 1) _ (by omega) (by omega) (by rw [hk_mrk, hcn]; unfold hk_mla; first | rw [if_pos (by omega)] | rw [if_neg (by omega)]; try omega)
                        · skip
                          refine jm_iload C dX6_standing_109 rfl ?_
                          refine jm_if_eq 118 C dX6_standing_111 rfl (by decide) (fun yc42 => ?_) (fun yc42 => ?_)
                          · skip
                            exact absurd yc42 (by decide)
                          · skip
                            refine jm_iconst C dX6_standing_114 ?_
                            refine jm_goto 119 C dX6_standing_115 rfl ?_
                            refine jm_iadd C dX6_standing_119 ?_
                            refine jm_istore_n C dX6_standing_120 (by decide) ?_
                            refine jm_iinc C dX6_standing_121 (by decide) rfl ?_
                            refine jm_goto 28 C dX6_standing_124 rfl ?_
                            refine jm_lvs (lv' := [(0, _), (1, _), (2, _), (3, _), (4, _)]) (jm_sub_c rfl (jm_sub_c rfl (jm_sub_c rfl (jm_sub_c rfl (jm_sub_c rfl (jm_sub_0 _)))))) ?_
                            exact ih28 (m2 + 1) _ (by omega) (by omega) (by rw [hk_mrk, hcn]; unfold hk_mla; first | rw [if_pos (by omega)] | rw [if_neg (by omega)]; try omega)
          refine jm_lvs (lv' := [(0, _), (1, _), (2, _), (3, _), (4, _)]) (jm_sub_c rfl (jm_sub_c rfl (jm_sub_c rfl (jm_sub_c rfl (jm_sub_c rfl (jm_sub_0 _)))))) ?_
          exact lp28 _ 0 _ (Nat.lt_succ_self _) (Nat.zero_le _) rfl
    refine jm_lvs (lv' := [(0, _), (1, _), (2, _)]) (jm_sub_c rfl (jm_sub_c rfl (jm_sub_c rfl (jm_sub_0 _)))) ?_
    exact lp17 _ 0 _ (Nat.lt_succ_self _) (Nat.zero_le _) (fun _ _ => rfl) hJ6 hIJ
  · skip
    refine jm_iconst C dX6_standing_13 ?_
    exact hR _ _ _ _ dX6_standing_14 rfl ⟨hk_cd1 (jm_up_s _ _ _ _) (by omega), hk_wk_0 _ _, fun q => absurd q (by omega)⟩
set_option maxRecDepth 100000 in
set_option maxHeartbeats 4000000 in
theorem kX6_plan (E : jm_E) (w : jm_W) (I : jm_M) (Q : jm_X6 E w) (hg8 : 0 ≤ I 300 8 ∧ I 300 8 ≤ 12) (hnow : 0 ≤ I 300 1 ∧ I 300 1 ≤ 9999) (a b h s : Int) (g1 : jm_R a) (g2 : jm_R b) (g3 : jm_R h) (g4 : jm_R s) : jm_Mi E yX6_plan wX6_plan rmX6_plan 0 0 w I [.ref (w.2.1 300), jm_v a, jm_v b, jm_v h, jm_v s] (fun I' z => hk_cd I' ((0 ≤ a ∧ a ≤ 5) ∧ (0 ≤ b ∧ b ≤ 5) ∧ (0 ≤ s ∧ s ≤ 2)) (a ≠ b ∧ I 300 1 + 1 ≤ h ∧ h ≤ 9999) (I 300 8 < 12) ∧ (((0 ≤ a ∧ a ≤ 5) ∧ (0 ≤ b ∧ b ≤ 5) ∧ (0 ≤ s ∧ s ≤ 2)) → (a ≠ b ∧ I 300 1 + 1 ≤ h ∧ h ≤ 9999) → (I 300 8 < 12) → I' = hk_mplan I a b h s ∧ z = I 300 8) ∧ (¬ (((0 ≤ a ∧ a ≤ 5) ∧ (0 ≤ b ∧ b ≤ 5) ∧ (0 ≤ s ∧ s ≤ 2)) ∧ (a ≠ b ∧ I 300 1 + 1 ≤ h ∧ h ≤ 9999) ∧ (I 300 8 < 12)) → hk_wk I I')) := by
  refine jm_in_i (cc := cX6_plan) (maxL := 6) (rt := .int) RX6 (by decide +kernel) rfl rfl (Nat.le_of_ble_eq_true rfl) (by simp [Value.category]) ?_
  intro G C hR hI
  refine jm_aload_n C dX6_plan_0 rfl ?_
  refine jm_iload_n C dX6_plan_1 rfl ?_
  refine jm_cSd (n := 1) [.ref (w.2.1 300)] C (kX6_isTeam E w I _ g1) jw_m_RX6_94 okX6_isTeam rfl ⟨rfl, rfl⟩ ⟨Nat.le_of_ble_eq_true rfl, Nat.le_of_ble_eq_true rfl⟩ rfl rfl (Nat.le_of_ble_eq_true rfl) dX6_plan_2 ⟨Nat.le_of_ble_eq_true rfl, Nat.le_of_ble_eq_true rfl⟩ (fun yz2 yh1 => ?_)
  refine jm_if_eq 27 C dX6_plan_5 rfl (by omega) (fun yc3 => ?_) (fun yc3 => ?_)
  · skip
    refine jm_iconst C dX6_plan_27 ?_
    refine jm_iload_n C dX6_plan_28 rfl ?_
    refine jm_iload_n C dX6_plan_29 rfl ?_
    refine jm_icmp_eq 53 C dX6_plan_30 rfl g1 g2 (fun yc4 => ?_) (fun yc4 => ?_)
    · skip
      refine jm_iconst C dX6_plan_53 ?_
      refine jm_aload_n C dX6_plan_54 rfl ?_
      refine jm_get (ci := 6) (f := 8) 8 rfl C rfl jw_u_6 Q.1.1 Q.1.2 rfl (by decide) jw_f_RX6_87 dX6_plan_55 (fun yr5 => ?_)
      refine jm_bipush C dX6_plan_58 (by decide +kernel) ?_
      have yj8 : ∀ (yz7 : Int), ((12 ≤ I 300 8 ∧ yz7 = 0) ∨ (¬ (12 ≤ I 300 8) ∧ yz7 = 1)) → jm_R yz7 → jm_J E G (0, 0) w I 68 [(0, .ref (w.2.1 300)), (1, jm_v a), (2, jm_v b), (3, jm_v h), (4, jm_v s)] [jm_v yz7, jm_v 0, jm_v 0, .ref (w.2.1 300)] := by
        intro yz7 ye9 ryz7
        refine jm_cVd (n := 3) (ci := 6) [] C (kX6_asked__ E w I Q _ _ _ (by omega) (by omega) (by omega)) jw_m_RX6_104 okX6_asked__ rfl ⟨rfl, rfl⟩ ⟨Nat.le_of_ble_eq_true rfl, Nat.le_of_ble_eq_true rfl⟩ rfl Q.1.1 Q.1.2 rfl rfl (Nat.le_of_ble_eq_true rfl) dX6_plan_68 ⟨Nat.le_of_ble_eq_true rfl, Nat.le_of_ble_eq_true rfl⟩ (fun yz11 yh10 => ?_)
        refine jm_if_ne 76 C dX6_plan_71 rfl (by omega) (fun yc12 => ?_) (fun yc12 => ?_)
        · skip
          refine jm_aload_n C dX6_plan_76 rfl ?_
          refine jm_getr (ci := 6) (f := 10) C rfl jw_u_6 Q.1.1 Q.1.2 rfl (by decide) jw_f_RX6_30 dX6_plan_77 ?_
          refine jm_aload_n C dX6_plan_80 rfl ?_
          refine jm_getv (ci := 6) (f := 8) (I 300 8) 8 rfl (jm_up_n (Or.inr (by decide))) C rfl jw_u_6 Q.1.1 Q.1.2 rfl (by decide) jw_f_RX6_87 dX6_plan_81 (fun yr13 => ?_)
          refine jm_iload_n C dX6_plan_84 rfl ?_
          refine jm_iast C (jm_X6_310 Q).1 rfl (jm_X6_310 Q).2 (by omega) (by omega) (by omega) dX6_plan_85 g1 ?_
          refine jm_aload_n C dX6_plan_86 rfl ?_
          refine jm_getr (ci := 6) (f := 11) C rfl jw_u_6 Q.1.1 Q.1.2 rfl (by decide) jw_f_RX6_33 dX6_plan_87 ?_
          refine jm_aload_n C dX6_plan_90 rfl ?_
          refine jm_getv (ci := 6) (f := 8) (I 300 8) 8 rfl (Eq.trans (jm_up_n (Or.inl (by decide))) (jm_up_n (Or.inr (by decide)))) C rfl jw_u_6 Q.1.1 Q.1.2 rfl (by decide) jw_f_RX6_87 dX6_plan_91 (fun yr14 => ?_)
          refine jm_iload_n C dX6_plan_94 rfl ?_
          refine jm_iast C (jm_X6_311 Q).1 rfl (jm_X6_311 Q).2 (by omega) (by omega) (by omega) dX6_plan_95 g2 ?_
          refine jm_aload_n C dX6_plan_96 rfl ?_
          refine jm_getr (ci := 6) (f := 12) C rfl jw_u_6 Q.1.1 Q.1.2 rfl (by decide) jw_f_RX6_36 dX6_plan_97 ?_
          refine jm_aload_n C dX6_plan_100 rfl ?_
          refine jm_getv (ci := 6) (f := 8) (I 300 8) 8 rfl (Eq.trans (jm_up_n (Or.inl (by decide))) (Eq.trans (jm_up_n (Or.inl (by decide))) (jm_up_n (Or.inr (by decide))))) C rfl jw_u_6 Q.1.1 Q.1.2 rfl (by decide) jw_f_RX6_87 dX6_plan_101 (fun yr15 => ?_)
          refine jm_iload_n C dX6_plan_104 rfl ?_
          refine jm_iast C (jm_X6_312 Q).1 rfl (jm_X6_312 Q).2 (by omega) (by omega) (by omega) dX6_plan_105 g3 ?_
          refine jm_aload_n C dX6_plan_106 rfl ?_
          refine jm_getr (ci := 6) (f := 13) C rfl jw_u_6 Q.1.1 Q.1.2 rfl (by decide) jw_f_RX6_39 dX6_plan_107 ?_
          refine jm_aload_n C dX6_plan_110 rfl ?_
          refine jm_getv (ci := 6) (f := 8) (I 300 8) 8 rfl (Eq.trans (jm_up_n (Or.inl (by decide))) (Eq.trans (jm_up_n (Or.inl (by decide))) (Eq.trans (jm_up_n (Or.inl (by decide))) (jm_up_n (Or.inr (by decide)))))) C rfl jw_u_6 Q.1.1 Q.1.2 rfl (by decide) jw_f_RX6_87 dX6_plan_111 (fun yr16 => ?_)
          refine jm_iload C dX6_plan_114 rfl ?_
          refine jm_iast C (jm_X6_313 Q).1 rfl (jm_X6_313 Q).2 (by omega) (by omega) (by omega) dX6_plan_116 g4 ?_
          refine jm_aload_n C dX6_plan_117 rfl ?_
          refine jm_getr (ci := 6) (f := 14) C rfl jw_u_6 Q.1.1 Q.1.2 rfl (by decide) jw_f_RX6_42 dX6_plan_118 ?_
          refine jm_aload_n C dX6_plan_121 rfl ?_
          refine jm_getv (ci := 6) (f := 8) (I 300 8) 8 rfl (Eq.trans (jm_up_n (Or.inl (by decide))) (Eq.trans (jm_up_n (Or.inl (by decide))) (Eq.trans (jm_up_n (Or.inl (by decide))) (Eq.trans (jm_up_n (Or.inl (by decide))) (jm_up_n (Or.inr (by decide))))))) C rfl jw_u_6 Q.1.1 Q.1.2 rfl (by decide) jw_f_RX6_87 dX6_plan_122 (fun yr17 => ?_)
          refine jm_iconst C dX6_plan_125 ?_
          refine jm_iast C (jm_X6_314 Q).1 rfl (jm_X6_314 Q).2 (by omega) (by omega) (by omega) dX6_plan_126 (by decide) ?_
          refine jm_iconst C dX6_plan_127 ?_
          refine jm_istore C dX6_plan_128 (by decide) ?_
          have lp130 : ∀ (yn130 : Nat) (m : Nat), 6 - m < yn130 → (m ≤ 6) → jm_J E G (0, 0) w (hk_filo (jm_up (jm_up (jm_up (jm_up (jm_up (jm_up I 300 0 (if (0 : Int) = 0 then 1 else if (0 : Int) = 0 then 2 else if (yz7 : Int) = 0 then 3 else 0)) 310 (I 300 8) a) 311 (I 300 8) b) 312 (I 300 8) h) 313 (I 300 8) s) 314 (I 300 8) (-1)) 320 (6 * (I 300 8)) ((m : Nat) : Int) (fun _ => -1)) 130 [(0, .ref (w.2.1 300)), (5, jm_v ((m : Nat) : Int))] [] := by
            intro yn130
            induction yn130 with
            | zero => intro m hlt130 hm; exact absurd hlt130 (Nat.not_lt_zero _)
            | succ yn130 ih130 =>
              intro m hlt130 hm
              refine jm_iload C dX6_plan_130 rfl ?_
              refine jm_bipush C dX6_plan_132 (by decide +kernel) ?_
              refine jm_icmp_ge 159 C dX6_plan_134 rfl (by omega) (by decide) (fun yc18 => ?_) (fun yc18 => ?_)
              · skip
                refine jm_aload_n C dX6_plan_159 rfl ?_
                refine jm_dup C dX6_plan_160 rfl ?_
                refine jm_getv (ci := 6) (f := 8) (I 300 8) 8 rfl (Eq.trans (hk_filo_o (Or.inl (by decide))) (Eq.trans (jm_up_n (Or.inl (by decide))) (Eq.trans (jm_up_n (Or.inl (by decide))) (Eq.trans (jm_up_n (Or.inl (by decide))) (Eq.trans (jm_up_n (Or.inl (by decide))) (Eq.trans (jm_up_n (Or.inl (by decide))) (jm_up_n (Or.inr (by decide))))))))) C rfl jw_u_6 Q.1.1 Q.1.2 rfl (by decide) jw_f_RX6_87 dX6_plan_161 (fun yr19 => ?_)
                refine jm_iconst C dX6_plan_164 ?_
                refine jm_iadd C dX6_plan_165 ?_
                refine jm_put (ci := 6) (f := 8) (ty := .int) 8 rfl C rfl tyX6 tyX6_ok nmX6 jw_u_6 Q.1.1 Q.1.2 rfl (by decide) jw_f_RX6_87 rfl (by decide +kernel) rfl rfl dX6_plan_166 (by omega) ?_
                refine jm_aload_n C dX6_plan_169 rfl ?_
                refine jm_getv (ci := 6) (f := 8) ((I 300 8) + 1) 8 rfl (jm_up_s _ _ _ _) C rfl jw_u_6 Q.1.1 Q.1.2 rfl (by decide) jw_f_RX6_87 dX6_plan_170 (fun yr20 => ?_)
                refine jm_iconst C dX6_plan_173 ?_
                refine jm_isub C dX6_plan_174 ?_
                exact hR _ _ _ _ dX6_plan_175 rfl ⟨hk_cd3 (Eq.trans (jm_up_n (Or.inr (by decide))) (Eq.trans (hk_filo_o (Or.inl (by decide))) (Eq.trans (jm_up_n (Or.inl (by decide))) (Eq.trans (jm_up_n (Or.inl (by decide))) (Eq.trans (jm_up_n (Or.inl (by decide))) (Eq.trans (jm_up_n (Or.inl (by decide))) (Eq.trans (jm_up_n (Or.inl (by decide))) (jm_up_s _ _ _ _)))))))) (by omega) (by omega) (by omega), fun q1 q2 q3 => ⟨by unfold hk_mplan; rw [show m = 6 by omega, if_neg (by omega), if_neg (by omega), if_neg (by omega)]; rfl, by omega⟩, fun q => absurd q (by omega)⟩
              · skip
                refine jm_aload_n C dX6_plan_137 rfl ?_
                refine jm_getr (ci := 6) (f := 20) C rfl jw_u_6 Q.1.1 Q.1.2 rfl (by decide) jw_f_RX6_60 dX6_plan_138 ?_
                refine jm_bipush C dX6_plan_141 (by decide +kernel) ?_
                refine jm_aload_n C dX6_plan_143 rfl ?_
                refine jm_getv (ci := 6) (f := 8) (I 300 8) 8 rfl (Eq.trans (hk_filo_o (Or.inl (by decide))) (Eq.trans (jm_up_n (Or.inl (by decide))) (Eq.trans (jm_up_n (Or.inl (by decide))) (Eq.trans (jm_up_n (Or.inl (by decide))) (Eq.trans (jm_up_n (Or.inl (by decide))) (Eq.trans (jm_up_n (Or.inl (by decide))) (jm_up_n (Or.inr (by decide))))))))) C rfl jw_u_6 Q.1.1 Q.1.2 rfl (by decide) jw_f_RX6_87 dX6_plan_144 (fun yr21 => ?_)
                refine jm_imul C dX6_plan_147 ?_
                refine jm_iload C dX6_plan_148 rfl ?_
                refine jm_iadd C dX6_plan_150 ?_
                refine jm_iconst C dX6_plan_151 ?_
                refine jm_iast C (jm_X6_320 Q).1 rfl (jm_X6_320 Q).2 (by omega) (by omega) (by omega) dX6_plan_152 (by decide) ?_
                refine jm_iinc C dX6_plan_153 (by decide) rfl ?_
                refine jm_goto 130 C dX6_plan_156 rfl ?_
                refine jm_mq (hk_filo_s _ 320 (6 * (I 300 8)) m (fun _ => -1) _ rfl).symm ?_
                refine jm_lvs (lv' := [(0, _), (5, _)]) (jm_sub_c rfl (jm_sub_c rfl (jm_sub_0 _))) ?_
                exact ih130 (m + 1) (by omega) (by omega)
          refine jm_mq (hk_filo_0 _ 320 (6 * (I 300 8)) (fun _ => -1)) ?_
          refine jm_lvs (lv' := [(0, _), (5, _)]) (jm_sub_c rfl (jm_sub_c rfl (jm_sub_0 _))) ?_
          exact lp130 _ 0 (Nat.lt_succ_self _) (Nat.zero_le _)
        · skip
          refine jm_iconst C dX6_plan_74 ?_
          exact hR _ _ _ _ dX6_plan_75 rfl ⟨hk_cd3 (jm_up_s _ _ _ _) (by omega) (by omega) (by omega), fun q1 q2 q3 => by omega, fun _ => hk_wk_0 _ _⟩
      refine jm_icmp_ge 67 C dX6_plan_60 rfl (by omega) (by decide) (fun yc6 => ?_) (fun yc6 => ?_)
      · skip
        refine jm_iconst C dX6_plan_67 ?_
        refine jm_lvs (lv' := [(0, _), (1, _), (2, _), (3, _), (4, _)]) (jm_sub_c rfl (jm_sub_c rfl (jm_sub_c rfl (jm_sub_c rfl (jm_sub_c rfl (jm_sub_0 _)))))) ?_
        exact yj8 _ (Or.inl ⟨yc6, rfl⟩) (by decide)
      · skip
        refine jm_iconst C dX6_plan_63 ?_
        refine jm_goto 68 C dX6_plan_64 rfl ?_
        refine jm_lvs (lv' := [(0, _), (1, _), (2, _), (3, _), (4, _)]) (jm_sub_c rfl (jm_sub_c rfl (jm_sub_c rfl (jm_sub_c rfl (jm_sub_c rfl (jm_sub_0 _)))))) ?_
        exact yj8 _ (Or.inr ⟨yc6, rfl⟩) (by decide)
    · skip
      refine jm_iload_n C dX6_plan_33 rfl ?_
      refine jm_aload_n C dX6_plan_34 rfl ?_
      refine jm_get (ci := 6) (f := 1) 1 rfl C rfl jw_u_6 Q.1.1 Q.1.2 rfl (by decide) jw_f_RX6_101 dX6_plan_35 (fun yr22 => ?_)
      refine jm_iconst C dX6_plan_38 ?_
      refine jm_iadd C dX6_plan_39 ?_
      refine jm_sipush C dX6_plan_40 (by decide +kernel) ?_
      refine jm_cSd (n := 3) [jm_v 0, .ref (w.2.1 300)] C (kX6_in E w I _ _ _ g3 (by omega) (by decide)) jw_m_RX6_90 okX6_in rfl ⟨rfl, rfl⟩ ⟨Nat.le_of_ble_eq_true rfl, Nat.le_of_ble_eq_true rfl⟩ rfl rfl (Nat.le_of_ble_eq_true rfl) dX6_plan_43 ⟨Nat.le_of_ble_eq_true rfl, Nat.le_of_ble_eq_true rfl⟩ (fun yz24 yh23 => ?_)
      have yj27 : ∀ (yz26 : Int), ((yz24 = 0 ∧ yz26 = 0) ∨ (¬ (yz24 = 0) ∧ yz26 = 1)) → jm_R yz26 → jm_J E G (0, 0) w I 54 [(0, .ref (w.2.1 300)), (1, jm_v a), (2, jm_v b), (3, jm_v h), (4, jm_v s)] [jm_v yz26, jm_v 0, .ref (w.2.1 300)] := by
        intro yz26 ye28 ryz26
        refine jm_aload_n C dX6_plan_54 rfl ?_
        refine jm_get (ci := 6) (f := 8) 8 rfl C rfl jw_u_6 Q.1.1 Q.1.2 rfl (by decide) jw_f_RX6_87 dX6_plan_55 (fun yr29 => ?_)
        refine jm_bipush C dX6_plan_58 (by decide +kernel) ?_
        have yj32 : ∀ (yz31 : Int), ((12 ≤ I 300 8 ∧ yz31 = 0) ∨ (¬ (12 ≤ I 300 8) ∧ yz31 = 1)) → jm_R yz31 → jm_J E G (0, 0) w I 68 [(0, .ref (w.2.1 300)), (1, jm_v a), (2, jm_v b), (3, jm_v h), (4, jm_v s)] [jm_v yz31, jm_v yz26, jm_v 0, .ref (w.2.1 300)] := by
          intro yz31 ye33 ryz31
          refine jm_cVd (n := 3) (ci := 6) [] C (kX6_asked__ E w I Q _ _ _ (by omega) (by omega) (by omega)) jw_m_RX6_104 okX6_asked__ rfl ⟨rfl, rfl⟩ ⟨Nat.le_of_ble_eq_true rfl, Nat.le_of_ble_eq_true rfl⟩ rfl Q.1.1 Q.1.2 rfl rfl (Nat.le_of_ble_eq_true rfl) dX6_plan_68 ⟨Nat.le_of_ble_eq_true rfl, Nat.le_of_ble_eq_true rfl⟩ (fun yz35 yh34 => ?_)
          refine jm_if_ne 76 C dX6_plan_71 rfl (by omega) (fun yc36 => ?_) (fun yc36 => ?_)
          · skip
            refine jm_aload_n C dX6_plan_76 rfl ?_
            refine jm_getr (ci := 6) (f := 10) C rfl jw_u_6 Q.1.1 Q.1.2 rfl (by decide) jw_f_RX6_30 dX6_plan_77 ?_
            refine jm_aload_n C dX6_plan_80 rfl ?_
            refine jm_getv (ci := 6) (f := 8) (I 300 8) 8 rfl (jm_up_n (Or.inr (by decide))) C rfl jw_u_6 Q.1.1 Q.1.2 rfl (by decide) jw_f_RX6_87 dX6_plan_81 (fun yr37 => ?_)
            refine jm_iload_n C dX6_plan_84 rfl ?_
            refine jm_iast C (jm_X6_310 Q).1 rfl (jm_X6_310 Q).2 (by omega) (by omega) (by omega) dX6_plan_85 g1 ?_
            refine jm_aload_n C dX6_plan_86 rfl ?_
            refine jm_getr (ci := 6) (f := 11) C rfl jw_u_6 Q.1.1 Q.1.2 rfl (by decide) jw_f_RX6_33 dX6_plan_87 ?_
            refine jm_aload_n C dX6_plan_90 rfl ?_
            refine jm_getv (ci := 6) (f := 8) (I 300 8) 8 rfl (Eq.trans (jm_up_n (Or.inl (by decide))) (jm_up_n (Or.inr (by decide)))) C rfl jw_u_6 Q.1.1 Q.1.2 rfl (by decide) jw_f_RX6_87 dX6_plan_91 (fun yr38 => ?_)
            refine jm_iload_n C dX6_plan_94 rfl ?_
            refine jm_iast C (jm_X6_311 Q).1 rfl (jm_X6_311 Q).2 (by omega) (by omega) (by omega) dX6_plan_95 g2 ?_
            refine jm_aload_n C dX6_plan_96 rfl ?_
            refine jm_getr (ci := 6) (f := 12) C rfl jw_u_6 Q.1.1 Q.1.2 rfl (by decide) jw_f_RX6_36 dX6_plan_97 ?_
            refine jm_aload_n C dX6_plan_100 rfl ?_
            refine jm_getv (ci := 6) (f := 8) (I 300 8) 8 rfl (Eq.trans (jm_up_n (Or.inl (by decide))) (Eq.trans (jm_up_n (Or.inl (by decide))) (jm_up_n (Or.inr (by decide))))) C rfl jw_u_6 Q.1.1 Q.1.2 rfl (by decide) jw_f_RX6_87 dX6_plan_101 (fun yr39 => ?_)
            refine jm_iload_n C dX6_plan_104 rfl ?_
            refine jm_iast C (jm_X6_312 Q).1 rfl (jm_X6_312 Q).2 (by omega) (by omega) (by omega) dX6_plan_105 g3 ?_
            refine jm_aload_n C dX6_plan_106 rfl ?_
            refine jm_getr (ci := 6) (f := 13) C rfl jw_u_6 Q.1.1 Q.1.2 rfl (by decide) jw_f_RX6_39 dX6_plan_107 ?_
            refine jm_aload_n C dX6_plan_110 rfl ?_
            refine jm_getv (ci := 6) (f := 8) (I 300 8) 8 rfl (Eq.trans (jm_up_n (Or.inl (by decide))) (Eq.trans (jm_up_n (Or.inl (by decide))) (Eq.trans (jm_up_n (Or.inl (by decide))) (jm_up_n (Or.inr (by decide)))))) C rfl jw_u_6 Q.1.1 Q.1.2 rfl (by decide) jw_f_RX6_87 dX6_plan_111 (fun yr40 => ?_)
            refine jm_iload C dX6_plan_114 rfl ?_
            refine jm_iast C (jm_X6_313 Q).1 rfl (jm_X6_313 Q).2 (by omega) (by omega) (by omega) dX6_plan_116 g4 ?_
            refine jm_aload_n C dX6_plan_117 rfl ?_
            refine jm_getr (ci := 6) (f := 14) C rfl jw_u_6 Q.1.1 Q.1.2 rfl (by decide) jw_f_RX6_42 dX6_plan_118 ?_
            refine jm_aload_n C dX6_plan_121 rfl ?_
            refine jm_getv (ci := 6) (f := 8) (I 300 8) 8 rfl (Eq.trans (jm_up_n (Or.inl (by decide))) (Eq.trans (jm_up_n (Or.inl (by decide))) (Eq.trans (jm_up_n (Or.inl (by decide))) (Eq.trans (jm_up_n (Or.inl (by decide))) (jm_up_n (Or.inr (by decide))))))) C rfl jw_u_6 Q.1.1 Q.1.2 rfl (by decide) jw_f_RX6_87 dX6_plan_122 (fun yr41 => ?_)
            refine jm_iconst C dX6_plan_125 ?_
            refine jm_iast C (jm_X6_314 Q).1 rfl (jm_X6_314 Q).2 (by omega) (by omega) (by omega) dX6_plan_126 (by decide) ?_
            refine jm_iconst C dX6_plan_127 ?_
            refine jm_istore C dX6_plan_128 (by decide) ?_
            have lp130 : ∀ (yn130 : Nat) (m : Nat), 6 - m < yn130 → (m ≤ 6) → jm_J E G (0, 0) w (hk_filo (jm_up (jm_up (jm_up (jm_up (jm_up (jm_up I 300 0 (if (0 : Int) = 0 then 1 else if (yz26 : Int) = 0 then 2 else if (yz31 : Int) = 0 then 3 else 0)) 310 (I 300 8) a) 311 (I 300 8) b) 312 (I 300 8) h) 313 (I 300 8) s) 314 (I 300 8) (-1)) 320 (6 * (I 300 8)) ((m : Nat) : Int) (fun _ => -1)) 130 [(0, .ref (w.2.1 300)), (5, jm_v ((m : Nat) : Int))] [] := by
              intro yn130
              induction yn130 with
              | zero => intro m hlt130 hm; exact absurd hlt130 (Nat.not_lt_zero _)
              | succ yn130 ih130 =>
                intro m hlt130 hm
                refine jm_iload C dX6_plan_130 rfl ?_
                refine jm_bipush C dX6_plan_132 (by decide +kernel) ?_
                refine jm_icmp_ge 159 C dX6_plan_134 rfl (by omega) (by decide) (fun yc42 => ?_) (fun yc42 => ?_)
                · skip
                  refine jm_aload_n C dX6_plan_159 rfl ?_
                  refine jm_dup C dX6_plan_160 rfl ?_
                  refine jm_getv (ci := 6) (f := 8) (I 300 8) 8 rfl (Eq.trans (hk_filo_o (Or.inl (by decide))) (Eq.trans (jm_up_n (Or.inl (by decide))) (Eq.trans (jm_up_n (Or.inl (by decide))) (Eq.trans (jm_up_n (Or.inl (by decide))) (Eq.trans (jm_up_n (Or.inl (by decide))) (Eq.trans (jm_up_n (Or.inl (by decide))) (jm_up_n (Or.inr (by decide))))))))) C rfl jw_u_6 Q.1.1 Q.1.2 rfl (by decide) jw_f_RX6_87 dX6_plan_161 (fun yr43 => ?_)
                  refine jm_iconst C dX6_plan_164 ?_
                  refine jm_iadd C dX6_plan_165 ?_
                  refine jm_put (ci := 6) (f := 8) (ty := .int) 8 rfl C rfl tyX6 tyX6_ok nmX6 jw_u_6 Q.1.1 Q.1.2 rfl (by decide) jw_f_RX6_87 rfl (by decide +kernel) rfl rfl dX6_plan_166 (by omega) ?_
                  refine jm_aload_n C dX6_plan_169 rfl ?_
                  refine jm_getv (ci := 6) (f := 8) ((I 300 8) + 1) 8 rfl (jm_up_s _ _ _ _) C rfl jw_u_6 Q.1.1 Q.1.2 rfl (by decide) jw_f_RX6_87 dX6_plan_170 (fun yr44 => ?_)
                  refine jm_iconst C dX6_plan_173 ?_
                  refine jm_isub C dX6_plan_174 ?_
                  exact hR _ _ _ _ dX6_plan_175 rfl ⟨hk_cd3 (Eq.trans (jm_up_n (Or.inr (by decide))) (Eq.trans (hk_filo_o (Or.inl (by decide))) (Eq.trans (jm_up_n (Or.inl (by decide))) (Eq.trans (jm_up_n (Or.inl (by decide))) (Eq.trans (jm_up_n (Or.inl (by decide))) (Eq.trans (jm_up_n (Or.inl (by decide))) (Eq.trans (jm_up_n (Or.inl (by decide))) (jm_up_s _ _ _ _)))))))) (by omega) (by omega) (by omega), fun q1 q2 q3 => ⟨by unfold hk_mplan; rw [show m = 6 by omega, if_neg (by omega), if_neg (by omega), if_neg (by omega)]; rfl, by omega⟩, fun q => absurd q (by omega)⟩
                · skip
                  refine jm_aload_n C dX6_plan_137 rfl ?_
                  refine jm_getr (ci := 6) (f := 20) C rfl jw_u_6 Q.1.1 Q.1.2 rfl (by decide) jw_f_RX6_60 dX6_plan_138 ?_
                  refine jm_bipush C dX6_plan_141 (by decide +kernel) ?_
                  refine jm_aload_n C dX6_plan_143 rfl ?_
                  refine jm_getv (ci := 6) (f := 8) (I 300 8) 8 rfl (Eq.trans (hk_filo_o (Or.inl (by decide))) (Eq.trans (jm_up_n (Or.inl (by decide))) (Eq.trans (jm_up_n (Or.inl (by decide))) (Eq.trans (jm_up_n (Or.inl (by decide))) (Eq.trans (jm_up_n (Or.inl (by decide))) (Eq.trans (jm_up_n (Or.inl (by decide))) (jm_up_n (Or.inr (by decide))))))))) C rfl jw_u_6 Q.1.1 Q.1.2 rfl (by decide) jw_f_RX6_87 dX6_plan_144 (fun yr45 => ?_)
                  refine jm_imul C dX6_plan_147 ?_
                  refine jm_iload C dX6_plan_148 rfl ?_
                  refine jm_iadd C dX6_plan_150 ?_
                  refine jm_iconst C dX6_plan_151 ?_
                  refine jm_iast C (jm_X6_320 Q).1 rfl (jm_X6_320 Q).2 (by omega) (by omega) (by omega) dX6_plan_152 (by decide) ?_
                  refine jm_iinc C dX6_plan_153 (by decide) rfl ?_
                  refine jm_goto 130 C dX6_plan_156 rfl ?_
                  refine jm_mq (hk_filo_s _ 320 (6 * (I 300 8)) m (fun _ => -1) _ rfl).symm ?_
                  refine jm_lvs (lv' := [(0, _), (5, _)]) (jm_sub_c rfl (jm_sub_c rfl (jm_sub_0 _))) ?_
                  exact ih130 (m + 1) (by omega) (by omega)
            refine jm_mq (hk_filo_0 _ 320 (6 * (I 300 8)) (fun _ => -1)) ?_
            refine jm_lvs (lv' := [(0, _), (5, _)]) (jm_sub_c rfl (jm_sub_c rfl (jm_sub_0 _))) ?_
            exact lp130 _ 0 (Nat.lt_succ_self _) (Nat.zero_le _)
          · skip
            refine jm_iconst C dX6_plan_74 ?_
            exact hR _ _ _ _ dX6_plan_75 rfl ⟨hk_cd3 (jm_up_s _ _ _ _) (by omega) (by omega) (by omega), fun q1 q2 q3 => by omega, fun _ => hk_wk_0 _ _⟩
        refine jm_icmp_ge 67 C dX6_plan_60 rfl (by omega) (by decide) (fun yc30 => ?_) (fun yc30 => ?_)
        · skip
          refine jm_iconst C dX6_plan_67 ?_
          refine jm_lvs (lv' := [(0, _), (1, _), (2, _), (3, _), (4, _)]) (jm_sub_c rfl (jm_sub_c rfl (jm_sub_c rfl (jm_sub_c rfl (jm_sub_c rfl (jm_sub_0 _)))))) ?_
          exact yj32 _ (Or.inl ⟨yc30, rfl⟩) (by decide)
        · skip
          refine jm_iconst C dX6_plan_63 ?_
          refine jm_goto 68 C dX6_plan_64 rfl ?_
          refine jm_lvs (lv' := [(0, _), (1, _), (2, _), (3, _), (4, _)]) (jm_sub_c rfl (jm_sub_c rfl (jm_sub_c rfl (jm_sub_c rfl (jm_sub_c rfl (jm_sub_0 _)))))) ?_
          exact yj32 _ (Or.inr ⟨yc30, rfl⟩) (by decide)
      refine jm_if_eq 53 C dX6_plan_46 rfl (by omega) (fun yc25 => ?_) (fun yc25 => ?_)
      · skip
        refine jm_iconst C dX6_plan_53 ?_
        refine jm_lvs (lv' := [(0, _), (1, _), (2, _), (3, _), (4, _)]) (jm_sub_c rfl (jm_sub_c rfl (jm_sub_c rfl (jm_sub_c rfl (jm_sub_c rfl (jm_sub_0 _)))))) ?_
        exact yj27 _ (Or.inl ⟨yc25, rfl⟩) (by decide)
      · skip
        refine jm_iconst C dX6_plan_49 ?_
        refine jm_goto 54 C dX6_plan_50 rfl ?_
        refine jm_lvs (lv' := [(0, _), (1, _), (2, _), (3, _), (4, _)]) (jm_sub_c rfl (jm_sub_c rfl (jm_sub_c rfl (jm_sub_c rfl (jm_sub_c rfl (jm_sub_0 _)))))) ?_
        exact yj27 _ (Or.inr ⟨yc25, rfl⟩) (by decide)
  · skip
    refine jm_iload_n C dX6_plan_8 rfl ?_
    refine jm_cSd (n := 1) [.ref (w.2.1 300)] C (kX6_isTeam E w I _ g2) jw_m_RX6_94 okX6_isTeam rfl ⟨rfl, rfl⟩ ⟨Nat.le_of_ble_eq_true rfl, Nat.le_of_ble_eq_true rfl⟩ rfl rfl (Nat.le_of_ble_eq_true rfl) dX6_plan_9 ⟨Nat.le_of_ble_eq_true rfl, Nat.le_of_ble_eq_true rfl⟩ (fun yz47 yh46 => ?_)
    refine jm_if_eq 27 C dX6_plan_12 rfl (by omega) (fun yc48 => ?_) (fun yc48 => ?_)
    · skip
      refine jm_iconst C dX6_plan_27 ?_
      refine jm_iload_n C dX6_plan_28 rfl ?_
      refine jm_iload_n C dX6_plan_29 rfl ?_
      refine jm_icmp_eq 53 C dX6_plan_30 rfl g1 g2 (fun yc49 => ?_) (fun yc49 => ?_)
      · skip
        refine jm_iconst C dX6_plan_53 ?_
        refine jm_aload_n C dX6_plan_54 rfl ?_
        refine jm_get (ci := 6) (f := 8) 8 rfl C rfl jw_u_6 Q.1.1 Q.1.2 rfl (by decide) jw_f_RX6_87 dX6_plan_55 (fun yr50 => ?_)
        refine jm_bipush C dX6_plan_58 (by decide +kernel) ?_
        have yj53 : ∀ (yz52 : Int), ((12 ≤ I 300 8 ∧ yz52 = 0) ∨ (¬ (12 ≤ I 300 8) ∧ yz52 = 1)) → jm_R yz52 → jm_J E G (0, 0) w I 68 [(0, .ref (w.2.1 300)), (1, jm_v a), (2, jm_v b), (3, jm_v h), (4, jm_v s)] [jm_v yz52, jm_v 0, jm_v 0, .ref (w.2.1 300)] := by
          intro yz52 ye54 ryz52
          refine jm_cVd (n := 3) (ci := 6) [] C (kX6_asked__ E w I Q _ _ _ (by omega) (by omega) (by omega)) jw_m_RX6_104 okX6_asked__ rfl ⟨rfl, rfl⟩ ⟨Nat.le_of_ble_eq_true rfl, Nat.le_of_ble_eq_true rfl⟩ rfl Q.1.1 Q.1.2 rfl rfl (Nat.le_of_ble_eq_true rfl) dX6_plan_68 ⟨Nat.le_of_ble_eq_true rfl, Nat.le_of_ble_eq_true rfl⟩ (fun yz56 yh55 => ?_)
          refine jm_if_ne 76 C dX6_plan_71 rfl (by omega) (fun yc57 => ?_) (fun yc57 => ?_)
          · skip
            refine jm_aload_n C dX6_plan_76 rfl ?_
            refine jm_getr (ci := 6) (f := 10) C rfl jw_u_6 Q.1.1 Q.1.2 rfl (by decide) jw_f_RX6_30 dX6_plan_77 ?_
            refine jm_aload_n C dX6_plan_80 rfl ?_
            refine jm_getv (ci := 6) (f := 8) (I 300 8) 8 rfl (jm_up_n (Or.inr (by decide))) C rfl jw_u_6 Q.1.1 Q.1.2 rfl (by decide) jw_f_RX6_87 dX6_plan_81 (fun yr58 => ?_)
            refine jm_iload_n C dX6_plan_84 rfl ?_
            refine jm_iast C (jm_X6_310 Q).1 rfl (jm_X6_310 Q).2 (by omega) (by omega) (by omega) dX6_plan_85 g1 ?_
            refine jm_aload_n C dX6_plan_86 rfl ?_
            refine jm_getr (ci := 6) (f := 11) C rfl jw_u_6 Q.1.1 Q.1.2 rfl (by decide) jw_f_RX6_33 dX6_plan_87 ?_
            refine jm_aload_n C dX6_plan_90 rfl ?_
            refine jm_getv (ci := 6) (f := 8) (I 300 8) 8 rfl (Eq.trans (jm_up_n (Or.inl (by decide))) (jm_up_n (Or.inr (by decide)))) C rfl jw_u_6 Q.1.1 Q.1.2 rfl (by decide) jw_f_RX6_87 dX6_plan_91 (fun yr59 => ?_)
            refine jm_iload_n C dX6_plan_94 rfl ?_
            refine jm_iast C (jm_X6_311 Q).1 rfl (jm_X6_311 Q).2 (by omega) (by omega) (by omega) dX6_plan_95 g2 ?_
            refine jm_aload_n C dX6_plan_96 rfl ?_
            refine jm_getr (ci := 6) (f := 12) C rfl jw_u_6 Q.1.1 Q.1.2 rfl (by decide) jw_f_RX6_36 dX6_plan_97 ?_
            refine jm_aload_n C dX6_plan_100 rfl ?_
            refine jm_getv (ci := 6) (f := 8) (I 300 8) 8 rfl (Eq.trans (jm_up_n (Or.inl (by decide))) (Eq.trans (jm_up_n (Or.inl (by decide))) (jm_up_n (Or.inr (by decide))))) C rfl jw_u_6 Q.1.1 Q.1.2 rfl (by decide) jw_f_RX6_87 dX6_plan_101 (fun yr60 => ?_)
            refine jm_iload_n C dX6_plan_104 rfl ?_
            refine jm_iast C (jm_X6_312 Q).1 rfl (jm_X6_312 Q).2 (by omega) (by omega) (by omega) dX6_plan_105 g3 ?_
            refine jm_aload_n C dX6_plan_106 rfl ?_
            refine jm_getr (ci := 6) (f := 13) C rfl jw_u_6 Q.1.1 Q.1.2 rfl (by decide) jw_f_RX6_39 dX6_plan_107 ?_
            refine jm_aload_n C dX6_plan_110 rfl ?_
            refine jm_getv (ci := 6) (f := 8) (I 300 8) 8 rfl (Eq.trans (jm_up_n (Or.inl (by decide))) (Eq.trans (jm_up_n (Or.inl (by decide))) (Eq.trans (jm_up_n (Or.inl (by decide))) (jm_up_n (Or.inr (by decide)))))) C rfl jw_u_6 Q.1.1 Q.1.2 rfl (by decide) jw_f_RX6_87 dX6_plan_111 (fun yr61 => ?_)
            refine jm_iload C dX6_plan_114 rfl ?_
            refine jm_iast C (jm_X6_313 Q).1 rfl (jm_X6_313 Q).2 (by omega) (by omega) (by omega) dX6_plan_116 g4 ?_
            refine jm_aload_n C dX6_plan_117 rfl ?_
            refine jm_getr (ci := 6) (f := 14) C rfl jw_u_6 Q.1.1 Q.1.2 rfl (by decide) jw_f_RX6_42 dX6_plan_118 ?_
            refine jm_aload_n C dX6_plan_121 rfl ?_
            refine jm_getv (ci := 6) (f := 8) (I 300 8) 8 rfl (Eq.trans (jm_up_n (Or.inl (by decide))) (Eq.trans (jm_up_n (Or.inl (by decide))) (Eq.trans (jm_up_n (Or.inl (by decide))) (Eq.trans (jm_up_n (Or.inl (by decide))) (jm_up_n (Or.inr (by decide))))))) C rfl jw_u_6 Q.1.1 Q.1.2 rfl (by decide) jw_f_RX6_87 dX6_plan_122 (fun yr62 => ?_)
            refine jm_iconst C dX6_plan_125 ?_
            refine jm_iast C (jm_X6_314 Q).1 rfl (jm_X6_314 Q).2 (by omega) (by omega) (by omega) dX6_plan_126 (by decide) ?_
            refine jm_iconst C dX6_plan_127 ?_
            refine jm_istore C dX6_plan_128 (by decide) ?_
            have lp130 : ∀ (yn130 : Nat) (m : Nat), 6 - m < yn130 → (m ≤ 6) → jm_J E G (0, 0) w (hk_filo (jm_up (jm_up (jm_up (jm_up (jm_up (jm_up I 300 0 (if (0 : Int) = 0 then 1 else if (0 : Int) = 0 then 2 else if (yz52 : Int) = 0 then 3 else 0)) 310 (I 300 8) a) 311 (I 300 8) b) 312 (I 300 8) h) 313 (I 300 8) s) 314 (I 300 8) (-1)) 320 (6 * (I 300 8)) ((m : Nat) : Int) (fun _ => -1)) 130 [(0, .ref (w.2.1 300)), (5, jm_v ((m : Nat) : Int))] [] := by
              intro yn130
              induction yn130 with
              | zero => intro m hlt130 hm; exact absurd hlt130 (Nat.not_lt_zero _)
              | succ yn130 ih130 =>
                intro m hlt130 hm
                refine jm_iload C dX6_plan_130 rfl ?_
                refine jm_bipush C dX6_plan_132 (by decide +kernel) ?_
                refine jm_icmp_ge 159 C dX6_plan_134 rfl (by omega) (by decide) (fun yc63 => ?_) (fun yc63 => ?_)
                · skip
                  refine jm_aload_n C dX6_plan_159 rfl ?_
                  refine jm_dup C dX6_plan_160 rfl ?_
                  refine jm_getv (ci := 6) (f := 8) (I 300 8) 8 rfl (Eq.trans (hk_filo_o (Or.inl (by decide))) (Eq.trans (jm_up_n (Or.inl (by decide))) (Eq.trans (jm_up_n (Or.inl (by decide))) (Eq.trans (jm_up_n (Or.inl (by decide))) (Eq.trans (jm_up_n (Or.inl (by decide))) (Eq.trans (jm_up_n (Or.inl (by decide))) (jm_up_n (Or.inr (by decide))))))))) C rfl jw_u_6 Q.1.1 Q.1.2 rfl (by decide) jw_f_RX6_87 dX6_plan_161 (fun yr64 => ?_)
                  refine jm_iconst C dX6_plan_164 ?_
                  refine jm_iadd C dX6_plan_165 ?_
                  refine jm_put (ci := 6) (f := 8) (ty := .int) 8 rfl C rfl tyX6 tyX6_ok nmX6 jw_u_6 Q.1.1 Q.1.2 rfl (by decide) jw_f_RX6_87 rfl (by decide +kernel) rfl rfl dX6_plan_166 (by omega) ?_
                  refine jm_aload_n C dX6_plan_169 rfl ?_
                  refine jm_getv (ci := 6) (f := 8) ((I 300 8) + 1) 8 rfl (jm_up_s _ _ _ _) C rfl jw_u_6 Q.1.1 Q.1.2 rfl (by decide) jw_f_RX6_87 dX6_plan_170 (fun yr65 => ?_)
                  refine jm_iconst C dX6_plan_173 ?_
                  refine jm_isub C dX6_plan_174 ?_
                  exact hR _ _ _ _ dX6_plan_175 rfl ⟨hk_cd3 (Eq.trans (jm_up_n (Or.inr (by decide))) (Eq.trans (hk_filo_o (Or.inl (by decide))) (Eq.trans (jm_up_n (Or.inl (by decide))) (Eq.trans (jm_up_n (Or.inl (by decide))) (Eq.trans (jm_up_n (Or.inl (by decide))) (Eq.trans (jm_up_n (Or.inl (by decide))) (Eq.trans (jm_up_n (Or.inl (by decide))) (jm_up_s _ _ _ _)))))))) (by omega) (by omega) (by omega), fun q1 q2 q3 => ⟨by unfold hk_mplan; rw [show m = 6 by omega, if_neg (by omega), if_neg (by omega), if_neg (by omega)]; rfl, by omega⟩, fun q => absurd q (by omega)⟩
                · skip
                  refine jm_aload_n C dX6_plan_137 rfl ?_
                  refine jm_getr (ci := 6) (f := 20) C rfl jw_u_6 Q.1.1 Q.1.2 rfl (by decide) jw_f_RX6_60 dX6_plan_138 ?_
                  refine jm_bipush C dX6_plan_141 (by decide +kernel) ?_
                  refine jm_aload_n C dX6_plan_143 rfl ?_
                  refine jm_getv (ci := 6) (f := 8) (I 300 8) 8 rfl (Eq.trans (hk_filo_o (Or.inl (by decide))) (Eq.trans (jm_up_n (Or.inl (by decide))) (Eq.trans (jm_up_n (Or.inl (by decide))) (Eq.trans (jm_up_n (Or.inl (by decide))) (Eq.trans (jm_up_n (Or.inl (by decide))) (Eq.trans (jm_up_n (Or.inl (by decide))) (jm_up_n (Or.inr (by decide))))))))) C rfl jw_u_6 Q.1.1 Q.1.2 rfl (by decide) jw_f_RX6_87 dX6_plan_144 (fun yr66 => ?_)
                  refine jm_imul C dX6_plan_147 ?_
                  refine jm_iload C dX6_plan_148 rfl ?_
                  refine jm_iadd C dX6_plan_150 ?_
                  refine jm_iconst C dX6_plan_151 ?_
                  refine jm_iast C (jm_X6_320 Q).1 rfl (jm_X6_320 Q).2 (by omega) (by omega) (by omega) dX6_plan_152 (by decide) ?_
                  refine jm_iinc C dX6_plan_153 (by decide) rfl ?_
                  refine jm_goto 130 C dX6_plan_156 rfl ?_
                  refine jm_mq (hk_filo_s _ 320 (6 * (I 300 8)) m (fun _ => -1) _ rfl).symm ?_
                  refine jm_lvs (lv' := [(0, _), (5, _)]) (jm_sub_c rfl (jm_sub_c rfl (jm_sub_0 _))) ?_
                  exact ih130 (m + 1) (by omega) (by omega)
            refine jm_mq (hk_filo_0 _ 320 (6 * (I 300 8)) (fun _ => -1)) ?_
            refine jm_lvs (lv' := [(0, _), (5, _)]) (jm_sub_c rfl (jm_sub_c rfl (jm_sub_0 _))) ?_
            exact lp130 _ 0 (Nat.lt_succ_self _) (Nat.zero_le _)
          · skip
            refine jm_iconst C dX6_plan_74 ?_
            exact hR _ _ _ _ dX6_plan_75 rfl ⟨hk_cd3 (jm_up_s _ _ _ _) (by omega) (by omega) (by omega), fun q1 q2 q3 => by omega, fun _ => hk_wk_0 _ _⟩
        refine jm_icmp_ge 67 C dX6_plan_60 rfl (by omega) (by decide) (fun yc51 => ?_) (fun yc51 => ?_)
        · skip
          refine jm_iconst C dX6_plan_67 ?_
          refine jm_lvs (lv' := [(0, _), (1, _), (2, _), (3, _), (4, _)]) (jm_sub_c rfl (jm_sub_c rfl (jm_sub_c rfl (jm_sub_c rfl (jm_sub_c rfl (jm_sub_0 _)))))) ?_
          exact yj53 _ (Or.inl ⟨yc51, rfl⟩) (by decide)
        · skip
          refine jm_iconst C dX6_plan_63 ?_
          refine jm_goto 68 C dX6_plan_64 rfl ?_
          refine jm_lvs (lv' := [(0, _), (1, _), (2, _), (3, _), (4, _)]) (jm_sub_c rfl (jm_sub_c rfl (jm_sub_c rfl (jm_sub_c rfl (jm_sub_c rfl (jm_sub_0 _)))))) ?_
          exact yj53 _ (Or.inr ⟨yc51, rfl⟩) (by decide)
      · skip
        refine jm_iload_n C dX6_plan_33 rfl ?_
        refine jm_aload_n C dX6_plan_34 rfl ?_
        refine jm_get (ci := 6) (f := 1) 1 rfl C rfl jw_u_6 Q.1.1 Q.1.2 rfl (by decide) jw_f_RX6_101 dX6_plan_35 (fun yr67 => ?_)
        refine jm_iconst C dX6_plan_38 ?_
        refine jm_iadd C dX6_plan_39 ?_
        refine jm_sipush C dX6_plan_40 (by decide +kernel) ?_
        refine jm_cSd (n := 3) [jm_v 0, .ref (w.2.1 300)] C (kX6_in E w I _ _ _ g3 (by omega) (by decide)) jw_m_RX6_90 okX6_in rfl ⟨rfl, rfl⟩ ⟨Nat.le_of_ble_eq_true rfl, Nat.le_of_ble_eq_true rfl⟩ rfl rfl (Nat.le_of_ble_eq_true rfl) dX6_plan_43 ⟨Nat.le_of_ble_eq_true rfl, Nat.le_of_ble_eq_true rfl⟩ (fun yz69 yh68 => ?_)
        have yj72 : ∀ (yz71 : Int), ((yz69 = 0 ∧ yz71 = 0) ∨ (¬ (yz69 = 0) ∧ yz71 = 1)) → jm_R yz71 → jm_J E G (0, 0) w I 54 [(0, .ref (w.2.1 300)), (1, jm_v a), (2, jm_v b), (3, jm_v h), (4, jm_v s)] [jm_v yz71, jm_v 0, .ref (w.2.1 300)] := by
          intro yz71 ye73 ryz71
          refine jm_aload_n C dX6_plan_54 rfl ?_
          refine jm_get (ci := 6) (f := 8) 8 rfl C rfl jw_u_6 Q.1.1 Q.1.2 rfl (by decide) jw_f_RX6_87 dX6_plan_55 (fun yr74 => ?_)
          refine jm_bipush C dX6_plan_58 (by decide +kernel) ?_
          have yj77 : ∀ (yz76 : Int), ((12 ≤ I 300 8 ∧ yz76 = 0) ∨ (¬ (12 ≤ I 300 8) ∧ yz76 = 1)) → jm_R yz76 → jm_J E G (0, 0) w I 68 [(0, .ref (w.2.1 300)), (1, jm_v a), (2, jm_v b), (3, jm_v h), (4, jm_v s)] [jm_v yz76, jm_v yz71, jm_v 0, .ref (w.2.1 300)] := by
            intro yz76 ye78 ryz76
            refine jm_cVd (n := 3) (ci := 6) [] C (kX6_asked__ E w I Q _ _ _ (by omega) (by omega) (by omega)) jw_m_RX6_104 okX6_asked__ rfl ⟨rfl, rfl⟩ ⟨Nat.le_of_ble_eq_true rfl, Nat.le_of_ble_eq_true rfl⟩ rfl Q.1.1 Q.1.2 rfl rfl (Nat.le_of_ble_eq_true rfl) dX6_plan_68 ⟨Nat.le_of_ble_eq_true rfl, Nat.le_of_ble_eq_true rfl⟩ (fun yz80 yh79 => ?_)
            refine jm_if_ne 76 C dX6_plan_71 rfl (by omega) (fun yc81 => ?_) (fun yc81 => ?_)
            · skip
              refine jm_aload_n C dX6_plan_76 rfl ?_
              refine jm_getr (ci := 6) (f := 10) C rfl jw_u_6 Q.1.1 Q.1.2 rfl (by decide) jw_f_RX6_30 dX6_plan_77 ?_
              refine jm_aload_n C dX6_plan_80 rfl ?_
              refine jm_getv (ci := 6) (f := 8) (I 300 8) 8 rfl (jm_up_n (Or.inr (by decide))) C rfl jw_u_6 Q.1.1 Q.1.2 rfl (by decide) jw_f_RX6_87 dX6_plan_81 (fun yr82 => ?_)
              refine jm_iload_n C dX6_plan_84 rfl ?_
              refine jm_iast C (jm_X6_310 Q).1 rfl (jm_X6_310 Q).2 (by omega) (by omega) (by omega) dX6_plan_85 g1 ?_
              refine jm_aload_n C dX6_plan_86 rfl ?_
              refine jm_getr (ci := 6) (f := 11) C rfl jw_u_6 Q.1.1 Q.1.2 rfl (by decide) jw_f_RX6_33 dX6_plan_87 ?_
              refine jm_aload_n C dX6_plan_90 rfl ?_
              refine jm_getv (ci := 6) (f := 8) (I 300 8) 8 rfl (Eq.trans (jm_up_n (Or.inl (by decide))) (jm_up_n (Or.inr (by decide)))) C rfl jw_u_6 Q.1.1 Q.1.2 rfl (by decide) jw_f_RX6_87 dX6_plan_91 (fun yr83 => ?_)
              refine jm_iload_n C dX6_plan_94 rfl ?_
              refine jm_iast C (jm_X6_311 Q).1 rfl (jm_X6_311 Q).2 (by omega) (by omega) (by omega) dX6_plan_95 g2 ?_
              refine jm_aload_n C dX6_plan_96 rfl ?_
              refine jm_getr (ci := 6) (f := 12) C rfl jw_u_6 Q.1.1 Q.1.2 rfl (by decide) jw_f_RX6_36 dX6_plan_97 ?_
              refine jm_aload_n C dX6_plan_100 rfl ?_
              refine jm_getv (ci := 6) (f := 8) (I 300 8) 8 rfl (Eq.trans (jm_up_n (Or.inl (by decide))) (Eq.trans (jm_up_n (Or.inl (by decide))) (jm_up_n (Or.inr (by decide))))) C rfl jw_u_6 Q.1.1 Q.1.2 rfl (by decide) jw_f_RX6_87 dX6_plan_101 (fun yr84 => ?_)
              refine jm_iload_n C dX6_plan_104 rfl ?_
              refine jm_iast C (jm_X6_312 Q).1 rfl (jm_X6_312 Q).2 (by omega) (by omega) (by omega) dX6_plan_105 g3 ?_
              refine jm_aload_n C dX6_plan_106 rfl ?_
              refine jm_getr (ci := 6) (f := 13) C rfl jw_u_6 Q.1.1 Q.1.2 rfl (by decide) jw_f_RX6_39 dX6_plan_107 ?_
              refine jm_aload_n C dX6_plan_110 rfl ?_
              refine jm_getv (ci := 6) (f := 8) (I 300 8) 8 rfl (Eq.trans (jm_up_n (Or.inl (by decide))) (Eq.trans (jm_up_n (Or.inl (by decide))) (Eq.trans (jm_up_n (Or.inl (by decide))) (jm_up_n (Or.inr (by decide)))))) C rfl jw_u_6 Q.1.1 Q.1.2 rfl (by decide) jw_f_RX6_87 dX6_plan_111 (fun yr85 => ?_)
              refine jm_iload C dX6_plan_114 rfl ?_
              refine jm_iast C (jm_X6_313 Q).1 rfl (jm_X6_313 Q).2 (by omega) (by omega) (by omega) dX6_plan_116 g4 ?_
              refine jm_aload_n C dX6_plan_117 rfl ?_
              refine jm_getr (ci := 6) (f := 14) C rfl jw_u_6 Q.1.1 Q.1.2 rfl (by decide) jw_f_RX6_42 dX6_plan_118 ?_
              refine jm_aload_n C dX6_plan_121 rfl ?_
              refine jm_getv (ci := 6) (f := 8) (I 300 8) 8 rfl (Eq.trans (jm_up_n (Or.inl (by decide))) (Eq.trans (jm_up_n (Or.inl (by decide))) (Eq.trans (jm_up_n (Or.inl (by decide))) (Eq.trans (jm_up_n (Or.inl (by decide))) (jm_up_n (Or.inr (by decide))))))) C rfl jw_u_6 Q.1.1 Q.1.2 rfl (by decide) jw_f_RX6_87 dX6_plan_122 (fun yr86 => ?_)
              refine jm_iconst C dX6_plan_125 ?_
              refine jm_iast C (jm_X6_314 Q).1 rfl (jm_X6_314 Q).2 (by omega) (by omega) (by omega) dX6_plan_126 (by decide) ?_
              refine jm_iconst C dX6_plan_127 ?_
              refine jm_istore C dX6_plan_128 (by decide) ?_
              have lp130 : ∀ (yn130 : Nat) (m : Nat), 6 - m < yn130 → (m ≤ 6) → jm_J E G (0, 0) w (hk_filo (jm_up (jm_up (jm_up (jm_up (jm_up (jm_up I 300 0 (if (0 : Int) = 0 then 1 else if (yz71 : Int) = 0 then 2 else if (yz76 : Int) = 0 then 3 else 0)) 310 (I 300 8) a) 311 (I 300 8) b) 312 (I 300 8) h) 313 (I 300 8) s) 314 (I 300 8) (-1)) 320 (6 * (I 300 8)) ((m : Nat) : Int) (fun _ => -1)) 130 [(0, .ref (w.2.1 300)), (5, jm_v ((m : Nat) : Int))] [] := by
                intro yn130
                induction yn130 with
                | zero => intro m hlt130 hm; exact absurd hlt130 (Nat.not_lt_zero _)
                | succ yn130 ih130 =>
                  intro m hlt130 hm
                  refine jm_iload C dX6_plan_130 rfl ?_
                  refine jm_bipush C dX6_plan_132 (by decide +kernel) ?_
                  refine jm_icmp_ge 159 C dX6_plan_134 rfl (by omega) (by decide) (fun yc87 => ?_) (fun yc87 => ?_)
                  · skip
                    refine jm_aload_n C dX6_plan_159 rfl ?_
                    refine jm_dup C dX6_plan_160 rfl ?_
                    refine jm_getv (ci := 6) (f := 8) (I 300 8) 8 rfl (Eq.trans (hk_filo_o (Or.inl (by decide))) (Eq.trans (jm_up_n (Or.inl (by decide))) (Eq.trans (jm_up_n (Or.inl (by decide))) (Eq.trans (jm_up_n (Or.inl (by decide))) (Eq.trans (jm_up_n (Or.inl (by decide))) (Eq.trans (jm_up_n (Or.inl (by decide))) (jm_up_n (Or.inr (by decide))))))))) C rfl jw_u_6 Q.1.1 Q.1.2 rfl (by decide) jw_f_RX6_87 dX6_plan_161 (fun yr88 => ?_)
                    refine jm_iconst C dX6_plan_164 ?_
                    refine jm_iadd C dX6_plan_165 ?_
                    refine jm_put (ci := 6) (f := 8) (ty := .int) 8 rfl C rfl tyX6 tyX6_ok nmX6 jw_u_6 Q.1.1 Q.1.2 rfl (by decide) jw_f_RX6_87 rfl (by decide +kernel) rfl rfl dX6_plan_166 (by omega) ?_
                    refine jm_aload_n C dX6_plan_169 rfl ?_
                    refine jm_getv (ci := 6) (f := 8) ((I 300 8) + 1) 8 rfl (jm_up_s _ _ _ _) C rfl jw_u_6 Q.1.1 Q.1.2 rfl (by decide) jw_f_RX6_87 dX6_plan_170 (fun yr89 => ?_)
                    refine jm_iconst C dX6_plan_173 ?_
                    refine jm_isub C dX6_plan_174 ?_
                    exact hR _ _ _ _ dX6_plan_175 rfl ⟨hk_cd3 (Eq.trans (jm_up_n (Or.inr (by decide))) (Eq.trans (hk_filo_o (Or.inl (by decide))) (Eq.trans (jm_up_n (Or.inl (by decide))) (Eq.trans (jm_up_n (Or.inl (by decide))) (Eq.trans (jm_up_n (Or.inl (by decide))) (Eq.trans (jm_up_n (Or.inl (by decide))) (Eq.trans (jm_up_n (Or.inl (by decide))) (jm_up_s _ _ _ _)))))))) (by omega) (by omega) (by omega), fun q1 q2 q3 => ⟨by unfold hk_mplan; rw [show m = 6 by omega, if_neg (by omega), if_neg (by omega), if_neg (by omega)]; rfl, by omega⟩, fun q => absurd q (by omega)⟩
                  · skip
                    refine jm_aload_n C dX6_plan_137 rfl ?_
                    refine jm_getr (ci := 6) (f := 20) C rfl jw_u_6 Q.1.1 Q.1.2 rfl (by decide) jw_f_RX6_60 dX6_plan_138 ?_
                    refine jm_bipush C dX6_plan_141 (by decide +kernel) ?_
                    refine jm_aload_n C dX6_plan_143 rfl ?_
                    refine jm_getv (ci := 6) (f := 8) (I 300 8) 8 rfl (Eq.trans (hk_filo_o (Or.inl (by decide))) (Eq.trans (jm_up_n (Or.inl (by decide))) (Eq.trans (jm_up_n (Or.inl (by decide))) (Eq.trans (jm_up_n (Or.inl (by decide))) (Eq.trans (jm_up_n (Or.inl (by decide))) (Eq.trans (jm_up_n (Or.inl (by decide))) (jm_up_n (Or.inr (by decide))))))))) C rfl jw_u_6 Q.1.1 Q.1.2 rfl (by decide) jw_f_RX6_87 dX6_plan_144 (fun yr90 => ?_)
                    refine jm_imul C dX6_plan_147 ?_
                    refine jm_iload C dX6_plan_148 rfl ?_
                    refine jm_iadd C dX6_plan_150 ?_
                    refine jm_iconst C dX6_plan_151 ?_
                    refine jm_iast C (jm_X6_320 Q).1 rfl (jm_X6_320 Q).2 (by omega) (by omega) (by omega) dX6_plan_152 (by decide) ?_
                    refine jm_iinc C dX6_plan_153 (by decide) rfl ?_
                    refine jm_goto 130 C dX6_plan_156 rfl ?_
                    refine jm_mq (hk_filo_s _ 320 (6 * (I 300 8)) m (fun _ => -1) _ rfl).symm ?_
                    refine jm_lvs (lv' := [(0, _), (5, _)]) (jm_sub_c rfl (jm_sub_c rfl (jm_sub_0 _))) ?_
                    exact ih130 (m + 1) (by omega) (by omega)
              refine jm_mq (hk_filo_0 _ 320 (6 * (I 300 8)) (fun _ => -1)) ?_
              refine jm_lvs (lv' := [(0, _), (5, _)]) (jm_sub_c rfl (jm_sub_c rfl (jm_sub_0 _))) ?_
              exact lp130 _ 0 (Nat.lt_succ_self _) (Nat.zero_le _)
            · skip
              refine jm_iconst C dX6_plan_74 ?_
              exact hR _ _ _ _ dX6_plan_75 rfl ⟨hk_cd3 (jm_up_s _ _ _ _) (by omega) (by omega) (by omega), fun q1 q2 q3 => by omega, fun _ => hk_wk_0 _ _⟩
          refine jm_icmp_ge 67 C dX6_plan_60 rfl (by omega) (by decide) (fun yc75 => ?_) (fun yc75 => ?_)
          · skip
            refine jm_iconst C dX6_plan_67 ?_
            refine jm_lvs (lv' := [(0, _), (1, _), (2, _), (3, _), (4, _)]) (jm_sub_c rfl (jm_sub_c rfl (jm_sub_c rfl (jm_sub_c rfl (jm_sub_c rfl (jm_sub_0 _)))))) ?_
            exact yj77 _ (Or.inl ⟨yc75, rfl⟩) (by decide)
          · skip
            refine jm_iconst C dX6_plan_63 ?_
            refine jm_goto 68 C dX6_plan_64 rfl ?_
            refine jm_lvs (lv' := [(0, _), (1, _), (2, _), (3, _), (4, _)]) (jm_sub_c rfl (jm_sub_c rfl (jm_sub_c rfl (jm_sub_c rfl (jm_sub_c rfl (jm_sub_0 _)))))) ?_
            exact yj77 _ (Or.inr ⟨yc75, rfl⟩) (by decide)
        refine jm_if_eq 53 C dX6_plan_46 rfl (by omega) (fun yc70 => ?_) (fun yc70 => ?_)
        · skip
          refine jm_iconst C dX6_plan_53 ?_
          refine jm_lvs (lv' := [(0, _), (1, _), (2, _), (3, _), (4, _)]) (jm_sub_c rfl (jm_sub_c rfl (jm_sub_c rfl (jm_sub_c rfl (jm_sub_c rfl (jm_sub_0 _)))))) ?_
          exact yj72 _ (Or.inl ⟨yc70, rfl⟩) (by decide)
        · skip
          refine jm_iconst C dX6_plan_49 ?_
          refine jm_goto 54 C dX6_plan_50 rfl ?_
          refine jm_lvs (lv' := [(0, _), (1, _), (2, _), (3, _), (4, _)]) (jm_sub_c rfl (jm_sub_c rfl (jm_sub_c rfl (jm_sub_c rfl (jm_sub_c rfl (jm_sub_0 _)))))) ?_
          exact yj72 _ (Or.inr ⟨yc70, rfl⟩) (by decide)
    · skip
      refine jm_iload C dX6_plan_15 rfl ?_
      refine jm_cSd (n := 1) [.ref (w.2.1 300)] C (kX6_isSheet E w I _ g4) jw_m_RX6_98 okX6_isSheet rfl ⟨rfl, rfl⟩ ⟨Nat.le_of_ble_eq_true rfl, Nat.le_of_ble_eq_true rfl⟩ rfl rfl (Nat.le_of_ble_eq_true rfl) dX6_plan_17 ⟨Nat.le_of_ble_eq_true rfl, Nat.le_of_ble_eq_true rfl⟩ (fun yz92 yh91 => ?_)
      refine jm_if_eq 27 C dX6_plan_20 rfl (by omega) (fun yc93 => ?_) (fun yc93 => ?_)
      · skip
        refine jm_iconst C dX6_plan_27 ?_
        refine jm_iload_n C dX6_plan_28 rfl ?_
        refine jm_iload_n C dX6_plan_29 rfl ?_
        refine jm_icmp_eq 53 C dX6_plan_30 rfl g1 g2 (fun yc94 => ?_) (fun yc94 => ?_)
        · skip
          refine jm_iconst C dX6_plan_53 ?_
          refine jm_aload_n C dX6_plan_54 rfl ?_
          refine jm_get (ci := 6) (f := 8) 8 rfl C rfl jw_u_6 Q.1.1 Q.1.2 rfl (by decide) jw_f_RX6_87 dX6_plan_55 (fun yr95 => ?_)
          refine jm_bipush C dX6_plan_58 (by decide +kernel) ?_
          have yj98 : ∀ (yz97 : Int), ((12 ≤ I 300 8 ∧ yz97 = 0) ∨ (¬ (12 ≤ I 300 8) ∧ yz97 = 1)) → jm_R yz97 → jm_J E G (0, 0) w I 68 [(0, .ref (w.2.1 300)), (1, jm_v a), (2, jm_v b), (3, jm_v h), (4, jm_v s)] [jm_v yz97, jm_v 0, jm_v 0, .ref (w.2.1 300)] := by
            intro yz97 ye99 ryz97
            refine jm_cVd (n := 3) (ci := 6) [] C (kX6_asked__ E w I Q _ _ _ (by omega) (by omega) (by omega)) jw_m_RX6_104 okX6_asked__ rfl ⟨rfl, rfl⟩ ⟨Nat.le_of_ble_eq_true rfl, Nat.le_of_ble_eq_true rfl⟩ rfl Q.1.1 Q.1.2 rfl rfl (Nat.le_of_ble_eq_true rfl) dX6_plan_68 ⟨Nat.le_of_ble_eq_true rfl, Nat.le_of_ble_eq_true rfl⟩ (fun yz101 yh100 => ?_)
            refine jm_if_ne 76 C dX6_plan_71 rfl (by omega) (fun yc102 => ?_) (fun yc102 => ?_)
            · skip
              refine jm_aload_n C dX6_plan_76 rfl ?_
              refine jm_getr (ci := 6) (f := 10) C rfl jw_u_6 Q.1.1 Q.1.2 rfl (by decide) jw_f_RX6_30 dX6_plan_77 ?_
              refine jm_aload_n C dX6_plan_80 rfl ?_
              refine jm_getv (ci := 6) (f := 8) (I 300 8) 8 rfl (jm_up_n (Or.inr (by decide))) C rfl jw_u_6 Q.1.1 Q.1.2 rfl (by decide) jw_f_RX6_87 dX6_plan_81 (fun yr103 => ?_)
              refine jm_iload_n C dX6_plan_84 rfl ?_
              refine jm_iast C (jm_X6_310 Q).1 rfl (jm_X6_310 Q).2 (by omega) (by omega) (by omega) dX6_plan_85 g1 ?_
              refine jm_aload_n C dX6_plan_86 rfl ?_
              refine jm_getr (ci := 6) (f := 11) C rfl jw_u_6 Q.1.1 Q.1.2 rfl (by decide) jw_f_RX6_33 dX6_plan_87 ?_
              refine jm_aload_n C dX6_plan_90 rfl ?_
              refine jm_getv (ci := 6) (f := 8) (I 300 8) 8 rfl (Eq.trans (jm_up_n (Or.inl (by decide))) (jm_up_n (Or.inr (by decide)))) C rfl jw_u_6 Q.1.1 Q.1.2 rfl (by decide) jw_f_RX6_87 dX6_plan_91 (fun yr104 => ?_)
              refine jm_iload_n C dX6_plan_94 rfl ?_
              refine jm_iast C (jm_X6_311 Q).1 rfl (jm_X6_311 Q).2 (by omega) (by omega) (by omega) dX6_plan_95 g2 ?_
              refine jm_aload_n C dX6_plan_96 rfl ?_
              refine jm_getr (ci := 6) (f := 12) C rfl jw_u_6 Q.1.1 Q.1.2 rfl (by decide) jw_f_RX6_36 dX6_plan_97 ?_
              refine jm_aload_n C dX6_plan_100 rfl ?_
              refine jm_getv (ci := 6) (f := 8) (I 300 8) 8 rfl (Eq.trans (jm_up_n (Or.inl (by decide))) (Eq.trans (jm_up_n (Or.inl (by decide))) (jm_up_n (Or.inr (by decide))))) C rfl jw_u_6 Q.1.1 Q.1.2 rfl (by decide) jw_f_RX6_87 dX6_plan_101 (fun yr105 => ?_)
              refine jm_iload_n C dX6_plan_104 rfl ?_
              refine jm_iast C (jm_X6_312 Q).1 rfl (jm_X6_312 Q).2 (by omega) (by omega) (by omega) dX6_plan_105 g3 ?_
              refine jm_aload_n C dX6_plan_106 rfl ?_
              refine jm_getr (ci := 6) (f := 13) C rfl jw_u_6 Q.1.1 Q.1.2 rfl (by decide) jw_f_RX6_39 dX6_plan_107 ?_
              refine jm_aload_n C dX6_plan_110 rfl ?_
              refine jm_getv (ci := 6) (f := 8) (I 300 8) 8 rfl (Eq.trans (jm_up_n (Or.inl (by decide))) (Eq.trans (jm_up_n (Or.inl (by decide))) (Eq.trans (jm_up_n (Or.inl (by decide))) (jm_up_n (Or.inr (by decide)))))) C rfl jw_u_6 Q.1.1 Q.1.2 rfl (by decide) jw_f_RX6_87 dX6_plan_111 (fun yr106 => ?_)
              refine jm_iload C dX6_plan_114 rfl ?_
              refine jm_iast C (jm_X6_313 Q).1 rfl (jm_X6_313 Q).2 (by omega) (by omega) (by omega) dX6_plan_116 g4 ?_
              refine jm_aload_n C dX6_plan_117 rfl ?_
              refine jm_getr (ci := 6) (f := 14) C rfl jw_u_6 Q.1.1 Q.1.2 rfl (by decide) jw_f_RX6_42 dX6_plan_118 ?_
              refine jm_aload_n C dX6_plan_121 rfl ?_
              refine jm_getv (ci := 6) (f := 8) (I 300 8) 8 rfl (Eq.trans (jm_up_n (Or.inl (by decide))) (Eq.trans (jm_up_n (Or.inl (by decide))) (Eq.trans (jm_up_n (Or.inl (by decide))) (Eq.trans (jm_up_n (Or.inl (by decide))) (jm_up_n (Or.inr (by decide))))))) C rfl jw_u_6 Q.1.1 Q.1.2 rfl (by decide) jw_f_RX6_87 dX6_plan_122 (fun yr107 => ?_)
              refine jm_iconst C dX6_plan_125 ?_
              refine jm_iast C (jm_X6_314 Q).1 rfl (jm_X6_314 Q).2 (by omega) (by omega) (by omega) dX6_plan_126 (by decide) ?_
              refine jm_iconst C dX6_plan_127 ?_
              refine jm_istore C dX6_plan_128 (by decide) ?_
              have lp130 : ∀ (yn130 : Nat) (m : Nat), 6 - m < yn130 → (m ≤ 6) → jm_J E G (0, 0) w (hk_filo (jm_up (jm_up (jm_up (jm_up (jm_up (jm_up I 300 0 (if (0 : Int) = 0 then 1 else if (0 : Int) = 0 then 2 else if (yz97 : Int) = 0 then 3 else 0)) 310 (I 300 8) a) 311 (I 300 8) b) 312 (I 300 8) h) 313 (I 300 8) s) 314 (I 300 8) (-1)) 320 (6 * (I 300 8)) ((m : Nat) : Int) (fun _ => -1)) 130 [(0, .ref (w.2.1 300)), (5, jm_v ((m : Nat) : Int))] [] := by
                intro yn130
                induction yn130 with
                | zero => intro m hlt130 hm; exact absurd hlt130 (Nat.not_lt_zero _)
                | succ yn130 ih130 =>
                  intro m hlt130 hm
                  refine jm_iload C dX6_plan_130 rfl ?_
                  refine jm_bipush C dX6_plan_132 (by decide +kernel) ?_
                  refine jm_icmp_ge 159 C dX6_plan_134 rfl (by omega) (by decide) (fun yc108 => ?_) (fun yc108 => ?_)
                  · skip
                    refine jm_aload_n C dX6_plan_159 rfl ?_
                    refine jm_dup C dX6_plan_160 rfl ?_
                    refine jm_getv (ci := 6) (f := 8) (I 300 8) 8 rfl (Eq.trans (hk_filo_o (Or.inl (by decide))) (Eq.trans (jm_up_n (Or.inl (by decide))) (Eq.trans (jm_up_n (Or.inl (by decide))) (Eq.trans (jm_up_n (Or.inl (by decide))) (Eq.trans (jm_up_n (Or.inl (by decide))) (Eq.trans (jm_up_n (Or.inl (by decide))) (jm_up_n (Or.inr (by decide))))))))) C rfl jw_u_6 Q.1.1 Q.1.2 rfl (by decide) jw_f_RX6_87 dX6_plan_161 (fun yr109 => ?_)
                    refine jm_iconst C dX6_plan_164 ?_
                    refine jm_iadd C dX6_plan_165 ?_
                    refine jm_put (ci := 6) (f := 8) (ty := .int) 8 rfl C rfl tyX6 tyX6_ok nmX6 jw_u_6 Q.1.1 Q.1.2 rfl (by decide) jw_f_RX6_87 rfl (by decide +kernel) rfl rfl dX6_plan_166 (by omega) ?_
                    refine jm_aload_n C dX6_plan_169 rfl ?_
                    refine jm_getv (ci := 6) (f := 8) ((I 300 8) + 1) 8 rfl (jm_up_s _ _ _ _) C rfl jw_u_6 Q.1.1 Q.1.2 rfl (by decide) jw_f_RX6_87 dX6_plan_170 (fun yr110 => ?_)
                    refine jm_iconst C dX6_plan_173 ?_
                    refine jm_isub C dX6_plan_174 ?_
                    exact hR _ _ _ _ dX6_plan_175 rfl ⟨hk_cd3 (Eq.trans (jm_up_n (Or.inr (by decide))) (Eq.trans (hk_filo_o (Or.inl (by decide))) (Eq.trans (jm_up_n (Or.inl (by decide))) (Eq.trans (jm_up_n (Or.inl (by decide))) (Eq.trans (jm_up_n (Or.inl (by decide))) (Eq.trans (jm_up_n (Or.inl (by decide))) (Eq.trans (jm_up_n (Or.inl (by decide))) (jm_up_s _ _ _ _)))))))) (by omega) (by omega) (by omega), fun q1 q2 q3 => ⟨by unfold hk_mplan; rw [show m = 6 by omega, if_neg (by omega), if_neg (by omega), if_neg (by omega)]; rfl, by omega⟩, fun q => absurd q (by omega)⟩
                  · skip
                    refine jm_aload_n C dX6_plan_137 rfl ?_
                    refine jm_getr (ci := 6) (f := 20) C rfl jw_u_6 Q.1.1 Q.1.2 rfl (by decide) jw_f_RX6_60 dX6_plan_138 ?_
                    refine jm_bipush C dX6_plan_141 (by decide +kernel) ?_
                    refine jm_aload_n C dX6_plan_143 rfl ?_
                    refine jm_getv (ci := 6) (f := 8) (I 300 8) 8 rfl (Eq.trans (hk_filo_o (Or.inl (by decide))) (Eq.trans (jm_up_n (Or.inl (by decide))) (Eq.trans (jm_up_n (Or.inl (by decide))) (Eq.trans (jm_up_n (Or.inl (by decide))) (Eq.trans (jm_up_n (Or.inl (by decide))) (Eq.trans (jm_up_n (Or.inl (by decide))) (jm_up_n (Or.inr (by decide))))))))) C rfl jw_u_6 Q.1.1 Q.1.2 rfl (by decide) jw_f_RX6_87 dX6_plan_144 (fun yr111 => ?_)
                    refine jm_imul C dX6_plan_147 ?_
                    refine jm_iload C dX6_plan_148 rfl ?_
                    refine jm_iadd C dX6_plan_150 ?_
                    refine jm_iconst C dX6_plan_151 ?_
                    refine jm_iast C (jm_X6_320 Q).1 rfl (jm_X6_320 Q).2 (by omega) (by omega) (by omega) dX6_plan_152 (by decide) ?_
                    refine jm_iinc C dX6_plan_153 (by decide) rfl ?_
                    refine jm_goto 130 C dX6_plan_156 rfl ?_
                    refine jm_mq (hk_filo_s _ 320 (6 * (I 300 8)) m (fun _ => -1) _ rfl).symm ?_
                    refine jm_lvs (lv' := [(0, _), (5, _)]) (jm_sub_c rfl (jm_sub_c rfl (jm_sub_0 _))) ?_
                    exact ih130 (m + 1) (by omega) (by omega)
              refine jm_mq (hk_filo_0 _ 320 (6 * (I 300 8)) (fun _ => -1)) ?_
              refine jm_lvs (lv' := [(0, _), (5, _)]) (jm_sub_c rfl (jm_sub_c rfl (jm_sub_0 _))) ?_
              exact lp130 _ 0 (Nat.lt_succ_self _) (Nat.zero_le _)
            · skip
              refine jm_iconst C dX6_plan_74 ?_
              exact hR _ _ _ _ dX6_plan_75 rfl ⟨hk_cd3 (jm_up_s _ _ _ _) (by omega) (by omega) (by omega), fun q1 q2 q3 => by omega, fun _ => hk_wk_0 _ _⟩
          refine jm_icmp_ge 67 C dX6_plan_60 rfl (by omega) (by decide) (fun yc96 => ?_) (fun yc96 => ?_)
          · skip
            refine jm_iconst C dX6_plan_67 ?_
            refine jm_lvs (lv' := [(0, _), (1, _), (2, _), (3, _), (4, _)]) (jm_sub_c rfl (jm_sub_c rfl (jm_sub_c rfl (jm_sub_c rfl (jm_sub_c rfl (jm_sub_0 _)))))) ?_
            exact yj98 _ (Or.inl ⟨yc96, rfl⟩) (by decide)
          · skip
            refine jm_iconst C dX6_plan_63 ?_
            refine jm_goto 68 C dX6_plan_64 rfl ?_
            refine jm_lvs (lv' := [(0, _), (1, _), (2, _), (3, _), (4, _)]) (jm_sub_c rfl (jm_sub_c rfl (jm_sub_c rfl (jm_sub_c rfl (jm_sub_c rfl (jm_sub_0 _)))))) ?_
            exact yj98 _ (Or.inr ⟨yc96, rfl⟩) (by decide)
        · skip
          refine jm_iload_n C dX6_plan_33 rfl ?_
          refine jm_aload_n C dX6_plan_34 rfl ?_
          refine jm_get (ci := 6) (f := 1) 1 rfl C rfl jw_u_6 Q.1.1 Q.1.2 rfl (by decide) jw_f_RX6_101 dX6_plan_35 (fun yr112 => ?_)
          refine jm_iconst C dX6_plan_38 ?_
          refine jm_iadd C dX6_plan_39 ?_
          refine jm_sipush C dX6_plan_40 (by decide +kernel) ?_
          refine jm_cSd (n := 3) [jm_v 0, .ref (w.2.1 300)] C (kX6_in E w I _ _ _ g3 (by omega) (by decide)) jw_m_RX6_90 okX6_in rfl ⟨rfl, rfl⟩ ⟨Nat.le_of_ble_eq_true rfl, Nat.le_of_ble_eq_true rfl⟩ rfl rfl (Nat.le_of_ble_eq_true rfl) dX6_plan_43 ⟨Nat.le_of_ble_eq_true rfl, Nat.le_of_ble_eq_true rfl⟩ (fun yz114 yh113 => ?_)
          have yj117 : ∀ (yz116 : Int), ((yz114 = 0 ∧ yz116 = 0) ∨ (¬ (yz114 = 0) ∧ yz116 = 1)) → jm_R yz116 → jm_J E G (0, 0) w I 54 [(0, .ref (w.2.1 300)), (1, jm_v a), (2, jm_v b), (3, jm_v h), (4, jm_v s)] [jm_v yz116, jm_v 0, .ref (w.2.1 300)] := by
            intro yz116 ye118 ryz116
            refine jm_aload_n C dX6_plan_54 rfl ?_
            refine jm_get (ci := 6) (f := 8) 8 rfl C rfl jw_u_6 Q.1.1 Q.1.2 rfl (by decide) jw_f_RX6_87 dX6_plan_55 (fun yr119 => ?_)
            refine jm_bipush C dX6_plan_58 (by decide +kernel) ?_
            have yj122 : ∀ (yz121 : Int), ((12 ≤ I 300 8 ∧ yz121 = 0) ∨ (¬ (12 ≤ I 300 8) ∧ yz121 = 1)) → jm_R yz121 → jm_J E G (0, 0) w I 68 [(0, .ref (w.2.1 300)), (1, jm_v a), (2, jm_v b), (3, jm_v h), (4, jm_v s)] [jm_v yz121, jm_v yz116, jm_v 0, .ref (w.2.1 300)] := by
              intro yz121 ye123 ryz121
              refine jm_cVd (n := 3) (ci := 6) [] C (kX6_asked__ E w I Q _ _ _ (by omega) (by omega) (by omega)) jw_m_RX6_104 okX6_asked__ rfl ⟨rfl, rfl⟩ ⟨Nat.le_of_ble_eq_true rfl, Nat.le_of_ble_eq_true rfl⟩ rfl Q.1.1 Q.1.2 rfl rfl (Nat.le_of_ble_eq_true rfl) dX6_plan_68 ⟨Nat.le_of_ble_eq_true rfl, Nat.le_of_ble_eq_true rfl⟩ (fun yz125 yh124 => ?_)
              refine jm_if_ne 76 C dX6_plan_71 rfl (by omega) (fun yc126 => ?_) (fun yc126 => ?_)
              · skip
                refine jm_aload_n C dX6_plan_76 rfl ?_
                refine jm_getr (ci := 6) (f := 10) C rfl jw_u_6 Q.1.1 Q.1.2 rfl (by decide) jw_f_RX6_30 dX6_plan_77 ?_
                refine jm_aload_n C dX6_plan_80 rfl ?_
                refine jm_getv (ci := 6) (f := 8) (I 300 8) 8 rfl (jm_up_n (Or.inr (by decide))) C rfl jw_u_6 Q.1.1 Q.1.2 rfl (by decide) jw_f_RX6_87 dX6_plan_81 (fun yr127 => ?_)
                refine jm_iload_n C dX6_plan_84 rfl ?_
                refine jm_iast C (jm_X6_310 Q).1 rfl (jm_X6_310 Q).2 (by omega) (by omega) (by omega) dX6_plan_85 g1 ?_
                refine jm_aload_n C dX6_plan_86 rfl ?_
                refine jm_getr (ci := 6) (f := 11) C rfl jw_u_6 Q.1.1 Q.1.2 rfl (by decide) jw_f_RX6_33 dX6_plan_87 ?_
                refine jm_aload_n C dX6_plan_90 rfl ?_
                refine jm_getv (ci := 6) (f := 8) (I 300 8) 8 rfl (Eq.trans (jm_up_n (Or.inl (by decide))) (jm_up_n (Or.inr (by decide)))) C rfl jw_u_6 Q.1.1 Q.1.2 rfl (by decide) jw_f_RX6_87 dX6_plan_91 (fun yr128 => ?_)
                refine jm_iload_n C dX6_plan_94 rfl ?_
                refine jm_iast C (jm_X6_311 Q).1 rfl (jm_X6_311 Q).2 (by omega) (by omega) (by omega) dX6_plan_95 g2 ?_
                refine jm_aload_n C dX6_plan_96 rfl ?_
                refine jm_getr (ci := 6) (f := 12) C rfl jw_u_6 Q.1.1 Q.1.2 rfl (by decide) jw_f_RX6_36 dX6_plan_97 ?_
                refine jm_aload_n C dX6_plan_100 rfl ?_
                refine jm_getv (ci := 6) (f := 8) (I 300 8) 8 rfl (Eq.trans (jm_up_n (Or.inl (by decide))) (Eq.trans (jm_up_n (Or.inl (by decide))) (jm_up_n (Or.inr (by decide))))) C rfl jw_u_6 Q.1.1 Q.1.2 rfl (by decide) jw_f_RX6_87 dX6_plan_101 (fun yr129 => ?_)
                refine jm_iload_n C dX6_plan_104 rfl ?_
                refine jm_iast C (jm_X6_312 Q).1 rfl (jm_X6_312 Q).2 (by omega) (by omega) (by omega) dX6_plan_105 g3 ?_
                refine jm_aload_n C dX6_plan_106 rfl ?_
                refine jm_getr (ci := 6) (f := 13) C rfl jw_u_6 Q.1.1 Q.1.2 rfl (by decide) jw_f_RX6_39 dX6_plan_107 ?_
                refine jm_aload_n C dX6_plan_110 rfl ?_
                refine jm_getv (ci := 6) (f := 8) (I 300 8) 8 rfl (Eq.trans (jm_up_n (Or.inl (by decide))) (Eq.trans (jm_up_n (Or.inl (by decide))) (Eq.trans (jm_up_n (Or.inl (by decide))) (jm_up_n (Or.inr (by decide)))))) C rfl jw_u_6 Q.1.1 Q.1.2 rfl (by decide) jw_f_RX6_87 dX6_plan_111 (fun yr130 => ?_)
                refine jm_iload C dX6_plan_114 rfl ?_
                refine jm_iast C (jm_X6_313 Q).1 rfl (jm_X6_313 Q).2 (by omega) (by omega) (by omega) dX6_plan_116 g4 ?_
                refine jm_aload_n C dX6_plan_117 rfl ?_
                refine jm_getr (ci := 6) (f := 14) C rfl jw_u_6 Q.1.1 Q.1.2 rfl (by decide) jw_f_RX6_42 dX6_plan_118 ?_
                refine jm_aload_n C dX6_plan_121 rfl ?_
                refine jm_getv (ci := 6) (f := 8) (I 300 8) 8 rfl (Eq.trans (jm_up_n (Or.inl (by decide))) (Eq.trans (jm_up_n (Or.inl (by decide))) (Eq.trans (jm_up_n (Or.inl (by decide))) (Eq.trans (jm_up_n (Or.inl (by decide))) (jm_up_n (Or.inr (by decide))))))) C rfl jw_u_6 Q.1.1 Q.1.2 rfl (by decide) jw_f_RX6_87 dX6_plan_122 (fun yr131 => ?_)
                refine jm_iconst C dX6_plan_125 ?_
                refine jm_iast C (jm_X6_314 Q).1 rfl (jm_X6_314 Q).2 (by omega) (by omega) (by omega) dX6_plan_126 (by decide) ?_
                refine jm_iconst C dX6_plan_127 ?_
                refine jm_istore C dX6_plan_128 (by decide) ?_
                have lp130 : ∀ (yn130 : Nat) (m : Nat), 6 - m < yn130 → (m ≤ 6) → jm_J E G (0, 0) w (hk_filo (jm_up (jm_up (jm_up (jm_up (jm_up (jm_up I 300 0 (if (0 : Int) = 0 then 1 else if (yz116 : Int) = 0 then 2 else if (yz121 : Int) = 0 then 3 else 0)) 310 (I 300 8) a) 311 (I 300 8) b) 312 (I 300 8) h) 313 (I 300 8) s) 314 (I 300 8) (-1)) 320 (6 * (I 300 8)) ((m : Nat) : Int) (fun _ => -1)) 130 [(0, .ref (w.2.1 300)), (5, jm_v ((m : Nat) : Int))] [] := by
                  intro yn130
                  induction yn130 with
                  | zero => intro m hlt130 hm; exact absurd hlt130 (Nat.not_lt_zero _)
                  | succ yn130 ih130 =>
                    intro m hlt130 hm
                    refine jm_iload C dX6_plan_130 rfl ?_
                    refine jm_bipush C dX6_plan_132 (by decide +kernel) ?_
                    refine jm_icmp_ge 159 C dX6_plan_134 rfl (by omega) (by decide) (fun yc132 => ?_) (fun yc132 => ?_)
                    · skip
                      refine jm_aload_n C dX6_plan_159 rfl ?_
                      refine jm_dup C dX6_plan_160 rfl ?_
                      refine jm_getv (ci := 6) (f := 8) (I 300 8) 8 rfl (Eq.trans (hk_filo_o (Or.inl (by decide))) (Eq.trans (jm_up_n (Or.inl (by decide))) (Eq.trans (jm_up_n (Or.inl (by decide))) (Eq.trans (jm_up_n (Or.inl (by decide))) (Eq.trans (jm_up_n (Or.inl (by decide))) (Eq.trans (jm_up_n (Or.inl (by decide))) (jm_up_n (Or.inr (by decide))))))))) C rfl jw_u_6 Q.1.1 Q.1.2 rfl (by decide) jw_f_RX6_87 dX6_plan_161 (fun yr133 => ?_)
                      refine jm_iconst C dX6_plan_164 ?_
                      refine jm_iadd C dX6_plan_165 ?_
                      refine jm_put (ci := 6) (f := 8) (ty := .int) 8 rfl C rfl tyX6 tyX6_ok nmX6 jw_u_6 Q.1.1 Q.1.2 rfl (by decide) jw_f_RX6_87 rfl (by decide +kernel) rfl rfl dX6_plan_166 (by omega) ?_
                      refine jm_aload_n C dX6_plan_169 rfl ?_
                      refine jm_getv (ci := 6) (f := 8) ((I 300 8) + 1) 8 rfl (jm_up_s _ _ _ _) C rfl jw_u_6 Q.1.1 Q.1.2 rfl (by decide) jw_f_RX6_87 dX6_plan_170 (fun yr134 => ?_)
                      refine jm_iconst C dX6_plan_173 ?_
                      refine jm_isub C dX6_plan_174 ?_
                      exact hR _ _ _ _ dX6_plan_175 rfl ⟨hk_cd3 (Eq.trans (jm_up_n (Or.inr (by decide))) (Eq.trans (hk_filo_o (Or.inl (by decide))) (Eq.trans (jm_up_n (Or.inl (by decide))) (Eq.trans (jm_up_n (Or.inl (by decide))) (Eq.trans (jm_up_n (Or.inl (by decide))) (Eq.trans (jm_up_n (Or.inl (by decide))) (Eq.trans (jm_up_n (Or.inl (by decide))) (jm_up_s _ _ _ _)))))))) (by omega) (by omega) (by omega), fun q1 q2 q3 => ⟨by unfold hk_mplan; rw [show m = 6 by omega, if_neg (by omega), if_neg (by omega), if_neg (by omega)]; rfl, by omega⟩, fun q => absurd q (by omega)⟩
                    · skip
                      refine jm_aload_n C dX6_plan_137 rfl ?_
                      refine jm_getr (ci := 6) (f := 20) C rfl jw_u_6 Q.1.1 Q.1.2 rfl (by decide) jw_f_RX6_60 dX6_plan_138 ?_
                      refine jm_bipush C dX6_plan_141 (by decide +kernel) ?_
                      refine jm_aload_n C dX6_plan_143 rfl ?_
                      refine jm_getv (ci := 6) (f := 8) (I 300 8) 8 rfl (Eq.trans (hk_filo_o (Or.inl (by decide))) (Eq.trans (jm_up_n (Or.inl (by decide))) (Eq.trans (jm_up_n (Or.inl (by decide))) (Eq.trans (jm_up_n (Or.inl (by decide))) (Eq.trans (jm_up_n (Or.inl (by decide))) (Eq.trans (jm_up_n (Or.inl (by decide))) (jm_up_n (Or.inr (by decide))))))))) C rfl jw_u_6 Q.1.1 Q.1.2 rfl (by decide) jw_f_RX6_87 dX6_plan_144 (fun yr135 => ?_)
                      refine jm_imul C dX6_plan_147 ?_
                      refine jm_iload C dX6_plan_148 rfl ?_
                      refine jm_iadd C dX6_plan_150 ?_
                      refine jm_iconst C dX6_plan_151 ?_
                      refine jm_iast C (jm_X6_320 Q).1 rfl (jm_X6_320 Q).2 (by omega) (by omega) (by omega) dX6_plan_152 (by decide) ?_
                      refine jm_iinc C dX6_plan_153 (by decide) rfl ?_
                      refine jm_goto 130 C dX6_plan_156 rfl ?_
                      refine jm_mq (hk_filo_s _ 320 (6 * (I 300 8)) m (fun _ => -1) _ rfl).symm ?_
                      refine jm_lvs (lv' := [(0, _), (5, _)]) (jm_sub_c rfl (jm_sub_c rfl (jm_sub_0 _))) ?_
                      exact ih130 (m + 1) (by omega) (by omega)
                refine jm_mq (hk_filo_0 _ 320 (6 * (I 300 8)) (fun _ => -1)) ?_
                refine jm_lvs (lv' := [(0, _), (5, _)]) (jm_sub_c rfl (jm_sub_c rfl (jm_sub_0 _))) ?_
                exact lp130 _ 0 (Nat.lt_succ_self _) (Nat.zero_le _)
              · skip
                refine jm_iconst C dX6_plan_74 ?_
                exact hR _ _ _ _ dX6_plan_75 rfl ⟨hk_cd3 (jm_up_s _ _ _ _) (by omega) (by omega) (by omega), fun q1 q2 q3 => by omega, fun _ => hk_wk_0 _ _⟩
            refine jm_icmp_ge 67 C dX6_plan_60 rfl (by omega) (by decide) (fun yc120 => ?_) (fun yc120 => ?_)
            · skip
              refine jm_iconst C dX6_plan_67 ?_
              refine jm_lvs (lv' := [(0, _), (1, _), (2, _), (3, _), (4, _)]) (jm_sub_c rfl (jm_sub_c rfl (jm_sub_c rfl (jm_sub_c rfl (jm_sub_c rfl (jm_sub_0 _)))))) ?_
              exact yj122 _ (Or.inl ⟨yc120, rfl⟩) (by decide)
            · skip
              refine jm_iconst C dX6_plan_63 ?_
              refine jm_goto 68 C dX6_plan_64 rfl ?_
              refine jm_lvs (lv' := [(0, _), (1, _), (2, _), (3, _), (4, _)]) (jm_sub_c rfl (jm_sub_c rfl (jm_sub_c rfl (jm_sub_c rfl (jm_sub_c rfl (jm_sub_0 _)))))) ?_
              exact yj122 _ (Or.inr ⟨yc120, rfl⟩) (by decide)
          refine jm_if_eq 53 C dX6_plan_46 rfl (by omega) (fun yc115 => ?_) (fun yc115 => ?_)
          · skip
            refine jm_iconst C dX6_plan_53 ?_
            refine jm_lvs (lv' := [(0, _), (1, _), (2, _), (3, _), (4, _)]) (jm_sub_c rfl (jm_sub_c rfl (jm_sub_c rfl (jm_sub_c rfl (jm_sub_c rfl (jm_sub_0 _)))))) ?_
            exact yj117 _ (Or.inl ⟨yc115, rfl⟩) (by decide)
          · skip
            refine jm_iconst C dX6_plan_49 ?_
            refine jm_goto 54 C dX6_plan_50 rfl ?_
            refine jm_lvs (lv' := [(0, _), (1, _), (2, _), (3, _), (4, _)]) (jm_sub_c rfl (jm_sub_c rfl (jm_sub_c rfl (jm_sub_c rfl (jm_sub_c rfl (jm_sub_0 _)))))) ?_
            exact yj117 _ (Or.inr ⟨yc115, rfl⟩) (by decide)
      · skip
        refine jm_iconst C dX6_plan_23 ?_
        refine jm_goto 28 C dX6_plan_24 rfl ?_
        refine jm_iload_n C dX6_plan_28 rfl ?_
        refine jm_iload_n C dX6_plan_29 rfl ?_
        refine jm_icmp_eq 53 C dX6_plan_30 rfl g1 g2 (fun yc136 => ?_) (fun yc136 => ?_)
        · skip
          refine jm_iconst C dX6_plan_53 ?_
          refine jm_aload_n C dX6_plan_54 rfl ?_
          refine jm_get (ci := 6) (f := 8) 8 rfl C rfl jw_u_6 Q.1.1 Q.1.2 rfl (by decide) jw_f_RX6_87 dX6_plan_55 (fun yr137 => ?_)
          refine jm_bipush C dX6_plan_58 (by decide +kernel) ?_
          have yj140 : ∀ (yz139 : Int), ((12 ≤ I 300 8 ∧ yz139 = 0) ∨ (¬ (12 ≤ I 300 8) ∧ yz139 = 1)) → jm_R yz139 → jm_J E G (0, 0) w I 68 [(0, .ref (w.2.1 300)), (1, jm_v a), (2, jm_v b), (3, jm_v h), (4, jm_v s)] [jm_v yz139, jm_v 0, jm_v 1, .ref (w.2.1 300)] := by
            intro yz139 ye141 ryz139
            refine jm_cVd (n := 3) (ci := 6) [] C (kX6_asked__ E w I Q _ _ _ (by omega) (by omega) (by omega)) jw_m_RX6_104 okX6_asked__ rfl ⟨rfl, rfl⟩ ⟨Nat.le_of_ble_eq_true rfl, Nat.le_of_ble_eq_true rfl⟩ rfl Q.1.1 Q.1.2 rfl rfl (Nat.le_of_ble_eq_true rfl) dX6_plan_68 ⟨Nat.le_of_ble_eq_true rfl, Nat.le_of_ble_eq_true rfl⟩ (fun yz143 yh142 => ?_)
            refine jm_if_ne 76 C dX6_plan_71 rfl (by omega) (fun yc144 => ?_) (fun yc144 => ?_)
            · skip
              refine jm_aload_n C dX6_plan_76 rfl ?_
              refine jm_getr (ci := 6) (f := 10) C rfl jw_u_6 Q.1.1 Q.1.2 rfl (by decide) jw_f_RX6_30 dX6_plan_77 ?_
              refine jm_aload_n C dX6_plan_80 rfl ?_
              refine jm_getv (ci := 6) (f := 8) (I 300 8) 8 rfl (jm_up_n (Or.inr (by decide))) C rfl jw_u_6 Q.1.1 Q.1.2 rfl (by decide) jw_f_RX6_87 dX6_plan_81 (fun yr145 => ?_)
              refine jm_iload_n C dX6_plan_84 rfl ?_
              refine jm_iast C (jm_X6_310 Q).1 rfl (jm_X6_310 Q).2 (by omega) (by omega) (by omega) dX6_plan_85 g1 ?_
              refine jm_aload_n C dX6_plan_86 rfl ?_
              refine jm_getr (ci := 6) (f := 11) C rfl jw_u_6 Q.1.1 Q.1.2 rfl (by decide) jw_f_RX6_33 dX6_plan_87 ?_
              refine jm_aload_n C dX6_plan_90 rfl ?_
              refine jm_getv (ci := 6) (f := 8) (I 300 8) 8 rfl (Eq.trans (jm_up_n (Or.inl (by decide))) (jm_up_n (Or.inr (by decide)))) C rfl jw_u_6 Q.1.1 Q.1.2 rfl (by decide) jw_f_RX6_87 dX6_plan_91 (fun yr146 => ?_)
              refine jm_iload_n C dX6_plan_94 rfl ?_
              refine jm_iast C (jm_X6_311 Q).1 rfl (jm_X6_311 Q).2 (by omega) (by omega) (by omega) dX6_plan_95 g2 ?_
              refine jm_aload_n C dX6_plan_96 rfl ?_
              refine jm_getr (ci := 6) (f := 12) C rfl jw_u_6 Q.1.1 Q.1.2 rfl (by decide) jw_f_RX6_36 dX6_plan_97 ?_
              refine jm_aload_n C dX6_plan_100 rfl ?_
              refine jm_getv (ci := 6) (f := 8) (I 300 8) 8 rfl (Eq.trans (jm_up_n (Or.inl (by decide))) (Eq.trans (jm_up_n (Or.inl (by decide))) (jm_up_n (Or.inr (by decide))))) C rfl jw_u_6 Q.1.1 Q.1.2 rfl (by decide) jw_f_RX6_87 dX6_plan_101 (fun yr147 => ?_)
              refine jm_iload_n C dX6_plan_104 rfl ?_
              refine jm_iast C (jm_X6_312 Q).1 rfl (jm_X6_312 Q).2 (by omega) (by omega) (by omega) dX6_plan_105 g3 ?_
              refine jm_aload_n C dX6_plan_106 rfl ?_
              refine jm_getr (ci := 6) (f := 13) C rfl jw_u_6 Q.1.1 Q.1.2 rfl (by decide) jw_f_RX6_39 dX6_plan_107 ?_
              refine jm_aload_n C dX6_plan_110 rfl ?_
              refine jm_getv (ci := 6) (f := 8) (I 300 8) 8 rfl (Eq.trans (jm_up_n (Or.inl (by decide))) (Eq.trans (jm_up_n (Or.inl (by decide))) (Eq.trans (jm_up_n (Or.inl (by decide))) (jm_up_n (Or.inr (by decide)))))) C rfl jw_u_6 Q.1.1 Q.1.2 rfl (by decide) jw_f_RX6_87 dX6_plan_111 (fun yr148 => ?_)
              refine jm_iload C dX6_plan_114 rfl ?_
              refine jm_iast C (jm_X6_313 Q).1 rfl (jm_X6_313 Q).2 (by omega) (by omega) (by omega) dX6_plan_116 g4 ?_
              refine jm_aload_n C dX6_plan_117 rfl ?_
              refine jm_getr (ci := 6) (f := 14) C rfl jw_u_6 Q.1.1 Q.1.2 rfl (by decide) jw_f_RX6_42 dX6_plan_118 ?_
              refine jm_aload_n C dX6_plan_121 rfl ?_
              refine jm_getv (ci := 6) (f := 8) (I 300 8) 8 rfl (Eq.trans (jm_up_n (Or.inl (by decide))) (Eq.trans (jm_up_n (Or.inl (by decide))) (Eq.trans (jm_up_n (Or.inl (by decide))) (Eq.trans (jm_up_n (Or.inl (by decide))) (jm_up_n (Or.inr (by decide))))))) C rfl jw_u_6 Q.1.1 Q.1.2 rfl (by decide) jw_f_RX6_87 dX6_plan_122 (fun yr149 => ?_)
              refine jm_iconst C dX6_plan_125 ?_
              refine jm_iast C (jm_X6_314 Q).1 rfl (jm_X6_314 Q).2 (by omega) (by omega) (by omega) dX6_plan_126 (by decide) ?_
              refine jm_iconst C dX6_plan_127 ?_
              refine jm_istore C dX6_plan_128 (by decide) ?_
              have lp130 : ∀ (yn130 : Nat) (m : Nat), 6 - m < yn130 → (m ≤ 6) → jm_J E G (0, 0) w (hk_filo (jm_up (jm_up (jm_up (jm_up (jm_up (jm_up I 300 0 (if (1 : Int) = 0 then 1 else if (0 : Int) = 0 then 2 else if (yz139 : Int) = 0 then 3 else 0)) 310 (I 300 8) a) 311 (I 300 8) b) 312 (I 300 8) h) 313 (I 300 8) s) 314 (I 300 8) (-1)) 320 (6 * (I 300 8)) ((m : Nat) : Int) (fun _ => -1)) 130 [(0, .ref (w.2.1 300)), (5, jm_v ((m : Nat) : Int))] [] := by
                intro yn130
                induction yn130 with
                | zero => intro m hlt130 hm; exact absurd hlt130 (Nat.not_lt_zero _)
                | succ yn130 ih130 =>
                  intro m hlt130 hm
                  refine jm_iload C dX6_plan_130 rfl ?_
                  refine jm_bipush C dX6_plan_132 (by decide +kernel) ?_
                  refine jm_icmp_ge 159 C dX6_plan_134 rfl (by omega) (by decide) (fun yc150 => ?_) (fun yc150 => ?_)
                  · skip
                    refine jm_aload_n C dX6_plan_159 rfl ?_
                    refine jm_dup C dX6_plan_160 rfl ?_
                    refine jm_getv (ci := 6) (f := 8) (I 300 8) 8 rfl (Eq.trans (hk_filo_o (Or.inl (by decide))) (Eq.trans (jm_up_n (Or.inl (by decide))) (Eq.trans (jm_up_n (Or.inl (by decide))) (Eq.trans (jm_up_n (Or.inl (by decide))) (Eq.trans (jm_up_n (Or.inl (by decide))) (Eq.trans (jm_up_n (Or.inl (by decide))) (jm_up_n (Or.inr (by decide))))))))) C rfl jw_u_6 Q.1.1 Q.1.2 rfl (by decide) jw_f_RX6_87 dX6_plan_161 (fun yr151 => ?_)
                    refine jm_iconst C dX6_plan_164 ?_
                    refine jm_iadd C dX6_plan_165 ?_
                    refine jm_put (ci := 6) (f := 8) (ty := .int) 8 rfl C rfl tyX6 tyX6_ok nmX6 jw_u_6 Q.1.1 Q.1.2 rfl (by decide) jw_f_RX6_87 rfl (by decide +kernel) rfl rfl dX6_plan_166 (by omega) ?_
                    refine jm_aload_n C dX6_plan_169 rfl ?_
                    refine jm_getv (ci := 6) (f := 8) ((I 300 8) + 1) 8 rfl (jm_up_s _ _ _ _) C rfl jw_u_6 Q.1.1 Q.1.2 rfl (by decide) jw_f_RX6_87 dX6_plan_170 (fun yr152 => ?_)
                    refine jm_iconst C dX6_plan_173 ?_
                    refine jm_isub C dX6_plan_174 ?_
                    exact hR _ _ _ _ dX6_plan_175 rfl ⟨hk_cd3 (Eq.trans (jm_up_n (Or.inr (by decide))) (Eq.trans (hk_filo_o (Or.inl (by decide))) (Eq.trans (jm_up_n (Or.inl (by decide))) (Eq.trans (jm_up_n (Or.inl (by decide))) (Eq.trans (jm_up_n (Or.inl (by decide))) (Eq.trans (jm_up_n (Or.inl (by decide))) (Eq.trans (jm_up_n (Or.inl (by decide))) (jm_up_s _ _ _ _)))))))) (by omega) (by omega) (by omega), fun q1 q2 q3 => ⟨by unfold hk_mplan; rw [show m = 6 by omega, if_neg (by omega), if_neg (by omega), if_neg (by omega)]; rfl, by omega⟩, fun q => absurd q (by omega)⟩
                  · skip
                    refine jm_aload_n C dX6_plan_137 rfl ?_
                    refine jm_getr (ci := 6) (f := 20) C rfl jw_u_6 Q.1.1 Q.1.2 rfl (by decide) jw_f_RX6_60 dX6_plan_138 ?_
                    refine jm_bipush C dX6_plan_141 (by decide +kernel) ?_
                    refine jm_aload_n C dX6_plan_143 rfl ?_
                    refine jm_getv (ci := 6) (f := 8) (I 300 8) 8 rfl (Eq.trans (hk_filo_o (Or.inl (by decide))) (Eq.trans (jm_up_n (Or.inl (by decide))) (Eq.trans (jm_up_n (Or.inl (by decide))) (Eq.trans (jm_up_n (Or.inl (by decide))) (Eq.trans (jm_up_n (Or.inl (by decide))) (Eq.trans (jm_up_n (Or.inl (by decide))) (jm_up_n (Or.inr (by decide))))))))) C rfl jw_u_6 Q.1.1 Q.1.2 rfl (by decide) jw_f_RX6_87 dX6_plan_144 (fun yr153 => ?_)
                    refine jm_imul C dX6_plan_147 ?_
                    refine jm_iload C dX6_plan_148 rfl ?_
                    refine jm_iadd C dX6_plan_150 ?_
                    refine jm_iconst C dX6_plan_151 ?_
                    refine jm_iast C (jm_X6_320 Q).1 rfl (jm_X6_320 Q).2 (by omega) (by omega) (by omega) dX6_plan_152 (by decide) ?_
                    refine jm_iinc C dX6_plan_153 (by decide) rfl ?_
                    refine jm_goto 130 C dX6_plan_156 rfl ?_
                    refine jm_mq (hk_filo_s _ 320 (6 * (I 300 8)) m (fun _ => -1) _ rfl).symm ?_
                    refine jm_lvs (lv' := [(0, _), (5, _)]) (jm_sub_c rfl (jm_sub_c rfl (jm_sub_0 _))) ?_
                    exact ih130 (m + 1) (by omega) (by omega)
              refine jm_mq (hk_filo_0 _ 320 (6 * (I 300 8)) (fun _ => -1)) ?_
              refine jm_lvs (lv' := [(0, _), (5, _)]) (jm_sub_c rfl (jm_sub_c rfl (jm_sub_0 _))) ?_
              exact lp130 _ 0 (Nat.lt_succ_self _) (Nat.zero_le _)
            · skip
              refine jm_iconst C dX6_plan_74 ?_
              exact hR _ _ _ _ dX6_plan_75 rfl ⟨hk_cd3 (jm_up_s _ _ _ _) (by omega) (by omega) (by omega), fun q1 q2 q3 => by omega, fun _ => hk_wk_0 _ _⟩
          refine jm_icmp_ge 67 C dX6_plan_60 rfl (by omega) (by decide) (fun yc138 => ?_) (fun yc138 => ?_)
          · skip
            refine jm_iconst C dX6_plan_67 ?_
            refine jm_lvs (lv' := [(0, _), (1, _), (2, _), (3, _), (4, _)]) (jm_sub_c rfl (jm_sub_c rfl (jm_sub_c rfl (jm_sub_c rfl (jm_sub_c rfl (jm_sub_0 _)))))) ?_
            exact yj140 _ (Or.inl ⟨yc138, rfl⟩) (by decide)
          · skip
            refine jm_iconst C dX6_plan_63 ?_
            refine jm_goto 68 C dX6_plan_64 rfl ?_
            refine jm_lvs (lv' := [(0, _), (1, _), (2, _), (3, _), (4, _)]) (jm_sub_c rfl (jm_sub_c rfl (jm_sub_c rfl (jm_sub_c rfl (jm_sub_c rfl (jm_sub_0 _)))))) ?_
            exact yj140 _ (Or.inr ⟨yc138, rfl⟩) (by decide)
        · skip
          refine jm_iload_n C dX6_plan_33 rfl ?_
          refine jm_aload_n C dX6_plan_34 rfl ?_
          refine jm_get (ci := 6) (f := 1) 1 rfl C rfl jw_u_6 Q.1.1 Q.1.2 rfl (by decide) jw_f_RX6_101 dX6_plan_35 (fun yr154 => ?_)
          refine jm_iconst C dX6_plan_38 ?_
          refine jm_iadd C dX6_plan_39 ?_
          refine jm_sipush C dX6_plan_40 (by decide +kernel) ?_
          refine jm_cSd (n := 3) [jm_v 1, .ref (w.2.1 300)] C (kX6_in E w I _ _ _ g3 (by omega) (by decide)) jw_m_RX6_90 okX6_in rfl ⟨rfl, rfl⟩ ⟨Nat.le_of_ble_eq_true rfl, Nat.le_of_ble_eq_true rfl⟩ rfl rfl (Nat.le_of_ble_eq_true rfl) dX6_plan_43 ⟨Nat.le_of_ble_eq_true rfl, Nat.le_of_ble_eq_true rfl⟩ (fun yz156 yh155 => ?_)
          have yj159 : ∀ (yz158 : Int), ((yz156 = 0 ∧ yz158 = 0) ∨ (¬ (yz156 = 0) ∧ yz158 = 1)) → jm_R yz158 → jm_J E G (0, 0) w I 54 [(0, .ref (w.2.1 300)), (1, jm_v a), (2, jm_v b), (3, jm_v h), (4, jm_v s)] [jm_v yz158, jm_v 1, .ref (w.2.1 300)] := by
            intro yz158 ye160 ryz158
            refine jm_aload_n C dX6_plan_54 rfl ?_
            refine jm_get (ci := 6) (f := 8) 8 rfl C rfl jw_u_6 Q.1.1 Q.1.2 rfl (by decide) jw_f_RX6_87 dX6_plan_55 (fun yr161 => ?_)
            refine jm_bipush C dX6_plan_58 (by decide +kernel) ?_
            have yj164 : ∀ (yz163 : Int), ((12 ≤ I 300 8 ∧ yz163 = 0) ∨ (¬ (12 ≤ I 300 8) ∧ yz163 = 1)) → jm_R yz163 → jm_J E G (0, 0) w I 68 [(0, .ref (w.2.1 300)), (1, jm_v a), (2, jm_v b), (3, jm_v h), (4, jm_v s)] [jm_v yz163, jm_v yz158, jm_v 1, .ref (w.2.1 300)] := by
              intro yz163 ye165 ryz163
              refine jm_cVd (n := 3) (ci := 6) [] C (kX6_asked__ E w I Q _ _ _ (by omega) (by omega) (by omega)) jw_m_RX6_104 okX6_asked__ rfl ⟨rfl, rfl⟩ ⟨Nat.le_of_ble_eq_true rfl, Nat.le_of_ble_eq_true rfl⟩ rfl Q.1.1 Q.1.2 rfl rfl (Nat.le_of_ble_eq_true rfl) dX6_plan_68 ⟨Nat.le_of_ble_eq_true rfl, Nat.le_of_ble_eq_true rfl⟩ (fun yz167 yh166 => ?_)
              refine jm_if_ne 76 C dX6_plan_71 rfl (by omega) (fun yc168 => ?_) (fun yc168 => ?_)
              · skip
                refine jm_aload_n C dX6_plan_76 rfl ?_
                refine jm_getr (ci := 6) (f := 10) C rfl jw_u_6 Q.1.1 Q.1.2 rfl (by decide) jw_f_RX6_30 dX6_plan_77 ?_
                refine jm_aload_n C dX6_plan_80 rfl ?_
                refine jm_getv (ci := 6) (f := 8) (I 300 8) 8 rfl (jm_up_n (Or.inr (by decide))) C rfl jw_u_6 Q.1.1 Q.1.2 rfl (by decide) jw_f_RX6_87 dX6_plan_81 (fun yr169 => ?_)
                refine jm_iload_n C dX6_plan_84 rfl ?_
                refine jm_iast C (jm_X6_310 Q).1 rfl (jm_X6_310 Q).2 (by omega) (by omega) (by omega) dX6_plan_85 g1 ?_
                refine jm_aload_n C dX6_plan_86 rfl ?_
                refine jm_getr (ci := 6) (f := 11) C rfl jw_u_6 Q.1.1 Q.1.2 rfl (by decide) jw_f_RX6_33 dX6_plan_87 ?_
                refine jm_aload_n C dX6_plan_90 rfl ?_
                refine jm_getv (ci := 6) (f := 8) (I 300 8) 8 rfl (Eq.trans (jm_up_n (Or.inl (by decide))) (jm_up_n (Or.inr (by decide)))) C rfl jw_u_6 Q.1.1 Q.1.2 rfl (by decide) jw_f_RX6_87 dX6_plan_91 (fun yr170 => ?_)
                refine jm_iload_n C dX6_plan_94 rfl ?_
                refine jm_iast C (jm_X6_311 Q).1 rfl (jm_X6_311 Q).2 (by omega) (by omega) (by omega) dX6_plan_95 g2 ?_
                refine jm_aload_n C dX6_plan_96 rfl ?_
                refine jm_getr (ci := 6) (f := 12) C rfl jw_u_6 Q.1.1 Q.1.2 rfl (by decide) jw_f_RX6_36 dX6_plan_97 ?_
                refine jm_aload_n C dX6_plan_100 rfl ?_
                refine jm_getv (ci := 6) (f := 8) (I 300 8) 8 rfl (Eq.trans (jm_up_n (Or.inl (by decide))) (Eq.trans (jm_up_n (Or.inl (by decide))) (jm_up_n (Or.inr (by decide))))) C rfl jw_u_6 Q.1.1 Q.1.2 rfl (by decide) jw_f_RX6_87 dX6_plan_101 (fun yr171 => ?_)
                refine jm_iload_n C dX6_plan_104 rfl ?_
                refine jm_iast C (jm_X6_312 Q).1 rfl (jm_X6_312 Q).2 (by omega) (by omega) (by omega) dX6_plan_105 g3 ?_
                refine jm_aload_n C dX6_plan_106 rfl ?_
                refine jm_getr (ci := 6) (f := 13) C rfl jw_u_6 Q.1.1 Q.1.2 rfl (by decide) jw_f_RX6_39 dX6_plan_107 ?_
                refine jm_aload_n C dX6_plan_110 rfl ?_
                refine jm_getv (ci := 6) (f := 8) (I 300 8) 8 rfl (Eq.trans (jm_up_n (Or.inl (by decide))) (Eq.trans (jm_up_n (Or.inl (by decide))) (Eq.trans (jm_up_n (Or.inl (by decide))) (jm_up_n (Or.inr (by decide)))))) C rfl jw_u_6 Q.1.1 Q.1.2 rfl (by decide) jw_f_RX6_87 dX6_plan_111 (fun yr172 => ?_)
                refine jm_iload C dX6_plan_114 rfl ?_
                refine jm_iast C (jm_X6_313 Q).1 rfl (jm_X6_313 Q).2 (by omega) (by omega) (by omega) dX6_plan_116 g4 ?_
                refine jm_aload_n C dX6_plan_117 rfl ?_
                refine jm_getr (ci := 6) (f := 14) C rfl jw_u_6 Q.1.1 Q.1.2 rfl (by decide) jw_f_RX6_42 dX6_plan_118 ?_
                refine jm_aload_n C dX6_plan_121 rfl ?_
                refine jm_getv (ci := 6) (f := 8) (I 300 8) 8 rfl (Eq.trans (jm_up_n (Or.inl (by decide))) (Eq.trans (jm_up_n (Or.inl (by decide))) (Eq.trans (jm_up_n (Or.inl (by decide))) (Eq.trans (jm_up_n (Or.inl (by decide))) (jm_up_n (Or.inr (by decide))))))) C rfl jw_u_6 Q.1.1 Q.1.2 rfl (by decide) jw_f_RX6_87 dX6_plan_122 (fun yr173 => ?_)
                refine jm_iconst C dX6_plan_125 ?_
                refine jm_iast C (jm_X6_314 Q).1 rfl (jm_X6_314 Q).2 (by omega) (by omega) (by omega) dX6_plan_126 (by decide) ?_
                refine jm_iconst C dX6_plan_127 ?_
                refine jm_istore C dX6_plan_128 (by decide) ?_
                have lp130 : ∀ (yn130 : Nat) (m : Nat), 6 - m < yn130 → (m ≤ 6) → jm_J E G (0, 0) w (hk_filo (jm_up (jm_up (jm_up (jm_up (jm_up (jm_up I 300 0 (if (1 : Int) = 0 then 1 else if (yz158 : Int) = 0 then 2 else if (yz163 : Int) = 0 then 3 else 0)) 310 (I 300 8) a) 311 (I 300 8) b) 312 (I 300 8) h) 313 (I 300 8) s) 314 (I 300 8) (-1)) 320 (6 * (I 300 8)) ((m : Nat) : Int) (fun _ => -1)) 130 [(0, .ref (w.2.1 300)), (5, jm_v ((m : Nat) : Int))] [] := by
                  intro yn130
                  induction yn130 with
                  | zero => intro m hlt130 hm; exact absurd hlt130 (Nat.not_lt_zero _)
                  | succ yn130 ih130 =>
                    intro m hlt130 hm
                    refine jm_iload C dX6_plan_130 rfl ?_
                    refine jm_bipush C dX6_plan_132 (by decide +kernel) ?_
                    refine jm_icmp_ge 159 C dX6_plan_134 rfl (by omega) (by decide) (fun yc174 => ?_) (fun yc174 => ?_)
                    · skip
                      refine jm_aload_n C dX6_plan_159 rfl ?_
                      refine jm_dup C dX6_plan_160 rfl ?_
                      refine jm_getv (ci := 6) (f := 8) (I 300 8) 8 rfl (Eq.trans (hk_filo_o (Or.inl (by decide))) (Eq.trans (jm_up_n (Or.inl (by decide))) (Eq.trans (jm_up_n (Or.inl (by decide))) (Eq.trans (jm_up_n (Or.inl (by decide))) (Eq.trans (jm_up_n (Or.inl (by decide))) (Eq.trans (jm_up_n (Or.inl (by decide))) (jm_up_n (Or.inr (by decide))))))))) C rfl jw_u_6 Q.1.1 Q.1.2 rfl (by decide) jw_f_RX6_87 dX6_plan_161 (fun yr175 => ?_)
                      refine jm_iconst C dX6_plan_164 ?_
                      refine jm_iadd C dX6_plan_165 ?_
                      refine jm_put (ci := 6) (f := 8) (ty := .int) 8 rfl C rfl tyX6 tyX6_ok nmX6 jw_u_6 Q.1.1 Q.1.2 rfl (by decide) jw_f_RX6_87 rfl (by decide +kernel) rfl rfl dX6_plan_166 (by omega) ?_
                      refine jm_aload_n C dX6_plan_169 rfl ?_
                      refine jm_getv (ci := 6) (f := 8) ((I 300 8) + 1) 8 rfl (jm_up_s _ _ _ _) C rfl jw_u_6 Q.1.1 Q.1.2 rfl (by decide) jw_f_RX6_87 dX6_plan_170 (fun yr176 => ?_)
                      refine jm_iconst C dX6_plan_173 ?_
                      refine jm_isub C dX6_plan_174 ?_
                      exact hR _ _ _ _ dX6_plan_175 rfl ⟨hk_cd3 (Eq.trans (jm_up_n (Or.inr (by decide))) (Eq.trans (hk_filo_o (Or.inl (by decide))) (Eq.trans (jm_up_n (Or.inl (by decide))) (Eq.trans (jm_up_n (Or.inl (by decide))) (Eq.trans (jm_up_n (Or.inl (by decide))) (Eq.trans (jm_up_n (Or.inl (by decide))) (Eq.trans (jm_up_n (Or.inl (by decide))) (jm_up_s _ _ _ _)))))))) (by omega) (by omega) (by omega), fun q1 q2 q3 => ⟨by unfold hk_mplan; rw [show m = 6 by omega, if_neg (by omega), if_neg (by omega), if_neg (by omega)]; rfl, by omega⟩, fun q => absurd q (by omega)⟩
                    · skip
                      refine jm_aload_n C dX6_plan_137 rfl ?_
                      refine jm_getr (ci := 6) (f := 20) C rfl jw_u_6 Q.1.1 Q.1.2 rfl (by decide) jw_f_RX6_60 dX6_plan_138 ?_
                      refine jm_bipush C dX6_plan_141 (by decide +kernel) ?_
                      refine jm_aload_n C dX6_plan_143 rfl ?_
                      refine jm_getv (ci := 6) (f := 8) (I 300 8) 8 rfl (Eq.trans (hk_filo_o (Or.inl (by decide))) (Eq.trans (jm_up_n (Or.inl (by decide))) (Eq.trans (jm_up_n (Or.inl (by decide))) (Eq.trans (jm_up_n (Or.inl (by decide))) (Eq.trans (jm_up_n (Or.inl (by decide))) (Eq.trans (jm_up_n (Or.inl (by decide))) (jm_up_n (Or.inr (by decide))))))))) C rfl jw_u_6 Q.1.1 Q.1.2 rfl (by decide) jw_f_RX6_87 dX6_plan_144 (fun yr177 => ?_)
                      refine jm_imul C dX6_plan_147 ?_
                      refine jm_iload C dX6_plan_148 rfl ?_
                      refine jm_iadd C dX6_plan_150 ?_
                      refine jm_iconst C dX6_plan_151 ?_
                      refine jm_iast C (jm_X6_320 Q).1 rfl (jm_X6_320 Q).2 (by omega) (by omega) (by omega) dX6_plan_152 (by decide) ?_
                      refine jm_iinc C dX6_plan_153 (by decide) rfl ?_
                      refine jm_goto 130 C dX6_plan_156 rfl ?_
                      refine jm_mq (hk_filo_s _ 320 (6 * (I 300 8)) m (fun _ => -1) _ rfl).symm ?_
                      refine jm_lvs (lv' := [(0, _), (5, _)]) (jm_sub_c rfl (jm_sub_c rfl (jm_sub_0 _))) ?_
                      exact ih130 (m + 1) (by omega) (by omega)
                refine jm_mq (hk_filo_0 _ 320 (6 * (I 300 8)) (fun _ => -1)) ?_
                refine jm_lvs (lv' := [(0, _), (5, _)]) (jm_sub_c rfl (jm_sub_c rfl (jm_sub_0 _))) ?_
                exact lp130 _ 0 (Nat.lt_succ_self _) (Nat.zero_le _)
              · skip
                refine jm_iconst C dX6_plan_74 ?_
                exact hR _ _ _ _ dX6_plan_75 rfl ⟨hk_cd3 (jm_up_s _ _ _ _) (by omega) (by omega) (by omega), fun q1 q2 q3 => by omega, fun _ => hk_wk_0 _ _⟩
            refine jm_icmp_ge 67 C dX6_plan_60 rfl (by omega) (by decide) (fun yc162 => ?_) (fun yc162 => ?_)
            · skip
              refine jm_iconst C dX6_plan_67 ?_
              refine jm_lvs (lv' := [(0, _), (1, _), (2, _), (3, _), (4, _)]) (jm_sub_c rfl (jm_sub_c rfl (jm_sub_c rfl (jm_sub_c rfl (jm_sub_c rfl (jm_sub_0 _)))))) ?_
              exact yj164 _ (Or.inl ⟨yc162, rfl⟩) (by decide)
            · skip
              refine jm_iconst C dX6_plan_63 ?_
              refine jm_goto 68 C dX6_plan_64 rfl ?_
              refine jm_lvs (lv' := [(0, _), (1, _), (2, _), (3, _), (4, _)]) (jm_sub_c rfl (jm_sub_c rfl (jm_sub_c rfl (jm_sub_c rfl (jm_sub_c rfl (jm_sub_0 _)))))) ?_
              exact yj164 _ (Or.inr ⟨yc162, rfl⟩) (by decide)
          refine jm_if_eq 53 C dX6_plan_46 rfl (by omega) (fun yc157 => ?_) (fun yc157 => ?_)
          · skip
            refine jm_iconst C dX6_plan_53 ?_
            refine jm_lvs (lv' := [(0, _), (1, _), (2, _), (3, _), (4, _)]) (jm_sub_c rfl (jm_sub_c rfl (jm_sub_c rfl (jm_sub_c rfl (jm_sub_c rfl (jm_sub_0 _)))))) ?_
            exact yj159 _ (Or.inl ⟨yc157, rfl⟩) (by decide)
          · skip
            refine jm_iconst C dX6_plan_49 ?_
            refine jm_goto 54 C dX6_plan_50 rfl ?_
            refine jm_lvs (lv' := [(0, _), (1, _), (2, _), (3, _), (4, _)]) (jm_sub_c rfl (jm_sub_c rfl (jm_sub_c rfl (jm_sub_c rfl (jm_sub_c rfl (jm_sub_0 _)))))) ?_
            exact yj159 _ (Or.inr ⟨yc157, rfl⟩) (by decide)
