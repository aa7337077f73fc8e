set_option maxRecDepth 100000 in
set_option maxHeartbeats 4000000 in
theorem kX6_wanted (E : jm_E) (w : jm_W) (I : jm_M) (Q : jm_X6 E w) (n : Nat) (hn : I 300 8 = n) (hn12 : n ≤ 12) : jm_Mi E yX6_wanted wX6_wanted rmX6_wanted 0 0 w I [.ref (w.2.1 300)] (fun I' z => I' = I ∧ z = (hk_mwa I n 3).1) := by
  refine jm_in_i (cc := cX6_wanted) (maxL := 6) (rt := .int) RX6 (by decide +kernel) rfl rfl (Nat.le_of_ble_eq_true rfl) (by simp [Value.category]) ?_
  intro G C hR hI
  refine jm_iconst C dX6_wanted_0 ?_
  refine jm_istore_n C dX6_wanted_1 (by decide) ?_
  refine jm_iconst C dX6_wanted_2 ?_
  refine jm_istore_n C dX6_wanted_3 (by decide) ?_
  refine jm_iconst C dX6_wanted_4 ?_
  refine jm_istore_n C dX6_wanted_5 (by decide) ?_
  have lp6 : ∀ (yn6 : Nat) (m : Nat) (be : Int) (le : Int), 3 - m < yn6 → (m ≤ 3) → ((be, le) = hk_mwa I n m) → (-1 ≤ be ∧ be ≤ 3) → (jm_R le) → jm_J E G (0, 0) w I 6 [(0, .ref (w.2.1 300)), (1, jm_v be), (2, jm_v le), (3, jm_v ((m : Nat) : Int))] [] := by
    intro yn6
    induction yn6 with
    | zero => intro m be le hlt6 hm hb hbr hlr; exact absurd hlt6 (Nat.not_lt_zero _)
    | succ yn6 ih6 =>
      intro m be le hlt6 hm hb hbr hlr
      refine jm_iload_n C dX6_wanted_6 rfl ?_
      refine jm_iconst C dX6_wanted_7 ?_
      refine jm_icmp_ge 120 C dX6_wanted_8 rfl (by omega) (by decide) (fun yc1 => ?_) (fun yc1 => ?_)
      · skip
        refine jm_iload_n C dX6_wanted_120 rfl ?_
        exact hR _ _ _ _ dX6_wanted_121 rfl ⟨rfl, by rw [show m = 3 by omega] at hb; exact congrArg Prod.fst hb⟩
      · skip
        refine jm_sipush C dX6_wanted_11 (by decide +kernel) ?_
        refine jm_istore C dX6_wanted_14 (by decide) ?_
        refine jm_iconst C dX6_wanted_16 ?_
        refine jm_istore C dX6_wanted_17 (by decide) ?_
        have lp19 : ∀ (yn19 : Nat) (g2 : Nat) (ho : Int), n - g2 < yn19 → (g2 ≤ n) → (ho = hk_mhr I m g2) → (jm_R ho) → jm_J E G (0, 0) w I 19 [(0, .ref (w.2.1 300)), (1, jm_v be), (2, jm_v le), (3, jm_v ((m : Nat) : Int)), (4, jm_v ho), (5, jm_v ((g2 : Nat) : Int))] [] := by
          intro yn19
          induction yn19 with
          | zero => intro g2 ho hlt19 hm hh hhR; exact absurd hlt19 (Nat.not_lt_zero _)
          | succ yn19 ih19 =>
            intro g2 ho hlt19 hm hh hhR
            refine jm_iload C dX6_wanted_19 rfl ?_
            refine jm_aload_n C dX6_wanted_21 rfl ?_
            refine jm_get (ci := 6) (f := 8) 8 rfl C rfl jw_u_6 Q.1.1 Q.1.2 rfl (by decide) jw_f_RX6_87 dX6_wanted_22 (fun yr2 => ?_)
            refine jm_icmp_ge 81 C dX6_wanted_25 rfl (by omega) (by omega) (fun yc3 => ?_) (fun yc3 => ?_)
            · skip
              rw [show g2 = n by omega] at hh
              refine jm_aload_n C dX6_wanted_81 rfl ?_
              refine jm_iload_n C dX6_wanted_82 rfl ?_
              refine jm_cVd (n := 1) (ci := 6) [] C (kX6_isFree E w I Q _ (by omega)) jw_m_RX6_149 okX6_isFree rfl ⟨rfl, rfl⟩ ⟨Nat.le_of_ble_eq_true rfl, Nat.le_of_ble_eq_true rfl⟩ rfl Q.1.1 Q.1.2 rfl rfl (Nat.le_of_ble_eq_true rfl) dX6_wanted_83 ⟨Nat.le_of_ble_eq_true rfl, Nat.le_of_ble_eq_true rfl⟩ (fun yz5 yh4 => ?_)
              refine jm_if_eq 114 C dX6_wanted_86 rfl (by omega) (fun yc6 => ?_) (fun yc6 => ?_)
              · skip
                refine jm_iinc C dX6_wanted_114 (by decide) rfl ?_
                refine jm_goto 6 C dX6_wanted_117 rfl ?_
                refine jm_lvs (lv' := [(0, _), (1, _), (2, _), (3, _)]) (jm_sub_c rfl (jm_sub_c rfl (jm_sub_c rfl (jm_sub_c rfl (jm_sub_0 _))))) ?_
                exact ih6 (m + 1) _ _ (by omega) (by omega) (by rw [hk_mwa, ← hb]; dsimp only; rw [← hh]; first | rw [if_pos (by omega)] | rw [if_neg (by omega)]) (by omega) (by first | exact hlr | exact hhR)
              · skip
                refine jm_aload_n C dX6_wanted_89 rfl ?_
                refine jm_getr (ci := 6) (f := 6) C rfl jw_u_6 Q.1.1 Q.1.2 rfl (by decide) jw_f_RX6_20 dX6_wanted_90 ?_
                refine jm_iload_n C dX6_wanted_93 rfl ?_
                refine jm_zald C (jm_X6_306 Q).1 rfl (jm_X6_306 Q).2 (by omega) (by omega) (by omega) dX6_wanted_94 (fun yr7 => ?_)
                refine jm_if_eq 114 C dX6_wanted_95 rfl (by omega) (fun yc8 => ?_) (fun yc8 => ?_)
                · skip
                  refine jm_iinc C dX6_wanted_114 (by decide) rfl ?_
                  refine jm_goto 6 C dX6_wanted_117 rfl ?_
                  refine jm_lvs (lv' := [(0, _), (1, _), (2, _), (3, _)]) (jm_sub_c rfl (jm_sub_c rfl (jm_sub_c rfl (jm_sub_c rfl (jm_sub_0 _))))) ?_
                  exact ih6 (m + 1) _ _ (by omega) (by omega) (by rw [hk_mwa, ← hb]; dsimp only; rw [← hh]; first | rw [if_pos (by omega)] | rw [if_neg (by omega)]) (by omega) (by first | exact hlr | exact hhR)
                · skip
                  refine jm_iload_n C dX6_wanted_98 rfl ?_
                  refine jm_iconst C dX6_wanted_99 ?_
                  refine jm_icmp_eq 109 C dX6_wanted_100 rfl (by omega) (by decide) (fun yc9 => ?_) (fun yc9 => ?_)
                  · skip
                    refine jm_iload_n C dX6_wanted_109 rfl ?_
                    refine jm_istore_n C dX6_wanted_110 (by decide) ?_
                    refine jm_iload C dX6_wanted_111 rfl ?_
                    refine jm_istore_n C dX6_wanted_113 (by decide) ?_
                    refine jm_iinc C dX6_wanted_114 (by decide) rfl ?_
                    refine jm_goto 6 C dX6_wanted_117 rfl ?_
                    refine jm_lvs (lv' := [(0, _), (1, _), (2, _), (3, _)]) (jm_sub_c rfl (jm_sub_c rfl (jm_sub_c rfl (jm_sub_c rfl (jm_sub_0 _))))) ?_
                    exact ih6 (m + 1) _ _ (by omega) (by omega) (by rw [hk_mwa, ← hb]; dsimp only; rw [← hh]; first | rw [if_pos (by omega)] | rw [if_neg (by omega)]) (by omega) (by first | exact hlr | exact hhR)
                  · skip
                    refine jm_iload C dX6_wanted_103 rfl ?_
                    refine jm_iload_n C dX6_wanted_105 rfl ?_
                    refine jm_icmp_ge 114 C dX6_wanted_106 rfl (by omega) (by omega) (fun yc10 => ?_) (fun yc10 => ?_)
                    · skip
                      refine jm_iinc C dX6_wanted_114 (by decide) rfl ?_
                      refine jm_goto 6 C dX6_wanted_117 rfl ?_
                      refine jm_lvs (lv' := [(0, _), (1, _), (2, _), (3, _)]) (jm_sub_c rfl (jm_sub_c rfl (jm_sub_c rfl (jm_sub_c rfl (jm_sub_0 _))))) ?_
                      exact ih6 (m + 1) _ _ (by omega) (by omega) (by rw [hk_mwa, ← hb]; dsimp only; rw [← hh]; first | rw [if_pos (by omega)] | rw [if_neg (by omega)]) (by omega) (by first | exact hlr | exact hhR)
                    · skip
                      refine jm_iload_n C dX6_wanted_109 rfl ?_
                      refine jm_istore_n C dX6_wanted_110 (by decide) ?_
                      refine jm_iload C dX6_wanted_111 rfl ?_
                      refine jm_istore_n C dX6_wanted_113 (by decide) ?_
                      refine jm_iinc C dX6_wanted_114 (by decide) rfl ?_
                      refine jm_goto 6 C dX6_wanted_117 rfl ?_
                      refine jm_lvs (lv' := [(0, _), (1, _), (2, _), (3, _)]) (jm_sub_c rfl (jm_sub_c rfl (jm_sub_c rfl (jm_sub_c rfl (jm_sub_0 _))))) ?_
                      exact ih6 (m + 1) _ _ (by omega) (by omega) (by rw [hk_mwa, ← hb]; dsimp only; rw [← hh]; first | rw [if_pos (by omega)] | rw [if_neg (by omega)]) (by omega) (by first | exact hlr | exact hhR)
            · skip
              refine jm_aload_n C dX6_wanted_28 rfl ?_
              refine jm_getr (ci := 6) (f := 9) C rfl jw_u_6 Q.1.1 Q.1.2 rfl (by decide) jw_f_RX6_27 dX6_wanted_29 ?_
              refine jm_iload C dX6_wanted_32 rfl ?_
              refine jm_iald C (jm_X6_309 Q).1 rfl (jm_X6_309 Q).2 (by omega) (by omega) (by omega) dX6_wanted_34 (fun yr11 => ?_)
              refine jm_if_ne 71 C dX6_wanted_35 rfl (by omega) (fun yc12 => ?_) (fun yc12 => ?_)
              · skip
                refine jm_iload C dX6_wanted_71 rfl ?_
                refine jm_istore C dX6_wanted_73 (by decide) ?_
                refine jm_iinc C dX6_wanted_75 (by decide) rfl ?_
                refine jm_goto 19 C dX6_wanted_78 rfl ?_
                refine jm_lvs (lv' := [(0, _), (1, _), (2, _), (3, _), (4, _), (5, _)]) (jm_sub_c rfl (jm_sub_c rfl (jm_sub_c rfl (jm_sub_c rfl (jm_sub_c rfl (jm_sub_c rfl (jm_sub_0 _))))))) ?_
                exact ih19 (g2 + 1) _ (by omega) (by omega) (by rw [hk_mhr, ← hh]; first | rw [if_pos (by omega)] | rw [if_neg (by omega)]) (by first | exact hhR | assumption)
              · skip
                refine jm_aload_n C dX6_wanted_38 rfl ?_
                refine jm_getr (ci := 6) (f := 13) C rfl jw_u_6 Q.1.1 Q.1.2 rfl (by decide) jw_f_RX6_39 dX6_wanted_39 ?_
                refine jm_iload C dX6_wanted_42 rfl ?_
                refine jm_iald C (jm_X6_313 Q).1 rfl (jm_X6_313 Q).2 (by omega) (by omega) (by omega) dX6_wanted_44 (fun yr13 => ?_)
                refine jm_iload_n C dX6_wanted_45 rfl ?_
                refine jm_icmp_ne 71 C dX6_wanted_46 rfl (by omega) (by omega) (fun yc14 => ?_) (fun yc14 => ?_)
                · skip
                  refine jm_iload C dX6_wanted_71 rfl ?_
                  refine jm_istore C dX6_wanted_73 (by decide) ?_
                  refine jm_iinc C dX6_wanted_75 (by decide) rfl ?_
                  refine jm_goto 19 C dX6_wanted_78 rfl ?_
                  refine jm_lvs (lv' := [(0, _), (1, _), (2, _), (3, _), (4, _), (5, _)]) (jm_sub_c rfl (jm_sub_c rfl (jm_sub_c rfl (jm_sub_c rfl (jm_sub_c rfl (jm_sub_c rfl (jm_sub_0 _))))))) ?_
                  exact ih19 (g2 + 1) _ (by omega) (by omega) (by rw [hk_mhr, ← hh]; first | rw [if_pos (by omega)] | rw [if_neg (by omega)]) (by first | exact hhR | assumption)
                · skip
                  refine jm_aload_n C dX6_wanted_49 rfl ?_
                  refine jm_getr (ci := 6) (f := 12) C rfl jw_u_6 Q.1.1 Q.1.2 rfl (by decide) jw_f_RX6_36 dX6_wanted_50 ?_
                  refine jm_iload C dX6_wanted_53 rfl ?_
                  refine jm_iald C (jm_X6_312 Q).1 rfl (jm_X6_312 Q).2 (by omega) (by omega) (by omega) dX6_wanted_55 (fun yr15 => ?_)
                  refine jm_iload C dX6_wanted_56 rfl ?_
                  refine jm_icmp_ge 71 C dX6_wanted_58 rfl (by omega) (by omega) (fun yc16 => ?_) (fun yc16 => ?_)
                  · skip
                    refine jm_iload C dX6_wanted_71 rfl ?_
                    refine jm_istore C dX6_wanted_73 (by decide) ?_
                    refine jm_iinc C dX6_wanted_75 (by decide) rfl ?_
                    refine jm_goto 19 C dX6_wanted_78 rfl ?_
                    refine jm_lvs (lv' := [(0, _), (1, _), (2, _), (3, _), (4, _), (5, _)]) (jm_sub_c rfl (jm_sub_c rfl (jm_sub_c rfl (jm_sub_c rfl (jm_sub_c rfl (jm_sub_c rfl (jm_sub_0 _))))))) ?_
                    exact ih19 (g2 + 1) _ (by omega) (by omega) (by rw [hk_mhr, ← hh]; first | rw [if_pos (by omega)] | rw [if_neg (by omega)]) (by first | exact hhR | assumption)
                  · skip
                    refine jm_aload_n C dX6_wanted_61 rfl ?_
                    refine jm_getr (ci := 6) (f := 12) C rfl jw_u_6 Q.1.1 Q.1.2 rfl (by decide) jw_f_RX6_36 dX6_wanted_62 ?_
                    refine jm_iload C dX6_wanted_65 rfl ?_
                    refine jm_iald C (jm_X6_312 Q).1 rfl (jm_X6_312 Q).2 (by omega) (by omega) (by omega) dX6_wanted_67 (fun yr17 => ?_)
                    refine jm_goto 73 C dX6_wanted_68 rfl ?_
                    refine jm_istore C dX6_wanted_73 (by decide) ?_
                    refine jm_iinc C dX6_wanted_75 (by decide) rfl ?_
                    refine jm_goto 19 C dX6_wanted_78 rfl ?_
                    refine jm_lvs (lv' := [(0, _), (1, _), (2, _), (3, _), (4, _), (5, _)]) (jm_sub_c rfl (jm_sub_c rfl (jm_sub_c rfl (jm_sub_c rfl (jm_sub_c rfl (jm_sub_c rfl (jm_sub_0 _))))))) ?_
                    exact ih19 (g2 + 1) _ (by omega) (by omega) (by rw [hk_mhr, ← hh]; first | rw [if_pos (by omega)] | rw [if_neg (by omega)]) (by first | exact hhR | assumption)
        refine jm_lvs (lv' := [(0, _), (1, _), (2, _), (3, _), (4, _), (5, _)]) (jm_sub_c rfl (jm_sub_c rfl (jm_sub_c rfl (jm_sub_c rfl (jm_sub_c rfl (jm_sub_c rfl (jm_sub_0 _))))))) ?_
        exact lp19 _ 0 _ (Nat.lt_succ_self _) (Nat.zero_le _) rfl (by decide)
  refine jm_lvs (lv' := [(0, _), (1, _), (2, _), (3, _)]) (jm_sub_c rfl (jm_sub_c rfl (jm_sub_c rfl (jm_sub_c rfl (jm_sub_0 _))))) ?_
  exact lp6 _ 0 _ _ (Nat.lt_succ_self _) (Nat.zero_le _) rfl (by decide) (by decide)
set_option maxRecDepth 100000 in
set_option maxHeartbeats 4000000 in
theorem kX6_begins (E : jm_E) (w : jm_W) (I : jm_M) (Q : jm_X6 E w) (n : Nat) (hn : I 300 8 = n) (hn12 : n ≤ 12) (hwi : ∀ g : Int, 0 ≤ g → g < n → 0 ≤ I 313 g ∧ I 313 g < 3) (hdu : ∀ g : Int, 0 ≤ g → g < n → I 309 g = 0 → I 300 1 ≤ I 312 g) (hhr : ∀ g : Int, 0 ≤ g → g < n → I 312 g ≤ 1000000) : jm_Mv E yX6_begins wX6_begins rmX6_begins 0 0 w I [.ref (w.2.1 300)] (fun I' => I' = hk_mbe I n) := by
  refine jm_in_v (cc := cX6_begins) (maxL := 4) RX6 (by decide +kernel) rfl rfl (Nat.le_of_ble_eq_true rfl) (by simp [Value.category]) ?_
  intro G C hR hI
  refine jm_iconst C dX6_begins_0 ?_
  refine jm_istore_n C dX6_begins_1 (by decide) ?_
  have lp2 : ∀ (yn2 : Nat) (j0 : Nat) (M0 : jm_M), n - j0 < yn2 → (j0 ≤ n) → (∀ a, a ≠ 327 → M0 a = I a) → (∀ i : Int, ¬ (0 ≤ i ∧ i < n) → M0 327 i = I 327 i) → (∀ i : Int, 0 ≤ i → i < j0 → (M0 327 i = 1 ∧ ¬ hk_due I i) ∨ (M0 327 i = 0 ∧ hk_due I i)) → (∀ k j, jm_R (M0 k j)) → jm_J E G (0, 0) w M0 2 [(0, .ref (w.2.1 300)), (1, jm_v ((j0 : Nat) : Int))] [] := by
    intro yn2
    induction yn2 with
    | zero => intro j0 M0 hlt2 hm h0 h0o h0s hImem; exact absurd hlt2 (Nat.not_lt_zero _)
    | succ yn2 ih2 =>
      intro j0 M0 hlt2 hm h0 h0o h0s hImem
      have q8 := congrFun (h0 300 (by decide)) 8
      have q1 := congrFun (h0 300 (by decide)) 1
      have q9 := congrFun (h0 309 (by decide)) j0
      have q12 := congrFun (h0 312 (by decide)) j0
      refine jm_iload_n C dX6_begins_2 rfl ?_
      refine jm_aload_n C dX6_begins_3 rfl ?_
      refine jm_get (ci := 6) (f := 8) 8 rfl C rfl jw_u_6 Q.1.1 Q.1.2 rfl (by decide) jw_f_RX6_87 dX6_begins_4 (fun yr1 => ?_)
      refine jm_icmp_ge 49 C dX6_begins_7 rfl (by omega) (by omega) (fun yc2 => ?_) (fun yc2 => ?_)
      · skip
        refine jm_iconst C dX6_begins_49 ?_
        refine jm_istore_n C dX6_begins_50 (by decide) ?_
        have lp51 : ∀ (yn51 : Nat) (M : jm_M) (nx : Int) (m u : Nat), u < yn51 → (∀ a b, jm_R (M a b)) → (∀ a, a ≠ 327 → M a = hk_mbg I m a) → (∀ i : Int, ¬ (0 ≤ i ∧ i < n) → M 327 i = I 327 i) → (∀ i : Int, 0 ≤ i → i < n → (M 327 i = 1 ∧ (i < m ∨ ¬ hk_due I i)) ∨ (M 327 i = 0 ∧ m ≤ i ∧ hk_due I i)) → (m ≤ n) → (nx ≠ -1 ∨ m = n) → ((nx = -1 ∧ 2 * (n - m) ≤ u) ∨ 2 * (n - m) + 1 ≤ u) → (jm_R nx) → jm_J E G (0, 0) w M 51 [(0, .ref (w.2.1 300)), (1, jm_v nx)] [] := by
          intro yn51
          induction yn51 with
          | zero => intro M nx m u hlt51 hIM hMo hmo27 hse hmn hnx hu hnR; exact absurd hlt51 (Nat.not_lt_zero _)
          | succ yn51 ih51 =>
            intro M nx m u hlt51 hIM hMo hmo27 hse hmn hnx hu hnR
            have q8 : M 300 8 = n := (congrFun (hMo 300 (by decide)) 8).trans ((congrFun (hk_mbg_o I (by decide) m) 8).trans hn)
            refine jm_iload_n C dX6_begins_51 rfl ?_
            refine jm_iconst C dX6_begins_52 ?_
            refine jm_icmp_eq 258 C dX6_begins_53 rfl (by omega) (by decide) (fun yc3 => ?_) (fun yc3 => ?_)
            · skip
              exact hR _ _ _ dX6_begins_258 (by
                  have q : m = n := hnx.resolve_left (fun q => absurd q (by omega))
                  subst q
                  unfold hk_mbe hk_fill
                  funext a b
                  by_cases ha : a = 327
                  · subst ha
                    by_cases hb : 0 ≤ b ∧ b < m
                    · rw [if_pos ⟨rfl, hb⟩]
                      rcases hse b hb.1 hb.2 with q | q
                      · exact q.1
                      · exfalso; omega
                    · rw [if_neg (fun q => hb q.2), hmo27 b hb]; exact (congrFun (hk_mbg_o I (by decide) m) b).symm
                  · rw [if_neg (fun q => ha q.1)]; exact congrFun (hMo a ha) b)
            · skip
              refine jm_iconst C dX6_begins_56 ?_
              refine jm_istore_n C dX6_begins_57 (by decide) ?_
              refine jm_iconst C dX6_begins_58 ?_
              refine jm_istore_n C dX6_begins_59 (by decide) ?_
              have lp60 : ∀ (yn60 : Nat) (j : Nat) (nx2 : Int), n - j < yn60 → (j ≤ n) → ((nx2 = -1 ∧ ∀ i : Int, 0 ≤ i → i < j → M 327 i ≠ 0) ∨ (0 ≤ nx2 ∧ nx2 < j ∧ M 327 nx2 = 0 ∧ ∀ i : Int, 0 ≤ i → i < nx2 → M 327 i ≠ 0)) → jm_J E G (0, 0) w M 60 [(0, .ref (w.2.1 300)), (1, jm_v nx2), (2, jm_v ((j : Nat) : Int))] [] := by
                intro yn60
                induction yn60 with
                | zero => intro j nx2 hlt60 hm hni; exact absurd hlt60 (Nat.not_lt_zero _)
                | succ yn60 ih60 =>
                  intro j nx2 hlt60 hm hni
                  have hnr : -1 ≤ nx2 ∧ nx2 < 13 := by rcases hni with q | q <;> omega
                  have hM12 : ∀ i, (m : Int) ≤ i → M 312 i = I 312 i := fun i hi => (congrFun (hMo 312 (by decide)) i).trans (hk_mbg_i I (Or.inl rfl) m hi)
                  have hjj : (j : Int) < n → 0 ≤ nx2 → M 327 j = 0 → M 312 nx2 ≤ M 312 j := fun h1 h2 h3 => by
                    have q2 : nx2 < n ∧ M 327 nx2 = 0 := by rcases hni with q | q <;> omega
                    rcases hse j (by omega) h1 with q | q
                    · omega
                    · rcases hse nx2 h2 q2.1 with r | r
                      · omega
                      · rw [hM12 _ q.2.1, hM12 _ r.2.1]
                        have a1 := hdu nx2 h2 q2.1 r.2.2.1
                        have a2 := hdu j (by omega) h1 q.2.2.1
                        have a3 := r.2.2.2
                        have a4 := q.2.2.2
                        omega
                  refine jm_iload_n C dX6_begins_60 rfl ?_
                  refine jm_aload_n C dX6_begins_61 rfl ?_
                  refine jm_get (ci := 6) (f := 8) 8 rfl C rfl jw_u_6 Q.1.1 Q.1.2 rfl (by decide) jw_f_RX6_87 dX6_begins_62 (fun yr4 => ?_)
                  refine jm_icmp_ge 109 C dX6_begins_65 rfl (by omega) (by omega) (fun yc5 => ?_) (fun yc5 => ?_)
                  · skip
                    refine jm_iload_n C dX6_begins_109 rfl ?_
                    refine jm_iconst C dX6_begins_110 ?_
                    refine jm_icmp_eq 51 C dX6_begins_111 rfl (by omega) (by decide) (fun yc6 => ?_) (fun yc6 => ?_)
                    · skip
                      have hall : ∀ i : Int, 0 ≤ i → i < n → M 327 i ≠ 0 := by
                        rcases hni with q | q
                        · exact fun i h1 h2 => q.2 i h1 (by omega)
                        · exact absurd q.1 (by omega)
                      have hskip : hk_mbg I n = hk_mbg I m := by
                        have e := hk_mbg_skip I m (n - m) (fun i h1 h2 => by
                          rcases hse i (by omega) (by omega) with q | q
                          · rcases q.2 with q2 | q2
                            · exact absurd q2 (by omega)
                            · exact q2
                          · exact absurd q.1 (hall i (by omega) (by omega)))
                        rwa [show m + (n - m) = n by omega] at e
                      have hMs : ∀ a, a ≠ 327 → M a = hk_mbg I n a := by rw [hskip]; exact hMo
                      have hss : ∀ i : Int, 0 ≤ i → i < n → (M 327 i = 1 ∧ (i < n ∨ ¬ hk_due I i)) ∨ (M 327 i = 0 ∧ n ≤ i ∧ hk_due I i) := fun i h1 h2 => by
                        rcases hse i h1 h2 with q | q
                        · exact Or.inl ⟨q.1, Or.inl h2⟩
                        · exact absurd q.1 (hall i h1 h2)
                      refine jm_lvs (lv' := [(0, _), (1, _)]) (jm_sub_c rfl (jm_sub_c rfl (jm_sub_0 _))) ?_
                      exact ih51 _ _ n 0 (by omega) hIM hMs hmo27 hss (by omega) (Or.inr rfl) (by omega) (by omega)
                    · skip
                      refine jm_aload_n C dX6_begins_114 rfl ?_
                      refine jm_getr (ci := 6) (f := 27) C rfl jw_u_6 Q.1.1 Q.1.2 rfl (by decide) jw_f_RX6_81 dX6_begins_115 ?_
                      refine jm_iload_n C dX6_begins_118 rfl ?_
                      refine jm_iconst C dX6_begins_119 ?_
                      refine jm_zast C (jm_X6_327 Q).1 rfl (jm_X6_327 Q).2 (by omega) (by omega) (by omega) dX6_begins_120 (by decide) ?_
                      obtain ⟨M1, hM1⟩ : ∃ X, X = jm_up M 327 nx2 1 := ⟨_, rfl⟩
                      rw [← hM1]
                      refine jm_R_all (fun hIM1 => ?_)
                      have hx : (0 ≤ nx2 ∧ nx2 < n) ∧ M 327 nx2 = 0 ∧ (∀ i : Int, 0 ≤ i → i < nx2 → M 327 i ≠ 0) := by
                        rcases hni with q | q
                        · exact absurd q.1 (by omega)
                        · exact ⟨⟨q.1, by omega⟩, q.2.2.1, q.2.2.2⟩
                      obtain ⟨xn, hxn⟩ : ∃ xn : Nat, nx2 = (xn : Int) := ⟨(nx2).toNat, by omega⟩
                      have hxd : m ≤ xn ∧ hk_due I nx2 := by
                        rcases hse nx2 hx.1.1 hx.1.2 with q | q
                        · exact absurd q.1 (by omega)
                        · exact ⟨by omega, q.2.2⟩
                      have hbe : hk_mbg I xn = hk_mbg I m := by
                        have e := hk_mbg_skip I m (xn - m) (fun i h1 h2 => by
                          rcases hse i (by omega) (by omega) with q | q
                          · rcases q.2 with q2 | q2
                            · exact absurd q2 (by omega)
                            · exact q2
                          · exact absurd q.1 (hx.2.2 i (by omega) (by omega)))
                        rwa [show m + (xn - m) = xn by omega] at e
                      obtain ⟨K, hK⟩ : ∃ X, X = hk_mbg I xn := ⟨_, rfl⟩
                      have hMK : ∀ a, a ≠ 327 → M1 a = K a := fun a ha => by rw [hM1, hK, hbe]; funext b; rw [jm_up_n (Or.inl ha)]; exact congrFun (hMo a ha) b
                      have hK13 : K 313 = I 313 := by rw [hK]; exact hk_mbg_o I (by decide) xn
                      have hK12 : K 312 nx2 = I 312 nx2 := by rw [hK]; exact hk_mbg_i I (Or.inl rfl) xn (by omega)
                      have hw3 : 0 ≤ K 313 nx2 ∧ K 313 nx2 < 3 := by rw [hK13]; exact hwi nx2 hx.1.1 hx.1.2
                      have hh3 : K 312 nx2 ≤ 1000000 := by rw [hK12]; exact hhr nx2 hx.1.1 hx.1.2
                      have hKd : K 309 nx2 = 0 ∧ K 312 nx2 ≤ K 300 1 := (hk_mbg_d I xn (b := nx2) (by omega)).mpr hxd.2 |> fun q => by rw [hK]; exact q
                      have hfr := hk_mfr_r K hw3
                      refine jm_aload_n C dX6_begins_121 rfl ?_
                      refine jm_aload_n C dX6_begins_122 rfl ?_
                      refine jm_getr (ci := 6) (f := 13) C rfl jw_u_6 Q.1.1 Q.1.2 rfl (by decide) jw_f_RX6_39 dX6_begins_123 ?_
                      refine jm_iload_n C dX6_begins_126 rfl ?_
                      refine jm_ialdv (K 313 nx2) (congrFun (hMK 313 (by decide)) _) C (jm_X6_313 Q).1 rfl (jm_X6_313 Q).2 (by omega) (by omega) (by omega) dX6_begins_127 (fun yr7 => ?_)
                      refine jm_cVd (n := 1) (ci := 6) [] C (kX6_isFree E w M1 Q _ (by omega)) jw_m_RX6_149 okX6_isFree rfl ⟨rfl, rfl⟩ ⟨Nat.le_of_ble_eq_true rfl, Nat.le_of_ble_eq_true rfl⟩ rfl Q.1.1 Q.1.2 rfl rfl (Nat.le_of_ble_eq_true rfl) dX6_begins_128 ⟨Nat.le_of_ble_eq_true rfl, Nat.le_of_ble_eq_true rfl⟩ (fun yz9 yh8 => ?_)
                      rw [hMK 307 (by decide)] at yh8
                      refine jm_if_eq 157 C dX6_begins_131 rfl (by omega) (fun yc10 => ?_) (fun yc10 => ?_)
                      · skip
                        refine jm_iconst C dX6_begins_157 ?_
                        refine jm_istore_n C dX6_begins_158 (by decide) ?_
                        refine jm_iconst C dX6_begins_159 ?_
                        refine jm_istore_n C dX6_begins_160 (by decide) ?_
                        have lp161 : ∀ (yn161 : Nat) (sv kv : Int) (r : Nat), 4 - r < yn161 → (kv = 2 - (r : Int) ∧ r ≤ 3) → (((K 307 (K 313 nx2) = -1 ∧ K 306 (K 313 nx2) = 0) ∧ sv = K 313 nx2) ∨ (¬ (K 307 (K 313 nx2) = -1 ∧ K 306 (K 313 nx2) = 0) ∧ sv = hk_mfd K r (kv + 1))) → (-1 ≤ sv ∧ sv < 3) → jm_J E G (0, 0) w M1 161 [(0, .ref (w.2.1 300)), (1, jm_v nx2), (2, jm_v sv), (3, jm_v kv)] [] := by
                          intro yn161
                          induction yn161 with
                          | zero => intro sv kv r hlt161 hkv hsb hsr; exact absurd hlt161 (Nat.not_lt_zero _)
                          | succ yn161 ih161 =>
                            intro sv kv r hlt161 hkv hsb hsr
                            refine jm_iload_n C dX6_begins_161 rfl ?_
                            refine jm_if_lt 209 C dX6_begins_162 rfl (by omega) (fun yc11 => ?_) (fun yc11 => ?_)
                            · skip
                              have hsv : sv = hk_mfr K (K 313 nx2) := by
                                unfold hk_mfr
                                rcases hsb with q | q
                                · rw [if_pos q.1]; exact q.2
                                · first | (rw [if_neg q.1, q.2, show r = 3 by omega, show kv + 1 = 0 by omega]) | (exfalso; have q9 := hk_mfd_in K r (kv + 1); rw [← q.2] at q9; have e9 : sv = K 313 nx2 := (by omega); rw [e9] at q9; omega)
                              refine jm_iload_n C dX6_begins_209 rfl ?_
                              refine jm_iconst C dX6_begins_210 ?_
                              refine jm_icmp_ne 227 C dX6_begins_211 rfl (by omega) (by decide) (fun yc12 => ?_) (fun yc12 => ?_)
                              · skip
                                refine jm_aload_n C dX6_begins_227 rfl ?_
                                refine jm_getr (ci := 6) (f := 9) C rfl jw_u_6 Q.1.1 Q.1.2 rfl (by decide) jw_f_RX6_27 dX6_begins_228 ?_
                                refine jm_iload_n C dX6_begins_231 rfl ?_
                                refine jm_iconst C dX6_begins_232 ?_
                                refine jm_iast C (jm_X6_309 Q).1 rfl (jm_X6_309 Q).2 (by omega) (by omega) (by omega) dX6_begins_233 (by decide) ?_
                                refine jm_aload_n C dX6_begins_234 rfl ?_
                                refine jm_getr (ci := 6) (f := 14) C rfl jw_u_6 Q.1.1 Q.1.2 rfl (by decide) jw_f_RX6_42 dX6_begins_235 ?_
                                refine jm_iload_n C dX6_begins_238 rfl ?_
                                refine jm_iload_n C dX6_begins_239 rfl ?_
                                refine jm_iast C (jm_X6_314 Q).1 rfl (jm_X6_314 Q).2 (by omega) (by omega) (by omega) dX6_begins_240 (by omega) ?_
                                refine jm_aload_n C dX6_begins_241 rfl ?_
                                refine jm_getr (ci := 6) (f := 7) C rfl jw_u_6 Q.1.1 Q.1.2 rfl (by decide) jw_f_RX6_24 dX6_begins_242 ?_
                                refine jm_iload_n C dX6_begins_245 rfl ?_
                                refine jm_iload_n C dX6_begins_246 rfl ?_
                                refine jm_iast C (jm_X6_307 Q).1 rfl (jm_X6_307 Q).2 (by omega) (by omega) (by omega) dX6_begins_247 (by omega) ?_
                                refine jm_aload_n C dX6_begins_248 rfl ?_
                                refine jm_getr (ci := 6) (f := 6) C rfl jw_u_6 Q.1.1 Q.1.2 rfl (by decide) jw_f_RX6_20 dX6_begins_249 ?_
                                refine jm_iload_n C dX6_begins_252 rfl ?_
                                refine jm_iconst C dX6_begins_253 ?_
                                refine jm_zast C (jm_X6_306 Q).1 rfl (jm_X6_306 Q).2 (by omega) (by omega) (by omega) dX6_begins_254 (by decide) ?_
                                refine jm_goto 51 C dX6_begins_255 rfl ?_
                                obtain ⟨B, hB⟩ : ∃ X, X = jm_up (jm_up (jm_up (jm_up M1 309 nx2 1) 314 nx2 sv) 307 sv nx2) 306 sv 1 := ⟨_, rfl⟩
                                rw [← hB]
                                have hIB : ∀ a b, jm_R (B a b) := by rw [hB]; first | exact jm_upR hIM1 (by omega) | exact jm_upR (jm_upR (jm_upR (jm_upR hIM1 (by decide)) (by omega)) (by omega)) (by decide)
                                have hMB : ∀ a, a ≠ 327 → B a = hk_mbg I (xn + 1) a := fun a ha => by
                                  show B a = hk_mb1 (hk_mbg I xn) (xn : Int) a
                                  rw [← hK, ← hxn]
                                  unfold hk_mb1
                                  rw [if_pos hKd, hB]
                                  funext b
                                  first
                                    | (rw [if_pos (by omega)]; unfold jm_up; rw [hMK a ha])
                                    | (rw [if_neg (by omega), ← hsv]; unfold jm_up; rw [hMK a ha])
                                have hB27 : B 327 = M1 327 := by rw [hB]; funext b; first | exact jm_up_n (Or.inl (by decide)) | (rw [jm_up_n (Or.inl (by decide)), jm_up_n (Or.inl (by decide)), jm_up_n (Or.inl (by decide)), jm_up_n (Or.inl (by decide))])
                                have hsB : ∀ i : Int, 0 ≤ i → i < n → (B 327 i = 1 ∧ (i < (xn + 1 : Nat) ∨ ¬ hk_due I i)) ∨ (B 327 i = 0 ∧ (xn + 1 : Nat) ≤ i ∧ hk_due I i) := fun i h1 h2 => by
                                  rw [hB27, hM1]
                                  by_cases e : i = nx2
                                  · subst e; rw [jm_up_s]; exact Or.inl ⟨rfl, Or.inl (by omega)⟩
                                  · rw [jm_up_n (Or.inr e)]
                                    rcases hse i h1 h2 with q | q
                                    · refine Or.inl ⟨q.1, ?_⟩
                                      rcases q.2 with q2 | q2
                                      · exact Or.inl (by omega)
                                      · exact Or.inr q2
                                    · refine Or.inr ⟨q.1, ?_, q.2.2⟩
                                      have q5 := hx.2.2 i h1
                                      omega
                                refine jm_lvs (lv' := [(0, _), (1, _)]) (jm_sub_c rfl (jm_sub_c rfl (jm_sub_0 _))) ?_
                                exact ih51 _ _ (xn + 1) (u - 1) (by omega) hIB hMB (fun i hi => by rw [hB27, hM1, jm_up_n (Or.inr (fun e => hi (by omega)))]; exact hmo27 i hi) hsB (by omega) (Or.inl (by omega)) (by omega) (by omega)
                              · skip
                                refine jm_aload_n C dX6_begins_214 rfl ?_
                                refine jm_getr (ci := 6) (f := 12) C rfl jw_u_6 Q.1.1 Q.1.2 rfl (by decide) jw_f_RX6_36 dX6_begins_215 ?_
                                refine jm_iload_n C dX6_begins_218 rfl ?_
                                refine jm_dup2 C dX6_begins_219 rfl rfl ?_
                                refine jm_ialdv (K 312 nx2) (congrFun (hMK 312 (by decide)) _) C (jm_X6_312 Q).1 rfl (jm_X6_312 Q).2 (by omega) (by omega) (by omega) dX6_begins_220 (fun yr13 => ?_)
                                refine jm_iconst C dX6_begins_221 ?_
                                refine jm_iadd C dX6_begins_222 ?_
                                refine jm_iast C (jm_X6_312 Q).1 rfl (jm_X6_312 Q).2 (by omega) (by omega) (by omega) dX6_begins_223 (by omega) ?_
                                refine jm_goto 255 C dX6_begins_224 rfl ?_
                                refine jm_goto 51 C dX6_begins_255 rfl ?_
                                obtain ⟨B, hB⟩ : ∃ X, X = jm_up M1 312 nx2 ((K 312 nx2) + 1) := ⟨_, rfl⟩
                                rw [← hB]
                                have hIB : ∀ a b, jm_R (B a b) := by rw [hB]; first | exact jm_upR hIM1 (by omega) | exact jm_upR (jm_upR (jm_upR (jm_upR hIM1 (by decide)) (by omega)) (by omega)) (by decide)
                                have hMB : ∀ a, a ≠ 327 → B a = hk_mbg I (xn + 1) a := fun a ha => by
                                  show B a = hk_mb1 (hk_mbg I xn) (xn : Int) a
                                  rw [← hK, ← hxn]
                                  unfold hk_mb1
                                  rw [if_pos hKd, hB]
                                  funext b
                                  first
                                    | (rw [if_pos (by omega)]; unfold jm_up; rw [hMK a ha])
                                    | (rw [if_neg (by omega), ← hsv]; unfold jm_up; rw [hMK a ha])
                                have hB27 : B 327 = M1 327 := by rw [hB]; funext b; first | exact jm_up_n (Or.inl (by decide)) | (rw [jm_up_n (Or.inl (by decide)), jm_up_n (Or.inl (by decide)), jm_up_n (Or.inl (by decide)), jm_up_n (Or.inl (by decide))])
                                have hsB : ∀ i : Int, 0 ≤ i → i < n → (B 327 i = 1 ∧ (i < (xn + 1 : Nat) ∨ ¬ hk_due I i)) ∨ (B 327 i = 0 ∧ (xn + 1 : Nat) ≤ i ∧ hk_due I i) := fun i h1 h2 => by
                                  rw [hB27, hM1]
                                  by_cases e : i = nx2
                                  · subst e; rw [jm_up_s]; exact Or.inl ⟨rfl, Or.inl (by omega)⟩
                                  · rw [jm_up_n (Or.inr e)]
                                    rcases hse i h1 h2 with q | q
                                    · refine Or.inl ⟨q.1, ?_⟩
                                      rcases q.2 with q2 | q2
                                      · exact Or.inl (by omega)
                                      · exact Or.inr q2
                                    · refine Or.inr ⟨q.1, ?_, q.2.2⟩
                                      have q5 := hx.2.2 i h1
                                      omega
                                refine jm_lvs (lv' := [(0, _), (1, _)]) (jm_sub_c rfl (jm_sub_c rfl (jm_sub_0 _))) ?_
                                exact ih51 _ _ (xn + 1) (u - 1) (by omega) hIB hMB (fun i hi => by rw [hB27, hM1, jm_up_n (Or.inr (fun e => hi (by omega)))]; exact hmo27 i hi) hsB (by omega) (Or.inl (by omega)) (by omega) (by omega)
                            · skip
                              refine jm_iload_n C dX6_begins_165 rfl ?_
                              refine jm_iconst C dX6_begins_166 ?_
                              refine jm_icmp_eq 180 C dX6_begins_167 rfl (by omega) (by decide) (fun yc14 => ?_) (fun yc14 => ?_)
                              · skip
                                refine jm_aload_n C dX6_begins_180 rfl ?_
                                refine jm_iload_n C dX6_begins_181 rfl ?_
                                refine jm_cVd (n := 1) (ci := 6) [] C (kX6_isFree E w M1 Q _ (by omega)) jw_m_RX6_149 okX6_isFree rfl ⟨rfl, rfl⟩ ⟨Nat.le_of_ble_eq_true rfl, Nat.le_of_ble_eq_true rfl⟩ rfl Q.1.1 Q.1.2 rfl rfl (Nat.le_of_ble_eq_true rfl) dX6_begins_182 ⟨Nat.le_of_ble_eq_true rfl, Nat.le_of_ble_eq_true rfl⟩ (fun yz16 yh15 => ?_)
                                rw [hMK 307 (by decide)] at yh15
                                refine jm_if_eq 201 C dX6_begins_185 rfl (by omega) (fun yc17 => ?_) (fun yc17 => ?_)
                                · skip
                                  refine jm_iload_n C dX6_begins_201 rfl ?_
                                  refine jm_istore_n C dX6_begins_202 (by decide) ?_
                                  refine jm_iinc C dX6_begins_203 (by decide) rfl ?_
                                  refine jm_goto 161 C dX6_begins_206 rfl ?_
                                  refine jm_lvs (lv' := [(0, _), (1, _), (2, _), (3, _)]) (jm_sub_c rfl (jm_sub_c rfl (jm_sub_c rfl (jm_sub_c rfl (jm_sub_0 _))))) ?_
                                  exact ih161 _ _ (r + 1) (by omega) (by omega) (by
                                                                  rcases hsb with q | q
                                                                  · exfalso; omega
                                                                  · refine Or.inr ⟨q.1, ?_⟩
                                                                    rw [show (kv + (-1)) + 1 = kv by omega, hk_mfd_s]
                                                                    first | (rw [if_neg (by omega)]; exact q.2) | rw [if_pos (by omega)]) (by omega)
                                · skip
                                  refine jm_aload_n C dX6_begins_188 rfl ?_
                                  refine jm_getr (ci := 6) (f := 6) C rfl jw_u_6 Q.1.1 Q.1.2 rfl (by decide) jw_f_RX6_20 dX6_begins_189 ?_
                                  refine jm_iload_n C dX6_begins_192 rfl ?_
                                  refine jm_zaldv (K 306 kv) (congrFun (hMK 306 (by decide)) _) C (jm_X6_306 Q).1 rfl (jm_X6_306 Q).2 (by omega) (by omega) (by omega) dX6_begins_193 (fun yr18 => ?_)
                                  refine jm_if_ne 201 C dX6_begins_194 rfl (by omega) (fun yc19 => ?_) (fun yc19 => ?_)
                                  · skip
                                    refine jm_iload_n C dX6_begins_201 rfl ?_
                                    refine jm_istore_n C dX6_begins_202 (by decide) ?_
                                    refine jm_iinc C dX6_begins_203 (by decide) rfl ?_
                                    refine jm_goto 161 C dX6_begins_206 rfl ?_
                                    refine jm_lvs (lv' := [(0, _), (1, _), (2, _), (3, _)]) (jm_sub_c rfl (jm_sub_c rfl (jm_sub_c rfl (jm_sub_c rfl (jm_sub_0 _))))) ?_
                                    exact ih161 _ _ (r + 1) (by omega) (by omega) (by
                                                                    rcases hsb with q | q
                                                                    · exfalso; omega
                                                                    · refine Or.inr ⟨q.1, ?_⟩
                                                                      rw [show (kv + (-1)) + 1 = kv by omega, hk_mfd_s]
                                                                      first | (rw [if_neg (by omega)]; exact q.2) | rw [if_pos (by omega)]) (by omega)
                                  · skip
                                    refine jm_iload_n C dX6_begins_197 rfl ?_
                                    refine jm_goto 202 C dX6_begins_198 rfl ?_
                                    refine jm_istore_n C dX6_begins_202 (by decide) ?_
                                    refine jm_iinc C dX6_begins_203 (by decide) rfl ?_
                                    refine jm_goto 161 C dX6_begins_206 rfl ?_
                                    refine jm_lvs (lv' := [(0, _), (1, _), (2, _), (3, _)]) (jm_sub_c rfl (jm_sub_c rfl (jm_sub_c rfl (jm_sub_c rfl (jm_sub_0 _))))) ?_
                                    exact ih161 _ _ (r + 1) (by omega) (by omega) (by
                                                                    rcases hsb with q | q
                                                                    · exfalso; omega
                                                                    · refine Or.inr ⟨q.1, ?_⟩
                                                                      rw [show (kv + (-1)) + 1 = kv by omega, hk_mfd_s]
                                                                      first | (rw [if_neg (by omega)]; exact q.2) | rw [if_pos (by omega)]) (by omega)
                              · skip
                                refine jm_iload_n C dX6_begins_170 rfl ?_
                                refine jm_aload_n C dX6_begins_171 rfl ?_
                                refine jm_getr (ci := 6) (f := 13) C rfl jw_u_6 Q.1.1 Q.1.2 rfl (by decide) jw_f_RX6_39 dX6_begins_172 ?_
                                refine jm_iload_n C dX6_begins_175 rfl ?_
                                refine jm_ialdv (K 313 nx2) (congrFun (hMK 313 (by decide)) _) C (jm_X6_313 Q).1 rfl (jm_X6_313 Q).2 (by omega) (by omega) (by omega) dX6_begins_176 (fun yr20 => ?_)
                                refine jm_icmp_eq 209 C dX6_begins_177 rfl (by omega) (by omega) (fun yc21 => ?_) (fun yc21 => ?_)
                                · skip
                                  have hsv : sv = hk_mfr K (K 313 nx2) := by
                                    unfold hk_mfr
                                    rcases hsb with q | q
                                    · rw [if_pos q.1]; exact q.2
                                    · first | (rw [if_neg q.1, q.2, show r = 3 by omega, show kv + 1 = 0 by omega]) | (exfalso; have q9 := hk_mfd_in K r (kv + 1); rw [← q.2] at q9; have e9 : sv = K 313 nx2 := (by omega); rw [e9] at q9; omega)
                                  refine jm_iload_n C dX6_begins_209 rfl ?_
                                  refine jm_iconst C dX6_begins_210 ?_
                                  refine jm_icmp_ne 227 C dX6_begins_211 rfl (by omega) (by decide) (fun yc22 => ?_) (fun yc22 => ?_)
                                  · skip
                                    refine jm_aload_n C dX6_begins_227 rfl ?_
                                    refine jm_getr (ci := 6) (f := 9) C rfl jw_u_6 Q.1.1 Q.1.2 rfl (by decide) jw_f_RX6_27 dX6_begins_228 ?_
                                    refine jm_iload_n C dX6_begins_231 rfl ?_
                                    refine jm_iconst C dX6_begins_232 ?_
                                    refine jm_iast C (jm_X6_309 Q).1 rfl (jm_X6_309 Q).2 (by omega) (by omega) (by omega) dX6_begins_233 (by decide) ?_
                                    refine jm_aload_n C dX6_begins_234 rfl ?_
                                    refine jm_getr (ci := 6) (f := 14) C rfl jw_u_6 Q.1.1 Q.1.2 rfl (by decide) jw_f_RX6_42 dX6_begins_235 ?_
                                    refine jm_iload_n C dX6_begins_238 rfl ?_
                                    refine jm_iload_n C dX6_begins_239 rfl ?_
                                    refine jm_iast C (jm_X6_314 Q).1 rfl (jm_X6_314 Q).2 (by omega) (by omega) (by omega) dX6_begins_240 (by omega) ?_
                                    refine jm_aload_n C dX6_begins_241 rfl ?_
                                    refine jm_getr (ci := 6) (f := 7) C rfl jw_u_6 Q.1.1 Q.1.2 rfl (by decide) jw_f_RX6_24 dX6_begins_242 ?_
                                    refine jm_iload_n C dX6_begins_245 rfl ?_
                                    refine jm_iload_n C dX6_begins_246 rfl ?_
                                    refine jm_iast C (jm_X6_307 Q).1 rfl (jm_X6_307 Q).2 (by omega) (by omega) (by omega) dX6_begins_247 (by omega) ?_
                                    refine jm_aload_n C dX6_begins_248 rfl ?_
                                    refine jm_getr (ci := 6) (f := 6) C rfl jw_u_6 Q.1.1 Q.1.2 rfl (by decide) jw_f_RX6_20 dX6_begins_249 ?_
                                    refine jm_iload_n C dX6_begins_252 rfl ?_
                                    refine jm_iconst C dX6_begins_253 ?_
                                    refine jm_zast C (jm_X6_306 Q).1 rfl (jm_X6_306 Q).2 (by omega) (by omega) (by omega) dX6_begins_254 (by decide) ?_
                                    refine jm_goto 51 C dX6_begins_255 rfl ?_
                                    obtain ⟨B, hB⟩ : ∃ X, X = jm_up (jm_up (jm_up (jm_up M1 309 nx2 1) 314 nx2 sv) 307 sv nx2) 306 sv 1 := ⟨_, rfl⟩
                                    rw [← hB]
                                    have hIB : ∀ a b, jm_R (B a b) := by rw [hB]; first | exact jm_upR hIM1 (by omega) | exact jm_upR (jm_upR (jm_upR (jm_upR hIM1 (by decide)) (by omega)) (by omega)) (by decide)
                                    have hMB : ∀ a, a ≠ 327 → B a = hk_mbg I (xn + 1) a := fun a ha => by
                                      show B a = hk_mb1 (hk_mbg I xn) (xn : Int) a
                                      rw [← hK, ← hxn]
                                      unfold hk_mb1
                                      rw [if_pos hKd, hB]
                                      funext b
                                      first
                                        | (rw [if_pos (by omega)]; unfold jm_up; rw [hMK a ha])
                                        | (rw [if_neg (by omega), ← hsv]; unfold jm_up; rw [hMK a ha])
                                    have hB27 : B 327 = M1 327 := by rw [hB]; funext b; first | exact jm_up_n (Or.inl (by decide)) | (rw [jm_up_n (Or.inl (by decide)), jm_up_n (Or.inl (by decide)), jm_up_n (Or.inl (by decide)), jm_up_n (Or.inl (by decide))])
                                    have hsB : ∀ i : Int, 0 ≤ i → i < n → (B 327 i = 1 ∧ (i < (xn + 1 : Nat) ∨ ¬ hk_due I i)) ∨ (B 327 i = 0 ∧ (xn + 1 : Nat) ≤ i ∧ hk_due I i) := fun i h1 h2 => by
                                      rw [hB27, hM1]
                                      by_cases e : i = nx2
                                      · subst e; rw [jm_up_s]; exact Or.inl ⟨rfl, Or.inl (by omega)⟩
                                      · rw [jm_up_n (Or.inr e)]
                                        rcases hse i h1 h2 with q | q
                                        · refine Or.inl ⟨q.1, ?_⟩
                                          rcases q.2 with q2 | q2
                                          · exact Or.inl (by omega)
                                          · exact Or.inr q2
                                        · refine Or.inr ⟨q.1, ?_, q.2.2⟩
                                          have q5 := hx.2.2 i h1
                                          omega
                                    refine jm_lvs (lv' := [(0, _), (1, _)]) (jm_sub_c rfl (jm_sub_c rfl (jm_sub_0 _))) ?_
                                    exact ih51 _ _ (xn + 1) (u - 1) (by omega) hIB hMB (fun i hi => by rw [hB27, hM1, jm_up_n (Or.inr (fun e => hi (by omega)))]; exact hmo27 i hi) hsB (by omega) (Or.inl (by omega)) (by omega) (by omega)
                                  · skip
                                    refine jm_aload_n C dX6_begins_214 rfl ?_
                                    refine jm_getr (ci := 6) (f := 12) C rfl jw_u_6 Q.1.1 Q.1.2 rfl (by decide) jw_f_RX6_36 dX6_begins_215 ?_
                                    refine jm_iload_n C dX6_begins_218 rfl ?_
                                    refine jm_dup2 C dX6_begins_219 rfl rfl ?_
                                    refine jm_ialdv (K 312 nx2) (congrFun (hMK 312 (by decide)) _) C (jm_X6_312 Q).1 rfl (jm_X6_312 Q).2 (by omega) (by omega) (by omega) dX6_begins_220 (fun yr23 => ?_)
                                    refine jm_iconst C dX6_begins_221 ?_
                                    refine jm_iadd C dX6_begins_222 ?_
                                    refine jm_iast C (jm_X6_312 Q).1 rfl (jm_X6_312 Q).2 (by omega) (by omega) (by omega) dX6_begins_223 (by omega) ?_
                                    refine jm_goto 255 C dX6_begins_224 rfl ?_
                                    refine jm_goto 51 C dX6_begins_255 rfl ?_
                                    obtain ⟨B, hB⟩ : ∃ X, X = jm_up M1 312 nx2 ((K 312 nx2) + 1) := ⟨_, rfl⟩
                                    rw [← hB]
                                    have hIB : ∀ a b, jm_R (B a b) := by rw [hB]; first | exact jm_upR hIM1 (by omega) | exact jm_upR (jm_upR (jm_upR (jm_upR hIM1 (by decide)) (by omega)) (by omega)) (by decide)
                                    have hMB : ∀ a, a ≠ 327 → B a = hk_mbg I (xn + 1) a := fun a ha => by
                                      show B a = hk_mb1 (hk_mbg I xn) (xn : Int) a
                                      rw [← hK, ← hxn]
                                      unfold hk_mb1
                                      rw [if_pos hKd, hB]
                                      funext b
                                      first
                                        | (rw [if_pos (by omega)]; unfold jm_up; rw [hMK a ha])
                                        | (rw [if_neg (by omega), ← hsv]; unfold jm_up; rw [hMK a ha])
                                    have hB27 : B 327 = M1 327 := by rw [hB]; funext b; first | exact jm_up_n (Or.inl (by decide)) | (rw [jm_up_n (Or.inl (by decide)), jm_up_n (Or.inl (by decide)), jm_up_n (Or.inl (by decide)), jm_up_n (Or.inl (by decide))])
                                    have hsB : ∀ i : Int, 0 ≤ i → i < n → (B 327 i = 1 ∧ (i < (xn + 1 : Nat) ∨ ¬ hk_due I i)) ∨ (B 327 i = 0 ∧ (xn + 1 : Nat) ≤ i ∧ hk_due I i) := fun i h1 h2 => by
                                      rw [hB27, hM1]
                                      by_cases e : i = nx2
                                      · subst e; rw [jm_up_s]; exact Or.inl ⟨rfl, Or.inl (by omega)⟩
                                      · rw [jm_up_n (Or.inr e)]
                                        rcases hse i h1 h2 with q | q
                                        · refine Or.inl ⟨q.1, ?_⟩
                                          rcases q.2 with q2 | q2
                                          · exact Or.inl (by omega)
                                          · exact Or.inr q2
                                        · refine Or.inr ⟨q.1, ?_, q.2.2⟩
                                          have q5 := hx.2.2 i h1
                                          omega
                                    refine jm_lvs (lv' := [(0, _), (1, _)]) (jm_sub_c rfl (jm_sub_c rfl (jm_sub_0 _))) ?_
                                    exact ih51 _ _ (xn + 1) (u - 1) (by omega) hIB hMB (fun i hi => by rw [hB27, hM1, jm_up_n (Or.inr (fun e => hi (by omega)))]; exact hmo27 i hi) hsB (by omega) (Or.inl (by omega)) (by omega) (by omega)
                                · skip
                                  refine jm_aload_n C dX6_begins_180 rfl ?_
                                  refine jm_iload_n C dX6_begins_181 rfl ?_
                                  refine jm_cVd (n := 1) (ci := 6) [] C (kX6_isFree E w M1 Q _ (by omega)) jw_m_RX6_149 okX6_isFree rfl ⟨rfl, rfl⟩ ⟨Nat.le_of_ble_eq_true rfl, Nat.le_of_ble_eq_true rfl⟩ rfl Q.1.1 Q.1.2 rfl rfl (Nat.le_of_ble_eq_true rfl) dX6_begins_182 ⟨Nat.le_of_ble_eq_true rfl, Nat.le_of_ble_eq_true rfl⟩ (fun yz25 yh24 => ?_)
                                  rw [hMK 307 (by decide)] at yh24
                                  refine jm_if_eq 201 C dX6_begins_185 rfl (by omega) (fun yc26 => ?_) (fun yc26 => ?_)
                                  · skip
                                    refine jm_iload_n C dX6_begins_201 rfl ?_
                                    refine jm_istore_n C dX6_begins_202 (by decide) ?_
                                    refine jm_iinc C dX6_begins_203 (by decide) rfl ?_
                                    refine jm_goto 161 C dX6_begins_206 rfl ?_
                                    refine jm_lvs (lv' := [(0, _), (1, _), (2, _), (3, _)]) (jm_sub_c rfl (jm_sub_c rfl (jm_sub_c rfl (jm_sub_c rfl (jm_sub_0 _))))) ?_
                                    exact ih161 _ _ (r + 1) (by omega) (by omega) (by
                                                                    rcases hsb with q | q
                                                                    · exfalso; omega
                                                                    · refine Or.inr ⟨q.1, ?_⟩
                                                                      rw [show (kv + (-1)) + 1 = kv by omega, hk_mfd_s]
                                                                      first | (rw [if_neg (by omega)]; exact q.2) | rw [if_pos (by omega)]) (by omega)
                                  · skip
                                    refine jm_aload_n C dX6_begins_188 rfl ?_
                                    refine jm_getr (ci := 6) (f := 6) C rfl jw_u_6 Q.1.1 Q.1.2 rfl (by decide) jw_f_RX6_20 dX6_begins_189 ?_
                                    refine jm_iload_n C dX6_begins_192 rfl ?_
                                    refine jm_zaldv (K 306 kv) (congrFun (hMK 306 (by decide)) _) C (jm_X6_306 Q).1 rfl (jm_X6_306 Q).2 (by omega) (by omega) (by omega) dX6_begins_193 (fun yr27 => ?_)
                                    refine jm_if_ne 201 C dX6_begins_194 rfl (by omega) (fun yc28 => ?_) (fun yc28 => ?_)
                                    · skip
                                      refine jm_iload_n C dX6_begins_201 rfl ?_
                                      refine jm_istore_n C dX6_begins_202 (by decide) ?_
                                      refine jm_iinc C dX6_begins_203 (by decide) rfl ?_
                                      refine jm_goto 161 C dX6_begins_206 rfl ?_
                                      refine jm_lvs (lv' := [(0, _), (1, _), (2, _), (3, _)]) (jm_sub_c rfl (jm_sub_c rfl (jm_sub_c rfl (jm_sub_c rfl (jm_sub_0 _))))) ?_
                                      exact ih161 _ _ (r + 1) (by omega) (by omega) (by
                                                                      rcases hsb with q | q
                                                                      · exfalso; omega
                                                                      · refine Or.inr ⟨q.1, ?_⟩
                                                                        rw [show (kv + (-1)) + 1 = kv by omega, hk_mfd_s]
                                                                        first | (rw [if_neg (by omega)]; exact q.2) | rw [if_pos (by omega)]) (by omega)
                                    · skip
                                      refine jm_iload_n C dX6_begins_197 rfl ?_
                                      refine jm_goto 202 C dX6_begins_198 rfl ?_
                                      refine jm_istore_n C dX6_begins_202 (by decide) ?_
                                      refine jm_iinc C dX6_begins_203 (by decide) rfl ?_
                                      refine jm_goto 161 C dX6_begins_206 rfl ?_
                                      refine jm_lvs (lv' := [(0, _), (1, _), (2, _), (3, _)]) (jm_sub_c rfl (jm_sub_c rfl (jm_sub_c rfl (jm_sub_c rfl (jm_sub_0 _))))) ?_
                                      exact ih161 _ _ (r + 1) (by omega) (by omega) (by
                                                                      rcases hsb with q | q
                                                                      · exfalso; omega
                                                                      · refine Or.inr ⟨q.1, ?_⟩
                                                                        rw [show (kv + (-1)) + 1 = kv by omega, hk_mfd_s]
                                                                        first | (rw [if_neg (by omega)]; exact q.2) | rw [if_pos (by omega)]) (by omega)
                        refine jm_lvs (lv' := [(0, _), (1, _), (2, _), (3, _)]) (jm_sub_c rfl (jm_sub_c rfl (jm_sub_c rfl (jm_sub_c rfl (jm_sub_0 _))))) ?_
                        exact lp161 _ _ _ 0 (Nat.lt_succ_self _) (by omega) (by first | exact Or.inl ⟨by omega, rfl⟩ | exact Or.inr ⟨by omega, rfl⟩) (by omega)
                      · skip
                        refine jm_aload_n C dX6_begins_134 rfl ?_
                        refine jm_getr (ci := 6) (f := 6) C rfl jw_u_6 Q.1.1 Q.1.2 rfl (by decide) jw_f_RX6_20 dX6_begins_135 ?_
                        refine jm_aload_n C dX6_begins_138 rfl ?_
                        refine jm_getr (ci := 6) (f := 13) C rfl jw_u_6 Q.1.1 Q.1.2 rfl (by decide) jw_f_RX6_39 dX6_begins_139 ?_
                        refine jm_iload_n C dX6_begins_142 rfl ?_
                        refine jm_ialdv (K 313 nx2) (congrFun (hMK 313 (by decide)) _) C (jm_X6_313 Q).1 rfl (jm_X6_313 Q).2 (by omega) (by omega) (by omega) dX6_begins_143 (fun yr29 => ?_)
                        refine jm_zaldv (K 306 (K 313 nx2)) (congrFun (hMK 306 (by decide)) _) C (jm_X6_306 Q).1 rfl (jm_X6_306 Q).2 (by omega) (by omega) (by omega) dX6_begins_144 (fun yr30 => ?_)
                        refine jm_if_ne 157 C dX6_begins_145 rfl (by omega) (fun yc31 => ?_) (fun yc31 => ?_)
                        · skip
                          refine jm_iconst C dX6_begins_157 ?_
                          refine jm_istore_n C dX6_begins_158 (by decide) ?_
                          refine jm_iconst C dX6_begins_159 ?_
                          refine jm_istore_n C dX6_begins_160 (by decide) ?_
                          have lp161 : ∀ (yn161 : Nat) (sv kv : Int) (r : Nat), 4 - r < yn161 → (kv = 2 - (r : Int) ∧ r ≤ 3) → (((K 307 (K 313 nx2) = -1 ∧ K 306 (K 313 nx2) = 0) ∧ sv = K 313 nx2) ∨ (¬ (K 307 (K 313 nx2) = -1 ∧ K 306 (K 313 nx2) = 0) ∧ sv = hk_mfd K r (kv + 1))) → (-1 ≤ sv ∧ sv < 3) → jm_J E G (0, 0) w M1 161 [(0, .ref (w.2.1 300)), (1, jm_v nx2), (2, jm_v sv), (3, jm_v kv)] [] := by
                            intro yn161
                            induction yn161 with
                            | zero => intro sv kv r hlt161 hkv hsb hsr; exact absurd hlt161 (Nat.not_lt_zero _)
                            | succ yn161 ih161 =>
                              intro sv kv r hlt161 hkv hsb hsr
                              refine jm_iload_n C dX6_begins_161 rfl ?_
                              refine jm_if_lt 209 C dX6_begins_162 rfl (by omega) (fun yc32 => ?_) (fun yc32 => ?_)
                              · skip
                                have hsv : sv = hk_mfr K (K 313 nx2) := by
                                  unfold hk_mfr
                                  rcases hsb with q | q
                                  · rw [if_pos q.1]; exact q.2
                                  · first | (rw [if_neg q.1, q.2, show r = 3 by omega, show kv + 1 = 0 by omega]) | (exfalso; have q9 := hk_mfd_in K r (kv + 1); rw [← q.2] at q9; have e9 : sv = K 313 nx2 := (by omega); rw [e9] at q9; omega)
                                refine jm_iload_n C dX6_begins_209 rfl ?_
                                refine jm_iconst C dX6_begins_210 ?_
                                refine jm_icmp_ne 227 C dX6_begins_211 rfl (by omega) (by decide) (fun yc33 => ?_) (fun yc33 => ?_)
                                · skip
                                  refine jm_aload_n C dX6_begins_227 rfl ?_
                                  refine jm_getr (ci := 6) (f := 9) C rfl jw_u_6 Q.1.1 Q.1.2 rfl (by decide) jw_f_RX6_27 dX6_begins_228 ?_
                                  refine jm_iload_n C dX6_begins_231 rfl ?_
                                  refine jm_iconst C dX6_begins_232 ?_
                                  refine jm_iast C (jm_X6_309 Q).1 rfl (jm_X6_309 Q).2 (by omega) (by omega) (by omega) dX6_begins_233 (by decide) ?_
                                  refine jm_aload_n C dX6_begins_234 rfl ?_
                                  refine jm_getr (ci := 6) (f := 14) C rfl jw_u_6 Q.1.1 Q.1.2 rfl (by decide) jw_f_RX6_42 dX6_begins_235 ?_
                                  refine jm_iload_n C dX6_begins_238 rfl ?_
                                  refine jm_iload_n C dX6_begins_239 rfl ?_
                                  refine jm_iast C (jm_X6_314 Q).1 rfl (jm_X6_314 Q).2 (by omega) (by omega) (by omega) dX6_begins_240 (by omega) ?_
                                  refine jm_aload_n C dX6_begins_241 rfl ?_
                                  refine jm_getr (ci := 6) (f := 7) C rfl jw_u_6 Q.1.1 Q.1.2 rfl (by decide) jw_f_RX6_24 dX6_begins_242 ?_
                                  refine jm_iload_n C dX6_begins_245 rfl ?_
                                  refine jm_iload_n C dX6_begins_246 rfl ?_
                                  refine jm_iast C (jm_X6_307 Q).1 rfl (jm_X6_307 Q).2 (by omega) (by omega) (by omega) dX6_begins_247 (by omega) ?_
                                  refine jm_aload_n C dX6_begins_248 rfl ?_
                                  refine jm_getr (ci := 6) (f := 6) C rfl jw_u_6 Q.1.1 Q.1.2 rfl (by decide) jw_f_RX6_20 dX6_begins_249 ?_
                                  refine jm_iload_n C dX6_begins_252 rfl ?_
                                  refine jm_iconst C dX6_begins_253 ?_
                                  refine jm_zast C (jm_X6_306 Q).1 rfl (jm_X6_306 Q).2 (by omega) (by omega) (by omega) dX6_begins_254 (by decide) ?_
                                  refine jm_goto 51 C dX6_begins_255 rfl ?_
                                  obtain ⟨B, hB⟩ : ∃ X, X = jm_up (jm_up (jm_up (jm_up M1 309 nx2 1) 314 nx2 sv) 307 sv nx2) 306 sv 1 := ⟨_, rfl⟩
                                  rw [← hB]
                                  have hIB : ∀ a b, jm_R (B a b) := by rw [hB]; first | exact jm_upR hIM1 (by omega) | exact jm_upR (jm_upR (jm_upR (jm_upR hIM1 (by decide)) (by omega)) (by omega)) (by decide)
                                  have hMB : ∀ a, a ≠ 327 → B a = hk_mbg I (xn + 1) a := fun a ha => by
                                    show B a = hk_mb1 (hk_mbg I xn) (xn : Int) a
                                    rw [← hK, ← hxn]
                                    unfold hk_mb1
                                    rw [if_pos hKd, hB]
                                    funext b
                                    first
                                      | (rw [if_pos (by omega)]; unfold jm_up; rw [hMK a ha])
                                      | (rw [if_neg (by omega), ← hsv]; unfold jm_up; rw [hMK a ha])
                                  have hB27 : B 327 = M1 327 := by rw [hB]; funext b; first | exact jm_up_n (Or.inl (by decide)) | (rw [jm_up_n (Or.inl (by decide)), jm_up_n (Or.inl (by decide)), jm_up_n (Or.inl (by decide)), jm_up_n (Or.inl (by decide))])
                                  have hsB : ∀ i : Int, 0 ≤ i → i < n → (B 327 i = 1 ∧ (i < (xn + 1 : Nat) ∨ ¬ hk_due I i)) ∨ (B 327 i = 0 ∧ (xn + 1 : Nat) ≤ i ∧ hk_due I i) := fun i h1 h2 => by
                                    rw [hB27, hM1]
                                    by_cases e : i = nx2
                                    · subst e; rw [jm_up_s]; exact Or.inl ⟨rfl, Or.inl (by omega)⟩
                                    · rw [jm_up_n (Or.inr e)]
                                      rcases hse i h1 h2 with q | q
                                      · refine Or.inl ⟨q.1, ?_⟩
                                        rcases q.2 with q2 | q2
                                        · exact Or.inl (by omega)
                                        · exact Or.inr q2
                                      · refine Or.inr ⟨q.1, ?_, q.2.2⟩
                                        have q5 := hx.2.2 i h1
                                        omega
                                  refine jm_lvs (lv' := [(0, _), (1, _)]) (jm_sub_c rfl (jm_sub_c rfl (jm_sub_0 _))) ?_
                                  exact ih51 _ _ (xn + 1) (u - 1) (by omega) hIB hMB (fun i hi => by rw [hB27, hM1, jm_up_n (Or.inr (fun e => hi (by omega)))]; exact hmo27 i hi) hsB (by omega) (Or.inl (by omega)) (by omega) (by omega)
                                · skip
                                  refine jm_aload_n C dX6_begins_214 rfl ?_
                                  refine jm_getr (ci := 6) (f := 12) C rfl jw_u_6 Q.1.1 Q.1.2 rfl (by decide) jw_f_RX6_36 dX6_begins_215 ?_
                                  refine jm_iload_n C dX6_begins_218 rfl ?_
                                  refine jm_dup2 C dX6_begins_219 rfl rfl ?_
                                  refine jm_ialdv (K 312 nx2) (congrFun (hMK 312 (by decide)) _) C (jm_X6_312 Q).1 rfl (jm_X6_312 Q).2 (by omega) (by omega) (by omega) dX6_begins_220 (fun yr34 => ?_)
                                  refine jm_iconst C dX6_begins_221 ?_
                                  refine jm_iadd C dX6_begins_222 ?_
                                  refine jm_iast C (jm_X6_312 Q).1 rfl (jm_X6_312 Q).2 (by omega) (by omega) (by omega) dX6_begins_223 (by omega) ?_
                                  refine jm_goto 255 C dX6_begins_224 rfl ?_
                                  refine jm_goto 51 C dX6_begins_255 rfl ?_
                                  obtain ⟨B, hB⟩ : ∃ X, X = jm_up M1 312 nx2 ((K 312 nx2) + 1) := ⟨_, rfl⟩
                                  rw [← hB]
                                  have hIB : ∀ a b, jm_R (B a b) := by rw [hB]; first | exact jm_upR hIM1 (by omega) | exact jm_upR (jm_upR (jm_upR (jm_upR hIM1 (by decide)) (by omega)) (by omega)) (by decide)
                                  have hMB : ∀ a, a ≠ 327 → B a = hk_mbg I (xn + 1) a := fun a ha => by
                                    show B a = hk_mb1 (hk_mbg I xn) (xn : Int) a
                                    rw [← hK, ← hxn]
                                    unfold hk_mb1
                                    rw [if_pos hKd, hB]
                                    funext b
                                    first
                                      | (rw [if_pos (by omega)]; unfold jm_up; rw [hMK a ha])
                                      | (rw [if_neg (by omega), ← hsv]; unfold jm_up; rw [hMK a ha])
                                  have hB27 : B 327 = M1 327 := by rw [hB]; funext b; first | exact jm_up_n (Or.inl (by decide)) | (rw [jm_up_n (Or.inl (by decide)), jm_up_n (Or.inl (by decide)), jm_up_n (Or.inl (by decide)), jm_up_n (Or.inl (by decide))])
                                  have hsB : ∀ i : Int, 0 ≤ i → i < n → (B 327 i = 1 ∧ (i < (xn + 1 : Nat) ∨ ¬ hk_due I i)) ∨ (B 327 i = 0 ∧ (xn + 1 : Nat) ≤ i ∧ hk_due I i) := fun i h1 h2 => by
                                    rw [hB27, hM1]
                                    by_cases e : i = nx2
                                    · subst e; rw [jm_up_s]; exact Or.inl ⟨rfl, Or.inl (by omega)⟩
                                    · rw [jm_up_n (Or.inr e)]
                                      rcases hse i h1 h2 with q | q
                                      · refine Or.inl ⟨q.1, ?_⟩
                                        rcases q.2 with q2 | q2
                                        · exact Or.inl (by omega)
                                        · exact Or.inr q2
                                      · refine Or.inr ⟨q.1, ?_, q.2.2⟩
                                        have q5 := hx.2.2 i h1
                                        omega
                                  refine jm_lvs (lv' := [(0, _), (1, _)]) (jm_sub_c rfl (jm_sub_c rfl (jm_sub_0 _))) ?_
                                  exact ih51 _ _ (xn + 1) (u - 1) (by omega) hIB hMB (fun i hi => by rw [hB27, hM1, jm_up_n (Or.inr (fun e => hi (by omega)))]; exact hmo27 i hi) hsB (by omega) (Or.inl (by omega)) (by omega) (by omega)
                              · skip
                                refine jm_iload_n C dX6_begins_165 rfl ?_
                                refine jm_iconst C dX6_begins_166 ?_
                                refine jm_icmp_eq 180 C dX6_begins_167 rfl (by omega) (by decide) (fun yc35 => ?_) (fun yc35 => ?_)
                                · skip
                                  refine jm_aload_n C dX6_begins_180 rfl ?_
                                  refine jm_iload_n C dX6_begins_181 rfl ?_
                                  refine jm_cVd (n := 1) (ci := 6) [] C (kX6_isFree E w M1 Q _ (by omega)) jw_m_RX6_149 okX6_isFree rfl ⟨rfl, rfl⟩ ⟨Nat.le_of_ble_eq_true rfl, Nat.le_of_ble_eq_true rfl⟩ rfl Q.1.1 Q.1.2 rfl rfl (Nat.le_of_ble_eq_true rfl) dX6_begins_182 ⟨Nat.le_of_ble_eq_true rfl, Nat.le_of_ble_eq_true rfl⟩ (fun yz37 yh36 => ?_)
                                  rw [hMK 307 (by decide)] at yh36
                                  refine jm_if_eq 201 C dX6_begins_185 rfl (by omega) (fun yc38 => ?_) (fun yc38 => ?_)
                                  · skip
                                    refine jm_iload_n C dX6_begins_201 rfl ?_
                                    refine jm_istore_n C dX6_begins_202 (by decide) ?_
                                    refine jm_iinc C dX6_begins_203 (by decide) rfl ?_
                                    refine jm_goto 161 C dX6_begins_206 rfl ?_
                                    refine jm_lvs (lv' := [(0, _), (1, _), (2, _), (3, _)]) (jm_sub_c rfl (jm_sub_c rfl (jm_sub_c rfl (jm_sub_c rfl (jm_sub_0 _))))) ?_
                                    exact ih161 _ _ (r + 1) (by omega) (by omega) (by
                                                                    rcases hsb with q | q
                                                                    · exfalso; omega
                                                                    · refine Or.inr ⟨q.1, ?_⟩
                                                                      rw [show (kv + (-1)) + 1 = kv by omega, hk_mfd_s]
                                                                      first | (rw [if_neg (by omega)]; exact q.2) | rw [if_pos (by omega)]) (by omega)
                                  · skip
                                    refine jm_aload_n C dX6_begins_188 rfl ?_
                                    refine jm_getr (ci := 6) (f := 6) C rfl jw_u_6 Q.1.1 Q.1.2 rfl (by decide) jw_f_RX6_20 dX6_begins_189 ?_
                                    refine jm_iload_n C dX6_begins_192 rfl ?_
                                    refine jm_zaldv (K 306 kv) (congrFun (hMK 306 (by decide)) _) C (jm_X6_306 Q).1 rfl (jm_X6_306 Q).2 (by omega) (by omega) (by omega) dX6_begins_193 (fun yr39 => ?_)
                                    refine jm_if_ne 201 C dX6_begins_194 rfl (by omega) (fun yc40 => ?_) (fun yc40 => ?_)
                                    · skip
                                      refine jm_iload_n C dX6_begins_201 rfl ?_
                                      refine jm_istore_n C dX6_begins_202 (by decide) ?_
                                      refine jm_iinc C dX6_begins_203 (by decide) rfl ?_
                                      refine jm_goto 161 C dX6_begins_206 rfl ?_
                                      refine jm_lvs (lv' := [(0, _), (1, _), (2, _), (3, _)]) (jm_sub_c rfl (jm_sub_c rfl (jm_sub_c rfl (jm_sub_c rfl (jm_sub_0 _))))) ?_
                                      exact ih161 _ _ (r + 1) (by omega) (by omega) (by
                                                                      rcases hsb with q | q
                                                                      · exfalso; omega
                                                                      · refine Or.inr ⟨q.1, ?_⟩
                                                                        rw [show (kv + (-1)) + 1 = kv by omega, hk_mfd_s]
                                                                        first | (rw [if_neg (by omega)]; exact q.2) | rw [if_pos (by omega)]) (by omega)
                                    · skip
                                      refine jm_iload_n C dX6_begins_197 rfl ?_
                                      refine jm_goto 202 C dX6_begins_198 rfl ?_
                                      refine jm_istore_n C dX6_begins_202 (by decide) ?_
                                      refine jm_iinc C dX6_begins_203 (by decide) rfl ?_
                                      refine jm_goto 161 C dX6_begins_206 rfl ?_
                                      refine jm_lvs (lv' := [(0, _), (1, _), (2, _), (3, _)]) (jm_sub_c rfl (jm_sub_c rfl (jm_sub_c rfl (jm_sub_c rfl (jm_sub_0 _))))) ?_
                                      exact ih161 _ _ (r + 1) (by omega) (by omega) (by
                                                                      rcases hsb with q | q
                                                                      · exfalso; omega
                                                                      · refine Or.inr ⟨q.1, ?_⟩
                                                                        rw [show (kv + (-1)) + 1 = kv by omega, hk_mfd_s]
                                                                        first | (rw [if_neg (by omega)]; exact q.2) | rw [if_pos (by omega)]) (by omega)
                                · skip
                                  refine jm_iload_n C dX6_begins_170 rfl ?_
                                  refine jm_aload_n C dX6_begins_171 rfl ?_
                                  refine jm_getr (ci := 6) (f := 13) C rfl jw_u_6 Q.1.1 Q.1.2 rfl (by decide) jw_f_RX6_39 dX6_begins_172 ?_
                                  refine jm_iload_n C dX6_begins_175 rfl ?_
                                  refine jm_ialdv (K 313 nx2) (congrFun (hMK 313 (by decide)) _) C (jm_X6_313 Q).1 rfl (jm_X6_313 Q).2 (by omega) (by omega) (by omega) dX6_begins_176 (fun yr41 => ?_)
                                  refine jm_icmp_eq 209 C dX6_begins_177 rfl (by omega) (by omega) (fun yc42 => ?_) (fun yc42 => ?_)
                                  · skip
                                    have hsv : sv = hk_mfr K (K 313 nx2) := by
                                      unfold hk_mfr
                                      rcases hsb with q | q
                                      · rw [if_pos q.1]; exact q.2
                                      · first | (rw [if_neg q.1, q.2, show r = 3 by omega, show kv + 1 = 0 by omega]) | (exfalso; have q9 := hk_mfd_in K r (kv + 1); rw [← q.2] at q9; have e9 : sv = K 313 nx2 := (by omega); rw [e9] at q9; omega)
                                    refine jm_iload_n C dX6_begins_209 rfl ?_
                                    refine jm_iconst C dX6_begins_210 ?_
                                    refine jm_icmp_ne 227 C dX6_begins_211 rfl (by omega) (by decide) (fun yc43 => ?_) (fun yc43 => ?_)
                                    · skip
                                      refine jm_aload_n C dX6_begins_227 rfl ?_
                                      refine jm_getr (ci := 6) (f := 9) C rfl jw_u_6 Q.1.1 Q.1.2 rfl (by decide) jw_f_RX6_27 dX6_begins_228 ?_
                                      refine jm_iload_n C dX6_begins_231 rfl ?_
                                      refine jm_iconst C dX6_begins_232 ?_
                                      refine jm_iast C (jm_X6_309 Q).1 rfl (jm_X6_309 Q).2 (by omega) (by omega) (by omega) dX6_begins_233 (by decide) ?_
                                      refine jm_aload_n C dX6_begins_234 rfl ?_
                                      refine jm_getr (ci := 6) (f := 14) C rfl jw_u_6 Q.1.1 Q.1.2 rfl (by decide) jw_f_RX6_42 dX6_begins_235 ?_
                                      refine jm_iload_n C dX6_begins_238 rfl ?_
                                      refine jm_iload_n C dX6_begins_239 rfl ?_
                                      refine jm_iast C (jm_X6_314 Q).1 rfl (jm_X6_314 Q).2 (by omega) (by omega) (by omega) dX6_begins_240 (by omega) ?_
                                      refine jm_aload_n C dX6_begins_241 rfl ?_
                                      refine jm_getr (ci := 6) (f := 7) C rfl jw_u_6 Q.1.1 Q.1.2 rfl (by decide) jw_f_RX6_24 dX6_begins_242 ?_
                                      refine jm_iload_n C dX6_begins_245 rfl ?_
                                      refine jm_iload_n C dX6_begins_246 rfl ?_
                                      refine jm_iast C (jm_X6_307 Q).1 rfl (jm_X6_307 Q).2 (by omega) (by omega) (by omega) dX6_begins_247 (by omega) ?_
                                      refine jm_aload_n C dX6_begins_248 rfl ?_
                                      refine jm_getr (ci := 6) (f := 6) C rfl jw_u_6 Q.1.1 Q.1.2 rfl (by decide) jw_f_RX6_20 dX6_begins_249 ?_
                                      refine jm_iload_n C dX6_begins_252 rfl ?_
                                      refine jm_iconst C dX6_begins_253 ?_
                                      refine jm_zast C (jm_X6_306 Q).1 rfl (jm_X6_306 Q).2 (by omega) (by omega) (by omega) dX6_begins_254 (by decide) ?_
                                      refine jm_goto 51 C dX6_begins_255 rfl ?_
                                      obtain ⟨B, hB⟩ : ∃ X, X = jm_up (jm_up (jm_up (jm_up M1 309 nx2 1) 314 nx2 sv) 307 sv nx2) 306 sv 1 := ⟨_, rfl⟩
                                      rw [← hB]
                                      have hIB : ∀ a b, jm_R (B a b) := by rw [hB]; first | exact jm_upR hIM1 (by omega) | exact jm_upR (jm_upR (jm_upR (jm_upR hIM1 (by decide)) (by omega)) (by omega)) (by decide)
                                      have hMB : ∀ a, a ≠ 327 → B a = hk_mbg I (xn + 1) a := fun a ha => by
                                        show B a = hk_mb1 (hk_mbg I xn) (xn : Int) a
                                        rw [← hK, ← hxn]
                                        unfold hk_mb1
                                        rw [if_pos hKd, hB]
                                        funext b
                                        first
                                          | (rw [if_pos (by omega)]; unfold jm_up; rw [hMK a ha])
                                          | (rw [if_neg (by omega), ← hsv]; unfold jm_up; rw [hMK a ha])
                                      have hB27 : B 327 = M1 327 := by rw [hB]; funext b; first | exact jm_up_n (Or.inl (by decide)) | (rw [jm_up_n (Or.inl (by decide)), jm_up_n (Or.inl (by decide)), jm_up_n (Or.inl (by decide)), jm_up_n (Or.inl (by decide))])
                                      have hsB : ∀ i : Int, 0 ≤ i → i < n → (B 327 i = 1 ∧ (i < (xn + 1 : Nat) ∨ ¬ hk_due I i)) ∨ (B 327 i = 0 ∧ (xn + 1 : Nat) ≤ i ∧ hk_due I i) := fun i h1 h2 => by
                                        rw [hB27, hM1]
                                        by_cases e : i = nx2
                                        · subst e; rw [jm_up_s]; exact Or.inl ⟨rfl, Or.inl (by omega)⟩
                                        · rw [jm_up_n (Or.inr e)]
                                          rcases hse i h1 h2 with q | q
                                          · refine Or.inl ⟨q.1, ?_⟩
                                            rcases q.2 with q2 | q2
                                            · exact Or.inl (by omega)
                                            · exact Or.inr q2
                                          · refine Or.inr ⟨q.1, ?_, q.2.2⟩
                                            have q5 := hx.2.2 i h1
                                            omega
                                      refine jm_lvs (lv' := [(0, _), (1, _)]) (jm_sub_c rfl (jm_sub_c rfl (jm_sub_0 _))) ?_
                                      exact ih51 _ _ (xn + 1) (u - 1) (by omega) hIB hMB (fun i hi => by rw [hB27, hM1, jm_up_n (Or.inr (fun e => hi (by omega)))]; exact hmo27 i hi) hsB (by omega) (Or.inl (by omega)) (by omega) (by omega)
                                    · skip
                                      refine jm_aload_n C dX6_begins_214 rfl ?_
                                      refine jm_getr (ci := 6) (f := 12) C rfl jw_u_6 Q.1.1 Q.1.2 rfl (by decide) jw_f_RX6_36 dX6_begins_215 ?_
                                      refine jm_iload_n C dX6_begins_218 rfl ?_
                                      refine jm_dup2 C dX6_begins_219 rfl rfl ?_
                                      refine jm_ialdv (K 312 nx2) (congrFun (hMK 312 (by decide)) _) C (jm_X6_312 Q).1 rfl (jm_X6_312 Q).2 (by omega) (by omega) (by omega) dX6_begins_220 (fun yr44 => ?_)
                                      refine jm_iconst C dX6_begins_221 ?_
                                      refine jm_iadd C dX6_begins_222 ?_
                                      refine jm_iast C (jm_X6_312 Q).1 rfl (jm_X6_312 Q).2 (by omega) (by omega) (by omega) dX6_begins_223 (by omega) ?_
                                      refine jm_goto 255 C dX6_begins_224 rfl ?_
                                      refine jm_goto 51 C dX6_begins_255 rfl ?_
                                      obtain ⟨B, hB⟩ : ∃ X, X = jm_up M1 312 nx2 ((K 312 nx2) + 1) := ⟨_, rfl⟩
                                      rw [← hB]
                                      have hIB : ∀ a b, jm_R (B a b) := by rw [hB]; first | exact jm_upR hIM1 (by omega) | exact jm_upR (jm_upR (jm_upR (jm_upR hIM1 (by decide)) (by omega)) (by omega)) (by decide)
                                      have hMB : ∀ a, a ≠ 327 → B a = hk_mbg I (xn + 1) a := fun a ha => by
                                        show B a = hk_mb1 (hk_mbg I xn) (xn : Int) a
                                        rw [← hK, ← hxn]
                                        unfold hk_mb1
                                        rw [if_pos hKd, hB]
                                        funext b
                                        first
                                          | (rw [if_pos (by omega)]; unfold jm_up; rw [hMK a ha])
                                          | (rw [if_neg (by omega), ← hsv]; unfold jm_up; rw [hMK a ha])
                                      have hB27 : B 327 = M1 327 := by rw [hB]; funext b; first | exact jm_up_n (Or.inl (by decide)) | (rw [jm_up_n (Or.inl (by decide)), jm_up_n (Or.inl (by decide)), jm_up_n (Or.inl (by decide)), jm_up_n (Or.inl (by decide))])
                                      have hsB : ∀ i : Int, 0 ≤ i → i < n → (B 327 i = 1 ∧ (i < (xn + 1 : Nat) ∨ ¬ hk_due I i)) ∨ (B 327 i = 0 ∧ (xn + 1 : Nat) ≤ i ∧ hk_due I i) := fun i h1 h2 => by
                                        rw [hB27, hM1]
                                        by_cases e : i = nx2
                                        · subst e; rw [jm_up_s]; exact Or.inl ⟨rfl, Or.inl (by omega)⟩
                                        · rw [jm_up_n (Or.inr e)]
                                          rcases hse i h1 h2 with q | q
                                          · refine Or.inl ⟨q.1, ?_⟩
                                            rcases q.2 with q2 | q2
                                            · exact Or.inl (by omega)
                                            · exact Or.inr q2
                                          · refine Or.inr ⟨q.1, ?_, q.2.2⟩
                                            have q5 := hx.2.2 i h1
                                            omega
                                      refine jm_lvs (lv' := [(0, _), (1, _)]) (jm_sub_c rfl (jm_sub_c rfl (jm_sub_0 _))) ?_
                                      exact ih51 _ _ (xn + 1) (u - 1) (by omega) hIB hMB (fun i hi => by rw [hB27, hM1, jm_up_n (Or.inr (fun e => hi (by omega)))]; exact hmo27 i hi) hsB (by omega) (Or.inl (by omega)) (by omega) (by omega)
                                  · skip
                                    refine jm_aload_n C dX6_begins_180 rfl ?_
                                    refine jm_iload_n C dX6_begins_181 rfl ?_
                                    refine jm_cVd (n := 1) (ci := 6) [] C (kX6_isFree E w M1 Q _ (by omega)) jw_m_RX6_149 okX6_isFree rfl ⟨rfl, rfl⟩ ⟨Nat.le_of_ble_eq_true rfl, Nat.le_of_ble_eq_true rfl⟩ rfl Q.1.1 Q.1.2 rfl rfl (Nat.le_of_ble_eq_true rfl) dX6_begins_182 ⟨Nat.le_of_ble_eq_true rfl, Nat.le_of_ble_eq_true rfl⟩ (fun yz46 yh45 => ?_)
                                    rw [hMK 307 (by decide)] at yh45
                                    refine jm_if_eq 201 C dX6_begins_185 rfl (by omega) (fun yc47 => ?_) (fun yc47 => ?_)
                                    · skip
                                      refine jm_iload_n C dX6_begins_201 rfl ?_
                                      refine jm_istore_n C dX6_begins_202 (by decide) ?_
                                      refine jm_iinc C dX6_begins_203 (by decide) rfl ?_
                                      refine jm_goto 161 C dX6_begins_206 rfl ?_
                                      refine jm_lvs (lv' := [(0, _), (1, _), (2, _), (3, _)]) (jm_sub_c rfl (jm_sub_c rfl (jm_sub_c rfl (jm_sub_c rfl (jm_sub_0 _))))) ?_
                                      exact ih161 _ _ (r + 1) (by omega) (by omega) (by
                                                                      rcases hsb with q | q
                                                                      · exfalso; omega
                                                                      · refine Or.inr ⟨q.1, ?_⟩
                                                                        rw [show (kv + (-1)) + 1 = kv by omega, hk_mfd_s]
                                                                        first | (rw [if_neg (by omega)]; exact q.2) | rw [if_pos (by omega)]) (by omega)
                                    · skip
                                      refine jm_aload_n C dX6_begins_188 rfl ?_
                                      refine jm_getr (ci := 6) (f := 6) C rfl jw_u_6 Q.1.1 Q.1.2 rfl (by decide) jw_f_RX6_20 dX6_begins_189 ?_
                                      refine jm_iload_n C dX6_begins_192 rfl ?_
                                      refine jm_zaldv (K 306 kv) (congrFun (hMK 306 (by decide)) _) C (jm_X6_306 Q).1 rfl (jm_X6_306 Q).2 (by omega) (by omega) (by omega) dX6_begins_193 (fun yr48 => ?_)
                                      refine jm_if_ne 201 C dX6_begins_194 rfl (by omega) (fun yc49 => ?_) (fun yc49 => ?_)
                                      · skip
                                        refine jm_iload_n C dX6_begins_201 rfl ?_
                                        refine jm_istore_n C dX6_begins_202 (by decide) ?_
                                        refine jm_iinc C dX6_begins_203 (by decide) rfl ?_
                                        refine jm_goto 161 C dX6_begins_206 rfl ?_
                                        refine jm_lvs (lv' := [(0, _), (1, _), (2, _), (3, _)]) (jm_sub_c rfl (jm_sub_c rfl (jm_sub_c rfl (jm_sub_c rfl (jm_sub_0 _))))) ?_
                                        exact ih161 _ _ (r + 1) (by omega) (by omega) (by
                                                                        rcases hsb with q | q
                                                                        · exfalso; omega
                                                                        · refine Or.inr ⟨q.1, ?_⟩
                                                                          rw [show (kv + (-1)) + 1 = kv by omega, hk_mfd_s]
                                                                          first | (rw [if_neg (by omega)]; exact q.2) | rw [if_pos (by omega)]) (by omega)
                                      · skip
                                        refine jm_iload_n C dX6_begins_197 rfl ?_
                                        refine jm_goto 202 C dX6_begins_198 rfl ?_
                                        refine jm_istore_n C dX6_begins_202 (by decide) ?_
                                        refine jm_iinc C dX6_begins_203 (by decide) rfl ?_
                                        refine jm_goto 161 C dX6_begins_206 rfl ?_
                                        refine jm_lvs (lv' := [(0, _), (1, _), (2, _), (3, _)]) (jm_sub_c rfl (jm_sub_c rfl (jm_sub_c rfl (jm_sub_c rfl (jm_sub_0 _))))) ?_
                                        exact ih161 _ _ (r + 1) (by omega) (by omega) (by
                                                                        rcases hsb with q | q
                                                                        · exfalso; omega
                                                                        · refine Or.inr ⟨q.1, ?_⟩
                                                                          rw [show (kv + (-1)) + 1 = kv by omega, hk_mfd_s]
                                                                          first | (rw [if_neg (by omega)]; exact q.2) | rw [if_pos (by omega)]) (by omega)
                          refine jm_lvs (lv' := [(0, _), (1, _), (2, _), (3, _)]) (jm_sub_c rfl (jm_sub_c rfl (jm_sub_c rfl (jm_sub_c rfl (jm_sub_0 _))))) ?_
                          exact lp161 _ _ _ 0 (Nat.lt_succ_self _) (by omega) (by first | exact Or.inl ⟨by omega, rfl⟩ | exact Or.inr ⟨by omega, rfl⟩) (by omega)
                        · skip
                          refine jm_aload_n C dX6_begins_148 rfl ?_
                          refine jm_getr (ci := 6) (f := 13) C rfl jw_u_6 Q.1.1 Q.1.2 rfl (by decide) jw_f_RX6_39 dX6_begins_149 ?_
                          refine jm_iload_n C dX6_begins_152 rfl ?_
                          refine jm_ialdv (K 313 nx2) (congrFun (hMK 313 (by decide)) _) C (jm_X6_313 Q).1 rfl (jm_X6_313 Q).2 (by omega) (by omega) (by omega) dX6_begins_153 (fun yr50 => ?_)
                          refine jm_goto 158 C dX6_begins_154 rfl ?_
                          refine jm_istore_n C dX6_begins_158 (by decide) ?_
                          refine jm_iconst C dX6_begins_159 ?_
                          refine jm_istore_n C dX6_begins_160 (by decide) ?_
                          have lp161 : ∀ (yn161 : Nat) (sv kv : Int) (r : Nat), 4 - r < yn161 → (kv = 2 - (r : Int) ∧ r ≤ 3) → (((K 307 (K 313 nx2) = -1 ∧ K 306 (K 313 nx2) = 0) ∧ sv = K 313 nx2) ∨ (¬ (K 307 (K 313 nx2) = -1 ∧ K 306 (K 313 nx2) = 0) ∧ sv = hk_mfd K r (kv + 1))) → (-1 ≤ sv ∧ sv < 3) → jm_J E G (0, 0) w M1 161 [(0, .ref (w.2.1 300)), (1, jm_v nx2), (2, jm_v sv), (3, jm_v kv)] [] := by
                            intro yn161
                            induction yn161 with
                            | zero => intro sv kv r hlt161 hkv hsb hsr; exact absurd hlt161 (Nat.not_lt_zero _)
                            | succ yn161 ih161 =>
                              intro sv kv r hlt161 hkv hsb hsr
                              refine jm_iload_n C dX6_begins_161 rfl ?_
                              refine jm_if_lt 209 C dX6_begins_162 rfl (by omega) (fun yc51 => ?_) (fun yc51 => ?_)
                              · skip
                                have hsv : sv = hk_mfr K (K 313 nx2) := by
                                  unfold hk_mfr
                                  rcases hsb with q | q
                                  · rw [if_pos q.1]; exact q.2
                                  · first | (rw [if_neg q.1, q.2, show r = 3 by omega, show kv + 1 = 0 by omega]) | (exfalso; have q9 := hk_mfd_in K r (kv + 1); rw [← q.2] at q9; have e9 : sv = K 313 nx2 := (by omega); rw [e9] at q9; omega)
                                refine jm_iload_n C dX6_begins_209 rfl ?_
                                refine jm_iconst C dX6_begins_210 ?_
                                refine jm_icmp_ne 227 C dX6_begins_211 rfl (by omega) (by decide) (fun yc52 => ?_) (fun yc52 => ?_)
                                · skip
                                  refine jm_aload_n C dX6_begins_227 rfl ?_
                                  refine jm_getr (ci := 6) (f := 9) C rfl jw_u_6 Q.1.1 Q.1.2 rfl (by decide) jw_f_RX6_27 dX6_begins_228 ?_
                                  refine jm_iload_n C dX6_begins_231 rfl ?_
                                  refine jm_iconst C dX6_begins_232 ?_
                                  refine jm_iast C (jm_X6_309 Q).1 rfl (jm_X6_309 Q).2 (by omega) (by omega) (by omega) dX6_begins_233 (by decide) ?_
                                  refine jm_aload_n C dX6_begins_234 rfl ?_
                                  refine jm_getr (ci := 6) (f := 14) C rfl jw_u_6 Q.1.1 Q.1.2 rfl (by decide) jw_f_RX6_42 dX6_begins_235 ?_
                                  refine jm_iload_n C dX6_begins_238 rfl ?_
                                  refine jm_iload_n C dX6_begins_239 rfl ?_
                                  refine jm_iast C (jm_X6_314 Q).1 rfl (jm_X6_314 Q).2 (by omega) (by omega) (by omega) dX6_begins_240 (by omega) ?_
                                  refine jm_aload_n C dX6_begins_241 rfl ?_
                                  refine jm_getr (ci := 6) (f := 7) C rfl jw_u_6 Q.1.1 Q.1.2 rfl (by decide) jw_f_RX6_24 dX6_begins_242 ?_
                                  refine jm_iload_n C dX6_begins_245 rfl ?_
                                  refine jm_iload_n C dX6_begins_246 rfl ?_
                                  refine jm_iast C (jm_X6_307 Q).1 rfl (jm_X6_307 Q).2 (by omega) (by omega) (by omega) dX6_begins_247 (by omega) ?_
                                  refine jm_aload_n C dX6_begins_248 rfl ?_
                                  refine jm_getr (ci := 6) (f := 6) C rfl jw_u_6 Q.1.1 Q.1.2 rfl (by decide) jw_f_RX6_20 dX6_begins_249 ?_
                                  refine jm_iload_n C dX6_begins_252 rfl ?_
                                  refine jm_iconst C dX6_begins_253 ?_
                                  refine jm_zast C (jm_X6_306 Q).1 rfl (jm_X6_306 Q).2 (by omega) (by omega) (by omega) dX6_begins_254 (by decide) ?_
                                  refine jm_goto 51 C dX6_begins_255 rfl ?_
                                  obtain ⟨B, hB⟩ : ∃ X, X = jm_up (jm_up (jm_up (jm_up M1 309 nx2 1) 314 nx2 sv) 307 sv nx2) 306 sv 1 := ⟨_, rfl⟩
                                  rw [← hB]
                                  have hIB : ∀ a b, jm_R (B a b) := by rw [hB]; first | exact jm_upR hIM1 (by omega) | exact jm_upR (jm_upR (jm_upR (jm_upR hIM1 (by decide)) (by omega)) (by omega)) (by decide)
                                  have hMB : ∀ a, a ≠ 327 → B a = hk_mbg I (xn + 1) a := fun a ha => by
                                    show B a = hk_mb1 (hk_mbg I xn) (xn : Int) a
                                    rw [← hK, ← hxn]
                                    unfold hk_mb1
                                    rw [if_pos hKd, hB]
                                    funext b
                                    first
                                      | (rw [if_pos (by omega)]; unfold jm_up; rw [hMK a ha])
                                      | (rw [if_neg (by omega), ← hsv]; unfold jm_up; rw [hMK a ha])
                                  have hB27 : B 327 = M1 327 := by rw [hB]; funext b; first | exact jm_up_n (Or.inl (by decide)) | (rw [jm_up_n (Or.inl (by decide)), jm_up_n (Or.inl (by decide)), jm_up_n (Or.inl (by decide)), jm_up_n (Or.inl (by decide))])
                                  have hsB : ∀ i : Int, 0 ≤ i → i < n → (B 327 i = 1 ∧ (i < (xn + 1 : Nat) ∨ ¬ hk_due I i)) ∨ (B 327 i = 0 ∧ (xn + 1 : Nat) ≤ i ∧ hk_due I i) := fun i h1 h2 => by
                                    rw [hB27, hM1]
                                    by_cases e : i = nx2
                                    · subst e; rw [jm_up_s]; exact Or.inl ⟨rfl, Or.inl (by omega)⟩
                                    · rw [jm_up_n (Or.inr e)]
                                      rcases hse i h1 h2 with q | q
                                      · refine Or.inl ⟨q.1, ?_⟩
                                        rcases q.2 with q2 | q2
                                        · exact Or.inl (by omega)
                                        · exact Or.inr q2
                                      · refine Or.inr ⟨q.1, ?_, q.2.2⟩
                                        have q5 := hx.2.2 i h1
                                        omega
                                  refine jm_lvs (lv' := [(0, _), (1, _)]) (jm_sub_c rfl (jm_sub_c rfl (jm_sub_0 _))) ?_
                                  exact ih51 _ _ (xn + 1) (u - 1) (by omega) hIB hMB (fun i hi => by rw [hB27, hM1, jm_up_n (Or.inr (fun e => hi (by omega)))]; exact hmo27 i hi) hsB (by omega) (Or.inl (by omega)) (by omega) (by omega)
                                · skip
                                  refine jm_aload_n C dX6_begins_214 rfl ?_
                                  refine jm_getr (ci := 6) (f := 12) C rfl jw_u_6 Q.1.1 Q.1.2 rfl (by decide) jw_f_RX6_36 dX6_begins_215 ?_
                                  refine jm_iload_n C dX6_begins_218 rfl ?_
                                  refine jm_dup2 C dX6_begins_219 rfl rfl ?_
                                  refine jm_ialdv (K 312 nx2) (congrFun (hMK 312 (by decide)) _) C (jm_X6_312 Q).1 rfl (jm_X6_312 Q).2 (by omega) (by omega) (by omega) dX6_begins_220 (fun yr53 => ?_)
                                  refine jm_iconst C dX6_begins_221 ?_
                                  refine jm_iadd C dX6_begins_222 ?_
                                  refine jm_iast C (jm_X6_312 Q).1 rfl (jm_X6_312 Q).2 (by omega) (by omega) (by omega) dX6_begins_223 (by omega) ?_
                                  refine jm_goto 255 C dX6_begins_224 rfl ?_
                                  refine jm_goto 51 C dX6_begins_255 rfl ?_
                                  obtain ⟨B, hB⟩ : ∃ X, X = jm_up M1 312 nx2 ((K 312 nx2) + 1) := ⟨_, rfl⟩
                                  rw [← hB]
                                  have hIB : ∀ a b, jm_R (B a b) := by rw [hB]; first | exact jm_upR hIM1 (by omega) | exact jm_upR (jm_upR (jm_upR (jm_upR hIM1 (by decide)) (by omega)) (by omega)) (by decide)
                                  have hMB : ∀ a, a ≠ 327 → B a = hk_mbg I (xn + 1) a := fun a ha => by
                                    show B a = hk_mb1 (hk_mbg I xn) (xn : Int) a
                                    rw [← hK, ← hxn]
                                    unfold hk_mb1
                                    rw [if_pos hKd, hB]
                                    funext b
                                    first
                                      | (rw [if_pos (by omega)]; unfold jm_up; rw [hMK a ha])
                                      | (rw [if_neg (by omega), ← hsv]; unfold jm_up; rw [hMK a ha])
                                  have hB27 : B 327 = M1 327 := by rw [hB]; funext b; first | exact jm_up_n (Or.inl (by decide)) | (rw [jm_up_n (Or.inl (by decide)), jm_up_n (Or.inl (by decide)), jm_up_n (Or.inl (by decide)), jm_up_n (Or.inl (by decide))])
                                  have hsB : ∀ i : Int, 0 ≤ i → i < n → (B 327 i = 1 ∧ (i < (xn + 1 : Nat) ∨ ¬ hk_due I i)) ∨ (B 327 i = 0 ∧ (xn + 1 : Nat) ≤ i ∧ hk_due I i) := fun i h1 h2 => by
                                    rw [hB27, hM1]
                                    by_cases e : i = nx2
                                    · subst e; rw [jm_up_s]; exact Or.inl ⟨rfl, Or.inl (by omega)⟩
                                    · rw [jm_up_n (Or.inr e)]
                                      rcases hse i h1 h2 with q | q
                                      · refine Or.inl ⟨q.1, ?_⟩
                                        rcases q.2 with q2 | q2
                                        · exact Or.inl (by omega)
                                        · exact Or.inr q2
                                      · refine Or.inr ⟨q.1, ?_, q.2.2⟩
                                        have q5 := hx.2.2 i h1
                                        omega
                                  refine jm_lvs (lv' := [(0, _), (1, _)]) (jm_sub_c rfl (jm_sub_c rfl (jm_sub_0 _))) ?_
                                  exact ih51 _ _ (xn + 1) (u - 1) (by omega) hIB hMB (fun i hi => by rw [hB27, hM1, jm_up_n (Or.inr (fun e => hi (by omega)))]; exact hmo27 i hi) hsB (by omega) (Or.inl (by omega)) (by omega) (by omega)
                              · skip
                                refine jm_iload_n C dX6_begins_165 rfl ?_
                                refine jm_iconst C dX6_begins_166 ?_
                                refine jm_icmp_eq 180 C dX6_begins_167 rfl (by omega) (by decide) (fun yc54 => ?_) (fun yc54 => ?_)
                                · skip
                                  refine jm_aload_n C dX6_begins_180 rfl ?_
                                  refine jm_iload_n C dX6_begins_181 rfl ?_
                                  refine jm_cVd (n := 1) (ci := 6) [] C (kX6_isFree E w M1 Q _ (by omega)) jw_m_RX6_149 okX6_isFree rfl ⟨rfl, rfl⟩ ⟨Nat.le_of_ble_eq_true rfl, Nat.le_of_ble_eq_true rfl⟩ rfl Q.1.1 Q.1.2 rfl rfl (Nat.le_of_ble_eq_true rfl) dX6_begins_182 ⟨Nat.le_of_ble_eq_true rfl, Nat.le_of_ble_eq_true rfl⟩ (fun yz56 yh55 => ?_)
                                  rw [hMK 307 (by decide)] at yh55
                                  refine jm_if_eq 201 C dX6_begins_185 rfl (by omega) (fun yc57 => ?_) (fun yc57 => ?_)
                                  · skip
                                    refine jm_iload_n C dX6_begins_201 rfl ?_
                                    refine jm_istore_n C dX6_begins_202 (by decide) ?_
                                    refine jm_iinc C dX6_begins_203 (by decide) rfl ?_
                                    refine jm_goto 161 C dX6_begins_206 rfl ?_
                                    refine jm_lvs (lv' := [(0, _), (1, _), (2, _), (3, _)]) (jm_sub_c rfl (jm_sub_c rfl (jm_sub_c rfl (jm_sub_c rfl (jm_sub_0 _))))) ?_
                                    exact ih161 _ _ (r + 1) (by omega) (by omega) (by
                                                                    rcases hsb with q | q
                                                                    · exfalso; omega
                                                                    · refine Or.inr ⟨q.1, ?_⟩
                                                                      rw [show (kv + (-1)) + 1 = kv by omega, hk_mfd_s]
                                                                      first | (rw [if_neg (by omega)]; exact q.2) | rw [if_pos (by omega)]) (by omega)
                                  · skip
                                    refine jm_aload_n C dX6_begins_188 rfl ?_
                                    refine jm_getr (ci := 6) (f := 6) C rfl jw_u_6 Q.1.1 Q.1.2 rfl (by decide) jw_f_RX6_20 dX6_begins_189 ?_
                                    refine jm_iload_n C dX6_begins_192 rfl ?_
                                    refine jm_zaldv (K 306 kv) (congrFun (hMK 306 (by decide)) _) C (jm_X6_306 Q).1 rfl (jm_X6_306 Q).2 (by omega) (by omega) (by omega) dX6_begins_193 (fun yr58 => ?_)
                                    refine jm_if_ne 201 C dX6_begins_194 rfl (by omega) (fun yc59 => ?_) (fun yc59 => ?_)
                                    · skip
                                      refine jm_iload_n C dX6_begins_201 rfl ?_
                                      refine jm_istore_n C dX6_begins_202 (by decide) ?_
                                      refine jm_iinc C dX6_begins_203 (by decide) rfl ?_
                                      refine jm_goto 161 C dX6_begins_206 rfl ?_
                                      refine jm_lvs (lv' := [(0, _), (1, _), (2, _), (3, _)]) (jm_sub_c rfl (jm_sub_c rfl (jm_sub_c rfl (jm_sub_c rfl (jm_sub_0 _))))) ?_
                                      exact ih161 _ _ (r + 1) (by omega) (by omega) (by
                                                                      rcases hsb with q | q
                                                                      · exfalso; omega
                                                                      · refine Or.inr ⟨q.1, ?_⟩
                                                                        rw [show (kv + (-1)) + 1 = kv by omega, hk_mfd_s]
                                                                        first | (rw [if_neg (by omega)]; exact q.2) | rw [if_pos (by omega)]) (by omega)
                                    · skip
                                      refine jm_iload_n C dX6_begins_197 rfl ?_
                                      refine jm_goto 202 C dX6_begins_198 rfl ?_
                                      refine jm_istore_n C dX6_begins_202 (by decide) ?_
                                      refine jm_iinc C dX6_begins_203 (by decide) rfl ?_
                                      refine jm_goto 161 C dX6_begins_206 rfl ?_
                                      refine jm_lvs (lv' := [(0, _), (1, _), (2, _), (3, _)]) (jm_sub_c rfl (jm_sub_c rfl (jm_sub_c rfl (jm_sub_c rfl (jm_sub_0 _))))) ?_
                                      exact ih161 _ _ (r + 1) (by omega) (by omega) (by
                                                                      rcases hsb with q | q
                                                                      · exfalso; omega
                                                                      · refine Or.inr ⟨q.1, ?_⟩
                                                                        rw [show (kv + (-1)) + 1 = kv by omega, hk_mfd_s]
                                                                        first | (rw [if_neg (by omega)]; exact q.2) | rw [if_pos (by omega)]) (by omega)
                                · skip
                                  refine jm_iload_n C dX6_begins_170 rfl ?_
                                  refine jm_aload_n C dX6_begins_171 rfl ?_
                                  refine jm_getr (ci := 6) (f := 13) C rfl jw_u_6 Q.1.1 Q.1.2 rfl (by decide) jw_f_RX6_39 dX6_begins_172 ?_
                                  refine jm_iload_n C dX6_begins_175 rfl ?_
                                  refine jm_ialdv (K 313 nx2) (congrFun (hMK 313 (by decide)) _) C (jm_X6_313 Q).1 rfl (jm_X6_313 Q).2 (by omega) (by omega) (by omega) dX6_begins_176 (fun yr60 => ?_)
                                  refine jm_icmp_eq 209 C dX6_begins_177 rfl (by omega) (by omega) (fun yc61 => ?_) (fun yc61 => ?_)
                                  · skip
                                    have hsv : sv = hk_mfr K (K 313 nx2) := by
                                      unfold hk_mfr
                                      rcases hsb with q | q
                                      · rw [if_pos q.1]; exact q.2
                                      · first | (rw [if_neg q.1, q.2, show r = 3 by omega, show kv + 1 = 0 by omega]) | (exfalso; have q9 := hk_mfd_in K r (kv + 1); rw [← q.2] at q9; have e9 : sv = K 313 nx2 := (by omega); rw [e9] at q9; omega)
                                    refine jm_iload_n C dX6_begins_209 rfl ?_
                                    refine jm_iconst C dX6_begins_210 ?_
                                    refine jm_icmp_ne 227 C dX6_begins_211 rfl (by omega) (by decide) (fun yc62 => ?_) (fun yc62 => ?_)
                                    · skip
                                      refine jm_aload_n C dX6_begins_227 rfl ?_
                                      refine jm_getr (ci := 6) (f := 9) C rfl jw_u_6 Q.1.1 Q.1.2 rfl (by decide) jw_f_RX6_27 dX6_begins_228 ?_
                                      refine jm_iload_n C dX6_begins_231 rfl ?_
                                      refine jm_iconst C dX6_begins_232 ?_
                                      refine jm_iast C (jm_X6_309 Q).1 rfl (jm_X6_309 Q).2 (by omega) (by omega) (by omega) dX6_begins_233 (by decide) ?_
                                      refine jm_aload_n C dX6_begins_234 rfl ?_
                                      refine jm_getr (ci := 6) (f := 14) C rfl jw_u_6 Q.1.1 Q.1.2 rfl (by decide) jw_f_RX6_42 dX6_begins_235 ?_
                                      refine jm_iload_n C dX6_begins_238 rfl ?_
                                      refine jm_iload_n C dX6_begins_239 rfl ?_
                                      refine jm_iast C (jm_X6_314 Q).1 rfl (jm_X6_314 Q).2 (by omega) (by omega) (by omega) dX6_begins_240 (by omega) ?_
                                      refine jm_aload_n C dX6_begins_241 rfl ?_
                                      refine jm_getr (ci := 6) (f := 7) C rfl jw_u_6 Q.1.1 Q.1.2 rfl (by decide) jw_f_RX6_24 dX6_begins_242 ?_
                                      refine jm_iload_n C dX6_begins_245 rfl ?_
                                      refine jm_iload_n C dX6_begins_246 rfl ?_
                                      refine jm_iast C (jm_X6_307 Q).1 rfl (jm_X6_307 Q).2 (by omega) (by omega) (by omega) dX6_begins_247 (by omega) ?_
                                      refine jm_aload_n C dX6_begins_248 rfl ?_
                                      refine jm_getr (ci := 6) (f := 6) C rfl jw_u_6 Q.1.1 Q.1.2 rfl (by decide) jw_f_RX6_20 dX6_begins_249 ?_
                                      refine jm_iload_n C dX6_begins_252 rfl ?_
                                      refine jm_iconst C dX6_begins_253 ?_
                                      refine jm_zast C (jm_X6_306 Q).1 rfl (jm_X6_306 Q).2 (by omega) (by omega) (by omega) dX6_begins_254 (by decide) ?_
                                      refine jm_goto 51 C dX6_begins_255 rfl ?_
                                      obtain ⟨B, hB⟩ : ∃ X, X = jm_up (jm_up (jm_up (jm_up M1 309 nx2 1) 314 nx2 sv) 307 sv nx2) 306 sv 1 := ⟨_, rfl⟩
                                      rw [← hB]
                                      have hIB : ∀ a b, jm_R (B a b) := by rw [hB]; first | exact jm_upR hIM1 (by omega) | exact jm_upR (jm_upR (jm_upR (jm_upR hIM1 (by decide)) (by omega)) (by omega)) (by decide)
                                      have hMB : ∀ a, a ≠ 327 → B a = hk_mbg I (xn + 1) a := fun a ha => by
                                        show B a = hk_mb1 (hk_mbg I xn) (xn : Int) a
                                        rw [← hK, ← hxn]
                                        unfold hk_mb1
                                        rw [if_pos hKd, hB]
                                        funext b
                                        first
                                          | (rw [if_pos (by omega)]; unfold jm_up; rw [hMK a ha])
                                          | (rw [if_neg (by omega), ← hsv]; unfold jm_up; rw [hMK a ha])
                                      have hB27 : B 327 = M1 327 := by rw [hB]; funext b; first | exact jm_up_n (Or.inl (by decide)) | (rw [jm_up_n (Or.inl (by decide)), jm_up_n (Or.inl (by decide)), jm_up_n (Or.inl (by decide)), jm_up_n (Or.inl (by decide))])
                                      have hsB : ∀ i : Int, 0 ≤ i → i < n → (B 327 i = 1 ∧ (i < (xn + 1 : Nat) ∨ ¬ hk_due I i)) ∨ (B 327 i = 0 ∧ (xn + 1 : Nat) ≤ i ∧ hk_due I i) := fun i h1 h2 => by
                                        rw [hB27, hM1]
                                        by_cases e : i = nx2
                                        · subst e; rw [jm_up_s]; exact Or.inl ⟨rfl, Or.inl (by omega)⟩
                                        · rw [jm_up_n (Or.inr e)]
                                          rcases hse i h1 h2 with q | q
                                          · refine Or.inl ⟨q.1, ?_⟩
                                            rcases q.2 with q2 | q2
                                            · exact Or.inl (by omega)
                                            · exact Or.inr q2
                                          · refine Or.inr ⟨q.1, ?_, q.2.2⟩
                                            have q5 := hx.2.2 i h1
                                            omega
                                      refine jm_lvs (lv' := [(0, _), (1, _)]) (jm_sub_c rfl (jm_sub_c rfl (jm_sub_0 _))) ?_
                                      exact ih51 _ _ (xn + 1) (u - 1) (by omega) hIB hMB (fun i hi => by rw [hB27, hM1, jm_up_n (Or.inr (fun e => hi (by omega)))]; exact hmo27 i hi) hsB (by omega) (Or.inl (by omega)) (by omega) (by omega)
                                    · skip
                                      refine jm_aload_n C dX6_begins_214 rfl ?_
                                      refine jm_getr (ci := 6) (f := 12) C rfl jw_u_6 Q.1.1 Q.1.2 rfl (by decide) jw_f_RX6_36 dX6_begins_215 ?_
                                      refine jm_iload_n C dX6_begins_218 rfl ?_
                                      refine jm_dup2 C dX6_begins_219 rfl rfl ?_
                                      refine jm_ialdv (K 312 nx2) (congrFun (hMK 312 (by decide)) _) C (jm_X6_312 Q).1 rfl (jm_X6_312 Q).2 (by omega) (by omega) (by omega) dX6_begins_220 (fun yr63 => ?_)
                                      refine jm_iconst C dX6_begins_221 ?_
                                      refine jm_iadd C dX6_begins_222 ?_
                                      refine jm_iast C (jm_X6_312 Q).1 rfl (jm_X6_312 Q).2 (by omega) (by omega) (by omega) dX6_begins_223 (by omega) ?_
                                      refine jm_goto 255 C dX6_begins_224 rfl ?_
                                      refine jm_goto 51 C dX6_begins_255 rfl ?_
                                      obtain ⟨B, hB⟩ : ∃ X, X = jm_up M1 312 nx2 ((K 312 nx2) + 1) := ⟨_, rfl⟩
                                      rw [← hB]
                                      have hIB : ∀ a b, jm_R (B a b) := by rw [hB]; first | exact jm_upR hIM1 (by omega) | exact jm_upR (jm_upR (jm_upR (jm_upR hIM1 (by decide)) (by omega)) (by omega)) (by decide)
                                      have hMB : ∀ a, a ≠ 327 → B a = hk_mbg I (xn + 1) a := fun a ha => by
                                        show B a = hk_mb1 (hk_mbg I xn) (xn : Int) a
                                        rw [← hK, ← hxn]
                                        unfold hk_mb1
                                        rw [if_pos hKd, hB]
                                        funext b
                                        first
                                          | (rw [if_pos (by omega)]; unfold jm_up; rw [hMK a ha])
                                          | (rw [if_neg (by omega), ← hsv]; unfold jm_up; rw [hMK a ha])
                                      have hB27 : B 327 = M1 327 := by rw [hB]; funext b; first | exact jm_up_n (Or.inl (by decide)) | (rw [jm_up_n (Or.inl (by decide)), jm_up_n (Or.inl (by decide)), jm_up_n (Or.inl (by decide)), jm_up_n (Or.inl (by decide))])
                                      have hsB : ∀ i : Int, 0 ≤ i → i < n → (B 327 i = 1 ∧ (i < (xn + 1 : Nat) ∨ ¬ hk_due I i)) ∨ (B 327 i = 0 ∧ (xn + 1 : Nat) ≤ i ∧ hk_due I i) := fun i h1 h2 => by
                                        rw [hB27, hM1]
                                        by_cases e : i = nx2
                                        · subst e; rw [jm_up_s]; exact Or.inl ⟨rfl, Or.inl (by omega)⟩
                                        · rw [jm_up_n (Or.inr e)]
                                          rcases hse i h1 h2 with q | q
                                          · refine Or.inl ⟨q.1, ?_⟩
                                            rcases q.2 with q2 | q2
                                            · exact Or.inl (by omega)
                                            · exact Or.inr q2
                                          · refine Or.inr ⟨q.1, ?_, q.2.2⟩
                                            have q5 := hx.2.2 i h1
                                            omega
                                      refine jm_lvs (lv' := [(0, _), (1, _)]) (jm_sub_c rfl (jm_sub_c rfl (jm_sub_0 _))) ?_
                                      exact ih51 _ _ (xn + 1) (u - 1) (by omega) hIB hMB (fun i hi => by rw [hB27, hM1, jm_up_n (Or.inr (fun e => hi (by omega)))]; exact hmo27 i hi) hsB (by omega) (Or.inl (by omega)) (by omega) (by omega)
                                  · skip
                                    refine jm_aload_n C dX6_begins_180 rfl ?_
                                    refine jm_iload_n C dX6_begins_181 rfl ?_
                                    refine jm_cVd (n := 1) (ci := 6) [] C (kX6_isFree E w M1 Q _ (by omega)) jw_m_RX6_149 okX6_isFree rfl ⟨rfl, rfl⟩ ⟨Nat.le_of_ble_eq_true rfl, Nat.le_of_ble_eq_true rfl⟩ rfl Q.1.1 Q.1.2 rfl rfl (Nat.le_of_ble_eq_true rfl) dX6_begins_182 ⟨Nat.le_of_ble_eq_true rfl, Nat.le_of_ble_eq_true rfl⟩ (fun yz65 yh64 => ?_)
                                    rw [hMK 307 (by decide)] at yh64
                                    refine jm_if_eq 201 C dX6_begins_185 rfl (by omega) (fun yc66 => ?_) (fun yc66 => ?_)
                                    · skip
                                      refine jm_iload_n C dX6_begins_201 rfl ?_
                                      refine jm_istore_n C dX6_begins_202 (by decide) ?_
                                      refine jm_iinc C dX6_begins_203 (by decide) rfl ?_
                                      refine jm_goto 161 C dX6_begins_206 rfl ?_
                                      refine jm_lvs (lv' := [(0, _), (1, _), (2, _), (3, _)]) (jm_sub_c rfl (jm_sub_c rfl (jm_sub_c rfl (jm_sub_c rfl (jm_sub_0 _))))) ?_
                                      exact ih161 _ _ (r + 1) (by omega) (by omega) (by
                                                                      rcases hsb with q | q
                                                                      · exfalso; omega
                                                                      · refine Or.inr ⟨q.1, ?_⟩
                                                                        rw [show (kv + (-1)) + 1 = kv by omega, hk_mfd_s]
                                                                        first | (rw [if_neg (by omega)]; exact q.2) | rw [if_pos (by omega)]) (by omega)
                                    · skip
                                      refine jm_aload_n C dX6_begins_188 rfl ?_
                                      refine jm_getr (ci := 6) (f := 6) C rfl jw_u_6 Q.1.1 Q.1.2 rfl (by decide) jw_f_RX6_20 dX6_begins_189 ?_
                                      refine jm_iload_n C dX6_begins_192 rfl ?_
                                      refine jm_zaldv (K 306 kv) (congrFun (hMK 306 (by decide)) _) C (jm_X6_306 Q).1 rfl (jm_X6_306 Q).2 (by omega) (by omega) (by omega) dX6_begins_193 (fun yr67 => ?_)
                                      refine jm_if_ne 201 C dX6_begins_194 rfl (by omega) (fun yc68 => ?_) (fun yc68 => ?_)
                                      · skip
                                        refine jm_iload_n C dX6_begins_201 rfl ?_
                                        refine jm_istore_n C dX6_begins_202 (by decide) ?_
                                        refine jm_iinc C dX6_begins_203 (by decide) rfl ?_
                                        refine jm_goto 161 C dX6_begins_206 rfl ?_
                                        refine jm_lvs (lv' := [(0, _), (1, _), (2, _), (3, _)]) (jm_sub_c rfl (jm_sub_c rfl (jm_sub_c rfl (jm_sub_c rfl (jm_sub_0 _))))) ?_
                                        exact ih161 _ _ (r + 1) (by omega) (by omega) (by
                                                                        rcases hsb with q | q
                                                                        · exfalso; omega
                                                                        · refine Or.inr ⟨q.1, ?_⟩
                                                                          rw [show (kv + (-1)) + 1 = kv by omega, hk_mfd_s]
                                                                          first | (rw [if_neg (by omega)]; exact q.2) | rw [if_pos (by omega)]) (by omega)
                                      · skip
                                        refine jm_iload_n C dX6_begins_197 rfl ?_
                                        refine jm_goto 202 C dX6_begins_198 rfl ?_
                                        refine jm_istore_n C dX6_begins_202 (by decide) ?_
                                        refine jm_iinc C dX6_begins_203 (by decide) rfl ?_
                                        refine jm_goto 161 C dX6_begins_206 rfl ?_
                                        refine jm_lvs (lv' := [(0, _), (1, _), (2, _), (3, _)]) (jm_sub_c rfl (jm_sub_c rfl (jm_sub_c rfl (jm_sub_c rfl (jm_sub_0 _))))) ?_
                                        exact ih161 _ _ (r + 1) (by omega) (by omega) (by
                                                                        rcases hsb with q | q
                                                                        · exfalso; omega
                                                                        · refine Or.inr ⟨q.1, ?_⟩
                                                                          rw [show (kv + (-1)) + 1 = kv by omega, hk_mfd_s]
                                                                          first | (rw [if_neg (by omega)]; exact q.2) | rw [if_pos (by omega)]) (by omega)
                          refine jm_lvs (lv' := [(0, _), (1, _), (2, _), (3, _)]) (jm_sub_c rfl (jm_sub_c rfl (jm_sub_c rfl (jm_sub_c rfl (jm_sub_0 _))))) ?_
                          exact lp161 _ _ _ 0 (Nat.lt_succ_self _) (by omega) (by first | exact Or.inl ⟨by omega, rfl⟩ | exact Or.inr ⟨by omega, rfl⟩) (by omega)
                  · skip
                    refine jm_aload_n C dX6_begins_68 rfl ?_
                    refine jm_getr (ci := 6) (f := 27) C rfl jw_u_6 Q.1.1 Q.1.2 rfl (by decide) jw_f_RX6_81 dX6_begins_69 ?_
                    refine jm_iload_n C dX6_begins_72 rfl ?_
                    refine jm_zald C (jm_X6_327 Q).1 rfl (jm_X6_327 Q).2 (by omega) (by omega) (by omega) dX6_begins_73 (fun yr69 => ?_)
                    refine jm_if_ne 101 C dX6_begins_74 rfl (by omega) (fun yc70 => ?_) (fun yc70 => ?_)
                    · skip
                      refine jm_iload_n C dX6_begins_101 rfl ?_
                      refine jm_istore_n C dX6_begins_102 (by decide) ?_
                      refine jm_iinc C dX6_begins_103 (by decide) rfl ?_
                      refine jm_goto 60 C dX6_begins_106 rfl ?_
                      refine jm_lvs (lv' := [(0, _), (1, _), (2, _)]) (jm_sub_c rfl (jm_sub_c rfl (jm_sub_c rfl (jm_sub_0 _)))) ?_
                      exact ih60 (j + 1) _ (by omega) (by omega) (by
                                                  rcases hni with q | q
                                                  · refine Or.inl ⟨q.1, fun i h1 h2 => ?_⟩
                                                    by_cases e : i = j
                                                    · subst e; omega
                                                    · exact q.2 i h1 (by omega)
                                                  · exact Or.inr ⟨q.1, by omega, q.2.2⟩)
                    · skip
                      refine jm_iload_n C dX6_begins_77 rfl ?_
                      refine jm_iconst C dX6_begins_78 ?_
                      refine jm_icmp_eq 97 C dX6_begins_79 rfl (by omega) (by decide) (fun yc71 => ?_) (fun yc71 => ?_)
                      · skip
                        refine jm_iload_n C dX6_begins_97 rfl ?_
                        refine jm_goto 102 C dX6_begins_98 rfl ?_
                        refine jm_istore_n C dX6_begins_102 (by decide) ?_
                        refine jm_iinc C dX6_begins_103 (by decide) rfl ?_
                        refine jm_goto 60 C dX6_begins_106 rfl ?_
                        refine jm_lvs (lv' := [(0, _), (1, _), (2, _)]) (jm_sub_c rfl (jm_sub_c rfl (jm_sub_c rfl (jm_sub_0 _)))) ?_
                        exact ih60 (j + 1) _ (by omega) (by omega) (by
                                                    rcases hni with q | q
                                                    · exact Or.inr ⟨by omega, by omega, by omega, q.2⟩
                                                    · exfalso; have := hjj (by omega) q.1 (by omega); omega)
                      · skip
                        refine jm_aload_n C dX6_begins_82 rfl ?_
                        refine jm_getr (ci := 6) (f := 12) C rfl jw_u_6 Q.1.1 Q.1.2 rfl (by decide) jw_f_RX6_36 dX6_begins_83 ?_
                        refine jm_iload_n C dX6_begins_86 rfl ?_
                        refine jm_iald C (jm_X6_312 Q).1 rfl (jm_X6_312 Q).2 (by omega) (by omega) (by omega) dX6_begins_87 (fun yr72 => ?_)
                        refine jm_aload_n C dX6_begins_88 rfl ?_
                        refine jm_getr (ci := 6) (f := 12) C rfl jw_u_6 Q.1.1 Q.1.2 rfl (by decide) jw_f_RX6_36 dX6_begins_89 ?_
                        refine jm_iload_n C dX6_begins_92 rfl ?_
                        refine jm_iald C (jm_X6_312 Q).1 rfl (jm_X6_312 Q).2 (by omega) (by omega) (by omega) dX6_begins_93 (fun yr73 => ?_)
                        refine jm_icmp_ge 101 C dX6_begins_94 rfl (by omega) (by omega) (fun yc74 => ?_) (fun yc74 => ?_)
                        · skip
                          refine jm_iload_n C dX6_begins_101 rfl ?_
                          refine jm_istore_n C dX6_begins_102 (by decide) ?_
                          refine jm_iinc C dX6_begins_103 (by decide) rfl ?_
                          refine jm_goto 60 C dX6_begins_106 rfl ?_
                          refine jm_lvs (lv' := [(0, _), (1, _), (2, _)]) (jm_sub_c rfl (jm_sub_c rfl (jm_sub_c rfl (jm_sub_0 _)))) ?_
                          exact ih60 (j + 1) _ (by omega) (by omega) (by
                                                      rcases hni with q | q
                                                      · refine Or.inl ⟨q.1, fun i h1 h2 => ?_⟩
                                                        by_cases e : i = j
                                                        · subst e; omega
                                                        · exact q.2 i h1 (by omega)
                                                      · exact Or.inr ⟨q.1, by omega, q.2.2⟩)
                        · skip
                          refine jm_iload_n C dX6_begins_97 rfl ?_
                          refine jm_goto 102 C dX6_begins_98 rfl ?_
                          refine jm_istore_n C dX6_begins_102 (by decide) ?_
                          refine jm_iinc C dX6_begins_103 (by decide) rfl ?_
                          refine jm_goto 60 C dX6_begins_106 rfl ?_
                          refine jm_lvs (lv' := [(0, _), (1, _), (2, _)]) (jm_sub_c rfl (jm_sub_c rfl (jm_sub_c rfl (jm_sub_0 _)))) ?_
                          exact ih60 (j + 1) _ (by omega) (by omega) (by
                                                      rcases hni with q | q
                                                      · exact Or.inr ⟨by omega, by omega, by omega, q.2⟩
                                                      · exfalso; have := hjj (by omega) q.1 (by omega); omega)
              refine jm_lvs (lv' := [(0, _), (1, _), (2, _)]) (jm_sub_c rfl (jm_sub_c rfl (jm_sub_c rfl (jm_sub_0 _)))) ?_
              exact lp60 _ 0 _ (Nat.lt_succ_self _) (Nat.zero_le _) (Or.inl ⟨rfl, fun i h1 h2 => absurd h2 (by omega)⟩)
        refine jm_lvs (lv' := [(0, _), (1, _)]) (jm_sub_c rfl (jm_sub_c rfl (jm_sub_0 _))) ?_
        exact lp51 _ _ 0 0 (2 * n + 1) (Nat.lt_succ_self _) hImem h0 h0o (fun i h1 h2 => by rcases h0s i h1 (by omega) with q | q; exact Or.inl ⟨q.1, Or.inr q.2⟩; exact Or.inr ⟨q.1, by omega, q.2⟩) (Nat.zero_le _) (Or.inl (by decide)) (Or.inr (by omega)) (by decide)
      · skip
        refine jm_aload_n C dX6_begins_10 rfl ?_
        refine jm_getr (ci := 6) (f := 27) C rfl jw_u_6 Q.1.1 Q.1.2 rfl (by decide) jw_f_RX6_81 dX6_begins_11 ?_
        refine jm_iload_n C dX6_begins_14 rfl ?_
        refine jm_aload_n C dX6_begins_15 rfl ?_
        refine jm_getr (ci := 6) (f := 9) C rfl jw_u_6 Q.1.1 Q.1.2 rfl (by decide) jw_f_RX6_27 dX6_begins_16 ?_
        refine jm_iload_n C dX6_begins_19 rfl ?_
        refine jm_iald C (jm_X6_309 Q).1 rfl (jm_X6_309 Q).2 (by omega) (by omega) (by omega) dX6_begins_20 (fun yr75 => ?_)
        have yj78 : ∀ (yz77 : Int), ((M0 309 ((j0 : Nat) : Int) = 0 ∧ M0 312 ((j0 : Nat) : Int) ≤ M0 300 1 ∧ yz77 = 0) ∨ (M0 309 ((j0 : Nat) : Int) = 0 ∧ ¬ (M0 312 ((j0 : Nat) : Int) ≤ M0 300 1) ∧ yz77 = 1) ∨ (¬ (M0 309 ((j0 : Nat) : Int) = 0) ∧ yz77 = 1)) → jm_R yz77 → jm_J E G (0, 0) w M0 42 [(0, .ref (w.2.1 300)), (1, jm_v ((j0 : Nat) : Int))] [jm_v yz77, jm_v ((j0 : Nat) : Int), .ref (w.2.1 327)] := by
          intro yz77 ye79 ryz77
          refine jm_zast C (jm_X6_327 Q).1 rfl (jm_X6_327 Q).2 (by omega) (by omega) (by omega) dX6_begins_42 (by omega) ?_
          refine jm_iinc C dX6_begins_43 (by decide) rfl ?_
          refine jm_goto 2 C dX6_begins_46 rfl ?_
          refine jm_lvs (lv' := [(0, _), (1, _)]) (jm_sub_c rfl (jm_sub_c rfl (jm_sub_0 _))) ?_
          exact ih2 (j0 + 1) _ (by omega) (by omega) (fun a ha => by funext b; rw [jm_up_n (Or.inl ha)]; exact congrFun (h0 a ha) b) (fun i hi => by rw [jm_up_n (Or.inr (fun e => hi (by omega)))]; exact h0o i hi) (fun i h1 h2 => by
                                  by_cases e : i = j0
                                  · subst e; rw [jm_up_s]; unfold hk_due; omega
                                  · rw [jm_up_n (Or.inr e)]; exact h0s i h1 (by omega)) (jm_upR hImem (by assumption))
        refine jm_if_ne 37 C dX6_begins_21 rfl (by omega) (fun yc76 => ?_) (fun yc76 => ?_)
        · skip
          refine jm_iconst C dX6_begins_37 ?_
          refine jm_goto 42 C dX6_begins_38 rfl ?_
          refine jm_lvs (lv' := [(0, _), (1, _)]) (jm_sub_c rfl (jm_sub_c rfl (jm_sub_0 _))) ?_
          exact yj78 _ (Or.inr (Or.inr ⟨yc76, rfl⟩)) (by decide)
        · skip
          refine jm_aload_n C dX6_begins_24 rfl ?_
          refine jm_getr (ci := 6) (f := 12) C rfl jw_u_6 Q.1.1 Q.1.2 rfl (by decide) jw_f_RX6_36 dX6_begins_25 ?_
          refine jm_iload_n C dX6_begins_28 rfl ?_
          refine jm_iald C (jm_X6_312 Q).1 rfl (jm_X6_312 Q).2 (by omega) (by omega) (by omega) dX6_begins_29 (fun yr80 => ?_)
          refine jm_aload_n C dX6_begins_30 rfl ?_
          refine jm_get (ci := 6) (f := 1) 1 rfl C rfl jw_u_6 Q.1.1 Q.1.2 rfl (by decide) jw_f_RX6_101 dX6_begins_31 (fun yr81 => ?_)
          refine jm_icmp_le 41 C dX6_begins_34 rfl (by omega) (by omega) (fun yc82 => ?_) (fun yc82 => ?_)
          · skip
            refine jm_iconst C dX6_begins_41 ?_
            refine jm_lvs (lv' := [(0, _), (1, _)]) (jm_sub_c rfl (jm_sub_c rfl (jm_sub_0 _))) ?_
            exact yj78 _ (Or.inl ⟨yc76, yc82, rfl⟩) (by decide)
          · skip
            refine jm_iconst C dX6_begins_37 ?_
            refine jm_goto 42 C dX6_begins_38 rfl ?_
            refine jm_lvs (lv' := [(0, _), (1, _)]) (jm_sub_c rfl (jm_sub_c rfl (jm_sub_0 _))) ?_
            exact yj78 _ (Or.inr (Or.inl ⟨yc76, yc82, rfl⟩)) (by decide)
  refine jm_lvs (lv' := [(0, _), (1, _)]) (jm_sub_c rfl (jm_sub_c rfl (jm_sub_0 _))) ?_
  exact lp2 _ 0 _ (Nat.lt_succ_self _) (Nat.zero_le _) (fun _ _ => rfl) (fun _ _ => rfl) (fun i h1 h2 => absurd h2 (by omega)) hI
set_option maxRecDepth 100000 in
set_option maxHeartbeats 4000000 in
theorem kX6_passes (E : jm_E) (w : jm_W) (I : jm_M) (Q : jm_X6 E w) (n : Nat) (hn : I 300 8 = n) (hn12 : n ≤ 12) (hnow : I 300 1 ≤ 9998) (hpk : hk_pk I n) : jm_Mv E yX6_passes wX6_passes rmX6_passes 0 0 w I [.ref (w.2.1 300)] (fun I' => I' = hk_mps I n) := by
  refine jm_in_v (cc := cX6_passes) (maxL := 2) RX6 (by decide +kernel) rfl rfl (Nat.le_of_ble_eq_true rfl) (by simp [Value.category]) ?_
  intro G C hR hI
  have hk3 := hpk.1
  have hk4 := hpk.2.2.1
  have hk2 := hpk.2.2.2.1
  have hk1 := hpk.2.2.2.2.2.2.2.2
  refine jm_aload_n C dX6_passes_0 rfl ?_
  refine jm_dup C dX6_passes_1 rfl ?_
  refine jm_get (ci := 6) (f := 1) 1 rfl C rfl jw_u_6 Q.1.1 Q.1.2 rfl (by decide) jw_f_RX6_101 dX6_passes_2 (fun yr1 => ?_)
  refine jm_iconst C dX6_passes_5 ?_
  refine jm_iadd C dX6_passes_6 ?_
  refine jm_put (ci := 6) (f := 1) (ty := .int) 1 rfl C rfl tyX6 tyX6_ok nmX6 jw_u_6 Q.1.1 Q.1.2 rfl (by decide) jw_f_RX6_101 rfl (by decide +kernel) rfl rfl dX6_passes_7 (by omega) ?_
  refine jm_aload_n C dX6_passes_10 rfl ?_
  refine jm_getv (ci := 6) (f := 3) (I 300 3) 3 rfl (jm_up_n (Or.inr (by decide))) C rfl jw_u_6 Q.1.1 Q.1.2 rfl (by decide) jw_f_RX6_13 dX6_passes_11 (fun yr2 => ?_)
  refine jm_iconst C dX6_passes_14 ?_
  refine jm_icmp_eq 81 C dX6_passes_15 rfl (by omega) (by decide) (fun yc3 => ?_) (fun yc3 => ?_)
  · skip
    obtain ⟨J2, hJ2⟩ : ∃ X, X = jm_up I 300 1 ((I 300 1) + 1) := ⟨_, rfl⟩
    rw [← hJ2]
    have hp2 : J2 = hk_mp2 (hk_mp1 I) := by
      rw [hJ2]
      unfold hk_mp2
      rw [hk_mp1_g (b := 3) (by decide), hk_mp1_g (b := 4) (by decide)]
      first
        | (rw [if_pos (by omega)]; rfl)
        | (rw [if_neg (by omega), if_neg (by omega)]; rfl)
        | (rw [if_neg (by omega), if_pos (by omega), show m = 549 by omega]; rfl)
    have h28 : J2 300 8 = n := by rw [hp2, hk_mp2_g (by decide), hk_mp1_g (by decide)]; exact hn
    have h22 : J2 300 2 = I 300 2 := by rw [hp2, hk_mp2_g (by decide), hk_mp1_g (by decide)]
    refine jm_aload_n C dX6_passes_81 rfl ?_
    refine jm_get (ci := 6) (f := 3) 3 rfl C rfl jw_u_6 Q.1.1 Q.1.2 rfl (by decide) jw_f_RX6_13 dX6_passes_82 (fun yr4 => ?_)
    refine jm_iconst C dX6_passes_85 ?_
    refine jm_icmp_ne 105 C dX6_passes_86 rfl (by omega) (by decide) (fun yc5 => ?_) (fun yc5 => ?_)
    · skip
      obtain ⟨J3, hJ3⟩ : ∃ X, X = J2 := ⟨_, rfl⟩
      rw [← hJ3]
      have hp3 : J3 = hk_mp3 J2 n := by
        rw [hJ3]
        unfold hk_mp3
        first | rw [if_pos (by omega)] | rw [if_neg (by omega)]
      have hrow : ∀ a, a ≠ 300 → a ≠ 305 → a ≠ 306 → J3 a = I a := fun a h1 h2 h3 => by rw [hp3, hk_mp3_o h1, hp2, hk_mp2_o ⟨h1, h3, h2⟩, hk_mp1_o h1]
      have h8 : J3 300 8 = n := by rw [hp3, hk_mp3_g (by decide)]; exact h28
      have h31 : J3 300 1 = I 300 1 + 1 := by rw [hp3, hk_mp3_g (by decide), hp2, hk_mp2_g (by decide)]; exact jm_up_s _ _ _ _
      have h13 : ∀ g : Int, 0 ≤ g → g < n → 0 ≤ J3 313 g ∧ J3 313 g < 3 := fun g a b => by rw [hrow 313 (by decide) (by decide) (by decide)]; exact hpk.2.2.2.2.2.1 g a b
      have h12 : ∀ g : Int, 0 ≤ g → g < n → J3 309 g = 0 → J3 300 1 ≤ J3 312 g := fun g a b c => by
        rw [hrow 309 (by decide) (by decide) (by decide)] at c
        rw [hrow 312 (by decide) (by decide) (by decide), h31]
        have := hpk.2.2.2.2.2.2.1 g a c b
        omega
      have hhr3 : ∀ g : Int, 0 ≤ g → g < n → J3 312 g ≤ 1000000 := fun g a b => by
        rw [hrow 312 (by decide) (by decide) (by decide)]
        have := hpk.2.2.2.2.2.2.2.1 g
        omega
      refine jm_aload_n C dX6_passes_105 rfl ?_
      refine jm_cVu (n := 0) (ci := 6) [] C (kX6_begins E w J3 Q n h8 hn12 h13 h12 hhr3) jw_m_RX6_158 okX6_begins rfl ⟨rfl, rfl⟩ ⟨Nat.le_of_ble_eq_true rfl, Nat.le_of_ble_eq_true rfl⟩ rfl Q.1.1 Q.1.2 rfl rfl (Nat.le_of_ble_eq_true rfl) dX6_passes_106 ⟨Nat.le_of_ble_eq_true rfl, Nat.le_of_ble_eq_true rfl⟩ ?_
      exact hR _ _ _ dX6_passes_109 (by unfold hk_mps; rw [← hp2, ← hp3])
    · skip
      refine jm_aload_n C dX6_passes_89 rfl ?_
      refine jm_aload_n C dX6_passes_90 rfl ?_
      refine jm_cVd (n := 0) (ci := 6) [.ref (w.2.1 300)] C (kX6_wanted E w J2 Q n (by omega) hn12) jw_m_RX6_155 okX6_wanted rfl ⟨rfl, rfl⟩ ⟨Nat.le_of_ble_eq_true rfl, Nat.le_of_ble_eq_true rfl⟩ rfl Q.1.1 Q.1.2 rfl rfl (Nat.le_of_ble_eq_true rfl) dX6_passes_91 ⟨Nat.le_of_ble_eq_true rfl, Nat.le_of_ble_eq_true rfl⟩ (fun yz9 yh8 => ?_)
      subst yh8
      have yh8r := hk_mwa_r (J2) n 3
      refine jm_put (ci := 6) (f := 3) (ty := .int) 3 rfl C rfl tyX6 tyX6_ok nmX6 jw_u_6 Q.1.1 Q.1.2 rfl (by decide) jw_f_RX6_13 rfl (by decide +kernel) rfl rfl dX6_passes_94 (by omega) ?_
      refine jm_aload_n C dX6_passes_97 rfl ?_
      refine jm_aload_n C dX6_passes_98 rfl ?_
      refine jm_getv (ci := 6) (f := 2) (J2 300 2) 2 rfl (jm_up_n (Or.inr (by decide))) C rfl jw_u_6 Q.1.1 Q.1.2 rfl (by decide) jw_f_RX6_7 dX6_passes_99 (fun yr10 => ?_)
      refine jm_put (ci := 6) (f := 4) (ty := .int) 4 rfl C rfl tyX6 tyX6_ok nmX6 jw_u_6 Q.1.1 Q.1.2 rfl (by decide) jw_f_RX6_152 rfl (by decide +kernel) rfl rfl dX6_passes_102 (by omega) ?_
      obtain ⟨J3, hJ3⟩ : ∃ X, X = jm_up (jm_up J2 300 3 ((hk_mwa J2 n 3).1)) 300 4 (J2 300 2) := ⟨_, rfl⟩
      rw [← hJ3]
      have hp3 : J3 = hk_mp3 J2 n := by
        rw [hJ3]
        unfold hk_mp3
        first | rw [if_pos (by omega)] | rw [if_neg (by omega)]
      have hrow : ∀ a, a ≠ 300 → a ≠ 305 → a ≠ 306 → J3 a = I a := fun a h1 h2 h3 => by rw [hp3, hk_mp3_o h1, hp2, hk_mp2_o ⟨h1, h3, h2⟩, hk_mp1_o h1]
      have h8 : J3 300 8 = n := by rw [hp3, hk_mp3_g (by decide)]; exact h28
      have h31 : J3 300 1 = I 300 1 + 1 := by rw [hp3, hk_mp3_g (by decide), hp2, hk_mp2_g (by decide)]; exact jm_up_s _ _ _ _
      have h13 : ∀ g : Int, 0 ≤ g → g < n → 0 ≤ J3 313 g ∧ J3 313 g < 3 := fun g a b => by rw [hrow 313 (by decide) (by decide) (by decide)]; exact hpk.2.2.2.2.2.1 g a b
      have h12 : ∀ g : Int, 0 ≤ g → g < n → J3 309 g = 0 → J3 300 1 ≤ J3 312 g := fun g a b c => by
        rw [hrow 309 (by decide) (by decide) (by decide)] at c
        rw [hrow 312 (by decide) (by decide) (by decide), h31]
        have := hpk.2.2.2.2.2.2.1 g a c b
        omega
      have hhr3 : ∀ g : Int, 0 ≤ g → g < n → J3 312 g ≤ 1000000 := fun g a b => by
        rw [hrow 312 (by decide) (by decide) (by decide)]
        have := hpk.2.2.2.2.2.2.2.1 g
        omega
      refine jm_aload_n C dX6_passes_105 rfl ?_
      refine jm_cVu (n := 0) (ci := 6) [] C (kX6_begins E w J3 Q n h8 hn12 h13 h12 hhr3) jw_m_RX6_158 okX6_begins rfl ⟨rfl, rfl⟩ ⟨Nat.le_of_ble_eq_true rfl, Nat.le_of_ble_eq_true rfl⟩ rfl Q.1.1 Q.1.2 rfl rfl (Nat.le_of_ble_eq_true rfl) dX6_passes_106 ⟨Nat.le_of_ble_eq_true rfl, Nat.le_of_ble_eq_true rfl⟩ ?_
      exact hR _ _ _ dX6_passes_109 (by unfold hk_mps; rw [← hp2, ← hp3])
  · skip
    refine jm_aload_n C dX6_passes_18 rfl ?_
    refine jm_dup C dX6_passes_19 rfl ?_
    refine jm_getv (ci := 6) (f := 4) (I 300 4) 4 rfl (jm_up_n (Or.inr (by decide))) C rfl jw_u_6 Q.1.1 Q.1.2 rfl (by decide) jw_f_RX6_152 dX6_passes_20 (fun yr13 => ?_)
    refine jm_iconst C dX6_passes_23 ?_
    refine jm_isub C dX6_passes_24 ?_
    refine jm_put (ci := 6) (f := 4) (ty := .int) 4 rfl C rfl tyX6 tyX6_ok nmX6 jw_u_6 Q.1.1 Q.1.2 rfl (by decide) jw_f_RX6_152 rfl (by decide +kernel) rfl rfl dX6_passes_25 (by omega) ?_
    refine jm_aload_n C dX6_passes_28 rfl ?_
    refine jm_getv (ci := 6) (f := 4) ((I 300 4) - 1) 4 rfl (jm_up_s _ _ _ _) C rfl jw_u_6 Q.1.1 Q.1.2 rfl (by decide) jw_f_RX6_152 dX6_passes_29 (fun yr14 => ?_)
    refine jm_if_ne 81 C dX6_passes_32 rfl (by omega) (fun yc15 => ?_) (fun yc15 => ?_)
    · skip
      obtain ⟨J2, hJ2⟩ : ∃ X, X = jm_up (jm_up I 300 1 ((I 300 1) + 1)) 300 4 ((I 300 4) - 1) := ⟨_, rfl⟩
      rw [← hJ2]
      have hp2 : J2 = hk_mp2 (hk_mp1 I) := by
        rw [hJ2]
        unfold hk_mp2
        rw [hk_mp1_g (b := 3) (by decide), hk_mp1_g (b := 4) (by decide)]
        first
          | (rw [if_pos (by omega)]; rfl)
          | (rw [if_neg (by omega), if_neg (by omega)]; rfl)
          | (rw [if_neg (by omega), if_pos (by omega), show m = 549 by omega]; rfl)
      have h28 : J2 300 8 = n := by rw [hp2, hk_mp2_g (by decide), hk_mp1_g (by decide)]; exact hn
      have h22 : J2 300 2 = I 300 2 := by rw [hp2, hk_mp2_g (by decide), hk_mp1_g (by decide)]
      refine jm_aload_n C dX6_passes_81 rfl ?_
      refine jm_get (ci := 6) (f := 3) 3 rfl C rfl jw_u_6 Q.1.1 Q.1.2 rfl (by decide) jw_f_RX6_13 dX6_passes_82 (fun yr16 => ?_)
      refine jm_iconst C dX6_passes_85 ?_
      refine jm_icmp_ne 105 C dX6_passes_86 rfl (by omega) (by decide) (fun yc17 => ?_) (fun yc17 => ?_)
      · skip
        obtain ⟨J3, hJ3⟩ : ∃ X, X = J2 := ⟨_, rfl⟩
        rw [← hJ3]
        have hp3 : J3 = hk_mp3 J2 n := by
          rw [hJ3]
          unfold hk_mp3
          first | rw [if_pos (by omega)] | rw [if_neg (by omega)]
        have hrow : ∀ a, a ≠ 300 → a ≠ 305 → a ≠ 306 → J3 a = I a := fun a h1 h2 h3 => by rw [hp3, hk_mp3_o h1, hp2, hk_mp2_o ⟨h1, h3, h2⟩, hk_mp1_o h1]
        have h8 : J3 300 8 = n := by rw [hp3, hk_mp3_g (by decide)]; exact h28
        have h31 : J3 300 1 = I 300 1 + 1 := by rw [hp3, hk_mp3_g (by decide), hp2, hk_mp2_g (by decide)]; exact jm_up_s _ _ _ _
        have h13 : ∀ g : Int, 0 ≤ g → g < n → 0 ≤ J3 313 g ∧ J3 313 g < 3 := fun g a b => by rw [hrow 313 (by decide) (by decide) (by decide)]; exact hpk.2.2.2.2.2.1 g a b
        have h12 : ∀ g : Int, 0 ≤ g → g < n → J3 309 g = 0 → J3 300 1 ≤ J3 312 g := fun g a b c => by
          rw [hrow 309 (by decide) (by decide) (by decide)] at c
          rw [hrow 312 (by decide) (by decide) (by decide), h31]
          have := hpk.2.2.2.2.2.2.1 g a c b
          omega
        have hhr3 : ∀ g : Int, 0 ≤ g → g < n → J3 312 g ≤ 1000000 := fun g a b => by
          rw [hrow 312 (by decide) (by decide) (by decide)]
          have := hpk.2.2.2.2.2.2.2.1 g
          omega
        refine jm_aload_n C dX6_passes_105 rfl ?_
        refine jm_cVu (n := 0) (ci := 6) [] C (kX6_begins E w J3 Q n h8 hn12 h13 h12 hhr3) jw_m_RX6_158 okX6_begins rfl ⟨rfl, rfl⟩ ⟨Nat.le_of_ble_eq_true rfl, Nat.le_of_ble_eq_true rfl⟩ rfl Q.1.1 Q.1.2 rfl rfl (Nat.le_of_ble_eq_true rfl) dX6_passes_106 ⟨Nat.le_of_ble_eq_true rfl, Nat.le_of_ble_eq_true rfl⟩ ?_
        exact hR _ _ _ dX6_passes_109 (by unfold hk_mps; rw [← hp2, ← hp3])
      · skip
        refine jm_aload_n C dX6_passes_89 rfl ?_
        refine jm_aload_n C dX6_passes_90 rfl ?_
        refine jm_cVd (n := 0) (ci := 6) [.ref (w.2.1 300)] C (kX6_wanted E w J2 Q n (by omega) hn12) jw_m_RX6_155 okX6_wanted rfl ⟨rfl, rfl⟩ ⟨Nat.le_of_ble_eq_true rfl, Nat.le_of_ble_eq_true rfl⟩ rfl Q.1.1 Q.1.2 rfl rfl (Nat.le_of_ble_eq_true rfl) dX6_passes_91 ⟨Nat.le_of_ble_eq_true rfl, Nat.le_of_ble_eq_true rfl⟩ (fun yz21 yh20 => ?_)
        subst yh20
        have yh20r := hk_mwa_r (J2) n 3
        refine jm_put (ci := 6) (f := 3) (ty := .int) 3 rfl C rfl tyX6 tyX6_ok nmX6 jw_u_6 Q.1.1 Q.1.2 rfl (by decide) jw_f_RX6_13 rfl (by decide +kernel) rfl rfl dX6_passes_94 (by omega) ?_
        refine jm_aload_n C dX6_passes_97 rfl ?_
        refine jm_aload_n C dX6_passes_98 rfl ?_
        refine jm_getv (ci := 6) (f := 2) (J2 300 2) 2 rfl (jm_up_n (Or.inr (by decide))) C rfl jw_u_6 Q.1.1 Q.1.2 rfl (by decide) jw_f_RX6_7 dX6_passes_99 (fun yr22 => ?_)
        refine jm_put (ci := 6) (f := 4) (ty := .int) 4 rfl C rfl tyX6 tyX6_ok nmX6 jw_u_6 Q.1.1 Q.1.2 rfl (by decide) jw_f_RX6_152 rfl (by decide +kernel) rfl rfl dX6_passes_102 (by omega) ?_
        obtain ⟨J3, hJ3⟩ : ∃ X, X = jm_up (jm_up J2 300 3 ((hk_mwa J2 n 3).1)) 300 4 (J2 300 2) := ⟨_, rfl⟩
        rw [← hJ3]
        have hp3 : J3 = hk_mp3 J2 n := by
          rw [hJ3]
          unfold hk_mp3
          first | rw [if_pos (by omega)] | rw [if_neg (by omega)]
        have hrow : ∀ a, a ≠ 300 → a ≠ 305 → a ≠ 306 → J3 a = I a := fun a h1 h2 h3 => by rw [hp3, hk_mp3_o h1, hp2, hk_mp2_o ⟨h1, h3, h2⟩, hk_mp1_o h1]
        have h8 : J3 300 8 = n := by rw [hp3, hk_mp3_g (by decide)]; exact h28
        have h31 : J3 300 1 = I 300 1 + 1 := by rw [hp3, hk_mp3_g (by decide), hp2, hk_mp2_g (by decide)]; exact jm_up_s _ _ _ _
        have h13 : ∀ g : Int, 0 ≤ g → g < n → 0 ≤ J3 313 g ∧ J3 313 g < 3 := fun g a b => by rw [hrow 313 (by decide) (by decide) (by decide)]; exact hpk.2.2.2.2.2.1 g a b
        have h12 : ∀ g : Int, 0 ≤ g → g < n → J3 309 g = 0 → J3 300 1 ≤ J3 312 g := fun g a b c => by
          rw [hrow 309 (by decide) (by decide) (by decide)] at c
          rw [hrow 312 (by decide) (by decide) (by decide), h31]
          have := hpk.2.2.2.2.2.2.1 g a c b
          omega
        have hhr3 : ∀ g : Int, 0 ≤ g → g < n → J3 312 g ≤ 1000000 := fun g a b => by
          rw [hrow 312 (by decide) (by decide) (by decide)]
          have := hpk.2.2.2.2.2.2.2.1 g
          omega
        refine jm_aload_n C dX6_passes_105 rfl ?_
        refine jm_cVu (n := 0) (ci := 6) [] C (kX6_begins E w J3 Q n h8 hn12 h13 h12 hhr3) jw_m_RX6_158 okX6_begins rfl ⟨rfl, rfl⟩ ⟨Nat.le_of_ble_eq_true rfl, Nat.le_of_ble_eq_true rfl⟩ rfl Q.1.1 Q.1.2 rfl rfl (Nat.le_of_ble_eq_true rfl) dX6_passes_106 ⟨Nat.le_of_ble_eq_true rfl, Nat.le_of_ble_eq_true rfl⟩ ?_
        exact hR _ _ _ dX6_passes_109 (by unfold hk_mps; rw [← hp2, ← hp3])
    · skip
      refine jm_aload_n C dX6_passes_35 rfl ?_
      refine jm_getr (ci := 6) (f := 6) C rfl jw_u_6 Q.1.1 Q.1.2 rfl (by decide) jw_f_RX6_20 dX6_passes_36 ?_
      refine jm_aload_n C dX6_passes_39 rfl ?_
      refine jm_getv (ci := 6) (f := 3) (I 300 3) 3 rfl (Eq.trans (jm_up_n (Or.inr (by decide))) (jm_up_n (Or.inr (by decide)))) C rfl jw_u_6 Q.1.1 Q.1.2 rfl (by decide) jw_f_RX6_13 dX6_passes_40 (fun yr25 => ?_)
      refine jm_iconst C dX6_passes_43 ?_
      refine jm_zast C (jm_X6_306 Q).1 rfl (jm_X6_306 Q).2 (by omega) (by omega) (by omega) dX6_passes_44 (by decide) ?_
      refine jm_iconst C dX6_passes_45 ?_
      refine jm_istore_n C dX6_passes_46 (by decide) ?_
      have lp47 : ∀ (yn47 : Nat) (m : Nat), 549 - m < yn47 → (m ≤ 549) → jm_J E G (0, 0) w (hk_filo (jm_up (jm_up (jm_up I 300 1 ((I 300 1) + 1)) 300 4 ((I 300 4) - 1)) 306 (I 300 3) 0) 305 (549 * (I 300 3)) ((m : Nat) : Int) (fun _ => 0)) 47 [(0, .ref (w.2.1 300)), (1, jm_v ((m : Nat) : Int))] [] := by
        intro yn47
        induction yn47 with
        | zero => intro m hlt47 hm; exact absurd hlt47 (Nat.not_lt_zero _)
        | succ yn47 ih47 =>
          intro m hlt47 hm
          refine jm_iload_n C dX6_passes_47 rfl ?_
          refine jm_sipush C dX6_passes_48 (by decide +kernel) ?_
          refine jm_icmp_ge 76 C dX6_passes_51 rfl (by omega) (by decide) (fun yc26 => ?_) (fun yc26 => ?_)
          · skip
            refine jm_aload_n C dX6_passes_76 rfl ?_
            refine jm_iconst C dX6_passes_77 ?_
            refine jm_put (ci := 6) (f := 3) (ty := .int) 3 rfl C rfl tyX6 tyX6_ok nmX6 jw_u_6 Q.1.1 Q.1.2 rfl (by decide) jw_f_RX6_13 rfl (by decide +kernel) rfl rfl dX6_passes_78 (by decide) ?_
            obtain ⟨J2, hJ2⟩ : ∃ X, X = jm_up (hk_filo (jm_up (jm_up (jm_up I 300 1 ((I 300 1) + 1)) 300 4 ((I 300 4) - 1)) 306 (I 300 3) 0) 305 (549 * (I 300 3)) ((m : Nat) : Int) (fun _ => 0)) 300 3 (-1) := ⟨_, rfl⟩
            rw [← hJ2]
            have hp2 : J2 = hk_mp2 (hk_mp1 I) := by
              rw [hJ2]
              unfold hk_mp2
              rw [hk_mp1_g (b := 3) (by decide), hk_mp1_g (b := 4) (by decide)]
              first
                | (rw [if_pos (by omega)]; rfl)
                | (rw [if_neg (by omega), if_neg (by omega)]; rfl)
                | (rw [if_neg (by omega), if_pos (by omega), show m = 549 by omega]; rfl)
            have h28 : J2 300 8 = n := by rw [hp2, hk_mp2_g (by decide), hk_mp1_g (by decide)]; exact hn
            have h22 : J2 300 2 = I 300 2 := by rw [hp2, hk_mp2_g (by decide), hk_mp1_g (by decide)]
            refine jm_aload_n C dX6_passes_81 rfl ?_
            refine jm_get (ci := 6) (f := 3) 3 rfl C rfl jw_u_6 Q.1.1 Q.1.2 rfl (by decide) jw_f_RX6_13 dX6_passes_82 (fun yr27 => ?_)
            refine jm_iconst C dX6_passes_85 ?_
            refine jm_icmp_ne 105 C dX6_passes_86 rfl (by omega) (by decide) (fun yc28 => ?_) (fun yc28 => ?_)
            · skip
              obtain ⟨J3, hJ3⟩ : ∃ X, X = J2 := ⟨_, rfl⟩
              rw [← hJ3]
              have hp3 : J3 = hk_mp3 J2 n := by
                rw [hJ3]
                unfold hk_mp3
                first | rw [if_pos (by omega)] | rw [if_neg (by omega)]
              have hrow : ∀ a, a ≠ 300 → a ≠ 305 → a ≠ 306 → J3 a = I a := fun a h1 h2 h3 => by rw [hp3, hk_mp3_o h1, hp2, hk_mp2_o ⟨h1, h3, h2⟩, hk_mp1_o h1]
              have h8 : J3 300 8 = n := by rw [hp3, hk_mp3_g (by decide)]; exact h28
              have h31 : J3 300 1 = I 300 1 + 1 := by rw [hp3, hk_mp3_g (by decide), hp2, hk_mp2_g (by decide)]; exact jm_up_s _ _ _ _
              have h13 : ∀ g : Int, 0 ≤ g → g < n → 0 ≤ J3 313 g ∧ J3 313 g < 3 := fun g a b => by rw [hrow 313 (by decide) (by decide) (by decide)]; exact hpk.2.2.2.2.2.1 g a b
              have h12 : ∀ g : Int, 0 ≤ g → g < n → J3 309 g = 0 → J3 300 1 ≤ J3 312 g := fun g a b c => by
                rw [hrow 309 (by decide) (by decide) (by decide)] at c
                rw [hrow 312 (by decide) (by decide) (by decide), h31]
                have := hpk.2.2.2.2.2.2.1 g a c b
                omega
              have hhr3 : ∀ g : Int, 0 ≤ g → g < n → J3 312 g ≤ 1000000 := fun g a b => by
                rw [hrow 312 (by decide) (by decide) (by decide)]
                have := hpk.2.2.2.2.2.2.2.1 g
                omega
              refine jm_aload_n C dX6_passes_105 rfl ?_
              refine jm_cVu (n := 0) (ci := 6) [] C (kX6_begins E w J3 Q n h8 hn12 h13 h12 hhr3) jw_m_RX6_158 okX6_begins rfl ⟨rfl, rfl⟩ ⟨Nat.le_of_ble_eq_true rfl, Nat.le_of_ble_eq_true rfl⟩ rfl Q.1.1 Q.1.2 rfl rfl (Nat.le_of_ble_eq_true rfl) dX6_passes_106 ⟨Nat.le_of_ble_eq_true rfl, Nat.le_of_ble_eq_true rfl⟩ ?_
              exact hR _ _ _ dX6_passes_109 (by unfold hk_mps; rw [← hp2, ← hp3])
            · skip
              refine jm_aload_n C dX6_passes_89 rfl ?_
              refine jm_aload_n C dX6_passes_90 rfl ?_
              refine jm_cVd (n := 0) (ci := 6) [.ref (w.2.1 300)] C (kX6_wanted E w J2 Q n (by omega) hn12) jw_m_RX6_155 okX6_wanted rfl ⟨rfl, rfl⟩ ⟨Nat.le_of_ble_eq_true rfl, Nat.le_of_ble_eq_true rfl⟩ rfl Q.1.1 Q.1.2 rfl rfl (Nat.le_of_ble_eq_true rfl) dX6_passes_91 ⟨Nat.le_of_ble_eq_true rfl, Nat.le_of_ble_eq_true rfl⟩ (fun yz32 yh31 => ?_)
              subst yh31
              have yh31r := hk_mwa_r (J2) n 3
              refine jm_put (ci := 6) (f := 3) (ty := .int) 3 rfl C rfl tyX6 tyX6_ok nmX6 jw_u_6 Q.1.1 Q.1.2 rfl (by decide) jw_f_RX6_13 rfl (by decide +kernel) rfl rfl dX6_passes_94 (by omega) ?_
              refine jm_aload_n C dX6_passes_97 rfl ?_
              refine jm_aload_n C dX6_passes_98 rfl ?_
              refine jm_getv (ci := 6) (f := 2) (J2 300 2) 2 rfl (jm_up_n (Or.inr (by decide))) C rfl jw_u_6 Q.1.1 Q.1.2 rfl (by decide) jw_f_RX6_7 dX6_passes_99 (fun yr33 => ?_)
              refine jm_put (ci := 6) (f := 4) (ty := .int) 4 rfl C rfl tyX6 tyX6_ok nmX6 jw_u_6 Q.1.1 Q.1.2 rfl (by decide) jw_f_RX6_152 rfl (by decide +kernel) rfl rfl dX6_passes_102 (by omega) ?_
              obtain ⟨J3, hJ3⟩ : ∃ X, X = jm_up (jm_up J2 300 3 ((hk_mwa J2 n 3).1)) 300 4 (J2 300 2) := ⟨_, rfl⟩
              rw [← hJ3]
              have hp3 : J3 = hk_mp3 J2 n := by
                rw [hJ3]
                unfold hk_mp3
                first | rw [if_pos (by omega)] | rw [if_neg (by omega)]
              have hrow : ∀ a, a ≠ 300 → a ≠ 305 → a ≠ 306 → J3 a = I a := fun a h1 h2 h3 => by rw [hp3, hk_mp3_o h1, hp2, hk_mp2_o ⟨h1, h3, h2⟩, hk_mp1_o h1]
              have h8 : J3 300 8 = n := by rw [hp3, hk_mp3_g (by decide)]; exact h28
              have h31 : J3 300 1 = I 300 1 + 1 := by rw [hp3, hk_mp3_g (by decide), hp2, hk_mp2_g (by decide)]; exact jm_up_s _ _ _ _
              have h13 : ∀ g : Int, 0 ≤ g → g < n → 0 ≤ J3 313 g ∧ J3 313 g < 3 := fun g a b => by rw [hrow 313 (by decide) (by decide) (by decide)]; exact hpk.2.2.2.2.2.1 g a b
              have h12 : ∀ g : Int, 0 ≤ g → g < n → J3 309 g = 0 → J3 300 1 ≤ J3 312 g := fun g a b c => by
                rw [hrow 309 (by decide) (by decide) (by decide)] at c
                rw [hrow 312 (by decide) (by decide) (by decide), h31]
                have := hpk.2.2.2.2.2.2.1 g a c b
                omega
              have hhr3 : ∀ g : Int, 0 ≤ g → g < n → J3 312 g ≤ 1000000 := fun g a b => by
                rw [hrow 312 (by decide) (by decide) (by decide)]
                have := hpk.2.2.2.2.2.2.2.1 g
                omega
              refine jm_aload_n C dX6_passes_105 rfl ?_
              refine jm_cVu (n := 0) (ci := 6) [] C (kX6_begins E w J3 Q n h8 hn12 h13 h12 hhr3) jw_m_RX6_158 okX6_begins rfl ⟨rfl, rfl⟩ ⟨Nat.le_of_ble_eq_true rfl, Nat.le_of_ble_eq_true rfl⟩ rfl Q.1.1 Q.1.2 rfl rfl (Nat.le_of_ble_eq_true rfl) dX6_passes_106 ⟨Nat.le_of_ble_eq_true rfl, Nat.le_of_ble_eq_true rfl⟩ ?_
              exact hR _ _ _ dX6_passes_109 (by unfold hk_mps; rw [← hp2, ← hp3])
          · skip
            refine jm_aload_n C dX6_passes_54 rfl ?_
            refine jm_getr (ci := 6) (f := 5) C rfl jw_u_6 Q.1.1 Q.1.2 rfl (by decide) jw_f_RX6_16 dX6_passes_55 ?_
            refine jm_sipush C dX6_passes_58 (by decide +kernel) ?_
            refine jm_aload_n C dX6_passes_61 rfl ?_
            refine jm_getv (ci := 6) (f := 3) (I 300 3) 3 rfl (Eq.trans (hk_filo_o (Or.inl (by decide))) (Eq.trans (jm_up_n (Or.inl (by decide))) (Eq.trans (jm_up_n (Or.inr (by decide))) (jm_up_n (Or.inr (by decide)))))) C rfl jw_u_6 Q.1.1 Q.1.2 rfl (by decide) jw_f_RX6_13 dX6_passes_62 (fun yr36 => ?_)
            refine jm_imul C dX6_passes_65 ?_
            refine jm_iload_n C dX6_passes_66 rfl ?_
            refine jm_iadd C dX6_passes_67 ?_
            refine jm_iconst C dX6_passes_68 ?_
            refine jm_iast C (jm_X6_305 Q).1 rfl (jm_X6_305 Q).2 (by omega) (by omega) (by omega) dX6_passes_69 (by decide) ?_
            refine jm_iinc C dX6_passes_70 (by decide) rfl ?_
            refine jm_goto 47 C dX6_passes_73 rfl ?_
            refine jm_mq (hk_filo_s _ 305 (549 * (I 300 3)) m (fun _ => 0) _ rfl).symm ?_
            refine jm_lvs (lv' := [(0, _), (1, _)]) (jm_sub_c rfl (jm_sub_c rfl (jm_sub_0 _))) ?_
            exact ih47 (m + 1) (by omega) (by omega)
      refine jm_mq (hk_filo_0 _ 305 (549 * (I 300 3)) (fun _ => 0)) ?_
      refine jm_lvs (lv' := [(0, _), (1, _)]) (jm_sub_c rfl (jm_sub_c rfl (jm_sub_0 _))) ?_
      exact lp47 _ 0 (Nat.lt_succ_self _) (Nat.zero_le _)
set_option maxRecDepth 100000 in
set_option maxHeartbeats 4000000 in
theorem kX6_pass (E : jm_E) (w : jm_W) (I : jm_M) (Q : jm_X6 E w) (n : Nat) (hn : I 300 8 = n) (hn12 : n ≤ 12) (k : Int) (g1 : jm_R k) (hnow : 0 ≤ I 300 1 ∧ I 300 1 ≤ 9999) (hpk : hk_pk I n) : jm_Mi E yX6_pass wX6_pass rmX6_pass 0 0 w I [.ref (w.2.1 300), jm_v k] (fun I' z => hk_cd I' (1 ≤ k ∧ k ≤ 48) (I 300 1 + k ≤ 9999) True ∧ ((1 ≤ k ∧ k ≤ 48) → (I 300 1 + k ≤ 9999) → I' = hk_mpn (jm_up I 300 0 0) n k.toNat ∧ z = I 300 1 + k) ∧ (¬ ((1 ≤ k ∧ k ≤ 48) ∧ (I 300 1 + k ≤ 9999)) → hk_wk I I')) := by
  refine jm_in_i (cc := cX6_pass) (maxL := 4) (rt := .int) RX6 (by decide +kernel) rfl rfl (Nat.le_of_ble_eq_true rfl) (by simp [Value.category]) ?_
  intro G C hR hI
  refine jm_iload_n C dX6_pass_0 rfl ?_
  refine jm_iconst C dX6_pass_1 ?_
  refine jm_bipush C dX6_pass_2 (by decide +kernel) ?_
  refine jm_cSd (n := 3) [] C (kX6_in E w I _ _ _ g1 (by decide) (by decide)) jw_m_RX6_90 okX6_in rfl ⟨rfl, rfl⟩ ⟨Nat.le_of_ble_eq_true rfl, Nat.le_of_ble_eq_true rfl⟩ rfl rfl (Nat.le_of_ble_eq_true rfl) dX6_pass_4 ⟨Nat.le_of_ble_eq_true rfl, Nat.le_of_ble_eq_true rfl⟩ (fun yz2 yh1 => ?_)
  refine jm_istore_n C dX6_pass_7 (by decide) ?_
  refine jm_aload_n C dX6_pass_8 rfl ?_
  refine jm_iload_n C dX6_pass_9 rfl ?_
  refine jm_iload_n C dX6_pass_10 rfl ?_
  refine jm_if_eq 30 C dX6_pass_11 rfl (by omega) (fun yc3 => ?_) (fun yc3 => ?_)
  · skip
    refine jm_iconst C dX6_pass_30 ?_
    refine jm_cVd (n := 2) (ci := 6) [] C (kX6_asked_ E w I Q _ _ (by omega) (by omega)) jw_m_RX6_161 okX6_asked_ rfl ⟨rfl, rfl⟩ ⟨Nat.le_of_ble_eq_true rfl, Nat.le_of_ble_eq_true rfl⟩ rfl Q.1.1 Q.1.2 rfl rfl (Nat.le_of_ble_eq_true rfl) dX6_pass_31 ⟨Nat.le_of_ble_eq_true rfl, Nat.le_of_ble_eq_true rfl⟩ (fun yz5 yh4 => ?_)
    refine jm_if_ne 39 C dX6_pass_34 rfl (by omega) (fun yc6 => ?_) (fun yc6 => ?_)
    · skip
      obtain ⟨J, hJ⟩ : ∃ X, X = jm_up I 300 0 (if (yz2 : Int) = 0 then 1 else if (0 : Int) = 0 then 2 else 0) := ⟨_, rfl⟩
      rw [← hJ]
      refine jm_R_all (fun hIJ => ?_)
      have hJ0 : J = jm_up I 300 0 0 := by rw [hJ]; congr 1; rw [if_neg (by omega), if_neg (by omega)]
      have hJk : hk_pk J n := by rw [hJ0]; exact hk_pk_0 hpk
      have hJ1 : J 300 1 = I 300 1 := by rw [hJ0]; exact jm_up_n (Or.inr (by decide))
      refine jm_iconst C dX6_pass_39 ?_
      refine jm_istore_n C dX6_pass_40 (by decide) ?_
      have lp41 : ∀ (yn41 : Nat) (m : Nat) (M : jm_M), k.toNat - m < yn41 → ((m : Int) ≤ k) → (M = hk_mpn J n m) → (hk_pk M n) → (M 300 1 = I 300 1 + m) → (∀ k j, jm_R (M k j)) → jm_J E G (0, 0) w M 41 [(0, .ref (w.2.1 300)), (1, jm_v k), (3, jm_v ((m : Nat) : Int))] [] := by
        intro yn41
        induction yn41 with
        | zero => intro m M hlt41 hmk hM hMk hM1 hImem; exact absurd hlt41 (Nat.not_lt_zero _)
        | succ yn41 ih41 =>
          intro m M hlt41 hmk hM hMk hM1 hImem
          have hM8 : M 300 8 = n := hMk.2.2.2.2.1
          refine jm_iload_n C dX6_pass_41 rfl ?_
          refine jm_iload_n C dX6_pass_42 rfl ?_
          refine jm_icmp_ge 56 C dX6_pass_43 rfl (by omega) g1 (fun yc7 => ?_) (fun yc7 => ?_)
          · skip
            refine jm_aload_n C dX6_pass_56 rfl ?_
            refine jm_get (ci := 6) (f := 1) 1 rfl C rfl jw_u_6 Q.1.1 Q.1.2 rfl (by decide) jw_f_RX6_101 dX6_pass_57 (fun yr8 => ?_)
            exact hR _ _ _ _ dX6_pass_60 rfl ⟨Or.inl ⟨by omega, by omega, trivial, by rw [hM, hk_mpn_0]; rw [hJ0]; exact jm_up_s _ _ _ _⟩, fun q1 q2 => ⟨by rw [hM, hJ0, show m = k.toNat by omega], by omega⟩, fun q => absurd q (by omega)⟩
          · skip
            refine jm_aload_n C dX6_pass_46 rfl ?_
            refine jm_cVu (n := 0) (ci := 6) [] C (kX6_passes E w M Q n hM8 hn12 (by omega) hMk) jw_m_RX6_164 okX6_passes rfl ⟨rfl, rfl⟩ ⟨Nat.le_of_ble_eq_true rfl, Nat.le_of_ble_eq_true rfl⟩ rfl Q.1.1 Q.1.2 rfl rfl (Nat.le_of_ble_eq_true rfl) dX6_pass_47 ⟨Nat.le_of_ble_eq_true rfl, Nat.le_of_ble_eq_true rfl⟩ ?_
            refine jm_iinc C dX6_pass_50 (by decide) rfl ?_
            refine jm_goto 41 C dX6_pass_53 rfl ?_
            refine jm_R_all (fun hIq => ?_)
            have hkk := hk_pk_s hMk (by omega)
            refine jm_lvs (lv' := [(0, _), (1, _), (3, _)]) (jm_sub_c rfl (jm_sub_c rfl (jm_sub_c rfl (jm_sub_0 _)))) ?_
            exact ih41 (m + 1) _ (by omega) (by omega) (by rw [hM]; rfl) hkk.1 (by rw [hkk.2, hM1]; omega) hIq
      refine jm_lvs (lv' := [(0, _), (1, _), (3, _)]) (jm_sub_c rfl (jm_sub_c rfl (jm_sub_c rfl (jm_sub_0 _)))) ?_
      exact lp41 _ 0 _ (Nat.lt_succ_self _) (by omega) rfl hJk (by rw [hJ1]; omega) hIJ
    · skip
      refine jm_iconst C dX6_pass_37 ?_
      exact hR _ _ _ _ dX6_pass_38 rfl ⟨hk_cd2 (jm_up_s _ _ _ _) (by omega) (by omega), fun q1 q2 => absurd q1 (by omega), fun _ => hk_wk_0 _ _⟩
  · skip
    refine jm_aload_n C dX6_pass_14 rfl ?_
    refine jm_get (ci := 6) (f := 1) 1 rfl C rfl jw_u_6 Q.1.1 Q.1.2 rfl (by decide) jw_f_RX6_101 dX6_pass_15 (fun yr11 => ?_)
    refine jm_iload_n C dX6_pass_18 rfl ?_
    refine jm_iadd C dX6_pass_19 ?_
    refine jm_sipush C dX6_pass_20 (by decide +kernel) ?_
    refine jm_icmp_gt 30 C dX6_pass_23 rfl (by omega) (by decide) (fun yc12 => ?_) (fun yc12 => ?_)
    · skip
      refine jm_iconst C dX6_pass_30 ?_
      refine jm_cVd (n := 2) (ci := 6) [] C (kX6_asked_ E w I Q _ _ (by omega) (by omega)) jw_m_RX6_161 okX6_asked_ rfl ⟨rfl, rfl⟩ ⟨Nat.le_of_ble_eq_true rfl, Nat.le_of_ble_eq_true rfl⟩ rfl Q.1.1 Q.1.2 rfl rfl (Nat.le_of_ble_eq_true rfl) dX6_pass_31 ⟨Nat.le_of_ble_eq_true rfl, Nat.le_of_ble_eq_true rfl⟩ (fun yz14 yh13 => ?_)
      refine jm_if_ne 39 C dX6_pass_34 rfl (by omega) (fun yc15 => ?_) (fun yc15 => ?_)
      · skip
        obtain ⟨J, hJ⟩ : ∃ X, X = jm_up I 300 0 (if (yz2 : Int) = 0 then 1 else if (0 : Int) = 0 then 2 else 0) := ⟨_, rfl⟩
        rw [← hJ]
        refine jm_R_all (fun hIJ => ?_)
        have hJ0 : J = jm_up I 300 0 0 := by rw [hJ]; congr 1; rw [if_neg (by omega), if_neg (by omega)]
        have hJk : hk_pk J n := by rw [hJ0]; exact hk_pk_0 hpk
        have hJ1 : J 300 1 = I 300 1 := by rw [hJ0]; exact jm_up_n (Or.inr (by decide))
        refine jm_iconst C dX6_pass_39 ?_
        refine jm_istore_n C dX6_pass_40 (by decide) ?_
        have lp41 : ∀ (yn41 : Nat) (m : Nat) (M : jm_M), k.toNat - m < yn41 → ((m : Int) ≤ k) → (M = hk_mpn J n m) → (hk_pk M n) → (M 300 1 = I 300 1 + m) → (∀ k j, jm_R (M k j)) → jm_J E G (0, 0) w M 41 [(0, .ref (w.2.1 300)), (1, jm_v k), (3, jm_v ((m : Nat) : Int))] [] := by
          intro yn41
          induction yn41 with
          | zero => intro m M hlt41 hmk hM hMk hM1 hImem; exact absurd hlt41 (Nat.not_lt_zero _)
          | succ yn41 ih41 =>
            intro m M hlt41 hmk hM hMk hM1 hImem
            have hM8 : M 300 8 = n := hMk.2.2.2.2.1
            refine jm_iload_n C dX6_pass_41 rfl ?_
            refine jm_iload_n C dX6_pass_42 rfl ?_
            refine jm_icmp_ge 56 C dX6_pass_43 rfl (by omega) g1 (fun yc16 => ?_) (fun yc16 => ?_)
            · skip
              refine jm_aload_n C dX6_pass_56 rfl ?_
              refine jm_get (ci := 6) (f := 1) 1 rfl C rfl jw_u_6 Q.1.1 Q.1.2 rfl (by decide) jw_f_RX6_101 dX6_pass_57 (fun yr17 => ?_)
              exact hR _ _ _ _ dX6_pass_60 rfl ⟨Or.inl ⟨by omega, by omega, trivial, by rw [hM, hk_mpn_0]; rw [hJ0]; exact jm_up_s _ _ _ _⟩, fun q1 q2 => ⟨by rw [hM, hJ0, show m = k.toNat by omega], by omega⟩, fun q => absurd q (by omega)⟩
            · skip
              refine jm_aload_n C dX6_pass_46 rfl ?_
              refine jm_cVu (n := 0) (ci := 6) [] C (kX6_passes E w M Q n hM8 hn12 (by omega) hMk) jw_m_RX6_164 okX6_passes rfl ⟨rfl, rfl⟩ ⟨Nat.le_of_ble_eq_true rfl, Nat.le_of_ble_eq_true rfl⟩ rfl Q.1.1 Q.1.2 rfl rfl (Nat.le_of_ble_eq_true rfl) dX6_pass_47 ⟨Nat.le_of_ble_eq_true rfl, Nat.le_of_ble_eq_true rfl⟩ ?_
              refine jm_iinc C dX6_pass_50 (by decide) rfl ?_
              refine jm_goto 41 C dX6_pass_53 rfl ?_
              refine jm_R_all (fun hIq => ?_)
              have hkk := hk_pk_s hMk (by omega)
              refine jm_lvs (lv' := [(0, _), (1, _), (3, _)]) (jm_sub_c rfl (jm_sub_c rfl (jm_sub_c rfl (jm_sub_0 _)))) ?_
              exact ih41 (m + 1) _ (by omega) (by omega) (by rw [hM]; rfl) hkk.1 (by rw [hkk.2, hM1]; omega) hIq
        refine jm_lvs (lv' := [(0, _), (1, _), (3, _)]) (jm_sub_c rfl (jm_sub_c rfl (jm_sub_c rfl (jm_sub_0 _)))) ?_
        exact lp41 _ 0 _ (Nat.lt_succ_self _) (by omega) rfl hJk (by rw [hJ1]; omega) hIJ
      · skip
        refine jm_iconst C dX6_pass_37 ?_
        exact hR _ _ _ _ dX6_pass_38 rfl ⟨hk_cd2 (jm_up_s _ _ _ _) (by omega) (by omega), fun q1 q2 => absurd q1 (by omega), fun _ => hk_wk_0 _ _⟩
    · skip
      refine jm_iconst C dX6_pass_26 ?_
      refine jm_goto 31 C dX6_pass_27 rfl ?_
      refine jm_cVd (n := 2) (ci := 6) [] C (kX6_asked_ E w I Q _ _ (by omega) (by omega)) jw_m_RX6_161 okX6_asked_ rfl ⟨rfl, rfl⟩ ⟨Nat.le_of_ble_eq_true rfl, Nat.le_of_ble_eq_true rfl⟩ rfl Q.1.1 Q.1.2 rfl rfl (Nat.le_of_ble_eq_true rfl) dX6_pass_31 ⟨Nat.le_of_ble_eq_true rfl, Nat.le_of_ble_eq_true rfl⟩ (fun yz21 yh20 => ?_)
      refine jm_if_ne 39 C dX6_pass_34 rfl (by omega) (fun yc22 => ?_) (fun yc22 => ?_)
      · skip
        obtain ⟨J, hJ⟩ : ∃ X, X = jm_up I 300 0 (if (yz2 : Int) = 0 then 1 else if (1 : Int) = 0 then 2 else 0) := ⟨_, rfl⟩
        rw [← hJ]
        refine jm_R_all (fun hIJ => ?_)
        have hJ0 : J = jm_up I 300 0 0 := by rw [hJ]; congr 1; rw [if_neg (by omega), if_neg (by omega)]
        have hJk : hk_pk J n := by rw [hJ0]; exact hk_pk_0 hpk
        have hJ1 : J 300 1 = I 300 1 := by rw [hJ0]; exact jm_up_n (Or.inr (by decide))
        refine jm_iconst C dX6_pass_39 ?_
        refine jm_istore_n C dX6_pass_40 (by decide) ?_
        have lp41 : ∀ (yn41 : Nat) (m : Nat) (M : jm_M), k.toNat - m < yn41 → ((m : Int) ≤ k) → (M = hk_mpn J n m) → (hk_pk M n) → (M 300 1 = I 300 1 + m) → (∀ k j, jm_R (M k j)) → jm_J E G (0, 0) w M 41 [(0, .ref (w.2.1 300)), (1, jm_v k), (3, jm_v ((m : Nat) : Int))] [] := by
          intro yn41
          induction yn41 with
          | zero => intro m M hlt41 hmk hM hMk hM1 hImem; exact absurd hlt41 (Nat.not_lt_zero _)
          | succ yn41 ih41 =>
            intro m M hlt41 hmk hM hMk hM1 hImem
            have hM8 : M 300 8 = n := hMk.2.2.2.2.1
            refine jm_iload_n C dX6_pass_41 rfl ?_
            refine jm_iload_n C dX6_pass_42 rfl ?_
            refine jm_icmp_ge 56 C dX6_pass_43 rfl (by omega) g1 (fun yc23 => ?_) (fun yc23 => ?_)
            · skip
              refine jm_aload_n C dX6_pass_56 rfl ?_
              refine jm_get (ci := 6) (f := 1) 1 rfl C rfl jw_u_6 Q.1.1 Q.1.2 rfl (by decide) jw_f_RX6_101 dX6_pass_57 (fun yr24 => ?_)
              exact hR _ _ _ _ dX6_pass_60 rfl ⟨Or.inl ⟨by omega, by omega, trivial, by rw [hM, hk_mpn_0]; rw [hJ0]; exact jm_up_s _ _ _ _⟩, fun q1 q2 => ⟨by rw [hM, hJ0, show m = k.toNat by omega], by omega⟩, fun q => absurd q (by omega)⟩
            · skip
              refine jm_aload_n C dX6_pass_46 rfl ?_
              refine jm_cVu (n := 0) (ci := 6) [] C (kX6_passes E w M Q n hM8 hn12 (by omega) hMk) jw_m_RX6_164 okX6_passes rfl ⟨rfl, rfl⟩ ⟨Nat.le_of_ble_eq_true rfl, Nat.le_of_ble_eq_true rfl⟩ rfl Q.1.1 Q.1.2 rfl rfl (Nat.le_of_ble_eq_true rfl) dX6_pass_47 ⟨Nat.le_of_ble_eq_true rfl, Nat.le_of_ble_eq_true rfl⟩ ?_
              refine jm_iinc C dX6_pass_50 (by decide) rfl ?_
              refine jm_goto 41 C dX6_pass_53 rfl ?_
              refine jm_R_all (fun hIq => ?_)
              have hkk := hk_pk_s hMk (by omega)
              refine jm_lvs (lv' := [(0, _), (1, _), (3, _)]) (jm_sub_c rfl (jm_sub_c rfl (jm_sub_c rfl (jm_sub_0 _)))) ?_
              exact ih41 (m + 1) _ (by omega) (by omega) (by rw [hM]; rfl) hkk.1 (by rw [hkk.2, hM1]; omega) hIq
        refine jm_lvs (lv' := [(0, _), (1, _), (3, _)]) (jm_sub_c rfl (jm_sub_c rfl (jm_sub_c rfl (jm_sub_0 _)))) ?_
        exact lp41 _ 0 _ (Nat.lt_succ_self _) (by omega) rfl hJk (by rw [hJ1]; omega) hIJ
      · skip
        refine jm_iconst C dX6_pass_37 ?_
        exact hR _ _ _ _ dX6_pass_38 rfl ⟨hk_cd2 (jm_up_s _ _ _ _) (by omega) (by omega), fun q1 q2 => absurd q1 (by omega), fun _ => hk_wk_0 _ _⟩
