/-- glide over any map -/
theorem kX2_glide2 (E : jm_E) (w : jm_W) (M : jm_M) (k : Int) (h : jm_X2 E w k) (ks : Int) (hs : jm_X1 E w ks) (hne : ks ≠ k) (hnw : ks + 100 ≠ k) (hn3 : k + 100 + 100 ≠ ks + 100) (hl0 : 0 ≤ M k 2 ∧ M k 2 ≤ 8) (hy0 : 0 ≤ M k 3 ∧ M k 3 ≤ 59) (hen0 : 0 ≤ M k 4 ∧ M k 4 ≤ 100000) (htn : -1 ≤ M k 5 ∧ M k 5 ≤ 1) (hw : ∀ c, 0 ≤ M (ks + 100) c ∧ M (ks + 100) c ≤ 9) : jm_Mi E yX2_glide wX2_glide rmX2_glide 0 0 w M [.ref (w.2.1 k), .ref (w.2.1 ks)] (fun I' z => hk_gpost M k ks (hk_T (hk_lie (M (k + 100 + 100))) (M k 5) (M k 6) (M k 7) 60 (M (ks + 100)) (M k 2) (M k 3) (M k 4) 0) I' z) := by
  have q := kX2_glide E w M k h ks hs hne hnw hn3 (M k 2) (M k 3) (M k 4) (M k 8) (M k 9) hl0 hy0 hen0 htn hw
  rw [hk_sl_self] at q
  exact q
set_option maxRecDepth 100000 in
set_option maxHeartbeats 4000000 in
theorem kX2_run (E : jm_E) (w : jm_W) (I : jm_M) (k : Int) (h : jm_X2 E w k) (ks : Int) (hs : jm_X1 E w ks) (k2 : Int) (h2 : jm_X3 E w k2) (hne : ks ≠ k) (hnw : ks + 100 ≠ k) (hn3 : k + 100 + 100 ≠ ks + 100) (n wv : Int) (hn : 0 ≤ n ∧ n < 6) (hwv : wv = 0 ∨ wv = 1) (hl0 : 0 ≤ I k 2 ∧ I k 2 ≤ 8) (hy0 : 0 ≤ I k 3 ∧ I k 3 ≤ 59) (hen0 : 0 ≤ I k 4 ∧ I k 4 ≤ 1000) (htn : -1 ≤ I k 5 ∧ I k 5 ≤ 1) (hw : hk_w9 (I (ks + 100))) (hg : hk_good (I (k2 + 100))) (hfn : I (k2 + 100) n = -1) : jm_Mi E yX2_run wX2_run rmX2_run 0 0 w I [.ref (w.2.1 k), .ref (w.2.1 ks), .ref (w.2.1 k2), jm_v n, jm_v wv] (fun I' z => z = (hk_R1 I k ks k2).2.1 ∧ hk_rpost I k ks wv (hk_RR I k ks k2 n) I') := by
  refine jm_in_i (cc := cX2_run) (maxL := 8) (rt := .int) RX2 (by decide +kernel) rfl rfl (Nat.le_of_ble_eq_true rfl) (by simp [Value.category]) ?_
  intro G C hR hI
  refine jm_aload_n C dX2_run_0 rfl ?_
  refine jm_getr (ci := 2) (f := 0) C rfl jw_u_2 h.1 h.2.1 rfl (by decide) jw_f_RX2_12 dX2_run_1 ?_
  refine jm_aload_n C dX2_run_4 rfl ?_
  refine jm_cVu (n := 1) (ci := 3) [] C (kX3_copyFrom E w I _ h.2.2 _ h2) jw_m_RX2_40 okX3_copyFrom rfl ⟨rfl, rfl⟩ ⟨Nat.le_of_ble_eq_true rfl, Nat.le_of_ble_eq_true rfl⟩ rfl h.2.2.1 h.2.2.2.1 rfl rfl (Nat.le_of_ble_eq_true rfl) dX2_run_5 ⟨Nat.le_of_ble_eq_true rfl, Nat.le_of_ble_eq_true rfl⟩ ?_
  refine jm_aload_n C dX2_run_8 rfl ?_
  refine jm_iload C dX2_run_9 rfl ?_
  refine jm_put (ci := 2) (f := 1) (ty := .boolean) 1 rfl C rfl tyX2 tyX2_ok nmX2 jw_u_2 h.1 h.2.1 rfl (by decide) jw_f_RX2_44 rfl (by decide +kernel) (jm_nz hwv) (jm_fz hwv) dX2_run_11 (by omega) ?_
  obtain ⟨M1, hM1⟩ : ∃ X, X = jm_up (hk_fill I ((k + 100) + 100) 6 (I (k2 + 100))) k 1 wv := ⟨_, rfl⟩
  rw [← hM1]
  have q1 : ∀ b, b ≠ 1 → M1 k b = I k b := fun b hb => by rw [hM1, jm_up_n (Or.inr hb), hk_fill_o (Or.inl (by omega))]
  have q2 : M1 k 1 = wv := by rw [hM1, jm_up_s]
  have q3 : M1 (k + 100 + 100) = hk_F0 I k k2 := by rw [hM1]; funext b; rw [jm_up_n (Or.inl (by omega))]; rfl
  have q4 : ∀ a, a ≠ k → a ≠ k + 100 + 100 → M1 a = I a := fun a h1 h2 => by rw [hM1]; funext b; rw [jm_up_n (Or.inl h1), hk_fill_o (Or.inl h2)]
  have q5 : M1 (ks + 100) = I (ks + 100) := q4 _ hnw (by omega)
  have hR1 : hk_T (hk_lie (M1 (k + 100 + 100))) (M1 k 5) (M1 k 6) (M1 k 7) 60 (M1 (ks + 100)) (M1 k 2) (M1 k 3) (M1 k 4) 0 = hk_R1 I k ks k2 := by rw [q3, q5, q1 5 (by decide), q1 6 (by decide), q1 7 (by decide), q1 2 (by decide), q1 3 (by decide), q1 4 (by decide)]; rfl
  have hgf : hk_good (hk_F0 I k k2) := fun i h1 h2 => by unfold hk_F0; rw [hk_fill_i ⟨h1, h2⟩]; exact hg i h1 h2
  have htd : hk_tend (hk_lie (hk_F0 I k k2)) (I (ks + 100)) (I k 3) (I k 4) (hk_R1 I k ks k2) := hk_T_all (hk_lie (hk_F0 I k k2)) (I k 5) (I k 6) (I k 7) 60 (I (ks + 100)) (I k 2) (I k 3) (I k 4) 0 hw hl0 hy0 hen0.1
  refine jm_aload_n C dX2_run_14 rfl ?_
  refine jm_aload_n C dX2_run_15 rfl ?_
  refine jm_cVi (n := 1) (ci := 2) [] C (kX2_glide2 E w M1 _ h _ hs hne hnw hn3 (by rw [q1 2 (by decide)]; exact hl0) (by rw [q1 3 (by decide)]; exact hy0) (by rw [q1 4 (by decide)]; omega) (by rw [q1 5 (by decide)]; exact htn) (by rw [q5]; exact hw)) jw_m_RX2_48 okX2_glide rfl ⟨rfl, rfl⟩ ⟨Nat.le_of_ble_eq_true rfl, Nat.le_of_ble_eq_true rfl⟩ rfl h.1 h.2.1 rfl rfl (Nat.le_of_ble_eq_true rfl) dX2_run_16 ⟨Nat.le_of_ble_eq_true rfl, Nat.le_of_ble_eq_true rfl⟩ (fun yI5 yz4 yh3 => ?_)
  rw [hR1] at yh3
  obtain ⟨Iv, ln, y, e2, sp, rfl, hz, hgv, hrel⟩ := yh3
  have hrz : jm_R yz4 := by rw [hz]; exact hk_ok_R htd.1
  refine jm_istore C dX2_run_19 (by decide) ?_
  refine jm_aload_n C dX2_run_21 rfl ?_
  refine jm_getr (ci := 2) (f := 0) C rfl jw_u_2 h.1 h.2.1 rfl (by decide) jw_f_RX2_12 dX2_run_22 ?_
  refine jm_iload_n C dX2_run_25 rfl ?_
  refine jm_iload C dX2_run_26 rfl ?_
  refine jm_cVu (n := 2) (ci := 3) [] C (kX3_put E w _ _ h.2.2 _ _ (by omega) hrz) jw_m_RX2_52 okX3_put rfl ⟨rfl, rfl⟩ ⟨Nat.le_of_ble_eq_true rfl, Nat.le_of_ble_eq_true rfl⟩ rfl h.2.2.1 h.2.2.2.1 rfl rfl (Nat.le_of_ble_eq_true rfl) dX2_run_28 ⟨Nat.le_of_ble_eq_true rfl, Nat.le_of_ble_eq_true rfl⟩ ?_
  rw [if_pos hn]
  have hrr : hk_rrel I k ks wv (hk_pt (hk_F0 I k k2) n yz4) (hk_R1 I k ks k2).1 (hk_R1 I k ks k2).2.2.1 (hk_R1 I k ks k2).2.2.2 (jm_up (hk_sl Iv k ln y e2 sp (hk_R1 I k ks k2).2.2.1) (k + 100 + 100) n yz4) :=
    hk_rrel_go (y0 := I k 3) (en := I k 4) (W := I (ks + 100)) (fun q => hnw q.symm) hn3 (fun a h1 h2 h3 => q4 a h1 h2) q2 q3 (by rw [q1 5 (by decide)]; exact htn) (fun _ => q5) (by rw [q5]; exact hk_agr_rf _ _) hz hgv hrel htd hgf hen0.2 (fun xj yj _ h1 h2 h3 h4 h5 _ => by unfold hk_F0 at h1; rw [hk_fill_i hn, hfn] at h1; omega)
  subst hz
  obtain ⟨M2, hM2⟩ : ∃ X, X = jm_up (hk_sl Iv k ln y e2 sp (hk_R1 I k ks k2).2.2.1) (k + 100 + 100) n (hk_R1 I k ks k2).2.1 := ⟨_, rfl⟩
  rw [← hM2] at hrr ⊢
  refine jm_iconst C dX2_run_31 ?_
  refine jm_istore C dX2_run_32 (by decide) ?_
  have lp34 : ∀ (yn34 : Nat) (m : Nat) (M : jm_M) (f W : Int → Int) (ht gv : Int), 6 - m < yn34 → (m ≤ 6) → (hk_rrel I k ks wv f W ht gv M) → (hk_chain (6 - m) W f ht gv = hk_RR I k ks k2 n) → jm_J E G (0, 0) w M 34 [(0, .ref (w.2.1 k)), (1, .ref (w.2.1 ks)), (5, jm_v ((hk_R1 I k ks k2).2.1)), (6, jm_v ((m : Nat) : Int))] [] := by
    intro yn34
    induction yn34 with
    | zero => intro m M f W ht gv hlt34 hm hrr hch; exact absurd hlt34 (Nat.not_lt_zero _)
    | succ yn34 ih34 =>
      intro m M f W ht gv hlt34 hm hrr hch
      have hM9 : M k 9 = ht := hrr.2.2.2.1
      refine jm_iload C dX2_run_34 rfl ?_
      refine jm_bipush C dX2_run_36 (by decide +kernel) ?_
      refine jm_icmp_ge 88 C dX2_run_38 rfl (by omega) (by decide) (fun yc8 => ?_) (fun yc8 => ?_)
      · skip
        refine jm_iload C dX2_run_88 rfl ?_
        exact hR _ _ _ _ dX2_run_90 rfl ⟨rfl, by
            first
            | (rw [← hch, show 6 - m = 0 by omega]; exact hk_rrel_post hrr)
            | (rw [← hch, show 6 - m = (6 - (m + 1)) + 1 by omega, hk_chain, if_pos (show ht = -1 by omega)]; exact hk_rrel_post hrr)⟩
      · skip
        refine jm_aload_n C dX2_run_41 rfl ?_
        refine jm_getv (ci := 2) (f := 9) ht 9 rfl hM9 C rfl jw_u_2 h.1 h.2.1 rfl (by decide) jw_f_RX2_18 dX2_run_42 (fun yr9 => ?_)
        refine jm_iconst C dX2_run_45 ?_
        refine jm_icmp_eq 88 C dX2_run_46 rfl (by omega) (by decide) (fun yc10 => ?_) (fun yc10 => ?_)
        · skip
          refine jm_iload C dX2_run_88 rfl ?_
          exact hR _ _ _ _ dX2_run_90 rfl ⟨rfl, by
              first
              | (rw [← hch, show 6 - m = 0 by omega]; exact hk_rrel_post hrr)
              | (rw [← hch, show 6 - m = (6 - (m + 1)) + 1 by omega, hk_chain, if_pos (show ht = -1 by omega)]; exact hk_rrel_post hrr)⟩
        · skip
          have hht : ht ≠ -1 := by omega
          obtain ⟨t1, t2, t3, t4, xj, yj, u1, u2, u3, u4, u5, u6⟩ := hrr.2.2.2.2.2.2.2.2.2.2.2.resolve_left hht
          have hat : hk_at f ht = 100 * xj + yj := by unfold hk_at; rw [if_pos ⟨t1, t2⟩]; exact u5
          have hdv : (hk_at f ht).tdiv 100 = xj ∧ (hk_at f ht).tmod 100 = yj := by
            have e := hk_div (hk_at f ht) (by omega)
            omega
          rw [show 6 - m = (6 - (m + 1)) + 1 by omega, hk_chain, if_neg hht] at hch
          have hMp : M (k + 100 + 100) = f := hrr.2.2.1
          refine jm_aload_n C dX2_run_49 rfl ?_
          refine jm_getv (ci := 2) (f := 9) ht 9 rfl hM9 C rfl jw_u_2 h.1 h.2.1 rfl (by decide) jw_f_RX2_18 dX2_run_50 (fun yr11 => ?_)
          refine jm_istore C dX2_run_53 (by decide) ?_
          refine jm_aload_n C dX2_run_55 rfl ?_
          refine jm_aload_n C dX2_run_56 rfl ?_
          refine jm_getr (ci := 2) (f := 0) C rfl jw_u_2 h.1 h.2.1 rfl (by decide) jw_f_RX2_12 dX2_run_57 ?_
          refine jm_iload C dX2_run_60 rfl ?_
          refine jm_cVd (n := 1) (ci := 3) [.ref (w.2.1 k)] C (kX3_placeOf E w M _ h.2.2 _ (by omega)) jw_m_RX2_56 okX3_placeOf rfl ⟨rfl, rfl⟩ ⟨Nat.le_of_ble_eq_true rfl, Nat.le_of_ble_eq_true rfl⟩ rfl h.2.2.1 h.2.2.2.1 rfl rfl (Nat.le_of_ble_eq_true rfl) dX2_run_62 ⟨Nat.le_of_ble_eq_true rfl, Nat.le_of_ble_eq_true rfl⟩ (fun yz13 yh12 => ?_)
          rw [hMp] at yh12
          subst yh12
          refine jm_cVu (n := 1) (ci := 2) [] C (kX2_aimPushed E w M _ h _ (by omega)) jw_m_RX2_60 okX2_aimPushed rfl ⟨rfl, rfl⟩ ⟨Nat.le_of_ble_eq_true rfl, Nat.le_of_ble_eq_true rfl⟩ rfl h.1 h.2.1 rfl rfl (Nat.le_of_ble_eq_true rfl) dX2_run_65 ⟨Nat.le_of_ble_eq_true rfl, Nat.le_of_ble_eq_true rfl⟩ ?_
          obtain ⟨M3, hM3⟩ : ∃ X, X = (jm_up (jm_up (jm_up (jm_up (jm_up M k 2 ((hk_at f ht).tdiv 100)) k 3 ((hk_at f ht).tmod 100)) k 5 0) k 6 1) k 7 0) := ⟨_, rfl⟩
          rw [← hM3]
          have p2 : M3 k 2 = xj := by rw [hM3]; simp [jm_up]; exact hdv.1
          have p3 : M3 k 3 = yj := by rw [hM3]; simp [jm_up]; exact hdv.2
          have p5 : M3 k 5 = 0 := by rw [hM3]; simp [jm_up]
          have p6 : M3 k 6 = 1 := by rw [hM3]; simp [jm_up]
          have p7 : M3 k 7 = 0 := by rw [hM3]; simp [jm_up]
          have p4 : M3 k 4 = gv := by rw [hM3]; simp [jm_up]; exact hrr.2.2.2.2.1 hht
          have p1 : M3 k 1 = wv := by rw [hM3]; simp [jm_up]; exact hrr.2.1
          have pa : ∀ a, a ≠ k → M3 a = M a := fun a ha => by rw [hM3]; funext b; rw [jm_up_n (Or.inl ha), jm_up_n (Or.inl ha), jm_up_n (Or.inl ha), jm_up_n (Or.inl ha), jm_up_n (Or.inl ha)]
          have p8 : M3 (ks + 100) = M (ks + 100) := pa _ hnw
          have p9 : M3 (k + 100 + 100) = f := (pa _ (by omega)).trans hMp
          obtain ⟨R2, hR2⟩ : ∃ X, X = hk_T (hk_lie f) 0 1 0 60 W ((hk_at f ht).tdiv 100) ((hk_at f ht).tmod 100) gv 0 := ⟨_, rfl⟩
          have htd2 : hk_tend (hk_lie f) W yj gv R2 := by rw [hR2, hdv.1, hdv.2]; exact hk_T_all (hk_lie f) 0 1 0 60 W xj yj gv 0 hrr.2.2.2.2.2.2.2.2.2.1 ⟨u1, u2⟩ ⟨by omega, u4⟩ t3
          have hT2 : (hk_T (hk_lie (M3 (k + 100 + 100))) (M3 k 5) (M3 k 6) (M3 k 7) 60 (M3 (ks + 100)) (M3 k 2) (M3 k 3) (M3 k 4) 0).2 = R2.2 := by rw [hR2, p9, p5, p6, p7, p8, p2, p3, p4, hdv.1, hdv.2]; exact hk_T_agr _ _ _ _ 60 _ _ _ _ _ _ u6 ⟨u1, u2⟩ ⟨by omega, u4⟩
          have hT1 : M3 k 1 ≠ 0 → (hk_T (hk_lie (M3 (k + 100 + 100))) (M3 k 5) (M3 k 6) (M3 k 7) 60 (M3 (ks + 100)) (M3 k 2) (M3 k 3) (M3 k 4) 0).1 = R2.1 := fun q => by rw [hR2, p9, p5, p6, p7, p8, p2, p3, p4, hdv.1, hdv.2, hrr.2.2.2.2.2.2.2.1 (by rw [← p1]; exact q)]
          rw [← hR2] at hch
          refine jm_aload_n C dX2_run_68 rfl ?_
          refine jm_getr (ci := 2) (f := 0) C rfl jw_u_2 h.1 h.2.1 rfl (by decide) jw_f_RX2_12 dX2_run_69 ?_
          refine jm_iload C dX2_run_72 rfl ?_
          refine jm_aload_n C dX2_run_74 rfl ?_
          refine jm_aload_n C dX2_run_75 rfl ?_
          refine jm_cVi (n := 1) (ci := 2) [jm_v ht, .ref (w.2.1 (k + 100))] C (kX2_glide2 E w M3 _ h _ hs hne hnw hn3 (by rw [p2]; exact ⟨u1, u2⟩) (by rw [p3]; omega) (by rw [p4]; omega) (by rw [p5]; decide) (by rw [p8]; exact hrr.2.2.2.2.2.2.1)) jw_m_RX2_48 okX2_glide rfl ⟨rfl, rfl⟩ ⟨Nat.le_of_ble_eq_true rfl, Nat.le_of_ble_eq_true rfl⟩ rfl h.1 h.2.1 rfl rfl (Nat.le_of_ble_eq_true rfl) dX2_run_76 ⟨Nat.le_of_ble_eq_true rfl, Nat.le_of_ble_eq_true rfl⟩ (fun yI18 yz17 yh16 => ?_)
          have hconv := hk_gp_conv yh16 hT2 hT1
          obtain ⟨Iv, ln, y, e2, sp, rfl, hz, hgv, hrel⟩ := hconv
          have hrz : jm_R yz17 := by rw [hz]; exact hk_ok_R htd2.1
          refine jm_cVu (n := 2) (ci := 3) [] C (kX3_put E w _ _ h.2.2 _ _ (by omega) hrz) jw_m_RX2_52 okX3_put rfl ⟨rfl, rfl⟩ ⟨Nat.le_of_ble_eq_true rfl, Nat.le_of_ble_eq_true rfl⟩ rfl h.2.2.1 h.2.2.2.1 rfl rfl (Nat.le_of_ble_eq_true rfl) dX2_run_79 ⟨Nat.le_of_ble_eq_true rfl, Nat.le_of_ble_eq_true rfl⟩ ?_
          rw [if_pos (show 0 ≤ ht ∧ ht < 6 from ⟨t1, t2⟩)]
          have hrr2 : hk_rrel I k ks wv (hk_pt f ht yz17) R2.1 R2.2.2.1 R2.2.2.2 (jm_up (hk_sl Iv k ln y e2 sp R2.2.2.1) (k + 100 + 100) ht yz17) :=
            hk_rrel_go (y0 := yj) (en := gv) (W := W) (fun q => hnw q.symm) hn3 (fun a h1 h2 h3 => (pa a h1).trans (hrr.1 a h1 h2 h3)) p1 p9 (by rw [p5]; decide) (fun q => p8.trans (hrr.2.2.2.2.2.2.2.2.1 q)) (by rw [p8]; exact u6) hz hgv hrel htd2 hrr.2.2.2.2.2.2.2.2.2.2.1 t4 (fun xj2 yj2 h0 h1 h2 h3 h4 h5 _ => by rw [u5] at h1; omega)
          subst hz
          refine jm_iinc C dX2_run_82 (by decide) rfl ?_
          refine jm_goto 34 C dX2_run_85 rfl ?_
          refine jm_lvs (lv' := [(0, _), (1, _), (5, _), (6, _)]) (jm_sub_c rfl (jm_sub_c rfl (jm_sub_c rfl (jm_sub_c rfl (jm_sub_0 _))))) ?_
          exact ih34 (m + 1) _ (hk_pt f ht R2.2.1) R2.1 R2.2.2.1 R2.2.2.2 (by omega) (by omega) hrr2 hch
  refine jm_lvs (lv' := [(0, _), (1, _), (5, _), (6, _)]) (jm_sub_c rfl (jm_sub_c rfl (jm_sub_c rfl (jm_sub_c rfl (jm_sub_0 _))))) ?_
  exact lp34 _ 0 _ (hk_pt (hk_F0 I k k2) n (hk_R1 I k ks k2).2.1) (hk_R1 I k ks k2).1 (hk_R1 I k ks k2).2.2.1 (hk_R1 I k ks k2).2.2.2 (Nat.lt_succ_self _) (Nat.zero_le _) hrr rfl
