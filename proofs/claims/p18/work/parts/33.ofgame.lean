set_option maxRecDepth 100000 in
set_option maxHeartbeats 4000000 in
theorem kxX5_ofGame (E : jm_E) (hl0 : E.1.stackTraces = false) (w : jm_W) (I : jm_M) (ng : Int) (H : jm_X5 E w ng) (g k : Int) (h1 : jm_R g) (h2 : jm_R k) : jm_Xi E yX5_ofGame wX5_ofGame rxX5_ofGame 2 12 w I [.ref (w.2.1 0), jm_v g, jm_v k] (fun I' z => (0 ≤ g ∧ g < ng) ∧ (0 ≤ k ∧ k ≤ 7) ∧ I' = I ∧ z = if k = 0 then I (30 + g) 5 else if k = 1 then I (30 + g) 4 else if k = 2 then I (30 + g) 6 else if k = 3 then I (30 + g) 8 else if k = 4 then I (30 + g) 9 else if k = 5 then I (30 + g) 10 else if k = 6 then hk_nside (I (30 + g) 5) (I (30 + g) 11) (I (30 + g) 12) else I (30 + g) 12) (fun cls I' => I' = I ∧ ((¬ (0 ≤ g ∧ g < ng) ∧ cls = "java/lang/IndexOutOfBoundsException") ∨ ((0 ≤ g ∧ g < ng) ∧ ¬ (0 ≤ k ∧ k ≤ 7) ∧ cls = "java/lang/IllegalArgumentException"))) := by
  refine jm_xin_i (cc := cX5_ofGame) (maxL := 4) (rt := .int) RX5 hl0 rfl (by decide +kernel) rfl rfl (Nat.le_of_ble_eq_true rfl) (by simp [Value.category]) ?_
  intro G C hR hT hP hI
  refine jm_aload_n C dX5_ofGame_0 rfl ?_
  refine jm_iload_n C dX5_ofGame_1 rfl ?_
  refine jm_xcVr (n := 1) (ci := 5) [] C (kxX5_gameOf E hl0 w I ng H _ h1) jw_m_RX5_75 okX5_gameOf rfl ⟨rfl, rfl⟩ ⟨Nat.le_of_ble_eq_true rfl, Nat.le_of_ble_eq_true rfl⟩ rfl H.1.1 H.1.2 rfl rfl (Nat.le_of_ble_eq_true rfl) dX5_ofGame_2 ⟨Nat.le_of_ble_eq_true rfl, Nat.le_of_ble_eq_true rfl⟩ (fun cls yI3 yh1 => ?_) (fun yI3 yz2 yh1 => ?_)
  · skip
    exact hP _ _ _ _ _ _ ⟨Nat.le_of_ble_eq_true rfl, Nat.le_of_ble_eq_true rfl⟩ (by obtain ⟨rfl, rfl, h9⟩ := yh1; exact ⟨rfl, Or.inl ⟨h9, rfl⟩⟩)
  obtain ⟨yh1e, rfl, yh1⟩ := yh1
  have yh1e2 := yh1e.symm
  clear yh1e
  subst yh1e2
  refine jm_astore_n C dX5_ofGame_5 (by decide) ?_
  refine jm_iload_n C dX5_ofGame_6 rfl ?_
  have yw4 : (k < 0 ∨ 7 < k) ∨ k = 0 ∨ k = 1 ∨ k = 2 ∨ k = 3 ∨ k = 4 ∨ k = 5 ∨ k = 6 ∨ k = 7 := by omega
  rcases yw4 with yw4 | yw4 | yw4 | yw4 | yw4 | yw4 | yw4 | yw4 | yw4
  · skip
    refine jm_tswO 92 C dX5_ofGame_7 h2 yw4 rfl ?_
    exact hT _ _ _ _ _ "java/lang/IllegalArgumentException" "what is out of range" 57 157 61 rfl jw_k2.1 jw_k2.2 (by decide) jw_x2 jw_y2 jw_z2 dX5_ofGame_92 dX5_ofGame_95 dX5_ofGame_96 dX5_ofGame_98 dX5_ofGame_101 (Nat.le_of_ble_eq_true rfl) (Nat.le_of_ble_eq_true rfl) ⟨Nat.le_of_ble_eq_true rfl, Nat.le_of_ble_eq_true rfl⟩ ⟨Nat.le_of_ble_eq_true rfl, Nat.le_of_ble_eq_true rfl⟩ ⟨rfl, Or.inr ⟨by omega, by omega, rfl⟩⟩
  · skip
    refine jm_tswI 52 (0) (45) C dX5_ofGame_7 yw4 (by decide) (by decide) (by decide) rfl rfl ?_
    refine jm_aload_n C dX5_ofGame_52 rfl ?_
    refine jm_get (ci := 0) (f := 5) 5 rfl C rfl jw_u_0 (jm_X5_g H (i := g) yh1.1 yh1.2).1 (jm_X5_g H (i := g) yh1.1 yh1.2).2.1 rfl (by decide) jw_f_RX5_114 dX5_ofGame_53 (fun yr5 => ?_)
    refine jm_wid (q' := (2, 12)) (Nat.le_of_ble_eq_true rfl) (Nat.le_of_ble_eq_true rfl) ?_
    exact hR _ _ _ _ dX5_ofGame_56 rfl ⟨by omega, by omega, rfl, by first | rw [if_pos (by omega)] | rw [if_neg (by omega), if_pos (by omega)] | rw [if_neg (by omega), if_neg (by omega), if_pos (by omega)] | rw [if_neg (by omega), if_neg (by omega), if_neg (by omega), if_pos (by omega)] | rw [if_neg (by omega), if_neg (by omega), if_neg (by omega), if_neg (by omega), if_pos (by omega)] | rw [if_neg (by omega), if_neg (by omega), if_neg (by omega), if_neg (by omega), if_neg (by omega), if_pos (by omega)] | rw [if_neg (by omega), if_neg (by omega), if_neg (by omega), if_neg (by omega), if_neg (by omega), if_neg (by omega), if_pos (by omega)] | rw [if_neg (by omega), if_neg (by omega), if_neg (by omega), if_neg (by omega), if_neg (by omega), if_neg (by omega), if_neg (by omega)]⟩
  · skip
    refine jm_tswI 57 (1) (50) C dX5_ofGame_7 yw4 (by decide) (by decide) (by decide) rfl rfl ?_
    refine jm_aload_n C dX5_ofGame_57 rfl ?_
    refine jm_get (ci := 0) (f := 4) 4 rfl C rfl jw_u_0 (jm_X5_g H (i := g) yh1.1 yh1.2).1 (jm_X5_g H (i := g) yh1.1 yh1.2).2.1 rfl (by decide) jw_f_RX5_169 dX5_ofGame_58 (fun yr6 => ?_)
    refine jm_wid (q' := (2, 12)) (Nat.le_of_ble_eq_true rfl) (Nat.le_of_ble_eq_true rfl) ?_
    exact hR _ _ _ _ dX5_ofGame_61 rfl ⟨by omega, by omega, rfl, by first | rw [if_pos (by omega)] | rw [if_neg (by omega), if_pos (by omega)] | rw [if_neg (by omega), if_neg (by omega), if_pos (by omega)] | rw [if_neg (by omega), if_neg (by omega), if_neg (by omega), if_pos (by omega)] | rw [if_neg (by omega), if_neg (by omega), if_neg (by omega), if_neg (by omega), if_pos (by omega)] | rw [if_neg (by omega), if_neg (by omega), if_neg (by omega), if_neg (by omega), if_neg (by omega), if_pos (by omega)] | rw [if_neg (by omega), if_neg (by omega), if_neg (by omega), if_neg (by omega), if_neg (by omega), if_neg (by omega), if_pos (by omega)] | rw [if_neg (by omega), if_neg (by omega), if_neg (by omega), if_neg (by omega), if_neg (by omega), if_neg (by omega), if_neg (by omega)]⟩
  · skip
    refine jm_tswI 62 (2) (55) C dX5_ofGame_7 yw4 (by decide) (by decide) (by decide) rfl rfl ?_
    refine jm_aload_n C dX5_ofGame_62 rfl ?_
    refine jm_get (ci := 0) (f := 6) 6 rfl C rfl jw_u_0 (jm_X5_g H (i := g) yh1.1 yh1.2).1 (jm_X5_g H (i := g) yh1.1 yh1.2).2.1 rfl (by decide) jw_f_RX5_95 dX5_ofGame_63 (fun yr7 => ?_)
    refine jm_wid (q' := (2, 12)) (Nat.le_of_ble_eq_true rfl) (Nat.le_of_ble_eq_true rfl) ?_
    exact hR _ _ _ _ dX5_ofGame_66 rfl ⟨by omega, by omega, rfl, by first | rw [if_pos (by omega)] | rw [if_neg (by omega), if_pos (by omega)] | rw [if_neg (by omega), if_neg (by omega), if_pos (by omega)] | rw [if_neg (by omega), if_neg (by omega), if_neg (by omega), if_pos (by omega)] | rw [if_neg (by omega), if_neg (by omega), if_neg (by omega), if_neg (by omega), if_pos (by omega)] | rw [if_neg (by omega), if_neg (by omega), if_neg (by omega), if_neg (by omega), if_neg (by omega), if_pos (by omega)] | rw [if_neg (by omega), if_neg (by omega), if_neg (by omega), if_neg (by omega), if_neg (by omega), if_neg (by omega), if_pos (by omega)] | rw [if_neg (by omega), if_neg (by omega), if_neg (by omega), if_neg (by omega), if_neg (by omega), if_neg (by omega), if_neg (by omega)]⟩
  · skip
    refine jm_tswI 67 (3) (60) C dX5_ofGame_7 yw4 (by decide) (by decide) (by decide) rfl rfl ?_
    refine jm_aload_n C dX5_ofGame_67 rfl ?_
    refine jm_get (ci := 0) (f := 8) 8 rfl C rfl jw_u_0 (jm_X5_g H (i := g) yh1.1 yh1.2).1 (jm_X5_g H (i := g) yh1.1 yh1.2).2.1 rfl (by decide) jw_f_RX5_172 dX5_ofGame_68 (fun yr8 => ?_)
    refine jm_wid (q' := (2, 12)) (Nat.le_of_ble_eq_true rfl) (Nat.le_of_ble_eq_true rfl) ?_
    exact hR _ _ _ _ dX5_ofGame_71 rfl ⟨by omega, by omega, rfl, by first | rw [if_pos (by omega)] | rw [if_neg (by omega), if_pos (by omega)] | rw [if_neg (by omega), if_neg (by omega), if_pos (by omega)] | rw [if_neg (by omega), if_neg (by omega), if_neg (by omega), if_pos (by omega)] | rw [if_neg (by omega), if_neg (by omega), if_neg (by omega), if_neg (by omega), if_pos (by omega)] | rw [if_neg (by omega), if_neg (by omega), if_neg (by omega), if_neg (by omega), if_neg (by omega), if_pos (by omega)] | rw [if_neg (by omega), if_neg (by omega), if_neg (by omega), if_neg (by omega), if_neg (by omega), if_neg (by omega), if_pos (by omega)] | rw [if_neg (by omega), if_neg (by omega), if_neg (by omega), if_neg (by omega), if_neg (by omega), if_neg (by omega), if_neg (by omega)]⟩
  · skip
    refine jm_tswI 72 (4) (65) C dX5_ofGame_7 yw4 (by decide) (by decide) (by decide) rfl rfl ?_
    refine jm_aload_n C dX5_ofGame_72 rfl ?_
    refine jm_get (ci := 0) (f := 9) 9 rfl C rfl jw_u_0 (jm_X5_g H (i := g) yh1.1 yh1.2).1 (jm_X5_g H (i := g) yh1.1 yh1.2).2.1 rfl (by decide) jw_f_RX5_175 dX5_ofGame_73 (fun yr9 => ?_)
    refine jm_wid (q' := (2, 12)) (Nat.le_of_ble_eq_true rfl) (Nat.le_of_ble_eq_true rfl) ?_
    exact hR _ _ _ _ dX5_ofGame_76 rfl ⟨by omega, by omega, rfl, by first | rw [if_pos (by omega)] | rw [if_neg (by omega), if_pos (by omega)] | rw [if_neg (by omega), if_neg (by omega), if_pos (by omega)] | rw [if_neg (by omega), if_neg (by omega), if_neg (by omega), if_pos (by omega)] | rw [if_neg (by omega), if_neg (by omega), if_neg (by omega), if_neg (by omega), if_pos (by omega)] | rw [if_neg (by omega), if_neg (by omega), if_neg (by omega), if_neg (by omega), if_neg (by omega), if_pos (by omega)] | rw [if_neg (by omega), if_neg (by omega), if_neg (by omega), if_neg (by omega), if_neg (by omega), if_neg (by omega), if_pos (by omega)] | rw [if_neg (by omega), if_neg (by omega), if_neg (by omega), if_neg (by omega), if_neg (by omega), if_neg (by omega), if_neg (by omega)]⟩
  · skip
    refine jm_tswI 77 (5) (70) C dX5_ofGame_7 yw4 (by decide) (by decide) (by decide) rfl rfl ?_
    refine jm_aload_n C dX5_ofGame_77 rfl ?_
    refine jm_get (ci := 0) (f := 10) 10 rfl C rfl jw_u_0 (jm_X5_g H (i := g) yh1.1 yh1.2).1 (jm_X5_g H (i := g) yh1.1 yh1.2).2.1 rfl (by decide) jw_f_RX5_178 dX5_ofGame_78 (fun yr10 => ?_)
    refine jm_wid (q' := (2, 12)) (Nat.le_of_ble_eq_true rfl) (Nat.le_of_ble_eq_true rfl) ?_
    exact hR _ _ _ _ dX5_ofGame_81 rfl ⟨by omega, by omega, rfl, by first | rw [if_pos (by omega)] | rw [if_neg (by omega), if_pos (by omega)] | rw [if_neg (by omega), if_neg (by omega), if_pos (by omega)] | rw [if_neg (by omega), if_neg (by omega), if_neg (by omega), if_pos (by omega)] | rw [if_neg (by omega), if_neg (by omega), if_neg (by omega), if_neg (by omega), if_pos (by omega)] | rw [if_neg (by omega), if_neg (by omega), if_neg (by omega), if_neg (by omega), if_neg (by omega), if_pos (by omega)] | rw [if_neg (by omega), if_neg (by omega), if_neg (by omega), if_neg (by omega), if_neg (by omega), if_neg (by omega), if_pos (by omega)] | rw [if_neg (by omega), if_neg (by omega), if_neg (by omega), if_neg (by omega), if_neg (by omega), if_neg (by omega), if_neg (by omega)]⟩
  · skip
    refine jm_tswI 82 (6) (75) C dX5_ofGame_7 yw4 (by decide) (by decide) (by decide) rfl rfl ?_
    refine jm_aload_n C dX5_ofGame_82 rfl ?_
    refine jm_cVd (n := 0) (ci := 0) [] C (kX0_nextSide E w I _ (jm_X5_g H (i := g) yh1.1 yh1.2)) jw_m_RX5_181 okX0_nextSide rfl ⟨rfl, rfl⟩ ⟨Nat.le_of_ble_eq_true rfl, Nat.le_of_ble_eq_true rfl⟩ rfl (jm_X5_g H (i := g) yh1.1 yh1.2).1 (jm_X5_g H (i := g) yh1.1 yh1.2).2.1 rfl rfl (Nat.le_of_ble_eq_true rfl) dX5_ofGame_83 ⟨Nat.le_of_ble_eq_true rfl, Nat.le_of_ble_eq_true rfl⟩ (fun yz12 yh11 => ?_)
    subst yh11
    refine jm_wid (q' := (2, 12)) (Nat.le_of_ble_eq_true rfl) (Nat.le_of_ble_eq_true rfl) ?_
    exact hR _ _ _ _ dX5_ofGame_86 rfl ⟨by omega, by omega, rfl, by first | rw [if_pos (by omega)] | rw [if_neg (by omega), if_pos (by omega)] | rw [if_neg (by omega), if_neg (by omega), if_pos (by omega)] | rw [if_neg (by omega), if_neg (by omega), if_neg (by omega), if_pos (by omega)] | rw [if_neg (by omega), if_neg (by omega), if_neg (by omega), if_neg (by omega), if_pos (by omega)] | rw [if_neg (by omega), if_neg (by omega), if_neg (by omega), if_neg (by omega), if_neg (by omega), if_pos (by omega)] | rw [if_neg (by omega), if_neg (by omega), if_neg (by omega), if_neg (by omega), if_neg (by omega), if_neg (by omega), if_pos (by omega)] | rw [if_neg (by omega), if_neg (by omega), if_neg (by omega), if_neg (by omega), if_neg (by omega), if_neg (by omega), if_neg (by omega)]⟩
  · skip
    refine jm_tswI 87 (7) (80) C dX5_ofGame_7 yw4 (by decide) (by decide) (by decide) rfl rfl ?_
    refine jm_aload_n C dX5_ofGame_87 rfl ?_
    refine jm_get (ci := 0) (f := 12) 12 rfl C rfl jw_u_0 (jm_X5_g H (i := g) yh1.1 yh1.2).1 (jm_X5_g H (i := g) yh1.1 yh1.2).2.1 rfl (by decide) jw_f_RX5_184 dX5_ofGame_88 (fun yr13 => ?_)
    refine jm_wid (q' := (2, 12)) (Nat.le_of_ble_eq_true rfl) (Nat.le_of_ble_eq_true rfl) ?_
    exact hR _ _ _ _ dX5_ofGame_91 rfl ⟨by omega, by omega, rfl, by first | rw [if_pos (by omega)] | rw [if_neg (by omega), if_pos (by omega)] | rw [if_neg (by omega), if_neg (by omega), if_pos (by omega)] | rw [if_neg (by omega), if_neg (by omega), if_neg (by omega), if_pos (by omega)] | rw [if_neg (by omega), if_neg (by omega), if_neg (by omega), if_neg (by omega), if_pos (by omega)] | rw [if_neg (by omega), if_neg (by omega), if_neg (by omega), if_neg (by omega), if_neg (by omega), if_pos (by omega)] | rw [if_neg (by omega), if_neg (by omega), if_neg (by omega), if_neg (by omega), if_neg (by omega), if_neg (by omega), if_pos (by omega)] | rw [if_neg (by omega), if_neg (by omega), if_neg (by omega), if_neg (by omega), if_neg (by omega), if_neg (by omega), if_neg (by omega)]⟩
