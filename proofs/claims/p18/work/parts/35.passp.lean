set_option maxRecDepth 100000 in
set_option maxHeartbeats 4000000 in
theorem kxX5_pass (E : jm_E) (hl0 : E.1.stackTraces = false) (w : jm_W) (I : jm_M) (ng : Int) (H : jm_X5 E w ng) (k : Int) (h1 : jm_R k) (hnow : 0 ≤ I 0 5 ∧ I 0 5 ≤ 9999) (hck : hk_ck I ng) : jm_Xi E yX5_pass wX5_pass rxX5_pass 2 12 w I [.ref (w.2.1 0), jm_v k] (fun I' z => (1 ≤ k ∧ k ≤ 48) ∧ (I 0 5 + k ≤ 9999) ∧ I' = hk_cpn I ng k.toNat ∧ z = I 0 5 + k) (fun cls I' => I' = I ∧ ((¬ (1 ≤ k ∧ k ≤ 48) ∧ cls = "java/lang/IllegalArgumentException") ∨ ((1 ≤ k ∧ k ≤ 48) ∧ ¬ (I 0 5 + k ≤ 9999) ∧ cls = "java/lang/IllegalStateException"))) := by
  refine jm_xin_i (cc := cX5_pass) (maxL := 3) (rt := .int) RX5 hl0 rfl (by decide +kernel) rfl rfl (Nat.le_of_ble_eq_true rfl) (by simp [Value.category]) ?_
  intro G C hR hT hP hI
  have hng := jm_X5_n H
  refine jm_iload_n C dX5_pass_0 rfl ?_
  refine jm_iconst C dX5_pass_1 ?_
  refine jm_bipush C dX5_pass_2 (by decide +kernel) ?_
  refine jm_cSd (n := 3) [] C (kX5_isWithin E w I _ _ _ h1 (by decide) (by decide)) jw_m_RX5_43 okX5_isWithin rfl ⟨rfl, rfl⟩ ⟨Nat.le_of_ble_eq_true rfl, Nat.le_of_ble_eq_true rfl⟩ rfl rfl (Nat.le_of_ble_eq_true rfl) dX5_pass_4 ⟨Nat.le_of_ble_eq_true rfl, Nat.le_of_ble_eq_true rfl⟩ (fun yz2 yh1 => ?_)
  refine jm_if_ne 20 C dX5_pass_7 rfl (by omega) (fun yc3 => ?_) (fun yc3 => ?_)
  · skip
    refine jm_aload_n C dX5_pass_20 rfl ?_
    refine jm_get (ci := 5) (f := 5) 5 rfl C rfl jw_u_5 H.1.1 H.1.2 rfl (by decide) jw_f_RX5_54 dX5_pass_21 (fun yr4 => ?_)
    refine jm_iload_n C dX5_pass_24 rfl ?_
    refine jm_iadd C dX5_pass_25 ?_
    refine jm_sipush C dX5_pass_26 (by decide +kernel) ?_
    refine jm_icmp_le 42 C dX5_pass_29 rfl (by omega) (by decide) (fun yc5 => ?_) (fun yc5 => ?_)
    · skip
      refine jm_iconst C dX5_pass_42 ?_
      refine jm_istore_n C dX5_pass_43 (by decide) ?_
      have lp44 : ∀ (yn44 : Nat) (m : Nat) (M : jm_M), k.toNat - m < yn44 → ((m : Int) ≤ k) → (M = hk_cpn I ng m) → (hk_ck M ng) → (M 0 5 = I 0 5 + m) → (∀ k j, jm_R (M k j)) → jm_J E G (0, 0) w M 44 [(0, .ref (w.2.1 0)), (1, jm_v k), (2, jm_v ((m : Nat) : Int))] [] := by
        intro yn44
        induction yn44 with
        | zero => intro m M hlt44 hmk hM hMk hM5 hImem; exact absurd hlt44 (Nat.not_lt_zero _)
        | succ yn44 ih44 =>
          intro m M hlt44 hmk hM hMk hM5 hImem
          refine jm_iload_n C dX5_pass_44 rfl ?_
          refine jm_iload_n C dX5_pass_45 rfl ?_
          refine jm_icmp_ge 73 C dX5_pass_46 rfl (by omega) h1 (fun yc6 => ?_) (fun yc6 => ?_)
          · skip
            refine jm_aload_n C dX5_pass_73 rfl ?_
            refine jm_get (ci := 5) (f := 5) 5 rfl C rfl jw_u_5 H.1.1 H.1.2 rfl (by decide) jw_f_RX5_54 dX5_pass_74 (fun yr7 => ?_)
            refine jm_wid (q' := (2, 12)) (Nat.le_of_ble_eq_true rfl) (Nat.le_of_ble_eq_true rfl) ?_
            exact hR _ _ _ _ dX5_pass_77 rfl ⟨by omega, by omega, by rw [hM, show m = k.toNat by omega], by omega⟩
          · skip
            refine jm_aload_n C dX5_pass_49 rfl ?_
            refine jm_dup C dX5_pass_50 rfl ?_
            refine jm_get (ci := 5) (f := 5) 5 rfl C rfl jw_u_5 H.1.1 H.1.2 rfl (by decide) jw_f_RX5_54 dX5_pass_51 (fun yr8 => ?_)
            refine jm_iconst C dX5_pass_54 ?_
            refine jm_iadd C dX5_pass_55 ?_
            refine jm_put (ci := 5) (f := 5) (ty := .int) 5 rfl C rfl tyX5 tyX5_ok nmX5 jw_u_5 H.1.1 H.1.2 rfl (by decide) jw_f_RX5_54 rfl (by decide +kernel) rfl rfl dX5_pass_56 (by omega) ?_
            refine jm_aload_n C dX5_pass_59 rfl ?_
            refine jm_cVu (n := 0) (ci := 5) [] C (kX5_workAnHour E w (jm_up M 0 5 ((M 0 5) + 1)) ng H (by rw [jm_up_n (Or.inr (by decide))]; exact hMk.1) (by rw [jm_up_n (Or.inr (by decide))]; have := hMk.2.1; omega)) jw_m_RX5_138 okX5_workAnHour rfl ⟨rfl, rfl⟩ ⟨Nat.le_of_ble_eq_true rfl, Nat.le_of_ble_eq_true rfl⟩ rfl H.1.1 H.1.2 rfl rfl (Nat.le_of_ble_eq_true rfl) dX5_pass_60 ⟨Nat.le_of_ble_eq_true rfl, Nat.le_of_ble_eq_true rfl⟩ ?_
            have hw7 : -1 ≤ jm_up M 0 5 (M 0 5 + 1) 0 7 ∧ jm_up M 0 5 (M 0 5 + 1) 0 7 < 3 := by rw [jm_up_n (Or.inr (by decide))]; exact hMk.1
            have hb2 : ∀ i, 0 ≤ i → i < ng → 0 ≤ hk_work (jm_up M 0 5 (M 0 5 + 1)) ng (30 + i) 2 ∧ hk_work (jm_up M 0 5 (M 0 5 + 1)) ng (30 + i) 2 < 3 := fun i a b => by rw [hk_work_o hw7 (by omega) (by omega), jm_up_n (Or.inr (by decide))]; exact hMk.2.2.2.1 i a b
            have hb4 : ∀ i, 0 ≤ i → i < ng → hk_work (jm_up M 0 5 (M 0 5 + 1)) ng (30 + i) 4 ≤ 1000000 := fun i a b => by
              rw [hk_work_o hw7 (by omega) (by omega), jm_up_n (Or.inr (by decide))]
              have := hMk.2.2.2.2 i a b
              omega
            refine jm_aload_n C dX5_pass_63 rfl ?_
            refine jm_cVu (n := 0) (ci := 5) [] C (kX5_beginGames E w (hk_work (jm_up M 0 5 ((M 0 5) + 1)) ng) ng H hb2 hb4) jw_m_RX5_141 okX5_beginGames rfl ⟨rfl, rfl⟩ ⟨Nat.le_of_ble_eq_true rfl, Nat.le_of_ble_eq_true rfl⟩ rfl H.1.1 H.1.2 rfl rfl (Nat.le_of_ble_eq_true rfl) dX5_pass_64 ⟨Nat.le_of_ble_eq_true rfl, Nat.le_of_ble_eq_true rfl⟩ ?_
            refine jm_iinc C dX5_pass_67 (by decide) rfl ?_
            refine jm_goto 44 C dX5_pass_70 rfl ?_
            refine jm_R_all (fun hIq => ?_)
            have hkk := hk_ck_s hImem hng (by omega) hMk (fun J => hk_stm_1 J ng 3)
            refine jm_lvs (lv' := [(0, _), (1, _), (2, _)]) (jm_sub_c rfl (jm_sub_c rfl (jm_sub_c rfl (jm_sub_0 _)))) ?_
            exact ih44 (m + 1) _ (by omega) (by omega) (by rw [hM]; rfl) hkk.1 (hkk.2.trans (by omega)) hIq
      refine jm_lvs (lv' := [(0, _), (1, _), (2, _)]) (jm_sub_c rfl (jm_sub_c rfl (jm_sub_c rfl (jm_sub_0 _)))) ?_
      exact lp44 _ 0 _ (Nat.lt_succ_self _) (by omega) rfl hck (by omega) hI
    · skip
      exact hT _ _ _ _ _ "java/lang/IllegalStateException" "the hour would be above 9999" 65 136 69 rfl jw_k3.1 jw_k3.2 (by decide) jw_x3 jw_y3 jw_z3 dX5_pass_32 dX5_pass_35 dX5_pass_36 dX5_pass_38 dX5_pass_41 (Nat.le_of_ble_eq_true rfl) (Nat.le_of_ble_eq_true rfl) ⟨Nat.le_of_ble_eq_true rfl, Nat.le_of_ble_eq_true rfl⟩ ⟨Nat.le_of_ble_eq_true rfl, Nat.le_of_ble_eq_true rfl⟩ ⟨rfl, Or.inr ⟨by omega, by omega, rfl⟩⟩
  · skip
    exact hT _ _ _ _ _ "java/lang/IllegalArgumentException" "hours is out of range" 57 73 61 rfl jw_k2.1 jw_k2.2 (by decide) jw_x2 jw_y2 jw_z2 dX5_pass_10 dX5_pass_13 dX5_pass_14 dX5_pass_16 dX5_pass_19 (Nat.le_of_ble_eq_true rfl) (Nat.le_of_ble_eq_true rfl) ⟨Nat.le_of_ble_eq_true rfl, Nat.le_of_ble_eq_true rfl⟩ ⟨Nat.le_of_ble_eq_true rfl, Nat.le_of_ble_eq_true rfl⟩ ⟨rfl, Or.inl ⟨by omega, rfl⟩⟩
