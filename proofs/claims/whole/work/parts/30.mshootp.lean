set_option maxRecDepth 100000 in
set_option maxHeartbeats 4000000 in
theorem kX6_ends (E : jm_E) (w : jm_W) (I : jm_M) (Q : jm_X6 E w) (g : Int) (hg12 : 0 ≤ g ∧ g < 12) (sh fi se p q en : Int) (e1 : I 314 g = sh) (e2 : I 310 g = fi) (e3 : I 311 g = se) (e4 : I 315 (2 * g) = p) (e5 : I 315 (2 * g + 1) = q) (e6 : I 316 g = en) (b1 : 0 ≤ sh ∧ sh < 3) (b2 : 0 ≤ fi ∧ fi < 6) (b3 : 0 ≤ se ∧ se < 6) (bne : fi ≠ se) (b4 : -1000 ≤ p ∧ p ≤ 1000) (b5 : -1000 ≤ q ∧ q ≤ 1000) (b6 : 0 ≤ en ∧ en ≤ 1000) (hwn : ∀ t, 0 ≤ I 321 t ∧ I 321 t ≤ 1000000) : jm_Mv E yX6_ends wX6_ends rmX6_ends 0 0 w I [.ref (w.2.1 300), jm_v g] (fun I' => I' = hk_ends I g (hk_scd (I 325))) := by
  refine jm_in_v (cc := cX6_ends) (maxL := 4) RX6 (by decide +kernel) rfl rfl (Nat.le_of_ble_eq_true rfl) (by simp [Value.category]) ?_
  intro G C hR hI
  subst e1; subst e2; subst e3; subst e4; subst e5; subst e6
  have w1 := hwn (I 310 g)
  have w2 := hwn (I 311 g)
  refine jm_aload_n C dX6_ends_0 rfl ?_
  refine jm_cVd (n := 0) (ci := 6) [] C (kX6_scored E w I Q) jw_m_RX6_122 okX6_scored rfl ⟨rfl, rfl⟩ ⟨Nat.le_of_ble_eq_true rfl, Nat.le_of_ble_eq_true rfl⟩ rfl Q.1.1 Q.1.2 rfl rfl (Nat.le_of_ble_eq_true rfl) dX6_ends_1 ⟨Nat.le_of_ble_eq_true rfl, Nat.le_of_ble_eq_true rfl⟩ (fun yz2 yh1 => ?_)
  subst yh1
  have yh1r : -6 ≤ hk_scd (I 325) ∧ hk_scd (I 325) ≤ 6 := hk_nn_R (I 325) _ _ 6
  refine jm_istore_n C dX6_ends_4 (by decide) ?_
  refine jm_aload_n C dX6_ends_5 rfl ?_
  refine jm_getr (ci := 6) (f := 15) C rfl jw_u_6 Q.1.1 Q.1.2 rfl (by decide) jw_f_RX6_45 dX6_ends_6 ?_
  refine jm_iconst C dX6_ends_9 ?_
  refine jm_iload_n C dX6_ends_10 rfl ?_
  refine jm_imul C dX6_ends_11 ?_
  refine jm_dup2 C dX6_ends_12 rfl rfl ?_
  refine jm_iald C (jm_X6_315 Q).1 rfl (jm_X6_315 Q).2 (by omega) (by omega) (by omega) dX6_ends_13 (fun yr3 => ?_)
  refine jm_iload_n C dX6_ends_14 rfl ?_
  have yj6 : ∀ (yz5 : Int), ((hk_scd (I 325) ≤ 0 ∧ yz5 = 0) ∨ (¬ (hk_scd (I 325) ≤ 0) ∧ yz5 = (hk_scd (I 325)))) → jm_R yz5 → jm_J E G (0, 0) w I 23 [(0, .ref (w.2.1 300)), (1, jm_v g), (2, jm_v (hk_scd (I 325)))] [jm_v yz5, jm_v (I 315 (2 * g)), jm_v (2 * g), .ref (w.2.1 315)] := by
    intro yz5 ye7 ryz5
    refine jm_iadd C dX6_ends_23 ?_
    refine jm_iast C (jm_X6_315 Q).1 rfl (jm_X6_315 Q).2 (by omega) (by omega) (by omega) dX6_ends_24 (by omega) ?_
    refine jm_aload_n C dX6_ends_25 rfl ?_
    refine jm_getr (ci := 6) (f := 15) C rfl jw_u_6 Q.1.1 Q.1.2 rfl (by decide) jw_f_RX6_45 dX6_ends_26 ?_
    refine jm_iconst C dX6_ends_29 ?_
    refine jm_iload_n C dX6_ends_30 rfl ?_
    refine jm_imul C dX6_ends_31 ?_
    refine jm_iconst C dX6_ends_32 ?_
    refine jm_iadd C dX6_ends_33 ?_
    refine jm_dup2 C dX6_ends_34 rfl rfl ?_
    refine jm_ialdv (I 315 ((2 * g) + 1)) (jm_up_n (Or.inr (by omega))) C (jm_X6_315 Q).1 rfl (jm_X6_315 Q).2 (by omega) (by omega) (by omega) dX6_ends_35 (fun yr8 => ?_)
    refine jm_iload_n C dX6_ends_36 rfl ?_
    have yj11 : ∀ (yz10 : Int), ((0 ≤ hk_scd (I 325) ∧ yz10 = 0) ∨ (¬ (0 ≤ hk_scd (I 325)) ∧ yz10 = (hk_scd (I 325)))) → jm_R yz10 → jm_J E G (0, 0) w (jm_up I 315 (2 * g) ((I 315 (2 * g)) + yz5)) 45 [(0, .ref (w.2.1 300)), (1, jm_v g), (2, jm_v (hk_scd (I 325)))] [jm_v yz10, jm_v (I 315 ((2 * g) + 1)), jm_v ((2 * g) + 1), .ref (w.2.1 315)] := by
      intro yz10 ye12 ryz10
      refine jm_isub C dX6_ends_45 ?_
      refine jm_iast C (jm_X6_315 Q).1 rfl (jm_X6_315 Q).2 (by omega) (by omega) (by omega) dX6_ends_46 (by omega) ?_
      refine jm_aload_n C dX6_ends_47 rfl ?_
      refine jm_getr (ci := 6) (f := 18) C rfl jw_u_6 Q.1.1 Q.1.2 rfl (by decide) jw_f_RX6_54 dX6_ends_48 ?_
      refine jm_iload_n C dX6_ends_51 rfl ?_
      refine jm_iload_n C dX6_ends_52 rfl ?_
      have yj15 : ∀ (yz14 : Int), ((hk_scd (I 325) ≤ 0 ∧ 0 ≤ hk_scd (I 325) ∧ yz14 = (I 318 g)) ∨ (hk_scd (I 325) ≤ 0 ∧ ¬ (0 ≤ hk_scd (I 325)) ∧ yz14 = 0) ∨ (¬ (hk_scd (I 325) ≤ 0) ∧ yz14 = 1)) → jm_R yz14 → jm_J E G (0, 0) w (jm_up (jm_up I 315 (2 * g) ((I 315 (2 * g)) + yz5)) 315 ((2 * g) + 1) ((I 315 ((2 * g) + 1)) - yz10)) 74 [(0, .ref (w.2.1 300)), (1, jm_v g)] [jm_v yz14, jm_v g, .ref (w.2.1 318)] := by
        intro yz14 ye16 ryz14
        refine jm_iast C (jm_X6_318 Q).1 rfl (jm_X6_318 Q).2 (by omega) (by omega) (by omega) dX6_ends_74 (by omega) ?_
        refine jm_aload_n C dX6_ends_75 rfl ?_
        refine jm_getr (ci := 6) (f := 16) C rfl jw_u_6 Q.1.1 Q.1.2 rfl (by decide) jw_f_RX6_48 dX6_ends_76 ?_
        refine jm_iload_n C dX6_ends_79 rfl ?_
        refine jm_dup2 C dX6_ends_80 rfl rfl ?_
        refine jm_ialdv (I 316 g) (Eq.trans (jm_up_n (Or.inl (by decide))) (Eq.trans (jm_up_n (Or.inl (by decide))) (jm_up_n (Or.inl (by decide))))) C (jm_X6_316 Q).1 rfl (jm_X6_316 Q).2 (by omega) (by omega) (by omega) dX6_ends_81 (fun yr17 => ?_)
        refine jm_iconst C dX6_ends_82 ?_
        refine jm_iadd C dX6_ends_83 ?_
        refine jm_iast C (jm_X6_316 Q).1 rfl (jm_X6_316 Q).2 (by omega) (by omega) (by omega) dX6_ends_84 (by omega) ?_
        refine jm_aload_n C dX6_ends_85 rfl ?_
        refine jm_getr (ci := 6) (f := 17) C rfl jw_u_6 Q.1.1 Q.1.2 rfl (by decide) jw_f_RX6_51 dX6_ends_86 ?_
        refine jm_iload_n C dX6_ends_89 rfl ?_
        refine jm_iconst C dX6_ends_90 ?_
        refine jm_iast C (jm_X6_317 Q).1 rfl (jm_X6_317 Q).2 (by omega) (by omega) (by omega) dX6_ends_91 (by decide) ?_
        refine jm_iconst C dX6_ends_92 ?_
        refine jm_istore_n C dX6_ends_93 (by decide) ?_
        have lp94 : ∀ (yn94 : Nat) (m : Nat), 6 - m < yn94 → (m ≤ 6) → jm_J E G (0, 0) w (hk_filo (jm_up (jm_up (jm_up (jm_up (jm_up I 315 (2 * g) ((I 315 (2 * g)) + yz5)) 315 ((2 * g) + 1) ((I 315 ((2 * g) + 1)) - yz10)) 318 g yz14) 316 g ((I 316 g) + 1)) 317 g 0) 320 (6 * g) ((m : Nat) : Int) (fun _ => -1)) 94 [(0, .ref (w.2.1 300)), (1, jm_v g), (3, jm_v ((m : Nat) : Int))] [] := by
          intro yn94
          induction yn94 with
          | zero => intro m hlt94 hm; exact absurd hlt94 (Nat.not_lt_zero _)
          | succ yn94 ih94 =>
            intro m hlt94 hm
            refine jm_iload_n C dX6_ends_94 rfl ?_
            refine jm_bipush C dX6_ends_95 (by decide +kernel) ?_
            refine jm_icmp_ge 118 C dX6_ends_97 rfl (by omega) (by decide) (fun yc18 => ?_) (fun yc18 => ?_)
            · skip
              refine jm_aload_n C dX6_ends_118 rfl ?_
              refine jm_getr (ci := 6) (f := 16) C rfl jw_u_6 Q.1.1 Q.1.2 rfl (by decide) jw_f_RX6_48 dX6_ends_119 ?_
              refine jm_iload_n C dX6_ends_122 rfl ?_
              refine jm_ialdv ((I 316 g) + 1) (Eq.trans (hk_filo_o (Or.inl (by decide))) (Eq.trans (jm_up_n (Or.inl (by decide))) (jm_up_s _ _ _ _))) C (jm_X6_316 Q).1 rfl (jm_X6_316 Q).2 (by omega) (by omega) (by omega) dX6_ends_123 (fun yr19 => ?_)
              refine jm_iconst C dX6_ends_124 ?_
              refine jm_icmp_ne 227 C dX6_ends_125 rfl (by omega) (by decide) (fun yc20 => ?_) (fun yc20 => ?_)
              · skip
                exact hR _ _ _ dX6_ends_227 (by
                    have a1 : yz5 = if hk_scd (I 325) ≤ 0 then 0 else hk_scd (I 325) := by split <;> omega
                    have a2 : yz10 = if 0 ≤ hk_scd (I 325) then 0 else hk_scd (I 325) := by split <;> omega
                    have a3 : yz14 = if hk_scd (I 325) ≤ 0 then (if 0 ≤ hk_scd (I 325) then I 318 g else 0) else 1 := by
                      split
                      · split <;> omega
                      · omega
                    unfold hk_ends
                    rw [if_neg (show ¬ I 316 g + 1 = 4 by omega)]
                    unfold hk_en1
                    rw [← a1, ← a2, ← a3, show m = 6 by omega]
                    rfl)
              · skip
                refine jm_aload_n C dX6_ends_128 rfl ?_
                refine jm_getr (ci := 6) (f := 9) C rfl jw_u_6 Q.1.1 Q.1.2 rfl (by decide) jw_f_RX6_27 dX6_ends_129 ?_
                refine jm_iload_n C dX6_ends_132 rfl ?_
                refine jm_iconst C dX6_ends_133 ?_
                refine jm_iast C (jm_X6_309 Q).1 rfl (jm_X6_309 Q).2 (by omega) (by omega) (by omega) dX6_ends_134 (by decide) ?_
                refine jm_aload_n C dX6_ends_135 rfl ?_
                refine jm_getr (ci := 6) (f := 7) C rfl jw_u_6 Q.1.1 Q.1.2 rfl (by decide) jw_f_RX6_24 dX6_ends_136 ?_
                refine jm_aload_n C dX6_ends_139 rfl ?_
                refine jm_getr (ci := 6) (f := 14) C rfl jw_u_6 Q.1.1 Q.1.2 rfl (by decide) jw_f_RX6_42 dX6_ends_140 ?_
                refine jm_iload_n C dX6_ends_143 rfl ?_
                refine jm_ialdv (I 314 g) (Eq.trans (jm_up_n (Or.inl (by decide))) (Eq.trans (hk_filo_o (Or.inl (by decide))) (Eq.trans (jm_up_n (Or.inl (by decide))) (Eq.trans (jm_up_n (Or.inl (by decide))) (Eq.trans (jm_up_n (Or.inl (by decide))) (Eq.trans (jm_up_n (Or.inl (by decide))) (jm_up_n (Or.inl (by decide))))))))) C (jm_X6_314 Q).1 rfl (jm_X6_314 Q).2 (by omega) (by omega) (by omega) dX6_ends_144 (fun yr21 => ?_)
                refine jm_iconst C dX6_ends_145 ?_
                refine jm_iast C (jm_X6_307 Q).1 rfl (jm_X6_307 Q).2 (by omega) (by omega) (by omega) dX6_ends_146 (by decide) ?_
                refine jm_aload_n C dX6_ends_147 rfl ?_
                refine jm_getr (ci := 6) (f := 21) C rfl jw_u_6 Q.1.1 Q.1.2 rfl (by decide) jw_f_RX6_63 dX6_ends_148 ?_
                refine jm_aload_n C dX6_ends_151 rfl ?_
                refine jm_getr (ci := 6) (f := 10) C rfl jw_u_6 Q.1.1 Q.1.2 rfl (by decide) jw_f_RX6_30 dX6_ends_152 ?_
                refine jm_iload_n C dX6_ends_155 rfl ?_
                refine jm_ialdv (I 310 g) (Eq.trans (jm_up_n (Or.inl (by decide))) (Eq.trans (jm_up_n (Or.inl (by decide))) (Eq.trans (hk_filo_o (Or.inl (by decide))) (Eq.trans (jm_up_n (Or.inl (by decide))) (Eq.trans (jm_up_n (Or.inl (by decide))) (Eq.trans (jm_up_n (Or.inl (by decide))) (Eq.trans (jm_up_n (Or.inl (by decide))) (jm_up_n (Or.inl (by decide)))))))))) C (jm_X6_310 Q).1 rfl (jm_X6_310 Q).2 (by omega) (by omega) (by omega) dX6_ends_156 (fun yr22 => ?_)
                refine jm_dup2 C dX6_ends_157 rfl rfl ?_
                refine jm_ialdv (I 321 (I 310 g)) (Eq.trans (jm_up_n (Or.inl (by decide))) (Eq.trans (jm_up_n (Or.inl (by decide))) (Eq.trans (hk_filo_o (Or.inl (by decide))) (Eq.trans (jm_up_n (Or.inl (by decide))) (Eq.trans (jm_up_n (Or.inl (by decide))) (Eq.trans (jm_up_n (Or.inl (by decide))) (Eq.trans (jm_up_n (Or.inl (by decide))) (jm_up_n (Or.inl (by decide)))))))))) C (jm_X6_321 Q).1 rfl (jm_X6_321 Q).2 (by omega) (by omega) (by omega) dX6_ends_158 (fun yr23 => ?_)
                refine jm_aload_n C dX6_ends_159 rfl ?_
                refine jm_getr (ci := 6) (f := 15) C rfl jw_u_6 Q.1.1 Q.1.2 rfl (by decide) jw_f_RX6_45 dX6_ends_160 ?_
                refine jm_iconst C dX6_ends_163 ?_
                refine jm_iload_n C dX6_ends_164 rfl ?_
                refine jm_imul C dX6_ends_165 ?_
                refine jm_ialdv ((I 315 (2 * g)) + yz5) (Eq.trans (jm_up_n (Or.inl (by decide))) (Eq.trans (jm_up_n (Or.inl (by decide))) (Eq.trans (hk_filo_o (Or.inl (by decide))) (Eq.trans (jm_up_n (Or.inl (by decide))) (Eq.trans (jm_up_n (Or.inl (by decide))) (Eq.trans (jm_up_n (Or.inl (by decide))) (Eq.trans (jm_up_n (Or.inr (by omega))) (jm_up_s _ _ _ _)))))))) C (jm_X6_315 Q).1 rfl (jm_X6_315 Q).2 (by omega) (by omega) (by omega) dX6_ends_166 (fun yr24 => ?_)
                refine jm_aload_n C dX6_ends_167 rfl ?_
                refine jm_getr (ci := 6) (f := 15) C rfl jw_u_6 Q.1.1 Q.1.2 rfl (by decide) jw_f_RX6_45 dX6_ends_168 ?_
                refine jm_iconst C dX6_ends_171 ?_
                refine jm_iload_n C dX6_ends_172 rfl ?_
                refine jm_imul C dX6_ends_173 ?_
                refine jm_iconst C dX6_ends_174 ?_
                refine jm_iadd C dX6_ends_175 ?_
                refine jm_ialdv ((I 315 ((2 * g) + 1)) - yz10) (Eq.trans (jm_up_n (Or.inl (by decide))) (Eq.trans (jm_up_n (Or.inl (by decide))) (Eq.trans (hk_filo_o (Or.inl (by decide))) (Eq.trans (jm_up_n (Or.inl (by decide))) (Eq.trans (jm_up_n (Or.inl (by decide))) (Eq.trans (jm_up_n (Or.inl (by decide))) (jm_up_s _ _ _ _))))))) C (jm_X6_315 Q).1 rfl (jm_X6_315 Q).2 (by omega) (by omega) (by omega) dX6_ends_176 (fun yr25 => ?_)
                have yj28 : ∀ (yz27 : Int), (((I 315 (2 * g)) + yz5 ≤ (I 315 ((2 * g) + 1)) - yz10 ∧ yz27 = 0) ∨ (¬ ((I 315 (2 * g)) + yz5 ≤ (I 315 ((2 * g) + 1)) - yz10) ∧ yz27 = 1)) → jm_R yz27 → jm_J E G (0, 0) w (jm_up (jm_up (hk_filo (jm_up (jm_up (jm_up (jm_up (jm_up I 315 (2 * g) ((I 315 (2 * g)) + yz5)) 315 ((2 * g) + 1) ((I 315 ((2 * g) + 1)) - yz10)) 318 g yz14) 316 g ((I 316 g) + 1)) 317 g 0) 320 (6 * g) ((m : Nat) : Int) (fun _ => -1)) 309 g 3) 307 (I 314 g) (-1)) 185 [(0, .ref (w.2.1 300)), (1, jm_v g)] [jm_v yz27, jm_v (I 321 (I 310 g)), jm_v (I 310 g), .ref (w.2.1 321)] := by
                  intro yz27 ye29 ryz27
                  refine jm_iadd C dX6_ends_185 ?_
                  refine jm_iast C (jm_X6_321 Q).1 rfl (jm_X6_321 Q).2 (by omega) (by omega) (by omega) dX6_ends_186 (by omega) ?_
                  refine jm_aload_n C dX6_ends_187 rfl ?_
                  refine jm_getr (ci := 6) (f := 21) C rfl jw_u_6 Q.1.1 Q.1.2 rfl (by decide) jw_f_RX6_63 dX6_ends_188 ?_
                  refine jm_aload_n C dX6_ends_191 rfl ?_
                  refine jm_getr (ci := 6) (f := 11) C rfl jw_u_6 Q.1.1 Q.1.2 rfl (by decide) jw_f_RX6_33 dX6_ends_192 ?_
                  refine jm_iload_n C dX6_ends_195 rfl ?_
                  refine jm_ialdv (I 311 g) (Eq.trans (jm_up_n (Or.inl (by decide))) (Eq.trans (jm_up_n (Or.inl (by decide))) (Eq.trans (jm_up_n (Or.inl (by decide))) (Eq.trans (hk_filo_o (Or.inl (by decide))) (Eq.trans (jm_up_n (Or.inl (by decide))) (Eq.trans (jm_up_n (Or.inl (by decide))) (Eq.trans (jm_up_n (Or.inl (by decide))) (Eq.trans (jm_up_n (Or.inl (by decide))) (jm_up_n (Or.inl (by decide))))))))))) C (jm_X6_311 Q).1 rfl (jm_X6_311 Q).2 (by omega) (by omega) (by omega) dX6_ends_196 (fun yr30 => ?_)
                  refine jm_dup2 C dX6_ends_197 rfl rfl ?_
                  refine jm_ialdv (I 321 (I 311 g)) (Eq.trans (jm_up_n (Or.inr (by omega))) (Eq.trans (jm_up_n (Or.inl (by decide))) (Eq.trans (jm_up_n (Or.inl (by decide))) (Eq.trans (hk_filo_o (Or.inl (by decide))) (Eq.trans (jm_up_n (Or.inl (by decide))) (Eq.trans (jm_up_n (Or.inl (by decide))) (Eq.trans (jm_up_n (Or.inl (by decide))) (Eq.trans (jm_up_n (Or.inl (by decide))) (jm_up_n (Or.inl (by decide))))))))))) C (jm_X6_321 Q).1 rfl (jm_X6_321 Q).2 (by omega) (by omega) (by omega) dX6_ends_198 (fun yr31 => ?_)
                  refine jm_aload_n C dX6_ends_199 rfl ?_
                  refine jm_getr (ci := 6) (f := 15) C rfl jw_u_6 Q.1.1 Q.1.2 rfl (by decide) jw_f_RX6_45 dX6_ends_200 ?_
                  refine jm_iconst C dX6_ends_203 ?_
                  refine jm_iload_n C dX6_ends_204 rfl ?_
                  refine jm_imul C dX6_ends_205 ?_
                  refine jm_ialdv ((I 315 (2 * g)) + yz5) (Eq.trans (jm_up_n (Or.inl (by decide))) (Eq.trans (jm_up_n (Or.inl (by decide))) (Eq.trans (jm_up_n (Or.inl (by decide))) (Eq.trans (hk_filo_o (Or.inl (by decide))) (Eq.trans (jm_up_n (Or.inl (by decide))) (Eq.trans (jm_up_n (Or.inl (by decide))) (Eq.trans (jm_up_n (Or.inl (by decide))) (Eq.trans (jm_up_n (Or.inr (by omega))) (jm_up_s _ _ _ _))))))))) C (jm_X6_315 Q).1 rfl (jm_X6_315 Q).2 (by omega) (by omega) (by omega) dX6_ends_206 (fun yr32 => ?_)
                  refine jm_aload_n C dX6_ends_207 rfl ?_
                  refine jm_getr (ci := 6) (f := 15) C rfl jw_u_6 Q.1.1 Q.1.2 rfl (by decide) jw_f_RX6_45 dX6_ends_208 ?_
                  refine jm_iconst C dX6_ends_211 ?_
                  refine jm_iload_n C dX6_ends_212 rfl ?_
                  refine jm_imul C dX6_ends_213 ?_
                  refine jm_iconst C dX6_ends_214 ?_
                  refine jm_iadd C dX6_ends_215 ?_
                  refine jm_ialdv ((I 315 ((2 * g) + 1)) - yz10) (Eq.trans (jm_up_n (Or.inl (by decide))) (Eq.trans (jm_up_n (Or.inl (by decide))) (Eq.trans (jm_up_n (Or.inl (by decide))) (Eq.trans (hk_filo_o (Or.inl (by decide))) (Eq.trans (jm_up_n (Or.inl (by decide))) (Eq.trans (jm_up_n (Or.inl (by decide))) (Eq.trans (jm_up_n (Or.inl (by decide))) (jm_up_s _ _ _ _)))))))) C (jm_X6_315 Q).1 rfl (jm_X6_315 Q).2 (by omega) (by omega) (by omega) dX6_ends_216 (fun yr33 => ?_)
                  have yj36 : ∀ (yz35 : Int), (((I 315 ((2 * g) + 1)) - yz10 ≤ (I 315 (2 * g)) + yz5 ∧ yz35 = 0) ∨ (¬ ((I 315 ((2 * g) + 1)) - yz10 ≤ (I 315 (2 * g)) + yz5) ∧ yz35 = 1)) → jm_R yz35 → jm_J E G (0, 0) w (jm_up (jm_up (jm_up (hk_filo (jm_up (jm_up (jm_up (jm_up (jm_up I 315 (2 * g) ((I 315 (2 * g)) + yz5)) 315 ((2 * g) + 1) ((I 315 ((2 * g) + 1)) - yz10)) 318 g yz14) 316 g ((I 316 g) + 1)) 317 g 0) 320 (6 * g) ((m : Nat) : Int) (fun _ => -1)) 309 g 3) 307 (I 314 g) (-1)) 321 (I 310 g) ((I 321 (I 310 g)) + yz27)) 225 [] [jm_v yz35, jm_v (I 321 (I 311 g)), jm_v (I 311 g), .ref (w.2.1 321)] := by
                    intro yz35 ye37 ryz35
                    refine jm_iadd C dX6_ends_225 ?_
                    refine jm_iast C (jm_X6_321 Q).1 rfl (jm_X6_321 Q).2 (by omega) (by omega) (by omega) dX6_ends_226 (by omega) ?_
                    exact hR _ _ _ dX6_ends_227 (by
                        have a1 : yz5 = if hk_scd (I 325) ≤ 0 then 0 else hk_scd (I 325) := by split <;> omega
                        have a2 : yz10 = if 0 ≤ hk_scd (I 325) then 0 else hk_scd (I 325) := by split <;> omega
                        have a3 : yz14 = if hk_scd (I 325) ≤ 0 then (if 0 ≤ hk_scd (I 325) then I 318 g else 0) else 1 := by
                          split
                          · split <;> omega
                          · omega
                        have a4 : yz27 = if I 315 (2 * g) + yz5 ≤ I 315 (2 * g + 1) - yz10 then 0 else 1 := by split <;> omega
                        have a5 : yz35 = if I 315 (2 * g + 1) - yz10 ≤ I 315 (2 * g) + yz5 then 0 else 1 := by split <;> omega
                        unfold hk_ends
                        rw [if_pos (show I 316 g + 1 = 4 by omega)]
                        unfold hk_en2 hk_en1
                        rw [← a1, ← a2, ← a3, ← a4, ← a5, show m = 6 by omega]
                        rfl)
                  refine jm_icmp_ge 224 C dX6_ends_217 rfl (by omega) (by omega) (fun yc34 => ?_) (fun yc34 => ?_)
                  · skip
                    refine jm_iconst C dX6_ends_224 ?_
                    refine jm_lvs (lv' := []) (jm_sub_0 _) ?_
                    exact yj36 _ (Or.inl ⟨yc34, rfl⟩) (by decide)
                  · skip
                    refine jm_iconst C dX6_ends_220 ?_
                    refine jm_goto 225 C dX6_ends_221 rfl ?_
                    refine jm_lvs (lv' := []) (jm_sub_0 _) ?_
                    exact yj36 _ (Or.inr ⟨yc34, rfl⟩) (by decide)
                refine jm_icmp_le 184 C dX6_ends_177 rfl (by omega) (by omega) (fun yc26 => ?_) (fun yc26 => ?_)
                · skip
                  refine jm_iconst C dX6_ends_184 ?_
                  refine jm_lvs (lv' := [(0, _), (1, _)]) (jm_sub_c rfl (jm_sub_c rfl (jm_sub_0 _))) ?_
                  exact yj28 _ (Or.inl ⟨yc26, rfl⟩) (by decide)
                · skip
                  refine jm_iconst C dX6_ends_180 ?_
                  refine jm_goto 185 C dX6_ends_181 rfl ?_
                  refine jm_lvs (lv' := [(0, _), (1, _)]) (jm_sub_c rfl (jm_sub_c rfl (jm_sub_0 _))) ?_
                  exact yj28 _ (Or.inr ⟨yc26, rfl⟩) (by decide)
            · skip
              refine jm_aload_n C dX6_ends_100 rfl ?_
              refine jm_getr (ci := 6) (f := 20) C rfl jw_u_6 Q.1.1 Q.1.2 rfl (by decide) jw_f_RX6_60 dX6_ends_101 ?_
              refine jm_bipush C dX6_ends_104 (by decide +kernel) ?_
              refine jm_iload_n C dX6_ends_106 rfl ?_
              refine jm_imul C dX6_ends_107 ?_
              refine jm_iload_n C dX6_ends_108 rfl ?_
              refine jm_iadd C dX6_ends_109 ?_
              refine jm_iconst C dX6_ends_110 ?_
              refine jm_iast C (jm_X6_320 Q).1 rfl (jm_X6_320 Q).2 (by omega) (by omega) (by omega) dX6_ends_111 (by decide) ?_
              refine jm_iinc C dX6_ends_112 (by decide) rfl ?_
              refine jm_goto 94 C dX6_ends_115 rfl ?_
              refine jm_mq (hk_filo_s _ 320 (6 * g) m (fun _ => -1) _ rfl).symm ?_
              refine jm_lvs (lv' := [(0, _), (1, _), (3, _)]) (jm_sub_c rfl (jm_sub_c rfl (jm_sub_c rfl (jm_sub_0 _)))) ?_
              exact ih94 (m + 1) (by omega) (by omega)
        refine jm_mq (hk_filo_0 _ 320 (6 * g) (fun _ => -1)) ?_
        refine jm_lvs (lv' := [(0, _), (1, _), (3, _)]) (jm_sub_c rfl (jm_sub_c rfl (jm_sub_c rfl (jm_sub_0 _)))) ?_
        exact lp94 _ 0 (Nat.lt_succ_self _) (Nat.zero_le _)
      refine jm_if_le 60 C dX6_ends_53 rfl (by omega) (fun yc13 => ?_) (fun yc13 => ?_)
      · skip
        refine jm_iload_n C dX6_ends_60 rfl ?_
        refine jm_if_ge 68 C dX6_ends_61 rfl (by omega) (fun yc38 => ?_) (fun yc38 => ?_)
        · skip
          refine jm_aload_n C dX6_ends_68 rfl ?_
          refine jm_getr (ci := 6) (f := 18) C rfl jw_u_6 Q.1.1 Q.1.2 rfl (by decide) jw_f_RX6_54 dX6_ends_69 ?_
          refine jm_iload_n C dX6_ends_72 rfl ?_
          refine jm_ialdv (I 318 g) (Eq.trans (jm_up_n (Or.inl (by decide))) (jm_up_n (Or.inl (by decide)))) C (jm_X6_318 Q).1 rfl (jm_X6_318 Q).2 (by omega) (by omega) (by omega) dX6_ends_73 (fun yr39 => ?_)
          refine jm_lvs (lv' := [(0, _), (1, _)]) (jm_sub_c rfl (jm_sub_c rfl (jm_sub_0 _))) ?_
          exact yj15 _ (Or.inl ⟨yc13, yc38, rfl⟩) (by omega)
        · skip
          refine jm_iconst C dX6_ends_64 ?_
          refine jm_goto 74 C dX6_ends_65 rfl ?_
          refine jm_lvs (lv' := [(0, _), (1, _)]) (jm_sub_c rfl (jm_sub_c rfl (jm_sub_0 _))) ?_
          exact yj15 _ (Or.inr (Or.inl ⟨yc13, yc38, rfl⟩)) (by decide)
      · skip
        refine jm_iconst C dX6_ends_56 ?_
        refine jm_goto 74 C dX6_ends_57 rfl ?_
        refine jm_lvs (lv' := [(0, _), (1, _)]) (jm_sub_c rfl (jm_sub_c rfl (jm_sub_0 _))) ?_
        exact yj15 _ (Or.inr (Or.inr ⟨yc13, rfl⟩)) (by decide)
    refine jm_if_ge 44 C dX6_ends_37 rfl (by omega) (fun yc9 => ?_) (fun yc9 => ?_)
    · skip
      refine jm_iconst C dX6_ends_44 ?_
      refine jm_lvs (lv' := [(0, _), (1, _), (2, _)]) (jm_sub_c rfl (jm_sub_c rfl (jm_sub_c rfl (jm_sub_0 _)))) ?_
      exact yj11 _ (Or.inl ⟨yc9, rfl⟩) (by decide)
    · skip
      refine jm_iload_n C dX6_ends_40 rfl ?_
      refine jm_goto 45 C dX6_ends_41 rfl ?_
      refine jm_lvs (lv' := [(0, _), (1, _), (2, _)]) (jm_sub_c rfl (jm_sub_c rfl (jm_sub_c rfl (jm_sub_0 _)))) ?_
      exact yj11 _ (Or.inr ⟨yc9, rfl⟩) (by omega)
  refine jm_if_le 22 C dX6_ends_15 rfl (by omega) (fun yc4 => ?_) (fun yc4 => ?_)
  · skip
    refine jm_iconst C dX6_ends_22 ?_
    refine jm_lvs (lv' := [(0, _), (1, _), (2, _)]) (jm_sub_c rfl (jm_sub_c rfl (jm_sub_c rfl (jm_sub_0 _)))) ?_
    exact yj6 _ (Or.inl ⟨yc4, rfl⟩) (by decide)
  · skip
    refine jm_iload_n C dX6_ends_18 rfl ?_
    refine jm_goto 23 C dX6_ends_19 rfl ?_
    refine jm_lvs (lv' := [(0, _), (1, _), (2, _)]) (jm_sub_c rfl (jm_sub_c rfl (jm_sub_c rfl (jm_sub_0 _)))) ?_
    exact yj6 _ (Or.inr ⟨yc4, rfl⟩) (by omega)
set_option maxRecDepth 100000 in
set_option maxHeartbeats 4000000 in
theorem kX6_shoot (E : jm_E) (w : jm_W) (I : jm_M) (Q : jm_X6 E w) (hg8 : 0 ≤ I 300 8 ∧ I 300 8 ≤ 12) (g lane wt tn lo hi : Int) (g1 : jm_R g) (g2 : jm_R lane) (g3 : jm_R wt) (g4 : jm_R tn) (g5 : jm_R lo) (g6 : jm_R hi) (hpl : ∀ i, 0 ≤ i → i < I 300 8 → I 309 i = 1 ∨ I 309 i = 2 → (0 ≤ I 314 i ∧ I 314 i < 3) ∧ (0 ≤ hk_mslot I i ∧ hk_mslot I i < 6) ∧ hk_w9 (hk_tku I i 324) ∧ hk_good (hk_tku I i 325) ∧ (0 ≤ I 317 i ∧ I 317 i ≤ 5) ∧ (0 ≤ I 310 i ∧ I 310 i < 6) ∧ (0 ≤ I 311 i ∧ I 311 i < 6) ∧ I 310 i ≠ I 311 i ∧ (-1000 ≤ I 315 (2 * i) ∧ I 315 (2 * i) ≤ 1000) ∧ (-1000 ≤ I 315 (2 * i + 1) ∧ I 315 (2 * i + 1) ≤ 1000) ∧ (0 ≤ I 316 i ∧ I 316 i ≤ 1000)) (hwn : ∀ t, 0 ≤ I 321 t ∧ I 321 t ≤ 1000000) (hdr : ∀ t, 0 ≤ I 322 t ∧ I 322 t ≤ 1000000) (hla : ∀ t, 0 ≤ I 323 t ∧ I 323 t ≤ 1000000) : jm_Mi E yX6_shoot wX6_shoot rmX6_shoot 0 0 w I [.ref (w.2.1 300), jm_v g, jm_v lane, jm_v wt, jm_v tn, jm_v lo, jm_v hi] (fun I' z => hk_cd I' (0 ≤ g ∧ g < I 300 8) (hk_shot lane wt tn lo hi) (I 309 g = 1 ∨ I 309 g = 2) ∧ ((0 ≤ g ∧ g < I 300 8) → hk_shot lane wt tn lo hi → (I 309 g = 1 ∨ I 309 g = 2) → I' = hk_msh I (hk_mth (jm_up I 300 0 0) (hk_mch 7 (hk_tku I g 324) (hk_tku I g 325) (hk_mslot I g) lane 0 (10 * wt) tn lo hi)) g ∧ z = (hk_mch 7 (hk_tku I g 324) (hk_tku I g 325) (hk_mslot I g) lane 0 (10 * wt) tn lo hi).2 (hk_mslot I g)) ∧ (¬ ((0 ≤ g ∧ g < I 300 8) ∧ (hk_shot lane wt tn lo hi) ∧ (I 309 g = 1 ∨ I 309 g = 2)) → hk_wk I I')) := by
  refine jm_in_i (cc := cX6_shoot) (maxL := 12) (rt := .int) RX6 (by decide +kernel) rfl rfl (Nat.le_of_ble_eq_true rfl) (by simp [Value.category]) ?_
  intro G C hR hI
  refine jm_aload_n C dX6_shoot_0 rfl ?_
  refine jm_iload_n C dX6_shoot_1 rfl ?_
  refine jm_cVd (n := 1) (ci := 6) [] C (kX6_isGame E w I Q _ g1 hg8) jw_m_RX6_126 okX6_isGame rfl ⟨rfl, rfl⟩ ⟨Nat.le_of_ble_eq_true rfl, Nat.le_of_ble_eq_true rfl⟩ rfl Q.1.1 Q.1.2 rfl rfl (Nat.le_of_ble_eq_true rfl) dX6_shoot_2 ⟨Nat.le_of_ble_eq_true rfl, Nat.le_of_ble_eq_true rfl⟩ (fun yz2 yh1 => ?_)
  refine jm_istore C dX6_shoot_5 (by decide) ?_
  refine jm_aload_n C dX6_shoot_7 rfl ?_
  refine jm_iload C dX6_shoot_8 rfl ?_
  refine jm_iload_n C dX6_shoot_10 rfl ?_
  refine jm_iload_n C dX6_shoot_11 rfl ?_
  refine jm_iload C dX6_shoot_12 rfl ?_
  refine jm_iload C dX6_shoot_14 rfl ?_
  refine jm_iload C dX6_shoot_16 rfl ?_
  refine jm_cSd (n := 5) [jm_v yz2, .ref (w.2.1 300)] C (kX6_isShot E w I _ _ _ _ _ g2 g3 g4 g5 g6) jw_m_RX6_129 okX6_isShot rfl ⟨rfl, rfl⟩ ⟨Nat.le_of_ble_eq_true rfl, Nat.le_of_ble_eq_true rfl⟩ rfl rfl (Nat.le_of_ble_eq_true rfl) dX6_shoot_18 ⟨Nat.le_of_ble_eq_true rfl, Nat.le_of_ble_eq_true rfl⟩ (fun yz4 yh3 => ?_)
  refine jm_iload C dX6_shoot_21 rfl ?_
  refine jm_if_eq 38 C dX6_shoot_23 rfl (by omega) (fun yc5 => ?_) (fun yc5 => ?_)
  · skip
    refine jm_iconst C dX6_shoot_38 ?_
    refine jm_cVd (n := 3) (ci := 6) [] C (kX6_asked__ E w I Q _ _ _ (by omega) (by omega) (by omega)) jw_m_RX6_104 okX6_asked__ rfl ⟨rfl, rfl⟩ ⟨Nat.le_of_ble_eq_true rfl, Nat.le_of_ble_eq_true rfl⟩ rfl Q.1.1 Q.1.2 rfl rfl (Nat.le_of_ble_eq_true rfl) dX6_shoot_39 ⟨Nat.le_of_ble_eq_true rfl, Nat.le_of_ble_eq_true rfl⟩ (fun yz7 yh6 => ?_)
    refine jm_if_ne 47 C dX6_shoot_42 rfl (by omega) (fun yc8 => ?_) (fun yc8 => ?_)
    · skip
      exact absurd yc8 (by omega)
    · skip
      refine jm_iconst C dX6_shoot_45 ?_
      exact hR _ _ _ _ dX6_shoot_46 rfl ⟨hk_cd3 (jm_up_s _ _ _ _) (by omega) (fun _ => yh3) (by omega), fun q1 q2 q3 => by
          exfalso
          rcases yh3 with ⟨_, e⟩ | ⟨e, _⟩
          · omega
          · exact e q2, fun _ => hk_wk_0 _ _⟩
  · skip
    refine jm_aload_n C dX6_shoot_26 rfl ?_
    refine jm_iload_n C dX6_shoot_27 rfl ?_
    refine jm_cVd (n := 1) (ci := 6) [jm_v yz4, jm_v yz2, .ref (w.2.1 300)] C (kX6_throwsAt E w I Q _ (by omega)) jw_m_RX6_133 okX6_throwsAt rfl ⟨rfl, rfl⟩ ⟨Nat.le_of_ble_eq_true rfl, Nat.le_of_ble_eq_true rfl⟩ rfl Q.1.1 Q.1.2 rfl rfl (Nat.le_of_ble_eq_true rfl) dX6_shoot_28 ⟨Nat.le_of_ble_eq_true rfl, Nat.le_of_ble_eq_true rfl⟩ (fun yz10 yh9 => ?_)
    refine jm_if_eq 38 C dX6_shoot_31 rfl (by omega) (fun yc11 => ?_) (fun yc11 => ?_)
    · skip
      refine jm_iconst C dX6_shoot_38 ?_
      refine jm_cVd (n := 3) (ci := 6) [] C (kX6_asked__ E w I Q _ _ _ (by omega) (by omega) (by omega)) jw_m_RX6_104 okX6_asked__ rfl ⟨rfl, rfl⟩ ⟨Nat.le_of_ble_eq_true rfl, Nat.le_of_ble_eq_true rfl⟩ rfl Q.1.1 Q.1.2 rfl rfl (Nat.le_of_ble_eq_true rfl) dX6_shoot_39 ⟨Nat.le_of_ble_eq_true rfl, Nat.le_of_ble_eq_true rfl⟩ (fun yz13 yh12 => ?_)
      refine jm_if_ne 47 C dX6_shoot_42 rfl (by omega) (fun yc14 => ?_) (fun yc14 => ?_)
      · skip
        exact absurd yc14 (by omega)
      · skip
        refine jm_iconst C dX6_shoot_45 ?_
        exact hR _ _ _ _ dX6_shoot_46 rfl ⟨hk_cd3 (jm_up_s _ _ _ _) (by omega) (fun _ => yh3) (by omega), fun q1 q2 q3 => by
            exfalso
            rcases yh3 with ⟨_, e⟩ | ⟨e, _⟩
            · omega
            · exact e q2, fun _ => hk_wk_0 _ _⟩
    · skip
      refine jm_iconst C dX6_shoot_34 ?_
      refine jm_goto 39 C dX6_shoot_35 rfl ?_
      refine jm_cVd (n := 3) (ci := 6) [] C (kX6_asked__ E w I Q _ _ _ (by omega) (by omega) (by omega)) jw_m_RX6_104 okX6_asked__ rfl ⟨rfl, rfl⟩ ⟨Nat.le_of_ble_eq_true rfl, Nat.le_of_ble_eq_true rfl⟩ rfl Q.1.1 Q.1.2 rfl rfl (Nat.le_of_ble_eq_true rfl) dX6_shoot_39 ⟨Nat.le_of_ble_eq_true rfl, Nat.le_of_ble_eq_true rfl⟩ (fun yz16 yh15 => ?_)
      refine jm_if_ne 47 C dX6_shoot_42 rfl (by omega) (fun yc17 => ?_) (fun yc17 => ?_)
      · skip
        have hgi : 0 ≤ g ∧ g < I 300 8 := by omega
        have htt : I 309 g = 1 ∨ I 309 g = 2 := by omega
        have hst0 : hk_shot lane wt tn lo hi := by
          rcases yh3 with ⟨h, _⟩ | ⟨_, e⟩
          · exact h
          · exfalso; omega
        have hst := hst0
        unfold hk_shot at hst
        obtain ⟨p1, p2, p3, p4, p5, p6, p7, p8, p9, p10, p11⟩ := hpl g hgi.1 hgi.2 htt
        have w1 := hwn (I 310 g)
        have w2 := hwn (I 311 g)
        have v1 := hdr (I 310 g)
        have v2 := hdr (I 311 g)
        have u1 := hla (I 310 g)
        have u2 := hla (I 311 g)
        obtain ⟨J, hJ⟩ : ∃ X, X = jm_up I 300 0 (if (yz2 : Int) = 0 then 1 else if (yz4 : Int) = 0 then 2 else if (1 : Int) = 0 then 3 else 0) := ⟨_, rfl⟩
        rw [← hJ]
        have hJn : ∀ a, a ≠ 300 → J a = I a := fun a ha => by rw [hJ]; funext b; exact jm_up_n (Or.inl ha)
        have hJ0 : hk_cd J (0 ≤ g ∧ g < I 300 8) (hk_shot lane wt tn lo hi) (I 309 g = 1 ∨ I 309 g = 2) := hk_cd3 (by rw [hJ]; exact jm_up_s _ _ _ _) (by omega) (fun _ => yh3) (by omega)
        have hJw : hk_wk I J := by rw [hJ]; exact hk_wk_0 _ _
        have hJ14 : J 314 g = I 314 g := congrFun (hJn 314 (by decide)) g
        have hJt : hk_tku J g 324 = hk_tku I g 324 := hk_tku_4 (hJn 305 (by decide)) hJ14 (hJn 324 (by decide))
        have hJu : hk_tku J g 325 = hk_tku I g 325 := hk_tku_5 (hJn 320 (by decide)) (hJn 325 (by decide))
        have hJs : hk_mslot J g = hk_mslot I g := hk_mslot_c (hJn 309 (by decide)) (hJn 317 (by decide)) (hJn 318 (by decide))
        have hJz : J = jm_up I 300 0 0 := by rw [hJ]; congr 1; rw [if_neg (by omega), if_neg (by omega), if_neg (by omega)]
        refine jm_aload_n C dX6_shoot_47 rfl ?_
        refine jm_iload_n C dX6_shoot_48 rfl ?_
        refine jm_cVu (n := 1) (ci := 6) [] C (kX6_takesUp E w J Q _ (by omega) (by omega)) jw_m_RX6_136 okX6_takesUp rfl ⟨rfl, rfl⟩ ⟨Nat.le_of_ble_eq_true rfl, Nat.le_of_ble_eq_true rfl⟩ rfl Q.1.1 Q.1.2 rfl rfl (Nat.le_of_ble_eq_true rfl) dX6_shoot_49 ⟨Nat.le_of_ble_eq_true rfl, Nat.le_of_ble_eq_true rfl⟩ ?_
        refine jm_aload_n C dX6_shoot_52 rfl ?_
        refine jm_iload_n C dX6_shoot_53 rfl ?_
        refine jm_cVd (n := 1) (ci := 6) [] C (kX6_slotOf E w (hk_tku J g) Q _ (by omega)) jw_m_RX6_140 okX6_slotOf rfl ⟨rfl, rfl⟩ ⟨Nat.le_of_ble_eq_true rfl, Nat.le_of_ble_eq_true rfl⟩ rfl Q.1.1 Q.1.2 rfl rfl (Nat.le_of_ble_eq_true rfl) dX6_shoot_54 ⟨Nat.le_of_ble_eq_true rfl, Nat.le_of_ble_eq_true rfl⟩ (fun yz21 yh20 => ?_)
        rw [hk_mslot_c (I := J) (hk_tku_f (by decide) (by decide)) (hk_tku_f (by decide) (by decide)) (hk_tku_f (by decide) (by decide)), hJs] at yh20
        subst yh20
        refine jm_istore C dX6_shoot_57 (by decide) ?_
        refine jm_aload_n C dX6_shoot_59 rfl ?_
        refine jm_iload C dX6_shoot_60 rfl ?_
        refine jm_iload_n C dX6_shoot_62 rfl ?_
        refine jm_iload_n C dX6_shoot_63 rfl ?_
        refine jm_iload C dX6_shoot_64 rfl ?_
        refine jm_iload C dX6_shoot_66 rfl ?_
        refine jm_iload C dX6_shoot_68 rfl ?_
        refine jm_cVv (n := 6) (ci := 6) [] C (kX6_goes E w (hk_tku J g) Q _ _ _ _ _ _ (by omega) (by omega) (by omega) (by omega) (by omega) (by omega) (by rw [hJt]; exact p3) (by rw [hJu]; exact p4)) jw_m_RX6_143 okX6_goes rfl ⟨rfl, rfl⟩ ⟨Nat.le_of_ble_eq_true rfl, Nat.le_of_ble_eq_true rfl⟩ rfl Q.1.1 Q.1.2 rfl rfl (Nat.le_of_ble_eq_true rfl) dX6_shoot_70 ⟨Nat.le_of_ble_eq_true rfl, Nat.le_of_ble_eq_true rfl⟩ (fun yI24 yh22 => ?_)
        obtain ⟨gg1, gg2, gg3, gg4, gg5⟩ := yh22
        rw [hJt, hJu] at gg2 gg3
        obtain ⟨M, hM⟩ : ∃ X, X = yI24 := ⟨_, rfl⟩
        rw [← hM] at gg1 gg2 gg3 gg4 gg5 ⊢
        have hMJ : ∀ a, a ≠ 324 → a ≠ 325 → M a = J a := fun a q1 q2 => (gg1 a q1 q2).trans (hk_tku_f q1 q2)
        have htm : 0 ≤ (I 317 g + 1).tmod 2 ∧ (I 317 g + 1).tmod 2 ≤ 1 := by rw [Int.tmod_eq_emod_of_nonneg (by omega)]; omega
        have hMe : M = hk_mth (jm_up I 300 0 0) (hk_mch 7 (hk_tku I g 324) (hk_tku I g 325) (hk_mslot I g) lane 0 (10 * wt) tn lo hi) := by rw [← hJz]; exact hk_mth_e hMJ gg2 gg3
        refine jm_iconst C dX6_shoot_73 ?_
        refine jm_istore C dX6_shoot_74 (by decide) ?_
        have lp76 : ∀ (yn76 : Nat) (m : Nat), 549 - m < yn76 → (m ≤ 549) → jm_J E G (0, 0) w (hk_filo M 305 (549 * (I 314 g)) ((m : Nat) : Int) (M 324)) 76 [(0, .ref (w.2.1 300)), (1, jm_v g), (8, jm_v (hk_mslot I g)), (9, jm_v ((m : Nat) : Int))] [] := by
          intro yn76
          induction yn76 with
          | zero => intro m hlt76 hm; exact absurd hlt76 (Nat.not_lt_zero _)
          | succ yn76 ih76 =>
            intro m hlt76 hm
            refine jm_iload C dX6_shoot_76 rfl ?_
            refine jm_sipush C dX6_shoot_78 (by decide +kernel) ?_
            refine jm_icmp_ge 115 C dX6_shoot_81 rfl (by omega) (by decide) (fun yc25 => ?_) (fun yc25 => ?_)
            · skip
              refine jm_aload_n C dX6_shoot_115 rfl ?_
              refine jm_getr (ci := 6) (f := 25) C rfl jw_u_6 Q.1.1 Q.1.2 rfl (by decide) jw_f_RX6_75 dX6_shoot_116 ?_
              refine jm_iload C dX6_shoot_119 rfl ?_
              refine jm_ialdv (M 325 (hk_mslot I g)) (hk_filo_o (Or.inl (by decide))) C (jm_X6_325 Q).1 rfl (jm_X6_325 Q).2 (by omega) (by omega) (by omega) dX6_shoot_121 (fun yr26 => ?_)
              refine jm_istore C dX6_shoot_122 (by decide) ?_
              refine jm_aload_n C dX6_shoot_124 rfl ?_
              refine jm_iload_n C dX6_shoot_125 rfl ?_
              refine jm_cVd (n := 1) (ci := 6) [] C (kX6_turnOf E w (hk_filo M 305 (549 * (I 314 g)) ((m : Nat) : Int) (M 324)) Q _ (by omega)) jw_m_RX6_119 okX6_turnOf rfl ⟨rfl, rfl⟩ ⟨Nat.le_of_ble_eq_true rfl, Nat.le_of_ble_eq_true rfl⟩ rfl Q.1.1 Q.1.2 rfl rfl (Nat.le_of_ble_eq_true rfl) dX6_shoot_126 ⟨Nat.le_of_ble_eq_true rfl, Nat.le_of_ble_eq_true rfl⟩ (fun yz28 yh27 => ?_)
              rw [hk_mturn_c (I := I) (by funext b; exact (Eq.trans (hk_filo_o (Or.inl (by decide))) (Eq.trans (congrFun (hMJ 309 (by decide) (by decide)) _) (congrFun (hJn 309 (by decide)) _)))) (by funext b; exact (Eq.trans (hk_filo_o (Or.inl (by decide))) (Eq.trans (congrFun (hMJ 317 (by decide) (by decide)) _) (congrFun (hJn 317 (by decide)) _)))) (by funext b; exact (Eq.trans (hk_filo_o (Or.inl (by decide))) (Eq.trans (congrFun (hMJ 318 (by decide) (by decide)) _) (congrFun (hJn 318 (by decide)) _))))] at yh27
              have yh27r : -100 ≤ hk_mturn I g ∧ hk_mturn I g ≤ 100 := hk_mturn_r p2 (by omega)
              subst yh27
              refine jm_if_ne 141 C dX6_shoot_129 rfl (by omega) (fun yc29 => ?_) (fun yc29 => ?_)
              · skip
                refine jm_aload_n C dX6_shoot_141 rfl ?_
                refine jm_getr (ci := 6) (f := 11) C rfl jw_u_6 Q.1.1 Q.1.2 rfl (by decide) jw_f_RX6_33 dX6_shoot_142 ?_
                refine jm_iload_n C dX6_shoot_145 rfl ?_
                refine jm_ialdv (I 311 g) (Eq.trans (hk_filo_o (Or.inl (by decide))) (Eq.trans (congrFun (hMJ 311 (by decide) (by decide)) _) (congrFun (hJn 311 (by decide)) _))) C (jm_X6_311 Q).1 rfl (jm_X6_311 Q).2 (by omega) (by omega) (by omega) dX6_shoot_146 (fun yr30 => ?_)
                refine jm_istore C dX6_shoot_147 (by decide) ?_
                refine jm_aload_n C dX6_shoot_149 rfl ?_
                refine jm_getr (ci := 6) (f := 17) C rfl jw_u_6 Q.1.1 Q.1.2 rfl (by decide) jw_f_RX6_51 dX6_shoot_150 ?_
                refine jm_iload_n C dX6_shoot_153 rfl ?_
                refine jm_dup2 C dX6_shoot_154 rfl rfl ?_
                refine jm_ialdv (I 317 g) (Eq.trans (hk_filo_o (Or.inl (by decide))) (Eq.trans (congrFun (hMJ 317 (by decide) (by decide)) _) (congrFun (hJn 317 (by decide)) _))) C (jm_X6_317 Q).1 rfl (jm_X6_317 Q).2 (by omega) (by omega) (by omega) dX6_shoot_155 (fun yr31 => ?_)
                refine jm_iconst C dX6_shoot_156 ?_
                refine jm_iadd C dX6_shoot_157 ?_
                refine jm_iast C (jm_X6_317 Q).1 rfl (jm_X6_317 Q).2 (by omega) (by omega) (by omega) dX6_shoot_158 (by omega) ?_
                refine jm_aload_n C dX6_shoot_159 rfl ?_
                refine jm_getr (ci := 6) (f := 9) C rfl jw_u_6 Q.1.1 Q.1.2 rfl (by decide) jw_f_RX6_27 dX6_shoot_160 ?_
                refine jm_iload_n C dX6_shoot_163 rfl ?_
                refine jm_ialdv (I 309 g) (Eq.trans (jm_up_n (Or.inl (by decide))) (Eq.trans (hk_filo_o (Or.inl (by decide))) (Eq.trans (congrFun (hMJ 309 (by decide) (by decide)) _) (congrFun (hJn 309 (by decide)) _)))) C (jm_X6_309 Q).1 rfl (jm_X6_309 Q).2 (by omega) (by omega) (by omega) dX6_shoot_164 (fun yr32 => ?_)
                refine jm_iconst C dX6_shoot_165 ?_
                refine jm_icmp_ne 292 C dX6_shoot_166 rfl (by omega) (by decide) (fun yc33 => ?_) (fun yc33 => ?_)
                · skip
                  refine jm_iconst C dX6_shoot_292 ?_
                  refine jm_istore C dX6_shoot_293 (by decide) ?_
                  have lp295 : ∀ (yn295 : Nat) (m2 : Nat), 6 - m2 < yn295 → (m2 ≤ 6) → jm_J E G (0, 0) w (hk_filo (jm_up (hk_filo M 305 (549 * (I 314 g)) ((m : Nat) : Int) (M 324)) 317 g ((I 317 g) + 1)) 320 (6 * g) ((m2 : Nat) : Int) (M 325)) 295 [(0, .ref (w.2.1 300)), (1, jm_v g), (9, jm_v (M 325 (hk_mslot I g))), (11, jm_v ((m2 : Nat) : Int))] [] := by
                    intro yn295
                    induction yn295 with
                    | zero => intro m2 hlt295 hm; exact absurd hlt295 (Nat.not_lt_zero _)
                    | succ yn295 ih295 =>
                      intro m2 hlt295 hm
                      refine jm_iload C dX6_shoot_295 rfl ?_
                      refine jm_bipush C dX6_shoot_297 (by decide +kernel) ?_
                      refine jm_icmp_ge 327 C dX6_shoot_299 rfl (by omega) (by decide) (fun yc34 => ?_) (fun yc34 => ?_)
                      · skip
                        refine jm_aload_n C dX6_shoot_327 rfl ?_
                        refine jm_getr (ci := 6) (f := 17) C rfl jw_u_6 Q.1.1 Q.1.2 rfl (by decide) jw_f_RX6_51 dX6_shoot_328 ?_
                        refine jm_iload_n C dX6_shoot_331 rfl ?_
                        refine jm_ialdv ((I 317 g) + 1) (Eq.trans (hk_filo_o (Or.inl (by decide))) (jm_up_s _ _ _ _)) C (jm_X6_317 Q).1 rfl (jm_X6_317 Q).2 (by omega) (by omega) (by omega) dX6_shoot_332 (fun yr35 => ?_)
                        refine jm_bipush C dX6_shoot_333 (by decide +kernel) ?_
                        refine jm_icmp_ne 343 C dX6_shoot_335 rfl (by omega) (by decide) (fun yc36 => ?_) (fun yc36 => ?_)
                        · skip
                          refine jm_iload C dX6_shoot_343 rfl ?_
                          exact hR _ _ _ _ dX6_shoot_345 rfl ⟨Or.inl ⟨hgi, hst0, htt, Eq.trans (Eq.trans (hk_filo_o (Or.inl (by decide))) (Eq.trans (jm_up_n (Or.inl (by decide))) (hk_filo_o (Or.inl (by decide))))) (by rw [hMJ 300 (by decide) (by decide), hJz]; exact jm_up_s _ _ _ _)⟩, fun _ _ _ => ⟨by
                              rw [← hMe]
                              unfold hk_msh
                              rw [if_neg (show ¬ I 309 g = 1 by omega)]
                              first | rw [if_pos (show I 317 g + 1 = 6 by omega)] | rw [if_neg (show ¬ I 317 g + 1 = 6 by omega)]
                              unfold hk_msP hk_msA
                              rw [show m = 549 by omega, show m2 = 6 by omega]
                              rfl, by rw [gg3]⟩, fun q => absurd ⟨hgi, hst0, htt⟩ q⟩
                        · skip
                          refine jm_aload_n C dX6_shoot_338 rfl ?_
                          refine jm_iload_n C dX6_shoot_339 rfl ?_
                          refine jm_cVu (n := 1) (ci := 6) [] C (kX6_ends E w (hk_filo (jm_up (hk_filo M 305 (549 * (I 314 g)) ((m : Nat) : Int) (M 324)) 317 g ((I 317 g) + 1)) 320 (6 * g) ((m2 : Nat) : Int) (M 325)) Q _ (by omega) (I 314 g) (I 310 g) (I 311 g) (I 315 (2 * g)) (I 315 (2 * g + 1)) (I 316 g) (Eq.trans (hk_filo_o (Or.inl (by decide))) (Eq.trans (jm_up_n (Or.inl (by decide))) (Eq.trans (hk_filo_o (Or.inl (by decide))) (Eq.trans (congrFun (hMJ 314 (by decide) (by decide)) _) (congrFun (hJn 314 (by decide)) _))))) (Eq.trans (hk_filo_o (Or.inl (by decide))) (Eq.trans (jm_up_n (Or.inl (by decide))) (Eq.trans (hk_filo_o (Or.inl (by decide))) (Eq.trans (congrFun (hMJ 310 (by decide) (by decide)) _) (congrFun (hJn 310 (by decide)) _))))) (Eq.trans (hk_filo_o (Or.inl (by decide))) (Eq.trans (jm_up_n (Or.inl (by decide))) (Eq.trans (hk_filo_o (Or.inl (by decide))) (Eq.trans (congrFun (hMJ 311 (by decide) (by decide)) _) (congrFun (hJn 311 (by decide)) _))))) (Eq.trans (hk_filo_o (Or.inl (by decide))) (Eq.trans (jm_up_n (Or.inl (by decide))) (Eq.trans (hk_filo_o (Or.inl (by decide))) (Eq.trans (congrFun (hMJ 315 (by decide) (by decide)) _) (congrFun (hJn 315 (by decide)) _))))) (Eq.trans (hk_filo_o (Or.inl (by decide))) (Eq.trans (jm_up_n (Or.inl (by decide))) (Eq.trans (hk_filo_o (Or.inl (by decide))) (Eq.trans (congrFun (hMJ 315 (by decide) (by decide)) _) (congrFun (hJn 315 (by decide)) _))))) (Eq.trans (hk_filo_o (Or.inl (by decide))) (Eq.trans (jm_up_n (Or.inl (by decide))) (Eq.trans (hk_filo_o (Or.inl (by decide))) (Eq.trans (congrFun (hMJ 316 (by decide) (by decide)) _) (congrFun (hJn 316 (by decide)) _))))) (by omega) (by omega) (by omega) (by omega) (by omega) (by omega) (by omega) (fun t => by rw [(Eq.trans (hk_filo_o (Or.inl (by decide))) (Eq.trans (jm_up_n (Or.inl (by decide))) (Eq.trans (hk_filo_o (Or.inl (by decide))) (Eq.trans (congrFun (hMJ 321 (by decide) (by decide)) _) (congrFun (hJn 321 (by decide)) _)))))]; exact hwn t)) jw_m_RX6_147 okX6_ends rfl ⟨rfl, rfl⟩ ⟨Nat.le_of_ble_eq_true rfl, Nat.le_of_ble_eq_true rfl⟩ rfl Q.1.1 Q.1.2 rfl rfl (Nat.le_of_ble_eq_true rfl) dX6_shoot_340 ⟨Nat.le_of_ble_eq_true rfl, Nat.le_of_ble_eq_true rfl⟩ ?_
                          refine jm_iload C dX6_shoot_343 rfl ?_
                          exact hR _ _ _ _ dX6_shoot_345 rfl ⟨Or.inl ⟨hgi, hst0, htt, Eq.trans (hk_msE_0 _ _) (Eq.trans (Eq.trans (hk_filo_o (Or.inl (by decide))) (Eq.trans (jm_up_n (Or.inl (by decide))) (hk_filo_o (Or.inl (by decide))))) (by rw [hMJ 300 (by decide) (by decide), hJz]; exact jm_up_s _ _ _ _))⟩, fun _ _ _ => ⟨by
                              rw [← hMe]
                              unfold hk_msh
                              rw [if_neg (show ¬ I 309 g = 1 by omega)]
                              first | rw [if_pos (show I 317 g + 1 = 6 by omega)] | rw [if_neg (show ¬ I 317 g + 1 = 6 by omega)]
                              unfold hk_msP hk_msA
                              rw [show m = 549 by omega, show m2 = 6 by omega]
                              rfl, by rw [gg3]⟩, fun q => absurd ⟨hgi, hst0, htt⟩ q⟩
                      · skip
                        refine jm_aload_n C dX6_shoot_302 rfl ?_
                        refine jm_getr (ci := 6) (f := 20) C rfl jw_u_6 Q.1.1 Q.1.2 rfl (by decide) jw_f_RX6_60 dX6_shoot_303 ?_
                        refine jm_bipush C dX6_shoot_306 (by decide +kernel) ?_
                        refine jm_iload_n C dX6_shoot_308 rfl ?_
                        refine jm_imul C dX6_shoot_309 ?_
                        refine jm_iload C dX6_shoot_310 rfl ?_
                        refine jm_iadd C dX6_shoot_312 ?_
                        refine jm_aload_n C dX6_shoot_313 rfl ?_
                        refine jm_getr (ci := 6) (f := 25) C rfl jw_u_6 Q.1.1 Q.1.2 rfl (by decide) jw_f_RX6_75 dX6_shoot_314 ?_
                        refine jm_iload C dX6_shoot_317 rfl ?_
                        refine jm_ialdv (M 325 ((m2 : Nat) : Int)) (Eq.trans (hk_filo_o (Or.inl (by decide))) (Eq.trans (jm_up_n (Or.inl (by decide))) (hk_filo_o (Or.inl (by decide))))) C (jm_X6_325 Q).1 rfl (jm_X6_325 Q).2 (by omega) (by omega) (by omega) dX6_shoot_319 (fun yr39 => ?_)
                        refine jm_iast C (jm_X6_320 Q).1 rfl (jm_X6_320 Q).2 (by omega) (by omega) (by omega) dX6_shoot_320 (by omega) ?_
                        refine jm_iinc C dX6_shoot_321 (by decide) rfl ?_
                        refine jm_goto 295 C dX6_shoot_324 rfl ?_
                        refine jm_mq (hk_filo_s _ 320 (6 * g) m2 (M 325) _ rfl).symm ?_
                        refine jm_lvs (lv' := [(0, _), (1, _), (9, _), (11, _)]) (jm_sub_c rfl (jm_sub_c rfl (jm_sub_c rfl (jm_sub_c rfl (jm_sub_0 _))))) ?_
                        exact ih295 (m2 + 1) (by omega) (by omega)
                  refine jm_mq (hk_filo_0 _ 320 (6 * g) (M 325)) ?_
                  refine jm_lvs (lv' := [(0, _), (1, _), (9, _), (11, _)]) (jm_sub_c rfl (jm_sub_c rfl (jm_sub_c rfl (jm_sub_c rfl (jm_sub_0 _))))) ?_
                  exact lp295 _ 0 (Nat.lt_succ_self _) (Nat.zero_le _)
                · skip
                  refine jm_iload C dX6_shoot_169 rfl ?_
                  refine jm_cSd (n := 1) [] C (kX6_distance E w (jm_up (hk_filo M 305 (549 * (I 314 g)) ((m : Nat) : Int) (M 324)) 317 g ((I 317 g) + 1)) _ (by omega)) jw_m_RX6_115 okX6_distance rfl ⟨rfl, rfl⟩ ⟨Nat.le_of_ble_eq_true rfl, Nat.le_of_ble_eq_true rfl⟩ rfl rfl (Nat.le_of_ble_eq_true rfl) dX6_shoot_171 ⟨Nat.le_of_ble_eq_true rfl, Nat.le_of_ble_eq_true rfl⟩ (fun yz41 yh40 => ?_)
                  subst yh40
                  have yh40r := hk_dis_R (p := M 325 (hk_mslot I g)) (by omega)
                  refine jm_bipush C dX6_shoot_174 (by decide +kernel) ?_
                  refine jm_icmp_ge 187 C dX6_shoot_176 rfl (by omega) (by decide) (fun yc42 => ?_) (fun yc42 => ?_)
                  · skip
                    refine jm_bipush C dX6_shoot_187 (by decide +kernel) ?_
                    refine jm_istore C dX6_shoot_189 (by decide) ?_
                    refine jm_aload_n C dX6_shoot_191 rfl ?_
                    refine jm_getr (ci := 6) (f := 22) C rfl jw_u_6 Q.1.1 Q.1.2 rfl (by decide) jw_f_RX6_66 dX6_shoot_192 ?_
                    refine jm_iload C dX6_shoot_195 rfl ?_
                    refine jm_dup2 C dX6_shoot_197 rfl rfl ?_
                    refine jm_ialdv (I 322 (I 311 g)) (Eq.trans (jm_up_n (Or.inl (by decide))) (Eq.trans (hk_filo_o (Or.inl (by decide))) (Eq.trans (congrFun (hMJ 322 (by decide) (by decide)) _) (congrFun (hJn 322 (by decide)) _)))) C (jm_X6_322 Q).1 rfl (jm_X6_322 Q).2 (by omega) (by omega) (by omega) dX6_shoot_198 (fun yr43 => ?_)
                    refine jm_iconst C dX6_shoot_199 ?_
                    refine jm_iadd C dX6_shoot_200 ?_
                    refine jm_iast C (jm_X6_322 Q).1 rfl (jm_X6_322 Q).2 (by omega) (by omega) (by omega) dX6_shoot_201 (by omega) ?_
                    refine jm_aload_n C dX6_shoot_202 rfl ?_
                    refine jm_getr (ci := 6) (f := 23) C rfl jw_u_6 Q.1.1 Q.1.2 rfl (by decide) jw_f_RX6_69 dX6_shoot_203 ?_
                    refine jm_iload C dX6_shoot_206 rfl ?_
                    refine jm_dup2 C dX6_shoot_208 rfl rfl ?_
                    refine jm_ialdv (I 323 (I 311 g)) (Eq.trans (jm_up_n (Or.inl (by decide))) (Eq.trans (jm_up_n (Or.inl (by decide))) (Eq.trans (hk_filo_o (Or.inl (by decide))) (Eq.trans (congrFun (hMJ 323 (by decide) (by decide)) _) (congrFun (hJn 323 (by decide)) _))))) C (jm_X6_323 Q).1 rfl (jm_X6_323 Q).2 (by omega) (by omega) (by omega) dX6_shoot_209 (fun yr44 => ?_)
                    refine jm_iload C dX6_shoot_210 rfl ?_
                    refine jm_iadd C dX6_shoot_212 ?_
                    refine jm_iast C (jm_X6_323 Q).1 rfl (jm_X6_323 Q).2 (by omega) (by omega) (by omega) dX6_shoot_213 (by omega) ?_
                    refine jm_aload_n C dX6_shoot_214 rfl ?_
                    refine jm_getr (ci := 6) (f := 18) C rfl jw_u_6 Q.1.1 Q.1.2 rfl (by decide) jw_f_RX6_54 dX6_shoot_215 ?_
                    refine jm_iload_n C dX6_shoot_218 rfl ?_
                    refine jm_aload_n C dX6_shoot_219 rfl ?_
                    refine jm_getr (ci := 6) (f := 17) C rfl jw_u_6 Q.1.1 Q.1.2 rfl (by decide) jw_f_RX6_51 dX6_shoot_220 ?_
                    refine jm_iload_n C dX6_shoot_223 rfl ?_
                    refine jm_ialdv ((I 317 g) + 1) (Eq.trans (jm_up_n (Or.inl (by decide))) (Eq.trans (jm_up_n (Or.inl (by decide))) (jm_up_s _ _ _ _))) C (jm_X6_317 Q).1 rfl (jm_X6_317 Q).2 (by omega) (by omega) (by omega) dX6_shoot_224 (fun yr45 => ?_)
                    refine jm_iconst C dX6_shoot_225 ?_
                    have yj48 : ∀ (yz47 : Int), (((I 317 g) + 1 = 2 ∧ 30 ≤ I 319 g ∧ yz47 = 1) ∨ ((I 317 g) + 1 = 2 ∧ ¬ (30 ≤ I 319 g) ∧ yz47 = 0) ∨ (¬ ((I 317 g) + 1 = 2) ∧ yz47 = 1)) → jm_R yz47 → jm_J E G (0, 0) w (jm_up (jm_up (jm_up (hk_filo M 305 (549 * (I 314 g)) ((m : Nat) : Int) (M 324)) 317 g ((I 317 g) + 1)) 322 (I 311 g) ((I 322 (I 311 g)) + 1)) 323 (I 311 g) ((I 323 (I 311 g)) + 30)) 245 [(0, .ref (w.2.1 300)), (1, jm_v g), (9, jm_v (M 325 (hk_mslot I g))), (11, jm_v 30)] [jm_v yz47, jm_v g, .ref (w.2.1 318)] := by
                      intro yz47 ye49 ryz47
                      refine jm_iast C (jm_X6_318 Q).1 rfl (jm_X6_318 Q).2 (by omega) (by omega) (by omega) dX6_shoot_245 (by omega) ?_
                      refine jm_aload_n C dX6_shoot_246 rfl ?_
                      refine jm_getr (ci := 6) (f := 19) C rfl jw_u_6 Q.1.1 Q.1.2 rfl (by decide) jw_f_RX6_57 dX6_shoot_247 ?_
                      refine jm_iload_n C dX6_shoot_250 rfl ?_
                      refine jm_iload C dX6_shoot_251 rfl ?_
                      refine jm_iast C (jm_X6_319 Q).1 rfl (jm_X6_319 Q).2 (by omega) (by omega) (by omega) dX6_shoot_253 (by decide) ?_
                      refine jm_aload_n C dX6_shoot_254 rfl ?_
                      refine jm_getr (ci := 6) (f := 9) C rfl jw_u_6 Q.1.1 Q.1.2 rfl (by decide) jw_f_RX6_27 dX6_shoot_255 ?_
                      refine jm_iload_n C dX6_shoot_258 rfl ?_
                      refine jm_aload_n C dX6_shoot_259 rfl ?_
                      refine jm_getr (ci := 6) (f := 17) C rfl jw_u_6 Q.1.1 Q.1.2 rfl (by decide) jw_f_RX6_51 dX6_shoot_260 ?_
                      refine jm_iload_n C dX6_shoot_263 rfl ?_
                      refine jm_ialdv ((I 317 g) + 1) (Eq.trans (jm_up_n (Or.inl (by decide))) (Eq.trans (jm_up_n (Or.inl (by decide))) (Eq.trans (jm_up_n (Or.inl (by decide))) (Eq.trans (jm_up_n (Or.inl (by decide))) (jm_up_s _ _ _ _))))) C (jm_X6_317 Q).1 rfl (jm_X6_317 Q).2 (by omega) (by omega) (by omega) dX6_shoot_264 (fun yr50 => ?_)
                      refine jm_iconst C dX6_shoot_265 ?_
                      have yj53 : ∀ (yz52 : Int), (((I 317 g) + 1 = 2 ∧ yz52 = 2) ∨ (¬ ((I 317 g) + 1 = 2) ∧ yz52 = 1)) → jm_R yz52 → jm_J E G (0, 0) w (jm_up (jm_up (jm_up (jm_up (jm_up (hk_filo M 305 (549 * (I 314 g)) ((m : Nat) : Int) (M 324)) 317 g ((I 317 g) + 1)) 322 (I 311 g) ((I 322 (I 311 g)) + 1)) 323 (I 311 g) ((I 323 (I 311 g)) + 30)) 318 g yz47) 319 g 30) 274 [(0, .ref (w.2.1 300)), (1, jm_v g), (9, jm_v (M 325 (hk_mslot I g)))] [jm_v yz52, jm_v g, .ref (w.2.1 309)] := by
                        intro yz52 ye54 ryz52
                        refine jm_iast C (jm_X6_309 Q).1 rfl (jm_X6_309 Q).2 (by omega) (by omega) (by omega) dX6_shoot_274 (by omega) ?_
                        refine jm_aload_n C dX6_shoot_275 rfl ?_
                        refine jm_getr (ci := 6) (f := 17) C rfl jw_u_6 Q.1.1 Q.1.2 rfl (by decide) jw_f_RX6_51 dX6_shoot_276 ?_
                        refine jm_iload_n C dX6_shoot_279 rfl ?_
                        refine jm_aload_n C dX6_shoot_280 rfl ?_
                        refine jm_getr (ci := 6) (f := 17) C rfl jw_u_6 Q.1.1 Q.1.2 rfl (by decide) jw_f_RX6_51 dX6_shoot_281 ?_
                        refine jm_iload_n C dX6_shoot_284 rfl ?_
                        refine jm_ialdv ((I 317 g) + 1) (Eq.trans (jm_up_n (Or.inl (by decide))) (Eq.trans (jm_up_n (Or.inl (by decide))) (Eq.trans (jm_up_n (Or.inl (by decide))) (Eq.trans (jm_up_n (Or.inl (by decide))) (Eq.trans (jm_up_n (Or.inl (by decide))) (jm_up_s _ _ _ _)))))) C (jm_X6_317 Q).1 rfl (jm_X6_317 Q).2 (by omega) (by omega) (by omega) dX6_shoot_285 (fun yr55 => ?_)
                        refine jm_iconst C dX6_shoot_286 ?_
                        refine jm_irem C dX6_shoot_287 (by omega) (by decide) (by decide) ?_
                        refine jm_iast C (jm_X6_317 Q).1 rfl (jm_X6_317 Q).2 (by omega) (by omega) (by omega) dX6_shoot_288 (by omega) ?_
                        refine jm_iload C dX6_shoot_289 rfl ?_
                        exact hR _ _ _ _ dX6_shoot_291 rfl ⟨Or.inl ⟨hgi, hst0, htt, Eq.trans (Eq.trans (jm_up_n (Or.inl (by decide))) (Eq.trans (jm_up_n (Or.inl (by decide))) (Eq.trans (jm_up_n (Or.inl (by decide))) (Eq.trans (jm_up_n (Or.inl (by decide))) (Eq.trans (jm_up_n (Or.inl (by decide))) (Eq.trans (jm_up_n (Or.inl (by decide))) (Eq.trans (jm_up_n (Or.inl (by decide))) (hk_filo_o (Or.inl (by decide)))))))))) (by rw [hMJ 300 (by decide) (by decide), hJz]; exact jm_up_s _ _ _ _)⟩, fun _ _ _ => ⟨by
                            rw [← hMe]
                            unfold hk_msh
                            rw [if_pos (show I 309 g = 1 by omega)]
                            have c1 : hk_team I g = I 311 g := by unfold hk_team; first | rw [if_pos (show hk_mturn I g = 0 by omega)] | rw [if_neg (show ¬ hk_mturn I g = 0 by omega)]
                            have c2 : hk_far (M 325 (hk_mslot I g)) = 30 := by unfold hk_far; first | rw [if_pos (by omega)] | rw [if_neg (by omega)]
                            have c3 : yz47 = if I 317 g + 1 = 2 ∧ I 319 g < 30 then 0 else 1 := by split <;> omega
                            have c4 : yz52 = if I 317 g + 1 = 2 then 2 else 1 := by split <;> omega
                            rw [c1, c2]
                            unfold hk_msD hk_msA
                            rw [← c3, ← c4, show m = 549 by omega]
                            rfl, by rw [gg3]⟩, fun q => absurd ⟨hgi, hst0, htt⟩ q⟩
                      refine jm_icmp_ne 273 C dX6_shoot_266 rfl (by omega) (by decide) (fun yc51 => ?_) (fun yc51 => ?_)
                      · skip
                        refine jm_iconst C dX6_shoot_273 ?_
                        refine jm_lvs (lv' := [(0, _), (1, _), (9, _)]) (jm_sub_c rfl (jm_sub_c rfl (jm_sub_c rfl (jm_sub_0 _)))) ?_
                        exact yj53 _ (Or.inr ⟨yc51, rfl⟩) (by decide)
                      · skip
                        refine jm_iconst C dX6_shoot_269 ?_
                        refine jm_goto 274 C dX6_shoot_270 rfl ?_
                        refine jm_lvs (lv' := [(0, _), (1, _), (9, _)]) (jm_sub_c rfl (jm_sub_c rfl (jm_sub_c rfl (jm_sub_0 _)))) ?_
                        exact yj53 _ (Or.inl ⟨yc51, rfl⟩) (by decide)
                    refine jm_icmp_ne 244 C dX6_shoot_226 rfl (by omega) (by decide) (fun yc46 => ?_) (fun yc46 => ?_)
                    · skip
                      refine jm_iconst C dX6_shoot_244 ?_
                      refine jm_lvs (lv' := [(0, _), (1, _), (9, _), (11, _)]) (jm_sub_c rfl (jm_sub_c rfl (jm_sub_c rfl (jm_sub_c rfl (jm_sub_0 _))))) ?_
                      exact yj48 _ (Or.inr (Or.inr ⟨yc46, rfl⟩)) (by decide)
                    · skip
                      refine jm_aload_n C dX6_shoot_229 rfl ?_
                      refine jm_getr (ci := 6) (f := 19) C rfl jw_u_6 Q.1.1 Q.1.2 rfl (by decide) jw_f_RX6_57 dX6_shoot_230 ?_
                      refine jm_iload_n C dX6_shoot_233 rfl ?_
                      refine jm_ialdv (I 319 g) (Eq.trans (jm_up_n (Or.inl (by decide))) (Eq.trans (jm_up_n (Or.inl (by decide))) (Eq.trans (jm_up_n (Or.inl (by decide))) (Eq.trans (hk_filo_o (Or.inl (by decide))) (Eq.trans (congrFun (hMJ 319 (by decide) (by decide)) _) (congrFun (hJn 319 (by decide)) _)))))) C (jm_X6_319 Q).1 rfl (jm_X6_319 Q).2 (by omega) (by omega) (by omega) dX6_shoot_234 (fun yr56 => ?_)
                      refine jm_iload C dX6_shoot_235 rfl ?_
                      refine jm_icmp_ge 244 C dX6_shoot_237 rfl (by omega) (by decide) (fun yc57 => ?_) (fun yc57 => ?_)
                      · skip
                        refine jm_iconst C dX6_shoot_244 ?_
                        refine jm_lvs (lv' := [(0, _), (1, _), (9, _), (11, _)]) (jm_sub_c rfl (jm_sub_c rfl (jm_sub_c rfl (jm_sub_c rfl (jm_sub_0 _))))) ?_
                        exact yj48 _ (Or.inl ⟨yc46, yc57, rfl⟩) (by decide)
                      · skip
                        refine jm_iconst C dX6_shoot_240 ?_
                        refine jm_goto 245 C dX6_shoot_241 rfl ?_
                        refine jm_lvs (lv' := [(0, _), (1, _), (9, _), (11, _)]) (jm_sub_c rfl (jm_sub_c rfl (jm_sub_c rfl (jm_sub_c rfl (jm_sub_0 _))))) ?_
                        exact yj48 _ (Or.inr (Or.inl ⟨yc46, yc57, rfl⟩)) (by decide)
                  · skip
                    refine jm_iload C dX6_shoot_179 rfl ?_
                    refine jm_cSd (n := 1) [] C (kX6_distance E w (jm_up (hk_filo M 305 (549 * (I 314 g)) ((m : Nat) : Int) (M 324)) 317 g ((I 317 g) + 1)) _ (by omega)) jw_m_RX6_115 okX6_distance rfl ⟨rfl, rfl⟩ ⟨Nat.le_of_ble_eq_true rfl, Nat.le_of_ble_eq_true rfl⟩ rfl rfl (Nat.le_of_ble_eq_true rfl) dX6_shoot_181 ⟨Nat.le_of_ble_eq_true rfl, Nat.le_of_ble_eq_true rfl⟩ (fun yz59 yh58 => ?_)
                    subst yh58
                    have yh58r := hk_dis_R (p := M 325 (hk_mslot I g)) (by omega)
                    refine jm_goto 189 C dX6_shoot_184 rfl ?_
                    refine jm_istore C dX6_shoot_189 (by decide) ?_
                    refine jm_aload_n C dX6_shoot_191 rfl ?_
                    refine jm_getr (ci := 6) (f := 22) C rfl jw_u_6 Q.1.1 Q.1.2 rfl (by decide) jw_f_RX6_66 dX6_shoot_192 ?_
                    refine jm_iload C dX6_shoot_195 rfl ?_
                    refine jm_dup2 C dX6_shoot_197 rfl rfl ?_
                    refine jm_ialdv (I 322 (I 311 g)) (Eq.trans (jm_up_n (Or.inl (by decide))) (Eq.trans (hk_filo_o (Or.inl (by decide))) (Eq.trans (congrFun (hMJ 322 (by decide) (by decide)) _) (congrFun (hJn 322 (by decide)) _)))) C (jm_X6_322 Q).1 rfl (jm_X6_322 Q).2 (by omega) (by omega) (by omega) dX6_shoot_198 (fun yr60 => ?_)
                    refine jm_iconst C dX6_shoot_199 ?_
                    refine jm_iadd C dX6_shoot_200 ?_
                    refine jm_iast C (jm_X6_322 Q).1 rfl (jm_X6_322 Q).2 (by omega) (by omega) (by omega) dX6_shoot_201 (by omega) ?_
                    refine jm_aload_n C dX6_shoot_202 rfl ?_
                    refine jm_getr (ci := 6) (f := 23) C rfl jw_u_6 Q.1.1 Q.1.2 rfl (by decide) jw_f_RX6_69 dX6_shoot_203 ?_
                    refine jm_iload C dX6_shoot_206 rfl ?_
                    refine jm_dup2 C dX6_shoot_208 rfl rfl ?_
                    refine jm_ialdv (I 323 (I 311 g)) (Eq.trans (jm_up_n (Or.inl (by decide))) (Eq.trans (jm_up_n (Or.inl (by decide))) (Eq.trans (hk_filo_o (Or.inl (by decide))) (Eq.trans (congrFun (hMJ 323 (by decide) (by decide)) _) (congrFun (hJn 323 (by decide)) _))))) C (jm_X6_323 Q).1 rfl (jm_X6_323 Q).2 (by omega) (by omega) (by omega) dX6_shoot_209 (fun yr61 => ?_)
                    refine jm_iload C dX6_shoot_210 rfl ?_
                    refine jm_iadd C dX6_shoot_212 ?_
                    refine jm_iast C (jm_X6_323 Q).1 rfl (jm_X6_323 Q).2 (by omega) (by omega) (by omega) dX6_shoot_213 (by omega) ?_
                    refine jm_aload_n C dX6_shoot_214 rfl ?_
                    refine jm_getr (ci := 6) (f := 18) C rfl jw_u_6 Q.1.1 Q.1.2 rfl (by decide) jw_f_RX6_54 dX6_shoot_215 ?_
                    refine jm_iload_n C dX6_shoot_218 rfl ?_
                    refine jm_aload_n C dX6_shoot_219 rfl ?_
                    refine jm_getr (ci := 6) (f := 17) C rfl jw_u_6 Q.1.1 Q.1.2 rfl (by decide) jw_f_RX6_51 dX6_shoot_220 ?_
                    refine jm_iload_n C dX6_shoot_223 rfl ?_
                    refine jm_ialdv ((I 317 g) + 1) (Eq.trans (jm_up_n (Or.inl (by decide))) (Eq.trans (jm_up_n (Or.inl (by decide))) (jm_up_s _ _ _ _))) C (jm_X6_317 Q).1 rfl (jm_X6_317 Q).2 (by omega) (by omega) (by omega) dX6_shoot_224 (fun yr62 => ?_)
                    refine jm_iconst C dX6_shoot_225 ?_
                    have yj65 : ∀ (yz64 : Int), (((I 317 g) + 1 = 2 ∧ hk_dis (M 325 (hk_mslot I g)) ≤ I 319 g ∧ yz64 = 1) ∨ ((I 317 g) + 1 = 2 ∧ ¬ (hk_dis (M 325 (hk_mslot I g)) ≤ I 319 g) ∧ yz64 = 0) ∨ (¬ ((I 317 g) + 1 = 2) ∧ yz64 = 1)) → jm_R yz64 → jm_J E G (0, 0) w (jm_up (jm_up (jm_up (hk_filo M 305 (549 * (I 314 g)) ((m : Nat) : Int) (M 324)) 317 g ((I 317 g) + 1)) 322 (I 311 g) ((I 322 (I 311 g)) + 1)) 323 (I 311 g) ((I 323 (I 311 g)) + (hk_dis (M 325 (hk_mslot I g))))) 245 [(0, .ref (w.2.1 300)), (1, jm_v g), (9, jm_v (M 325 (hk_mslot I g))), (11, jm_v (hk_dis (M 325 (hk_mslot I g))))] [jm_v yz64, jm_v g, .ref (w.2.1 318)] := by
                      intro yz64 ye66 ryz64
                      refine jm_iast C (jm_X6_318 Q).1 rfl (jm_X6_318 Q).2 (by omega) (by omega) (by omega) dX6_shoot_245 (by omega) ?_
                      refine jm_aload_n C dX6_shoot_246 rfl ?_
                      refine jm_getr (ci := 6) (f := 19) C rfl jw_u_6 Q.1.1 Q.1.2 rfl (by decide) jw_f_RX6_57 dX6_shoot_247 ?_
                      refine jm_iload_n C dX6_shoot_250 rfl ?_
                      refine jm_iload C dX6_shoot_251 rfl ?_
                      refine jm_iast C (jm_X6_319 Q).1 rfl (jm_X6_319 Q).2 (by omega) (by omega) (by omega) dX6_shoot_253 (by omega) ?_
                      refine jm_aload_n C dX6_shoot_254 rfl ?_
                      refine jm_getr (ci := 6) (f := 9) C rfl jw_u_6 Q.1.1 Q.1.2 rfl (by decide) jw_f_RX6_27 dX6_shoot_255 ?_
                      refine jm_iload_n C dX6_shoot_258 rfl ?_
                      refine jm_aload_n C dX6_shoot_259 rfl ?_
                      refine jm_getr (ci := 6) (f := 17) C rfl jw_u_6 Q.1.1 Q.1.2 rfl (by decide) jw_f_RX6_51 dX6_shoot_260 ?_
                      refine jm_iload_n C dX6_shoot_263 rfl ?_
                      refine jm_ialdv ((I 317 g) + 1) (Eq.trans (jm_up_n (Or.inl (by decide))) (Eq.trans (jm_up_n (Or.inl (by decide))) (Eq.trans (jm_up_n (Or.inl (by decide))) (Eq.trans (jm_up_n (Or.inl (by decide))) (jm_up_s _ _ _ _))))) C (jm_X6_317 Q).1 rfl (jm_X6_317 Q).2 (by omega) (by omega) (by omega) dX6_shoot_264 (fun yr67 => ?_)
                      refine jm_iconst C dX6_shoot_265 ?_
                      have yj70 : ∀ (yz69 : Int), (((I 317 g) + 1 = 2 ∧ yz69 = 2) ∨ (¬ ((I 317 g) + 1 = 2) ∧ yz69 = 1)) → jm_R yz69 → jm_J E G (0, 0) w (jm_up (jm_up (jm_up (jm_up (jm_up (hk_filo M 305 (549 * (I 314 g)) ((m : Nat) : Int) (M 324)) 317 g ((I 317 g) + 1)) 322 (I 311 g) ((I 322 (I 311 g)) + 1)) 323 (I 311 g) ((I 323 (I 311 g)) + (hk_dis (M 325 (hk_mslot I g))))) 318 g yz64) 319 g (hk_dis (M 325 (hk_mslot I g)))) 274 [(0, .ref (w.2.1 300)), (1, jm_v g), (9, jm_v (M 325 (hk_mslot I g)))] [jm_v yz69, jm_v g, .ref (w.2.1 309)] := by
                        intro yz69 ye71 ryz69
                        refine jm_iast C (jm_X6_309 Q).1 rfl (jm_X6_309 Q).2 (by omega) (by omega) (by omega) dX6_shoot_274 (by omega) ?_
                        refine jm_aload_n C dX6_shoot_275 rfl ?_
                        refine jm_getr (ci := 6) (f := 17) C rfl jw_u_6 Q.1.1 Q.1.2 rfl (by decide) jw_f_RX6_51 dX6_shoot_276 ?_
                        refine jm_iload_n C dX6_shoot_279 rfl ?_
                        refine jm_aload_n C dX6_shoot_280 rfl ?_
                        refine jm_getr (ci := 6) (f := 17) C rfl jw_u_6 Q.1.1 Q.1.2 rfl (by decide) jw_f_RX6_51 dX6_shoot_281 ?_
                        refine jm_iload_n C dX6_shoot_284 rfl ?_
                        refine jm_ialdv ((I 317 g) + 1) (Eq.trans (jm_up_n (Or.inl (by decide))) (Eq.trans (jm_up_n (Or.inl (by decide))) (Eq.trans (jm_up_n (Or.inl (by decide))) (Eq.trans (jm_up_n (Or.inl (by decide))) (Eq.trans (jm_up_n (Or.inl (by decide))) (jm_up_s _ _ _ _)))))) C (jm_X6_317 Q).1 rfl (jm_X6_317 Q).2 (by omega) (by omega) (by omega) dX6_shoot_285 (fun yr72 => ?_)
                        refine jm_iconst C dX6_shoot_286 ?_
                        refine jm_irem C dX6_shoot_287 (by omega) (by decide) (by decide) ?_
                        refine jm_iast C (jm_X6_317 Q).1 rfl (jm_X6_317 Q).2 (by omega) (by omega) (by omega) dX6_shoot_288 (by omega) ?_
                        refine jm_iload C dX6_shoot_289 rfl ?_
                        exact hR _ _ _ _ dX6_shoot_291 rfl ⟨Or.inl ⟨hgi, hst0, htt, Eq.trans (Eq.trans (jm_up_n (Or.inl (by decide))) (Eq.trans (jm_up_n (Or.inl (by decide))) (Eq.trans (jm_up_n (Or.inl (by decide))) (Eq.trans (jm_up_n (Or.inl (by decide))) (Eq.trans (jm_up_n (Or.inl (by decide))) (Eq.trans (jm_up_n (Or.inl (by decide))) (Eq.trans (jm_up_n (Or.inl (by decide))) (hk_filo_o (Or.inl (by decide)))))))))) (by rw [hMJ 300 (by decide) (by decide), hJz]; exact jm_up_s _ _ _ _)⟩, fun _ _ _ => ⟨by
                            rw [← hMe]
                            unfold hk_msh
                            rw [if_pos (show I 309 g = 1 by omega)]
                            have c1 : hk_team I g = I 311 g := by unfold hk_team; first | rw [if_pos (show hk_mturn I g = 0 by omega)] | rw [if_neg (show ¬ hk_mturn I g = 0 by omega)]
                            have c2 : hk_far (M 325 (hk_mslot I g)) = hk_dis (M 325 (hk_mslot I g)) := by unfold hk_far; first | rw [if_pos (by omega)] | rw [if_neg (by omega)]
                            have c3 : yz64 = if I 317 g + 1 = 2 ∧ I 319 g < hk_dis (M 325 (hk_mslot I g)) then 0 else 1 := by split <;> omega
                            have c4 : yz69 = if I 317 g + 1 = 2 then 2 else 1 := by split <;> omega
                            rw [c1, c2]
                            unfold hk_msD hk_msA
                            rw [← c3, ← c4, show m = 549 by omega]
                            rfl, by rw [gg3]⟩, fun q => absurd ⟨hgi, hst0, htt⟩ q⟩
                      refine jm_icmp_ne 273 C dX6_shoot_266 rfl (by omega) (by decide) (fun yc68 => ?_) (fun yc68 => ?_)
                      · skip
                        refine jm_iconst C dX6_shoot_273 ?_
                        refine jm_lvs (lv' := [(0, _), (1, _), (9, _)]) (jm_sub_c rfl (jm_sub_c rfl (jm_sub_c rfl (jm_sub_0 _)))) ?_
                        exact yj70 _ (Or.inr ⟨yc68, rfl⟩) (by decide)
                      · skip
                        refine jm_iconst C dX6_shoot_269 ?_
                        refine jm_goto 274 C dX6_shoot_270 rfl ?_
                        refine jm_lvs (lv' := [(0, _), (1, _), (9, _)]) (jm_sub_c rfl (jm_sub_c rfl (jm_sub_c rfl (jm_sub_0 _)))) ?_
                        exact yj70 _ (Or.inl ⟨yc68, rfl⟩) (by decide)
                    refine jm_icmp_ne 244 C dX6_shoot_226 rfl (by omega) (by decide) (fun yc63 => ?_) (fun yc63 => ?_)
                    · skip
                      refine jm_iconst C dX6_shoot_244 ?_
                      refine jm_lvs (lv' := [(0, _), (1, _), (9, _), (11, _)]) (jm_sub_c rfl (jm_sub_c rfl (jm_sub_c rfl (jm_sub_c rfl (jm_sub_0 _))))) ?_
                      exact yj65 _ (Or.inr (Or.inr ⟨yc63, rfl⟩)) (by decide)
                    · skip
                      refine jm_aload_n C dX6_shoot_229 rfl ?_
                      refine jm_getr (ci := 6) (f := 19) C rfl jw_u_6 Q.1.1 Q.1.2 rfl (by decide) jw_f_RX6_57 dX6_shoot_230 ?_
                      refine jm_iload_n C dX6_shoot_233 rfl ?_
                      refine jm_ialdv (I 319 g) (Eq.trans (jm_up_n (Or.inl (by decide))) (Eq.trans (jm_up_n (Or.inl (by decide))) (Eq.trans (jm_up_n (Or.inl (by decide))) (Eq.trans (hk_filo_o (Or.inl (by decide))) (Eq.trans (congrFun (hMJ 319 (by decide) (by decide)) _) (congrFun (hJn 319 (by decide)) _)))))) C (jm_X6_319 Q).1 rfl (jm_X6_319 Q).2 (by omega) (by omega) (by omega) dX6_shoot_234 (fun yr73 => ?_)
                      refine jm_iload C dX6_shoot_235 rfl ?_
                      refine jm_icmp_ge 244 C dX6_shoot_237 rfl (by omega) (by omega) (fun yc74 => ?_) (fun yc74 => ?_)
                      · skip
                        refine jm_iconst C dX6_shoot_244 ?_
                        refine jm_lvs (lv' := [(0, _), (1, _), (9, _), (11, _)]) (jm_sub_c rfl (jm_sub_c rfl (jm_sub_c rfl (jm_sub_c rfl (jm_sub_0 _))))) ?_
                        exact yj65 _ (Or.inl ⟨yc63, yc74, rfl⟩) (by decide)
                      · skip
                        refine jm_iconst C dX6_shoot_240 ?_
                        refine jm_goto 245 C dX6_shoot_241 rfl ?_
                        refine jm_lvs (lv' := [(0, _), (1, _), (9, _), (11, _)]) (jm_sub_c rfl (jm_sub_c rfl (jm_sub_c rfl (jm_sub_c rfl (jm_sub_0 _))))) ?_
                        exact yj65 _ (Or.inr (Or.inl ⟨yc63, yc74, rfl⟩)) (by decide)
              · skip
                refine jm_aload_n C dX6_shoot_132 rfl ?_
                refine jm_getr (ci := 6) (f := 10) C rfl jw_u_6 Q.1.1 Q.1.2 rfl (by decide) jw_f_RX6_30 dX6_shoot_133 ?_
                refine jm_iload_n C dX6_shoot_136 rfl ?_
                refine jm_ialdv (I 310 g) (Eq.trans (hk_filo_o (Or.inl (by decide))) (Eq.trans (congrFun (hMJ 310 (by decide) (by decide)) _) (congrFun (hJn 310 (by decide)) _))) C (jm_X6_310 Q).1 rfl (jm_X6_310 Q).2 (by omega) (by omega) (by omega) dX6_shoot_137 (fun yr75 => ?_)
                refine jm_goto 147 C dX6_shoot_138 rfl ?_
                refine jm_istore C dX6_shoot_147 (by decide) ?_
                refine jm_aload_n C dX6_shoot_149 rfl ?_
                refine jm_getr (ci := 6) (f := 17) C rfl jw_u_6 Q.1.1 Q.1.2 rfl (by decide) jw_f_RX6_51 dX6_shoot_150 ?_
                refine jm_iload_n C dX6_shoot_153 rfl ?_
                refine jm_dup2 C dX6_shoot_154 rfl rfl ?_
                refine jm_ialdv (I 317 g) (Eq.trans (hk_filo_o (Or.inl (by decide))) (Eq.trans (congrFun (hMJ 317 (by decide) (by decide)) _) (congrFun (hJn 317 (by decide)) _))) C (jm_X6_317 Q).1 rfl (jm_X6_317 Q).2 (by omega) (by omega) (by omega) dX6_shoot_155 (fun yr76 => ?_)
                refine jm_iconst C dX6_shoot_156 ?_
                refine jm_iadd C dX6_shoot_157 ?_
                refine jm_iast C (jm_X6_317 Q).1 rfl (jm_X6_317 Q).2 (by omega) (by omega) (by omega) dX6_shoot_158 (by omega) ?_
                refine jm_aload_n C dX6_shoot_159 rfl ?_
                refine jm_getr (ci := 6) (f := 9) C rfl jw_u_6 Q.1.1 Q.1.2 rfl (by decide) jw_f_RX6_27 dX6_shoot_160 ?_
                refine jm_iload_n C dX6_shoot_163 rfl ?_
                refine jm_ialdv (I 309 g) (Eq.trans (jm_up_n (Or.inl (by decide))) (Eq.trans (hk_filo_o (Or.inl (by decide))) (Eq.trans (congrFun (hMJ 309 (by decide) (by decide)) _) (congrFun (hJn 309 (by decide)) _)))) C (jm_X6_309 Q).1 rfl (jm_X6_309 Q).2 (by omega) (by omega) (by omega) dX6_shoot_164 (fun yr77 => ?_)
                refine jm_iconst C dX6_shoot_165 ?_
                refine jm_icmp_ne 292 C dX6_shoot_166 rfl (by omega) (by decide) (fun yc78 => ?_) (fun yc78 => ?_)
                · skip
                  refine jm_iconst C dX6_shoot_292 ?_
                  refine jm_istore C dX6_shoot_293 (by decide) ?_
                  have lp295 : ∀ (yn295 : Nat) (m2 : Nat), 6 - m2 < yn295 → (m2 ≤ 6) → jm_J E G (0, 0) w (hk_filo (jm_up (hk_filo M 305 (549 * (I 314 g)) ((m : Nat) : Int) (M 324)) 317 g ((I 317 g) + 1)) 320 (6 * g) ((m2 : Nat) : Int) (M 325)) 295 [(0, .ref (w.2.1 300)), (1, jm_v g), (9, jm_v (M 325 (hk_mslot I g))), (11, jm_v ((m2 : Nat) : Int))] [] := by
                    intro yn295
                    induction yn295 with
                    | zero => intro m2 hlt295 hm; exact absurd hlt295 (Nat.not_lt_zero _)
                    | succ yn295 ih295 =>
                      intro m2 hlt295 hm
                      refine jm_iload C dX6_shoot_295 rfl ?_
                      refine jm_bipush C dX6_shoot_297 (by decide +kernel) ?_
                      refine jm_icmp_ge 327 C dX6_shoot_299 rfl (by omega) (by decide) (fun yc79 => ?_) (fun yc79 => ?_)
                      · skip
                        refine jm_aload_n C dX6_shoot_327 rfl ?_
                        refine jm_getr (ci := 6) (f := 17) C rfl jw_u_6 Q.1.1 Q.1.2 rfl (by decide) jw_f_RX6_51 dX6_shoot_328 ?_
                        refine jm_iload_n C dX6_shoot_331 rfl ?_
                        refine jm_ialdv ((I 317 g) + 1) (Eq.trans (hk_filo_o (Or.inl (by decide))) (jm_up_s _ _ _ _)) C (jm_X6_317 Q).1 rfl (jm_X6_317 Q).2 (by omega) (by omega) (by omega) dX6_shoot_332 (fun yr80 => ?_)
                        refine jm_bipush C dX6_shoot_333 (by decide +kernel) ?_
                        refine jm_icmp_ne 343 C dX6_shoot_335 rfl (by omega) (by decide) (fun yc81 => ?_) (fun yc81 => ?_)
                        · skip
                          refine jm_iload C dX6_shoot_343 rfl ?_
                          exact hR _ _ _ _ dX6_shoot_345 rfl ⟨Or.inl ⟨hgi, hst0, htt, Eq.trans (Eq.trans (hk_filo_o (Or.inl (by decide))) (Eq.trans (jm_up_n (Or.inl (by decide))) (hk_filo_o (Or.inl (by decide))))) (by rw [hMJ 300 (by decide) (by decide), hJz]; exact jm_up_s _ _ _ _)⟩, fun _ _ _ => ⟨by
                              rw [← hMe]
                              unfold hk_msh
                              rw [if_neg (show ¬ I 309 g = 1 by omega)]
                              first | rw [if_pos (show I 317 g + 1 = 6 by omega)] | rw [if_neg (show ¬ I 317 g + 1 = 6 by omega)]
                              unfold hk_msP hk_msA
                              rw [show m = 549 by omega, show m2 = 6 by omega]
                              rfl, by rw [gg3]⟩, fun q => absurd ⟨hgi, hst0, htt⟩ q⟩
                        · skip
                          refine jm_aload_n C dX6_shoot_338 rfl ?_
                          refine jm_iload_n C dX6_shoot_339 rfl ?_
                          refine jm_cVu (n := 1) (ci := 6) [] C (kX6_ends E w (hk_filo (jm_up (hk_filo M 305 (549 * (I 314 g)) ((m : Nat) : Int) (M 324)) 317 g ((I 317 g) + 1)) 320 (6 * g) ((m2 : Nat) : Int) (M 325)) Q _ (by omega) (I 314 g) (I 310 g) (I 311 g) (I 315 (2 * g)) (I 315 (2 * g + 1)) (I 316 g) (Eq.trans (hk_filo_o (Or.inl (by decide))) (Eq.trans (jm_up_n (Or.inl (by decide))) (Eq.trans (hk_filo_o (Or.inl (by decide))) (Eq.trans (congrFun (hMJ 314 (by decide) (by decide)) _) (congrFun (hJn 314 (by decide)) _))))) (Eq.trans (hk_filo_o (Or.inl (by decide))) (Eq.trans (jm_up_n (Or.inl (by decide))) (Eq.trans (hk_filo_o (Or.inl (by decide))) (Eq.trans (congrFun (hMJ 310 (by decide) (by decide)) _) (congrFun (hJn 310 (by decide)) _))))) (Eq.trans (hk_filo_o (Or.inl (by decide))) (Eq.trans (jm_up_n (Or.inl (by decide))) (Eq.trans (hk_filo_o (Or.inl (by decide))) (Eq.trans (congrFun (hMJ 311 (by decide) (by decide)) _) (congrFun (hJn 311 (by decide)) _))))) (Eq.trans (hk_filo_o (Or.inl (by decide))) (Eq.trans (jm_up_n (Or.inl (by decide))) (Eq.trans (hk_filo_o (Or.inl (by decide))) (Eq.trans (congrFun (hMJ 315 (by decide) (by decide)) _) (congrFun (hJn 315 (by decide)) _))))) (Eq.trans (hk_filo_o (Or.inl (by decide))) (Eq.trans (jm_up_n (Or.inl (by decide))) (Eq.trans (hk_filo_o (Or.inl (by decide))) (Eq.trans (congrFun (hMJ 315 (by decide) (by decide)) _) (congrFun (hJn 315 (by decide)) _))))) (Eq.trans (hk_filo_o (Or.inl (by decide))) (Eq.trans (jm_up_n (Or.inl (by decide))) (Eq.trans (hk_filo_o (Or.inl (by decide))) (Eq.trans (congrFun (hMJ 316 (by decide) (by decide)) _) (congrFun (hJn 316 (by decide)) _))))) (by omega) (by omega) (by omega) (by omega) (by omega) (by omega) (by omega) (fun t => by rw [(Eq.trans (hk_filo_o (Or.inl (by decide))) (Eq.trans (jm_up_n (Or.inl (by decide))) (Eq.trans (hk_filo_o (Or.inl (by decide))) (Eq.trans (congrFun (hMJ 321 (by decide) (by decide)) _) (congrFun (hJn 321 (by decide)) _)))))]; exact hwn t)) jw_m_RX6_147 okX6_ends rfl ⟨rfl, rfl⟩ ⟨Nat.le_of_ble_eq_true rfl, Nat.le_of_ble_eq_true rfl⟩ rfl Q.1.1 Q.1.2 rfl rfl (Nat.le_of_ble_eq_true rfl) dX6_shoot_340 ⟨Nat.le_of_ble_eq_true rfl, Nat.le_of_ble_eq_true rfl⟩ ?_
                          refine jm_iload C dX6_shoot_343 rfl ?_
                          exact hR _ _ _ _ dX6_shoot_345 rfl ⟨Or.inl ⟨hgi, hst0, htt, Eq.trans (hk_msE_0 _ _) (Eq.trans (Eq.trans (hk_filo_o (Or.inl (by decide))) (Eq.trans (jm_up_n (Or.inl (by decide))) (hk_filo_o (Or.inl (by decide))))) (by rw [hMJ 300 (by decide) (by decide), hJz]; exact jm_up_s _ _ _ _))⟩, fun _ _ _ => ⟨by
                              rw [← hMe]
                              unfold hk_msh
                              rw [if_neg (show ¬ I 309 g = 1 by omega)]
                              first | rw [if_pos (show I 317 g + 1 = 6 by omega)] | rw [if_neg (show ¬ I 317 g + 1 = 6 by omega)]
                              unfold hk_msP hk_msA
                              rw [show m = 549 by omega, show m2 = 6 by omega]
                              rfl, by rw [gg3]⟩, fun q => absurd ⟨hgi, hst0, htt⟩ q⟩
                      · skip
                        refine jm_aload_n C dX6_shoot_302 rfl ?_
                        refine jm_getr (ci := 6) (f := 20) C rfl jw_u_6 Q.1.1 Q.1.2 rfl (by decide) jw_f_RX6_60 dX6_shoot_303 ?_
                        refine jm_bipush C dX6_shoot_306 (by decide +kernel) ?_
                        refine jm_iload_n C dX6_shoot_308 rfl ?_
                        refine jm_imul C dX6_shoot_309 ?_
                        refine jm_iload C dX6_shoot_310 rfl ?_
                        refine jm_iadd C dX6_shoot_312 ?_
                        refine jm_aload_n C dX6_shoot_313 rfl ?_
                        refine jm_getr (ci := 6) (f := 25) C rfl jw_u_6 Q.1.1 Q.1.2 rfl (by decide) jw_f_RX6_75 dX6_shoot_314 ?_
                        refine jm_iload C dX6_shoot_317 rfl ?_
                        refine jm_ialdv (M 325 ((m2 : Nat) : Int)) (Eq.trans (hk_filo_o (Or.inl (by decide))) (Eq.trans (jm_up_n (Or.inl (by decide))) (hk_filo_o (Or.inl (by decide))))) C (jm_X6_325 Q).1 rfl (jm_X6_325 Q).2 (by omega) (by omega) (by omega) dX6_shoot_319 (fun yr84 => ?_)
                        refine jm_iast C (jm_X6_320 Q).1 rfl (jm_X6_320 Q).2 (by omega) (by omega) (by omega) dX6_shoot_320 (by omega) ?_
                        refine jm_iinc C dX6_shoot_321 (by decide) rfl ?_
                        refine jm_goto 295 C dX6_shoot_324 rfl ?_
                        refine jm_mq (hk_filo_s _ 320 (6 * g) m2 (M 325) _ rfl).symm ?_
                        refine jm_lvs (lv' := [(0, _), (1, _), (9, _), (11, _)]) (jm_sub_c rfl (jm_sub_c rfl (jm_sub_c rfl (jm_sub_c rfl (jm_sub_0 _))))) ?_
                        exact ih295 (m2 + 1) (by omega) (by omega)
                  refine jm_mq (hk_filo_0 _ 320 (6 * g) (M 325)) ?_
                  refine jm_lvs (lv' := [(0, _), (1, _), (9, _), (11, _)]) (jm_sub_c rfl (jm_sub_c rfl (jm_sub_c rfl (jm_sub_c rfl (jm_sub_0 _))))) ?_
                  exact lp295 _ 0 (Nat.lt_succ_self _) (Nat.zero_le _)
                · skip
                  refine jm_iload C dX6_shoot_169 rfl ?_
                  refine jm_cSd (n := 1) [] C (kX6_distance E w (jm_up (hk_filo M 305 (549 * (I 314 g)) ((m : Nat) : Int) (M 324)) 317 g ((I 317 g) + 1)) _ (by omega)) jw_m_RX6_115 okX6_distance rfl ⟨rfl, rfl⟩ ⟨Nat.le_of_ble_eq_true rfl, Nat.le_of_ble_eq_true rfl⟩ rfl rfl (Nat.le_of_ble_eq_true rfl) dX6_shoot_171 ⟨Nat.le_of_ble_eq_true rfl, Nat.le_of_ble_eq_true rfl⟩ (fun yz86 yh85 => ?_)
                  subst yh85
                  have yh85r := hk_dis_R (p := M 325 (hk_mslot I g)) (by omega)
                  refine jm_bipush C dX6_shoot_174 (by decide +kernel) ?_
                  refine jm_icmp_ge 187 C dX6_shoot_176 rfl (by omega) (by decide) (fun yc87 => ?_) (fun yc87 => ?_)
                  · skip
                    refine jm_bipush C dX6_shoot_187 (by decide +kernel) ?_
                    refine jm_istore C dX6_shoot_189 (by decide) ?_
                    refine jm_aload_n C dX6_shoot_191 rfl ?_
                    refine jm_getr (ci := 6) (f := 22) C rfl jw_u_6 Q.1.1 Q.1.2 rfl (by decide) jw_f_RX6_66 dX6_shoot_192 ?_
                    refine jm_iload C dX6_shoot_195 rfl ?_
                    refine jm_dup2 C dX6_shoot_197 rfl rfl ?_
                    refine jm_ialdv (I 322 (I 310 g)) (Eq.trans (jm_up_n (Or.inl (by decide))) (Eq.trans (hk_filo_o (Or.inl (by decide))) (Eq.trans (congrFun (hMJ 322 (by decide) (by decide)) _) (congrFun (hJn 322 (by decide)) _)))) C (jm_X6_322 Q).1 rfl (jm_X6_322 Q).2 (by omega) (by omega) (by omega) dX6_shoot_198 (fun yr88 => ?_)
                    refine jm_iconst C dX6_shoot_199 ?_
                    refine jm_iadd C dX6_shoot_200 ?_
                    refine jm_iast C (jm_X6_322 Q).1 rfl (jm_X6_322 Q).2 (by omega) (by omega) (by omega) dX6_shoot_201 (by omega) ?_
                    refine jm_aload_n C dX6_shoot_202 rfl ?_
                    refine jm_getr (ci := 6) (f := 23) C rfl jw_u_6 Q.1.1 Q.1.2 rfl (by decide) jw_f_RX6_69 dX6_shoot_203 ?_
                    refine jm_iload C dX6_shoot_206 rfl ?_
                    refine jm_dup2 C dX6_shoot_208 rfl rfl ?_
                    refine jm_ialdv (I 323 (I 310 g)) (Eq.trans (jm_up_n (Or.inl (by decide))) (Eq.trans (jm_up_n (Or.inl (by decide))) (Eq.trans (hk_filo_o (Or.inl (by decide))) (Eq.trans (congrFun (hMJ 323 (by decide) (by decide)) _) (congrFun (hJn 323 (by decide)) _))))) C (jm_X6_323 Q).1 rfl (jm_X6_323 Q).2 (by omega) (by omega) (by omega) dX6_shoot_209 (fun yr89 => ?_)
                    refine jm_iload C dX6_shoot_210 rfl ?_
                    refine jm_iadd C dX6_shoot_212 ?_
                    refine jm_iast C (jm_X6_323 Q).1 rfl (jm_X6_323 Q).2 (by omega) (by omega) (by omega) dX6_shoot_213 (by omega) ?_
                    refine jm_aload_n C dX6_shoot_214 rfl ?_
                    refine jm_getr (ci := 6) (f := 18) C rfl jw_u_6 Q.1.1 Q.1.2 rfl (by decide) jw_f_RX6_54 dX6_shoot_215 ?_
                    refine jm_iload_n C dX6_shoot_218 rfl ?_
                    refine jm_aload_n C dX6_shoot_219 rfl ?_
                    refine jm_getr (ci := 6) (f := 17) C rfl jw_u_6 Q.1.1 Q.1.2 rfl (by decide) jw_f_RX6_51 dX6_shoot_220 ?_
                    refine jm_iload_n C dX6_shoot_223 rfl ?_
                    refine jm_ialdv ((I 317 g) + 1) (Eq.trans (jm_up_n (Or.inl (by decide))) (Eq.trans (jm_up_n (Or.inl (by decide))) (jm_up_s _ _ _ _))) C (jm_X6_317 Q).1 rfl (jm_X6_317 Q).2 (by omega) (by omega) (by omega) dX6_shoot_224 (fun yr90 => ?_)
                    refine jm_iconst C dX6_shoot_225 ?_
                    have yj93 : ∀ (yz92 : Int), (((I 317 g) + 1 = 2 ∧ 30 ≤ I 319 g ∧ yz92 = 1) ∨ ((I 317 g) + 1 = 2 ∧ ¬ (30 ≤ I 319 g) ∧ yz92 = 0) ∨ (¬ ((I 317 g) + 1 = 2) ∧ yz92 = 1)) → jm_R yz92 → jm_J E G (0, 0) w (jm_up (jm_up (jm_up (hk_filo M 305 (549 * (I 314 g)) ((m : Nat) : Int) (M 324)) 317 g ((I 317 g) + 1)) 322 (I 310 g) ((I 322 (I 310 g)) + 1)) 323 (I 310 g) ((I 323 (I 310 g)) + 30)) 245 [(0, .ref (w.2.1 300)), (1, jm_v g), (9, jm_v (M 325 (hk_mslot I g))), (11, jm_v 30)] [jm_v yz92, jm_v g, .ref (w.2.1 318)] := by
                      intro yz92 ye94 ryz92
                      refine jm_iast C (jm_X6_318 Q).1 rfl (jm_X6_318 Q).2 (by omega) (by omega) (by omega) dX6_shoot_245 (by omega) ?_
                      refine jm_aload_n C dX6_shoot_246 rfl ?_
                      refine jm_getr (ci := 6) (f := 19) C rfl jw_u_6 Q.1.1 Q.1.2 rfl (by decide) jw_f_RX6_57 dX6_shoot_247 ?_
                      refine jm_iload_n C dX6_shoot_250 rfl ?_
                      refine jm_iload C dX6_shoot_251 rfl ?_
                      refine jm_iast C (jm_X6_319 Q).1 rfl (jm_X6_319 Q).2 (by omega) (by omega) (by omega) dX6_shoot_253 (by decide) ?_
                      refine jm_aload_n C dX6_shoot_254 rfl ?_
                      refine jm_getr (ci := 6) (f := 9) C rfl jw_u_6 Q.1.1 Q.1.2 rfl (by decide) jw_f_RX6_27 dX6_shoot_255 ?_
                      refine jm_iload_n C dX6_shoot_258 rfl ?_
                      refine jm_aload_n C dX6_shoot_259 rfl ?_
                      refine jm_getr (ci := 6) (f := 17) C rfl jw_u_6 Q.1.1 Q.1.2 rfl (by decide) jw_f_RX6_51 dX6_shoot_260 ?_
                      refine jm_iload_n C dX6_shoot_263 rfl ?_
                      refine jm_ialdv ((I 317 g) + 1) (Eq.trans (jm_up_n (Or.inl (by decide))) (Eq.trans (jm_up_n (Or.inl (by decide))) (Eq.trans (jm_up_n (Or.inl (by decide))) (Eq.trans (jm_up_n (Or.inl (by decide))) (jm_up_s _ _ _ _))))) C (jm_X6_317 Q).1 rfl (jm_X6_317 Q).2 (by omega) (by omega) (by omega) dX6_shoot_264 (fun yr95 => ?_)
                      refine jm_iconst C dX6_shoot_265 ?_
                      have yj98 : ∀ (yz97 : Int), (((I 317 g) + 1 = 2 ∧ yz97 = 2) ∨ (¬ ((I 317 g) + 1 = 2) ∧ yz97 = 1)) → jm_R yz97 → jm_J E G (0, 0) w (jm_up (jm_up (jm_up (jm_up (jm_up (hk_filo M 305 (549 * (I 314 g)) ((m : Nat) : Int) (M 324)) 317 g ((I 317 g) + 1)) 322 (I 310 g) ((I 322 (I 310 g)) + 1)) 323 (I 310 g) ((I 323 (I 310 g)) + 30)) 318 g yz92) 319 g 30) 274 [(0, .ref (w.2.1 300)), (1, jm_v g), (9, jm_v (M 325 (hk_mslot I g)))] [jm_v yz97, jm_v g, .ref (w.2.1 309)] := by
                        intro yz97 ye99 ryz97
                        refine jm_iast C (jm_X6_309 Q).1 rfl (jm_X6_309 Q).2 (by omega) (by omega) (by omega) dX6_shoot_274 (by omega) ?_
                        refine jm_aload_n C dX6_shoot_275 rfl ?_
                        refine jm_getr (ci := 6) (f := 17) C rfl jw_u_6 Q.1.1 Q.1.2 rfl (by decide) jw_f_RX6_51 dX6_shoot_276 ?_
                        refine jm_iload_n C dX6_shoot_279 rfl ?_
                        refine jm_aload_n C dX6_shoot_280 rfl ?_
                        refine jm_getr (ci := 6) (f := 17) C rfl jw_u_6 Q.1.1 Q.1.2 rfl (by decide) jw_f_RX6_51 dX6_shoot_281 ?_
                        refine jm_iload_n C dX6_shoot_284 rfl ?_
                        refine jm_ialdv ((I 317 g) + 1) (Eq.trans (jm_up_n (Or.inl (by decide))) (Eq.trans (jm_up_n (Or.inl (by decide))) (Eq.trans (jm_up_n (Or.inl (by decide))) (Eq.trans (jm_up_n (Or.inl (by decide))) (Eq.trans (jm_up_n (Or.inl (by decide))) (jm_up_s _ _ _ _)))))) C (jm_X6_317 Q).1 rfl (jm_X6_317 Q).2 (by omega) (by omega) (by omega) dX6_shoot_285 (fun yr100 => ?_)
                        refine jm_iconst C dX6_shoot_286 ?_
                        refine jm_irem C dX6_shoot_287 (by omega) (by decide) (by decide) ?_
                        refine jm_iast C (jm_X6_317 Q).1 rfl (jm_X6_317 Q).2 (by omega) (by omega) (by omega) dX6_shoot_288 (by omega) ?_
                        refine jm_iload C dX6_shoot_289 rfl ?_
                        exact hR _ _ _ _ dX6_shoot_291 rfl ⟨Or.inl ⟨hgi, hst0, htt, Eq.trans (Eq.trans (jm_up_n (Or.inl (by decide))) (Eq.trans (jm_up_n (Or.inl (by decide))) (Eq.trans (jm_up_n (Or.inl (by decide))) (Eq.trans (jm_up_n (Or.inl (by decide))) (Eq.trans (jm_up_n (Or.inl (by decide))) (Eq.trans (jm_up_n (Or.inl (by decide))) (Eq.trans (jm_up_n (Or.inl (by decide))) (hk_filo_o (Or.inl (by decide)))))))))) (by rw [hMJ 300 (by decide) (by decide), hJz]; exact jm_up_s _ _ _ _)⟩, fun _ _ _ => ⟨by
                            rw [← hMe]
                            unfold hk_msh
                            rw [if_pos (show I 309 g = 1 by omega)]
                            have c1 : hk_team I g = I 310 g := by unfold hk_team; first | rw [if_pos (show hk_mturn I g = 0 by omega)] | rw [if_neg (show ¬ hk_mturn I g = 0 by omega)]
                            have c2 : hk_far (M 325 (hk_mslot I g)) = 30 := by unfold hk_far; first | rw [if_pos (by omega)] | rw [if_neg (by omega)]
                            have c3 : yz92 = if I 317 g + 1 = 2 ∧ I 319 g < 30 then 0 else 1 := by split <;> omega
                            have c4 : yz97 = if I 317 g + 1 = 2 then 2 else 1 := by split <;> omega
                            rw [c1, c2]
                            unfold hk_msD hk_msA
                            rw [← c3, ← c4, show m = 549 by omega]
                            rfl, by rw [gg3]⟩, fun q => absurd ⟨hgi, hst0, htt⟩ q⟩
                      refine jm_icmp_ne 273 C dX6_shoot_266 rfl (by omega) (by decide) (fun yc96 => ?_) (fun yc96 => ?_)
                      · skip
                        refine jm_iconst C dX6_shoot_273 ?_
                        refine jm_lvs (lv' := [(0, _), (1, _), (9, _)]) (jm_sub_c rfl (jm_sub_c rfl (jm_sub_c rfl (jm_sub_0 _)))) ?_
                        exact yj98 _ (Or.inr ⟨yc96, rfl⟩) (by decide)
                      · skip
                        refine jm_iconst C dX6_shoot_269 ?_
                        refine jm_goto 274 C dX6_shoot_270 rfl ?_
                        refine jm_lvs (lv' := [(0, _), (1, _), (9, _)]) (jm_sub_c rfl (jm_sub_c rfl (jm_sub_c rfl (jm_sub_0 _)))) ?_
                        exact yj98 _ (Or.inl ⟨yc96, rfl⟩) (by decide)
                    refine jm_icmp_ne 244 C dX6_shoot_226 rfl (by omega) (by decide) (fun yc91 => ?_) (fun yc91 => ?_)
                    · skip
                      refine jm_iconst C dX6_shoot_244 ?_
                      refine jm_lvs (lv' := [(0, _), (1, _), (9, _), (11, _)]) (jm_sub_c rfl (jm_sub_c rfl (jm_sub_c rfl (jm_sub_c rfl (jm_sub_0 _))))) ?_
                      exact yj93 _ (Or.inr (Or.inr ⟨yc91, rfl⟩)) (by decide)
                    · skip
                      refine jm_aload_n C dX6_shoot_229 rfl ?_
                      refine jm_getr (ci := 6) (f := 19) C rfl jw_u_6 Q.1.1 Q.1.2 rfl (by decide) jw_f_RX6_57 dX6_shoot_230 ?_
                      refine jm_iload_n C dX6_shoot_233 rfl ?_
                      refine jm_ialdv (I 319 g) (Eq.trans (jm_up_n (Or.inl (by decide))) (Eq.trans (jm_up_n (Or.inl (by decide))) (Eq.trans (jm_up_n (Or.inl (by decide))) (Eq.trans (hk_filo_o (Or.inl (by decide))) (Eq.trans (congrFun (hMJ 319 (by decide) (by decide)) _) (congrFun (hJn 319 (by decide)) _)))))) C (jm_X6_319 Q).1 rfl (jm_X6_319 Q).2 (by omega) (by omega) (by omega) dX6_shoot_234 (fun yr101 => ?_)
                      refine jm_iload C dX6_shoot_235 rfl ?_
                      refine jm_icmp_ge 244 C dX6_shoot_237 rfl (by omega) (by decide) (fun yc102 => ?_) (fun yc102 => ?_)
                      · skip
                        refine jm_iconst C dX6_shoot_244 ?_
                        refine jm_lvs (lv' := [(0, _), (1, _), (9, _), (11, _)]) (jm_sub_c rfl (jm_sub_c rfl (jm_sub_c rfl (jm_sub_c rfl (jm_sub_0 _))))) ?_
                        exact yj93 _ (Or.inl ⟨yc91, yc102, rfl⟩) (by decide)
                      · skip
                        refine jm_iconst C dX6_shoot_240 ?_
                        refine jm_goto 245 C dX6_shoot_241 rfl ?_
                        refine jm_lvs (lv' := [(0, _), (1, _), (9, _), (11, _)]) (jm_sub_c rfl (jm_sub_c rfl (jm_sub_c rfl (jm_sub_c rfl (jm_sub_0 _))))) ?_
                        exact yj93 _ (Or.inr (Or.inl ⟨yc91, yc102, rfl⟩)) (by decide)
                  · skip
                    refine jm_iload C dX6_shoot_179 rfl ?_
                    refine jm_cSd (n := 1) [] C (kX6_distance E w (jm_up (hk_filo M 305 (549 * (I 314 g)) ((m : Nat) : Int) (M 324)) 317 g ((I 317 g) + 1)) _ (by omega)) jw_m_RX6_115 okX6_distance rfl ⟨rfl, rfl⟩ ⟨Nat.le_of_ble_eq_true rfl, Nat.le_of_ble_eq_true rfl⟩ rfl rfl (Nat.le_of_ble_eq_true rfl) dX6_shoot_181 ⟨Nat.le_of_ble_eq_true rfl, Nat.le_of_ble_eq_true rfl⟩ (fun yz104 yh103 => ?_)
                    subst yh103
                    have yh103r := hk_dis_R (p := M 325 (hk_mslot I g)) (by omega)
                    refine jm_goto 189 C dX6_shoot_184 rfl ?_
                    refine jm_istore C dX6_shoot_189 (by decide) ?_
                    refine jm_aload_n C dX6_shoot_191 rfl ?_
                    refine jm_getr (ci := 6) (f := 22) C rfl jw_u_6 Q.1.1 Q.1.2 rfl (by decide) jw_f_RX6_66 dX6_shoot_192 ?_
                    refine jm_iload C dX6_shoot_195 rfl ?_
                    refine jm_dup2 C dX6_shoot_197 rfl rfl ?_
                    refine jm_ialdv (I 322 (I 310 g)) (Eq.trans (jm_up_n (Or.inl (by decide))) (Eq.trans (hk_filo_o (Or.inl (by decide))) (Eq.trans (congrFun (hMJ 322 (by decide) (by decide)) _) (congrFun (hJn 322 (by decide)) _)))) C (jm_X6_322 Q).1 rfl (jm_X6_322 Q).2 (by omega) (by omega) (by omega) dX6_shoot_198 (fun yr105 => ?_)
                    refine jm_iconst C dX6_shoot_199 ?_
                    refine jm_iadd C dX6_shoot_200 ?_
                    refine jm_iast C (jm_X6_322 Q).1 rfl (jm_X6_322 Q).2 (by omega) (by omega) (by omega) dX6_shoot_201 (by omega) ?_
                    refine jm_aload_n C dX6_shoot_202 rfl ?_
                    refine jm_getr (ci := 6) (f := 23) C rfl jw_u_6 Q.1.1 Q.1.2 rfl (by decide) jw_f_RX6_69 dX6_shoot_203 ?_
                    refine jm_iload C dX6_shoot_206 rfl ?_
                    refine jm_dup2 C dX6_shoot_208 rfl rfl ?_
                    refine jm_ialdv (I 323 (I 310 g)) (Eq.trans (jm_up_n (Or.inl (by decide))) (Eq.trans (jm_up_n (Or.inl (by decide))) (Eq.trans (hk_filo_o (Or.inl (by decide))) (Eq.trans (congrFun (hMJ 323 (by decide) (by decide)) _) (congrFun (hJn 323 (by decide)) _))))) C (jm_X6_323 Q).1 rfl (jm_X6_323 Q).2 (by omega) (by omega) (by omega) dX6_shoot_209 (fun yr106 => ?_)
                    refine jm_iload C dX6_shoot_210 rfl ?_
                    refine jm_iadd C dX6_shoot_212 ?_
                    refine jm_iast C (jm_X6_323 Q).1 rfl (jm_X6_323 Q).2 (by omega) (by omega) (by omega) dX6_shoot_213 (by omega) ?_
                    refine jm_aload_n C dX6_shoot_214 rfl ?_
                    refine jm_getr (ci := 6) (f := 18) C rfl jw_u_6 Q.1.1 Q.1.2 rfl (by decide) jw_f_RX6_54 dX6_shoot_215 ?_
                    refine jm_iload_n C dX6_shoot_218 rfl ?_
                    refine jm_aload_n C dX6_shoot_219 rfl ?_
                    refine jm_getr (ci := 6) (f := 17) C rfl jw_u_6 Q.1.1 Q.1.2 rfl (by decide) jw_f_RX6_51 dX6_shoot_220 ?_
                    refine jm_iload_n C dX6_shoot_223 rfl ?_
                    refine jm_ialdv ((I 317 g) + 1) (Eq.trans (jm_up_n (Or.inl (by decide))) (Eq.trans (jm_up_n (Or.inl (by decide))) (jm_up_s _ _ _ _))) C (jm_X6_317 Q).1 rfl (jm_X6_317 Q).2 (by omega) (by omega) (by omega) dX6_shoot_224 (fun yr107 => ?_)
                    refine jm_iconst C dX6_shoot_225 ?_
                    have yj110 : ∀ (yz109 : Int), (((I 317 g) + 1 = 2 ∧ hk_dis (M 325 (hk_mslot I g)) ≤ I 319 g ∧ yz109 = 1) ∨ ((I 317 g) + 1 = 2 ∧ ¬ (hk_dis (M 325 (hk_mslot I g)) ≤ I 319 g) ∧ yz109 = 0) ∨ (¬ ((I 317 g) + 1 = 2) ∧ yz109 = 1)) → jm_R yz109 → jm_J E G (0, 0) w (jm_up (jm_up (jm_up (hk_filo M 305 (549 * (I 314 g)) ((m : Nat) : Int) (M 324)) 317 g ((I 317 g) + 1)) 322 (I 310 g) ((I 322 (I 310 g)) + 1)) 323 (I 310 g) ((I 323 (I 310 g)) + (hk_dis (M 325 (hk_mslot I g))))) 245 [(0, .ref (w.2.1 300)), (1, jm_v g), (9, jm_v (M 325 (hk_mslot I g))), (11, jm_v (hk_dis (M 325 (hk_mslot I g))))] [jm_v yz109, jm_v g, .ref (w.2.1 318)] := by
                      intro yz109 ye111 ryz109
                      refine jm_iast C (jm_X6_318 Q).1 rfl (jm_X6_318 Q).2 (by omega) (by omega) (by omega) dX6_shoot_245 (by omega) ?_
                      refine jm_aload_n C dX6_shoot_246 rfl ?_
                      refine jm_getr (ci := 6) (f := 19) C rfl jw_u_6 Q.1.1 Q.1.2 rfl (by decide) jw_f_RX6_57 dX6_shoot_247 ?_
                      refine jm_iload_n C dX6_shoot_250 rfl ?_
                      refine jm_iload C dX6_shoot_251 rfl ?_
                      refine jm_iast C (jm_X6_319 Q).1 rfl (jm_X6_319 Q).2 (by omega) (by omega) (by omega) dX6_shoot_253 (by omega) ?_
                      refine jm_aload_n C dX6_shoot_254 rfl ?_
                      refine jm_getr (ci := 6) (f := 9) C rfl jw_u_6 Q.1.1 Q.1.2 rfl (by decide) jw_f_RX6_27 dX6_shoot_255 ?_
                      refine jm_iload_n C dX6_shoot_258 rfl ?_
                      refine jm_aload_n C dX6_shoot_259 rfl ?_
                      refine jm_getr (ci := 6) (f := 17) C rfl jw_u_6 Q.1.1 Q.1.2 rfl (by decide) jw_f_RX6_51 dX6_shoot_260 ?_
                      refine jm_iload_n C dX6_shoot_263 rfl ?_
                      refine jm_ialdv ((I 317 g) + 1) (Eq.trans (jm_up_n (Or.inl (by decide))) (Eq.trans (jm_up_n (Or.inl (by decide))) (Eq.trans (jm_up_n (Or.inl (by decide))) (Eq.trans (jm_up_n (Or.inl (by decide))) (jm_up_s _ _ _ _))))) C (jm_X6_317 Q).1 rfl (jm_X6_317 Q).2 (by omega) (by omega) (by omega) dX6_shoot_264 (fun yr112 => ?_)
                      refine jm_iconst C dX6_shoot_265 ?_
                      have yj115 : ∀ (yz114 : Int), (((I 317 g) + 1 = 2 ∧ yz114 = 2) ∨ (¬ ((I 317 g) + 1 = 2) ∧ yz114 = 1)) → jm_R yz114 → jm_J E G (0, 0) w (jm_up (jm_up (jm_up (jm_up (jm_up (hk_filo M 305 (549 * (I 314 g)) ((m : Nat) : Int) (M 324)) 317 g ((I 317 g) + 1)) 322 (I 310 g) ((I 322 (I 310 g)) + 1)) 323 (I 310 g) ((I 323 (I 310 g)) + (hk_dis (M 325 (hk_mslot I g))))) 318 g yz109) 319 g (hk_dis (M 325 (hk_mslot I g)))) 274 [(0, .ref (w.2.1 300)), (1, jm_v g), (9, jm_v (M 325 (hk_mslot I g)))] [jm_v yz114, jm_v g, .ref (w.2.1 309)] := by
                        intro yz114 ye116 ryz114
                        refine jm_iast C (jm_X6_309 Q).1 rfl (jm_X6_309 Q).2 (by omega) (by omega) (by omega) dX6_shoot_274 (by omega) ?_
                        refine jm_aload_n C dX6_shoot_275 rfl ?_
                        refine jm_getr (ci := 6) (f := 17) C rfl jw_u_6 Q.1.1 Q.1.2 rfl (by decide) jw_f_RX6_51 dX6_shoot_276 ?_
                        refine jm_iload_n C dX6_shoot_279 rfl ?_
                        refine jm_aload_n C dX6_shoot_280 rfl ?_
                        refine jm_getr (ci := 6) (f := 17) C rfl jw_u_6 Q.1.1 Q.1.2 rfl (by decide) jw_f_RX6_51 dX6_shoot_281 ?_
                        refine jm_iload_n C dX6_shoot_284 rfl ?_
                        refine jm_ialdv ((I 317 g) + 1) (Eq.trans (jm_up_n (Or.inl (by decide))) (Eq.trans (jm_up_n (Or.inl (by decide))) (Eq.trans (jm_up_n (Or.inl (by decide))) (Eq.trans (jm_up_n (Or.inl (by decide))) (Eq.trans (jm_up_n (Or.inl (by decide))) (jm_up_s _ _ _ _)))))) C (jm_X6_317 Q).1 rfl (jm_X6_317 Q).2 (by omega) (by omega) (by omega) dX6_shoot_285 (fun yr117 => ?_)
                        refine jm_iconst C dX6_shoot_286 ?_
                        refine jm_irem C dX6_shoot_287 (by omega) (by decide) (by decide) ?_
                        refine jm_iast C (jm_X6_317 Q).1 rfl (jm_X6_317 Q).2 (by omega) (by omega) (by omega) dX6_shoot_288 (by omega) ?_
                        refine jm_iload C dX6_shoot_289 rfl ?_
                        exact hR _ _ _ _ dX6_shoot_291 rfl ⟨Or.inl ⟨hgi, hst0, htt, Eq.trans (Eq.trans (jm_up_n (Or.inl (by decide))) (Eq.trans (jm_up_n (Or.inl (by decide))) (Eq.trans (jm_up_n (Or.inl (by decide))) (Eq.trans (jm_up_n (Or.inl (by decide))) (Eq.trans (jm_up_n (Or.inl (by decide))) (Eq.trans (jm_up_n (Or.inl (by decide))) (Eq.trans (jm_up_n (Or.inl (by decide))) (hk_filo_o (Or.inl (by decide)))))))))) (by rw [hMJ 300 (by decide) (by decide), hJz]; exact jm_up_s _ _ _ _)⟩, fun _ _ _ => ⟨by
                            rw [← hMe]
                            unfold hk_msh
                            rw [if_pos (show I 309 g = 1 by omega)]
                            have c1 : hk_team I g = I 310 g := by unfold hk_team; first | rw [if_pos (show hk_mturn I g = 0 by omega)] | rw [if_neg (show ¬ hk_mturn I g = 0 by omega)]
                            have c2 : hk_far (M 325 (hk_mslot I g)) = hk_dis (M 325 (hk_mslot I g)) := by unfold hk_far; first | rw [if_pos (by omega)] | rw [if_neg (by omega)]
                            have c3 : yz109 = if I 317 g + 1 = 2 ∧ I 319 g < hk_dis (M 325 (hk_mslot I g)) then 0 else 1 := by split <;> omega
                            have c4 : yz114 = if I 317 g + 1 = 2 then 2 else 1 := by split <;> omega
                            rw [c1, c2]
                            unfold hk_msD hk_msA
                            rw [← c3, ← c4, show m = 549 by omega]
                            rfl, by rw [gg3]⟩, fun q => absurd ⟨hgi, hst0, htt⟩ q⟩
                      refine jm_icmp_ne 273 C dX6_shoot_266 rfl (by omega) (by decide) (fun yc113 => ?_) (fun yc113 => ?_)
                      · skip
                        refine jm_iconst C dX6_shoot_273 ?_
                        refine jm_lvs (lv' := [(0, _), (1, _), (9, _)]) (jm_sub_c rfl (jm_sub_c rfl (jm_sub_c rfl (jm_sub_0 _)))) ?_
                        exact yj115 _ (Or.inr ⟨yc113, rfl⟩) (by decide)
                      · skip
                        refine jm_iconst C dX6_shoot_269 ?_
                        refine jm_goto 274 C dX6_shoot_270 rfl ?_
                        refine jm_lvs (lv' := [(0, _), (1, _), (9, _)]) (jm_sub_c rfl (jm_sub_c rfl (jm_sub_c rfl (jm_sub_0 _)))) ?_
                        exact yj115 _ (Or.inl ⟨yc113, rfl⟩) (by decide)
                    refine jm_icmp_ne 244 C dX6_shoot_226 rfl (by omega) (by decide) (fun yc108 => ?_) (fun yc108 => ?_)
                    · skip
                      refine jm_iconst C dX6_shoot_244 ?_
                      refine jm_lvs (lv' := [(0, _), (1, _), (9, _), (11, _)]) (jm_sub_c rfl (jm_sub_c rfl (jm_sub_c rfl (jm_sub_c rfl (jm_sub_0 _))))) ?_
                      exact yj110 _ (Or.inr (Or.inr ⟨yc108, rfl⟩)) (by decide)
                    · skip
                      refine jm_aload_n C dX6_shoot_229 rfl ?_
                      refine jm_getr (ci := 6) (f := 19) C rfl jw_u_6 Q.1.1 Q.1.2 rfl (by decide) jw_f_RX6_57 dX6_shoot_230 ?_
                      refine jm_iload_n C dX6_shoot_233 rfl ?_
                      refine jm_ialdv (I 319 g) (Eq.trans (jm_up_n (Or.inl (by decide))) (Eq.trans (jm_up_n (Or.inl (by decide))) (Eq.trans (jm_up_n (Or.inl (by decide))) (Eq.trans (hk_filo_o (Or.inl (by decide))) (Eq.trans (congrFun (hMJ 319 (by decide) (by decide)) _) (congrFun (hJn 319 (by decide)) _)))))) C (jm_X6_319 Q).1 rfl (jm_X6_319 Q).2 (by omega) (by omega) (by omega) dX6_shoot_234 (fun yr118 => ?_)
                      refine jm_iload C dX6_shoot_235 rfl ?_
                      refine jm_icmp_ge 244 C dX6_shoot_237 rfl (by omega) (by omega) (fun yc119 => ?_) (fun yc119 => ?_)
                      · skip
                        refine jm_iconst C dX6_shoot_244 ?_
                        refine jm_lvs (lv' := [(0, _), (1, _), (9, _), (11, _)]) (jm_sub_c rfl (jm_sub_c rfl (jm_sub_c rfl (jm_sub_c rfl (jm_sub_0 _))))) ?_
                        exact yj110 _ (Or.inl ⟨yc108, yc119, rfl⟩) (by decide)
                      · skip
                        refine jm_iconst C dX6_shoot_240 ?_
                        refine jm_goto 245 C dX6_shoot_241 rfl ?_
                        refine jm_lvs (lv' := [(0, _), (1, _), (9, _), (11, _)]) (jm_sub_c rfl (jm_sub_c rfl (jm_sub_c rfl (jm_sub_c rfl (jm_sub_0 _))))) ?_
                        exact yj110 _ (Or.inr (Or.inl ⟨yc108, yc119, rfl⟩)) (by decide)
            · skip
              refine jm_aload_n C dX6_shoot_84 rfl ?_
              refine jm_getr (ci := 6) (f := 5) C rfl jw_u_6 Q.1.1 Q.1.2 rfl (by decide) jw_f_RX6_16 dX6_shoot_85 ?_
              refine jm_sipush C dX6_shoot_88 (by decide +kernel) ?_
              refine jm_aload_n C dX6_shoot_91 rfl ?_
              refine jm_getr (ci := 6) (f := 14) C rfl jw_u_6 Q.1.1 Q.1.2 rfl (by decide) jw_f_RX6_42 dX6_shoot_92 ?_
              refine jm_iload_n C dX6_shoot_95 rfl ?_
              refine jm_ialdv (I 314 g) (Eq.trans (hk_filo_o (Or.inl (by decide))) (Eq.trans (congrFun (hMJ 314 (by decide) (by decide)) _) (congrFun (hJn 314 (by decide)) _))) C (jm_X6_314 Q).1 rfl (jm_X6_314 Q).2 (by omega) (by omega) (by omega) dX6_shoot_96 (fun yr120 => ?_)
              refine jm_imul C dX6_shoot_97 ?_
              refine jm_iload C dX6_shoot_98 rfl ?_
              refine jm_iadd C dX6_shoot_100 ?_
              refine jm_aload_n C dX6_shoot_101 rfl ?_
              refine jm_getr (ci := 6) (f := 24) C rfl jw_u_6 Q.1.1 Q.1.2 rfl (by decide) jw_f_RX6_72 dX6_shoot_102 ?_
              refine jm_iload C dX6_shoot_105 rfl ?_
              refine jm_ialdv (M 324 ((m : Nat) : Int)) (hk_filo_o (Or.inl (by decide))) C (jm_X6_324 Q).1 rfl (jm_X6_324 Q).2 (by omega) (by omega) (by omega) dX6_shoot_107 (fun yr121 => ?_)
              refine jm_iast C (jm_X6_305 Q).1 rfl (jm_X6_305 Q).2 (by omega) (by omega) (by omega) dX6_shoot_108 (by omega) ?_
              refine jm_iinc C dX6_shoot_109 (by decide) rfl ?_
              refine jm_goto 76 C dX6_shoot_112 rfl ?_
              refine jm_mq (hk_filo_s _ 305 (549 * (I 314 g)) m (M 324) _ rfl).symm ?_
              refine jm_lvs (lv' := [(0, _), (1, _), (8, _), (9, _)]) (jm_sub_c rfl (jm_sub_c rfl (jm_sub_c rfl (jm_sub_c rfl (jm_sub_0 _))))) ?_
              exact ih76 (m + 1) (by omega) (by omega)
        refine jm_mq (hk_filo_0 _ 305 (549 * (I 314 g)) (M 324)) ?_
        refine jm_lvs (lv' := [(0, _), (1, _), (8, _), (9, _)]) (jm_sub_c rfl (jm_sub_c rfl (jm_sub_c rfl (jm_sub_c rfl (jm_sub_0 _))))) ?_
        exact lp76 _ 0 (Nat.lt_succ_self _) (Nat.zero_le _)
      · skip
        refine jm_iconst C dX6_shoot_45 ?_
        exact hR _ _ _ _ dX6_shoot_46 rfl ⟨hk_cd3 (jm_up_s _ _ _ _) (by omega) (fun _ => yh3) (by omega), fun q1 q2 q3 => by
            exfalso
            rcases yh3 with ⟨_, e⟩ | ⟨e, _⟩
            · omega
            · exact e q2, fun _ => hk_wk_0 _ _⟩
