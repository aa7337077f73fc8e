set_option maxRecDepth 100000 in
set_option maxHeartbeats 4000000 in
theorem jw_hour {E : jm_E} {G : jm_G} {q : Nat × Nat} {w : jm_W} {I : jm_M} {b L n : Nat} {xs : Nat → Int32} {i T : Int} (hl0 : E.1.stackTraces = false) (C : jm_C E G cL_law 7 RL room_1) (S : jm_SC G b L xs) (h0 : 0 ≤ i) (h6 : i + 6 < L) (hL : L ≤ 3584) (K : hk_LI E w I n T) (hT : 0 ≤ T ∧ T ≤ 1000) (hf : q.1 + 3 ≤ room_1.cells ∧ q.2 + 20 ≤ room_1.slots) (next : ∀ (w1 : jm_W) (I1 : jm_M) (n1 : Nat), hk_LI E w1 I1 n1 (T + 1) → jm_J E G (q.1 + 3, q.2 + 20) w1 I1 1157 (hk_lv b (w1.2.1 0) (w1.2.1 300) (w1.2.1 299) i) []) : jm_J E G q w I 438 (hk_lv b (w.2.1 0) (w.2.1 300) (w.2.1 299) i) [] := by
  obtain ⟨X5, X6, hO, hnd, H, N⟩ := K
  have f0 : q.1 + 0 ≤ room_1.cells ∧ q.2 + 0 ≤ room_1.slots := ⟨by omega, by omega⟩
  refine jm_aload_n C dL_law_438 rfl ?_
  refine jm_cVi (n := 0) (ci := 5) [] C (kX5_hour E w I n X5) jw_m_RL_87 okX5_hour rfl ⟨rfl, rfl⟩ ⟨Nat.le_of_ble_eq_true rfl, Nat.le_of_ble_eq_true rfl⟩ rfl X5.1.1 X5.1.2 rfl rfl (Nat.le_of_ble_eq_true rfl) dL_law_439 f0 (fun I1 z1 h1 => ?_)
  obtain ⟨rfl, rfl⟩ := h1
  refine jm_aload_n C dL_law_442 rfl ?_
  refine jm_cVi (n := 0) (ci := 6) [jm_v (I1 0 5)] C (kX6_hour E w I1 X6) jw_m_RL_90 okX6_hour rfl ⟨rfl, rfl⟩ ⟨Nat.le_of_ble_eq_true rfl, Nat.le_of_ble_eq_true rfl⟩ rfl X6.1.1 X6.1.2 rfl rfl (Nat.le_of_ble_eq_true rfl) dL_law_443 f0 (fun I2 zb hm => ?_)
  obtain ⟨s1, -, s2⟩ := hk_s_hour H hm
  have b5 := H.1.2.1
  refine jm_icmp_eq 1157 C dL_law_446 rfl (by constructor <;> omega) (by constructor <;> omega) (fun _ => ?_) (fun c => absurd s1 c)
  refine jm_hnm X6 (fun I3 N3 e3 => ?_)
  refine jm_wid (q' := (q.1 + 3, q.2 + 20)) (Nat.le_add_right q.1 3) (Nat.le_add_right q.2 20) ?_
  exact next w I3 n ⟨X5, X6, hO, hnd, hk_inv_x s2 (fun a b _ h _ _ _ => e3 a b (by omega) (by omega)) (fun a b _ h1 h2 _ _ _ => e3 a b h1 h2), N3⟩
set_option maxRecDepth 100000 in
set_option maxHeartbeats 4000000 in
theorem jw_plan {E : jm_E} {G : jm_G} {q : Nat × Nat} {w : jm_W} {I : jm_M} {b L n : Nat} {xs : Nat → Int32} {i T : Int} (hl0 : E.1.stackTraces = false) (C : jm_C E G cL_law 7 RL room_1) (S : jm_SC G b L xs) (h0 : 0 ≤ i) (h6 : i + 6 < L) (hL : L ≤ 3584) (K : hk_LI E w I n T) (hT : 0 ≤ T ∧ T ≤ 1000) (hf : q.1 + 3 ≤ room_1.cells ∧ q.2 + 20 ≤ room_1.slots) (next : ∀ (w1 : jm_W) (I1 : jm_M) (n1 : Nat), hk_LI E w1 I1 n1 (T + 1) → jm_J E G (q.1 + 3, q.2 + 20) w1 I1 1157 (hk_lv b (w1.2.1 0) (w1.2.1 300) (w1.2.1 299) i) []) : jm_J E G q w I 116 (hk_lv b (w.2.1 0) (w.2.1 300) (w.2.1 299) i) [] := by
  obtain ⟨X5, X6, hO, hnd, H, N⟩ := K
  have e8 := H.1.1
  have e5 := H.1.2.1
  have hn1 : (n : Int) < 12 → 30 + (n : Int) ∉ w.1 ∧ 30 + (n : Int) + 100 ∉ w.1 ∧ 30 + (n : Int) + 100 + 100 ∉ w.1 := fun hlt => ⟨fun z => by have := hnd _ z; unfold hk_nd at this; omega, fun z => by have := hnd _ z; unfold hk_nd at this; omega, fun z => by have := hnd _ z; unfold hk_nd at this; omega⟩
  refine jm_aload_n C dL_law_116 rfl ?_
  refine jm_arg (k := 1) C S rfl rfl h0 (by decide) h6 hL dL_law_117 dL_law_118 dL_law_120 dL_law_121 dL_law_122 ?_
  refine jm_arg (k := 2) C S rfl rfl h0 (by decide) h6 hL dL_law_123 dL_law_124 dL_law_126 dL_law_127 dL_law_128 ?_
  refine jm_arg (k := 3) C S rfl rfl h0 (by decide) h6 hL dL_law_129 dL_law_130 dL_law_132 dL_law_133 dL_law_134 ?_
  refine jm_arg (k := 4) C S rfl rfl h0 (by decide) h6 hL dL_law_135 dL_law_136 dL_law_138 dL_law_139 dL_law_140 ?_
  refine jm_aload_n C dL_law_141 rfl ?_
  refine jm_cWw (n := 6) [] C (kL_plan E hl0 w I n X5 e8.1 ⟨by omega, by omega⟩ (hk_x xs (i + 1)) (hk_x xs (i + 2)) (hk_x xs (i + 3)) (hk_x xs (i + 4)) (hk_x_R xs (i + 1)) (hk_x_R xs (i + 2)) (hk_x_R xs (i + 3)) (hk_x_R xs (i + 4)) hn1 hO) jw_m_RL_66 okL_plan rfl ⟨rfl, rfl⟩ ⟨Nat.le_of_ble_eq_true rfl, Nat.le_of_ble_eq_true rfl⟩ rfl rfl (Nat.le_of_ble_eq_true rfl) dL_law_142 hf (fun w2 I1 kz hh => ?_)
  rcases hh with ⟨rfl, Ia, v, v', ⟨qa, qb, qn, qv, X5', sm, p1, p2, p3, p4⟩, hv, ev, e1⟩ | ⟨rfl, c, hc, hx, hk⟩
  · have s0 := sm.1 0 X5.1.1
    have s3 := sm.1 300 X6.1.1
    have s9 := sm.1 299 hO.1
    have X6' : jm_X6 E w2 := jm_X6_s X6 (fun z hz a b => ⟨(sm.1 z hz).1, (sm.1 z hz).2.1, (sm.1 z hz).2.2 (by omega) (by omega) (by omega)⟩)
    have hO' : 299 ∈ w2.1 ∧ w2.2.2 299 = jm_La (E.2.2 2) 1 := ⟨s9.1, (s9.2.2 (by decide) (by decide) (by decide)).trans hO.2⟩
    have hnd' : ∀ z, z ∈ w2.1 → hk_nd (n + 1) z := fun z hz => by
      rcases sm.2 z hz with y | y | y | y
      · have := hnd z y
        unfold hk_nd at this ⊢
        omega
      · unfold hk_nd; omega
      · unfold hk_nd; omega
      · unfold hk_nd; omega
    have ea : ∀ a, 300 ≤ a → I1 a = I a := fun a ha => funext fun y => by rw [e1, jm_up_n (Or.inl (by omega)), p3 a (by omega) (by omega) (by omega) (by omega)]
    rw [← s0.2.1, ← s3.2.1, ← s9.2.1]
    have H1 := hk_inv_M H ea
    refine jm_istore C dL_law_145 (Nat.le_of_ble_eq_true rfl) ?_
    refine jm_aload_n C dL_law_147 rfl ?_
    refine jm_arg (k := 1) C S rfl rfl h0 (by decide) h6 hL dL_law_148 dL_law_149 dL_law_151 dL_law_152 dL_law_153 ?_
    refine jm_arg (k := 2) C S rfl rfl h0 (by decide) h6 hL dL_law_154 dL_law_155 dL_law_157 dL_law_158 dL_law_159 ?_
    refine jm_arg (k := 3) C S rfl rfl h0 (by decide) h6 hL dL_law_160 dL_law_161 dL_law_163 dL_law_164 dL_law_165 ?_
    refine jm_arg (k := 4) C S rfl rfl h0 (by decide) h6 hL dL_law_166 dL_law_167 dL_law_169 dL_law_170 dL_law_171 ?_
    refine jm_cVi (n := 4) (ci := 6) [] C (kX6_plan E w2 I1 X6' (hk_m8 H1) H1.1.2.1.2 (hk_x xs (i + 1)) (hk_x xs (i + 2)) (hk_x xs (i + 3)) (hk_x xs (i + 4)) (hk_x_R xs (i + 1)) (hk_x_R xs (i + 2)) (hk_x_R xs (i + 3)) (hk_x_R xs (i + 4))) jw_m_RL_71 okX6_plan rfl ⟨rfl, rfl⟩ ⟨Nat.le_of_ble_eq_true rfl, Nat.le_of_ble_eq_true rfl⟩ rfl X6'.1.1 X6'.1.2 rfl rfl (Nat.le_of_ble_eq_true rfl) dL_law_172 hf (fun I2 zb hm => ?_)
    refine jw_tail 175 C X6' hO' (hk_s_plan H qa qb qn qv p1 p2 p3 p4 hv ev e1 hm) hf dL_law_175 dL_law_177 dL_law_178 dL_law_181 dL_law_183 dL_law_188 dL_law_190 dL_law_193 dL_law_194 dL_law_195 dL_law_196 dL_law_198 dL_law_199 dL_law_200 dL_law_205 rfl (fun I3 H3 N3 => ?_)
    refine jm_wid (q' := (q.1 + 3, q.2 + 20)) (Nat.le_refl _) (Nat.le_refl _) ?_
    exact next w2 I3 (n + 1) ⟨by rw [show ((n + 1 : Nat) : Int) = (n : Int) + 1 from by omega]; exact X5', X6', hO', hnd', H3, N3⟩
  · have ea : ∀ a, 300 ≤ a → I1 a = I a := fun a _ => by rw [hx.1]
    have H1 := hk_inv_M H ea
    refine jm_istore C dL_law_145 (Nat.le_of_ble_eq_true rfl) ?_
    refine jm_aload_n C dL_law_147 rfl ?_
    refine jm_arg (k := 1) C S rfl rfl h0 (by decide) h6 hL dL_law_148 dL_law_149 dL_law_151 dL_law_152 dL_law_153 ?_
    refine jm_arg (k := 2) C S rfl rfl h0 (by decide) h6 hL dL_law_154 dL_law_155 dL_law_157 dL_law_158 dL_law_159 ?_
    refine jm_arg (k := 3) C S rfl rfl h0 (by decide) h6 hL dL_law_160 dL_law_161 dL_law_163 dL_law_164 dL_law_165 ?_
    refine jm_arg (k := 4) C S rfl rfl h0 (by decide) h6 hL dL_law_166 dL_law_167 dL_law_169 dL_law_170 dL_law_171 ?_
    refine jm_cVi (n := 4) (ci := 6) [] C (kX6_plan E w2 I1 X6 (hk_m8 H1) H1.1.2.1.2 (hk_x xs (i + 1)) (hk_x xs (i + 2)) (hk_x xs (i + 3)) (hk_x xs (i + 4)) (hk_x_R xs (i + 1)) (hk_x_R xs (i + 2)) (hk_x_R xs (i + 3)) (hk_x_R xs (i + 4))) jw_m_RL_71 okX6_plan rfl ⟨rfl, rfl⟩ ⟨Nat.le_of_ble_eq_true rfl, Nat.le_of_ble_eq_true rfl⟩ rfl X6.1.1 X6.1.2 rfl rfl (Nat.le_of_ble_eq_true rfl) dL_law_172 hf (fun I2 zb hm => ?_)
    refine jw_tail 175 C X6 hO (hk_s_planf H hc hx hk hm) hf dL_law_175 dL_law_177 dL_law_178 dL_law_181 dL_law_183 dL_law_188 dL_law_190 dL_law_193 dL_law_194 dL_law_195 dL_law_196 dL_law_198 dL_law_199 dL_law_200 dL_law_205 rfl (fun I3 H3 N3 => ?_)
    refine jm_wid (q' := (q.1 + 3, q.2 + 20)) (Nat.le_refl _) (Nat.le_refl _) ?_
    exact next w2 I3 n ⟨X5, X6, hO, hnd, H3, N3⟩
theorem hk_lv_sub2 {b r0 r1 r2 : Nat} {i j : Int} : jm_subb (hk_lv b r0 r1 r2 j) ((4, jm_v j) :: hk_lv b r0 r1 r2 i) := by
  intro k v h
  match k with
  | 0 => exact h
  | 1 => exact h
  | 2 => exact h
  | 3 => exact h
  | 4 => exact h
  | k + 5 => exact nomatch h
set_option maxRecDepth 100000 in
set_option maxHeartbeats 4000000 in
theorem jw_head {E : jm_E} {G : jm_G} {q : Nat × Nat} {w : jm_W} {I : jm_M} {b L n : Nat} {xs : Nat → Int32} {i T : Int} (hl0 : E.1.stackTraces = false) (C : jm_C E G cL_law 7 RL room_1) (S : jm_SC G b L xs) (h0 : 0 ≤ i ∧ i ≤ 3584) (hL : L ≤ 3584) (K : hk_LI E w I n T) (hT : 0 ≤ T ∧ T ≤ 1000) (hf : q.1 + 3 ≤ room_1.cells ∧ q.2 + 20 ≤ room_1.slots) (fin : ∀ lv, jm_J E G q w I 1163 lv []) (next : i + 7 ≤ L → ∀ (w1 : jm_W) (I1 : jm_M) (n1 : Nat), hk_LI E w1 I1 n1 (T + 1) → jm_J E G (q.1 + 3, q.2 + 20) w1 I1 23 (hk_lv b (w1.2.1 0) (w1.2.1 300) (w1.2.1 299) (i + 7)) []) : jm_J E G q w I 23 (hk_lv b (w.2.1 0) (w.2.1 300) (w.2.1 299) i) [] := by
  refine jm_iload C dL_law_23 rfl ?_
  refine jm_aload_n C dL_law_25 rfl ?_
  refine jm_slen C S dL_law_26 ?_
  refine jm_bipush C dL_law_27 (by decide +kernel) ?_
  refine jm_isub C dL_law_29 ?_
  refine jm_icmp_gt 1163 C dL_law_30 rfl (by constructor <;> omega) (by constructor <;> omega) (fun c => fin _) (fun c => ?_)
  have h6 : i + 6 < L := by omega
  have nx : ∀ (w1 : jm_W) (I1 : jm_M) (n1 : Nat), hk_LI E w1 I1 n1 (T + 1) → jm_J E G (q.1 + 3, q.2 + 20) w1 I1 1157 (hk_lv b (w1.2.1 0) (w1.2.1 300) (w1.2.1 299) i) [] := by
    intro w1 I1 n1 K1
    refine jm_iinc C dL_law_1157 (by decide) rfl ?_
    refine jm_goto 23 C dL_law_1160 rfl ?_
    refine jm_lvs hk_lv_sub2 ?_
    exact next (by omega) w1 I1 n1 K1
  refine jm_aload_n C dL_law_33 rfl ?_
  refine jm_iload C dL_law_34 rfl ?_
  refine jm_sld C S h0.1 (by omega) (by constructor <;> omega) dL_law_36 ?_
  refine jm_bipush C dL_law_37 (by decide +kernel) ?_
  refine jm_iand C dL_law_39 ?_
  obtain ⟨v, hv⟩ : ∃ v, v = (jm_i (hk_x xs i) &&& jm_i 15).toInt := ⟨_, rfl⟩
  have vR : jm_R v := by rw [hv]; exact jm_R_of _
  rw [← hv]
  clear hv
  by_cases c0 : v = 0
  · rw [c0]
    exact jm_swI 116 C dL_law_40 (by decide) (by decide) (by decide) rfl rfl (jw_plan hl0 C S h0.1 h6 hL K hT hf nx)
  by_cases c1 : v = 1
  · rw [c1]
    exact jm_swI 208 C dL_law_40 (by decide) (by decide) (by decide) rfl rfl (jw_crew hl0 C S h0.1 h6 hL K hT hf nx)
  by_cases c2 : v = 2
  · rw [c2]
    exact jm_swI 264 C dL_law_40 (by decide) (by decide) (by decide) rfl rfl (jw_shoot hl0 C S h0.1 h6 hL K hT hf nx)
  by_cases c3 : v = 3
  · rw [c3]
    exact jm_swI 382 C dL_law_40 (by decide) (by decide) (by decide) rfl rfl (jw_pass hl0 C S h0.1 h6 hL K hT hf nx)
  by_cases c4 : v = 4
  · rw [c4]
    exact jm_swI 438 C dL_law_40 (by decide) (by decide) (by decide) rfl rfl (jw_hour hl0 C S h0.1 h6 hL K hT hf nx)
  by_cases c5 : v = 5
  · rw [c5]
    exact jm_swI 451 C dL_law_40 (by decide) (by decide) (by decide) rfl rfl (jw_ofSheet hl0 C S h0.1 h6 hL K hT hf nx)
  by_cases c6 : v = 6
  · rw [c6]
    exact jm_swI 519 C dL_law_40 (by decide) (by decide) (by decide) rfl rfl (jw_wear hl0 C S h0.1 h6 hL K hT hf nx)
  by_cases c7 : v = 7
  · rw [c7]
    exact jm_swI 599 C dL_law_40 (by decide) (by decide) (by decide) rfl rfl (jw_ofGame hl0 C S h0.1 h6 hL K hT hf nx)
  by_cases c8 : v = 8
  · rw [c8]
    exact jm_swI 667 C dL_law_40 (by decide) (by decide) (by decide) rfl rfl (jw_stone hl0 C S h0.1 h6 hL K hT hf nx)
  by_cases c9 : v = 9
  · rw [c9]
    exact jm_swI 747 C dL_law_40 (by decide) (by decide) (by decide) rfl rfl (jw_wouldScore hl0 C S h0.1 h6 hL K hT hf nx)
  by_cases c10 : v = 10
  · rw [c10]
    exact jm_swI 803 C dL_law_40 (by decide) (by decide) (by decide) rfl rfl (jw_wouldScoreAnew hl0 C S h0.1 h6 hL K hT hf nx)
  by_cases c11 : v = 11
  · rw [c11]
    exact jm_swI 859 C dL_law_40 (by decide) (by decide) (by decide) rfl rfl (jw_tries hl0 C S h0.1 h6 hL K hT hf nx)
  by_cases c12 : v = 12
  · rw [c12]
    exact jm_swI 977 C dL_law_40 (by decide) (by decide) (by decide) rfl rfl (jw_advice hl0 C S h0.1 h6 hL K hT hf nx)
  by_cases c13 : v = 13
  · rw [c13]
    exact jm_swI 1033 C dL_law_40 (by decide) (by decide) (by decide) rfl rfl (jw_standing hl0 C S h0.1 h6 hL K hT hf nx)
  by_cases c14 : v = 14
  · rw [c14]
    exact jm_swI 1089 C dL_law_40 (by decide) (by decide) (by decide) rfl rfl (jw_ofTeam hl0 C S h0.1 h6 hL K hT hf nx)
  refine jm_swO 1157 C dL_law_40 vR (by omega) rfl ?_
  obtain ⟨X5, X6, hO, hnd, H, N⟩ := K
  refine jm_wid (q' := (q.1 + 3, q.2 + 20)) (Nat.le_add_right q.1 3) (Nat.le_add_right q.2 20) ?_
  exact nx w I n ⟨X5, X6, hO, hnd, hk_inv_T H (by omega), N⟩
theorem jw_loop {E : jm_E} {G : jm_G} {b L : Nat} {xs : Nat → Int32} (hl0 : E.1.stackTraces = false) (C : jm_C E G cL_law 7 RL room_1) (S : jm_SC G b L xs) (hL : L ≤ 3584) (fin : ∀ (q : Nat × Nat) (w : jm_W) (I : jm_M) lv, q.1 ≤ 601024 → q.2 ≤ 7293034 → jm_J E G q w I 1163 lv []) : ∀ (m T : Nat) (w : jm_W) (I : jm_M) (n : Nat), T + m = 512 → hk_LI E w I n T → jm_J E G (100 + 3 * T, 5000 + 20 * T) w I 23 (hk_lv b (w.2.1 0) (w.2.1 300) (w.2.1 299) (7 * T)) []
  | 0, T, w, I, n, hm, K => by
    refine jw_head (T := T) hl0 C S (by omega) hL K (by omega) ⟨?_, ?_⟩ (fun lv => fin _ w I lv ?_ ?_) (fun h => ?_)
    · show 100 + 3 * T + 3 ≤ 601024; omega
    · show 5000 + 20 * T + 20 ≤ 7293034; omega
    · show 100 + 3 * T ≤ 601024; omega
    · show 5000 + 20 * T ≤ 7293034; omega
    · omega
  | m + 1, T, w, I, n, hm, K => by
    refine jw_head (T := T) hl0 C S (by omega) hL K (by omega) ⟨?_, ?_⟩ (fun lv => fin _ w I lv ?_ ?_) (fun h w1 I1 n1 K1 => ?_)
    · show 100 + 3 * T + 3 ≤ 601024; omega
    · show 5000 + 20 * T + 20 ≤ 7293034; omega
    · show 100 + 3 * T ≤ 601024; omega
    · show 5000 + 20 * T ≤ 7293034; omega
    · have g := jw_loop hl0 C S hL fin m (T + 1) w1 I1 n1 (by omega) K1
      rw [show 7 * (((T + 1 : Nat)) : Int) = 7 * (T : Int) + 7 from by omega] at g
      exact g

