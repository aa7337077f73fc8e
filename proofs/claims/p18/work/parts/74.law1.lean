/-! THE LAW: A TURN'S END, HOURS, PLANS -/
abbrev hq_l0 (b r0 r1 : Nat) (n k : Int) : List (Nat × Value) := [(5, jm_v k), (4, jm_v 1), (3, jm_v n), (2, .ref r1), (1, .ref r0), (0, .ref b)]
abbrev hq_lv (b r0 r1 : Nat) (n k v : Int) : List (Nat × Value) := [(7, jm_v v), (5, jm_v k), (4, jm_v 1), (3, jm_v n), (2, .ref r1), (1, .ref r0), (0, .ref b)]
theorem jm_Mw_p {E : jm_E} {y : MethodName} {ws : List Cond} {rm : Room} {mc ms : Nat} {w : jm_W} {I : jm_M} {as : List Value} {post : jm_W → jm_M → Int → Prop} (h : jm_Mw E y ws rm mc ms (hk_sw w) (hk_sI I) (.ref ((hk_sw w).2.1 0) :: as) post) : jm_Mw E y ws rm mc ms w I (.ref (w.2.1 1000) :: as) (fun w' I' z => post (hk_sw w') (hk_sI I') z) := by
  rw [hk_sw0] at h
  exact jm_Mw_s h
/-- the first house's rows told anew, where the second has grown -/
theorem jq_ren1 {E : jm_E} {G : jm_G} {q : Nat × Nat} {w w' : jm_W} {I : jm_M} {pc : Nat} {lv : List (Nat × Value)} {st : List Value} {n m : Int} (X1 : jm_X5 E w n) (X2 : jm_X5 E (hk_sw w') m) (S : ∀ z, z ∈ w.1 → 0 ≤ z → z < 300 → z ∈ w'.1 ∧ w'.2.1 z = w.2.1 z ∧ w'.2.2 z = w.2.2 z)
    (kk : ∀ w5 : jm_W, w5.2.1 = w'.2.1 → w5.1 = w'.1 → jm_X5 E w5 n → jm_X5 E (hk_sw w5) m → jm_J E G q w5 I pc lv st) : jm_J E G q w' I pc lv st := by
  refine jq_renorm X1 S (fun w5 e1 e2 e3 hX => kk w5 e1 e2 hX (jq_X5_t X2 ?_ (fun z hz h0 h1 => ?_)))
  · funext k
    show w5.2.1 (hk_s k) = w'.2.1 (hk_s k)
    rw [e1]
  · have m1 := hk_sw_m.mp hz
    refine ⟨hk_sw_m.mpr (by rw [e2]; exact m1), ?_⟩
    show w5.2.2 (hk_s z) = w'.2.2 (hk_s z)
    have ez := hk_s_a ⟨h0, h1⟩
    exact e3 _ m1 (by omega) (by omega)
/-- the second house's rows told anew, where the first has grown -/
theorem jq_ren2 {E : jm_E} {G : jm_G} {q : Nat × Nat} {w w' : jm_W} {I : jm_M} {pc : Nat} {lv : List (Nat × Value)} {st : List Value} {n m : Int} (X2 : jm_X5 E (hk_sw w) n) (X1 : jm_X5 E w' m) (S : ∀ z, z ∈ w.1 → 1000 ≤ z → z < 1300 → z ∈ w'.1 ∧ w'.2.1 z = w.2.1 z ∧ w'.2.2 z = w.2.2 z)
    (kk : ∀ w3 : jm_W, w3.2.1 = w'.2.1 → w3.1 = w'.1 → jm_X5 E w3 m → jm_X5 E (hk_sw w3) n → jm_J E G q w3 I pc lv st) : jm_J E G q w' I pc lv st := by
  refine jq_J_s ?_
  refine jq_ren1 (m := m) X2 (by rw [hk_sww]; exact X1) (fun z hz h0 h1 => ?_) (fun u e1 e2 hX hX2 => ?_)
  · have ez := hk_s_a ⟨h0, h1⟩
    have s := S _ (hk_sw_m.mp hz) (by omega) (by omega)
    exact ⟨hk_sw_m.mpr s.1, s.2.1, s.2.2⟩
  · refine jq_J_s ?_
    rw [hk_sII]
    refine kk (hk_sw u) ?_ ?_ hX2 (by rw [hk_sww]; exact hX)
    · funext k
      show u.2.1 (hk_s k) = w'.2.1 k
      rw [e1]
      show w'.2.1 (hk_s (hk_s k)) = _
      rw [hk_ss]
    · have z : (hk_sw u).1 = (hk_sw (hk_sw w')).1 := congrArg (List.map hk_s) e2
      rw [z, hk_sww]
set_option maxRecDepth 100000 in
set_option maxHeartbeats 8000000 in
theorem jq_end {E : jm_E} {G : jm_G} {q : Nat × Nat} {w : jm_W} {I : jm_M} {b n : Nat} {T k v : Int} (hl0 : E.1.stackTraces = false) (C : jm_C E G cL_law 13 RL room_1) (L : hq_L E w I n T) (hn : n ≤ 4) (hv : 0 ≤ v ∧ v ≤ 1073741823) (hf : q.1 + 430 ≤ 600074 ∧ q.2 + 2600 ≤ 7301550) (kk : jm_J E G (q.1 + 430, q.2 + 2600) w I 24 (hq_l0 b (w.2.1 0) (w.2.1 1000) n (k + 1)) []) : jm_J E G q w I 456 (hq_lv b (w.2.1 0) (w.2.1 1000) n k v) [] := by
  refine jm_iload C dL_law_456 rfl ?_
  refine jm_if_eq 476 C dL_law_458 rfl (by decide) (fun h => absurd h (by decide)) (fun _ => ?_)
  refine jm_aload_n C dL_law_461 rfl ?_
  refine jm_aload_n C dL_law_462 rfl ?_
  refine jm_iload_n C dL_law_463 rfl ?_
  refine jm_iload C dL_law_464 rfl ?_
  refine jm_cSi (n := 4) [] C (kL_areAlike E hl0 w I n T L hn v hv) jw_m_RL_95 okL_areAlike rfl ⟨rfl, rfl⟩ ⟨Nat.le_of_ble_eq_true rfl, Nat.le_of_ble_eq_true rfl⟩ rfl rfl (Nat.le_of_ble_eq_true rfl) dL_law_466 hf (fun I' z h => ?_)
  rw [h.1, h.2]
  refine jm_if_eq 476 C dL_law_469 rfl (by decide) (fun h => absurd h (by decide)) (fun _ => ?_)
  refine jm_iconst C dL_law_472 ?_
  refine jm_goto 477 C dL_law_473 rfl ?_
  refine jm_istore C dL_law_477 (by decide) ?_
  refine jm_iinc C dL_law_479 (by decide) rfl ?_
  refine jm_goto 24 C dL_law_482 rfl ?_
  exact jm_lvs (lv' := hq_l0 b (w.2.1 0) (w.2.1 1000) n (k + 1)) (jm_sub_c rfl (jm_sub_c rfl (jm_sub_c rfl (jm_sub_c rfl (jm_sub_c rfl (jm_sub_c rfl (jm_sub_0 _))))))) kk
set_option maxRecDepth 100000 in
set_option maxHeartbeats 8000000 in
theorem jq_pass {E : jm_E} {G : jm_G} {q : Nat × Nat} {w : jm_W} {I : jm_M} {b n : Nat} {T k v : Int} (hl0 : E.1.stackTraces = false) (C : jm_C E G cL_law 13 RL room_1) (L : hq_L E w I n T) (hv : 0 ≤ v ∧ v ≤ 1073741823) (h5 : I 0 5 ≤ 200) (hf : q.1 + 460 ≤ 600074 ∧ q.2 + 2800 ≤ 7301550) (next : ∀ (I2 : jm_M), hq_L E w I2 n T → I2 0 5 ≤ I 0 5 + 3 → jm_J E G (q.1 + 30, q.2 + 200) w I2 456 (hq_lv b (w.2.1 0) (w.2.1 1000) n k v) []) : jm_J E G q w I 202 (hq_lv b (w.2.1 0) (w.2.1 1000) n k v) [] := by
  have z0 := hq_K_0 L.2.2.2.1
  refine jm_aload_n C dL_law_202 rfl ?_
  refine jm_iconst C dL_law_203 ?_
  refine jm_iconst C dL_law_204 ?_
  refine jm_iload C dL_law_205 rfl ?_
  refine jm_iconst C dL_law_207 ?_
  refine jm_iremp C dL_law_208 (by omega) (by decide) ?_
  refine jm_iadd C dL_law_209 ?_
  refine jm_iconst C dL_law_210 ?_
  refine jm_cWi (n := 4) [] C (kL_d1 E hl0 w I n L.1 (2 + v % 2) 0 (by constructor <;> omega) z0.2.1 (hq_K_ck L.2.2.2.1) (by omega) (by omega)) jw_m_RL_67 okL_does rfl ⟨rfl, rfl⟩ ⟨Nat.le_of_ble_eq_true rfl, Nat.le_of_ble_eq_true rfl⟩ rfl rfl (Nat.le_of_ble_eq_true rfl) dL_law_211 ⟨by show q.1 + 2 ≤ 600074; omega, by show q.2 + 12 ≤ 7301550; omega⟩ (fun I1 z1 h1 => ?_)
  have k1 := hq_K_pass L.2.2.2.1 (k := (2 + v % 2).toNat) (by omega)
  have m := hq_mid (I1 := I1) L (by rw [h1.1]; exact k1.2.1)
  have z2 := hq_K_0 m.1
  refine jm_aload_n C dL_law_214 rfl ?_
  refine jm_iconst C dL_law_215 ?_
  refine jm_iconst C dL_law_216 ?_
  refine jm_iload C dL_law_217 rfl ?_
  refine jm_iconst C dL_law_219 ?_
  refine jm_iremp C dL_law_220 (by omega) (by decide) ?_
  refine jm_iadd C dL_law_221 ?_
  refine jm_iconst C dL_law_222 ?_
  refine jm_cWi (n := 4) [jm_v z1] C (jm_Mi_p (kL_d1 E hl0 (hk_sw w) (hk_sI I1) n L.2.1 (2 + v % 2) 0 (by constructor <;> omega) z2.2.1 (hq_K_ck m.1) (by omega) (by rw [m.2.2]; omega))) jw_m_RL_67 okL_does rfl ⟨rfl, rfl⟩ ⟨Nat.le_of_ble_eq_true rfl, Nat.le_of_ble_eq_true rfl⟩ rfl rfl (Nat.le_of_ble_eq_true rfl) dL_law_223 ⟨by show q.1 + 2 + 2 ≤ 600074; omega, by show q.2 + 12 + 12 ≤ 7301550; omega⟩ (fun I2 z2 h2 => ?_)
  have c := hq_L_pass L (by omega) (by omega) h1 h2
  refine jm_icmp_ns 233 C dL_law_226 rfl c.1 ?_
  refine jm_iconst C dL_law_229 ?_
  refine jm_goto 234 C dL_law_230 rfl ?_
  refine jm_istore C dL_law_234 (by decide) ?_
  refine jm_goto 456 C dL_law_236 rfl ?_
  refine jm_lvs (lv' := hq_lv b (w.2.1 0) (w.2.1 1000) n k v) (jm_sub_c rfl (jm_sub_c rfl (jm_sub_c rfl (jm_sub_c rfl (jm_sub_c rfl (jm_sub_c rfl (jm_sub_c rfl (jm_sub_0 _)))))))) ?_
  refine jm_wid (q' := (q.1 + 30, q.2 + 200)) (by show q.1 + 2 + 2 ≤ q.1 + 30; omega) (by show q.2 + 12 + 12 ≤ q.2 + 200; omega) ?_
  exact next I2 c.2.1 (by rw [c.2.2]; omega)
set_option maxRecDepth 100000 in
set_option maxHeartbeats 8000000 in
theorem jq_plan {E : jm_E} {G : jm_G} {q : Nat × Nat} {w : jm_W} {I : jm_M} {b n : Nat} {T k v : Int} (hl0 : E.1.stackTraces = false) (C : jm_C E G cL_law 13 RL room_1) (L : hq_L E w I n T) (hn : n < 4) (hv : 0 ≤ v ∧ v ≤ 1073741823) (h5 : I 0 5 ≤ 200) (hf : q.1 + 460 ≤ 600074 ∧ q.2 + 2800 ≤ 7301550) (next : ∀ (w2 : jm_W) (I2 : jm_M), hq_L E w2 I2 (n + 1) T → I2 0 5 = I 0 5 → jm_J E G (q.1 + 30, q.2 + 200) w2 I2 456 (hq_lv b (w2.2.1 0) (w2.2.1 1000) ((n + 1 : Nat) : Int) k v) []) : jm_J E G q w I 87 (hq_lv b (w.2.1 0) (w.2.1 1000) n k v) [] := by
  obtain ⟨X1, X2, nd, K, K2, R⟩ := id L
  have z0 := hq_K_0 K
  have Q2 := hq_1000 X2
  refine jm_aload_n C dL_law_87 rfl ?_
  refine jm_cVq (n := 0) (ci := 5) [] C (kX5_hour E w I n X1) jw_m_RL_63 okX5_hour rfl ⟨rfl, rfl⟩ ⟨Nat.le_of_ble_eq_true rfl, Nat.le_of_ble_eq_true rfl⟩ rfl X1.1.1 X1.1.2 rfl rfl (Nat.le_of_ble_eq_true rfl) dL_law_88 ⟨by show q.1 + 0 ≤ 600074; omega, by show q.2 + 0 ≤ 7301550; omega⟩ ?_
  refine jm_iconst C dL_law_91 ?_
  refine jm_iadd C dL_law_92 ?_
  refine jm_iload C dL_law_93 rfl ?_
  refine jm_bipush C dL_law_95 (by decide +kernel) ?_
  refine jm_idivp C dL_law_97 (by omega) (by decide) ?_
  refine jm_iconst C dL_law_98 ?_
  refine jm_iremp C dL_law_99 (by omega) (by decide) ?_
  refine jm_iadd C dL_law_100 ?_
  refine jm_istore C dL_law_101 (by decide) ?_
  obtain ⟨h, hh⟩ : ∃ h, h = ((I 0 5 + 1) + ((v / 30) % 2)) := ⟨_, rfl⟩
  rw [← hh]
  refine jm_aload_n C dL_law_103 rfl ?_
  refine jm_iload C dL_law_104 rfl ?_
  refine jm_bipush C dL_law_106 (by decide +kernel) ?_
  refine jm_iremp C dL_law_108 (by omega) (by decide) ?_
  refine jm_iload C dL_law_109 rfl ?_
  refine jm_bipush C dL_law_111 (by decide +kernel) ?_
  refine jm_iremp C dL_law_113 (by omega) (by decide) ?_
  refine jm_iconst C dL_law_114 ?_
  refine jm_iadd C dL_law_115 ?_
  refine jm_iload C dL_law_116 rfl ?_
  refine jm_bipush C dL_law_118 (by decide +kernel) ?_
  refine jm_idivp C dL_law_120 (by omega) (by decide) ?_
  refine jm_iconst C dL_law_121 ?_
  refine jm_iremp C dL_law_122 (by omega) (by decide) ?_
  refine jm_iadd C dL_law_123 ?_
  refine jm_bipush C dL_law_124 (by decide +kernel) ?_
  refine jm_iremp C dL_law_126 (by omega) (by decide) ?_
  refine jm_iload C dL_law_127 rfl ?_
  refine jm_iload C dL_law_129 rfl ?_
  refine jm_bipush C dL_law_131 (by decide +kernel) ?_
  refine jm_idivp C dL_law_133 (by omega) (by decide) ?_
  refine jm_iconst C dL_law_134 ?_
  refine jm_iremp C dL_law_135 (by omega) (by decide) ?_
  obtain ⟨ta, ha⟩ : ∃ t, t = (v % 6) := ⟨_, rfl⟩
  obtain ⟨tb, hb⟩ : ∃ t, t = ((((v % 6) + 1) + ((v / 6) % 5)) % 6) := ⟨_, rfl⟩
  obtain ⟨ts, hs⟩ : ∃ t, t = ((v / 60) % 3) := ⟨_, rfl⟩
  rw [← hb, ← ha, ← hs]
  have r1 : (0 ≤ ta ∧ ta ≤ 5) ∧ (0 ≤ tb ∧ tb ≤ 5) ∧ (0 ≤ ts ∧ ts ≤ 2) := by omega
  have r2 : ta ≠ tb := by omega
  have r3 : I 0 5 + 1 ≤ h ∧ h ≤ 9999 := by omega
  refine jm_cWw (n := 5) [] C (kL_plans E hl0 w I n X1 z0.1 z0.2.1 ta tb h ts (by constructor <;> omega) (by constructor <;> omega) (by constructor <;> omega) (by constructor <;> omega) (fun _ => ⟨fun m => ?_, fun m => ?_, fun m => ?_⟩) r1 ⟨r2, r3⟩ (by omega)) jw_m_RL_85 okL_plans rfl ⟨rfl, rfl⟩ ⟨Nat.le_of_ble_eq_true rfl, Nat.le_of_ble_eq_true rfl⟩ rfl rfl (Nat.le_of_ble_eq_true rfl) dL_law_136 ⟨by show q.1 + 3 ≤ 600074; omega, by show q.2 + 20 ≤ 7301550; omega⟩ (fun w1 I1 z1 p1 => ?_)
  · have q9 := nd _ m; unfold hq_nd hq_h1 at q9; omega
  · have q9 := nd _ m; unfold hq_nd hq_h1 at q9; omega
  · have q9 := nd _ m; unfold hq_nd hq_h1 at q9; omega
  obtain ⟨e1, X1', sm, c0, c4, co, cg⟩ := p1
  have fr : hq_fr I I1 := fun a y ha => congrFun (co a (by omega) (by omega) (by omega) (by omega)) y
  have m := hq_mid L fr
  refine jm_iload_n C dL_law_139 rfl ?_
  refine jm_icmp_ns 187 C dL_law_140 rfl e1 ?_
  rw [← (sm.1 0 X1.1.1).2.1, ← (sm.1 1000 Q2.1).2.1]
  refine jq_ren2 X2 X1' (fun z hz h0 h1 => ⟨(sm.1 z hz).1, (sm.1 z hz).2.1, (sm.1 z hz).2.2 (by omega) (by omega) (by omega)⟩) (fun w3 a3 l3 Y1 Y2 => ?_)
  rw [← a3]
  refine jm_aload_n C dL_law_143 rfl ?_
  refine jm_iload C dL_law_144 rfl ?_
  refine jm_bipush C dL_law_146 (by decide +kernel) ?_
  refine jm_iremp C dL_law_148 (by omega) (by decide) ?_
  refine jm_iload C dL_law_149 rfl ?_
  refine jm_bipush C dL_law_151 (by decide +kernel) ?_
  refine jm_iremp C dL_law_153 (by omega) (by decide) ?_
  refine jm_iconst C dL_law_154 ?_
  refine jm_iadd C dL_law_155 ?_
  refine jm_iload C dL_law_156 rfl ?_
  refine jm_bipush C dL_law_158 (by decide +kernel) ?_
  refine jm_idivp C dL_law_160 (by omega) (by decide) ?_
  refine jm_iconst C dL_law_161 ?_
  refine jm_iremp C dL_law_162 (by omega) (by decide) ?_
  refine jm_iadd C dL_law_163 ?_
  refine jm_bipush C dL_law_164 (by decide +kernel) ?_
  refine jm_iremp C dL_law_166 (by omega) (by decide) ?_
  refine jm_iload C dL_law_167 rfl ?_
  refine jm_iload C dL_law_169 rfl ?_
  refine jm_bipush C dL_law_171 (by decide +kernel) ?_
  refine jm_idivp C dL_law_173 (by omega) (by decide) ?_
  refine jm_iconst C dL_law_174 ?_
  refine jm_iremp C dL_law_175 (by omega) (by decide) ?_
  rw [← hb, ← ha, ← hs]
  have z3 := hq_K_0 m.1
  have nd3 : ∀ z, z ∈ w3.1 → hq_nd (n + 1) n z := fun z hz => by
    rw [l3] at hz
    rcases sm.2 z hz with q9 | q9 | q9 | q9
    · have q8 := nd z q9; unfold hq_nd hq_h1 at q8 ⊢; omega
    all_goals (unfold hq_nd hq_h1; omega)
  refine jm_cWw (n := 5) [] C (jm_Mw_p (kL_plans E hl0 (hk_sw w3) (hk_sI I1) n Y2 z3.1 z3.2.1 ta tb h ts (by constructor <;> omega) (by constructor <;> omega) (by constructor <;> omega) (by constructor <;> omega) (fun _ => ⟨fun m => ?_, fun m => ?_, fun m => ?_⟩) r1 ⟨r2, by rw [m.2.2]; exact r3⟩ (by omega))) jw_m_RL_85 okL_plans rfl ⟨rfl, rfl⟩ ⟨Nat.le_of_ble_eq_true rfl, Nat.le_of_ble_eq_true rfl⟩ rfl rfl (Nat.le_of_ble_eq_true rfl) dL_law_176 ⟨by show q.1 + 3 + 3 ≤ 600074; omega, by show q.2 + 20 + 20 ≤ 7301550; omega⟩ (fun w4 I2 z2 p2 => ?_)
  · have q9 := nd3 _ (hk_sw_m.mp m); rw [hk_s_a (show 0 ≤ 30 + (n : Int) ∧ 30 + (n : Int) < 300 by omega)] at q9; unfold hq_nd hq_h1 at q9; omega
  · have q9 := nd3 _ (hk_sw_m.mp m); rw [hk_s_a (show 0 ≤ 30 + (n : Int) + 100 ∧ 30 + (n : Int) + 100 < 300 by omega)] at q9; unfold hq_nd hq_h1 at q9; omega
  · have q9 := nd3 _ (hk_sw_m.mp m); rw [hk_s_a (show 0 ≤ 30 + (n : Int) + 100 + 100 ∧ 30 + (n : Int) + 100 + 100 < 300 by omega)] at q9; unfold hq_nd hq_h1 at q9; omega
  obtain ⟨e2, Z2, tm, d0, d4, do', dg⟩ := p2
  have sm2 : ∀ y, y ∈ w3.1 → y ∈ w4.1 ∧ w4.2.1 y = w3.2.1 y ∧ (y < 1000 → 0 ≤ y → y < 300 → w4.2.2 y = w3.2.2 y) := fun y hy => by
    have t := tm.1 (hk_s y) (hk_sw_m.mpr (by rw [hk_ss]; exact hy))
    have t1 : w4.2.1 (hk_s (hk_s y)) = w3.2.1 (hk_s (hk_s y)) := t.2.1
    have t2 : hk_s y ≠ 1 → hk_s y ≠ 2 → hk_s y ≠ 3 → w4.2.2 (hk_s (hk_s y)) = w3.2.2 (hk_s (hk_s y)) := t.2.2
    have t0 := hk_sw_m.mp t.1
    rw [hk_ss] at t0 t1 t2
    exact ⟨t0, t1, fun _ h0 h1 => t2 (by rw [hk_s_a ⟨h0, h1⟩]; omega) (by rw [hk_s_a ⟨h0, h1⟩]; omega) (by rw [hk_s_a ⟨h0, h1⟩]; omega)⟩
  have fr2 : hq_fr (hk_sI I1) (hk_sI I2) := fun a y ha => congrFun (do' a (by omega) (by omega) (by omega) (by omega)) y
  refine jm_iload_n C dL_law_179 rfl ?_
  refine jm_icmp_ns 187 C dL_law_180 rfl e2 ?_
  refine jm_iconst C dL_law_183 ?_
  refine jm_goto 188 C dL_law_184 rfl ?_
  refine jm_istore C dL_law_188 (by decide) ?_
  refine jm_iinc C dL_law_190 (by decide) rfl ?_
  refine jm_goto 456 C dL_law_193 rfl ?_
  have Q3 := hq_1000 Y2
  rw [← (sm2 0 Y1.1.1).2.1, ← (sm2 1000 Q3.1).2.1]
  refine jq_ren1 Y1 Z2 (fun z hz h0 h1 => ⟨(sm2 z hz).1, (sm2 z hz).2.1, (sm2 z hz).2.2 (by omega) h0 h1⟩) (fun w5 a5 l5 V1 V2 => ?_)
  rw [← a5]
  refine jm_lvs (lv' := hq_lv b (w5.2.1 0) (w5.2.1 1000) ((n + 1 : Nat) : Int) k v) (jm_sub_c rfl (jm_sub_c rfl (jm_sub_c rfl (jm_sub_c rfl (jm_sub_c rfl (jm_sub_c rfl (jm_sub_c rfl (jm_sub_0 _)))))))) ?_
  refine jm_wid (q' := (q.1 + 30, q.2 + 200)) (by show q.1 + 3 + 3 ≤ q.1 + 30; omega) (by show q.2 + 20 + 20 ≤ q.2 + 200; omega) ?_
  have nd5 : ∀ z, z ∈ w5.1 → hq_nd ((n + 1 : Nat) : Int) ((n + 1 : Nat) : Int) z := fun z hz => by
    rw [l5] at hz
    rcases tm.2 (hk_s z) (hk_sw_m.mpr (by rw [hk_ss]; exact hz)) with q9 | q9 | q9 | q9
    · have q8 := hk_sw_m.mp q9
      rw [hk_ss] at q8
      have q7 := nd3 z q8
      unfold hq_nd hq_h1 at q7 ⊢
      omega
    all_goals
      have q8 : z = hk_s (hk_s z) := (hk_ss z).symm
      rw [q9, hk_s_a (by omega)] at q8
      unfold hq_nd hq_h1
      omega
  have kA := hq_K_plan K (by omega) r1 ⟨r2, r3⟩ c0 c4 co cg
  have kB := hq_K_plan m.1 (by omega) r1 ⟨r2, by rw [m.2.2]; exact r3⟩ d0 d4 do' dg
  have RR := hq_R_plan m.2.1 (by omega) c0 c4 co cg d0 d4 do' dg
  have f := hq_end (n := n + 1) V1 V2 nd5 kA kB RR fr2
  exact next w5 I2 f.1 (by rw [f.2]; exact c0 5 (by decide))
