/-! THE LAW'S BEGINNING -/
theorem hk_begin {I1 I2 I3 I4 I5 : jm_M} (h1 : I1 = jm_z (fun _ _ => 0) 0) (h2 : hk_h0 I1 I2) (h3 : I3 = jm_z I2 300) (h4 : hk_m1 I3 I4) (h5 : ∀ a, a ≠ 299 → a ≠ 324 → a ≠ 325 → I5 a = I4 a) : hk_inv I5 I5 0 0 := by
  obtain ⟨⟨a4, a5, a6, a7, a8⟩, as, at', ao⟩ := h2
  obtain ⟨m0, m2, m3, m7, mr, mo⟩ := h4
  have z1 : ∀ a b, I1 a b = 0 := fun a b => by rw [h1]; unfold jm_z; split <;> rfl
  have c : ∀ a, 0 ≤ a → a < 299 → I5 a = I2 a := fun a q1 q2 => by rw [h5 a (by omega) (by omega) (by omega), mo a (by omega), h3, jm_z_o (by omega)]
  have r : ∀ a, 305 ≤ a → a ≤ 327 → a ≠ 307 → a ≠ 308 → a ≠ 324 → a ≠ 325 → I5 a = fun _ => 0 := fun a q1 q2 q3 q4 q5 q6 => by rw [h5 a (by omega) q5 q6, mr a q1 q2 q3 q4]
  have k0 : ∀ b, b ≠ 2 → b ≠ 3 → I5 300 b = 0 := fun b q1 q2 => by rw [h5 300 (by decide) (by decide) (by decide), m0 b q1 q2, h3, jm_z_k]
  have e0 : I5 0 = I2 0 := c 0 (by decide) (by decide)
  have e2 : I5 300 2 = 2 := by rw [h5 300 (by decide) (by decide) (by decide)]; exact m2
  have e3 : I5 300 3 = -1 := by rw [h5 300 (by decide) (by decide) (by decide)]; exact m3
  have n1 := k0 1 (by decide) (by decide)
  have n4 := k0 4 (by decide) (by decide)
  have n8 := k0 8 (by decide) (by decide)
  have x4 : I5 0 4 = 0 := by rw [e0, a4, z1]
  have x5 : I5 0 5 = 0 := by rw [e0, a5, z1]
  have x6 : I5 0 6 = 2 := by rw [e0, a6]
  have x7 : I5 0 7 = -1 := by rw [e0, a7]
  have x8 : I5 0 8 = 0 := by rw [e0, a8, z1]
  refine ⟨⟨⟨by omega, by omega, by omega⟩, ⟨by omega, by omega, by omega⟩, ⟨by omega, by omega, by omega⟩, ⟨by omega, by omega, fun _ => x8, fun q => absurd e3 q, by omega⟩, fun s s1 s2 => ⟨?_, ?_, ?_⟩, fun s s1 s2 => ?_, fun k => ?_, fun t t1 t2 => ⟨?_, ?_, ?_⟩, fun t => ⟨?_, ?_, ?_⟩, fun g g1 g2 => ?_, fun g g1 g2 => ?_⟩, fun g => ?_, fun g g1 g2 => ?_⟩
  · rw [r 306 (by decide) (by decide) (by decide) (by decide) (by decide) (by decide)]; exact Or.inl rfl
  · rw [r 306 (by decide) (by decide) (by decide) (by decide) (by decide) (by decide), c _ (by omega) (by omega), (as s s1 s2).1]; rfl
  · rw [h5 307 (by decide) (by decide) (by decide), m7 s, if_pos ⟨s1, s2⟩, c _ (by omega) (by omega), (as s s1 s2).2.1]
  · unfold hk_rs2
    rw [r 305 (by decide) (by decide) (by decide) (by decide) (by decide) (by decide), c _ (by omega) (by omega), (as s s1 s2).2.2]
    funext k
    split <;> rfl
  · rw [r 305 (by decide) (by decide) (by decide) (by decide) (by decide) (by decide)]; exact ⟨Int.le_refl 0, show (0 : Int) ≤ 9 by decide⟩
  · rw [r 321 (by decide) (by decide) (by decide) (by decide) (by decide) (by decide), c _ (by omega) (by omega), at' t t1 t2]
  · rw [r 322 (by decide) (by decide) (by decide) (by decide) (by decide) (by decide), c _ (by omega) (by omega), at' t t1 t2]
  · rw [r 323 (by decide) (by decide) (by decide) (by decide) (by decide) (by decide), c _ (by omega) (by omega), at' t t1 t2]
  · rw [r 321 (by decide) (by decide) (by decide) (by decide) (by decide) (by decide)]; exact ⟨Int.le_refl 0, Int.le_refl 0⟩
  · rw [r 322 (by decide) (by decide) (by decide) (by decide) (by decide) (by decide)]; exact ⟨Int.le_refl 0, Int.le_refl 0⟩
  · rw [r 323 (by decide) (by decide) (by decide) (by decide) (by decide) (by decide)]; exact ⟨Int.le_refl 0, Int.le_refl 0⟩
  · omega
  · rw [r 309 (by decide) (by decide) (by decide) (by decide) (by decide) (by decide), r 315 (by decide) (by decide) (by decide) (by decide) (by decide) (by decide), r 316 (by decide) (by decide) (by decide) (by decide) (by decide) (by decide), r 317 (by decide) (by decide) (by decide) (by decide) (by decide) (by decide)]
    exact ⟨rfl, rfl, rfl, rfl, rfl⟩
  · rw [r 312 (by decide) (by decide) (by decide) (by decide) (by decide) (by decide)]; show (0 : Int) ≤ 10000; decide
  · omega
theorem hk_lv_sub3 {b r0 r1 r2 : Nat} {j : Int} : jm_subb (hk_lv b r0 r1 r2 j) [(4, jm_v j), (3, .ref r2), (2, .ref r1), (1, .ref r0), (0, .ref b)] := by
  intro k v h
  match k with
  | 0 => exact h
  | 1 => exact h
  | 2 => exact h
  | 3 => exact h
  | 4 => exact h
  | k + 5 => exact nomatch h
set_option maxRecDepth 100000 in
set_option maxHeartbeats 4000000 in
theorem jw_start {E : jm_E} {G : jm_G} {b L : Nat} {xs : Nat → Int32} (hl0 : E.1.stackTraces = false) (C : jm_C E G cL_law 7 RL room_1) (hX : match G with | (_, _, _, s, _, _, _, _, _, _, _) => jm_XA s) (S : jm_SC G b L xs) (hL : L ≤ 3584) (fin : ∀ (q : Nat × Nat) (w : jm_W) (I : jm_M) lv, q.1 ≤ 601024 → q.2 ≤ 7293034 → jm_J E G q w I 1163 lv []) : jm_J E G (0, 0) ([], fun _ => 0, fun _ _ => .inr (0, [])) (fun _ _ => 0) 0 [(0, .ref b)] [] := by
  refine jm_gen (fun w0 hw0 => ?_)
  have N0 : (0 : Int) ∉ w0.1 := by rw [hw0]; exact List.not_mem_nil
  refine jm_new (ci := 5) (tm := [some .null, some .null, some .null, some .null, none, none, none, none, none]) 0 C rfl tyX5 tyX5_ok jw_u_5 jw_L_RL8 jw_I_RX5 jw_n_RX5 N0 (by decide +kernel) ⟨Nat.le_of_ble_eq_true rfl, Nat.le_of_ble_eq_true rfl⟩ dL_law_0 (fun a0 => ?_)
  refine jm_gen (fun w1 hw1 => ?_)
  refine jm_geni (fun I1 hI1 => ?_)
  have G1 : jm_gr w0 w1 0 (fun z => z = 0) := by rw [hw1]; exact jm_gr_ad N0
  have A1 : w1.2.1 0 = a0 := by rw [hw1]; exact jm_ad_a
  have M1 : 0 ∈ w1.1 := by rw [hw1]; exact jm_ad_m
  have S1 : w1.2.2 0 = jm_O 5 [some .null, some .null, some .null, some .null, none, none, none, none, none] := by rw [hw1]; exact jm_ad_s
  have D1 : ∀ z, z ∈ w1.1 → z = 0 := fun z hz => (G1.2 z hz).elim (fun h => by rw [hw0] at h; exact absurd h List.not_mem_nil) id
  clear hw1
  refine jm_dup C dL_law_3 rfl ?_
  refine jm_cI (n := 0) [.ref a0] jm_XAm hX C (kX5_init E w1 I1 a0 A1 M1 S1 D1) jw_m_RL_62 okX5_init rfl ⟨rfl, rfl⟩ ⟨Nat.le_of_ble_eq_true rfl, Nat.le_of_ble_eq_true rfl⟩ rfl rfl (Nat.le_of_ble_eq_true rfl) dL_law_4 ⟨Nat.le_of_ble_eq_true rfl, Nat.le_of_ble_eq_true rfl⟩ (fun w2 I2 hh => ?_)
  obtain ⟨G2, X5, hI2⟩ := hh
  have A2 : w2.2.1 0 = a0 := (G2.1 0 M1).2.1.trans A1
  have D2 : ∀ z, z ∈ w2.1 → z = 0 ∨ hk_hn z := fun z hz => (G2.2 z hz).elim (fun h => Or.inl (D1 z h)) Or.inr
  have N2 : ∀ z, 205 ≤ z → z ∉ w2.1 := fun z h1 h2 => by
    have := D2 z h2
    unfold hk_hn at this
    omega
  refine jm_astore_n C dL_law_7 (by decide) ?_
  refine jm_new (ci := 6) (tm := [none, none, none, none, none, some .null, some .null, some .null, none, some .null, some .null, some .null, some .null, some .null, some .null, some .null, some .null, some .null, some .null, some .null, some .null, some .null, some .null, some .null, some .null, some .null, some .null, some .null]) 300 C rfl tyX6 tyX6_ok jw_u_6 jw_L_RL63 jw_I_RX6 jw_n_RX6 (N2 300 (by decide)) (by decide +kernel) ⟨Nat.le_of_ble_eq_true rfl, Nat.le_of_ble_eq_true rfl⟩ dL_law_8 (fun a3 => ?_)
  refine jm_gen (fun w3 hw3 => ?_)
  refine jm_geni (fun I3 hI3 => ?_)
  have G3 : jm_gr w2 w3 300 (fun z => z = 300) := by rw [hw3]; exact jm_gr_ad (N2 300 (by decide))
  have A3 : w3.2.1 300 = a3 := by rw [hw3]; exact jm_ad_a
  have M3 : 300 ∈ w3.1 := by rw [hw3]; exact jm_ad_m
  have S3 : w3.2.2 300 = jm_O 6 [none, none, none, none, none, some .null, some .null, some .null, none, some .null, some .null, some .null, some .null, some .null, some .null, some .null, some .null, some .null, some .null, some .null, some .null, some .null, some .null, some .null, some .null, some .null, some .null, some .null] := by rw [hw3]; exact jm_ad_s
  have D3 : ∀ z, z ∈ w3.1 → z ≤ 300 := fun z hz => (G3.2 z hz).elim (fun h => by have := D2 z h; unfold hk_hn at this; omega) (fun h => by have h : z = 300 := h; omega)
  clear hw3
  refine jm_dup C dL_law_11 rfl ?_
  refine jm_cI (n := 0) [.ref a3] jm_XTm (jm_trivX G) C (kX6_init E w3 I3 a3 A3 M3 S3 D3) jw_m_RL_65 okX6_init rfl ⟨rfl, rfl⟩ ⟨Nat.le_of_ble_eq_true rfl, Nat.le_of_ble_eq_true rfl⟩ rfl rfl (Nat.le_of_ble_eq_true rfl) dL_law_12 ⟨Nat.le_of_ble_eq_true rfl, Nat.le_of_ble_eq_true rfl⟩ (fun w4 I4 hh => ?_)
  obtain ⟨G4, X6, hI4⟩ := hh
  have A4 : w4.2.1 300 = a3 := (G4.1 300 M3).2.1.trans A3
  have g34 : jm_gr w2 w4 300 (fun z => 300 ≤ z ∧ z ≤ 327) := jm_gr_tr G3 G4 (fun _ => rfl) (fun z h => h.elim (fun h => by have h : z = 300 := h; show 300 ≤ z ∧ z ≤ 327; omega) (fun h => by unfold hk_mn3 at h; show 300 ≤ z ∧ z ≤ 327; omega))
  have N4 : (299 : Int) ∉ w4.1 := fun h => (g34.2 299 h).elim (N2 299 (by decide)) (fun h => by have h : 300 ≤ (299 : Int) ∧ (299 : Int) ≤ 327 := h; omega)
  refine jm_astore_n C dL_law_15 (by decide) ?_
  refine jm_iconst C dL_law_16 ?_
  refine jm_newl 2 1 299 rfl (by decide) C rfl jw_A_long N4 ⟨Nat.le_of_ble_eq_true rfl, Nat.le_of_ble_eq_true rfl⟩ dL_law_17 (fun a9 => ?_)
  refine jm_gen (fun w5 hw5 => ?_)
  refine jm_geni (fun I5 hI5 => ?_)
  have G5 : jm_gr w4 w5 299 (fun z => z = 299) := by rw [hw5]; exact jm_gr_ad N4
  have A5 : w5.2.1 299 = a9 := by rw [hw5]; exact jm_ad_a
  have M5 : 299 ∈ w5.1 := by rw [hw5]; exact jm_ad_m
  have S5 : w5.2.2 299 = jm_La (E.2.2 2) 1 := by rw [hw5]; exact jm_ad_s
  clear hw5
  have X6a : jm_X6 E w5 := jm_X6_gr X6 G5 (Or.inl (by decide))
  have g25 : jm_gr w2 w5 300 (fun z => 299 ≤ z ∧ z ≤ 327) := jm_gr_tr g34 G5 (fun h => absurd h (N2 299 (by decide))) (fun z h => h.elim (fun h => by have h : 300 ≤ z ∧ z ≤ 327 := h; show 299 ≤ z ∧ z ≤ 327; omega) (fun h => by have h : z = 299 := h; show 299 ≤ z ∧ z ≤ 327; omega))
  have A6 : w5.2.1 0 = a0 := (g25.1 0 X5.1.1).2.1.trans A2
  have A7 : w5.2.1 300 = a3 := (G5.1 300 X6.1.1).2.1.trans A4
  refine jm_astore_n C dL_law_19 (by decide) ?_
  refine jm_iconst C dL_law_20 ?_
  refine jm_istore C dL_law_21 (by decide) ?_
  refine jm_lvs (lv' := hk_lv b a0 a3 a9 0) hk_lv_sub3 ?_
  refine jm_renorm X5 g25 (fun z hz e => N2 300 (by decide) (e ▸ hz)) (fun wa w6 ga gb e6 m6 H6 => ?_)
  have X6b : jm_X6 E w6 := jm_X6_gr (jm_X6_gr X6a ga (Or.inl (by decide))) gb (Or.inl (by decide))
  have O6 : 299 ∈ w6.1 ∧ w6.2.2 299 = jm_La (E.2.2 2) 1 := ⟨(gb.1 299 (ga.1 299 M5).1).1, ((gb.1 299 (ga.1 299 M5).1).2.2 (by decide)).trans (((ga.1 299 M5).2.2 (by decide)).trans S5)⟩
  have D6 : ∀ z, z ∈ w6.1 → hk_nd 0 z := fun z hz => by
    rw [m6] at hz
    rcases g25.2 z hz with h | h
    · have := D2 z h
      unfold hk_hn at this
      unfold hk_nd
      omega
    · have h : 299 ≤ z ∧ z ≤ 327 := h
      unfold hk_nd
      omega
  rw [← A6, ← A7, ← A5, ← e6]
  refine jm_hnm X6b (fun I6 N6 e => ?_)
  have V : hk_inv I6 I6 0 0 := hk_begin hI1 hI2 hI3 hI4 (fun a h1 h2 h3 => by
    funext y
    rw [e a y h2 h3, hI5, jm_z_o h1])
  refine jm_wid (q' := (100 + 3 * 0, 5000 + 20 * 0)) (Nat.le_of_ble_eq_true rfl) (Nat.le_of_ble_eq_true rfl) ?_
  exact jw_loop hl0 C S hL fin 512 0 w6 I6 0 rfl ⟨H6, X6b, O6, D6, V, N6⟩

