/-! THE LAW'S BEGINNING: two houses are made -/
set_option maxRecDepth 100000 in
set_option maxHeartbeats 8000000 in
theorem jq_start {E : jm_E} {G : jm_G} {b Ln : Nat} {xs : Nat → Int32} (hl0 : E.1.stackTraces = false) (C : jm_C E G cL_law 13 RL room_1) (hX : match G with | (_, _, _, s, _, _, _, _, _, _, _) => jm_XA s) (S : jm_SC G b Ln xs) (hLn : Ln ≤ 260) (fin : ∀ (q : Nat × Nat) (w : jm_W) (I : jm_M) lv, q.1 ≤ 600074 → q.2 ≤ 7301550 → jm_J E G q w I 487 lv [jm_v 1]) : jm_J E G (0, 0) ([], fun _ => 0, fun _ _ => .inr (0, [])) (fun _ _ => 0) 0 [(0, .ref b)] [] := by
  refine jm_gen (fun w0 hw0 => ?_)
  have N0 : (0 : Int) ∉ w0.1 := by rw [hw0]; exact List.not_mem_nil
  refine jm_new (ci := 5) (tm := [some .null, some .null, some .null, some .null, none, none, none, none, none]) 0 C rfl tyX5 tyX5_ok jw_u_5 jw_L_RL9 jw_I_RX5 jw_n_RX5 N0 (by decide +kernel) ⟨Nat.le_of_ble_eq_true rfl, Nat.le_of_ble_eq_true rfl⟩ dL_law_0 (fun a0 => ?_)
  refine jm_gen (fun w1 hw1 => ?_)
  refine jm_geni (fun I1 hI1 => ?_)
  have G1 : jm_gr w0 w1 0 (fun z => z = 0) := by rw [hw1]; exact jm_gr_ad N0
  have A1 : w1.2.1 0 = a0 := by rw [hw1]; exact jm_ad_a
  have M1 : 0 ∈ w1.1 := by rw [hw1]; exact jm_ad_m
  have S1 : w1.2.2 0 = jm_O 5 [some .null, some .null, some .null, some .null, none, none, none, none, none] := by rw [hw1]; exact jm_ad_s
  have D1 : ∀ z, z ∈ w1.1 → z = 0 := fun z hz => (G1.2 z hz).elim (fun h => by rw [hw0] at h; exact absurd h List.not_mem_nil) id
  clear hw1
  refine jm_dup C dL_law_3 rfl ?_
  refine jm_cI (n := 0) [.ref a0] jm_XAm hX C (kX5_init E w1 I1 a0 A1 M1 S1 (fun z hz => Or.inl (D1 z hz))) jw_m_RL_80 okX5_init rfl ⟨rfl, rfl⟩ ⟨Nat.le_of_ble_eq_true rfl, Nat.le_of_ble_eq_true rfl⟩ rfl rfl (Nat.le_of_ble_eq_true rfl) dL_law_4 ⟨Nat.le_of_ble_eq_true rfl, Nat.le_of_ble_eq_true rfl⟩ (fun w2 I2 hh => ?_)
  obtain ⟨G2, X5, hI2⟩ := hh
  have A2 : w2.2.1 0 = a0 := (G2.1 0 M1).2.1.trans A1
  have D2 : ∀ z, z ∈ w2.1 → z = 0 ∨ hk_hn z := fun z hz => (G2.2 z hz).elim (fun h => Or.inl (D1 z h)) Or.inr
  have N2 : (1000 : Int) ∉ w2.1 := fun h => by
    have := D2 _ h
    unfold hk_hn at this
    omega
  refine jm_astore_n C dL_law_7 (by decide) ?_
  refine jm_new (ci := 5) (tm := [some .null, some .null, some .null, some .null, none, none, none, none, none]) 1000 C rfl tyX5 tyX5_ok jw_u_5 jw_L_RL9 jw_I_RX5 jw_n_RX5 N2 (by decide +kernel) ⟨Nat.le_of_ble_eq_true rfl, Nat.le_of_ble_eq_true rfl⟩ dL_law_8 (fun a3 => ?_)
  refine jm_gen (fun w3 hw3 => ?_)
  refine jm_geni (fun I3 hI3 => ?_)
  have G3 : jm_gr w2 w3 1000 (fun z => z = 1000) := by rw [hw3]; exact jm_gr_ad N2
  have A3 : w3.2.1 1000 = a3 := by rw [hw3]; exact jm_ad_a
  have M3 : 1000 ∈ w3.1 := by rw [hw3]; exact jm_ad_m
  have S3 : w3.2.2 1000 = jm_O 5 [some .null, some .null, some .null, some .null, none, none, none, none, none] := by rw [hw3]; exact jm_ad_s
  have D3 : ∀ z, z ∈ w3.1 → z = 0 ∨ hk_hn z ∨ z = 1000 := fun z hz => (G3.2 z hz).elim (fun h => (D2 z h).elim Or.inl (fun h => Or.inr (Or.inl h))) (fun h => Or.inr (Or.inr h))
  clear hw3
  have e0 : hk_s 0 = 1000 := by rw [hk_s_a (by decide)]; rfl
  have hM : 0 ∈ (hk_sw w3).1 := hk_sw_m.mpr (by rw [e0]; exact M3)
  have hA : (hk_sw w3).2.1 0 = a3 := (hk_sw0 w3).trans A3
  have hS : (hk_sw w3).2.2 0 = jm_O 5 [some .null, some .null, some .null, some .null, none, none, none, none, none] := by
    show w3.2.2 (hk_s 0) = _
    rw [e0]; exact S3
  have hD : ∀ z, z ∈ (hk_sw w3).1 → z = 0 ∨ 400 ≤ z := fun z hz => by
    have h := D3 _ (hk_sw_m.mp hz)
    have y : hk_s (hk_s z) = z := hk_ss z
    by_cases q : hk_s z = 1000
    · rw [q, hk_s_b (by decide)] at y
      exact Or.inl (by omega)
    · have r : 0 ≤ hk_s z ∧ hk_s z < 300 := by unfold hk_hn at h; omega
      rw [hk_s_a r] at y
      exact Or.inr (by omega)
  refine jm_dup C dL_law_11 rfl ?_
  refine jm_cI (n := 0) [.ref a3] jm_XAm hX C (jm_Mcx_s (kX5_init E (hk_sw w3) (hk_sI I3) a3 hA hM hS hD)) jw_m_RL_80 okX5_init rfl ⟨rfl, rfl⟩ ⟨Nat.le_of_ble_eq_true rfl, Nat.le_of_ble_eq_true rfl⟩ rfl rfl (Nat.le_of_ble_eq_true rfl) dL_law_12 ⟨Nat.le_of_ble_eq_true rfl, Nat.le_of_ble_eq_true rfl⟩ (fun w4 I4 hh => ?_)
  obtain ⟨G4, Y5, hI4⟩ := hh
  have g4 : ∀ y, y ∈ w3.1 → y ∈ w4.1 ∧ w4.2.1 y = w3.2.1 y ∧ (hk_s y ≠ 0 → w4.2.2 y = w3.2.2 y) := fun y hy => by
    have t := G4.1 (hk_s y) (hk_sw_m.mpr (by rw [hk_ss]; exact hy))
    have t1 : w4.2.1 (hk_s (hk_s y)) = w3.2.1 (hk_s (hk_s y)) := t.2.1
    have t2 : hk_s y ≠ 0 → w4.2.2 (hk_s (hk_s y)) = w3.2.2 (hk_s (hk_s y)) := t.2.2
    have t0 := hk_sw_m.mp t.1
    rw [hk_ss] at t0 t1 t2
    exact ⟨t0, t1, t2⟩
  have g24 : ∀ z, z ∈ w2.1 → 0 ≤ z → z < 300 → z ∈ w4.1 ∧ w4.2.1 z = w2.2.1 z ∧ w4.2.2 z = w2.2.2 z := fun z hz h0 h1 => by
    have y := G3.1 z hz
    have x := g4 z y.1
    exact ⟨x.1, x.2.1.trans y.2.1, (x.2.2 (by rw [hk_s_a ⟨h0, h1⟩]; omega)).trans (y.2.2 (by omega))⟩
  have A4 : w4.2.1 0 = a0 := (g24 0 X5.1.1 (by decide) (by decide)).2.1.trans A2
  have A5 : w4.2.1 1000 = a3 := (g4 1000 M3).2.1.trans A3
  refine jm_astore_n C dL_law_15 (by decide) ?_
  refine jm_iconst C dL_law_16 ?_
  refine jm_istore_n C dL_law_17 (by decide) ?_
  refine jm_iconst C dL_law_18 ?_
  refine jm_istore C dL_law_19 (by decide) ?_
  refine jm_iconst C dL_law_21 ?_
  refine jm_istore C dL_law_22 (by decide) ?_
  refine jm_lvs (lv' := hq_l0 b a0 a3 ((0 : Nat) : Int) ((0 : Nat) : Int)) (jm_sub_c rfl (jm_sub_c rfl (jm_sub_c rfl (jm_sub_c rfl (jm_sub_c rfl (jm_sub_c rfl (jm_sub_0 _))))))) ?_
  refine jq_ren1 X5 Y5 g24 (fun w5 e5 l5 V1 V2 => ?_)
  have nd5 : ∀ z, z ∈ w5.1 → hq_nd ((0 : Nat) : Int) ((0 : Nat) : Int) z := fun z hz => by
    rw [l5] at hz
    have z1 := G4.2 (hk_s z) (hk_sw_m.mpr (by rw [hk_ss]; exact hz))
    rcases z1 with q | q
    · have q8 := hk_sw_m.mp q
      rw [hk_ss] at q8
      have q7 := D3 z q8
      unfold hk_hn at q7
      unfold hq_nd hq_h1
      omega
    · have r : 0 ≤ hk_s z ∧ hk_s z < 300 := by unfold hk_hn at q; omega
      have y : hk_s (hk_s z) = z := hk_ss z
      rw [hk_s_a r] at y
      unfold hk_hn at q
      unfold hq_nd hq_h1
      omega
  have z1 : ∀ b, I1 0 b = 0 := fun b => by rw [hI1]; unfold jm_z; split <;> rfl
  have z3 : ∀ b, hk_sI I3 0 b = 0 := fun b => by
    show I3 (hk_s 0) b = 0
    rw [e0, hI3, jm_z_k]
  have kA := hq_K_new z1 hI2
  have kB := hq_K_new z3 hI4
  have ag : ∀ a b, 0 ≤ a → a < 300 → a ≠ 4 → a ≠ 104 → a ≠ 204 → I4 a b = I2 a b := fun a b h0 h1 _ _ _ => by
    have o := congrFun (hI4.2.2.2 (a + 1000) (by unfold hk_hn; omega)) b
    rw [hq_sI' ⟨h0, h1⟩, hq_sI' ⟨h0, h1⟩] at o
    rw [o, hI3, jm_z_o (by omega)]
  have RR := hq_R_ag (hq_R_new z1 z3 hI2 hI4) (by decide) ag (fun _ _ _ _ _ _ _ => rfl)
  have kA' := hq_K_ag kA ag
  have h5 : I4 0 5 = 0 := by
    rw [ag 0 5 (by decide) (by decide) (by decide) (by decide) (by decide), hI2.1.2.1, z1]
  rw [← A4, ← A5, ← e5]
  refine jm_wid (q' := (100 + 460 * 0, 5000 + 2800 * 0)) (Nat.le_of_ble_eq_true rfl) (Nat.le_of_ble_eq_true rfl) ?_
  exact jq_loop hl0 C S hLn fin 56 0 w5 I4 0 0 rfl ⟨V1, V2, nd5, kA', kB, RR⟩ (by decide) (by decide) (by decide) (fun h => absurd rfl h) (fun _ => rfl) (by rw [h5]; decide)
