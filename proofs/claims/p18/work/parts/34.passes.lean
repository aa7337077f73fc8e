/-! the house's hours, one behind another -/
def hk_cp1 (I : jm_M) (ng : Int) : jm_M := hk_bg (hk_work (jm_up I 0 5 (I 0 5 + 1)) ng) ng 12
def hk_cpn (I : jm_M) (ng : Int) : Nat → jm_M
  | 0 => I
  | n + 1 => hk_cp1 (hk_cpn I ng n) ng
def hk_ck (I : jm_M) (ng : Int) : Prop := (-1 ≤ I 0 7 ∧ I 0 7 < 3) ∧ (0 ≤ I 0 8 ∧ I 0 8 ≤ 1000) ∧ (1 ≤ I 0 6 ∧ I 0 6 ≤ 6) ∧ (∀ i, 0 ≤ i → i < ng → 0 ≤ I (30 + i) 2 ∧ I (30 + i) 2 < 3) ∧ (∀ i, 0 ≤ i → i < ng → I (30 + i) 4 ≤ 10000)
theorem hk_work1_o {I : jm_M} {a b : Int} (h : a ≠ 0 ∨ b ≠ 8) : hk_work1 I a b = I a b := by
  unfold hk_work1
  split
  · exact jm_up_n h
  · rfl
theorem hk_renew_o {I : jm_M} {s a b : Int} (h1 : a ≠ 10 + s) (h2 : a ≠ 10 + s + 100) : hk_renew I s a b = I a b := by
  unfold hk_renew
  rw [hk_fill_o (Or.inl h2), jm_up_n (Or.inl h1)]
theorem hk_work2_o {I : jm_M} {a b : Int} (h7 : -1 ≤ I 0 7 ∧ I 0 7 < 3) (h : ¬ (10 ≤ a ∧ a < 13) ∧ ¬ (110 ≤ a ∧ a < 113)) : hk_work2 I a b = I a b := by
  unfold hk_work2
  split
  · rfl
  · exact hk_renew_o (by omega) (by omega)
theorem hk_work_o {I : jm_M} {ng a b : Int} (h7 : -1 ≤ I 0 7 ∧ I 0 7 < 3) (h : ¬ (10 ≤ a ∧ a < 13) ∧ ¬ (110 ≤ a ∧ a < 113)) (hb : a ≠ 0 ∨ (b ≠ 7 ∧ b ≠ 8)) : hk_work I ng a b = I a b := by
  have e7 : hk_work1 I 0 7 = I 0 7 := hk_work1_o (Or.inr (by decide))
  have w1 : hk_work1 I a b = I a b := hk_work1_o (by omega)
  have w2 : hk_work2 (hk_work1 I) a b = I a b := (hk_work2_o (by rw [e7]; exact h7) h).trans w1
  have w3 : hk_work3 (hk_work2 (hk_work1 I)) ng a b = I a b := by unfold hk_work3; rw [jm_up_n (by omega)]; exact w2
  unfold hk_work
  split
  · exact w1
  · unfold hk_work4
    split
    · exact w3
    · rw [jm_up_n (by omega)]; exact w3
theorem hk_work_78 {I : jm_M} {ng : Int} (hI : ∀ a b, jm_R (I a b)) (h7 : -1 ≤ I 0 7 ∧ I 0 7 < 3) (h8 : 0 ≤ I 0 8 ∧ I 0 8 ≤ 1000) (h6 : 1 ≤ I 0 6 ∧ I 0 6 ≤ 6) (hs : ∀ J : jm_M, -1 ≤ (hk_stm J ng 3).1 ∧ (hk_stm J ng 3).1 < 3) : (-1 ≤ hk_work I ng 0 7 ∧ hk_work I ng 0 7 < 3) ∧ (0 ≤ hk_work I ng 0 8 ∧ hk_work I ng 0 8 ≤ 1000) := by
  have e7 : hk_work1 I 0 7 = I 0 7 := hk_work1_o (Or.inr (by decide))
  have e6 : hk_work1 I 0 6 = I 0 6 := hk_work1_o (Or.inr (by decide))
  have e8 : 0 ≤ hk_work1 I 0 8 ∧ hk_work1 I 0 8 ≤ 1000 := by
    unfold hk_work1
    split
    · rw [jm_up_s]; omega
    · exact h8
  have g8 : hk_work2 (hk_work1 I) 0 8 = hk_work1 I 0 8 := hk_work2_o (by rw [e7]; exact h7) (by omega)
  have g6 : hk_work2 (hk_work1 I) 0 6 = I 0 6 := (hk_work2_o (by rw [e7]; exact h7) (by omega)).trans e6
  have q := hs (hk_work2 (hk_work1 I))
  unfold hk_work
  split
  · rw [e7]; exact ⟨h7, e8⟩
  · unfold hk_work4 hk_work3
    rw [jm_up_s, jm_up_n (Or.inr (by decide)), g6]
    split
    · rw [jm_up_s, jm_up_n (Or.inr (by decide)), g8]; exact ⟨q, e8⟩
    · rw [jm_up_n (Or.inr (by decide)), jm_up_s, jm_up_s]; exact ⟨q, by omega⟩
theorem hk_bg_o {I : jm_M} {ng a b : Int} (h : ¬ (30 ≤ a ∧ a < 30 + ng) ∧ ¬ (9 ≤ a ∧ a < 13)) (hs : ∀ (J : jm_M) (x : Int), -1 ≤ hk_stp J x ∧ hk_stp J x < 3 ∨ hk_stp J x = x) (hw : ∀ i, 0 ≤ i → i < ng → 0 ≤ I (30 + i) 2 ∧ I (30 + i) 2 < 3) : ∀ n : Nat, hk_bg I ng n a b = I a b ∧ ∀ i, 0 ≤ i → hk_bg I ng n (30 + i) 2 = I (30 + i) 2
  | 0 => ⟨rfl, fun _ _ => rfl⟩
  | n + 1 => by
    obtain ⟨ih, ih2⟩ := hk_bg_o h hs hw n
    show hk_bg1 (hk_bg I ng n) ng n a b = _ ∧ ∀ i, 0 ≤ i → hk_bg1 (hk_bg I ng n) ng n (30 + i) 2 = _
    unfold hk_bg1
    split
    · rename_i q
      have hx := hw n (by omega) q.1
      have e2 := ih2 n (by omega)
      have hst := hs (hk_bg I ng n) (hk_bg I ng n (30 + n) 2)
      split
      · exact ⟨by rw [jm_up_n (Or.inl (by omega))]; exact ih, fun i hi => by rw [jm_up_n (Or.inr (by decide))]; exact ih2 i hi⟩
      · refine ⟨?_, fun i hi => ?_⟩
        · rw [jm_up_n (Or.inl (by omega)), jm_up_n (Or.inl (by omega)), jm_up_n (Or.inl (by omega)), jm_up_n (Or.inl (by omega))]; exact ih
        · rw [jm_up_n (Or.inr (by decide)), jm_up_n (Or.inr (by decide)), jm_up_n (Or.inl (by omega)), jm_up_n (Or.inr (by decide))]; exact ih2 i hi
    · exact ⟨ih, ih2⟩
theorem hk_bg_4 {I : jm_M} {ng T : Int} (hT : I 0 5 < T) (hng : ng ≤ 12) (hs : ∀ (J : jm_M) (x : Int), -1 ≤ hk_stp J x ∧ hk_stp J x < 3 ∨ hk_stp J x = x) (hw : ∀ i, 0 ≤ i → i < ng → 0 ≤ I (30 + i) 2 ∧ I (30 + i) 2 < 3) (h4 : ∀ i, 0 ≤ i → i < ng → I (30 + i) 4 ≤ T) : ∀ n : Nat, ∀ i, 0 ≤ i → i < ng → hk_bg I ng n (30 + i) 4 ≤ T
  | 0, i, h0, h1 => h4 i h0 h1
  | n + 1, i, h0, h1 => by
    have ih := hk_bg_4 hT hng hs hw h4 n
    have e5 := (hk_bg_o (I := I) (ng := ng) (a := 0) (b := 5) (by omega) hs hw n).1
    have e2 := (hk_bg_o (I := I) (ng := ng) (a := 0) (b := 5) (by omega) hs hw n).2
    show hk_bg1 (hk_bg I ng n) ng n (30 + i) 4 ≤ T
    unfold hk_bg1
    split
    · rename_i q
      have hx := hw n (by omega) q.1
      have e3 := e2 n (by omega)
      have hst := hs (hk_bg I ng n) (hk_bg I ng n (30 + n) 2)
      split
      · by_cases e : i = n
        · subst e
          rw [jm_up_s]
          have q2 := q.2.2
          rw [e5] at q2
          omega
        · rw [jm_up_n (Or.inl (by omega))]; exact ih i h0 h1
      · rw [jm_up_n (Or.inr (by decide)), jm_up_n (Or.inr (by decide)), jm_up_n (Or.inl (by omega)), jm_up_n (Or.inl (by omega))]; exact ih i h0 h1
    · exact ih i h0 h1
theorem hk_stp_x (J : jm_M) (x : Int) : -1 ≤ hk_stp J x ∧ hk_stp J x < 3 ∨ hk_stp J x = x := by
  by_cases h : 0 ≤ x ∧ x < 3
  · exact Or.inl (hk_stp_r J h)
  · unfold hk_stp
    split
    · exact Or.inr rfl
    · left
      have q := hk_frd_r J 3 0
      omega
theorem hk_ck_s {I : jm_M} {ng : Int} (hI : ∀ a b, jm_R (I a b)) (hng : 0 ≤ ng ∧ ng ≤ 12) (hn : I 0 5 ≤ 9998) (hc : hk_ck I ng) (hsm : ∀ J : jm_M, -1 ≤ (hk_stm J ng 3).1 ∧ (hk_stm J ng 3).1 < 3) : hk_ck (hk_cp1 I ng) ng ∧ hk_cp1 I ng 0 5 = I 0 5 + 1 := by
  obtain ⟨h7, h8, h6, hw, h4⟩ := hc
  obtain ⟨J, hJ⟩ : ∃ X, X = jm_up I 0 5 (I 0 5 + 1) := ⟨_, rfl⟩
  have o : ∀ a b, (a ≠ 0 ∨ b ≠ 5) → J a b = I a b := fun a b h => by rw [hJ]; exact jm_up_n h
  have j5 : J 0 5 = I 0 5 + 1 := by rw [hJ]; exact jm_up_s _ _ _ _
  have j7 : J 0 7 = I 0 7 := o 0 7 (Or.inr (by decide))
  have j8 : J 0 8 = I 0 8 := o 0 8 (Or.inr (by decide))
  have j6 : J 0 6 = I 0 6 := o 0 6 (Or.inr (by decide))
  have hIJ : ∀ a b, jm_R (J a b) := by rw [hJ]; exact jm_upR hI (by have := hI 0 5; omega)
  obtain ⟨K, hK⟩ : ∃ X, X = hk_work J ng := ⟨_, rfl⟩
  have k78 := hk_work_78 (I := J) (ng := ng) hIJ (by rw [j7]; exact h7) (by rw [j8]; exact h8) (by rw [j6]; exact h6) hsm
  rw [← hK] at k78
  have ko : ∀ a b, ¬ (10 ≤ a ∧ a < 13) ∧ ¬ (110 ≤ a ∧ a < 113) → (a ≠ 0 ∨ (b ≠ 7 ∧ b ≠ 8)) → K a b = J a b := fun a b h1 h2 => by rw [hK]; exact hk_work_o (by rw [j7]; exact h7) h1 h2
  have k5 : K 0 5 = I 0 5 + 1 := (ko 0 5 (by omega) (by omega)).trans j5
  have k6 : K 0 6 = I 0 6 := (ko 0 6 (by omega) (by omega)).trans j6
  have kw : ∀ i, 0 ≤ i → i < ng → 0 ≤ K (30 + i) 2 ∧ K (30 + i) 2 < 3 := fun i a b => by rw [ko (30 + i) 2 (by omega) (by omega), o _ _ (Or.inr (by decide))]; exact hw i a b
  have k4 : ∀ i, 0 ≤ i → i < ng → K (30 + i) 4 ≤ 10000 := fun i a b => by rw [ko (30 + i) 4 (by omega) (by omega), o _ _ (Or.inr (by decide))]; exact h4 i a b
  have bo := fun b => (hk_bg_o (I := K) (ng := ng) (a := 0) (b := b) (by omega) hk_stp_x kw 12).1
  have b2 := (hk_bg_o (I := K) (ng := ng) (a := 0) (b := 5) (by omega) hk_stp_x kw 12).2
  have e : hk_cp1 I ng = hk_bg K ng 12 := by rw [hK, hJ]; rfl
  unfold hk_ck
  rw [e, bo 7, bo 8, bo 6, bo 5, k5, k6]
  exact ⟨⟨k78.1, k78.2, h6, fun i a b => by rw [b2 i a]; exact kw i a b, hk_bg_4 (by omega) hng.2 hk_stp_x kw k4 12⟩, rfl⟩
theorem hk_stm_1 (I : jm_M) (ng : Int) : ∀ n : Nat, -1 ≤ (hk_stm I ng n).1 ∧ (hk_stm I ng n).1 < n
  | 0 => ⟨by unfold hk_stm; decide, by unfold hk_stm; decide⟩
  | n + 1 => by
    have h1 := hk_stm_1 I ng n
    unfold hk_stm
    split
    · exact ⟨h1.1, by omega⟩
    · split
      · exact ⟨by show -1 ≤ (n : Int); omega, by show (n : Int) < ((n + 1 : Nat) : Int); omega⟩
      · exact ⟨h1.1, by omega⟩
