/-! THE CALLS THAT CHANGE, side by side -/
theorem hk_re_T {C M : jm_M} {n : Nat} {T T' : Int} (h : hk_re C M n T) (hT : T ≤ T') : hk_re C M n T' := by
  obtain ⟨a, b, c, d, f1, f2, f3, u1, u2, g1, g2⟩ := h
  exact ⟨a, b, c, d, f1, f2, f3, u1, fun t => by have := u2 t; omega, g1, g2⟩
theorem hk_inv_T {C M : jm_M} {n : Nat} {T T' : Int} (h : hk_inv C M n T) (hT : T ≤ T') : hk_inv C M n T' := ⟨hk_re_T h.1 hT, h.2⟩
theorem hk_inv_w {C M C' M' : jm_M} {n : Nat} {T : Int} (h : hk_inv C M n T) (hC : ∀ a b, 0 ≤ a → a < 300 → a ≠ 4 → a ≠ 104 → a ≠ 204 → C' a b = C a b) (hM : hk_wk M M') : hk_inv C' M' n T := by
  refine ⟨hk_re_w h.1 hC hM, fun g => ?_, fun g h0 h1 h2 => ?_⟩
  · rw [hM 312 g (by decide) (by decide) (by decide) (by decide) (Or.inl (by decide))]; exact h.2.1 g
  · rw [hM 312 g (by decide) (by decide) (by decide) (by decide) (Or.inl (by decide)), hM 300 1 (by decide) (by decide) (by decide) (by decide) (Or.inr (by decide))]
    rw [hM 309 g (by decide) (by decide) (by decide) (by decide) (Or.inl (by decide))] at h2
    exact h.2.2 g h0 h1 h2
theorem hk_msh_p {M : jm_M} {R : (Int → Int) × (Int → Int)} {g : Int} (st : M 309 g = 1 ∨ M 309 g = 2) {M' : jm_M} (hM' : M' = hk_msh M (hk_mth (jm_up M 300 0 0) R) g) : (∀ b, M' 312 b = M 312 b) ∧ (∀ b, b ≠ g → M' 309 b = M 309 b) ∧ M' 309 g ≠ 0 ∧ M' 300 1 = M 300 1 ∧ (∀ a b, a < 300 → M' a b = M a b) := by
  obtain ⟨X, hX⟩ : ∃ X, X = hk_msA M (hk_mth (jm_up M 300 0 0) R) g := ⟨_, rfl⟩
  obtain ⟨x1, x2, x3, x4, x5, x6⟩ := hk_msA_v hX
  unfold hk_msh at hM'
  by_cases q : M 309 g = 1
  · rw [if_pos q] at hM'
    unfold hk_msD at hM'
    rw [← hX] at hM'
    refine ⟨fun b => ?_, fun b z => ?_, ?_, ?_, fun a b z => ?_⟩
    · rw [hM', jm_up_n (Or.inl (by decide)), jm_up_n (Or.inl (by decide)), jm_up_n (Or.inl (by decide)), jm_up_n (Or.inl (by decide)), jm_up_n (Or.inl (by decide)), jm_up_n (Or.inl (by decide)), x1 312 (by decide) (by decide) (by decide) (by decide) (by decide)]
    · rw [hM', jm_up_n (Or.inl (by decide)), jm_up_n (Or.inr z), jm_up_n (Or.inl (by decide)), jm_up_n (Or.inl (by decide)), jm_up_n (Or.inl (by decide)), jm_up_n (Or.inl (by decide)), x1 309 (by decide) (by decide) (by decide) (by decide) (by decide)]
    · rw [hM', jm_up_n (Or.inl (by decide)), jm_up_s]
      split <;> decide
    · rw [hM', jm_up_n (Or.inl (by decide)), jm_up_n (Or.inl (by decide)), jm_up_n (Or.inl (by decide)), jm_up_n (Or.inl (by decide)), jm_up_n (Or.inl (by decide)), jm_up_n (Or.inl (by decide)), x2 1 (by decide)]
    · rw [hM', jm_up_n (Or.inl (by omega)), jm_up_n (Or.inl (by omega)), jm_up_n (Or.inl (by omega)), jm_up_n (Or.inl (by omega)), jm_up_n (Or.inl (by omega)), jm_up_n (Or.inl (by omega)), x1 a (by omega) (by omega) (by omega) (by omega) (by omega)]
  · have st2 := st.resolve_left q
    rw [if_neg q] at hM'
    obtain ⟨P, hP⟩ : ∃ P, P = hk_msP M (hk_mth (jm_up M 300 0 0) R) g := ⟨_, rfl⟩
    rw [← hP] at hM'
    unfold hk_msP at hP
    rw [← hX] at hP
    have pf : ∀ a, a ≠ 320 → P a = X a := fun a z => funext fun b => by rw [hP, hk_filo_o (Or.inl z)]
    have p12 : ∀ b, P 312 b = M 312 b := fun b => by rw [pf 312 (by decide), x1 312 (by decide) (by decide) (by decide) (by decide) (by decide)]
    have p09 : ∀ b, P 309 b = M 309 b := fun b => by rw [pf 309 (by decide), x1 309 (by decide) (by decide) (by decide) (by decide) (by decide)]
    have p00 : P 300 1 = M 300 1 := by rw [pf 300 (by decide), x2 1 (by decide)]
    have pl : ∀ a b, a < 300 → P a b = M a b := fun a b z => by rw [pf a (by omega), x1 a (by omega) (by omega) (by omega) (by omega) (by omega)]
    by_cases q6 : M 317 g + 1 = 6
    · rw [if_pos q6] at hM'
      unfold hk_msE hk_ends at hM'
      obtain ⟨Y, hY⟩ : ∃ Y, Y = hk_en1 P g (hk_scd (P 325)) := ⟨_, rfl⟩
      obtain ⟨z1, -⟩ := hk_en1_v P g _ hY
      rw [← hY] at hM'
      by_cases q4 : P 316 g + 1 = 4
      · rw [if_pos q4] at hM'
        unfold hk_en2 at hM'
        refine ⟨fun b => ?_, fun b z => ?_, ?_, ?_, fun a b z => ?_⟩
        · rw [hM', jm_up_n (Or.inl (by decide)), jm_up_n (Or.inl (by decide)), jm_up_n (Or.inl (by decide)), jm_up_n (Or.inl (by decide)), z1 312 (by decide) (by decide) (by decide) (by decide) (by decide), p12]
        · rw [hM', jm_up_n (Or.inl (by decide)), jm_up_n (Or.inl (by decide)), jm_up_n (Or.inl (by decide)), jm_up_n (Or.inr z), z1 309 (by decide) (by decide) (by decide) (by decide) (by decide), p09]
        · rw [hM', jm_up_n (Or.inl (by decide)), jm_up_n (Or.inl (by decide)), jm_up_n (Or.inl (by decide)), jm_up_s]; decide
        · rw [hM', jm_up_n (Or.inl (by decide)), jm_up_n (Or.inl (by decide)), jm_up_n (Or.inl (by decide)), jm_up_n (Or.inl (by decide)), z1 300 (by decide) (by decide) (by decide) (by decide) (by decide), p00]
        · rw [hM', jm_up_n (Or.inl (by omega)), jm_up_n (Or.inl (by omega)), jm_up_n (Or.inl (by omega)), jm_up_n (Or.inl (by omega)), z1 a (by omega) (by omega) (by omega) (by omega) (by omega), pl a b z]
      · rw [if_neg q4] at hM'
        rw [hM']
        refine ⟨fun b => ?_, fun b z => ?_, ?_, ?_, fun a b z => ?_⟩
        · rw [z1 312 (by decide) (by decide) (by decide) (by decide) (by decide), p12]
        · rw [z1 309 (by decide) (by decide) (by decide) (by decide) (by decide), p09]
        · rw [z1 309 (by decide) (by decide) (by decide) (by decide) (by decide), p09, st2]; decide
        · rw [z1 300 (by decide) (by decide) (by decide) (by decide) (by decide), p00]
        · rw [z1 a (by omega) (by omega) (by omega) (by omega) (by omega), pl a b z]
    · rw [if_neg q6] at hM'
      rw [hM']
      exact ⟨p12, fun b _ => p09 b, by rw [p09, st2]; decide, p00, pl⟩
/-- a throw that counts: the same on both sides -/
theorem hk_shoot_eq {C M MB C' M' : jm_M} {n : Nat} {T g lane wt tn lo hi pl : Int} {Th : Int × (Int → Int) × (Int → Int)} (h : hk_inv C M n T) (N : hk_nm M) (hT : 0 ≤ T) (hg : 0 ≤ g ∧ g < n) (st : M 309 g = 1 ∨ M 309 g = 2) (hl : 0 ≤ lane ∧ lane ≤ 8) (hw : 0 ≤ wt ∧ wt ≤ 100)
    (hTh : Th = hk_thr (C (10 + C (30 + g) 6 + 100)) (C (30 + g + 100 + 100)) (hk_slot C (30 + g)) lane (10 * wt) tn lo hi) (hpl : pl = Th.1)
    (m1 : ∀ a, a ≠ 4 → a ≠ 4 + 100 + 100 → a ≠ 10 + C (30 + g) 6 + 100 → MB a = C a) (m2 : hk_eq6 (MB (4 + 100 + 100)) Th.2.2) (m3 : MB (10 + C (30 + g) 6 + 100) = Th.2.1)
    (hC' : C' = if C (30 + g) 5 = 1 then hk_sdr MB (30 + g) (hk_dist pl) else hk_sst (hk_fill MB (30 + g + 100 + 100) 6 (MB (4 + 100 + 100))) (30 + g))
    (hM' : M' = hk_msh M (hk_mth (jm_up M 300 0 0) (hk_mch 7 (hk_tku M g 324) (hk_tku M g 325) (hk_mslot M g) lane 0 (10 * wt) tn lo hi)) g) :
    hk_inv C' M' n (T + 1) ∧ pl = (hk_mch 7 (hk_tku M g 324) (hk_tku M g 325) (hk_mslot M g) lane 0 (10 * wt) tn lo hi).2 (hk_mslot M g) ∧ (∀ a b, a < 300 → M' a b = M a b) := by
  obtain ⟨x1, x2, x3, x4, x5, x6, x7, x8, x9, x10, x11, x12⟩ := hk_row h.1 N hg st
  obtain ⟨t1, t2⟩ := hk_tries_eq (tn := tn) (lo := lo) (hi := hi) h.1 N hg st hl hw
  rw [← hTh] at t1 t2
  have hb : hk_beg (hk_tku M g 325) (hk_mslot M g) lane 0 := Or.inl ⟨by rw [x3]; exact x7, rfl⟩
  have ok := hk_mch_ok 7 (hk_tku M g 324) (hk_tku M g 325) (hk_mslot M g) lane 0 (10 * wt) tn lo hi (by rw [x2]; exact x8) (by rw [x3]; exact x9) (by rw [x3]; exact x10) x6 hl (by omega) (by omega) hb
  have out := (hk_mch_out 7 (hk_tku M g 324) (hk_tku M g 325) (hk_mslot M g) lane 0 (10 * wt) tn lo hi (by rw [x2]; exact x8) (by rw [x3]; exact x9) x6 hl (by omega) (by omega)).1
  obtain ⟨R, hR⟩ : ∃ R, R = hk_mch 7 (hk_tku M g 324) (hk_tku M g 325) (hk_mslot M g) lane 0 (10 * wt) tn lo hi := ⟨_, rfl⟩
  rw [← hR] at t1 t2 ok out hM' ⊢
  obtain ⟨o1, o2, o3, o4⟩ := ok
  have G := h.1.2.2.2.2.2.2.2.2.2.1 g hg.1 hg.2
  have r5 : C (30 + g) 5 = M 309 g := G.1.2.2.2.2.1
  have r6 : C (30 + g) 6 = M 314 g := x1.1
  rw [r6] at m1 m3
  rw [t1] at m2 m3
  have hRo : ∀ c, ¬ (0 ≤ c ∧ c < 549) → R.1 c = 0 := fun c q => by rw [out c q, hk_tku_4']; exact (if_neg q).trans (N.1 c q)
  have okp : hk_ok pl := by rw [hpl, t2]; exact o2 _ x6.1 x6.2
  obtain ⟨p1, p2, p3, p4, p5⟩ := hk_msh_p (R := R) st hM'
  have key : hk_re C' M' n (T + 1) := by
    have m5 : hk_mth (jm_up M 300 0 0) R 325 = R.2 := by unfold hk_mth; rw [if_neg (by decide), if_pos rfl]
    by_cases q : M 309 g = 1
    · rw [r5, if_pos q] at hC'
      unfold hk_msh at hM'
      rw [if_pos q, m5, ← t2, ← hpl, hk_far_dist okp] at hM'
      rw [hC', hM']
      refine hk_shoot_d h.1 hg q ⟨m1, m2, m3⟩ o1 hRo (by have := hk_dist_r pl; omega) ?_
      unfold hk_team hk_mturn
      rw [if_pos q]
    · have q2 := st.resolve_left q
      rw [r5, if_neg q] at hC'
      unfold hk_msh at hM'
      rw [if_neg q] at hM'
      rw [hC', hM']
      by_cases q6 : M 317 g + 1 = 6
      · rw [if_pos q6]
        exact hk_shoot_e h.1 hg hT q2 q6 ⟨m1, m2, m3⟩ o1 hRo o2
      · rw [if_neg q6]
        have sl : hk_mslot M g = hk_sl2 (M 318 g) (M 317 g) := by
          unfold hk_mslot hk_mturn hk_sl2
          rw [if_neg q, if_pos q2, if_pos q2, Int.tdiv_eq_ediv_of_nonneg x12.1, Int.tmod_eq_emod_of_nonneg x12.1]
        refine hk_shoot_s h.1 hg hT q2 (by omega) ⟨m1, m2, m3⟩ o1 hRo o2 o3 (fun j j1 j2 j3 j4 => ?_)
        have z := o4 j j1 j2 (by rw [sl]; exact j3) (Or.inl (by rw [x3]; exact j4))
        rw [z, x3]
        exact j4
  refine ⟨⟨key, fun b => by rw [p1]; exact h.2.1 b, fun b b0 b1 b2 => ?_⟩, by rw [hpl, t2], p5⟩
  rw [p1, p4]
  have hne : b ≠ g := fun e => p3 (by rw [← e]; exact b2)
  rw [p2 b hne] at b2
  exact h.2.2 b b0 b1 b2
theorem hk_crew_eq {C M : jm_M} {n : Nat} {T k : Int} (h : hk_inv C M n T) (hk : 1 ≤ k ∧ k ≤ 6) : hk_inv (jm_up C 0 6 k) (jm_up (jm_up M 300 0 0) 300 2 k) n T ∧ C 0 6 = M 300 2 := by
  obtain ⟨h0, h1, h2⟩ := h
  obtain ⟨a, b, c, d, -⟩ := id h0
  refine ⟨⟨?_, fun g => ?_, fun g g0 g1 g2 => ?_⟩, c.1⟩
  · refine hk_re_0 h0 (fun a b z => jm_up_n (Or.inl z)) (fun a b z => by rw [jm_up_n (Or.inl z), jm_up_n (Or.inl z)]) ⟨?_, ?_⟩ ?_ ?_ ?_
    · rw [jm_up_n (Or.inr (by decide))]; exact a.1
    · rw [jm_up_n (Or.inr (by decide)), jm_up_n (Or.inr (by decide))]; exact a.2.1
    · rw [jm_up_n (Or.inr (by decide)), jm_up_n (Or.inr (by decide)), jm_up_n (Or.inr (by decide))]; exact b
    · rw [jm_up_s, jm_up_s]; exact ⟨rfl, hk⟩
    · rw [jm_up_n (Or.inr (by decide)), jm_up_n (Or.inr (by decide)), jm_up_n (Or.inr (by decide)), jm_up_n (Or.inr (by decide)), jm_up_n (Or.inr (by decide)), jm_up_n (Or.inr (by decide))]; exact d
  · rw [jm_up_n (Or.inl (by decide)), jm_up_n (Or.inl (by decide))]; exact h1 g
  · have z1 : jm_up (jm_up M 300 0 0) 300 2 k 300 1 = M 300 1 := by rw [jm_up_n (Or.inr (by decide)), jm_up_n (Or.inr (by decide))]
    have z2 : ∀ a b, a ≠ 300 → jm_up (jm_up M 300 0 0) 300 2 k a b = M a b := fun a b z => by rw [jm_up_n (Or.inl z), jm_up_n (Or.inl z)]
    rw [z2 309 g (by decide)] at g2
    rw [z1, z2 312 g (by decide)]
    exact h2 g g0 g1 g2
/-- the map behind a game that is planned -/
def hk_gnew (C' : jm_M) (k a b s h : Int) : Prop := (C' k 0 = a ∧ C' k 1 = b ∧ C' k 2 = s ∧ C' k 4 = h ∧ C' k 5 = 0 ∧ C' k 6 = -1) ∧ (C' k 7 = 0 ∧ C' k 8 = 0 ∧ C' k 9 = 0 ∧ C' k 10 = 0 ∧ C' k 11 = 0 ∧ C' k 12 = -1) ∧ C' (k + 100 + 100) = fun c => if 0 ≤ c ∧ c < 6 then -1 else 0
theorem hk_plan_eq {C M C' : jm_M} {n : Nat} {T a b h s : Int} (H : hk_inv C M n T) (hn : n < 12) (ha : 0 ≤ a ∧ a ≤ 5) (hb : 0 ≤ b ∧ b ≤ 5) (hs : 0 ≤ s ∧ s ≤ 2) (hne : a ≠ b) (hh : M 300 1 + 1 ≤ h ∧ h ≤ 9999)
    (c0 : ∀ b, b ≠ 4 → C' 0 b = C 0 b) (c4 : C' 0 4 = n + 1) (co : ∀ x, 10 ≤ x → x < 300 → x ≠ 30 + (n : Int) → x ≠ 30 + (n : Int) + 100 → x ≠ 30 + (n : Int) + 100 + 100 → x ≠ 104 → x ≠ 204 → C' x = C x) (cg : hk_gnew C' (30 + n) a b s h) : hk_inv C' (hk_mplan M a b h s) (n + 1) T ∧ (∀ x y, x < 300 → hk_mplan M a b h s x y = M x y) := by
  obtain ⟨h0, h1, h2⟩ := H
  obtain ⟨⟨a1, a2, a3⟩, ⟨b1, b2, b3⟩, ⟨c1, c2, c3⟩, ⟨d1, d2, d3, d4, d5⟩, f1, f2, f3, u1, u2, g1, g2⟩ := h0
  obtain ⟨⟨w0, w1, w2, w4, w5, w6⟩, ⟨w7, w8, w9, w10, w11, w12⟩, wf⟩ := cg
  obtain ⟨M', hM'⟩ : ∃ M', M' = hk_mplan M a b h s := ⟨_, rfl⟩
  rw [← hM']
  unfold hk_mplan at hM'
  rw [a2] at hM'
  have p0 : ∀ b, b ≠ 0 → b ≠ 8 → M' 300 b = M 300 b := fun b z z2 => by rw [hM', jm_up_n (Or.inr z2), hk_filo_o (Or.inl (by decide)), jm_up_n (Or.inl (by decide)), jm_up_n (Or.inl (by decide)), jm_up_n (Or.inl (by decide)), jm_up_n (Or.inl (by decide)), jm_up_n (Or.inl (by decide)), jm_up_n (Or.inr z)]
  have p8 : M' 300 8 = n + 1 := by rw [hM', jm_up_s]
  have p : ∀ x, x ≠ 300 → x ≠ 310 → x ≠ 311 → x ≠ 312 → x ≠ 313 → x ≠ 314 → x ≠ 320 → M' x = M x := fun x z0 z1 z2 z3 z4 z5 z6 => funext fun y => by rw [hM', jm_up_n (Or.inl z0), hk_filo_o (Or.inl z6), jm_up_n (Or.inl z5), jm_up_n (Or.inl z4), jm_up_n (Or.inl z3), jm_up_n (Or.inl z2), jm_up_n (Or.inl z1), jm_up_n (Or.inl z0)]
  have pb : ∀ x y, x ≠ 300 → x ≠ 320 → y ≠ (n : Int) → M' x y = M x y := fun x y z0 z1 z2 => by rw [hM', jm_up_n (Or.inl z0), hk_filo_o (Or.inl z1), jm_up_n (Or.inr z2), jm_up_n (Or.inr z2), jm_up_n (Or.inr z2), jm_up_n (Or.inr z2), jm_up_n (Or.inr z2), jm_up_n (Or.inl z0)]
  have q10 : M' 310 n = a := by rw [hM', jm_up_n (Or.inl (by decide)), hk_filo_o (Or.inl (by decide)), jm_up_n (Or.inl (by decide)), jm_up_n (Or.inl (by decide)), jm_up_n (Or.inl (by decide)), jm_up_n (Or.inl (by decide)), jm_up_s]
  have q11 : M' 311 n = b := by rw [hM', jm_up_n (Or.inl (by decide)), hk_filo_o (Or.inl (by decide)), jm_up_n (Or.inl (by decide)), jm_up_n (Or.inl (by decide)), jm_up_n (Or.inl (by decide)), jm_up_s]
  have q12 : M' 312 n = h := by rw [hM', jm_up_n (Or.inl (by decide)), hk_filo_o (Or.inl (by decide)), jm_up_n (Or.inl (by decide)), jm_up_n (Or.inl (by decide)), jm_up_s]
  have q13 : M' 313 n = s := by rw [hM', jm_up_n (Or.inl (by decide)), hk_filo_o (Or.inl (by decide)), jm_up_n (Or.inl (by decide)), jm_up_s]
  have q14 : M' 314 n = -1 := by rw [hM', jm_up_n (Or.inl (by decide)), hk_filo_o (Or.inl (by decide)), jm_up_s]
  have p20 : ∀ y, ¬ (6 * (n : Int) ≤ y ∧ y < 6 * n + 6) → M' 320 y = M 320 y := fun y z => by rw [hM', jm_up_n (Or.inl (by decide)), hk_filo_o (Or.inr z), jm_up_n (Or.inl (by decide)), jm_up_n (Or.inl (by decide)), jm_up_n (Or.inl (by decide)), jm_up_n (Or.inl (by decide)), jm_up_n (Or.inl (by decide)), jm_up_n (Or.inl (by decide))]
  have q20 : ∀ k, 0 ≤ k → k < 6 → M' 320 (6 * n + k) = -1 := fun k z1 z2 => by rw [hM', jm_up_n (Or.inl (by decide)), hk_filo_i (by omega)]
  have pr := fun x (z0 : x ≠ 300) (z : x ≠ 310 ∧ x ≠ 311 ∧ x ≠ 312 ∧ x ≠ 313 ∧ x ≠ 314 ∧ x ≠ 320) => p x z0 z.1 z.2.1 z.2.2.1 z.2.2.2.1 z.2.2.2.2.1 z.2.2.2.2.2
  have em := g2 n (Int.le_refl _) (by omega)
  refine ⟨⟨⟨⟨by rw [c4]; omega, by rw [p8]; omega, by omega⟩, by rw [c0 5 (by decide), p0 1 (by decide) (by decide)]; exact ⟨b1, b2, b3⟩, by rw [c0 6 (by decide), p0 2 (by decide) (by decide)]; exact ⟨c1, c2, c3⟩, by rw [c0 7 (by decide), c0 8 (by decide), p0 3 (by decide) (by decide), p0 4 (by decide) (by decide)]; exact ⟨d1, d2, d3, d4, d5⟩, fun x z1 z2 => ?_, fun x z1 z2 => ?_, by rw [pr 305 (by decide) (by decide)]; exact f3, fun t z1 z2 => ?_, by rw [pr 321 (by decide) (by decide), pr 322 (by decide) (by decide), pr 323 (by decide) (by decide)]; exact u2, fun g z1 z2 => ?_, fun g z1 z2 => ?_⟩, fun g => ?_, fun g z1 z2 z3 => ?_⟩, fun x y z => ?_⟩
  · have := f1 x z1 z2
    unfold hk_rs1 at this ⊢
    rw [co (10 + x) (by omega) (by omega) (by omega) (by omega) (by omega) (by omega) (by omega), pr 306 (by decide) (by decide), pr 307 (by decide) (by decide)]; exact this
  · have := f2 x z1 z2
    unfold hk_rs2 at this ⊢
    rw [co (10 + x + 100) (by omega) (by omega) (by omega) (by omega) (by omega) (by omega) (by omega), pr 305 (by decide) (by decide)]; exact this
  · have := u1 t z1 z2
    unfold hk_rt at this ⊢
    rw [co (20 + t) (by omega) (by omega) (by omega) (by omega) (by omega) (by omega) (by omega), pr 321 (by decide) (by decide), pr 322 (by decide) (by decide), pr 323 (by decide) (by decide)]; exact this
  · by_cases e : g = n
    · rw [e]
      unfold hk_rg
      rw [q10, q11, q12, q13, q14, pr 309 (by decide) (by decide), pr 315 (by decide) (by decide), pr 316 (by decide) (by decide), pr 317 (by decide) (by decide), pr 318 (by decide) (by decide), pr 319 (by decide) (by decide), em.1, em.2.1, em.2.2.1, em.2.2.2.1, em.2.2.2.2]
      have ef : ∀ i, 0 ≤ i → i < 6 → C' (30 + (n : Int) + 100 + 100) i = -1 := fun i i1 i2 => by rw [wf]; exact if_pos ⟨i1, i2⟩
      refine ⟨⟨w0, w1, w2, w4, w5, w6, w8, w9, w10, w11⟩, ?_, by rw [if_neg (by decide)]; exact w12, fun z => absurd z (by decide), ⟨by omega, by omega, hne, by omega, by decide, fun z => absurd z (by decide), by decide, fun _ => by decide, by decide, by decide⟩, fun _ => rfl, fun z => absurd z (by decide), fun z => absurd z (by decide), fun i i1 i2 => Or.inl (ef i i1 i2), fun i j i1 i2 j1 j2 _ _ => ef i i1 i2, fun _ => ef, fun z => absurd z (by decide)⟩
      rw [wf]
      funext k
      by_cases q : 0 ≤ k ∧ k < 6
      · rw [if_pos q, if_pos q]; exact (q20 k q.1 q.2).symm
      · rw [if_neg q, if_neg q]
    · refine hk_rg_c (g1 g z1 (by omega)) (co _ (by omega) (by omega) (by omega) (by omega) (by omega) (by omega) (by omega)) (co _ (by omega) (by omega) (by omega) (by omega) (by omega) (by omega) (by omega)) (fun x y1 y2 y3 => pb x g (by omega) (by omega) e) (by rw [pr 315 (by decide) (by decide)]; exact ⟨rfl, rfl⟩) (fun k k1 k2 => p20 _ (by omega))
  · rw [pr 309 (by decide) (by decide), pr 315 (by decide) (by decide), pr 316 (by decide) (by decide), pr 317 (by decide) (by decide)]; exact g2 g (by omega) z2
  · by_cases e : g = n
    · rw [e, q12]; omega
    · rw [pb 312 g (by decide) (by decide) e]; exact h1 g
  · rw [p0 1 (by decide) (by decide)]
    by_cases e : g = n
    · rw [e, q12]; omega
    · rw [pb 312 g (by decide) (by decide) e]
      rw [pr 309 (by decide) (by decide)] at z3
      exact h2 g z1 (by omega) z3
  · rw [p x (by omega) (by omega) (by omega) (by omega) (by omega) (by omega) (by omega)]
