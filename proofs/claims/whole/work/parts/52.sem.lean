theorem hk_s_ofTeam {I I1 I2 : jm_M} {n : Nat} {T kz zb t k : Int} (H : hk_inv I I n T)  (hh : hk_wp (fun I' z => (0 ≤ t ∧ t < 6) ∧ (0 ≤ k ∧ k ≤ 2) ∧ I' = I ∧ z = if k = 0 then I (20 + t) 0 else if k = 1 then I (20 + t) 1 else I (20 + t) 2) (fun cls I' => I' = I ∧ ((¬ (0 ≤ t ∧ t < 6) ∧ cls = "java/lang/IndexOutOfBoundsException") ∨ ((0 ≤ t ∧ t < 6) ∧ ¬ (0 ≤ k ∧ k ≤ 2) ∧ cls = "java/lang/IllegalArgumentException"))) [("java/lang/IndexOutOfBoundsException", 1), ("java/lang/IllegalArgumentException", 2)] I1 kz) (hm : hk_cd I2 (0 ≤ t ∧ t ≤ 5) (0 ≤ k ∧ k ≤ 2) True ∧ hk_wk I1 I2 ∧ ((0 ≤ t ∧ t ≤ 5) → (0 ≤ k ∧ k ≤ 2) → zb = if k = 0 then I1 321 t else if k = 1 then I1 322 t else I1 323 t)) : hk_sem I2 kz zb n T := by
  obtain ⟨cd, wk, mv⟩ := hm
  refine hk_semq H hh (fun I' z q => by rw [q.2.2.1]; exact hk_of_rf I) (fun c I' q => q.1) wk (fun e I' v q => ?_) (fun e => hk_cod2 (by decide) cd (by omega) (fun _ z => z))
  obtain ⟨qa, qb, qc, qv⟩ := q
  have rt := H.1.2.2.2.2.2.2.2.1 t qa.1 qa.2
  refine ⟨hk_cd_0 cd (by omega) qb trivial, ?_⟩
  rw [qv, mv (by omega) qb, rt.1, rt.2.1, rt.2.2, e 321 (by decide), e 322 (by decide), e 323 (by decide)]

theorem hk_s_standing {I I1 I2 : jm_M} {n : Nat} {T kz zb p : Int} (H : hk_inv I I n T)  (hh : hk_wp (fun I' z => (0 ≤ p ∧ p ≤ 5) ∧ I' = I ∧ z = hk_std I p 6) (fun cls I' => I' = I ∧ cls = "java/lang/IndexOutOfBoundsException" ∧ ¬ (0 ≤ p ∧ p ≤ 5)) [("java/lang/IndexOutOfBoundsException", 1)] I1 kz) (hm : hk_cd I2 (0 ≤ p ∧ p ≤ 5) True True ∧ hk_wk I1 I2 ∧ (0 ≤ p ∧ p ≤ 5 → zb = hk_ord I1 6 p)) : hk_sem I2 kz zb n T := by
  obtain ⟨cd, wk, mv⟩ := hm
  refine hk_semq H hh (fun I' z q => by rw [q.2.1]; exact hk_of_rf I) (fun c I' q => q.1) wk (fun e I' v q => ?_) (fun e => hk_cod1 cd (fun z => z))
  obtain ⟨qa, qc, qv⟩ := q
  refine ⟨hk_cd_0 cd qa trivial trivial, ?_⟩
  rw [qv, mv qa]
  have e2 : ∀ t, hk_rt I I t → hk_rt I I1 t := fun t z => by unfold hk_rt at z ⊢; rw [e 321 (by decide), e 322 (by decide), e 323 (by decide)]; exact z
  exact hk_standing_eq (C := I) (M := I1) (fun t a b => e2 t (H.1.2.2.2.2.2.2.2.1 t a b)) (fun t => by rw [e 322 (by decide)]; exact (H.1.2.2.2.2.2.2.2.2.1 t).2.1.1) qa

theorem hk_s_wear {I I1 I2 : jm_M} {n : Nat} {T kz zb s x y : Int} (H : hk_inv I I n T)  (hh : hk_wp (fun I' z => (0 ≤ s ∧ s < 3) ∧ (0 ≤ x ∧ x ≤ 8 ∧ 0 ≤ y ∧ y ≤ 60) ∧ I' = I ∧ z = I (10 + s + 100) (x * 61 + y)) (fun cls I' => I' = I ∧ cls = "java/lang/IndexOutOfBoundsException" ∧ ¬ ((0 ≤ s ∧ s < 3) ∧ (0 ≤ x ∧ x ≤ 8 ∧ 0 ≤ y ∧ y ≤ 60))) [("java/lang/IndexOutOfBoundsException", 1)] I1 kz) (hm : hk_cd I2 (0 ≤ s ∧ s ≤ 2 ∧ 0 ≤ x ∧ x ≤ 8 ∧ 0 ≤ y ∧ y ≤ 60) True True ∧ hk_wk I1 I2 ∧ ((0 ≤ s ∧ s ≤ 2 ∧ 0 ≤ x ∧ x ≤ 8 ∧ 0 ≤ y ∧ y ≤ 60) → zb = I1 305 (549 * s + 61 * x + y))) : hk_sem I2 kz zb n T := by
  obtain ⟨cd, wk, mv⟩ := hm
  refine hk_semq H hh (fun I' z q => by rw [q.2.2.1]; exact hk_of_rf I) (fun c I' q => q.1) wk (fun e I' v q => ?_) (fun e => hk_cod1 cd (fun z => by omega))
  obtain ⟨qa, qb, qc, qv⟩ := q
  have r2 := H.1.2.2.2.2.2.1 s qa.1 qa.2
  unfold hk_rs2 at r2
  refine ⟨hk_cd_0 cd (by omega) trivial trivial, ?_⟩
  rw [qv, mv (by omega), e 305 (by decide), r2]
  show (if 0 ≤ x * 61 + y ∧ x * 61 + y < 549 then I 305 (549 * s + (x * 61 + y)) else 0) = _
  rw [if_pos (by omega)]
  congr 1
  omega

theorem hk_s_ofSheet {I I1 I2 : jm_M} {n : Nat} {T kz zb s k : Int} (H : hk_inv I I n T)  (hh : hk_wp (fun I' z => (0 ≤ s ∧ s < 3) ∧ (0 ≤ k ∧ k ≤ 3) ∧ I' = I ∧ z = if k = 0 then (if I (10 + s) 1 = 0 then 0 else 1) else if k = 1 then I (10 + s) 2 else if k = 2 then hk_sum (I (10 + s + 100)) 549 else if I 0 7 = s then I 0 8 else 0) (fun cls I' => I' = I ∧ ((¬ (0 ≤ s ∧ s < 3) ∧ cls = "java/lang/IndexOutOfBoundsException") ∨ ((0 ≤ s ∧ s < 3) ∧ ¬ (0 ≤ k ∧ k ≤ 3) ∧ cls = "java/lang/IllegalArgumentException"))) [("java/lang/IndexOutOfBoundsException", 1), ("java/lang/IllegalArgumentException", 2)] I1 kz) (hm : hk_cd I2 (0 ≤ s ∧ s ≤ 2) (0 ≤ k ∧ k ≤ 3) True ∧ hk_wk I1 I2 ∧ ((0 ≤ s ∧ s ≤ 2) → (0 ≤ k ∧ k ≤ 3) → zb = if k = 0 then (if I1 306 s = 0 then 1 else 0) else if k = 1 then I1 307 s else if k = 2 then hk_sumo (I1 305) (549 * s) 549 else if I1 300 3 = s then I1 300 4 else 0)) : hk_sem I2 kz zb n T := by
  obtain ⟨cd, wk, mv⟩ := hm
  refine hk_semq H hh (fun I' z q => by rw [q.2.2.1]; exact hk_of_rf I) (fun c I' q => q.1) wk (fun e I' v q => ?_) (fun e => hk_cod2 (by decide) cd (by omega) (fun _ z => z))
  obtain ⟨qa, qb, qc, qv⟩ := q
  have r1 := H.1.2.2.2.2.1 s qa.1 qa.2
  have r2 := H.1.2.2.2.2.2.1 s qa.1 qa.2
  have r4 := H.1.2.2.2.1
  unfold hk_rs2 at r2
  unfold hk_rs1 at r1
  refine ⟨hk_cd_0 cd (by omega) qb trivial, ?_⟩
  rw [qv, mv (by omega) qb, e 306 (by decide), e 307 (by decide), e 305 (by decide), e 300 (by decide), hk_sum_o (I 305) (549 * s) _ r2 549 (Nat.le_refl 549), r1.2.1, r1.2.2]
  by_cases k0 : k = 0
  · rw [if_pos k0, if_pos k0]
    rcases r1.1 with z | z <;> rw [z] <;> decide
  rw [if_neg k0, if_neg k0]
  by_cases k1 : k = 1
  · rw [if_pos k1, if_pos k1]
  rw [if_neg k1, if_neg k1]
  by_cases k2 : k = 2
  · rw [if_pos k2, if_pos k2]
  rw [if_neg k2, if_neg k2, r4.1]
  by_cases q : I 300 3 = s
  · rw [if_pos q, if_pos q]; exact (r4.2.2.2.1 (by omega)).1
  · rw [if_neg q, if_neg q]

theorem hk_s_ofGame {I I1 I2 : jm_M} {n : Nat} {T kz zb g k : Int} (H : hk_inv I I n T)  (hh : hk_wp (fun I' z => (0 ≤ g ∧ g < (n : Int)) ∧ (0 ≤ k ∧ k ≤ 7) ∧ I' = I ∧ z = if k = 0 then I (30 + g) 5 else if k = 1 then I (30 + g) 4 else if k = 2 then I (30 + g) 6 else if k = 3 then I (30 + g) 8 else if k = 4 then I (30 + g) 9 else if k = 5 then I (30 + g) 10 else if k = 6 then hk_nside (I (30 + g) 5) (I (30 + g) 11) (I (30 + g) 12) else I (30 + g) 12) (fun cls I' => I' = I ∧ ((¬ (0 ≤ g ∧ g < (n : Int)) ∧ cls = "java/lang/IndexOutOfBoundsException") ∨ ((0 ≤ g ∧ g < (n : Int)) ∧ ¬ (0 ≤ k ∧ k ≤ 7) ∧ cls = "java/lang/IllegalArgumentException"))) [("java/lang/IndexOutOfBoundsException", 1), ("java/lang/IllegalArgumentException", 2)] I1 kz) (hm : hk_cd I2 (0 ≤ g ∧ g < I1 300 8) (0 ≤ k ∧ k ≤ 7) True ∧ hk_wk I1 I2 ∧ ((0 ≤ g ∧ g < I1 300 8) → (0 ≤ k ∧ k ≤ 7) → zb = if k = 0 then I1 309 g else if k = 1 then I1 312 g else if k = 2 then I1 314 g else if k < 5 then I1 315 (2 * g + k - 3) else if k = 5 then I1 316 g else if k = 6 then hk_mturn I1 g else if I1 309 g = 2 then I1 318 g else -1)) : hk_sem I2 kz zb n T := by
  obtain ⟨cd, wk, mv⟩ := hm
  have e8 := H.1.1
  refine hk_semq H hh (fun I' z q => by rw [q.2.2.1]; exact hk_of_rf I) (fun c I' q => q.1) wk (fun e I' v q => ?_) (fun e => hk_cod2 (by decide) cd (by rw [e 300 (by decide), e8.2.1]) (fun _ z => z))
  obtain ⟨qa, qb, qc, qv⟩ := q
  rw [e 300 (by decide), e8.2.1] at cd mv
  obtain ⟨⟨r0, r1, r2, r4, r5, r6, r8, r9, r10, r11⟩, hf, h12, h7, eb, s0, s1, s2, k1, k2, k3, k4⟩ := H.1.2.2.2.2.2.2.2.2.2.1 g qa.1 qa.2
  refine ⟨hk_cd_0 cd qa qb trivial, ?_⟩
  have ns : hk_nside (I 309 g) (I 317 g) (if I 309 g = 2 then I 318 g else -1) = hk_mturn I1 g := by
    unfold hk_nside hk_mturn
    rw [e 309 (by decide), e 317 (by decide), e 318 (by decide)]
    by_cases z1 : I 309 g = 1
    · rw [if_pos z1, if_pos z1]
    rw [if_neg z1, if_neg z1]
    by_cases z2 : I 309 g = 2
    · have t2 := s2 z2
      rw [if_pos z2, if_pos z2, if_pos z2, Int.tmod_eq_emod_of_nonneg t2.1.1]
      rcases t2.2 with y | y <;> rw [y]
      · rw [if_pos rfl]; split <;> omega
      · rw [if_neg (show ¬ (1 : Int) = 0 by decide)]; split <;> omega
    · rw [if_neg z2, if_neg z2]
  rw [qv, mv qa qb, r5, r4, r6, r8, r9, r10, r11, h12, ns, e 309 (by decide), e 312 (by decide), e 314 (by decide), e 315 (by decide), e 316 (by decide), e 318 (by decide)]
  by_cases k0 : k = 0
  · rw [if_pos k0, if_pos k0]
  rw [if_neg k0, if_neg k0]
  by_cases k1 : k = 1
  · rw [if_pos k1, if_pos k1]
  rw [if_neg k1, if_neg k1]
  by_cases k2 : k = 2
  · rw [if_pos k2, if_pos k2]
  rw [if_neg k2, if_neg k2]
  by_cases k3 : k = 3
  · rw [if_pos k3, if_pos (by omega), k3]; congr 1; omega
  rw [if_neg k3]
  by_cases k4 : k = 4
  · rw [if_pos k4, if_pos (by omega), k4]; congr 1; omega
  rw [if_neg k4, if_neg (show ¬ k < 5 by omega)]

theorem hk_s_stone {I I1 I2 : jm_M} {n : Nat} {T kz zb g t k : Int} (H : hk_inv I I n T)  (hh : hk_wp (fun I' z => (0 ≤ g ∧ g < (n : Int)) ∧ ((0 ≤ t ∧ t ≤ 1) ∧ (0 ≤ k ∧ k ≤ 2)) ∧ I' = I ∧ z = hk_at (I (30 + g + 100 + 100)) (t * 3 + k)) (fun cls I' => I' = I ∧ cls = "java/lang/IndexOutOfBoundsException" ∧ ¬ ((0 ≤ g ∧ g < (n : Int)) ∧ ((0 ≤ t ∧ t ≤ 1) ∧ (0 ≤ k ∧ k ≤ 2)))) [("java/lang/IndexOutOfBoundsException", 1)] I1 kz) (hm : hk_cd I2 ((0 ≤ g ∧ g < I1 300 8) ∧ (0 ≤ t ∧ t ≤ 1) ∧ (0 ≤ k ∧ k ≤ 2)) True True ∧ hk_wk I1 I2 ∧ (((0 ≤ g ∧ g < I1 300 8) ∧ (0 ≤ t ∧ t ≤ 1) ∧ (0 ≤ k ∧ k ≤ 2)) → zb = I1 320 (6 * g + 3 * t + k))) : hk_sem I2 kz zb n T := by
  obtain ⟨cd, wk, mv⟩ := hm
  have e8 := H.1.1
  refine hk_semq H hh (fun I' z q => by rw [q.2.2.1]; exact hk_of_rf I) (fun c I' q => q.1) wk (fun e I' v q => ?_) (fun e => hk_cod1 cd (by rw [e 300 (by decide), e8.2.1]; exact fun z => z))
  obtain ⟨qa, qb, qc, qv⟩ := q
  rw [e 300 (by decide), e8.2.1] at cd mv
  obtain ⟨-, hf, -⟩ := H.1.2.2.2.2.2.2.2.2.2.1 g qa.1 qa.2
  refine ⟨hk_cd_0 cd ⟨qa, qb⟩ trivial trivial, ?_⟩
  rw [qv, mv ⟨qa, qb⟩, hk_at_in (by omega), hf, e 320 (by decide)]
  show (if 0 ≤ t * 3 + k ∧ t * 3 + k < 6 then I 320 (6 * g + (t * 3 + k)) else 0) = _
  rw [if_pos (by omega)]
  congr 1
  omega

theorem hk_s_wouldScore {I I1 I2 : jm_M} {n : Nat} {T kz zb g : Int} (H : hk_inv I I n T)  (hh : hk_wp (fun I' z => (0 ≤ g ∧ g < (n : Int)) ∧ I' = I ∧ z = hk_score (I (30 + g + 100 + 100))) (fun cls I' => I' = I ∧ cls = "java/lang/IndexOutOfBoundsException" ∧ ¬ (0 ≤ g ∧ g < (n : Int))) [("java/lang/IndexOutOfBoundsException", 1)] I1 kz) (hm : hk_cd I2 (0 ≤ g ∧ g < I1 300 8) True True ∧ hk_wk I1 I2 ∧ ((0 ≤ g ∧ g < I1 300 8) → zb = if I1 309 g = 2 then hk_scd (hk_fill I1 325 6 (fun k => I1 320 (6 * g + k)) 325) else 0)) : hk_sem I2 kz zb n T := by
  obtain ⟨cd, wk, mv⟩ := hm
  have e8 := H.1.1
  refine hk_semq H hh (fun I' z q => by rw [q.2.1]; exact hk_of_rf I) (fun c I' q => q.1) wk (fun e I' v q => ?_) (fun e => hk_cod1 cd (by rw [e 300 (by decide), e8.2.1]; exact fun z => z))
  obtain ⟨qa, qc, qv⟩ := q
  rw [e 300 (by decide), e8.2.1] at cd mv
  have HI : hk_re I I1 n T := by
    refine hk_re_x H.1 (fun a b _ _ _ _ _ => rfl) (fun a b q1 _ _ _ _ _ => congrFun (e a q1) b)
  have w := hk_would HI qa
  refine ⟨hk_cd_0 cd qa trivial trivial, ?_⟩
  rw [qv, mv qa, w.1]

theorem hk_s_wouldScoreAnew {I I1 I2 : jm_M} {n : Nat} {T kz zb g : Int} (H : hk_inv I I n T)  (hh : hk_wp (fun I' z => (0 ≤ g ∧ g < (n : Int)) ∧ I' = I ∧ z = hk_one (I (30 + g + 100 + 100)) 6) (fun cls I' => I' = I ∧ cls = "java/lang/IndexOutOfBoundsException" ∧ ¬ (0 ≤ g ∧ g < (n : Int))) [("java/lang/IndexOutOfBoundsException", 1)] I1 kz) (hm : hk_cd I2 (0 ≤ g ∧ g < I1 300 8) True True ∧ hk_wk I1 I2 ∧ ((0 ≤ g ∧ g < I1 300 8) → zb = if I1 309 g = 2 then hk_scd (hk_fill I1 325 6 (fun k => I1 320 (6 * g + k)) 325) else 0)) : hk_sem I2 kz zb n T := by
  obtain ⟨cd, wk, mv⟩ := hm
  have e8 := H.1.1
  refine hk_semq H hh (fun I' z q => by rw [q.2.1]; exact hk_of_rf I) (fun c I' q => q.1) wk (fun e I' v q => ?_) (fun e => hk_cod1 cd (by rw [e 300 (by decide), e8.2.1]; exact fun z => z))
  obtain ⟨qa, qc, qv⟩ := q
  rw [e 300 (by decide), e8.2.1] at cd mv
  have HI : hk_re I I1 n T := by
    refine hk_re_x H.1 (fun a b _ _ _ _ _ => rfl) (fun a b q1 _ _ _ _ _ => congrFun (e a q1) b)
  have w := hk_would HI qa
  refine ⟨hk_cd_0 cd qa trivial trivial, ?_⟩
  rw [qv, mv qa, w.1]
  exact w.2

