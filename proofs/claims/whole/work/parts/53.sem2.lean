theorem hk_semf {I I2 : jm_M} {n : Nat} {T kz zb : Int} (h : hk_inv I I n T) (wk : hk_wk I I2) (hc : I2 300 0 = kz ∧ (0 < kz ∧ kz ≤ 3)) : hk_sem I2 kz zb n T := ⟨hc.1, by omega, fun z => by omega, hk_inv_T (hk_query h (hk_of_rf I) wk) (by omega)⟩
/-- the class's and the model's maps after a change, taken as one -/
theorem hk_semc {C M I1 I2 Ia : jm_M} {n : Nat} {T v v' zb : Int} (h : hk_inv C M n (T + 1)) (hv : jm_R v') (ev : jm_i v' = jm_i v) (e1 : I1 = jm_up Ia 299 0 v') (hz : v = zb) (h0 : I2 300 0 = 0) (h2 : ∀ a b, a < 300 → I2 a b = I1 a b) (hC : ∀ a b, a < 299 → Ia a b = C a b) (hM : hk_wk0 M I2) : hk_sem I2 0 zb n T := by
  refine ⟨h0, by decide, fun _ => ?_, hk_inv_x h (fun a b q1 q2 _ _ _ => ?_) hM⟩
  · rw [h2 299 0 (by decide), e1, jm_up_s, ← hz]
    exact ⟨hv, ev⟩
  · rw [h2 a b (by omega), e1, jm_up_n (Or.inl (by omega)), hC a b q2]
theorem hk_wk0_rf (M : jm_M) : hk_wk0 M M := fun _ _ _ _ _ _ _ _ => rfl

theorem hk_s_tries {I I1 I2 : jm_M} {n : Nat} {T kz zb g lane wt tn lo hi : Int} (H : hk_inv I I n T) (N : hk_nm I) (hh : hk_wp (fun I' z => (0 ≤ g ∧ g < (n : Int)) ∧ (hk_shot lane wt tn lo hi) ∧ (I (30 + g) 5 = 1 ∨ I (30 + g) 5 = 2) ∧ hk_off I I' ∧ z = (hk_thr (I (10 + I (30 + g) 6 + 100)) (I (30 + g + 100 + 100)) (hk_slot I (30 + g)) lane (10 * wt) tn lo hi).1) (fun cls I' => I' = I ∧ ((¬ (0 ≤ g ∧ g < (n : Int)) ∧ cls = "java/lang/IndexOutOfBoundsException") ∨ ((0 ≤ g ∧ g < (n : Int)) ∧ ¬ (hk_shot lane wt tn lo hi) ∧ cls = "java/lang/IllegalArgumentException") ∨ ((0 ≤ g ∧ g < (n : Int)) ∧ (hk_shot lane wt tn lo hi) ∧ ¬ (I (30 + g) 5 = 1 ∨ I (30 + g) 5 = 2) ∧ cls = "java/lang/IllegalStateException"))) [("java/lang/IndexOutOfBoundsException", 1), ("java/lang/IllegalArgumentException", 2), ("java/lang/IllegalStateException", 3)] I1 kz) (hm : hk_cd I2 (0 ≤ g ∧ g < I1 300 8) (hk_shot lane wt tn lo hi) (I1 309 g = 1 ∨ I1 309 g = 2) ∧ hk_wk I1 I2 ∧ ((0 ≤ g ∧ g < I1 300 8) → hk_shot lane wt tn lo hi → (I1 309 g = 1 ∨ I1 309 g = 2) → zb = (hk_mch 7 (hk_tku I1 g 324) (hk_tku I1 g 325) (hk_mslot I1 g) lane 0 (10 * wt) tn lo hi).2 (hk_mslot I1 g))) : hk_sem I2 kz zb n T := by
  obtain ⟨cd, wk, mv⟩ := hm
  have e8 := H.1.1
  refine hk_semq H hh (fun I' z q => hk_of_off q.2.2.2.1) (fun c I' q => q.1) wk (fun e I' v q => ?_) (fun e => ?_)
  · obtain ⟨qa, qb, qc, qo, qv⟩ := q
    rw [e 300 (by decide), e8.2.1] at cd mv
    have st : I1 309 g = 1 ∨ I1 309 g = 2 := by
      rw [e 309 (by decide), ← (H.1.2.2.2.2.2.2.2.2.2.1 g qa.1 qa.2).1.2.2.2.2.1]; exact qc
    refine ⟨hk_cd_0 cd qa qb st, ?_⟩
    rw [qv, mv qa qb st]
    obtain ⟨s1, s2, s3, s4, -⟩ := id qb
    exact (hk_tries_eq (C := I) (M := I1) (hk_inv_M H e).1 (hk_nm_M N e) qa st ⟨s1, s2⟩ ⟨by omega, s4⟩).2
  · rw [e 300 (by decide), e8.2.1] at cd
    refine hk_cod3 (by decide) (by decide) (by decide) cd Iff.rfl (fun _ => Iff.rfl) (fun qa _ st => ?_)
    rw [(H.1.2.2.2.2.2.2.2.2.2.1 g qa.1 qa.2).1.2.2.2.2.1, ← e 309 (by decide)]; exact st

theorem hk_s_advice {I I1 I2 : jm_M} {n : Nat} {T kz zb g : Int} (H : hk_inv I I n T) (N : hk_nm I) (hh : hk_wp (fun I' z => (0 ≤ g ∧ g < (n : Int)) ∧ (I (30 + g) 5 = 2) ∧ hk_off I I' ∧ z = (hk_adv (hk_advv I (30 + g)) hk_advc 90).1) (fun cls I' => I' = I ∧ ((¬ (0 ≤ g ∧ g < (n : Int)) ∧ cls = "java/lang/IndexOutOfBoundsException") ∨ ((0 ≤ g ∧ g < (n : Int)) ∧ ¬ (I (30 + g) 5 = 2) ∧ cls = "java/lang/IllegalStateException"))) [("java/lang/IndexOutOfBoundsException", 1), ("java/lang/IllegalStateException", 2)] I1 kz) (hm : hk_cd I2 (0 ≤ g ∧ g < I1 300 8) (I1 309 g = 2) True ∧ hk_wk I1 I2 ∧ ((0 ≤ g ∧ g < I1 300 8) → I1 309 g = 2 → zb = (hk_adv (hk_advm I1 g) hk_advc 90).1)) : hk_sem I2 kz zb n T := by
  obtain ⟨cd, wk, mv⟩ := hm
  have e8 := H.1.1
  refine hk_semq H hh (fun I' z q => hk_of_off q.2.2.1) (fun c I' q => q.1) wk (fun e I' v q => ?_) (fun e => ?_)
  · obtain ⟨qa, qc, qo, qv⟩ := q
    rw [e 300 (by decide), e8.2.1] at cd mv
    have st : I1 309 g = 2 := by
      rw [e 309 (by decide), ← (H.1.2.2.2.2.2.2.2.2.2.1 g qa.1 qa.2).1.2.2.2.2.1]; exact qc
    refine ⟨hk_cd_0 cd qa st trivial, ?_⟩
    rw [qv, mv qa st]
    exact congrArg Prod.fst (hk_advice_eq (C := I) (M := I1) (hk_inv_M H e).1 (hk_nm_M N e) qa st)
  · rw [e 300 (by decide), e8.2.1] at cd
    refine hk_cod2 (by decide) cd Iff.rfl (fun qa st => ?_)
    rw [(H.1.2.2.2.2.2.2.2.2.2.1 g qa.1 qa.2).1.2.2.2.2.1, ← e 309 (by decide)]; exact st

theorem hk_s_pass {I I1 I2 : jm_M} {n : Nat} {T kz zb k : Int} (H : hk_inv I I n T)  (hh : hk_wp (fun I' z => (1 ≤ k ∧ k ≤ 48) ∧ (I 0 5 + k ≤ 9999) ∧ I' = hk_cpn I (n : Int) k.toNat ∧ z = I 0 5 + k) (fun cls I' => I' = I ∧ ((¬ (1 ≤ k ∧ k ≤ 48) ∧ cls = "java/lang/IllegalArgumentException") ∨ ((1 ≤ k ∧ k ≤ 48) ∧ ¬ (I 0 5 + k ≤ 9999) ∧ cls = "java/lang/IllegalStateException"))) [("java/lang/IllegalArgumentException", 1), ("java/lang/IllegalStateException", 2)] I1 kz) (hm : hk_cd I2 (1 ≤ k ∧ k ≤ 48) (I1 300 1 + k ≤ 9999) True ∧ ((1 ≤ k ∧ k ≤ 48) → (I1 300 1 + k ≤ 9999) → I2 = hk_mpn (jm_up I1 300 0 0) n k.toNat ∧ zb = I1 300 1 + k) ∧ (¬ ((1 ≤ k ∧ k ≤ 48) ∧ (I1 300 1 + k ≤ 9999)) → hk_wk I1 I2)) : hk_sem I2 kz zb n T := by
  obtain ⟨cd, mv, wk⟩ := hm
  have b := H.1.2.1
  rcases hh with ⟨rfl, Ia, v, v', ⟨qa, qb, qi, qv⟩, hv, ev, e1⟩ | ⟨c, hc, hx, rfl⟩
  · have e : ∀ a y, 300 ≤ a → I1 a y = I a y := fun a y ha => by
      rw [e1, jm_up_n (Or.inl (by omega)), qi, hk_cpn_o H (by omega) k.toNat (by omega)]
    rw [e 300 1 (by decide)] at cd mv
    obtain ⟨hJ, hz⟩ := mv qa (by omega)
    have B : hk_inv I (jm_up I1 300 0 0) n T := hk_inv_x H (fun _ _ _ _ _ _ _ => rfl) (fun a y q1 _ _ _ _ q6 => by rw [jm_up_n q6, e a y q1])
    have B1 := (hk_hours B k.toNat (by rw [jm_up_n (Or.inr (by decide)), e 300 1 (by decide)]; omega)).1
    rw [← hJ] at B1
    exact hk_semc (hk_inv_T B1 (by omega)) hv ev e1 (by rw [qv, hz]; omega) (hk_cd_0 cd qa (by omega) trivial) (fun a y q => by rw [hJ, hk_mpn_o q, jm_up_n (Or.inl (by omega))]) (fun a y _ => by rw [qi]) (hk_wk0_rf _)
  · obtain ⟨hI, hx⟩ := hx
    rw [hI] at cd mv wk
    have cc := hk_cod2 (I := I) (A := 1 ≤ k ∧ k ≤ 48) (B := I 0 5 + k ≤ 9999) (by decide) cd Iff.rfl (fun _ z => by omega) c hc ⟨rfl, hx⟩
    exact hk_semf H (wk (fun q => by have := hk_cd_0 cd q.1 q.2 trivial; omega)) cc

theorem hk_s_crew {I I1 I2 : jm_M} {n : Nat} {T kz zb k : Int} (H : hk_inv I I n T)  (hh : hk_wp (fun I' z => (1 ≤ k ∧ k ≤ 6) ∧ I' = jm_up I 0 6 k ∧ z = I 0 6) (fun cls I' => I' = I ∧ cls = "java/lang/IllegalArgumentException" ∧ ¬ (1 ≤ k ∧ k ≤ 6)) [("java/lang/IllegalArgumentException", 1)] I1 kz) (hm : hk_cd I2 (1 ≤ k ∧ k ≤ 6) True True ∧ (1 ≤ k ∧ k ≤ 6 → I2 = jm_up (jm_up I1 300 0 0) 300 2 k ∧ zb = I1 300 2) ∧ (¬ (1 ≤ k ∧ k ≤ 6) → hk_wk I1 I2)) : hk_sem I2 kz zb n T := by
  obtain ⟨cd, mv, wk⟩ := hm
  rcases hh with ⟨rfl, Ia, v, v', ⟨qa, qi, qv⟩, hv, ev, e1⟩ | ⟨c, hc, hx, rfl⟩
  · have e : ∀ a y, 300 ≤ a → I1 a y = I a y := fun a y ha => by
      rw [e1, jm_up_n (Or.inl (by omega)), qi, jm_up_n (Or.inl (by omega))]
    rw [e 300 2 (by decide)] at mv
    obtain ⟨hJ, hz⟩ := mv qa
    obtain ⟨B, B2⟩ := hk_crew_eq H qa
    refine hk_semc (hk_inv_T B (by omega)) hv ev e1 (by rw [qv, hz, B2]) (hk_cd_0 cd qa trivial trivial) (fun a y q => by rw [hJ, jm_up_n (Or.inl (by omega)), jm_up_n (Or.inl (by omega))]) (fun a y _ => by rw [qi]) (fun a y q1 _ _ _ _ q6 => ?_)
    rw [hJ]
    by_cases z : a = 300 ∧ y = 2
    · rw [z.1, z.2, jm_up_s, jm_up_s]
    · have z' : a ≠ 300 ∨ y ≠ 2 := by omega
      rw [jm_up_n z', jm_up_n z', jm_up_n q6, jm_up_n q6, e a y q1]
  · obtain ⟨hI, hx⟩ := hx
    rw [hI] at mv wk
    have cc := hk_cod1 (I := I) (A := 1 ≤ k ∧ k ≤ 6) cd (fun z => z) c hc ⟨rfl, hx⟩
    exact hk_semf H (wk (fun q => by have := hk_cd_0 cd q trivial trivial; omega)) cc

theorem hk_s_shoot {I I1 I2 : jm_M} {n : Nat} {T kz zb g lane wt tn lo hi : Int} (H : hk_inv I I n T) (N : hk_nm I) (hT : 0 ≤ T) (hh : hk_wp (fun I' z => (0 ≤ g ∧ g < (n : Int)) ∧ (hk_shot lane wt tn lo hi) ∧ (I (30 + g) 5 = 1 ∨ I (30 + g) 5 = 2) ∧ z = (hk_thr (I (10 + I (30 + g) 6 + 100)) (I (30 + g + 100 + 100)) (hk_slot I (30 + g)) lane (10 * wt) tn lo hi).1 ∧ ∃ M : jm_M, (∀ a, a ≠ 4 → a ≠ 4 + 100 + 100 → a ≠ 10 + I (30 + g) 6 + 100 → M a = I a) ∧ hk_eq6 (M (4 + 100 + 100)) (hk_thr (I (10 + I (30 + g) 6 + 100)) (I (30 + g + 100 + 100)) (hk_slot I (30 + g)) lane (10 * wt) tn lo hi).2.2 ∧ M (10 + I (30 + g) 6 + 100) = (hk_thr (I (10 + I (30 + g) 6 + 100)) (I (30 + g + 100 + 100)) (hk_slot I (30 + g)) lane (10 * wt) tn lo hi).2.1 ∧ hk_w9 (M (10 + I (30 + g) 6 + 100)) ∧ hk_good (hk_thr (I (10 + I (30 + g) 6 + 100)) (I (30 + g + 100 + 100)) (hk_slot I (30 + g)) lane (10 * wt) tn lo hi).2.2 ∧ I' = (if I (30 + g) 5 = 1 then hk_sdr M (30 + g) (hk_dist (hk_thr (I (10 + I (30 + g) 6 + 100)) (I (30 + g + 100 + 100)) (hk_slot I (30 + g)) lane (10 * wt) tn lo hi).1) else hk_sst (hk_fill M (30 + g + 100 + 100) 6 (M (4 + 100 + 100))) (30 + g))) (fun cls I' => I' = I ∧ ((¬ (0 ≤ g ∧ g < (n : Int)) ∧ cls = "java/lang/IndexOutOfBoundsException") ∨ ((0 ≤ g ∧ g < (n : Int)) ∧ ¬ (hk_shot lane wt tn lo hi) ∧ cls = "java/lang/IllegalArgumentException") ∨ ((0 ≤ g ∧ g < (n : Int)) ∧ (hk_shot lane wt tn lo hi) ∧ ¬ (I (30 + g) 5 = 1 ∨ I (30 + g) 5 = 2) ∧ cls = "java/lang/IllegalStateException"))) [("java/lang/IndexOutOfBoundsException", 1), ("java/lang/IllegalArgumentException", 2), ("java/lang/IllegalStateException", 3)] I1 kz) (hm : hk_cd I2 (0 ≤ g ∧ g < I1 300 8) (hk_shot lane wt tn lo hi) (I1 309 g = 1 ∨ I1 309 g = 2) ∧ ((0 ≤ g ∧ g < I1 300 8) → hk_shot lane wt tn lo hi → (I1 309 g = 1 ∨ I1 309 g = 2) → I2 = hk_msh I1 (hk_mth (jm_up I1 300 0 0) (hk_mch 7 (hk_tku I1 g 324) (hk_tku I1 g 325) (hk_mslot I1 g) lane 0 (10 * wt) tn lo hi)) g ∧ zb = (hk_mch 7 (hk_tku I1 g 324) (hk_tku I1 g 325) (hk_mslot I1 g) lane 0 (10 * wt) tn lo hi).2 (hk_mslot I1 g)) ∧ (¬ ((0 ≤ g ∧ g < I1 300 8) ∧ (hk_shot lane wt tn lo hi) ∧ (I1 309 g = 1 ∨ I1 309 g = 2)) → hk_wk I1 I2)) : hk_sem I2 kz zb n T := by
  obtain ⟨cd, mv, wk⟩ := hm
  have e8 := H.1.1
  rcases hh with ⟨rfl, Ia, v, v', ⟨qa, qb, qc, qv, MB, m1, m2, m3, m4, m5, qi⟩, hv, ev, e1⟩ | ⟨c, hc, hx, rfl⟩
  · obtain ⟨⟨r0, r1, r2, r4, r5, r6, -⟩, -, -, -, ⟨x1, x2, -, -, -, x6, -⟩, -⟩ := H.1.2.2.2.2.2.2.2.2.2.1 g qa.1 qa.2
    have st : I 309 g = 1 ∨ I 309 g = 2 := by rw [← r5]; exact qc
    have s6 := x6 st
    have mk : MB (30 + g) = I (30 + g) := m1 _ (by omega) (by omega) (by omega)
    have mo : ∀ a y, 299 ≤ a → MB a y = I a y := fun a y ha => congrFun (m1 a (by omega) (by omega) (by omega)) y
    have ia : ∀ a y, 299 ≤ a → Ia a y = I a y := fun a y ha => by
      rw [qi]
      by_cases z : I (30 + g) 5 = 1
      · rw [if_pos z, hk_sdr_o (by omega) (by rw [mk]; omega) (by rw [mk]; omega) ha, mo a y ha]
      · rw [if_neg z, hk_sst_o (by omega) (by rw [hk_fill_f (by omega), mk]; omega) (by rw [hk_fill_f (by omega), mk]; omega) (by rw [hk_fill_f (by omega), mk]; omega) ha, hk_fill_f (by omega), mo a y ha]
    have e : ∀ a, 300 ≤ a → I1 a = I a := fun a ha => funext fun y => by rw [e1, jm_up_n (Or.inl (by omega)), ia a y (by omega)]
    have st1 : I1 309 g = 1 ∨ I1 309 g = 2 := by rw [e 309 (by decide)]; exact st
    rw [e 300 (by decide), e8.2.1] at cd
    have mv' := mv (by rw [e 300 (by decide), e8.2.1]; exact qa) qb st1
    obtain ⟨s1, s2, s3, s4, -⟩ := id qb
    have K := hk_shoot_eq (C := I) (M := I1) (MB := MB) (hk_inv_M H e) (hk_nm_M N e) hT qa st1 ⟨s1, s2⟩ ⟨by omega, s4⟩ rfl rfl m1 m2 m3 qi mv'.1
    exact hk_semc K.1 hv ev e1 (by rw [mv'.2, qv]; exact K.2.1) (hk_cd_0 cd qa qb st1) K.2.2 (fun _ _ _ => rfl) (hk_wk0_rf _)
  · obtain ⟨hI, hx⟩ := hx
    rw [hI] at cd mv wk
    rw [e8.2.1] at cd
    have cc := hk_cod3 (I := I) (A := 0 ≤ g ∧ g < (n : Int)) (B := hk_shot lane wt tn lo hi) (D := I (30 + g) 5 = 1 ∨ I (30 + g) 5 = 2) (by decide) (by decide) (by decide) cd Iff.rfl (fun _ => Iff.rfl) (fun qa _ st => by rw [(H.1.2.2.2.2.2.2.2.2.2.1 g qa.1 qa.2).1.2.2.2.2.1]; exact st) c hc ⟨rfl, hx⟩
    refine hk_semf H (wk (fun q => ?_)) cc
    rw [e8.2.1] at q
    have := hk_cd_0 cd q.1 q.2.1 q.2.2
    omega

theorem hk_s_plan {I I1 I2 Ia : jm_M} {n : Nat} {T zb a b h s v v' : Int} (H : hk_inv I I n T) (qa : (0 ≤ a ∧ a ≤ 5) ∧ (0 ≤ b ∧ b ≤ 5) ∧ (0 ≤ s ∧ s ≤ 2)) (qb : a ≠ b ∧ I 0 5 + 1 ≤ h ∧ h ≤ 9999) (qn : (n : Int) < 12) (qv : v = n) (p1 : ∀ y, y ≠ 4 → Ia 0 y = I 0 y) (p2 : Ia 0 4 = n + 1) (p3 : ∀ x, x ≠ 0 → x ≠ 30 + (n : Int) → x ≠ 30 + (n : Int) + 100 → x ≠ 30 + (n : Int) + 100 + 100 → Ia x = I x) (p4 : hk_gnew Ia (30 + n) a b s h) (hv : jm_R v') (ev : jm_i v' = jm_i v) (e1 : I1 = jm_up Ia 299 0 v') (hm : hk_cd I2 ((0 ≤ a ∧ a ≤ 5) ∧ (0 ≤ b ∧ b ≤ 5) ∧ (0 ≤ s ∧ s ≤ 2)) (a ≠ b ∧ I1 300 1 + 1 ≤ h ∧ h ≤ 9999) (I1 300 8 < 12) ∧ (((0 ≤ a ∧ a ≤ 5) ∧ (0 ≤ b ∧ b ≤ 5) ∧ (0 ≤ s ∧ s ≤ 2)) → (a ≠ b ∧ I1 300 1 + 1 ≤ h ∧ h ≤ 9999) → (I1 300 8 < 12) → I2 = hk_mplan I1 a b h s ∧ zb = I1 300 8) ∧ (¬ (((0 ≤ a ∧ a ≤ 5) ∧ (0 ≤ b ∧ b ≤ 5) ∧ (0 ≤ s ∧ s ≤ 2)) ∧ (a ≠ b ∧ I1 300 1 + 1 ≤ h ∧ h ≤ 9999) ∧ (I1 300 8 < 12)) → hk_wk I1 I2)) : hk_sem I2 0 zb (n + 1) T := by
  obtain ⟨cd, mv, wk⟩ := hm
  have e8 := H.1.1
  have e5 := H.1.2.1
  have e : ∀ a, 300 ≤ a → I1 a = I a := fun a ha => funext fun y => by rw [e1, jm_up_n (Or.inl (by omega)), p3 a (by omega) (by omega) (by omega) (by omega)]
  rw [e 300 (by decide), e8.2.1] at cd mv
  have qb' : a ≠ b ∧ I 300 1 + 1 ≤ h ∧ h ≤ 9999 := by rw [← e5.1]; exact qb
  obtain ⟨hJ, hz⟩ := mv qa qb' qn
  have K := hk_plan_eq (C := I) (M := I1) (C' := Ia) (hk_inv_M H e) (by omega) qa.1 qa.2.1 qa.2.2 qb.1 (by rw [e 300 (by decide)]; exact qb'.2) p1 (by rw [p2]) (fun x h1 h2 h3 h4 h5 h6 h7 => p3 x (by omega) h3 h4 h5) p4
  rw [← hJ] at K
  exact hk_semc (hk_inv_T K.1 (by omega)) hv ev e1 (by rw [qv, hz]) (hk_cd_0 cd qa qb' qn) K.2 (fun _ _ _ => rfl) (hk_wk0_rf _)
theorem hk_s_planf {I I1 I2 : jm_M} {n : Nat} {T kz zb a b h s : Int} (H : hk_inv I I n T) {c : String × Int} (hc : c ∈ [("java/lang/IndexOutOfBoundsException", (1 : Int)), ("java/lang/IllegalArgumentException", 2), ("java/lang/IllegalStateException", 3)]) (hx : (fun cls I' => I' = I ∧ ((¬ ((0 ≤ a ∧ a ≤ 5) ∧ (0 ≤ b ∧ b ≤ 5) ∧ (0 ≤ s ∧ s ≤ 2)) ∧ cls = "java/lang/IndexOutOfBoundsException") ∨ (((0 ≤ a ∧ a ≤ 5) ∧ (0 ≤ b ∧ b ≤ 5) ∧ (0 ≤ s ∧ s ≤ 2)) ∧ ¬ (a ≠ b ∧ I 0 5 + 1 ≤ h ∧ h ≤ 9999) ∧ cls = "java/lang/IllegalArgumentException") ∨ (((0 ≤ a ∧ a ≤ 5) ∧ (0 ≤ b ∧ b ≤ 5) ∧ (0 ≤ s ∧ s ≤ 2)) ∧ (a ≠ b ∧ I 0 5 + 1 ≤ h ∧ h ≤ 9999) ∧ ¬ ((n : Int) < 12) ∧ cls = "java/lang/IllegalStateException"))) c.1 I1) (hk : kz = c.2) (hm : hk_cd I2 ((0 ≤ a ∧ a ≤ 5) ∧ (0 ≤ b ∧ b ≤ 5) ∧ (0 ≤ s ∧ s ≤ 2)) (a ≠ b ∧ I1 300 1 + 1 ≤ h ∧ h ≤ 9999) (I1 300 8 < 12) ∧ (((0 ≤ a ∧ a ≤ 5) ∧ (0 ≤ b ∧ b ≤ 5) ∧ (0 ≤ s ∧ s ≤ 2)) → (a ≠ b ∧ I1 300 1 + 1 ≤ h ∧ h ≤ 9999) → (I1 300 8 < 12) → I2 = hk_mplan I1 a b h s ∧ zb = I1 300 8) ∧ (¬ (((0 ≤ a ∧ a ≤ 5) ∧ (0 ≤ b ∧ b ≤ 5) ∧ (0 ≤ s ∧ s ≤ 2)) ∧ (a ≠ b ∧ I1 300 1 + 1 ≤ h ∧ h ≤ 9999) ∧ (I1 300 8 < 12)) → hk_wk I1 I2)) : hk_sem I2 kz zb n T := by
  subst hk
  obtain ⟨cd, mv, wk⟩ := hm
  have e8 := H.1.1
  have e5 := H.1.2.1
  obtain ⟨hI, hx⟩ := hx
  rw [hI] at cd mv wk
  rw [e8.2.1] at cd
  have cc := hk_cod3 (I := I) (A := (0 ≤ a ∧ a ≤ 5) ∧ (0 ≤ b ∧ b ≤ 5) ∧ (0 ≤ s ∧ s ≤ 2)) (B := a ≠ b ∧ I 0 5 + 1 ≤ h ∧ h ≤ 9999) (D := (n : Int) < 12) (by decide) (by decide) (by decide) cd Iff.rfl (fun _ => by rw [e5.1]) (fun _ _ z => z) c hc ⟨rfl, hx⟩
  refine hk_semf H (wk (fun q => ?_)) cc
  rw [e8.2.1] at q
  have := hk_cd_0 cd q.1 q.2.1 q.2.2
  omega

