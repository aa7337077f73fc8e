/-! A STONE OF AN END, side by side -/
theorem hk_close_v (I : jm_M) (k sc : Int) (hsc : sc = hk_score (I (k + 100 + 100))) :
    hk_close I k k 8 = I k 8 + (if 0 < sc then sc else 0) ∧ hk_close I k k 9 = I k 9 - (if sc < 0 then sc else 0) ∧ hk_close I k k 10 = I k 10 + 1 ∧ hk_close I k k 11 = 0 ∧ hk_close I k k 12 = (if 0 < sc then 1 else if sc < 0 then 0 else I k 12) ∧ hk_close I k (k + 100 + 100) = fun b => if 0 ≤ b ∧ b < 6 then -1 else I (k + 100 + 100) b := by
  have hk : k ≠ k + 100 + 100 := by omega
  have hk2 : k + 100 + 100 ≠ k := by omega
  unfold hk_close
  try dsimp only
  rw [← hsc]
  refine ⟨?_, ?_, ?_, ?_, ?_, ?_⟩
  · rw [jm_up_n (Or.inr (by decide)), jm_up_n (Or.inr (by decide)), hk_fill_o (Or.inl hk)]
    by_cases q : 0 < sc
    · rw [if_pos q, if_pos q, jm_up_n (Or.inr (by decide)), jm_up_s]
    · rw [if_neg q, if_neg q]
      split
      · rw [jm_up_n (Or.inr (by decide)), jm_up_n (Or.inr (by decide))]; omega
      · omega
  · rw [jm_up_n (Or.inr (by decide)), jm_up_n (Or.inr (by decide)), hk_fill_o (Or.inl hk)]
    by_cases q : 0 < sc
    · rw [if_pos q, if_neg (show ¬ sc < 0 by omega), jm_up_n (Or.inr (by decide)), jm_up_n (Or.inr (by decide))]; omega
    · rw [if_neg q]
      by_cases q2 : sc < 0
      · rw [if_pos q2, if_pos q2, jm_up_n (Or.inr (by decide)), jm_up_s]
      · rw [if_neg q2, if_neg q2]; omega
  · rw [jm_up_s]
  · rw [jm_up_n (Or.inr (by decide)), jm_up_s]
  · rw [jm_up_n (Or.inr (by decide)), jm_up_n (Or.inr (by decide)), hk_fill_o (Or.inl hk)]
    by_cases q : 0 < sc
    · rw [if_pos q, if_pos q, jm_up_s]
    · rw [if_neg q, if_neg q]
      by_cases q2 : sc < 0
      · rw [if_pos q2, if_pos q2, jm_up_s]
      · rw [if_neg q2, if_neg q2]
  · funext b
    rw [jm_up_n (Or.inl hk2), jm_up_n (Or.inl hk2)]
    by_cases q : 0 ≤ b ∧ b < 6
    · rw [hk_fill_i q, if_pos q]
    · rw [hk_fill_o (Or.inr q), if_neg q]
      split
      · rw [jm_up_n (Or.inl hk2), jm_up_n (Or.inl hk2)]
      · split
        · rw [jm_up_n (Or.inl hk2), jm_up_n (Or.inl hk2)]
        · rfl
theorem hk_en1_v (X : jm_M) (g s : Int) {Y : jm_M} (hY : Y = hk_en1 X g s) :
    (∀ a, a ≠ 315 → a ≠ 316 → a ≠ 317 → a ≠ 318 → a ≠ 320 → Y a = X a) ∧ (Y 315 (2 * g) = X 315 (2 * g) + (if s ≤ 0 then 0 else s)) ∧ (Y 315 (2 * g + 1) = X 315 (2 * g + 1) - (if 0 ≤ s then 0 else s)) ∧ (∀ b, b ≠ 2 * g → b ≠ 2 * g + 1 → Y 315 b = X 315 b) ∧
    (Y 318 g = (if s ≤ 0 then (if 0 ≤ s then X 318 g else 0) else 1)) ∧ Y 316 g = X 316 g + 1 ∧ Y 317 g = 0 ∧ (∀ a b, a = 316 ∨ a = 317 ∨ a = 318 → b ≠ g → Y a b = X a b) ∧ (∀ b, Y 320 b = if 6 * g ≤ b ∧ b < 6 * g + 6 then -1 else X 320 b) := by
  unfold hk_en1 at hY
  refine ⟨fun a z1 z2 z3 z4 z5 => ?_, ?_, ?_, fun b z1 z2 => ?_, ?_, ?_, ?_, fun a b z1 z2 => ?_, fun b => ?_⟩
  · funext b
    rw [hY, hk_filo_o (Or.inl z5), jm_up_n (Or.inl z3), jm_up_n (Or.inl z2), jm_up_n (Or.inl z4), jm_up_n (Or.inl z1), jm_up_n (Or.inl z1)]
  · rw [hY, hk_filo_o (Or.inl (by decide)), jm_up_n (Or.inl (by decide)), jm_up_n (Or.inl (by decide)), jm_up_n (Or.inl (by decide)), jm_up_n (Or.inr (by omega)), jm_up_s]
  · rw [hY, hk_filo_o (Or.inl (by decide)), jm_up_n (Or.inl (by decide)), jm_up_n (Or.inl (by decide)), jm_up_n (Or.inl (by decide)), jm_up_s]
  · rw [hY, hk_filo_o (Or.inl (by decide)), jm_up_n (Or.inl (by decide)), jm_up_n (Or.inl (by decide)), jm_up_n (Or.inl (by decide)), jm_up_n (Or.inr z2), jm_up_n (Or.inr z1)]
  · rw [hY, hk_filo_o (Or.inl (by decide)), jm_up_n (Or.inl (by decide)), jm_up_n (Or.inl (by decide)), jm_up_s]
  · rw [hY, hk_filo_o (Or.inl (by decide)), jm_up_n (Or.inl (by decide)), jm_up_s]
  · rw [hY, hk_filo_o (Or.inl (by decide)), jm_up_s]
  · rw [hY, hk_filo_o (Or.inl (by omega)), jm_up_n (Or.inr z2), jm_up_n (Or.inr z2), jm_up_n (Or.inr z2), jm_up_n (Or.inl (by omega)), jm_up_n (Or.inl (by omega))]
  · rw [hY]
    by_cases q : 6 * g ≤ b ∧ b < 6 * g + 6
    · rw [hk_filo_i q, if_pos q]
    · rw [hk_filo_o (Or.inr q), if_neg q, jm_up_n (Or.inl (by decide)), jm_up_n (Or.inl (by decide)), jm_up_n (Or.inl (by decide)), jm_up_n (Or.inl (by decide)), jm_up_n (Or.inl (by decide))]
theorem hk_sl2_r {l h : Int} (h0 : 0 ≤ h ∧ h < 6) : 0 ≤ hk_sl2 l h ∧ hk_sl2 l h < 6 := by
  unfold hk_sl2
  split <;> omega
theorem hk_sl2_ne {l h h2 : Int} (h0 : 0 ≤ h ∧ h < 6) (h1 : 0 ≤ h2 ∧ h2 < 6) (hne : h ≠ h2) : hk_sl2 l h ≠ hk_sl2 l h2 := by
  unfold hk_sl2
  split <;> omega
/-- what a stone leaves of the class, ahead of the settlement: the stones are the game's -/
def hk_sF (MB : jm_M) (k : Int) : jm_M := hk_fill MB (k + 100 + 100) 6 (MB (4 + 100 + 100))
theorem hk_sF_v {C MB : jm_M} {k sh : Int} {R : (Int → Int) × (Int → Int)} {f : Int → Int} (hk : 30 ≤ k ∧ k < 42) (hs : 0 ≤ sh ∧ sh < 3) (hm : hk_mid C MB sh R) (hf : C (k + 100 + 100) = f) (hf0 : ∀ c, ¬ (0 ≤ c ∧ c < 6) → f c = 0) :
    (∀ a, a ≠ 4 → a ≠ 4 + 100 + 100 → a ≠ 10 + sh + 100 → a ≠ k + 100 + 100 → hk_sF MB k a = C a) ∧ hk_sF MB k (10 + sh + 100) = R.1 ∧ hk_sF MB k (k + 100 + 100) = fun c => if 0 ≤ c ∧ c < 6 then R.2 c else 0 := by
  obtain ⟨mo, me, mw⟩ := hm
  unfold hk_sF
  refine ⟨fun a z1 z2 z3 z4 => ?_, ?_, ?_⟩
  · rw [hk_fill_f z4, mo a z1 z2 z3]
  · rw [hk_fill_f (by omega), mw]
  · funext c
    by_cases q : 0 ≤ c ∧ c < 6
    · rw [hk_fill_i q, if_pos q, me c q.1 q.2]
    · rw [hk_fill_o (Or.inr q), if_neg q, mo (k + 100 + 100) (by omega) (by omega) (by omega), hf, hf0 c q]
theorem hk_rgp_f0 {c f : Int → Int} {st fi se hr wi sh p q en th ls dr : Int} {lie : Int → Int} (h : hk_rgp c f st fi se hr wi sh p q en th ls dr lie) : ∀ k, ¬ (0 ≤ k ∧ k < 6) → f k = 0 := fun k hk => by
  rw [h.2.1]
  exact if_neg hk
/-- a stone that isn't an end's last -/
theorem hk_shoot_s {C M MB : jm_M} {n : Nat} {T g : Int} {R : (Int → Int) × (Int → Int)} (h : hk_re C M n T) (hg : 0 ≤ g ∧ g < n) (hT : 0 ≤ T) (st : M 309 g = 2) (hth : M 317 g + 1 < 6) (hm : hk_mid C MB (M 314 g) R) (hR : hk_w9 R.1) (hRo : ∀ c, ¬ (0 ≤ c ∧ c < 549) → R.1 c = 0) (hRg : hk_good R.2) (hRd : hk_dif R.2) (hkeep : ∀ j, 0 ≤ j → j < 6 → j ≠ hk_sl2 (M 318 g) (M 317 g) → C (30 + g + 100 + 100) j = -1 → R.2 j = -1) :
    hk_re (hk_sst (hk_sF MB (30 + g)) (30 + g)) (hk_msP M (hk_mth (jm_up M 300 0 0) R) g) n (T + 1) := by
  have H := h
  obtain ⟨⟨a1, a2, a3⟩, ⟨b1, b2, b3⟩, ⟨c1, c2, c3⟩, ⟨d1, d2, d3, d4, d5⟩, f1, f2, f3, u1, u2, g1, g2⟩ := h
  have G := g1 g hg.1 hg.2
  have f0 := hk_rgp_f0 G
  obtain ⟨⟨r0, r1, r2, r4, r5, r6, r8, r9, r10, r11⟩, hf, h12, h7, ⟨e1, e2, e3, e4, e5, e6, e7, e8, e9, e10⟩, s0, s1, s2, k1, k2, k3, k4⟩ := G
  have th := s2 st
  have sh := e6 (Or.inr st)
  obtain ⟨v1, v2, v3⟩ := hk_sF_v (k := 30 + g) (by omega) sh hm rfl f0
  obtain ⟨F, hF⟩ : ∃ F, F = hk_sF MB (30 + g) := ⟨_, rfl⟩
  rw [← hF] at v1 v2 v3 ⊢
  have vk : F (30 + g) = C (30 + g) := v1 _ (by omega) (by omega) (by omega) (by omega)
  obtain ⟨C', hC'⟩ : ∃ C', C' = hk_sst F (30 + g) := ⟨_, rfl⟩
  rw [← hC']
  have cd : C' = jm_up F (30 + g) 11 (M 317 g + 1) := by
    rw [hC']
    unfold hk_sst
    rw [vk, r11, if_pos hth]
  have cf : ∀ a, a ≠ 4 → a ≠ 4 + 100 + 100 → a ≠ 10 + M 314 g + 100 → a ≠ 30 + g + 100 + 100 → a ≠ 30 + g → C' a = C a := fun a z1 z2 z3 z4 z5 => funext fun b => by rw [cd, jm_up_n (Or.inl z5), v1 a z1 z2 z3 z4]
  have cb : ∀ b, b ≠ 11 → C' (30 + g) b = C (30 + g) b := fun b z => by rw [cd, jm_up_n (Or.inr z), vk]
  have cw : C' (10 + M 314 g + 100) = R.1 := by rw [← v2]; funext b; rw [cd, jm_up_n (Or.inl (by omega))]
  have cs : C' (30 + g + 100 + 100) = fun c => if 0 ≤ c ∧ c < 6 then R.2 c else 0 := by rw [← v3]; funext b; rw [cd, jm_up_n (Or.inl (by omega))]
  obtain ⟨X, hX⟩ : ∃ X, X = hk_msA M (hk_mth (jm_up M 300 0 0) R) g := ⟨_, rfl⟩
  obtain ⟨x1, x2, x3, x4, x5, x6⟩ := hk_msA_v hX
  obtain ⟨M', hM'⟩ : ∃ M', M' = hk_msP M (hk_mth (jm_up M 300 0 0) R) g := ⟨_, rfl⟩
  rw [← hM']
  have m5 : hk_mth (jm_up M 300 0 0) R 325 = R.2 := by unfold hk_mth; rw [if_neg (by decide), if_pos rfl]
  unfold hk_msP at hM'
  rw [← hX, m5] at hM'
  have pf : ∀ a, a ≠ 320 → M' a = X a := fun a z => funext fun b => by rw [hM', hk_filo_o (Or.inl z)]
  have p20 : ∀ b, ¬ (6 * g ≤ b ∧ b < 6 * g + 6) → M' 320 b = M 320 b := fun b z => by rw [hM', hk_filo_o (Or.inr z), x1 320 (by decide) (by decide) (by decide) (by decide) (by decide)]
  have q20 : ∀ k, 0 ≤ k → k < 6 → M' 320 (6 * g + k) = R.2 k := fun k z1 z2 => by rw [hM', hk_filo_i (by omega), show 6 * g + k - 6 * g = k by omega]
  have prow : ∀ a, a ≠ 300 → a ≠ 305 → a ≠ 317 → a ≠ 324 → a ≠ 325 → a ≠ 320 → M' a = M a := fun a z1 z2 z3 z4 z5 z6 => (pf a z6).trans (x1 a z1 z2 z3 z4 z5)
  have p5 : ∀ b, M' 305 b = if 549 * M 314 g ≤ b ∧ b < 549 * M 314 g + 549 then R.1 (b - 549 * M 314 g) else M 305 b := fun b => by rw [pf 305 (by decide), x3]
  have ee : hk_eq6 R.2 (C' (30 + g + 100 + 100)) := fun i i1 i2 => by rw [cs]; exact (if_pos ⟨i1, i2⟩).symm
  refine hk_re_g H hg (fun b => by rw [cf 0 (by decide) (by decide) (by omega) (by omega) (by omega)]) (fun b z => by rw [pf 300 (by decide)]; exact x2 b z) (fun s z1 z2 => ?_) (hk_wear_re f2 hRo cw (fun s z z1 z2 => cf _ (by omega) (by omega) (by omega) (by omega) (by omega)) p5) (hk_w305 f3 hR p5) (fun t z1 z2 => ?_) (fun t => ?_) ?_
    (fun a y1 y2 y3 y4 y5 y6 => cf a (by omega) (by omega) (by omega) (by omega) (by omega)) (fun a b y1 y2 y3 y4 => ?_) (fun b _ _ => by rw [prow 315 (by decide) (by decide) (by decide) (by decide) (by decide) (by decide)]) p20
  · have := f1 s z1 z2
    unfold hk_rs1 at this ⊢
    rw [cf (10 + s) (by omega) (by omega) (by omega) (by omega) (by omega), prow 306 (by decide) (by decide) (by decide) (by decide) (by decide) (by decide), prow 307 (by decide) (by decide) (by decide) (by decide) (by decide) (by decide)]
    exact this
  · have := u1 t z1 z2
    unfold hk_rt at this ⊢
    rw [cf (20 + t) (by omega) (by omega) (by omega) (by omega) (by omega), prow 321 (by decide) (by decide) (by decide) (by decide) (by decide) (by decide), prow 322 (by decide) (by decide) (by decide) (by decide) (by decide) (by decide), prow 323 (by decide) (by decide) (by decide) (by decide) (by decide) (by decide)]
    exact this
  · have := u2 t
    rw [prow 321 (by decide) (by decide) (by decide) (by decide) (by decide) (by decide), prow 322 (by decide) (by decide) (by decide) (by decide) (by decide) (by decide), prow 323 (by decide) (by decide) (by decide) (by decide) (by decide) (by decide)]
    omega
  · unfold hk_rg
    have q17 : M' 317 g = M 317 g + 1 := by rw [pf 317 (by decide), x4]
    have pr := fun a (z1 : 309 ≤ a) (z2 : a ≤ 319) (z3 : a ≠ 317) => prow a (by omega) (by omega) z3 (by omega) (by omega) (by omega)
    rw [pr 309 (by decide) (by decide) (by decide), pr 310 (by decide) (by decide) (by decide), pr 311 (by decide) (by decide) (by decide), pr 312 (by decide) (by decide) (by decide), pr 313 (by decide) (by decide) (by decide), pr 314 (by decide) (by decide) (by decide), pr 315 (by decide) (by decide) (by decide), pr 316 (by decide) (by decide) (by decide), pr 318 (by decide) (by decide) (by decide), pr 319 (by decide) (by decide) (by decide), q17]
    refine ⟨⟨by rw [cb 0 (by decide)]; exact r0, by rw [cb 1 (by decide)]; exact r1, by rw [cb 2 (by decide)]; exact r2, by rw [cb 4 (by decide)]; exact r4, by rw [cb 5 (by decide)]; exact r5, by rw [cb 6 (by decide)]; exact r6, by rw [cb 8 (by decide)]; exact r8, by rw [cb 9 (by decide)]; exact r9, by rw [cb 10 (by decide)]; exact r10, by rw [cd, jm_up_s]⟩, ?_, by rw [cb 12 (by decide)]; exact h12, fun z => by omega, ⟨e1, e2, e3, e4, e5, e6, e7, e8, e9, e10⟩, fun z => by omega, fun z => by omega, fun _ => ⟨by omega, th.2⟩, hk_good_c ee hRg, hk_dif_c ee hRd, fun z => absurd st z, fun _ i i1 i2 => ?_⟩
    · rw [cs]
      funext k
      by_cases q : 0 ≤ k ∧ k < 6
      · rw [if_pos q, if_pos q]; exact (q20 k q.1 q.2).symm
      · rw [if_neg q, if_neg q]
    · have rr := hk_sl2_r (l := M 318 g) (h := i) (by omega)
      rw [← ee _ rr.1 rr.2]
      exact hkeep _ rr.1 rr.2 (hk_sl2_ne (by omega) (by omega) (by omega)) (k4 st i (by omega) i2)
  · by_cases w2 : a = 317
    · rw [w2, pf 317 (by decide), x5 b y4]
    · rw [prow a (by omega) (by omega) w2 (by omega) (by omega) (by omega)]
/-- an end's last stone -/
theorem hk_shoot_e {C M MB : jm_M} {n : Nat} {T g : Int} {R : (Int → Int) × (Int → Int)} (h : hk_re C M n T) (hg : 0 ≤ g ∧ g < n) (hT : 0 ≤ T) (st : M 309 g = 2) (hth : M 317 g + 1 = 6) (hm : hk_mid C MB (M 314 g) R) (hR : hk_w9 R.1) (hRo : ∀ c, ¬ (0 ≤ c ∧ c < 549) → R.1 c = 0) (hRg : hk_good R.2) :
    hk_re (hk_sst (hk_sF MB (30 + g)) (30 + g)) (hk_msE (hk_msP M (hk_mth (jm_up M 300 0 0) R) g) g) n (T + 1) := by
  have H := h
  obtain ⟨⟨a1, a2, a3⟩, ⟨b1, b2, b3⟩, ⟨c1, c2, c3⟩, ⟨d1, d2, d3, d4, d5⟩, f1, f2, f3, u1, u2, g1, g2⟩ := h
  have G := g1 g hg.1 hg.2
  have f0 := hk_rgp_f0 G
  obtain ⟨⟨r0, r1, r2, r4, r5, r6, r8, r9, r10, r11⟩, hf, h12, h7, ⟨e1, e2, e3, e4, e5, e6, e7, e8, e9, e10⟩, s0, s1, s2, k1, k2, k3, k4⟩ := G
  have th := s2 st
  have sh := e6 (Or.inr st)
  rw [if_pos st] at h12
  obtain ⟨v1, v2, v3⟩ := hk_sF_v (k := 30 + g) (by omega) sh hm rfl f0
  obtain ⟨F, hF⟩ : ∃ F, F = hk_sF MB (30 + g) := ⟨_, rfl⟩
  rw [← hF] at v1 v2 v3 ⊢
  have vk : F (30 + g) = C (30 + g) := v1 _ (by omega) (by omega) (by omega) (by omega)
  obtain ⟨F1, hF1⟩ : ∃ F1, F1 = jm_up F (30 + g) 11 (M 317 g + 1) := ⟨_, rfl⟩
  have w1 : ∀ a, a ≠ 30 + g → F1 a = F a := fun a z => funext fun b => by rw [hF1, jm_up_n (Or.inl z)]
  have wk : ∀ b, b ≠ 11 → F1 (30 + g) b = C (30 + g) b := fun b z => by rw [hF1, jm_up_n (Or.inr z), vk]
  have wf : F1 (30 + g + 100 + 100) = fun c => if 0 ≤ c ∧ c < 6 then R.2 c else 0 := (w1 _ (by omega)).trans v3
  obtain ⟨sc, hsc⟩ : ∃ sc, sc = hk_score (F1 (30 + g + 100 + 100)) := ⟨_, rfl⟩
  have ee : hk_eq6 (F1 (30 + g + 100 + 100)) R.2 := fun i i1 i2 => by rw [wf]; exact if_pos ⟨i1, i2⟩
  have sce : hk_scd R.2 = sc := by rw [hk_score_scd hRg, hsc, hk_score_c ee]
  have scr : -3 ≤ sc ∧ sc ≤ 3 := by rw [hsc]; exact hk_score_r _
  obtain ⟨y8, y9, y10, y11, y12, yf⟩ := hk_close_v F1 (30 + g) sc hsc
  obtain ⟨G1, hG1⟩ : ∃ G1, G1 = hk_close F1 (30 + g) := ⟨_, rfl⟩
  rw [← hG1] at y8 y9 y10 y11 y12 yf
  rw [wk 8 (by decide), r8] at y8
  rw [wk 9 (by decide), r9] at y9
  rw [wk 10 (by decide), r10] at y10
  rw [wk 12 (by decide), h12] at y12
  have go : ∀ a, a ≠ 30 + g → a ≠ 30 + g + 100 + 100 → G1 a = F a := fun a z1 z2 => funext fun b => by rw [hG1, hk_close_o ⟨z1, z2⟩, w1 a z1]
  have gk : ∀ b, b ≠ 8 ∧ b ≠ 9 ∧ b ≠ 10 ∧ b ≠ 11 ∧ b ≠ 12 → G1 (30 + g) b = C (30 + g) b := fun b z => by rw [hG1, hk_close_k z, wk b z.2.2.2.1]
  have gs : G1 (30 + g + 100 + 100) = fun b => if 0 ≤ b ∧ b < 6 then -1 else 0 := by
    rw [yf, wf]
    funext b
    by_cases q : 0 ≤ b ∧ b < 6
    · rw [if_pos q, if_pos q]
    · rw [if_neg q, if_neg q]; exact if_neg q
  have gC : ∀ a, a ≠ 4 → a ≠ 4 + 100 + 100 → a ≠ 10 + M 314 g + 100 → a ≠ 30 + g + 100 + 100 → a ≠ 30 + g → G1 a = C a := fun a z1 z2 z3 z4 z5 => (go a z5 z4).trans (v1 a z1 z2 z3 z4)
  have gw : G1 (10 + M 314 g + 100) = R.1 := (go _ (by omega) (by omega)).trans v2
  -- the model
  obtain ⟨X, hX⟩ : ∃ X, X = hk_msA M (hk_mth (jm_up M 300 0 0) R) g := ⟨_, rfl⟩
  obtain ⟨x1, x2, x3, x4, x5, x6⟩ := hk_msA_v hX
  obtain ⟨P, hP⟩ : ∃ P, P = hk_msP M (hk_mth (jm_up M 300 0 0) R) g := ⟨_, rfl⟩
  have m5 : hk_mth (jm_up M 300 0 0) R 325 = R.2 := by unfold hk_mth; rw [if_neg (by decide), if_pos rfl]
  have hP0 := hP
  rw [← hP]
  unfold hk_msP at hP
  rw [← hX, m5] at hP
  have pf : ∀ a, a ≠ 320 → P a = X a := fun a z => funext fun b => by rw [hP, hk_filo_o (Or.inl z)]
  have p20 : ∀ b, ¬ (6 * g ≤ b ∧ b < 6 * g + 6) → P 320 b = M 320 b := fun b z => by rw [hP, hk_filo_o (Or.inr z), x1 320 (by decide) (by decide) (by decide) (by decide) (by decide)]
  have prow : ∀ a, a ≠ 300 → a ≠ 305 → a ≠ 317 → a ≠ 324 → a ≠ 325 → a ≠ 320 → P a = M a := fun a z1 z2 z3 z4 z5 z6 => (pf a z6).trans (x1 a z1 z2 z3 z4 z5)
  have ps : hk_scd (P 325) = sc := by rw [pf 325 (by decide), x6, sce]
  unfold hk_msE
  rw [ps]
  obtain ⟨Y, hY⟩ : ∃ Y, Y = hk_en1 P g sc := ⟨_, rfl⟩
  obtain ⟨z1, z2, z3, z4, z5, z6, z7, z8, z9⟩ := hk_en1_v P g sc hY
  have Prow15 : P 315 = M 315 := prow 315 (by decide) (by decide) (by decide) (by decide) (by decide) (by decide)
  have Prow16 : P 316 = M 316 := prow 316 (by decide) (by decide) (by decide) (by decide) (by decide) (by decide)
  have Prow18 : P 318 = M 318 := prow 318 (by decide) (by decide) (by decide) (by decide) (by decide) (by decide)
  rw [Prow15] at z2 z3 z4
  rw [Prow18] at z5
  rw [Prow16] at z6
  have yrow : ∀ a, 306 ≤ a → a ≤ 323 → a ≠ 315 → a ≠ 316 → a ≠ 317 → a ≠ 318 → a ≠ 320 → Y a = M a := fun a q1 q2 q3 q4 q5 q6 q7 => (z1 a q3 q4 q5 q6 q7).trans (prow a (by omega) (by omega) q5 (by omega) (by omega) q7)
  have y0 : ∀ b, b ≠ 0 → Y 300 b = M 300 b := fun b q => by rw [z1 300 (by decide) (by decide) (by decide) (by decide) (by decide), pf 300 (by decide), x2 b q]
  have y5 : ∀ b, Y 305 b = if 549 * M 314 g ≤ b ∧ b < 549 * M 314 g + 549 then R.1 (b - 549 * M 314 g) else M 305 b := fun b => by rw [z1 305 (by decide) (by decide) (by decide) (by decide) (by decide), pf 305 (by decide), x3]
  have y20 : ∀ b, ¬ (6 * g ≤ b ∧ b < 6 * g + 6) → Y 320 b = M 320 b := fun b q => by rw [z9, if_neg q, p20 b q]
  have y20i : ∀ k, 0 ≤ k → k < 6 → Y 320 (6 * g + k) = -1 := fun k q1 q2 => by rw [z9, if_pos (by omega)]
  have yom : ∀ a b, 309 ≤ a → a ≤ 319 → a ≠ 315 → b ≠ g → Y a b = M a b := fun a b q1 q2 q3 q4 => by
    by_cases w : a = 316 ∨ a = 317 ∨ a = 318
    · rw [z8 a b w q4]
      by_cases w2 : a = 317
      · rw [w2, pf 317 (by decide), x5 b q4]
      · rw [prow a (by omega) (by omega) w2 (by omega) (by omega) (by omega)]
    · rw [yrow a (by omega) (by omega) q3 (by omega) (by omega) (by omega) (by omega)]
  have np : (if sc ≤ 0 then 0 else sc) = (if 0 < sc then sc else 0) := by split <;> split <;> omega
  have nq : (if 0 ≤ sc then 0 else sc) = (if sc < 0 then sc else 0) := by split <;> split <;> omega
  have nl : (if sc ≤ 0 then (if 0 ≤ sc then M 318 g else 0) else 1) = (if 0 < sc then 1 else if sc < 0 then 0 else M 318 g) := by
    by_cases w : 0 < sc
    · rw [if_pos w, if_neg (show ¬ sc ≤ 0 by omega)]
    · rw [if_neg w, if_pos (show sc ≤ 0 by omega)]
      by_cases w2 : sc < 0
      · rw [if_pos w2, if_neg (show ¬ 0 ≤ sc by omega)]
      · rw [if_neg w2, if_pos (show 0 ≤ sc by omega)]
  rw [np] at z2
  rw [nq] at z3
  rw [nl] at z5
  have lsr : (if 0 < sc then 1 else if sc < 0 then 0 else M 318 g) = 0 ∨ (if 0 < sc then 1 else if sc < 0 then 0 else M 318 g) = 1 := by
    have := th.2
    split
    · exact Or.inr rfl
    · split
      · exact Or.inl rfl
      · exact this
  obtain ⟨pp, hpp⟩ : ∃ pp, pp = M 315 (2 * g) + (if 0 < sc then sc else 0) := ⟨_, rfl⟩
  obtain ⟨qq, hqq⟩ : ∃ qq, qq = M 315 (2 * g + 1) - (if sc < 0 then sc else 0) := ⟨_, rfl⟩
  obtain ⟨ll, hll⟩ : ∃ ll, ll = (if 0 < sc then 1 else if sc < 0 then 0 else M 318 g) := ⟨_, rfl⟩
  rw [← hpp] at z2 y8
  rw [← hqq] at z3 y9
  rw [← hll] at z5 y12 lsr
  have ppr : 0 ≤ pp ∧ pp ≤ 3 * (M 316 g + 1) := by rw [hpp]; split <;> omega
  have qqr : 0 ≤ qq ∧ qq ≤ 3 * (M 316 g + 1) := by rw [hqq]; split <;> omega
  have fg : hk_good (fun b => if 0 ≤ b ∧ b < 6 then (-1 : Int) else 0) := fun i i1 i2 => Or.inl (if_pos ⟨i1, i2⟩)
  have fd : hk_dif (fun b => if 0 ≤ b ∧ b < 6 then (-1 : Int) else 0) := fun i j i1 i2 j1 j2 _ _ => if_pos ⟨i1, i2⟩
  have hes : hk_sst F (30 + g) = if M 316 g + 1 = 4 then hk_cg G1 (30 + g) else G1 := by
    have e11 : F (30 + g) 11 = M 317 g := by rw [vk, r11]
    unfold hk_sst
    rw [e11, if_neg (by omega), ← hF1, ← hG1, y10]
  have hem : hk_ends P g sc = if M 316 g + 1 = 4 then hk_en2 Y g pp qq else Y := by
    unfold hk_ends
    rw [Prow16, ← hY, Prow15, np, nq, ← hpp, ← hqq]
  rw [hes, hem]
  by_cases q4 : M 316 g + 1 = 4
  · rw [if_pos q4, if_pos q4]
    obtain ⟨C', hC'⟩ : ∃ C', C' = hk_cg G1 (30 + g) := ⟨_, rfl⟩
    obtain ⟨M', hM'⟩ : ∃ M', M' = hk_en2 Y g pp qq := ⟨_, rfl⟩
    rw [← hC', ← hM']
    have k0 : G1 (30 + g) 0 = M 310 g := (gk 0 (by decide)).trans r0
    have k1' : G1 (30 + g) 1 = M 311 g := (gk 1 (by decide)).trans r1
    have k6 : G1 (30 + g) 6 = M 314 g := (gk 6 (by decide)).trans r6
    obtain ⟨Q, hQ⟩ : ∃ Q, Q = jm_up (jm_up (jm_up G1 (30 + g) 5 3) (30 + g) 12 (-1)) (10 + M 314 g) 2 (-1) := ⟨_, rfl⟩
    have hQ1 : hk_cg1 G1 (30 + g) = Q := by unfold hk_cg1; rw [k6, hQ]
    have hcg : C' = if qq < pp then jm_up Q (20 + M 310 g) 0 (G1 (20 + M 310 g) 0 + 1) else if pp < qq then jm_up Q (20 + M 311 g) 0 (G1 (20 + M 311 g) 0 + 1) else Q := by
      rw [hC']
      unfold hk_cg
      rw [y8, y9, hQ1, k0, k1']
    have co : ∀ a b, ¬ (20 ≤ a ∧ a < 26 ∧ b = 0) → C' a b = Q a b := fun a b z => by
      rw [hcg]
      split
      · exact jm_up_n (by omega)
      · split
        · exact jm_up_n (by omega)
        · rfl
    have ct : ∀ t, 0 ≤ t → t < 6 → C' (20 + t) 0 = C (20 + t) 0 + (if qq < pp ∧ t = M 310 g then 1 else 0) + (if pp < qq ∧ t = M 311 g then 1 else 0) := fun t t1 t2 => by
      have gt : ∀ t, 0 ≤ t → t < 6 → G1 (20 + t) 0 = C (20 + t) 0 := fun t t1 t2 => by rw [gC (20 + t) (by omega) (by omega) (by omega) (by omega) (by omega)]
      have qt : Q (20 + t) 0 = C (20 + t) 0 := by rw [hQ, jm_up_n (Or.inr (by decide)), jm_up_n (Or.inr (by decide)), jm_up_n (Or.inr (by decide)), gt t t1 t2]
      rw [hcg]
      by_cases w : qq < pp
      · rw [if_pos w, if_neg (show ¬ (pp < qq ∧ t = M 311 g) by omega)]
        by_cases w2 : t = M 310 g
        · rw [if_pos ⟨w, w2⟩, w2, jm_up_s, gt _ e1.1 e1.2]; omega
        · rw [if_neg (fun z => w2 z.2), jm_up_n (Or.inl (by omega)), qt]; omega
      · rw [if_neg w, if_neg (show ¬ (qq < pp ∧ t = M 310 g) from fun z => w z.1)]
        by_cases w3 : pp < qq
        · rw [if_pos w3]
          by_cases w2 : t = M 311 g
          · rw [if_pos ⟨w3, w2⟩, w2, jm_up_s, gt _ e2.1 e2.2]; omega
          · rw [if_neg (fun z => w2 z.2), jm_up_n (Or.inl (by omega)), qt]; omega
        · rw [if_neg w3, if_neg (fun z => w3 z.1), qt]; omega
    have cf : ∀ a, a ≠ 4 → a ≠ 4 + 100 + 100 → a ≠ 10 + M 314 g + 100 → a ≠ 30 + g + 100 + 100 → a ≠ 30 + g → a ≠ 10 + M 314 g → ¬ (20 ≤ a ∧ a < 26) → C' a = C a := fun a q1 q2 q3 q4 q5 q6 q7 => funext fun b => by
      rw [co a b (fun z => q7 ⟨z.1, z.2.1⟩), hQ, jm_up_n (Or.inl q6), jm_up_n (Or.inl q5), jm_up_n (Or.inl q5), gC a q1 q2 q3 q4 q5]
    have cb : ∀ b, b ≠ 5 → b ≠ 12 → C' (30 + g) b = G1 (30 + g) b := fun b q1 q2 => by
      rw [co _ b (by omega), hQ, jm_up_n (Or.inl (by omega)), jm_up_n (Or.inr q2), jm_up_n (Or.inr q1)]
    have c5 : C' (30 + g) 5 = 3 := by rw [co _ _ (by omega), hQ, jm_up_n (Or.inl (by omega)), jm_up_n (Or.inr (by decide)), jm_up_s]
    have c12 : C' (30 + g) 12 = -1 := by rw [co _ _ (by omega), hQ, jm_up_n (Or.inl (by omega)), jm_up_s]
    have cw : C' (10 + M 314 g + 100) = R.1 := by
      funext b
      rw [co _ b (by omega), hQ, jm_up_n (Or.inl (by omega)), jm_up_n (Or.inl (by omega)), jm_up_n (Or.inl (by omega)), gw]
    have cs : C' (30 + g + 100 + 100) = fun b => if 0 ≤ b ∧ b < 6 then -1 else 0 := by
      rw [← gs]
      funext b
      rw [co _ b (by omega), hQ, jm_up_n (Or.inl (by omega)), jm_up_n (Or.inl (by omega)), jm_up_n (Or.inl (by omega))]
    unfold hk_en2 at hM'
    have y10e : Y 310 g = M 310 g := by rw [yrow 310 (by decide) (by decide) (by decide) (by decide) (by decide) (by decide) (by decide)]
    have y11e : Y 311 g = M 311 g := by rw [yrow 311 (by decide) (by decide) (by decide) (by decide) (by decide) (by decide) (by decide)]
    have y14e : Y 314 g = M 314 g := by rw [yrow 314 (by decide) (by decide) (by decide) (by decide) (by decide) (by decide) (by decide)]
    have y21e : Y 321 = M 321 := yrow 321 (by decide) (by decide) (by decide) (by decide) (by decide) (by decide) (by decide)
    rw [y10e, y11e, y14e, y21e] at hM'
    have mf : ∀ a, a ≠ 321 → a ≠ 307 → a ≠ 309 → M' a = Y a := fun a q1 q2 q3 => funext fun b => by rw [hM', jm_up_n (Or.inl q1), jm_up_n (Or.inl q1), jm_up_n (Or.inl q2), jm_up_n (Or.inl q3)]
    have m9 : M' 309 g = 3 := by rw [hM', jm_up_n (Or.inl (by decide)), jm_up_n (Or.inl (by decide)), jm_up_n (Or.inl (by decide)), jm_up_s]
    have m9o : ∀ b, b ≠ g → M' 309 b = Y 309 b := fun b q => by rw [hM', jm_up_n (Or.inl (by decide)), jm_up_n (Or.inl (by decide)), jm_up_n (Or.inl (by decide)), jm_up_n (Or.inr q)]
    have m7 : M' 307 (M 314 g) = -1 := by rw [hM', jm_up_n (Or.inl (by decide)), jm_up_n (Or.inl (by decide)), jm_up_s]
    have m7o : ∀ s, s ≠ M 314 g → M' 307 s = M 307 s := fun s q => by rw [hM', jm_up_n (Or.inl (by decide)), jm_up_n (Or.inl (by decide)), jm_up_n (Or.inr q), jm_up_n (Or.inl (by decide)), yrow 307 (by decide) (by decide) (by decide) (by decide) (by decide) (by decide) (by decide)]
    have m21 : ∀ t, M' 321 t = M 321 t + (if qq < pp ∧ t = M 310 g then 1 else 0) + (if pp < qq ∧ t = M 311 g then 1 else 0) := fun t => by
      rw [hM']
      by_cases w2 : t = M 311 g
      · rw [w2, jm_up_s, if_neg (show ¬ (qq < pp ∧ M 311 g = M 310 g) from fun z => e3 z.2.symm)]
        by_cases w : qq ≤ pp
        · rw [if_pos w, if_neg (show ¬ (pp < qq ∧ M 311 g = M 311 g) by omega)]; omega
        · rw [if_neg w, if_pos (show pp < qq ∧ M 311 g = M 311 g from ⟨by omega, rfl⟩)]; omega
      · rw [jm_up_n (Or.inr w2), if_neg (show ¬ (pp < qq ∧ t = M 311 g) from fun z => w2 z.2)]
        by_cases w3 : t = M 310 g
        · rw [w3, jm_up_s]
          by_cases w : pp ≤ qq
          · rw [if_pos w, if_neg (show ¬ (qq < pp ∧ M 310 g = M 310 g) by omega)]; omega
          · rw [if_neg w, if_pos (show qq < pp ∧ M 310 g = M 310 g from ⟨by omega, rfl⟩)]; omega
        · rw [jm_up_n (Or.inr w3), if_neg (show ¬ (qq < pp ∧ t = M 310 g) from fun z => w3 z.2), jm_up_n (Or.inl (by decide)), jm_up_n (Or.inl (by decide)), y21e]; omega
    have mrow : ∀ a, 306 ≤ a → a ≤ 323 → a ≠ 315 → a ≠ 316 → a ≠ 317 → a ≠ 318 → a ≠ 320 → a ≠ 321 → a ≠ 307 → a ≠ 309 → M' a = M a := fun a q1 q2 q3 q4 q5 q6 q7 q8 q9 q10 => (mf a q8 q9 q10).trans (yrow a q1 q2 q3 q4 q5 q6 q7)
    have m5r : ∀ b, M' 305 b = if 549 * M 314 g ≤ b ∧ b < 549 * M 314 g + 549 then R.1 (b - 549 * M 314 g) else M 305 b := fun b => by rw [mf 305 (by decide) (by decide) (by decide), y5]
    refine hk_re_g H hg (fun b => by rw [cf 0 (by decide) (by decide) (by omega) (by omega) (by omega) (by omega) (by omega)]) (fun b q => by rw [mf 300 (by decide) (by decide) (by decide)]; exact y0 b q) (fun s q1 q2 => ?_) (hk_wear_re f2 hRo cw (fun s q q1 q2 => cf _ (by omega) (by omega) (by omega) (by omega) (by omega) (by omega) (by omega)) m5r) (hk_w305 f3 hR m5r) (fun t q1 q2 => ?_) (fun t => ?_) ?_
      (fun a q1 q2 q3 q4 q5 q6 => cf a (by omega) (by omega) (by omega) (by omega) (by omega) (by omega) (by omega)) (fun a b q1 q2 q3 q4 => ?_) (fun b q1 q2 => by rw [mf 315 (by decide) (by decide) (by decide)]; exact z4 b q1 q2) (fun b q => by rw [mf 320 (by decide) (by decide) (by decide)]; exact y20 b q)
    · have := f1 s q1 q2
      unfold hk_rs1 at this ⊢
      rw [mrow 306 (by decide) (by decide) (by decide) (by decide) (by decide) (by decide) (by decide) (by decide) (by decide) (by decide)]
      by_cases e : s = M 314 g
      · rw [e, m7, co _ _ (by omega), co _ _ (by omega)]
        rw [e] at this
        refine ⟨this.1, ?_, ?_⟩
        · rw [hQ, jm_up_n (Or.inr (by decide)), jm_up_n (Or.inl (by omega)), jm_up_n (Or.inl (by omega)), gC (10 + M 314 g) (by omega) (by omega) (by omega) (by omega) (by omega)]; exact this.2.1
        · rw [hQ, jm_up_s]
      · rw [m7o s e, cf (10 + s) (by omega) (by omega) (by omega) (by omega) (by omega) (by omega) (by omega)]
        exact this
    · have := u1 t q1 q2
      unfold hk_rt at this ⊢
      rw [ct t q1 q2, m21, mrow 322 (by decide) (by decide) (by decide) (by decide) (by decide) (by decide) (by decide) (by decide) (by decide) (by decide), mrow 323 (by decide) (by decide) (by decide) (by decide) (by decide) (by decide) (by decide) (by decide) (by decide) (by decide), co _ 1 (by omega), co _ 2 (by omega), this.1]
      refine ⟨rfl, ?_, ?_⟩
      · rw [hQ, jm_up_n (Or.inr (by decide)), jm_up_n (Or.inl (by omega)), jm_up_n (Or.inl (by omega)), gC (20 + t) (by omega) (by omega) (by omega) (by omega) (by omega)]; exact this.2.1
      · rw [hQ, jm_up_n (Or.inl (by omega)), jm_up_n (Or.inl (by omega)), jm_up_n (Or.inl (by omega)), gC (20 + t) (by omega) (by omega) (by omega) (by omega) (by omega)]; exact this.2.2
    · have := u2 t
      rw [m21, mrow 322 (by decide) (by decide) (by decide) (by decide) (by decide) (by decide) (by decide) (by decide) (by decide) (by decide), mrow 323 (by decide) (by decide) (by decide) (by decide) (by decide) (by decide) (by decide) (by decide) (by decide) (by decide)]
      have w : 0 ≤ (if qq < pp ∧ t = M 310 g then (1 : Int) else 0) + (if pp < qq ∧ t = M 311 g then 1 else 0) ∧ (if qq < pp ∧ t = M 310 g then (1 : Int) else 0) + (if pp < qq ∧ t = M 311 g then 1 else 0) ≤ 1 := by split <;> split <;> omega
      omega
    · unfold hk_rg
      have mr := fun a (w1 : 309 ≤ a) (w2 : a ≤ 319) (w3 : a ≠ 315) (w4 : a ≠ 316) (w5 : a ≠ 317) (w6 : a ≠ 318) (w7 : a ≠ 309) => mrow a (by omega) (by omega) w3 w4 w5 w6 (by omega) (by omega) (by omega) w7
      rw [m9, mr 310 (by decide) (by decide) (by decide) (by decide) (by decide) (by decide) (by decide), mr 311 (by decide) (by decide) (by decide) (by decide) (by decide) (by decide) (by decide), mr 312 (by decide) (by decide) (by decide) (by decide) (by decide) (by decide) (by decide), mr 313 (by decide) (by decide) (by decide) (by decide) (by decide) (by decide) (by decide), mr 314 (by decide) (by decide) (by decide) (by decide) (by decide) (by decide) (by decide), mr 319 (by decide) (by decide) (by decide) (by decide) (by decide) (by decide) (by decide), mf 315 (by decide) (by decide) (by decide), mf 316 (by decide) (by decide) (by decide), mf 317 (by decide) (by decide) (by decide), mf 318 (by decide) (by decide) (by decide), mf 320 (by decide) (by decide) (by decide), z2, z3, z5, z6, z7, cs]
      refine ⟨⟨by rw [cb 0 (by decide) (by decide)]; exact k0, by rw [cb 1 (by decide) (by decide)]; exact k1', by rw [cb 2 (by decide) (by decide), gk 2 (by decide)]; exact r2, by rw [cb 4 (by decide) (by decide), gk 4 (by decide)]; exact r4, c5, by rw [cb 6 (by decide) (by decide)]; exact k6, by rw [cb 8 (by decide) (by decide)]; exact y8, by rw [cb 9 (by decide) (by decide)]; exact y9, by rw [cb 10 (by decide) (by decide)]; exact y10, by rw [cb 11 (by decide) (by decide)]; exact y11⟩, ?_, by rw [if_neg (by decide)]; exact c12, fun z => absurd z (by decide), ⟨e1, e2, e3, e4, by decide, fun _ => sh, by omega, fun z => absurd rfl z, ppr, qqr⟩, fun z => absurd z (by decide), fun z => absurd z (by decide), fun z => absurd z (by decide), fg, fd, fun _ i i1 i2 => if_pos ⟨i1, i2⟩, fun z => absurd z (by decide)⟩
      funext k
      by_cases q : 0 ≤ k ∧ k < 6
      · rw [if_pos q, if_pos q]; exact (y20i k q.1 q.2).symm
      · rw [if_neg q, if_neg q]
    · by_cases w9 : a = 309
      · rw [w9, m9o b q4]; exact yom 309 b (by decide) (by decide) (by decide) q4
      · rw [mf a (by omega) (by omega) w9]; exact yom a b q1 q2 q3 q4
  · rw [if_neg q4, if_neg q4]
    refine hk_re_g H hg (fun b => by rw [gC 0 (by decide) (by decide) (by omega) (by omega) (by omega)]) y0 (fun s q1 q2 => ?_) (hk_wear_re f2 hRo gw (fun s q q1 q2 => gC _ (by omega) (by omega) (by omega) (by omega) (by omega)) y5) (hk_w305 f3 hR y5) (fun t q1 q2 => ?_) (fun t => ?_) ?_
      (fun a q1 q2 q3 q4 q5 q6 => gC a (by omega) (by omega) (by omega) (by omega) (by omega)) yom z4 y20
    · have := f1 s q1 q2
      unfold hk_rs1 at this ⊢
      rw [gC (10 + s) (by omega) (by omega) (by omega) (by omega) (by omega), yrow 306 (by decide) (by decide) (by decide) (by decide) (by decide) (by decide) (by decide), yrow 307 (by decide) (by decide) (by decide) (by decide) (by decide) (by decide) (by decide)]
      exact this
    · have := u1 t q1 q2
      unfold hk_rt at this ⊢
      rw [gC (20 + t) (by omega) (by omega) (by omega) (by omega) (by omega), yrow 321 (by decide) (by decide) (by decide) (by decide) (by decide) (by decide) (by decide), yrow 322 (by decide) (by decide) (by decide) (by decide) (by decide) (by decide) (by decide), yrow 323 (by decide) (by decide) (by decide) (by decide) (by decide) (by decide) (by decide)]
      exact this
    · have := u2 t
      rw [yrow 321 (by decide) (by decide) (by decide) (by decide) (by decide) (by decide) (by decide), yrow 322 (by decide) (by decide) (by decide) (by decide) (by decide) (by decide) (by decide), yrow 323 (by decide) (by decide) (by decide) (by decide) (by decide) (by decide) (by decide)]
      omega
    · unfold hk_rg
      have yr := fun a (w1 : 309 ≤ a) (w2 : a ≤ 319) (w3 : a ≠ 315) (w4 : a ≠ 316) (w5 : a ≠ 317) (w6 : a ≠ 318) => yrow a (by omega) (by omega) w3 w4 w5 w6 (by omega)
      rw [yr 309 (by decide) (by decide) (by decide) (by decide) (by decide) (by decide), yr 310 (by decide) (by decide) (by decide) (by decide) (by decide) (by decide), yr 311 (by decide) (by decide) (by decide) (by decide) (by decide) (by decide), yr 312 (by decide) (by decide) (by decide) (by decide) (by decide) (by decide), yr 313 (by decide) (by decide) (by decide) (by decide) (by decide) (by decide), yr 314 (by decide) (by decide) (by decide) (by decide) (by decide) (by decide), yr 319 (by decide) (by decide) (by decide) (by decide) (by decide) (by decide), z2, z3, z5, z6, z7, gs]
      refine ⟨⟨(gk 0 (by decide)).trans r0, (gk 1 (by decide)).trans r1, (gk 2 (by decide)).trans r2, (gk 4 (by decide)).trans r4, (gk 5 (by decide)).trans r5, (gk 6 (by decide)).trans r6, y8, y9, y10, y11⟩, ?_, by rw [if_pos st]; exact y12, fun z => by omega, ⟨e1, e2, e3, e4, e5, fun _ => sh, by omega, fun _ => by omega, ppr, qqr⟩, fun z => by omega, fun z => by omega, fun _ => ⟨by decide, lsr⟩, fg, fd, fun z => absurd st z, fun _ i i1 i2 => ?_⟩
      · funext k
        by_cases q : 0 ≤ k ∧ k < 6
        · rw [if_pos q, if_pos q]; exact (y20i k q.1 q.2).symm
        · rw [if_neg q, if_neg q]
      · have rr := hk_sl2_r (l := ll) (h := i) ⟨i1, i2⟩
        exact if_pos rr
