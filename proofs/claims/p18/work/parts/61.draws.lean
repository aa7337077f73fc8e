/-! A THROW THAT COUNTS, side by side -/
theorem hk_dif_c {f g : Int → Int} (h : hk_eq6 f g) (hf : hk_dif f) : hk_dif g := fun i j i1 i2 j1 j2 hne e => by
  rw [← h i i1 i2] at e ⊢
  rw [← h j j1 j2] at e
  exact hf i j i1 i2 j1 j2 hne e
theorem hk_re_g {C M C' M' : jm_M} {n : Nat} {T T' g : Int} (h : hk_re C M n T) (hg : 0 ≤ g ∧ g < n) (c0 : ∀ b, C' 0 b = C 0 b) (m0 : ∀ b, b ≠ 0 → M' 300 b = M 300 b) (s1 : ∀ s, 0 ≤ s → s < 3 → hk_rs1 C' M' s) (s2 : ∀ s, 0 ≤ s → s < 3 → hk_rs2 C' M' s) (s3 : ∀ k, 0 ≤ M' 305 k ∧ M' 305 k ≤ 9)
    (t1 : ∀ t, 0 ≤ t → t < 6 → hk_rt C' M' t) (t2 : ∀ t, (0 ≤ M' 321 t ∧ M' 321 t ≤ T') ∧ (0 ≤ M' 322 t ∧ M' 322 t ≤ T') ∧ (0 ≤ M' 323 t ∧ M' 323 t ≤ 30 * T')) (gg : hk_rg C' M' g)
    (oc : ∀ a, 30 ≤ a → a < 300 → a ≠ 30 + g → a ≠ 30 + g + 100 + 100 → ¬ (110 ≤ a ∧ a < 113) → a ≠ 204 → C' a = C a) (om : ∀ a b, 309 ≤ a → a ≤ 319 → a ≠ 315 → b ≠ g → M' a b = M a b) (op : ∀ b, b ≠ 2 * g → b ≠ 2 * g + 1 → M' 315 b = M 315 b) (ol : ∀ b, ¬ (6 * g ≤ b ∧ b < 6 * g + 6) → M' 320 b = M 320 b) : hk_re C' M' n T' := by
  obtain ⟨⟨a1, a2, a3⟩, ⟨b1, b2, b3⟩, ⟨c1, c2, c3⟩, ⟨d1, d2, d3, d4, d5⟩, f1, f2, f3, u1, u2, g1, g2⟩ := h
  refine ⟨by rw [c0, m0 8 (by decide)]; exact ⟨a1, a2, a3⟩, by rw [c0, m0 1 (by decide)]; exact ⟨b1, b2, b3⟩, by rw [c0, m0 2 (by decide)]; exact ⟨c1, c2, c3⟩, by rw [c0, c0, m0 3 (by decide), m0 4 (by decide)]; exact ⟨d1, d2, d3, d4, d5⟩, s1, s2, s3, t1, t2, fun g' z1 z2 => ?_, fun g' z1 z2 => ?_⟩
  · by_cases e : g' = g
    · rw [e]; exact gg
    · exact hk_rg_c (g1 g' z1 z2) (oc _ (by omega) (by omega) (by omega) (by omega) (by omega) (by omega)) (oc _ (by omega) (by omega) (by omega) (by omega) (by omega) (by omega)) (fun a y1 y2 y3 => om a g' y1 y2 y3 e) ⟨op _ (by omega) (by omega), op _ (by omega) (by omega)⟩ (fun k k1 k2 => ol _ (by omega))
  · rw [om 309 g' (by decide) (by decide) (by decide) (by omega), op _ (by omega) (by omega), op _ (by omega) (by omega), om 316 g' (by decide) (by decide) (by decide) (by omega), om 317 g' (by decide) (by decide) (by decide) (by omega)]
    exact g2 g' z1 z2
def hk_mid (C MB : jm_M) (sh : Int) (R : (Int → Int) × (Int → Int)) : Prop := (∀ a, a ≠ 4 → a ≠ 4 + 100 + 100 → a ≠ 10 + sh + 100 → MB a = C a) ∧ hk_eq6 (MB (4 + 100 + 100)) R.2 ∧ MB (10 + sh + 100) = R.1
/-- what a throw leaves of the model's rows, ahead of the settlement -/
theorem hk_msA_v {M : jm_M} {R : (Int → Int) × (Int → Int)} {g : Int} {X : jm_M} (hX : X = hk_msA M (hk_mth (jm_up M 300 0 0) R) g) :
    (∀ a, a ≠ 300 → a ≠ 305 → a ≠ 317 → a ≠ 324 → a ≠ 325 → X a = M a) ∧ (∀ b, b ≠ 0 → X 300 b = M 300 b) ∧ (∀ b, X 305 b = if 549 * M 314 g ≤ b ∧ b < 549 * M 314 g + 549 then R.1 (b - 549 * M 314 g) else M 305 b) ∧ X 317 g = M 317 g + 1 ∧ (∀ b, b ≠ g → X 317 b = M 317 b) ∧ X 325 = R.2 := by
  have m : ∀ a, a ≠ 324 → a ≠ 325 → hk_mth (jm_up M 300 0 0) R a = jm_up M 300 0 0 a := fun a z1 z2 => by unfold hk_mth; rw [if_neg z1, if_neg z2]
  have m4 : hk_mth (jm_up M 300 0 0) R 324 = R.1 := by unfold hk_mth; rw [if_pos rfl]
  have m5 : hk_mth (jm_up M 300 0 0) R 325 = R.2 := by unfold hk_mth; rw [if_neg (by decide), if_pos rfl]
  unfold hk_msA at hX
  rw [m4] at hX
  refine ⟨fun a z0 z1 z2 z3 z4 => ?_, fun b z => ?_, fun b => ?_, ?_, fun b z => ?_, ?_⟩
  · funext b
    rw [hX, jm_up_n (Or.inl z2), hk_filo_o (Or.inl z1), m a z3 z4, jm_up_n (Or.inl z0)]
  · rw [hX, jm_up_n (Or.inl (by decide)), hk_filo_o (Or.inl (by decide)), m 300 (by decide) (by decide), jm_up_n (Or.inr z)]
  · rw [hX, jm_up_n (Or.inl (by decide))]
    by_cases q : 549 * M 314 g ≤ b ∧ b < 549 * M 314 g + 549
    · rw [if_pos q, hk_filo_i q]
    · rw [if_neg q, hk_filo_o (Or.inr q), m 305 (by decide) (by decide), jm_up_n (Or.inl (by decide))]
  · rw [hX, jm_up_s]
  · rw [hX, jm_up_n (Or.inr z), hk_filo_o (Or.inl (by decide)), m 317 (by decide) (by decide), jm_up_n (Or.inl (by decide))]
  · funext b
    rw [hX, jm_up_n (Or.inl (by decide)), hk_filo_o (Or.inl (by decide)), m5]
/-- the wear of the sheet that was thrown on -/
theorem hk_wear_re {C M C' M' : jm_M} {sh : Int} {W : Int → Int} (f2 : ∀ s, 0 ≤ s → s < 3 → hk_rs2 C M s) (hW : ∀ c, ¬ (0 ≤ c ∧ c < 549) → W c = 0) (c1 : C' (10 + sh + 100) = W) (c2 : ∀ s, s ≠ sh → 0 ≤ s → s < 3 → C' (10 + s + 100) = C (10 + s + 100)) (m1 : ∀ b, M' 305 b = if 549 * sh ≤ b ∧ b < 549 * sh + 549 then W (b - 549 * sh) else M 305 b) : ∀ s, 0 ≤ s → s < 3 → hk_rs2 C' M' s := by
  intro s z1 z2
  unfold hk_rs2
  by_cases e : s = sh
  · rw [e, c1]
    funext k
    by_cases q : 0 ≤ k ∧ k < 549
    · rw [if_pos q, m1, if_pos (by omega), show 549 * sh + k - 549 * sh = k by omega]
    · rw [if_neg q, hW k q]
  · have := f2 s z1 z2
    unfold hk_rs2 at this
    rw [c2 s e z1 z2, this]
    funext k
    by_cases q : 0 ≤ k ∧ k < 549
    · rw [if_pos q, if_pos q, m1, if_neg (by omega)]
    · rw [if_neg q, if_neg q]
theorem hk_w305 {M M' : jm_M} {sh : Int} {W : Int → Int} (f3 : ∀ k, 0 ≤ M 305 k ∧ M 305 k ≤ 9) (hW : hk_w9 W) (m1 : ∀ b, M' 305 b = if 549 * sh ≤ b ∧ b < 549 * sh + 549 then W (b - 549 * sh) else M 305 b) : ∀ k, 0 ≤ M' 305 k ∧ M' 305 k ≤ 9 := fun k => by
  rw [m1]
  split
  · exact hW _
  · exact f3 k
/-- a draw -/
theorem hk_shoot_d {C M MB : jm_M} {n : Nat} {T g d tm : Int} {R : (Int → Int) × (Int → Int)} (h : hk_re C M n T) (hg : 0 ≤ g ∧ g < n) (st : M 309 g = 1) (hm : hk_mid C MB (M 314 g) R) (hR : hk_w9 R.1) (hRo : ∀ c, ¬ (0 ≤ c ∧ c < 549) → R.1 c = 0) (hd : 0 ≤ d ∧ d ≤ 30) (htm : tm = if M 317 g = 0 then M 310 g else M 311 g) :
    hk_re (hk_sdr MB (30 + g) d) (hk_msD M (hk_mth (jm_up M 300 0 0) R) g tm d) n (T + 1) := by
  have H := h
  obtain ⟨⟨a1, a2, a3⟩, ⟨b1, b2, b3⟩, ⟨c1, c2, c3⟩, ⟨d1, d2, d3, d4, d5⟩, f1, f2, f3, u1, u2, g1, g2⟩ := h
  have G := g1 g hg.1 hg.2
  obtain ⟨⟨r0, r1, r2, r4, r5, r6, r8, r9, r10, r11⟩, hf, h12, h7, ⟨e1, e2, e3, e4, e5, e6, e7, e8, e9, e10⟩, s0, s1, s2, k1, k2, k3, k4⟩ := G
  have th := s1 st
  have sh := e6 (Or.inl st)
  obtain ⟨mo, me, mw⟩ := hm
  have tr : 0 ≤ tm ∧ tm < 6 := by rw [htm]; split <;> omega
  have bk : MB (30 + g) = C (30 + g) := mo _ (by omega) (by omega) (by omega)
  have dt : hk_dteam MB (30 + g) = tm := by
    unfold hk_dteam hk_nside
    rw [bk, r5, r11, r0, r1, if_pos st, htm]
  obtain ⟨J, hJ⟩ : ∃ J, J = hk_sdr1 MB (30 + g) d := ⟨_, rfl⟩
  have jo : ∀ a b, a ≠ 20 + tm ∨ (b ≠ 1 ∧ b ≠ 2) → J a b = MB a b := fun a b z => by
    rw [hJ]
    unfold hk_sdr1
    rw [dt, jm_up_n (by omega), jm_up_n (by omega)]
  have j1 : J (20 + tm) 1 = MB (20 + tm) 1 + 1 := by
    rw [hJ]
    unfold hk_sdr1
    rw [dt, jm_up_n (Or.inr (by decide)), jm_up_s]
  have j2 : J (20 + tm) 2 = MB (20 + tm) 2 + d := by
    rw [hJ]
    unfold hk_sdr1
    rw [dt, jm_up_s]
  have jk : ∀ b, J (30 + g) b = C (30 + g) b := fun b => by rw [jo _ _ (Or.inl (by omega)), bk]
  obtain ⟨C', hC'⟩ : ∃ C', C' = hk_sdr MB (30 + g) d := ⟨_, rfl⟩
  have cd : C' = hk_draw J (30 + g) d := by rw [hC', hJ]; rfl
  rw [← hC']
  have co : ∀ a b, a ≠ 30 + g → C' a b = J a b := fun a b z => by
    rw [cd]
    unfold hk_draw
    split
    · rw [jm_up_n (Or.inl z), jm_up_n (Or.inl z)]
    · rw [jm_up_n (Or.inl z), jm_up_n (Or.inl z), jm_up_n (Or.inl z)]
  have cb : ∀ b, b ≠ 5 → b ≠ 7 → b ≠ 11 → b ≠ 12 → C' (30 + g) b = C (30 + g) b := fun b z1 z2 z3 z4 => by
    rw [cd]
    unfold hk_draw
    split
    · rw [jm_up_n (Or.inr z3), jm_up_n (Or.inr z2), jk]
    · rw [jm_up_n (Or.inr z1), jm_up_n (Or.inr z3), jm_up_n (Or.inr z4), jk]
  have cf : ∀ a, a ≠ 30 + g → a ≠ 20 + tm → a ≠ 4 → a ≠ 4 + 100 + 100 → a ≠ 10 + M 314 g + 100 → C' a = C a := fun a z1 z2 z3 z4 z5 => funext fun b => by rw [co a b z1, jo a b (Or.inl z2), mo a z3 z4 z5]
  have cw : C' (10 + M 314 g + 100) = R.1 := by
    funext b
    rw [co _ b (by omega), jo _ b (Or.inl (by omega)), mw]
  have ck7 : M 317 g = 0 → C' (30 + g) 7 = d ∧ C' (30 + g) 11 = 1 ∧ C' (30 + g) 5 = 1 ∧ C' (30 + g) 12 = -1 := fun z => by
    rw [cd]
    unfold hk_draw
    rw [jk 11, r11, if_pos z]
    refine ⟨?_, ?_, ?_, ?_⟩
    · rw [jm_up_n (Or.inr (by decide)), jm_up_s]
    · rw [jm_up_s]
    · rw [jm_up_n (Or.inr (by decide)), jm_up_n (Or.inr (by decide)), jk, r5, st]
    · rw [jm_up_n (Or.inr (by decide)), jm_up_n (Or.inr (by decide)), jk, h12, if_neg (by omega)]
  have ck1 : M 317 g = 1 → C' (30 + g) 12 = (if M 319 g < d then 0 else 1) ∧ C' (30 + g) 11 = 0 ∧ C' (30 + g) 5 = 2 := fun z => by
    rw [cd]
    unfold hk_draw
    rw [jk 11, r11, if_neg (by omega), jk 7, (h7 st z).1]
    refine ⟨?_, ?_, ?_⟩
    · rw [jm_up_n (Or.inr (by decide)), jm_up_n (Or.inr (by decide)), jm_up_s]
    · rw [jm_up_n (Or.inr (by decide)), jm_up_s]
    · rw [jm_up_s]
  -- the model
  obtain ⟨X, hX⟩ : ∃ X, X = hk_msA M (hk_mth (jm_up M 300 0 0) R) g := ⟨_, rfl⟩
  obtain ⟨x1, x2, x3, x4, x5, x6⟩ := hk_msA_v hX
  obtain ⟨M', hM'⟩ : ∃ M', M' = hk_msD M (hk_mth (jm_up M 300 0 0) R) g tm d := ⟨_, rfl⟩
  rw [← hM']
  unfold hk_msD at hM'
  rw [← hX] at hM'
  have p : ∀ a b, a ≠ 317 ∨ b ≠ g → a ≠ 309 ∨ b ≠ g → a ≠ 319 ∨ b ≠ g → a ≠ 318 ∨ b ≠ g → a ≠ 323 ∨ b ≠ tm → a ≠ 322 ∨ b ≠ tm → M' a b = X a b := fun a b z1 z2 z3 z4 z5 z6 => by rw [hM', jm_up_n z1, jm_up_n z2, jm_up_n z3, jm_up_n z4, jm_up_n z5, jm_up_n z6]
  have pf : ∀ a, a ≠ 317 → a ≠ 309 → a ≠ 319 → a ≠ 318 → a ≠ 323 → a ≠ 322 → M' a = X a := fun a z1 z2 z3 z4 z5 z6 => funext fun b => p a b (Or.inl z1) (Or.inl z2) (Or.inl z3) (Or.inl z4) (Or.inl z5) (Or.inl z6)
  have q17 : M' 317 g = (M 317 g + 1).tmod 2 := by rw [hM', jm_up_s]
  have q09 : M' 309 g = if M 317 g + 1 = 2 then 2 else 1 := by rw [hM', jm_up_n (Or.inl (by decide)), jm_up_s]
  have q19 : M' 319 g = d := by rw [hM', jm_up_n (Or.inl (by decide)), jm_up_n (Or.inl (by decide)), jm_up_s]
  have q18 : M' 318 g = if M 317 g + 1 = 2 ∧ M 319 g < d then 0 else 1 := by rw [hM', jm_up_n (Or.inl (by decide)), jm_up_n (Or.inl (by decide)), jm_up_n (Or.inl (by decide)), jm_up_s]
  have q23 : M' 323 tm = M 323 tm + d := by rw [hM', jm_up_n (Or.inl (by decide)), jm_up_n (Or.inl (by decide)), jm_up_n (Or.inl (by decide)), jm_up_n (Or.inl (by decide)), jm_up_s]
  have q22 : M' 322 tm = M 322 tm + 1 := by rw [hM', jm_up_n (Or.inl (by decide)), jm_up_n (Or.inl (by decide)), jm_up_n (Or.inl (by decide)), jm_up_n (Or.inl (by decide)), jm_up_n (Or.inl (by decide)), jm_up_s]
  have p22 : ∀ t, t ≠ tm → M' 322 t = M 322 t := fun t z => by rw [p 322 t (Or.inl (by decide)) (Or.inl (by decide)) (Or.inl (by decide)) (Or.inl (by decide)) (Or.inl (by decide)) (Or.inr z), x1 322 (by decide) (by decide) (by decide) (by decide) (by decide)]
  have p23 : ∀ t, t ≠ tm → M' 323 t = M 323 t := fun t z => by rw [p 323 t (Or.inl (by decide)) (Or.inl (by decide)) (Or.inl (by decide)) (Or.inl (by decide)) (Or.inr z) (Or.inl (by decide)), x1 323 (by decide) (by decide) (by decide) (by decide) (by decide)]
  have p21 : M' 321 = M 321 := (pf 321 (by decide) (by decide) (by decide) (by decide) (by decide) (by decide)).trans (x1 321 (by decide) (by decide) (by decide) (by decide) (by decide))
  have prow : ∀ a, 306 ≤ a → a ≤ 320 → a ≠ 309 → a ≠ 317 → a ≠ 318 → a ≠ 319 → M' a = M a := fun a z1 z2 z3 z4 z5 z6 => (pf a z4 z3 z6 z5 (by omega) (by omega)).trans (x1 a (by omega) (by omega) z4 (by omega) (by omega))
  have p5 : ∀ b, M' 305 b = if 549 * M 314 g ≤ b ∧ b < 549 * M 314 g + 549 then R.1 (b - 549 * M 314 g) else M 305 b := fun b => by rw [pf 305 (by decide) (by decide) (by decide) (by decide) (by decide) (by decide), x3]
  refine hk_re_g H hg (fun b => by rw [cf 0 (by omega) (by omega) (by decide) (by decide) (by omega)]) (fun b z => by rw [pf 300 (by decide) (by decide) (by decide) (by decide) (by decide) (by decide)]; exact x2 b z) (fun s z1 z2 => ?_) (hk_wear_re f2 hRo cw (fun s z z1 z2 => cf _ (by omega) (by omega) (by omega) (by omega) (by omega)) p5) (hk_w305 f3 hR p5) (fun t z1 z2 => ?_) (fun t => ?_) ?_
    (fun a y1 y2 y3 y4 y5 y6 => cf a (by omega) (by omega) (by omega) (by omega) (by omega)) (fun a b y1 y2 y3 y4 => ?_) (fun b _ _ => by rw [prow 315 (by decide) (by decide) (by decide) (by decide) (by decide) (by decide)]) (fun b _ => by rw [prow 320 (by decide) (by decide) (by decide) (by decide) (by decide) (by decide)])
  · have := f1 s z1 z2
    unfold hk_rs1 at this ⊢
    rw [cf (10 + s) (by omega) (by omega) (by omega) (by omega) (by omega), prow 306 (by decide) (by decide) (by decide) (by decide) (by decide) (by decide), prow 307 (by decide) (by decide) (by decide) (by decide) (by decide) (by decide)]
    exact this
  · have := u1 t z1 z2
    unfold hk_rt at this ⊢
    rw [p21]
    by_cases e : t = tm
    · rw [e, q22, q23, co _ _ (by omega), co _ _ (by omega), co _ _ (by omega), j1, j2, jo _ 0 (Or.inr (by decide)), mo (20 + tm) (by omega) (by omega) (by omega)]
      rw [e] at this
      omega
    · rw [p22 t e, p23 t e, cf (20 + t) (by omega) (by omega) (by omega) (by omega) (by omega)]
      exact this
  · have := u2 t
    rw [p21]
    by_cases e : t = tm
    · rw [e, q22, q23]
      rw [e] at this
      omega
    · rw [p22 t e, p23 t e]
      omega
  · unfold hk_rg
    rw [prow 310 (by decide) (by decide) (by decide) (by decide) (by decide) (by decide), prow 311 (by decide) (by decide) (by decide) (by decide) (by decide) (by decide), prow 312 (by decide) (by decide) (by decide) (by decide) (by decide) (by decide), prow 313 (by decide) (by decide) (by decide) (by decide) (by decide) (by decide), prow 314 (by decide) (by decide) (by decide) (by decide) (by decide) (by decide), prow 315 (by decide) (by decide) (by decide) (by decide) (by decide) (by decide), prow 316 (by decide) (by decide) (by decide) (by decide) (by decide) (by decide), prow 320 (by decide) (by decide) (by decide) (by decide) (by decide) (by decide), q17, q09, q19, q18, cf (30 + g + 100 + 100) (by omega) (by omega) (by omega) (by omega) (by omega)]
    have z : M 317 g = 0 ∨ M 317 g = 1 := by omega
    rcases z with z | z
    · obtain ⟨y1, y2, y3, y4⟩ := ck7 z
      have td : (M 317 g + 1).tmod 2 = 1 := by rw [z]; decide
      rw [td, if_neg (show ¬ M 317 g + 1 = 2 by omega)]
      refine ⟨⟨by rw [cb 0 (by decide) (by decide) (by decide) (by decide)]; exact r0, by rw [cb 1 (by decide) (by decide) (by decide) (by decide)]; exact r1, by rw [cb 2 (by decide) (by decide) (by decide) (by decide)]; exact r2, by rw [cb 4 (by decide) (by decide) (by decide) (by decide)]; exact r4, y3, by rw [cb 6 (by decide) (by decide) (by decide) (by decide)]; exact r6, by rw [cb 8 (by decide) (by decide) (by decide) (by decide)]; exact r8, by rw [cb 9 (by decide) (by decide) (by decide) (by decide)]; exact r9, by rw [cb 10 (by decide) (by decide) (by decide) (by decide)]; exact r10, y2⟩, hf, by rw [if_neg (by decide)]; exact y4, fun _ _ => ⟨y1, hd⟩, ⟨e1, e2, e3, e4, by decide, fun _ => sh, e7, fun _ => e8 (by omega), e9, e10⟩, fun w => absurd w (by decide), fun _ => by decide, fun w => absurd w (by decide), k1, k2, fun _ => k3 (by omega), fun w => absurd w (by decide)⟩
    · obtain ⟨y1, y2, y3⟩ := ck1 z
      have td : (M 317 g + 1).tmod 2 = 0 := by rw [z]; decide
      have ls : (if M 317 g + 1 = 2 ∧ M 319 g < d then (0 : Int) else 1) = if M 319 g < d then 0 else 1 := by
        by_cases w : M 319 g < d
        · rw [if_pos w, if_pos ⟨by omega, w⟩]
        · rw [if_neg w, if_neg (fun v => w v.2)]
      rw [td, if_pos (show M 317 g + 1 = 2 by omega), ls]
      refine ⟨⟨by rw [cb 0 (by decide) (by decide) (by decide) (by decide)]; exact r0, by rw [cb 1 (by decide) (by decide) (by decide) (by decide)]; exact r1, by rw [cb 2 (by decide) (by decide) (by decide) (by decide)]; exact r2, by rw [cb 4 (by decide) (by decide) (by decide) (by decide)]; exact r4, y3, by rw [cb 6 (by decide) (by decide) (by decide) (by decide)]; exact r6, by rw [cb 8 (by decide) (by decide) (by decide) (by decide)]; exact r8, by rw [cb 9 (by decide) (by decide) (by decide) (by decide)]; exact r9, by rw [cb 10 (by decide) (by decide) (by decide) (by decide)]; exact r10, y2⟩, hf, by rw [if_pos rfl]; exact y1, fun w => absurd w (by decide), ⟨e1, e2, e3, e4, by decide, fun _ => sh, e7, fun _ => e8 (by omega), e9, e10⟩, fun w => absurd w (by decide), fun w => absurd w (by decide), fun _ => ⟨by decide, by split <;> simp⟩, k1, k2, fun w => absurd rfl w, fun _ i i1 i2 => k3 (by omega) _ ?_ ?_⟩
      · unfold hk_sl2
        split <;> split <;> omega
      · unfold hk_sl2
        split <;> split <;> omega
  · by_cases w1 : a = 309
    · rw [w1, p 309 b (Or.inl (by decide)) (Or.inr y4) (Or.inl (by decide)) (Or.inl (by decide)) (Or.inl (by decide)) (Or.inl (by decide)), x1 309 (by decide) (by decide) (by decide) (by decide) (by decide)]
    · by_cases w2 : a = 317
      · rw [w2, p 317 b (Or.inr y4) (Or.inl (by decide)) (Or.inl (by decide)) (Or.inl (by decide)) (Or.inl (by decide)) (Or.inl (by decide)), x5 b y4]
      · rw [p a b (Or.inl w2) (Or.inl w1) (Or.inr y4) (Or.inr y4) (Or.inl (by omega)) (Or.inl (by omega)), x1 a (by omega) (by omega) w2 (by omega) (by omega)]
