/-! ANSWERS, side by side -/
/-- the rows of work are empty beyond their ends -/
def hk_nm (M : jm_M) : Prop := (∀ c, ¬ (0 ≤ c ∧ c < 549) → M 324 c = 0) ∧ (∀ c, ¬ (0 ≤ c ∧ c < 6) → M 325 c = 0)
theorem hk_row {C M : jm_M} {n : Nat} {T g : Int} (h : hk_re C M n T) (N : hk_nm M) (hg : 0 ≤ g ∧ g < n) (st : M 309 g = 1 ∨ M 309 g = 2) :
    (C (30 + g) 6 = M 314 g ∧ 0 ≤ M 314 g ∧ M 314 g < 3) ∧ hk_tku M g 324 = C (10 + C (30 + g) 6 + 100) ∧ hk_tku M g 325 = C (30 + g + 100 + 100) ∧ hk_mturn M g = hk_nside (C (30 + g) 5) (C (30 + g) 11) (C (30 + g) 12) ∧ hk_mslot M g = hk_slot C (30 + g) ∧ (0 ≤ hk_mslot M g ∧ hk_mslot M g < 6) ∧
    C (30 + g + 100 + 100) (hk_mslot M g) = -1 ∧ hk_w9 (C (10 + C (30 + g) 6 + 100)) ∧ hk_good (C (30 + g + 100 + 100)) ∧ hk_dif (C (30 + g + 100 + 100)) ∧ (0 ≤ hk_mturn M g ∧ hk_mturn M g ≤ 1) ∧ (0 ≤ M 317 g ∧ M 317 g ≤ 5) := by
  obtain ⟨⟨a1, a2, a3⟩, ⟨b1, b2, b3⟩, ⟨c1, c2, c3⟩, ⟨d1, d2, d3, d4, d5⟩, f1, f2, f3, t1, t2, g1, g2⟩ := h
  obtain ⟨⟨r0, r1, r2, r4, r5, r6, r8, r9, r10, r11⟩, hf, h12, h7, ⟨e1, e2, e3, e4, e5, e6, e7, e8, e9, e10⟩, s0, s1, s2, k1, k2, k3, k4⟩ := g1 g hg.1 hg.2
  have sh := e6 st
  have wr := f2 (M 314 g) sh.1 sh.2
  unfold hk_rs2 at wr
  have w9 : hk_w9 (C (10 + M 314 g + 100)) := fun c => by
    rw [wr]
    show 0 ≤ (if 0 ≤ c ∧ c < 549 then M 305 (549 * M 314 g + c) else 0) ∧ (if 0 ≤ c ∧ c < 549 then M 305 (549 * M 314 g + c) else 0) ≤ 9
    split
    · exact f3 _
    · decide
  have t4 : hk_tku M g 324 = C (10 + M 314 g + 100) := by
    rw [hk_tku_4', wr]
    funext c
    by_cases q : 0 ≤ c ∧ c < 549
    · rw [if_pos q, if_pos q]
    · rw [if_neg q, if_neg q]; exact N.1 c q
  have t5 : hk_tku M g 325 = C (30 + g + 100 + 100) := by
    rw [hk_tku_5', hf]
    funext c
    by_cases q : 0 ≤ c ∧ c < 6
    · rw [if_pos q, if_pos q]
    · rw [if_neg q, if_neg q]; exact N.2 c q
  have core : hk_mturn M g = hk_nside (M 309 g) (M 317 g) (C (30 + g) 12) ∧ hk_mslot M g = hk_nside (M 309 g) (M 317 g) (C (30 + g) 12) * 3 + (M 317 g).tdiv 2 ∧ (0 ≤ hk_mslot M g ∧ hk_mslot M g < 6) ∧ C (30 + g + 100 + 100) (hk_mslot M g) = -1 ∧ (0 ≤ hk_mturn M g ∧ hk_mturn M g ≤ 1) ∧ (0 ≤ M 317 g ∧ M 317 g ≤ 5) := by
    rcases st with q | q
    · have th := s1 q
      have td : (M 317 g).tdiv 2 = 0 := by rw [Int.tdiv_eq_ediv_of_nonneg th.1]; omega
      have e1 : hk_mturn M g = M 317 g := by unfold hk_mturn; rw [if_pos q]
      have e2 : hk_nside (M 309 g) (M 317 g) (C (30 + g) 12) = M 317 g := by unfold hk_nside; rw [if_pos q]
      have e3 : hk_mslot M g = 3 * M 317 g := by unfold hk_mslot; rw [e1, if_neg (by omega)]; omega
      rw [e1, e2, e3, td]
      exact ⟨rfl, by omega, by omega, k3 (by omega) _ (by omega) (by omega), by omega, by omega⟩
    · have th := s2 q
      have td : (M 317 g).tdiv 2 = M 317 g / 2 := Int.tdiv_eq_ediv_of_nonneg th.1.1
      have tm : (M 317 g).tmod 2 = M 317 g % 2 := Int.tmod_eq_emod_of_nonneg th.1.1
      have e1 : hk_mturn M g = if M 318 g = 0 then 1 - M 317 g % 2 else M 317 g % 2 := by unfold hk_mturn; rw [if_neg (by omega), if_pos q, tm]
      rw [if_pos q] at h12
      have e2 : hk_nside (M 309 g) (M 317 g) (C (30 + g) 12) = hk_mturn M g := by
        unfold hk_nside
        rw [if_neg (by omega), if_pos q, tm, h12, e1]
        rcases th.2 with z | z <;> rw [z]
        · rw [if_pos rfl]; split <;> omega
        · rw [if_neg (show ¬ (1 : Int) = 0 by decide)]; split <;> omega
      have e3 : hk_mslot M g = hk_sl2 (M 318 g) (M 317 g) := by unfold hk_mslot hk_sl2; rw [e1, if_pos q, td]
      have rt : 0 ≤ hk_mturn M g ∧ hk_mturn M g ≤ 1 := by rw [e1]; split <;> omega
      have e4 : hk_mslot M g = hk_mturn M g * 3 + M 317 g / 2 := by unfold hk_mslot; rw [if_pos q, td]; omega
      refine ⟨e2.symm, by rw [e2, td]; exact e4, by rw [e4]; omega, ?_, rt, th.1⟩
      rw [e3]
      exact k4 q _ (by omega) (by omega)
  rw [r5, r6, r11]
  refine ⟨⟨rfl, sh⟩, t4, t5, core.1, ?_, core.2.2.1, core.2.2.2.1, w9, k1, k2, core.2.2.2.2.1, core.2.2.2.2.2⟩
  unfold hk_slot
  rw [r5, r11]
  exact core.2.1
theorem hk_row_wpre {C M : jm_M} {n : Nat} {T g : Int} (h : hk_re C M n T) (N : hk_nm M) (hg : 0 ≤ g ∧ g < n) (st : C (30 + g) 5 = 1 ∨ C (30 + g) 5 = 2) : hk_wpre C (30 + g) := by
  have r5 : C (30 + g) 5 = M 309 g := (h.2.2.2.2.2.2.2.2.2.1 g hg.1 hg.2).1.2.2.2.2.1
  rw [r5] at st
  obtain ⟨x1, x2, x3, x4, x5, x6, x7, x8, x9, x10, x11, x12⟩ := hk_row h N hg st
  unfold hk_wpre
  rw [← x5, ← x4]
  exact ⟨by rw [x1.1]; exact x1.2, x6, x7, x9, x8, x11⟩
theorem hk_sum_o (f : Int → Int) (o : Int) (F : Int → Int) (hF : F = fun k => if 0 ≤ k ∧ k < 549 then f (o + k) else 0) : ∀ n : Nat, n ≤ 549 → hk_sum F n = hk_sumo f o n
  | 0, _ => rfl
  | n + 1, h => by
    rw [hk_sum, hk_sumo, hk_sum_o f o F hF n (by omega)]
    congr 1
    rw [hF]
    exact if_pos ⟨by omega, by omega⟩
theorem hk_no_score {f : Int → Int} (h : ∀ i, 0 ≤ i → i < 6 → f i = -1) : hk_score f = 0 := by
  rw [hk_score_c (g := fun _ => -1) (fun i a b => h i a b)]
  decide
/-- what would be scored: the class's stones, the model's row of work -/
theorem hk_would {C M : jm_M} {n : Nat} {T g : Int} (h : hk_re C M n T) (hg : 0 ≤ g ∧ g < n) : (if M 309 g = 2 then hk_scd (hk_fill M 325 6 (fun k => M 320 (6 * g + k)) 325) else 0) = hk_score (C (30 + g + 100 + 100)) ∧ hk_one (C (30 + g + 100 + 100)) 6 = hk_score (C (30 + g + 100 + 100)) := by
  obtain ⟨⟨r0, r1, r2, r4, r5, r6, r8, r9, r10, r11⟩, hf, h12, h7, eb, s0, s1, s2, k1, k2, k3, k4⟩ := h.2.2.2.2.2.2.2.2.2.1 g hg.1 hg.2
  refine ⟨?_, hk_one_score _⟩
  by_cases q : M 309 g = 2
  · rw [if_pos q]
    have e : hk_eq6 (C (30 + g + 100 + 100)) (hk_fill M 325 6 (fun k => M 320 (6 * g + k)) 325) := fun i a b => by
      rw [hk_fill_i ⟨a, b⟩, hf]
      exact if_pos ⟨a, b⟩
    rw [hk_score_scd (hk_good_c e k1), hk_score_c e]
  · rw [if_neg q]
    exact (hk_no_score (k3 q)).symm
theorem hk_tries_eq {C M : jm_M} {n : Nat} {T g lane wt tn lo hi : Int} (h : hk_re C M n T) (N : hk_nm M) (hg : 0 ≤ g ∧ g < n) (st : M 309 g = 1 ∨ M 309 g = 2) (hl : 0 ≤ lane ∧ lane ≤ 8) (hw : 0 ≤ wt ∧ wt ≤ 100) :
    (hk_thr (C (10 + C (30 + g) 6 + 100)) (C (30 + g + 100 + 100)) (hk_slot C (30 + g)) lane (10 * wt) tn lo hi).2 = hk_mch 7 (hk_tku M g 324) (hk_tku M g 325) (hk_mslot M g) lane 0 (10 * wt) tn lo hi ∧
    (hk_thr (C (10 + C (30 + g) 6 + 100)) (C (30 + g + 100 + 100)) (hk_slot C (30 + g)) lane (10 * wt) tn lo hi).1 = (hk_mch 7 (hk_tku M g 324) (hk_tku M g 325) (hk_mslot M g) lane 0 (10 * wt) tn lo hi).2 (hk_mslot M g) := by
  obtain ⟨x1, x2, x3, x4, x5, x6, x7, x8, x9, x10, x11, x12⟩ := hk_row h N hg st
  rw [x2, x3, ← x5]
  exact hk_thr_mch tn lo hi x8 x9 x10 x6 hl (by omega) x7
/-- the coach's worth of a try -/
theorem hk_worth_eq {C M : jm_M} {n : Nat} {T g lane wt tn : Int} (h : hk_re C M n T) (N : hk_nm M) (hg : 0 ≤ g ∧ g < n) (st : M 309 g = 2) (hl : 0 ≤ lane ∧ lane ≤ 8) (hw : 0 ≤ wt ∧ wt ≤ 100) : hk_wt C (30 + g) lane wt tn = hk_mworth M g lane wt tn := by
  obtain ⟨x1, x2, x3, x4, x5, x6, x7, x8, x9, x10, x11, x12⟩ := hk_row h N hg (Or.inr st)
  have e := (hk_tries_eq (tn := tn) (lo := 1) (hi := 0) h N hg (Or.inr st) hl hw).1
  have ok := hk_mch_ok 7 (hk_tku M g 324) (hk_tku M g 325) (hk_mslot M g) lane 0 (10 * wt) tn 1 0 (by rw [x2]; exact x8) (by rw [x3]; exact x9) (by rw [x3]; exact x10) x6 hl (by omega) (by omega) (Or.inl ⟨by rw [x3]; exact x7, rfl⟩)
  unfold hk_wt hk_wtry hk_mworth
  rw [x4, e, hk_score_scd ok.2.1]
-- standings
theorem hk_avg_eq {C M : jm_M} {t : Int} (h : hk_rt C M t) (h2 : 0 ≤ M 322 t) : hk_avg C t = hk_mavg M t := by
  unfold hk_avg hk_mavg
  rw [h.2.1, h.2.2]
  by_cases q : M 322 t = 0
  · rw [if_pos q, if_neg (by omega)]
  · rw [if_neg q, if_pos (by omega)]
theorem hk_ah_eq {C M : jm_M} {a b : Int} (ha : hk_rt C M a) (hb : hk_rt C M b) (h2 : ∀ t, 0 ≤ M 322 t) (hne : a ≠ b) : hk_ah C a b = hk_mla M a b := by
  unfold hk_ah hk_mla
  rw [hk_avg_eq ha (h2 a), hk_avg_eq hb (h2 b), ha.1, hb.1]
  by_cases q1 : M 321 a = M 321 b
  · rw [if_neg (fun z => z q1)]
    by_cases q2 : hk_mavg M a = hk_mavg M b
    · rw [if_neg (fun z => z q2)]
      by_cases q3 : a < b
      · rw [if_pos q3, if_pos (by omega)]
      · rw [if_neg q3, if_neg (by omega)]
    · rw [if_pos q2]
      by_cases q3 : hk_mavg M a < hk_mavg M b
      · rw [if_pos q3, if_pos (by omega)]
      · rw [if_neg q3, if_neg (by omega)]
  · rw [if_pos q1]
    by_cases q3 : M 321 b < M 321 a
    · rw [if_pos q3, if_pos (by omega)]
    · rw [if_neg q3, if_neg (by omega)]
theorem hk_tah_eq {C M : jm_M} (h : ∀ t, 0 ≤ t → t < 6 → hk_rt C M t) (h2 : ∀ t, 0 ≤ M 322 t) {t : Int} (ht : 0 ≤ t ∧ t < 6) : ∀ n : Nat, n ≤ 6 → hk_tah C t n = hk_mrk M t n
  | 0, _ => rfl
  | n + 1, hn => by
    rw [hk_tah, hk_mrk, hk_tah_eq h h2 ht n (by omega)]
    congr 1
    by_cases q : (n : Int) = t
    · rw [if_pos q]
      unfold hk_mla
      rw [if_neg (by rw [q]; omega)]
    · rw [if_neg q]
      exact hk_ah_eq (h n (by omega) (by omega)) (h t ht.1 ht.2) h2 q
/-- n numbers apart, below n, are all below n -/
theorem hk_pigeon : ∀ (n : Nat) (r : Nat → Int), (∀ i, i < n → 0 ≤ r i ∧ r i < n) → (∀ i j, i < n → j < n → i ≠ j → r i ≠ r j) → ∀ p : Int, 0 ≤ p → p < n → ∃ i, i < n ∧ r i = p
  | 0, r, h1, h2, p, p1, p2 => by omega
  | n + 1, r, h1, h2, p, p1, p2 => by
    by_cases hx : ∃ j, j < n + 1 ∧ r j = n
    · obtain ⟨j, j1, j2⟩ := hx
      by_cases pe : p = n
      · exact ⟨j, j1, j2.trans pe.symm⟩
      · have key := hk_pigeon n (fun i => if i = j then r n else r i) (fun i hi => ?_) (fun a b ha hb hab => ?_) p p1 (by omega)
        · obtain ⟨i, i1, i2⟩ := key
          have i2 : (if i = j then r n else r i) = p := i2
          by_cases e : i = j
          · rw [if_pos e] at i2; exact ⟨n, by omega, i2⟩
          · rw [if_neg e] at i2; exact ⟨i, by omega, i2⟩
        · show 0 ≤ (if i = j then r n else r i) ∧ (if i = j then r n else r i) < n
          by_cases e : i = j
          · rw [if_pos e]
            have z := h2 n j (by omega) j1 (by omega)
            have z2 := h1 n (by omega)
            omega
          · rw [if_neg e]
            have z := h2 i j (by omega) j1 e
            have z2 := h1 i (by omega)
            omega
        · show (if a = j then r n else r a) ≠ (if b = j then r n else r b)
          by_cases ea : a = j
          · rw [if_pos ea, if_neg (by omega)]; exact h2 n b (by omega) (by omega) (by omega)
          · rw [if_neg ea]
            by_cases eb : b = j
            · rw [if_pos eb]; exact h2 a n (by omega) (by omega) (by omega)
            · rw [if_neg eb]; exact h2 a b (by omega) (by omega) hab
    · exfalso
      have key := hk_pigeon n r (fun i hi => ?_) (fun a b ha hb hab => h2 a b (by omega) (by omega) hab) (r n) (h1 n (by omega)).1 ?_
      · obtain ⟨i, i1, i2⟩ := key
        exact h2 i n (by omega) (by omega) (by omega) i2
      · have z := h1 i (by omega)
        have z2 : r i ≠ n := fun e => hx ⟨i, by omega, e⟩
        omega
      · have z := h1 n (by omega)
        have z2 : r n ≠ n := fun e => hx ⟨n, by omega, e⟩
        omega
theorem hk_mla_t {M : jm_M} {a b k : Int} (h : hk_mla M a b = 1) : hk_mla M k a ≤ hk_mla M k b ∧ (k = a → hk_mla M k a = 0) := by
  unfold hk_mla at h ⊢
  refine ⟨?_, fun e => ?_⟩
  · split at h
    · rename_i q
      split
      · rename_i q2
        rw [if_pos (by omega)]; exact Int.le_refl 1
      · split <;> decide
    · exact absurd h (by decide)
  · subst e
    rw [if_neg (by omega)]
theorem hk_mrk_lt {M : jm_M} {a b : Int} (h : hk_mla M a b = 1) : ∀ n : Nat, hk_mrk M a n ≤ hk_mrk M b n ∧ (0 ≤ a → a < n → hk_mrk M a n + 1 ≤ hk_mrk M b n)
  | 0 => ⟨Int.le_refl _, fun _ _ => by omega⟩
  | n + 1 => by
    obtain ⟨i1, i2⟩ := hk_mrk_lt h n
    have q := hk_mla_t (k := (n : Int)) h
    rw [hk_mrk, hk_mrk]
    refine ⟨by omega, fun h1 h2 => ?_⟩
    by_cases e : (n : Int) = a
    · have z := q.2 e
      have z2 : hk_mla M n b = 1 := by rw [e]; exact h
      omega
    · have := i2 h1 (by omega)
      omega
theorem hk_mrk_ne {M : jm_M} {a b : Int} (ha : 0 ≤ a ∧ a < 6) (hb : 0 ≤ b ∧ b < 6) (h : a ≠ b) : hk_mrk M a 6 ≠ hk_mrk M b 6 := by
  have q : hk_mla M a b = 1 ∨ hk_mla M b a = 1 := by
    unfold hk_mla
    by_cases q1 : M 321 b < M 321 a ∨ (M 321 a = M 321 b ∧ (hk_mavg M a < hk_mavg M b ∨ (hk_mavg M a = hk_mavg M b ∧ a < b)))
    · exact Or.inl (if_pos q1)
    · exact Or.inr (if_pos (by omega))
  rcases q with q | q
  · have := (hk_mrk_lt q 6).2 ha.1 (by omega)
    omega
  · have := (hk_mrk_lt q 6).2 hb.1 (by omega)
    omega
theorem hk_std_ord {C M : jm_M} (h : ∀ t, 0 ≤ t → t < 6 → hk_rt C M t) (h2 : ∀ t, 0 ≤ M 322 t) {p : Int} : ∀ n : Nat, n ≤ 6 → hk_std C p n = hk_ord M n p ∨ (hk_std C p n = -1 ∧ ∀ i : Nat, i < n → hk_mrk M i 6 ≠ p)
  | 0, _ => Or.inr ⟨rfl, fun i hi => absurd hi (Nat.not_lt_zero i)⟩
  | n + 1, hn => by
    have e := hk_tah_eq h h2 (t := (n : Int)) (by omega) 6 (Nat.le_refl 6)
    rw [hk_std, hk_ord, e]
    by_cases q : hk_mrk M n 6 = p
    · rw [if_pos q, q, hk_pt_s]; exact Or.inl rfl
    · rw [if_neg q, hk_pt_n (fun z => q z.symm)]
      rcases hk_std_ord h h2 (p := p) n (by omega) with i | ⟨i1, i2⟩
      · exact Or.inl i
      · refine Or.inr ⟨i1, fun i hi => ?_⟩
        by_cases e2 : i = n
        · rw [e2]; exact q
        · exact i2 i (by omega)
theorem hk_standing_eq {C M : jm_M} (h : ∀ t, 0 ≤ t → t < 6 → hk_rt C M t) (h2 : ∀ t, 0 ≤ M 322 t) {p : Int} (hp : 0 ≤ p ∧ p ≤ 5) : hk_std C p 6 = hk_ord M 6 p := by
  rcases hk_std_ord h h2 (p := p) 6 (Nat.le_refl 6) with q | ⟨q1, q2⟩
  · exact q
  · exfalso
    obtain ⟨i, i1, i2⟩ := hk_pigeon 6 (fun i => hk_mrk M i 6) (fun i hi => by have := hk_mrk_r M i 6; have z := this.2.2 (by omega) (by omega); omega) (fun a b ha hb hab => hk_mrk_ne (by omega) (by omega) (by omega)) p hp.1 (by omega)
    exact q2 i i1 i2
