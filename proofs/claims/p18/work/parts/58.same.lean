/-! THE SAME SCORE, three ways; THE SAME THROW, both ways -/
theorem hk_dd {p : Int} (h : hk_ok p) : hk_dist p = (if hk_dis p < 30 then hk_dis p else 30) ∧ 0 ≤ hk_dis p := by
  rcases h with rfl | h
  · exact ⟨by decide, by decide⟩
  · have e := hk_div p (by omega)
    have a1 := hk_ab_r (p.tdiv 100 - 4)
    have a2 := hk_ab_r (p.tmod 100 - 50)
    unfold hk_dist hk_dis hk_mn
    rw [if_neg (show ¬ p < 0 by omega), if_neg (show ¬ p = -1 by omega)]
    refine ⟨?_, by omega⟩
    split <;> split <;> omega
theorem hk_at_in {f : Int → Int} {n : Int} (h : 0 ≤ n ∧ n < 6) : hk_at f n = f n := by unfold hk_at; rw [if_pos h]
theorem hk_near_on {f : Int → Int} (h : hk_good f) : ∀ n : Nat, n ≤ 3 → hk_near f 0 n = hk_on f n
  | 0, _ => rfl
  | n + 1, hn => by
    have ih := hk_near_on h n (by omega)
    have r := hk_near_r f 0 n
    have q := hk_dd (h n (by omega) (by omega))
    rw [hk_near, hk_on, ← ih, show (0 : Int) + (n : Int) = n by omega, hk_at_in (by omega), q.1]
    unfold hk_mn
    by_cases c : hk_dis (f n) < hk_near f 0 n
    · rw [if_pos (show hk_dis (f n) < 30 by omega), if_pos c, if_pos ⟨by omega, c⟩]
    · rw [if_neg (show ¬ ((n : Int) < 3 ∧ hk_dis (f n) < hk_near f 0 n) from fun z => c z.2)]
      split <;> omega
theorem hk_on_3 (f : Int → Int) : ∀ k : Nat, hk_on f (3 + k) = hk_on f 3
  | 0 => rfl
  | k + 1 => by
    show hk_on f ((3 + k) + 1) = _
    rw [hk_on, if_neg (by omega), hk_on_3 f k]
theorem hk_tw_0 (f : Int → Int) : ∀ n : Nat, n ≤ 3 → hk_tw f n = 11
  | 0, _ => rfl
  | n + 1, h => by rw [hk_tw, if_neg (by omega), hk_tw_0 f n (by omega)]
theorem hk_near_tw {f : Int → Int} (h : hk_good f) : ∀ k : Nat, k ≤ 3 → hk_near f 3 k = hk_tw f (3 + k)
  | 0, _ => (hk_tw_0 f 3 (Nat.le_refl 3)).symm
  | n + 1, hn => by
    have ih := hk_near_tw h n (by omega)
    have r := hk_near_r f 3 n
    have q := hk_dd (h (3 + n) (by omega) (by omega))
    show _ = hk_tw f ((3 + n) + 1)
    rw [hk_near, hk_tw, ← ih, hk_at_in (by omega), q.1, show ((3 + n : Nat) : Int) = 3 + (n : Int) by omega]
    unfold hk_mn
    by_cases c : hk_dis (f (3 + n)) < hk_near f 3 n
    · rw [if_pos (show hk_dis (f (3 + n)) < 30 by omega), if_pos c, if_pos ⟨by omega, c⟩]
    · rw [if_neg (show ¬ (3 ≤ 3 + (n : Int) ∧ hk_dis (f (3 + n)) < hk_near f 3 n) from fun z => c z.2)]
      split <;> omega
theorem hk_nn_a {f : Int → Int} (h : hk_good f) {a b : Int} (hb : b ≤ 11) : ∀ n : Nat, n ≤ 3 → hk_nn f a b n = if a < b then hk_cntn f 0 b n else 0
  | 0, _ => by simp [hk_nn, hk_cntn]
  | n + 1, hn => by
    have ih := hk_nn_a (a := a) h hb n (by omega)
    have q := hk_dd (h n (by omega) (by omega))
    rw [hk_nn, ih, hk_cntn, show (0 : Int) + (n : Int) = n by omega, hk_at_in (by omega), q.1, if_neg (show ¬ (b < a ∧ 3 ≤ (n : Int) ∧ hk_dis (f n) < a) by omega)]
    by_cases c : a < b
    · rw [if_pos c, if_pos c]
      by_cases d : hk_dis (f n) < b
      · rw [if_pos ⟨c, by omega, d⟩, if_pos (show (if hk_dis (f n) < 30 then hk_dis (f n) else 30) < b by rw [if_pos (by omega)]; exact d)]; omega
      · rw [if_neg (fun z => d z.2.2), if_neg (show ¬ (if hk_dis (f n) < 30 then hk_dis (f n) else 30) < b by split <;> omega)]; omega
    · rw [if_neg c, if_neg c, if_neg (fun z => c z.1)]; omega
theorem hk_nn_b {f : Int → Int} (h : hk_good f) {a b : Int} (ha : a ≤ 11) (hb : b ≤ 11) : ∀ k : Nat, k ≤ 3 → hk_nn f a b (3 + k) = (if a < b then hk_cntn f 0 b 3 else 0) - (if b < a then hk_cntn f 3 a k else 0)
  | 0, _ => by
    show hk_nn f a b 3 = _
    rw [hk_nn_a h hb 3 (Nat.le_refl 3)]
    simp [hk_cntn]
  | n + 1, hn => by
    have ih := hk_nn_b h ha hb n (by omega)
    obtain ⟨X, hX⟩ : ∃ X, X = (if a < b then hk_cntn f 0 b 3 else 0) := ⟨_, rfl⟩
    rw [← hX] at ih ⊢
    have q := hk_dd (h (3 + n) (by omega) (by omega))
    show hk_nn f a b ((3 + n) + 1) = _
    rw [hk_nn, ih, show hk_cntn f 3 a (n + 1) = if hk_dist (hk_at f (3 + n)) < a then hk_cntn f 3 a n + 1 else hk_cntn f 3 a n from rfl, hk_at_in (by omega), q.1, show ((3 + n : Nat) : Int) = 3 + (n : Int) by omega, if_neg (show ¬ (a < b ∧ 3 + (n : Int) < 3 ∧ hk_dis (f (3 + n)) < b) by omega)]
    by_cases c : b < a
    · rw [if_pos c, if_pos c]
      by_cases d : hk_dis (f (3 + n)) < a
      · rw [if_pos ⟨c, by omega, d⟩, if_pos (show (if hk_dis (f (3 + n)) < 30 then hk_dis (f (3 + n)) else 30) < a by rw [if_pos (by omega)]; exact d)]; omega
      · rw [if_neg (fun z => d z.2.2), if_neg (show ¬ (if hk_dis (f (3 + n)) < 30 then hk_dis (f (3 + n)) else 30) < a by split <;> omega)]; omega
    · rw [if_neg c, if_neg c, if_neg (fun z => c z.1)]; omega
theorem hk_score_scd {f : Int → Int} (h : hk_good f) : hk_scd f = hk_score f := by
  have ra := hk_near_r f 0 3
  have rb := hk_near_r f 3 3
  have ea : hk_on f 6 = hk_near f 0 3 := (hk_on_3 f 3).trans (hk_near_on h 3 (Nat.le_refl 3)).symm
  have eb : hk_tw f 6 = hk_near f 3 3 := (hk_near_tw h 3 (Nat.le_refl 3)).symm
  have e := hk_nn_b h (a := hk_near f 0 3) (b := hk_near f 3 3) ra.2 rb.2 3 (Nat.le_refl 3)
  unfold hk_scd hk_score
  rw [ea, eb]
  refine e.trans ?_
  by_cases c : hk_near f 0 3 < hk_near f 3 3
  · rw [if_pos c, if_pos c, if_neg (show ¬ hk_near f 3 3 < hk_near f 0 3 by omega)]; omega
  · rw [if_neg c, if_neg c]
    by_cases d : hk_near f 3 3 < hk_near f 0 3
    · rw [if_pos d, if_pos d]; omega
    · rw [if_neg d, if_neg d]; omega
theorem hk_cntn0 (f : Int → Int) (s : Int) {lim : Int} (hl : lim ≤ 11) : ∀ n : Nat, hk_cntn f s lim n = 0 ↔ lim ≤ hk_near f s n
  | 0 => by simp [hk_cntn, hk_near]; exact hl
  | n + 1 => by
    have ih := hk_cntn0 f s hl n
    have r := hk_cntn_r f s lim n
    rw [hk_cntn, hk_near]
    unfold hk_mn
    by_cases c : hk_dist (hk_at f (s + n)) < lim
    · rw [if_pos c]
      refine ⟨fun z => by omega, fun z => ?_⟩
      exfalso
      split at z <;> omega
    · rw [if_neg c, ih]
      split <;> omega
theorem hk_one_a (f : Int → Int) : ∀ n : Nat, n ≤ 3 → hk_one f n = hk_cntn f 0 (hk_near f 3 3) n
  | 0, _ => rfl
  | n + 1, hn => by
    have ih := hk_one_a f n (by omega)
    have rb := hk_near_r f 3 3
    have e := hk_dist_r (hk_at f n)
    rw [hk_one, ih, hk_cntn, show (0 : Int) + (n : Int) = n by omega]
    unfold hk_onet
    rw [if_pos (show (n : Int) < 3 by omega), if_pos (show (n : Int) < 3 by omega)]
    by_cases c : hk_dist (hk_at f n) ≤ 10
    · have hc := hk_cntn0 f 3 (lim := hk_dist (hk_at f n) + 1) (by omega) 3
      by_cases d : hk_dist (hk_at f n) < hk_near f 3 3
      · rw [if_pos ⟨c, hc.mpr (by omega)⟩, if_pos d]
      · rw [if_neg (fun z => d (by have := hc.mp z.2; omega)), if_neg d]; omega
    · rw [if_neg (fun z => c z.1), if_neg (by omega)]; omega
theorem hk_one_b (f : Int → Int) : ∀ k : Nat, k ≤ 3 → hk_one f (3 + k) = hk_cntn f 0 (hk_near f 3 3) 3 - hk_cntn f 3 (hk_near f 0 3) k
  | 0, _ => by
    show hk_one f 3 = _
    rw [hk_one_a f 3 (Nat.le_refl 3)]
    simp [hk_cntn]
  | n + 1, hn => by
    have ih := hk_one_b f n (by omega)
    have ra := hk_near_r f 0 3
    have e := hk_dist_r (hk_at f (3 + n))
    show hk_one f ((3 + n) + 1) = _
    rw [hk_one, ih, show hk_cntn f 3 (hk_near f 0 3) (n + 1) = if hk_dist (hk_at f (3 + n)) < hk_near f 0 3 then hk_cntn f 3 (hk_near f 0 3) n + 1 else hk_cntn f 3 (hk_near f 0 3) n from rfl, show ((3 + n : Nat) : Int) = 3 + (n : Int) by omega]
    unfold hk_onet
    rw [if_neg (show ¬ 3 + (n : Int) < 3 by omega), if_neg (show ¬ 3 + (n : Int) < 3 by omega)]
    by_cases c : hk_dist (hk_at f (3 + n)) ≤ 10
    · have hc := hk_cntn0 f 0 (lim := hk_dist (hk_at f (3 + n)) + 1) (by omega) 3
      by_cases d : hk_dist (hk_at f (3 + n)) < hk_near f 0 3
      · rw [if_pos ⟨c, hc.mpr (by omega)⟩, if_pos d]; omega
      · rw [if_neg (fun z => d (by have := hc.mp z.2; omega)), if_neg d]; omega
    · rw [if_neg (fun z => c z.1), if_neg (by omega)]; omega
theorem hk_one_score (f : Int → Int) : hk_one f 6 = hk_score f := by
  have ra := hk_near_r f 0 3
  have rb := hk_near_r f 3 3
  have e := hk_one_b f 3 (Nat.le_refl 3)
  have ca := hk_cntn0 f 3 (lim := hk_near f 0 3) ra.2 3
  have cb := hk_cntn0 f 0 (lim := hk_near f 3 3) rb.2 3
  unfold hk_score
  refine Eq.trans e ?_
  by_cases c : hk_near f 0 3 < hk_near f 3 3
  · rw [if_pos c, ca.mpr (by omega)]; omega
  · rw [if_neg c]
    by_cases d : hk_near f 3 3 < hk_near f 0 3
    · rw [if_pos d, cb.mpr (by omega)]; omega
    · rw [if_neg d, ca.mpr (by omega), cb.mpr (by omega)]; omega
theorem hk_far_dist {p : Int} (h : hk_ok p) : hk_far p = hk_dist p := (hk_dd h).1.symm
/-- stones lie apart -/
def hk_dif (f : Int → Int) : Prop := ∀ i j, 0 ≤ i → i < 6 → 0 ≤ j → j < 6 → i ≠ j → f i = f j → f i = -1
theorem hk_first_no (f : Int → Int) (p : Int) : ∀ (n : Nat) (i : Int), hk_first f p n i = -1 → 0 ≤ i → ∀ j, i ≤ j → j < i + n → f j ≠ p
  | 0, i, h, h0, j, h1, h2 => by omega
  | n + 1, i, h, h0, j, h1, h2 => by
    unfold hk_first at h
    by_cases c : f i = p
    · rw [if_pos c] at h; omega
    · rw [if_neg c] at h
      by_cases e : j = i
      · rw [e]; exact c
      · exact hk_first_no f p n (i + 1) h (by omega) j (by omega) (by omega)
theorem hk_last_no (f : Int → Int) (p : Int) : ∀ n : Nat, hk_last f p n = -1 → ∀ j : Int, 0 ≤ j → j < n → f j ≠ p
  | 0, h, j, h1, h2 => by omega
  | n + 1, h, j, h1, h2 => by
    unfold hk_last at h
    by_cases c : f n = p
    · rw [if_pos c] at h; omega
    · rw [if_neg c] at h
      by_cases e : j = n
      · rw [e]; exact c
      · exact hk_last_no f p n h j h1 (by omega)
theorem hk_lm {f : Int → Int} {mv x y : Int} (hg : hk_good f) (hd : hk_dif f) (hx : 0 ≤ x ∧ x ≤ 8) (hy : 1 ≤ y ∧ y ≤ 60) (hm : f mv ≠ 100 * x + y) : hk_lie f x y = hk_mst (hk_pt f mv (-1)) x y := by
  have pm : hk_pt f mv (-1) mv = -1 := by unfold hk_pt; rw [if_pos rfl]
  have po : ∀ i, i ≠ mv → hk_pt f mv (-1) i = f i := fun i hi => by unfold hk_pt; rw [if_neg hi]
  have hin := hk_last_in (hk_pt f mv (-1)) (100 * x + y) 6
  have hno := hk_last_no (hk_pt f mv (-1)) (100 * x + y) 6
  unfold hk_lie hk_mst
  by_cases c : y < 30
  · rw [if_pos c]
    by_cases e : hk_last (hk_pt f mv (-1)) (100 * x + y) 6 = -1
    · exact e.symm
    · obtain ⟨a1, a2, a3⟩ := hin e
      have ho := hk_good_pm hg mv _ a1 a2
      rw [a3] at ho
      unfold hk_ok at ho
      omega
  · rw [if_neg c]
    have fin := hk_first_in f (100 * x + y) 6 0
    have fno := hk_first_no f (100 * x + y) 6 0
    by_cases e : hk_last (hk_pt f mv (-1)) (100 * x + y) 6 = -1
    · rw [e]
      by_cases e2 : hk_first f (100 * x + y) 6 0 = -1
      · exact e2
      · obtain ⟨a1, a2, a3⟩ := fin e2
        have hne : hk_first f (100 * x + y) 6 0 ≠ mv := fun z => hm (by rw [← z]; exact a3)
        exact absurd ((po _ hne).trans a3) (hno e _ a1 (by omega))
    · obtain ⟨b1, b2, b3⟩ := hin e
      have hne : hk_last (hk_pt f mv (-1)) (100 * x + y) 6 ≠ mv := fun z => by
        rw [z, pm] at b3; omega
      have b4 := (po _ hne).symm.trans b3
      by_cases e2 : hk_first f (100 * x + y) 6 0 = -1
      · exact absurd b4 (fno e2 (by omega) _ b1 (by omega))
      · obtain ⟨a1, a2, a3⟩ := fin e2
        by_cases e3 : hk_first f (100 * x + y) 6 0 = hk_last (hk_pt f mv (-1)) (100 * x + y) 6
        · exact e3
        · have z := hd _ _ a1 (by omega) b1 (by omega) e3 (a3.trans b4.symm)
          rw [a3] at z
          omega
theorem hk_T_cL {L L' : Int → Int → Int} (tn lo hi : Int) : ∀ (n : Nat) (W : Int → Int) (x y en sp : Int), (∀ x' y', 0 ≤ x' → x' ≤ 8 → y < y' → y' ≤ 60 → L x' y' = L' x' y') → 0 ≤ x ∧ x ≤ 8 → 0 ≤ y ∧ y ≤ 59 → hk_T L tn lo hi n W x y en sp = hk_T L' tn lo hi n W x y en sp
  | 0, W, x, y, en, sp, h, hx, hy => rfl
  | n + 1, W, x, y, en, sp, h, hx, hy => by
    have e1 := h x (y + 1) hx.1 hx.2 (by omega) (by omega)
    have h' : ∀ x' y', 0 ≤ x' → x' ≤ 8 → y + 1 < y' → y' ≤ 60 → L x' y' = L' x' y' := fun a b q1 q2 q3 q4 => h a b q1 q2 (by omega) q4
    rw [hk_T, hk_T, e1]
    by_cases h1 : en < hk_cst W lo hi x (y + 1)
    · rw [if_pos h1, if_pos h1]
    rw [if_neg h1, if_neg h1]
    by_cases h2 : L' x (y + 1) ≠ -1
    · rw [if_pos h2, if_pos h2]
    rw [if_neg h2, if_neg h2]
    by_cases h3 : 60 ≤ y + 1
    · rw [if_pos h3, if_pos h3]
    rw [if_neg h3, if_neg h3]
    by_cases h4 : tn = 0 ∨ (lo ≤ y + 1 ∧ y + 1 ≤ hi)
    · rw [if_pos h4, if_pos h4]; exact hk_T_cL tn lo hi n _ _ _ _ _ h' hx (by omega)
    rw [if_neg h4, if_neg h4]
    by_cases h5 : 12 ≤ sp + 1 ∨ (en - hk_cst W lo hi x (y + 1) < 300 ∧ 6 ≤ sp + 1)
    · rw [if_pos h5, if_pos h5]
      by_cases h6 : ¬ (0 ≤ x + tn ∧ x + tn ≤ 8)
      · rw [if_pos h6, if_pos h6]
      rw [if_neg h6, if_neg h6, h (x + tn) (y + 1) (by omega) (by omega) (by omega) (by omega)]
      by_cases h7 : L' (x + tn) (y + 1) ≠ -1
      · rw [if_pos h7, if_pos h7]
      · rw [if_neg h7, if_neg h7]; exact hk_T_cL tn lo hi n _ _ _ _ _ h' (by omega) (by omega)
    · rw [if_neg h5, if_neg h5]; exact hk_T_cL tn lo hi n _ _ _ _ _ h' hx (by omega)
/-- a place where nobody else lies -/
def hk_fr (L : Int → Int → Int) (p : Int) : Prop := p = -1 ∨ ∃ x y, p = 100 * x + y ∧ (0 ≤ x ∧ x ≤ 8) ∧ (30 ≤ y ∧ y ≤ 59) ∧ L x y = -1
theorem hk_fr_rest {L : Int → Int → Int} {x y : Int} (hx : 0 ≤ x ∧ x ≤ 8) (hy : 0 ≤ y ∧ y ≤ 59) (h : L x y = -1) : hk_fr L (hk_rest x y) := by
  unfold hk_rest
  split
  · exact Or.inl rfl
  · exact Or.inr ⟨x, y, rfl, hx, by omega, h⟩
theorem hk_T_fr (L : Int → Int → Int) (tn lo hi : Int) : ∀ (n : Nat) (W : Int → Int) (x y en sp : Int), 0 ≤ x ∧ x ≤ 8 → 0 ≤ y ∧ y ≤ 59 → L x y = -1 → hk_fr L (hk_T L tn lo hi n W x y en sp).2.1
  | 0, W, x, y, en, sp, hx, hy, hL => Or.inl rfl
  | n + 1, W, x, y, en, sp, hx, hy, hL => by
    rw [hk_T]
    by_cases h1 : en < hk_cst W lo hi x (y + 1)
    · rw [if_pos h1]; exact hk_fr_rest hx hy hL
    rw [if_neg h1]
    by_cases h2 : L x (y + 1) ≠ -1
    · rw [if_pos h2]; exact hk_fr_rest hx hy hL
    rw [if_neg h2]
    have h2' : L x (y + 1) = -1 := Classical.not_not.mp h2
    by_cases h3 : 60 ≤ y + 1
    · rw [if_pos h3]; exact Or.inl rfl
    rw [if_neg h3]
    by_cases h4 : tn = 0 ∨ (lo ≤ y + 1 ∧ y + 1 ≤ hi)
    · rw [if_pos h4]; exact hk_T_fr L tn lo hi n _ _ _ _ _ hx (by omega) h2'
    rw [if_neg h4]
    by_cases h5 : 12 ≤ sp + 1 ∨ (en - hk_cst W lo hi x (y + 1) < 300 ∧ 6 ≤ sp + 1)
    · rw [if_pos h5]
      by_cases h6 : ¬ (0 ≤ x + tn ∧ x + tn ≤ 8)
      · rw [if_pos h6]; exact Or.inl rfl
      rw [if_neg h6]
      by_cases h7 : L (x + tn) (y + 1) ≠ -1
      · rw [if_pos h7]; exact hk_fr_rest hx (by omega) h2'
      · rw [if_neg h7]; exact hk_T_fr L tn lo hi n _ _ _ _ _ (by omega) (by omega) (Classical.not_not.mp h7)
    · rw [if_neg h5]; exact hk_T_fr L tn lo hi n _ _ _ _ _ hx (by omega) h2'
theorem hk_pt_pt (f : Int → Int) (n a b : Int) : hk_pt (hk_pt f n a) n b = hk_pt f n b := by
  funext i
  unfold hk_pt
  split <;> rfl
theorem hk_pt_s (f : Int → Int) (n v : Int) : hk_pt f n v n = v := by unfold hk_pt; rw [if_pos rfl]
theorem hk_pt_n {f : Int → Int} {n v i : Int} (h : i ≠ n) : hk_pt f n v i = f i := by unfold hk_pt; rw [if_neg h]
/-- where a mover begins: thrown, or where he lies -/
def hk_beg (f : Int → Int) (mv x y : Int) : Prop := (f mv = -1 ∧ y = 0) ∨ (f mv = 100 * x + y ∧ 30 ≤ y)
theorem hk_beg_L {f : Int → Int} {mv x y : Int} (hg : hk_good f) (hd : hk_dif f) (hm : 0 ≤ mv ∧ mv < 6) (hx : 0 ≤ x ∧ x ≤ 8) (hy : 0 ≤ y ∧ y ≤ 59) (hb : hk_beg f mv x y) : hk_mst (hk_pt f mv (-1)) x y = -1 := by
  have hin := hk_last_in (hk_pt f mv (-1)) (100 * x + y) 6
  unfold hk_mst
  by_cases e : hk_last (hk_pt f mv (-1)) (100 * x + y) 6 = -1
  · exact e
  · exfalso
    obtain ⟨a1, a2, a3⟩ := hin e
    by_cases hne : hk_last (hk_pt f mv (-1)) (100 * x + y) 6 = mv
    · rw [hne, hk_pt_s] at a3; omega
    · rw [hk_pt_n hne] at a3
      have ho := hg _ a1 (by omega)
      rw [a3] at ho
      rcases hb with hb | hb
      · unfold hk_ok at ho; omega
      · have z := hd _ mv a1 (by omega) hm.1 hm.2 hne (a3.trans hb.1.symm)
        rw [a3] at z; omega
/-- one way of the model's: what it leaves -/
theorem hk_mway {W f : Int → Int} {mv x y en tn lo hi : Int} (hW : hk_w9 W) (hg : hk_good f) (hd : hk_dif f) (hm : 0 ≤ mv ∧ mv < 6) (hx : 0 ≤ x ∧ x ≤ 8) (hy : 0 ≤ y ∧ y ≤ 59) (hen : 0 ≤ en ∧ en ≤ 1000) (hb : hk_beg f mv x y) :
    hk_w9 (hk_mR W f mv x y en tn lo hi).1 ∧ hk_good (hk_mf W f mv x y en tn lo hi) ∧ hk_dif (hk_mf W f mv x y en tn lo hi) ∧ hk_mR W f mv x y en tn lo hi = hk_T (hk_lie f) tn lo hi 60 W x y en 0 ∧ hk_mf W f mv x y en tn lo hi = hk_pt f mv (hk_mR W f mv x y en tn lo hi).2.1 := by
  have h := hk_T_all2 (hk_mst (hk_pt f mv (-1))) tn lo hi 60 W x y en 0 hW hx hy hen.1
  have hfr := hk_T_fr (hk_mst (hk_pt f mv (-1))) tn lo hi 60 W x y en 0 hx hy (hk_beg_L hg hd hm hx hy hb)
  have hmf : hk_mf W f mv x y en tn lo hi = hk_pt f mv (hk_mR W f mv x y en tn lo hi).2.1 := hk_pt_pt _ _ _ _
  refine ⟨h.2.1, by rw [hmf]; exact hk_good_pt hg mv h.1, ?_, ?_, hmf⟩
  · rw [hmf]
    have key : ∀ i, 0 ≤ i → i < 6 → i ≠ mv → f i = (hk_mR W f mv x y en tn lo hi).2.1 → f i = -1 := by
      intro i i1 i2 i3 i4
      rcases hfr with q | ⟨a, b, q1, q2, q3, q4⟩
      · exact i4.trans q
      · exfalso
        have hno := hk_last_no (hk_pt f mv (-1)) (100 * a + b) 6 q4 i i1 (by omega)
        rw [hk_pt_n i3] at hno
        exact hno (i4.trans q1)
    intro i j i1 i2 j1 j2 hne e
    by_cases ei : i = mv
    · have ej : j ≠ mv := fun z => hne (ei.trans z.symm)
      rw [ei, hk_pt_s, hk_pt_n ej] at e
      rw [ei, hk_pt_s, e]
      exact key j j1 j2 ej e.symm
    · rw [hk_pt_n ei] at e ⊢
      by_cases ej : j = mv
      · rw [ej, hk_pt_s] at e
        exact key i i1 i2 ei e
      · rw [hk_pt_n ej] at e
        exact hd i j i1 i2 j1 j2 hne e
  · unfold hk_mR
    refine (hk_T_cL tn lo hi 60 W x y en 0 (fun a b q1 q2 q3 q4 => ?_) hx hy).symm
    refine hk_lm hg hd ⟨q1, q2⟩ ⟨by omega, q4⟩ ?_
    rcases hb with q | q <;> omega
/-- the whole throw: the chain of the class is that of the model -/
theorem hk_ch_eq : ∀ (k : Nat) (W f : Int → Int) (mv x y en tn lo hi : Int), hk_w9 W → hk_good f → hk_dif f → 0 ≤ mv ∧ mv < 6 → 0 ≤ x ∧ x ≤ 8 → 0 ≤ y ∧ y ≤ 59 → 0 ≤ en ∧ en ≤ 1000 → hk_beg f mv x y →
    hk_mch (k + 1) W f mv x y en tn lo hi = hk_chain k (hk_mR W f mv x y en tn lo hi).1 (hk_mf W f mv x y en tn lo hi) (hk_mR W f mv x y en tn lo hi).2.2.1 (hk_mR W f mv x y en tn lo hi).2.2.2
  | 0, W, f, mv, x, y, en, tn, lo, hi, hW, hg, hd, hm, hx, hy, hen, hb => by
    rw [hk_mch, hk_mch, hk_chain]
    split <;> rfl
  | k + 1, W, f, mv, x, y, en, tn, lo, hi, hW, hg, hd, hm, hx, hy, hen, hb => by
    obtain ⟨w1, w2, w3, w4, w5⟩ := hk_mway (tn := tn) (lo := lo) (hi := hi) hW hg hd hm hx hy hen hb
    rw [hk_mch, hk_chain]
    by_cases q : (hk_mR W f mv x y en tn lo hi).2.2.1 = -1
    · rw [if_pos q, if_pos q]
    · rw [if_neg q, if_neg q]
      obtain ⟨xj, yj, s1, s2, s3, s4, s5, s6, s7, s8, s9, s10, s11, s12⟩ := hk_mstep hW hg hx hy hen q
      have hb2 : hk_beg (hk_mf W f mv x y en tn lo hi) (hk_mR W f mv x y en tn lo hi).2.2.1 xj yj := Or.inr ⟨s8, s4⟩
      have ih := hk_ch_eq k (hk_mR W f mv x y en tn lo hi).1 (hk_mf W f mv x y en tn lo hi) (hk_mR W f mv x y en tn lo hi).2.2.1 xj yj (hk_mR W f mv x y en tn lo hi).2.2.2 0 1 0 w1 w2 w3 s6 ⟨s1, s2⟩ ⟨by omega, s5⟩ s11 hb2
      obtain ⟨v1, v2, v3, v4, v5⟩ := hk_mway (tn := 0) (lo := 1) (hi := 0) w1 w2 w3 s6 ⟨s1, s2⟩ ⟨by omega, s5⟩ s11 hb2
      rw [s9, s10, ih, hk_at_in s6, s9, s10, ← v4, v5]
theorem hk_mch_ok : ∀ (k : Nat) (W f : Int → Int) (mv x y en tn lo hi : Int), hk_w9 W → hk_good f → hk_dif f → 0 ≤ mv ∧ mv < 6 → 0 ≤ x ∧ x ≤ 8 → 0 ≤ y ∧ y ≤ 59 → 0 ≤ en ∧ en ≤ 1000 → hk_beg f mv x y →
    hk_w9 (hk_mch k W f mv x y en tn lo hi).1 ∧ hk_good (hk_mch k W f mv x y en tn lo hi).2 ∧ hk_dif (hk_mch k W f mv x y en tn lo hi).2 ∧ (∀ j, 0 ≤ j → j < 6 → j ≠ mv → (f j = -1 ∨ f j % 100 ≤ y) → (hk_mch k W f mv x y en tn lo hi).2 j = f j)
  | 0, W, f, mv, x, y, en, tn, lo, hi, hW, hg, hd, hm, hx, hy, hen, hb => ⟨hW, hg, hd, fun _ _ _ _ _ => rfl⟩
  | k + 1, W, f, mv, x, y, en, tn, lo, hi, hW, hg, hd, hm, hx, hy, hen, hb => by
    obtain ⟨w1, w2, w3, w4, w5⟩ := hk_mway (tn := tn) (lo := lo) (hi := hi) hW hg hd hm hx hy hen hb
    rw [hk_mch]
    by_cases q : (hk_mR W f mv x y en tn lo hi).2.2.1 = -1
    · rw [if_pos q]
      exact ⟨w1, w2, w3, fun j _ _ j3 _ => by show hk_mf W f mv x y en tn lo hi j = f j; rw [w5, hk_pt_n j3]⟩
    · rw [if_neg q]
      obtain ⟨xj, yj, s1, s2, s3, s4, s5, s6, s7, s8, s9, s10, s11, s12⟩ := hk_mstep hW hg hx hy hen q
      have hb2 : hk_beg (hk_mf W f mv x y en tn lo hi) (hk_mR W f mv x y en tn lo hi).2.2.1 xj yj := Or.inr ⟨s8, s4⟩
      have ih := hk_mch_ok k (hk_mR W f mv x y en tn lo hi).1 (hk_mf W f mv x y en tn lo hi) (hk_mR W f mv x y en tn lo hi).2.2.1 xj yj (hk_mR W f mv x y en tn lo hi).2.2.2 0 1 0 w1 w2 w3 s6 ⟨s1, s2⟩ ⟨by omega, s5⟩ s11 hb2
      rw [s9, s10]
      refine ⟨ih.1, ih.2.1, ih.2.2.1, fun j j1 j2 j3 j4 => ?_⟩
      have e : hk_mf W f mv x y en tn lo hi j = f j := by rw [w5, hk_pt_n j3]
      have hne : j ≠ (hk_mR W f mv x y en tn lo hi).2.2.1 := fun z => by
        rw [← z, e] at s8
        omega
      rw [ih.2.2.2 j j1 j2 hne (by rw [e]; omega), e]
theorem hk_mch_mv (k : Nat) {W f : Int → Int} {mv x y en tn lo hi : Int} (hW : hk_w9 W) (hg : hk_good f) (hd : hk_dif f) (hm : 0 ≤ mv ∧ mv < 6) (hx : 0 ≤ x ∧ x ≤ 8) (hy : 0 ≤ y ∧ y ≤ 59) (hen : 0 ≤ en ∧ en ≤ 1000) (hb : hk_beg f mv x y) :
    (hk_mch (k + 1) W f mv x y en tn lo hi).2 mv = (hk_mR W f mv x y en tn lo hi).2.1 := by
  obtain ⟨w1, w2, w3, w4, w5⟩ := hk_mway (tn := tn) (lo := lo) (hi := hi) hW hg hd hm hx hy hen hb
  have e : hk_mf W f mv x y en tn lo hi mv = (hk_mR W f mv x y en tn lo hi).2.1 := by rw [w5, hk_pt_s]
  rw [hk_mch]
  by_cases q : (hk_mR W f mv x y en tn lo hi).2.2.1 = -1
  · rw [if_pos q]; exact e
  · rw [if_neg q]
    obtain ⟨xj, yj, s1, s2, s3, s4, s5, s6, s7, s8, s9, s10, s11, s12⟩ := hk_mstep hW hg hx hy hen q
    have hb2 : hk_beg (hk_mf W f mv x y en tn lo hi) (hk_mR W f mv x y en tn lo hi).2.2.1 xj yj := Or.inr ⟨s8, s4⟩
    have ih := hk_mch_ok k (hk_mR W f mv x y en tn lo hi).1 (hk_mf W f mv x y en tn lo hi) (hk_mR W f mv x y en tn lo hi).2.2.1 xj yj (hk_mR W f mv x y en tn lo hi).2.2.2 0 1 0 w1 w2 w3 s6 ⟨s1, s2⟩ ⟨by omega, s5⟩ s11 hb2
    have h := hk_T_all2 (hk_mst (hk_pt f mv (-1))) tn lo hi 60 W x y en 0 hW hx hy hen.1
    rw [show hk_T (hk_mst (hk_pt f mv (-1))) tn lo hi 60 W x y en 0 = hk_mR W f mv x y en tn lo hi from rfl] at h
    obtain ⟨h1, h2, h3⟩ := h
    obtain ⟨xk, yk, r1, r2, r3, r4, r5, r6, r7, r8⟩ := h3.resolve_left q
    have ey : yk = yj := by
      have z := hk_last_in (hk_pt f mv (-1)) (100 * xk + yk) 6 (by rw [show hk_last (hk_pt f mv (-1)) (100 * xk + yk) 6 = hk_mst (hk_pt f mv (-1)) xk yk from rfl, r5]; exact q)
      rw [show hk_last (hk_pt f mv (-1)) (100 * xk + yk) 6 = hk_mst (hk_pt f mv (-1)) xk yk from rfl, r5, hk_pt_n s7] at z
      rw [w5, hk_pt_n s7] at s8
      omega
    rw [s9, s10, ih.2.2.2 mv hm.1 hm.2 (fun z => s7 z.symm) (by rw [e, ← ey]; exact r6), e]
/-- a throw of the class is a throw of the model -/
theorem hk_thr_mch {W f : Int → Int} {n ln en : Int} (tn lo hi : Int) (hW : hk_w9 W) (hg : hk_good f) (hd : hk_dif f) (hn : 0 ≤ n ∧ n < 6) (hl : 0 ≤ ln ∧ ln ≤ 8) (hen : 0 ≤ en ∧ en ≤ 1000) (hf : f n = -1) :
    (hk_thr W f n ln en tn lo hi).2 = hk_mch 7 W f n ln 0 en tn lo hi ∧ (hk_thr W f n ln en tn lo hi).1 = (hk_mch 7 W f n ln 0 en tn lo hi).2 n := by
  have hb : hk_beg f n ln 0 := Or.inl ⟨hf, rfl⟩
  obtain ⟨w1, w2, w3, w4, w5⟩ := hk_mway (tn := tn) (lo := lo) (hi := hi) hW hg hd hn hl ⟨by omega, by omega⟩ hen hb
  refine ⟨?_, ?_⟩
  · rw [hk_ch_eq 6 W f n ln 0 en tn lo hi hW hg hd hn hl ⟨by omega, by omega⟩ hen hb, w5, w4]
    rfl
  · rw [hk_mch_mv 6 hW hg hd hn hl ⟨by omega, by omega⟩ hen hb, w4]
    rfl
