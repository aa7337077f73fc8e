/-! WHAT THE METHODS ANSWER, as functions of whole numbers; which node is what -/
def jm_X3 (E : jm_E) (w : jm_W) (k : Int) : Prop := k ∈ w.1 ∧ w.2.2 k = jm_O 3 [some (.ref (w.2.1 (k + 100)))] ∧ (k + 100) ∈ w.1 ∧ w.2.2 (k + 100) = jm_Ia (E.2.2 0) 6
def jm_X1 (E : jm_E) (w : jm_W) (k : Int) : Prop := k ∈ w.1 ∧ w.2.2 k = jm_O 1 [some (.ref (w.2.1 (k + 100))), none, none] ∧ (k + 100) ∈ w.1 ∧ w.2.2 (k + 100) = jm_Ia (E.2.2 0) 549
def jm_X4 (E : jm_E) (w : jm_W) (k : Int) : Prop := k ∈ w.1 ∧ w.2.2 k = jm_O 4 [none, none, none]
def jm_X0 (E : jm_E) (w : jm_W) (k : Int) : Prop := k ∈ w.1 ∧ w.2.2 k = jm_O 0 [none, none, none, some (.ref (w.2.1 (k + 100))), none, none, none, none, none, none, none, none, none] ∧ jm_X3 E w (k + 100)
def jm_X2 (E : jm_E) (w : jm_W) (k : Int) : Prop := k ∈ w.1 ∧ w.2.2 k = jm_O 2 [some (.ref (w.2.1 (k + 100))), none, none, none, none, none, none, none, none, none] ∧ jm_X3 E w (k + 100)
theorem jm_up_s (I : jm_M) (k j v : Int) : jm_up I k j v k j = v := by simp [jm_up]
theorem jm_up_n {I : jm_M} {k j v a b : Int} (h : a ≠ k ∨ b ≠ j) : jm_up I k j v a b = I a b := by
  unfold jm_up
  rw [if_neg]
  rintro ⟨h1, h2⟩
  rcases h with h | h
  · exact h h1
  · exact h h2
def hk_at (f : Int → Int) (n : Int) : Int := if 0 ≤ n ∧ n < 6 then f n else -1
def hk_dist (p : Int) : Int := if p < 0 then 30 else hk_mn (2 * hk_ab (p.tdiv 100 - 4) + hk_ab (p.tmod 100 - 50)) 30
theorem hk_ab_r (z : Int) : 0 ≤ hk_ab z := by unfold hk_ab; split <;> omega
theorem hk_dist_r (p : Int) : 0 ≤ hk_dist p ∧ hk_dist p ≤ 30 := by
  unfold hk_dist hk_mn
  have h1 := hk_ab_r (p.tdiv 100 - 4)
  have h2 := hk_ab_r (p.tmod 100 - 50)
  split
  · omega
  · split <;> omega
def hk_near (f : Int → Int) (s : Int) : Nat → Int
  | 0 => 11
  | n + 1 => hk_mn (hk_near f s n) (hk_dist (hk_at f (s + n)))
def hk_cntn (f : Int → Int) (s lim : Int) : Nat → Int
  | 0 => 0
  | n + 1 => if hk_dist (hk_at f (s + n)) < lim then hk_cntn f s lim n + 1 else hk_cntn f s lim n
theorem hk_near_r (f : Int → Int) (s : Int) : ∀ n, 0 ≤ hk_near f s n ∧ hk_near f s n ≤ 11
  | 0 => ⟨by unfold hk_near; omega, by unfold hk_near; omega⟩
  | n + 1 => by
    have h1 := hk_near_r f s n
    have h2 := hk_dist_r (hk_at f (s + n))
    unfold hk_near hk_mn
    split <;> omega
theorem hk_cntn_r (f : Int → Int) (s lim : Int) : ∀ n, 0 ≤ hk_cntn f s lim n ∧ hk_cntn f s lim n ≤ n
  | 0 => ⟨by unfold hk_cntn; omega, by unfold hk_cntn; omega⟩
  | n + 1 => by
    have h1 := hk_cntn_r f s lim n
    unfold hk_cntn
    split <;> omega
def hk_score (f : Int → Int) : Int := if hk_near f 0 3 < hk_near f 3 3 then hk_cntn f 0 (hk_near f 3 3) 3 else if hk_near f 3 3 < hk_near f 0 3 then -hk_cntn f 3 (hk_near f 0 3) 3 else 0
def hk_onet (f : Int → Int) (i : Int) : Int := if hk_dist (hk_at f i) ≤ 10 ∧ hk_cntn f (if i < 3 then 3 else 0) (hk_dist (hk_at f i) + 1) 3 = 0 then (if i < 3 then 1 else -1) else 0
def hk_one (f : Int → Int) : Nat → Int
  | 0 => 0
  | n + 1 => hk_one f n + hk_onet f n
def hk_first (f : Int → Int) (p : Int) : Nat → Int → Int
  | 0, _ => -1
  | n + 1, i => if f i = p then i else hk_first f p n (i + 1)
def hk_lie (f : Int → Int) (lane y : Int) : Int := if y < 30 then -1 else hk_first f (100 * lane + y) 6 0
def hk_sum (f : Int → Int) : Nat → Int
  | 0 => 0
  | n + 1 => hk_sum f n + f n
def hk_shot (lane weight turn lo hi : Int) : Prop := 0 ≤ lane ∧ lane ≤ 8 ∧ 1 ≤ weight ∧ weight ≤ 100 ∧ (turn = -1 ∨ turn = 1) ∧ 0 ≤ lo ∧ lo ≤ 60 ∧ 0 ≤ hi ∧ hi ≤ 60
/-- a row's first n places set -/
def hk_fill (I : jm_M) (k : Int) (n : Int) (g : Int → Int) : jm_M := fun a b => if a = k ∧ 0 ≤ b ∧ b < n then g b else I a b
theorem hk_fill_0 (I : jm_M) (k : Int) (g : Int → Int) : hk_fill I k 0 g = I := by
  funext a b
  unfold hk_fill
  rw [if_neg]
  omega
theorem hk_fill_i {I : jm_M} {k n b : Int} {g : Int → Int} (h : 0 ≤ b ∧ b < n) : hk_fill I k n g k b = g b := by unfold hk_fill; rw [if_pos ⟨rfl, h⟩]
theorem hk_fill_o {I : jm_M} {k n a b : Int} {g : Int → Int} (h : a ≠ k ∨ ¬ (0 ≤ b ∧ b < n)) : hk_fill I k n g a b = I a b := by
  unfold hk_fill
  rw [if_neg]
  rintro ⟨h1, h2⟩
  rcases h with h | h
  · exact h h1
  · exact h h2
theorem hk_fill_f {I : jm_M} {k n a : Int} {g : Int → Int} (h : a ≠ k) : hk_fill I k n g a = I a := by funext b; exact hk_fill_o (Or.inl h)
theorem hk_fill_s (I : jm_M) (k : Int) (n : Nat) (g : Int → Int) : jm_up (hk_fill I k n g) k n (g n) = hk_fill I k ((n + 1 : Nat) : Int) g := by
  funext a b
  by_cases h1 : a = k
  · subst h1
    by_cases h2 : b = n
    · subst h2
      rw [jm_up_s, hk_fill_i (by omega)]
    · rw [jm_up_n (Or.inr h2)]
      by_cases h3 : 0 ≤ b ∧ b < n
      · rw [hk_fill_i h3, hk_fill_i (by omega)]
      · rw [hk_fill_o (Or.inr h3), hk_fill_o (Or.inr (by omega))]
  · rw [jm_up_n (Or.inl h1), hk_fill_o (Or.inl h1), hk_fill_o (Or.inl h1)]
theorem hk_fill_R {I : jm_M} {k n : Int} {g : Int → Int} (hI : ∀ a b, jm_R (I a b)) (hg : ∀ b, jm_R (g b)) : ∀ a b, jm_R (hk_fill I k n g a b) := fun a b => by
  unfold hk_fill
  split
  · exact hg b
  · exact hI a b
theorem hk_div (p : Int) (h : 0 ≤ p) : p.tdiv 100 = p / 100 ∧ p.tmod 100 = p % 100 := ⟨Int.tdiv_eq_ediv_of_nonneg h, Int.tmod_eq_emod_of_nonneg h⟩
theorem hk_at_R {I : jm_M} (hI : ∀ a b, jm_R (I a b)) (k n : Int) : jm_R (hk_at (I k) n) := by
  unfold hk_at
  split
  · exact hI k n
  · decide
theorem hk_copy (I : jm_M) (k k2 : Int) (m : Nat) (hm : m < 6) : hk_at (hk_fill I k m (I k2) k2) m = I k2 m := by
  unfold hk_at hk_fill
  rw [if_pos (by omega)]
  split <;> rfl
theorem jm_n_isWithin : (RX2, 79, yX5_isWithin, RX5) ∈ jm_nest := List.mem_of_getElem? (i := 3) rfl
theorem jm_n_distanceOf : (RX3, 29, yX5_distanceOf, RX5) ∈ jm_nest := List.mem_of_getElem? (i := 4) rfl
/-- the slide at k in motion: lane, y, energy, steps, hit -/
def hk_sl (I : jm_M) (k ln y en sp ht : Int) : jm_M := fun a b => if a = k then (if b = 2 then ln else if b = 3 then y else if b = 4 then en else if b = 8 then sp else if b = 9 then ht else I a b) else I a b
theorem hk_sl_g2 (I : jm_M) (k ln y en sp ht : Int) : hk_sl I k ln y en sp ht k 2 = ln := by simp [hk_sl]
theorem hk_sl_g3 (I : jm_M) (k ln y en sp ht : Int) : hk_sl I k ln y en sp ht k 3 = y := by simp [hk_sl]
theorem hk_sl_g4 (I : jm_M) (k ln y en sp ht : Int) : hk_sl I k ln y en sp ht k 4 = en := by simp [hk_sl]
theorem hk_sl_g8 (I : jm_M) (k ln y en sp ht : Int) : hk_sl I k ln y en sp ht k 8 = sp := by simp [hk_sl]
theorem hk_sl_g9 (I : jm_M) (k ln y en sp ht : Int) : hk_sl I k ln y en sp ht k 9 = ht := by simp [hk_sl]
theorem hk_sl_gk (I : jm_M) (k ln y en sp ht b : Int) (h : b ≠ 2 ∧ b ≠ 3 ∧ b ≠ 4 ∧ b ≠ 8 ∧ b ≠ 9) : hk_sl I k ln y en sp ht k b = I k b := by simp [hk_sl, h]
theorem hk_sl_go (I : jm_M) (k ln y en sp ht a b : Int) (h : a ≠ k) : hk_sl I k ln y en sp ht a b = I a b := by simp [hk_sl, h]
theorem hk_sl_f (I : jm_M) (k ln y en sp ht : Int) {a : Int} (h : a ≠ k) : hk_sl I k ln y en sp ht a = I a := by funext b; exact hk_sl_go I k ln y en sp ht a b h
theorem hk_sl_u2 (I : jm_M) (k ln y en sp ht v : Int) : jm_up (hk_sl I k ln y en sp ht) k 2 v = hk_sl I k v y en sp ht := by
  funext a b; unfold jm_up hk_sl; by_cases h1 : a = k <;> by_cases h2 : b = 2 <;> simp [h1, h2]
theorem hk_sl_u3 (I : jm_M) (k ln y en sp ht v : Int) : jm_up (hk_sl I k ln y en sp ht) k 3 v = hk_sl I k ln v en sp ht := by
  funext a b; unfold jm_up hk_sl; by_cases h1 : a = k <;> by_cases h2 : b = 3 <;> simp [h1, h2]
theorem hk_sl_u4 (I : jm_M) (k ln y en sp ht v : Int) : jm_up (hk_sl I k ln y en sp ht) k 4 v = hk_sl I k ln y v sp ht := by
  funext a b; unfold jm_up hk_sl; by_cases h1 : a = k <;> by_cases h2 : b = 4 <;> simp [h1, h2]
theorem hk_sl_u8 (I : jm_M) (k ln y en sp ht v : Int) : jm_up (hk_sl I k ln y en sp ht) k 8 v = hk_sl I k ln y en v ht := by
  funext a b; unfold jm_up hk_sl; by_cases h1 : a = k <;> by_cases h2 : b = 8 <;> simp [h1, h2]
theorem hk_sl_u9 (I : jm_M) (k ln y en sp ht v : Int) : jm_up (hk_sl I k ln y en sp ht) k 9 v = hk_sl I k ln y en sp v := by
  funext a b; unfold jm_up hk_sl; by_cases h1 : a = k <;> by_cases h2 : b = 9 <;> simp [h1, h2]
theorem hk_sl_uo (I : jm_M) (k ln y en sp ht a b v : Int) (h : a ≠ k) : jm_up (hk_sl I k ln y en sp ht) a b v = hk_sl (jm_up I a b v) k ln y en sp ht := by
  funext x z; unfold jm_up hk_sl; by_cases h1 : x = k
  · have h2 : ¬ (x = a ∧ z = b) := fun q => h (q.1.symm.trans h1)
    have h3 : ¬ k = a := fun q => h q.symm
    simp [h1, h3]
  · simp [h1]
theorem hk_sl_self (I : jm_M) (k : Int) : hk_sl I k (I k 2) (I k 3) (I k 4) (I k 8) (I k 9) = I := by
  funext a b; unfold hk_sl; by_cases h : a = k
  · subst h; simp only [if_true]; split
    · rename_i h; rw [h]
    · split
      · rename_i h; rw [h]
      · split
        · rename_i h; rw [h]
        · split
          · rename_i h; rw [h]
          · split
            · rename_i h; rw [h]
            · rfl
  · rw [if_neg h]
def hk_cst (W : Int → Int) (lo hi ln y : Int) : Int := 10 + W (ln * 61 + y) - (if lo ≤ y ∧ y ≤ hi then 3 else 0)
def hk_wr (I : jm_M) (k ks c : Int) : jm_M := if I k 1 ≠ 0 ∧ I (ks + 100) c < 9 then jm_up I (ks + 100) c (I (ks + 100) c + 1) else I
theorem hk_first_r (f : Int → Int) (p : Int) : ∀ (n : Nat) (i : Int), hk_first f p n i = -1 ∨ (i ≤ hk_first f p n i ∧ hk_first f p n i < i + n)
  | 0, _ => Or.inl rfl
  | n + 1, i => by
    have ih := hk_first_r f p n (i + 1)
    unfold hk_first
    split
    · right; omega
    · rcases ih with h | h
      · exact Or.inl h
      · right; omega
theorem hk_lie_r (f : Int → Int) (lane y : Int) : -1 ≤ hk_lie f lane y ∧ hk_lie f lane y < 6 := by
  have h := hk_first_r f (100 * lane + y) 6 0
  unfold hk_lie
  split <;> omega
def hk_rest (ln y : Int) : Int := if y < 30 then -1 else 100 * ln + y
def hk_nside (st th la : Int) : Int := if st = 1 then th else if st = 2 then (if th.tmod 2 = 0 then 1 - la else la) else -1
def hk_draw (I : jm_M) (k d : Int) : jm_M := if I k 11 = 0 then jm_up (jm_up I k 7 d) k 11 1 else jm_up (jm_up (jm_up I k 12 (if I k 7 < d then 0 else 1)) k 11 0) k 5 2
def hk_close (I : jm_M) (k : Int) : jm_M :=
  let sc := hk_score (I (k + 100 + 100))
  let I1 := if 0 < sc then jm_up (jm_up I k 8 (I k 8 + sc)) k 12 1 else if sc < 0 then jm_up (jm_up I k 9 (I k 9 - sc)) k 12 0 else I
  jm_up (jm_up (hk_fill I1 (k + 100 + 100) 6 (fun _ => -1)) k 11 0) k 10 (I k 10 + 1)
theorem hk_wr_n {I : jm_M} {k ks a b c d e lh : Int} (h1 : I k 1 = 0) (hl : lh = -1) : hk_sl I k a b c d lh = hk_sl (hk_wr I k ks e) k a b c d (-1) := by
  unfold hk_wr
  rw [if_neg (fun q => q.1 h1), hl]
theorem hk_wr_y {I : jm_M} {k ks a b c d e lh : Int} (h1 : I k 1 ≠ 0) (hn : ks + 100 ≠ k) (hl : lh = -1) : (if (hk_sl I k a b c d lh) (ks + 100) e < 9 then jm_up (hk_sl I k a b c d lh) (ks + 100) e ((hk_sl I k a b c d lh) (ks + 100) e + 1) else hk_sl I k a b c d lh) = hk_sl (hk_wr I k ks e) k a b c d (-1) := by
  unfold hk_wr
  rw [hk_sl_go _ _ _ _ _ _ _ _ _ hn, hl]
  by_cases h : I (ks + 100) e < 9
  · rw [if_pos h, if_pos ⟨h1, h⟩, hk_sl_uo _ _ _ _ _ _ _ _ _ _ hn]
  · rw [if_neg h, if_neg (fun q => h q.2)]
theorem hk_score_r (f : Int → Int) : -3 ≤ hk_score f ∧ hk_score f ≤ 3 := by
  unfold hk_score
  have h1 := hk_cntn_r f 0 (hk_near f 3 3) 3
  have h2 := hk_cntn_r f 3 (hk_near f 0 3) 3
  split
  · omega
  · split <;> omega
-- a stone on its way: what the wear is then, where it stays, whom it hits, with how much
def hk_wW (W : Int → Int) (c : Int) : Int → Int := fun b => if b = c ∧ W c < 9 then W c + 1 else W b
def hk_T (L : Int → Int → Int) (tn lo hi : Int) : Nat → (Int → Int) → Int → Int → Int → Int → (Int → Int) × Int × Int × Int
  | 0, W, _, _, _, _ => (W, -1, -1, 0)
  | n + 1, W, x, y, en, sp =>
    if en < hk_cst W lo hi x (y + 1) then (W, hk_rest x y, -1, 0)
    else if L x (y + 1) ≠ -1 then (W, hk_rest x y, L x (y + 1), (en * 3).tdiv 4)
    else if 60 ≤ y + 1 then (hk_wW W (x * 61 + (y + 1)), -1, -1, 0)
    else if tn = 0 ∨ (lo ≤ y + 1 ∧ y + 1 ≤ hi) then hk_T L tn lo hi n (hk_wW W (x * 61 + (y + 1))) x (y + 1) (en - hk_cst W lo hi x (y + 1)) sp
    else if 12 ≤ sp + 1 ∨ (en - hk_cst W lo hi x (y + 1) < 300 ∧ 6 ≤ sp + 1) then
      if ¬ (0 ≤ x + tn ∧ x + tn ≤ 8) then (hk_wW W (x * 61 + (y + 1)), -1, -1, 0)
      else if L (x + tn) (y + 1) ≠ -1 then (hk_wW W (x * 61 + (y + 1)), hk_rest x (y + 1), L (x + tn) (y + 1), (en - hk_cst W lo hi x (y + 1)).tdiv 2)
      else hk_T L tn lo hi n (hk_wW W (x * 61 + (y + 1))) (x + tn) (y + 1) (en - hk_cst W lo hi x (y + 1)) 0
    else hk_T L tn lo hi n (hk_wW W (x * 61 + (y + 1))) x (y + 1) (en - hk_cst W lo hi x (y + 1)) (sp + 1)
def hk_agr (U W : Int → Int) (y : Int) : Prop := ∀ x' y', 0 ≤ x' → x' ≤ 8 → y < y' → y' ≤ 60 → U (x' * 61 + y') = W (x' * 61 + y')
def hk_rel (I : jm_M) (k ks : Int) (Iv : jm_M) (W : Int → Int) : Prop := (∀ a, a ≠ ks + 100 → Iv a = I a) ∧ (∀ b, 0 ≤ Iv (ks + 100) b ∧ Iv (ks + 100) b ≤ 9) ∧ (I k 1 ≠ 0 → Iv (ks + 100) = W) ∧ (I k 1 = 0 → Iv (ks + 100) = I (ks + 100))
def hk_gpost (I : jm_M) (k ks : Int) (R : (Int → Int) × Int × Int × Int) (I' : jm_M) (z : Int) : Prop := ∃ (Iv : jm_M) (ln y en sp : Int), I' = hk_sl Iv k ln y en sp R.2.2.1 ∧ z = R.2.1 ∧ (R.2.2.1 ≠ -1 → en = R.2.2.2) ∧ hk_rel I k ks Iv R.1
theorem hk_gp {I : jm_M} {k ks : Int} {R : (Int → Int) × Int × Int × Int} {Iv : jm_M} {W : Int → Int} {ln y en sp p ht gv : Int} (hR : (W, p, ht, gv) = R) (hg : ht ≠ -1 → en = gv) (h : hk_rel I k ks Iv W) : hk_gpost I k ks R (hk_sl Iv k ln y en sp ht) p := by
  subst hR
  exact ⟨Iv, ln, y, en, sp, rfl, rfl, hg, h⟩
theorem hk_wr_o {Iv : jm_M} {k ks c a : Int} (h : a ≠ ks + 100) : hk_wr Iv k ks c a = Iv a := by
  funext b
  unfold hk_wr
  split
  · rw [jm_up_n (Or.inl h)]
  · rfl
theorem hk_wr_s {Iv : jm_M} {k ks c : Int} : hk_wr Iv k ks c (ks + 100) = if Iv k 1 ≠ 0 then hk_wW (Iv (ks + 100)) c else Iv (ks + 100) := by
  funext b
  unfold hk_wr hk_wW
  by_cases h1 : Iv k 1 ≠ 0
  · rw [if_pos h1]
    by_cases h2 : Iv (ks + 100) c < 9
    · rw [if_pos ⟨h1, h2⟩]
      by_cases h3 : b = c
      · subst h3; rw [jm_up_s, if_pos ⟨rfl, h2⟩]
      · rw [jm_up_n (Or.inr h3), if_neg (fun q => h3 q.1)]
    · rw [if_neg (fun q => h2 q.2), if_neg (fun q => h2 q.2)]
  · rw [if_neg h1, if_neg (fun q => h1 q.1)]
theorem hk_rel_wr {I Iv : jm_M} {k ks c : Int} {W : Int → Int} (h : hk_rel I k ks Iv W) (hne : k ≠ ks + 100) : hk_rel I k ks (hk_wr Iv k ks c) (hk_wW W c) := by
  obtain ⟨h1, h2, h3, h4⟩ := h
  have hk1 : Iv k 1 = I k 1 := by rw [h1 k hne]
  refine ⟨fun a ha => (hk_wr_o ha).trans (h1 a ha), fun b => ?_, fun hw => ?_, fun hw => ?_⟩
  · rw [hk_wr_s]
    split
    · unfold hk_wW
      have hb := h2 b
      have hc := h2 c
      split <;> omega
    · exact h2 b
  · rw [hk_wr_s, if_pos (by rw [hk1]; exact hw), h3 hw]
  · rw [hk_wr_s, if_neg (by rw [hk1]; exact fun q => q hw), h4 hw]
theorem hk_agr_wr {Iv : jm_M} {k ks ln y : Int} {W : Int → Int} (h : hk_agr (Iv (ks + 100)) W y) (hl : 0 ≤ ln ∧ ln ≤ 8) (hy : 0 ≤ y ∧ y ≤ 59) : hk_agr ((hk_wr Iv k ks (ln * 61 + (y + 1))) (ks + 100)) (hk_wW W (ln * 61 + (y + 1))) (y + 1) := by
  intro x' y' hx hx2 hy1 hy2
  have h0 := h x' y' hx hx2 (by omega) hy2
  have hne : ¬ x' * 61 + y' = ln * 61 + (y + 1) := by omega
  have e2 : hk_wW W (ln * 61 + (y + 1)) (x' * 61 + y') = W (x' * 61 + y') := by unfold hk_wW; rw [if_neg (fun q => hne q.1)]
  rw [hk_wr_s, e2, ← h0]
  split
  · unfold hk_wW; rw [if_neg (fun q => hne q.1)]
  · rfl
theorem hk_cst_e {U W : Int → Int} {lo hi ln y : Int} (h : U (ln * 61 + y) = W (ln * 61 + y)) : hk_cst U lo hi ln y = hk_cst W lo hi ln y := by unfold hk_cst; rw [h]
theorem hk_cst_r {W : Int → Int} {lo hi ln y : Int} (h : 0 ≤ W (ln * 61 + y) ∧ W (ln * 61 + y) ≤ 9) : 7 ≤ hk_cst W lo hi ln y ∧ hk_cst W lo hi ln y ≤ 19 := by unfold hk_cst; split <;> omega
theorem hk_onet_no {f : Int → Int} {i z : Int} (hz : z = if i < 3 then 3 else 0) (h : 10 < hk_dist (hk_at f i) ∨ ¬ hk_cntn f z (hk_dist (hk_at f i) + 1) 3 = 0) : hk_onet f i = 0 := by
  unfold hk_onet
  rw [← hz, if_neg]
  rintro ⟨h1, h2⟩
  rcases h with h | h
  · omega
  · exact h h2
theorem hk_onet_yes {f : Int → Int} {i z v : Int} (hz : z = if i < 3 then 3 else 0) (h1 : ¬ 10 < hk_dist (hk_at f i)) (h2 : hk_cntn f z (hk_dist (hk_at f i) + 1) 3 = 0) (hv : v = if i < 3 then 1 else -1) : hk_onet f i = v := by
  unfold hk_onet
  rw [← hz, if_pos ⟨by omega, h2⟩, hv]
abbrev rmX0_init : Room := { frames := 3, cells := 0, slots := 0, locals := 61 }
abbrev rmX3_init : Room := { frames := 2, cells := 0, slots := 0, locals := 41 }
abbrev rmX3_takeAway : Room := { frames := 1, cells := 0, slots := 0, locals := 20 }
abbrev rmX0_isOnSheet : Room := { frames := 1, cells := 0, slots := 0, locals := 20 }
abbrev rmX0_nextSide : Room := { frames := 1, cells := 0, slots := 0, locals := 20 }
abbrev rmX0_nextStone : Room := { frames := 2, cells := 0, slots := 0, locals := 40 }
abbrev rmX0_takeDraw : Room := { frames := 1, cells := 0, slots := 0, locals := 20 }
abbrev rmX0_closeEnd : Room := { frames := 4, cells := 0, slots := 0, locals := 88 }
abbrev rmX3_score : Room := { frames := 3, cells := 0, slots := 0, locals := 66 }
abbrev rmX3_nearest : Room := { frames := 2, cells := 0, slots := 0, locals := 42 }
abbrev rmX3_placeOf : Room := { frames := 1, cells := 0, slots := 0, locals := 20 }
abbrev rmX5_distanceOf : Room := { frames := 1, cells := 0, slots := 0, locals := 20 }
abbrev rmX3_countNearer : Room := { frames := 2, cells := 0, slots := 0, locals := 42 }
abbrev rmX1_init : Room := { frames := 1, cells := 0, slots := 0, locals := 20 }
abbrev rmX1_isReady : Room := { frames := 1, cells := 0, slots := 0, locals := 20 }
abbrev rmX1_wornAt : Room := { frames := 1, cells := 0, slots := 0, locals := 20 }
abbrev rmX1_wearDown : Room := { frames := 1, cells := 0, slots := 0, locals := 20 }
abbrev rmX1_allWorn : Room := { frames := 1, cells := 0, slots := 0, locals := 20 }
abbrev rmX1_renew : Room := { frames := 1, cells := 0, slots := 0, locals := 20 }
abbrev rmX2_init : Room := { frames := 3, cells := 0, slots := 0, locals := 61 }
abbrev rmX2_aim : Room := { frames := 1, cells := 0, slots := 0, locals := 20 }
abbrev rmX2_run : Room := { frames := 5, cells := 0, slots := 0, locals := 108 }
abbrev rmX3_copyFrom : Room := { frames := 2, cells := 0, slots := 0, locals := 41 }
abbrev rmX2_glide : Room := { frames := 4, cells := 0, slots := 0, locals := 86 }
abbrev rmX2_stepsForward : Room := { frames := 3, cells := 0, slots := 0, locals := 63 }
abbrev rmX2_isSwept : Room := { frames := 2, cells := 0, slots := 0, locals := 42 }
abbrev rmX5_isWithin : Room := { frames := 1, cells := 0, slots := 0, locals := 20 }
abbrev rmX3_lyingAt : Room := { frames := 1, cells := 0, slots := 0, locals := 20 }
abbrev rmX2_restingPlace : Room := { frames := 1, cells := 0, slots := 0, locals := 20 }
abbrev rmX2_mustMoveAside : Room := { frames := 3, cells := 0, slots := 0, locals := 63 }
abbrev rmX2_movesAside : Room := { frames := 2, cells := 0, slots := 0, locals := 44 }
abbrev rmX3_put : Room := { frames := 1, cells := 0, slots := 0, locals := 20 }
abbrev rmX2_aimPushed : Room := { frames := 1, cells := 0, slots := 0, locals := 20 }
abbrev rmX3_scoreOneByOne : Room := { frames := 3, cells := 0, slots := 0, locals := 66 }
abbrev rmX4_init : Room := { frames := 1, cells := 0, slots := 0, locals := 20 }
abbrev rmX4_lastStonesPerGame : Room := { frames := 1, cells := 0, slots := 0, locals := 20 }
abbrev rmX5_init : Room := { frames := 4, cells := 0, slots := 0, locals := 81 }
abbrev rmX5_plan : Room := { frames := 8, cells := 0, slots := 0, locals := 140 }
abbrev rmX5_crew : Room := { frames := 8, cells := 0, slots := 0, locals := 140 }
abbrev rmX5_shoot : Room := { frames := 11, cells := 0, slots := 0, locals := 204 }
abbrev rmX5_gameOf : Room := { frames := 8, cells := 0, slots := 0, locals := 140 }
abbrev rmX5_isShot : Room := { frames := 2, cells := 0, slots := 0, locals := 42 }
abbrev rmX5_sheetOf : Room := { frames := 8, cells := 0, slots := 0, locals := 140 }
abbrev rmX5_settleDraw : Room := { frames := 9, cells := 0, slots := 0, locals := 162 }
abbrev rmX5_teamOf : Room := { frames := 8, cells := 0, slots := 0, locals := 140 }
abbrev rmX5_settleStone : Room := { frames := 10, cells := 0, slots := 0, locals := 183 }
abbrev rmX5_closeGame : Room := { frames := 9, cells := 0, slots := 0, locals := 162 }
abbrev rmX5_pass : Room := { frames := 11, cells := 0, slots := 0, locals := 208 }
abbrev rmX5_workAnHour : Room := { frames := 10, cells := 0, slots := 0, locals := 187 }
abbrev rmX5_sheetToMake : Room := { frames := 9, cells := 0, slots := 0, locals := 162 }
abbrev rmX5_leastHourWished : Room := { frames := 1, cells := 0, slots := 0, locals := 20 }
abbrev rmX5_beginGames : Room := { frames := 10, cells := 0, slots := 0, locals := 184 }
abbrev rmX5_sheetToPlay : Room := { frames := 9, cells := 0, slots := 0, locals := 162 }
abbrev rmX5_hour : Room := { frames := 1, cells := 0, slots := 0, locals := 20 }
abbrev rmX5_ofSheet : Room := { frames := 9, cells := 0, slots := 0, locals := 162 }
abbrev rmX5_wear : Room := { frames := 9, cells := 0, slots := 0, locals := 162 }
abbrev rmX5_isCell : Room := { frames := 2, cells := 0, slots := 0, locals := 42 }
abbrev rmX5_ofGame : Room := { frames := 9, cells := 0, slots := 0, locals := 162 }
abbrev rmX5_stone : Room := { frames := 9, cells := 0, slots := 0, locals := 162 }
abbrev rmX5_wouldScore : Room := { frames := 9, cells := 0, slots := 0, locals := 162 }
abbrev rmX5_wouldScoreAnew : Room := { frames := 9, cells := 0, slots := 0, locals := 162 }
abbrev rmX5_tries : Room := { frames := 9, cells := 0, slots := 0, locals := 162 }
abbrev rmX5_advice : Room := { frames := 11, cells := 0, slots := 0, locals := 212 }
abbrev rmX5_worthOfShot : Room := { frames := 10, cells := 0, slots := 0, locals := 187 }
abbrev rmX5_worthOfTry : Room := { frames := 9, cells := 0, slots := 0, locals := 162 }
abbrev rmX5_standing : Room := { frames := 11, cells := 0, slots := 0, locals := 209 }
abbrev rmX5_teamsAheadOf : Room := { frames := 10, cells := 0, slots := 0, locals := 186 }
abbrev rmX5_isAhead : Room := { frames := 9, cells := 0, slots := 0, locals := 162 }
abbrev rmX5_ofTeam : Room := { frames := 9, cells := 0, slots := 0, locals := 162 }
abbrev rmX6_init : Room := { frames := 1, cells := 0, slots := 0, locals := 20 }
abbrev rmX6_thrown : Room := { frames := 1, cells := 0, slots := 0, locals := 20 }
abbrev rmX6_asked : Room := { frames := 1, cells := 0, slots := 0, locals := 20 }
abbrev rmX6_asked_ : Room := { frames := 1, cells := 0, slots := 0, locals := 20 }
abbrev rmX6_asked__ : Room := { frames := 1, cells := 0, slots := 0, locals := 20 }
abbrev rmX6_in : Room := { frames := 1, cells := 0, slots := 0, locals := 20 }
abbrev rmX6_isGame : Room := { frames := 2, cells := 0, slots := 0, locals := 42 }
abbrev rmX6_isTeam : Room := { frames := 2, cells := 0, slots := 0, locals := 42 }
abbrev rmX6_isSheet : Room := { frames := 2, cells := 0, slots := 0, locals := 42 }
abbrev rmX6_plan : Room := { frames := 3, cells := 0, slots := 0, locals := 62 }
abbrev rmX6_crew : Room := { frames := 2, cells := 0, slots := 0, locals := 42 }
abbrev rmX6_takesUp : Room := { frames := 1, cells := 0, slots := 0, locals := 20 }
abbrev rmX6_stoneAt : Room := { frames := 1, cells := 0, slots := 0, locals := 20 }
abbrev rmX6_goes : Room := { frames := 2, cells := 0, slots := 0, locals := 44 }
abbrev rmX6_distance : Room := { frames := 1, cells := 0, slots := 0, locals := 20 }
abbrev rmX6_scored : Room := { frames := 2, cells := 0, slots := 0, locals := 42 }
abbrev rmX6_turnOf : Room := { frames := 1, cells := 0, slots := 0, locals := 20 }
abbrev rmX6_slotOf : Room := { frames := 2, cells := 0, slots := 0, locals := 42 }
abbrev rmX6_isShot : Room := { frames := 2, cells := 0, slots := 0, locals := 42 }
abbrev rmX6_throwsAt : Room := { frames := 1, cells := 0, slots := 0, locals := 20 }
abbrev rmX6_ends : Room := { frames := 3, cells := 0, slots := 0, locals := 67 }
abbrev rmX6_shoot : Room := { frames := 4, cells := 0, slots := 0, locals := 90 }
abbrev rmX6_tries : Room := { frames := 3, cells := 0, slots := 0, locals := 87 }
abbrev rmX6_isFree : Room := { frames := 1, cells := 0, slots := 0, locals := 20 }
abbrev rmX6_wanted : Room := { frames := 2, cells := 0, slots := 0, locals := 41 }
abbrev rmX6_begins : Room := { frames := 2, cells := 0, slots := 0, locals := 41 }
abbrev rmX6_passes : Room := { frames := 3, cells := 0, slots := 0, locals := 66 }
abbrev rmX6_pass : Room := { frames := 4, cells := 0, slots := 0, locals := 87 }
abbrev rmX6_hour : Room := { frames := 1, cells := 0, slots := 0, locals := 20 }
abbrev rmX6_ofSheet : Room := { frames := 3, cells := 0, slots := 0, locals := 62 }
abbrev rmX6_wear : Room := { frames := 3, cells := 0, slots := 0, locals := 62 }
abbrev rmX6_ofGame : Room := { frames := 3, cells := 0, slots := 0, locals := 63 }
abbrev rmX6_stone : Room := { frames := 3, cells := 0, slots := 0, locals := 63 }
abbrev rmX6_scoreOf : Room := { frames := 3, cells := 0, slots := 0, locals := 67 }
abbrev rmX6_wouldScore : Room := { frames := 4, cells := 0, slots := 0, locals := 89 }
abbrev rmX6_wouldScoreAnew : Room := { frames := 4, cells := 0, slots := 0, locals := 89 }
abbrev rmX6_worth : Room := { frames := 3, cells := 0, slots := 0, locals := 87 }
abbrev rmX6_advice : Room := { frames := 4, cells := 0, slots := 0, locals := 111 }
abbrev rmX6_average : Room := { frames := 1, cells := 0, slots := 0, locals := 20 }
abbrev rmX6_standing : Room := { frames := 2, cells := 0, slots := 0, locals := 42 }
abbrev rmX6_ofTeam : Room := { frames := 3, cells := 0, slots := 0, locals := 62 }
abbrev rmJ9_abs_0f7a4 : Room := { frames := 1, cells := 0, slots := 0, locals := 20 }
abbrev rmJ9_min_7cf53 : Room := { frames := 1, cells := 0, slots := 0, locals := 20 }
abbrev rmL_plan : Room := { frames := 9, cells := 0, slots := 0, locals := 165 }
abbrev rmL_crew : Room := { frames := 9, cells := 0, slots := 0, locals := 162 }
abbrev rmL_shoot : Room := { frames := 12, cells := 0, slots := 0, locals := 232 }
abbrev rmL_pass : Room := { frames := 12, cells := 0, slots := 0, locals := 230 }
abbrev rmL_ofSheet : Room := { frames := 10, cells := 0, slots := 0, locals := 185 }
abbrev rmL_wear : Room := { frames := 10, cells := 0, slots := 0, locals := 186 }
abbrev rmL_ofGame : Room := { frames := 10, cells := 0, slots := 0, locals := 185 }
abbrev rmL_stone : Room := { frames := 10, cells := 0, slots := 0, locals := 186 }
abbrev rmL_wouldScore : Room := { frames := 10, cells := 0, slots := 0, locals := 183 }
abbrev rmL_wouldScoreAnew : Room := { frames := 10, cells := 0, slots := 0, locals := 183 }
abbrev rmL_tries : Room := { frames := 10, cells := 0, slots := 0, locals := 189 }
abbrev rmL_advice : Room := { frames := 12, cells := 0, slots := 0, locals := 240 }
abbrev rmL_standing : Room := { frames := 12, cells := 0, slots := 0, locals := 232 }
abbrev rmL_ofTeam : Room := { frames := 10, cells := 0, slots := 0, locals := 185 }
abbrev rmL_law : Room := { frames := 13, cells := 0, slots := 0, locals := 269 }
