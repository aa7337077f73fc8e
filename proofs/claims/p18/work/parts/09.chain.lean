/-! CHAINS: a stone that is hit goes on -/
def hk_ok (p : Int) : Prop := p = -1 ∨ (30 ≤ p ∧ p ≤ 859 ∧ 30 ≤ p % 100 ∧ p % 100 ≤ 59)
def hk_good (f : Int → Int) : Prop := ∀ i, 0 ≤ i → i < 6 → hk_ok (f i)
def hk_w9 (W : Int → Int) : Prop := ∀ c, 0 ≤ W c ∧ W c ≤ 9
theorem hk_w9_w {W : Int → Int} (h : hk_w9 W) (c : Int) : hk_w9 (hk_wW W c) := fun b => by
  have h1 := h b
  have h2 := h c
  unfold hk_wW
  split <;> omega
theorem hk_ok_rest {x y : Int} (hx : 0 ≤ x ∧ x ≤ 8) (hy : 0 ≤ y ∧ y ≤ 59) : hk_ok (hk_rest x y) := by
  unfold hk_rest hk_ok
  split
  · exact Or.inl rfl
  · right; omega
theorem hk_agr_rf (W : Int → Int) (y : Int) : hk_agr W W y := fun _ _ _ _ _ _ => rfl
theorem hk_agr_up {U W : Int → Int} {y y' : Int} (h : hk_agr U W y) (hy : y ≤ y') : hk_agr U W y' := fun a b h1 h2 h3 h4 => h a b h1 h2 (by omega) h4
theorem hk_agr_tr {U V W : Int → Int} {y : Int} (h : hk_agr U V y) (h2 : hk_agr V W y) : hk_agr U W y := fun a b q1 q2 q3 q4 => (h a b q1 q2 q3 q4).trans (h2 a b q1 q2 q3 q4)
theorem hk_agr_w (W : Int → Int) {ln y : Int} (hl : 0 ≤ ln ∧ ln ≤ 8) (hy : 0 ≤ y ∧ y ≤ 59) : hk_agr (hk_wW W (ln * 61 + (y + 1))) W (y + 1) := by
  intro x' y' hx hx2 hy1 hy2
  have hne : ¬ x' * 61 + y' = ln * 61 + (y + 1) := by omega
  unfold hk_wW
  rw [if_neg (fun q => hne q.1)]
/-- what a way's end has: the place is one, who is hit lies there, no cell behind him is worn -/
def hk_tend (L : Int → Int → Int) (W : Int → Int) (y en : Int) (R : (Int → Int) × Int × Int × Int) : Prop :=
  hk_ok R.2.1 ∧ hk_w9 R.1 ∧ (R.2.2.1 = -1 ∨ ∃ xj yj, 0 ≤ xj ∧ xj ≤ 8 ∧ y < yj ∧ yj ≤ 60 ∧ L xj yj = R.2.2.1 ∧ hk_agr R.1 W yj ∧ 0 ≤ R.2.2.2 ∧ R.2.2.2 ≤ en)
theorem hk_T_all (L : Int → Int → Int) (tn lo hi : Int) : ∀ (n : Nat) (W : Int → Int) (x y en sp : Int), hk_w9 W → 0 ≤ x ∧ x ≤ 8 → 0 ≤ y ∧ y ≤ 59 → 0 ≤ en → hk_tend L W y en (hk_T L tn lo hi n W x y en sp)
  | 0, W, x, y, en, sp, hW, hx, hy, hen => ⟨Or.inl rfl, hW, Or.inl rfl⟩
  | n + 1, W, x, y, en, sp, hW, hx, hy, hen => by
    have hc := hk_cst_r (lo := lo) (hi := hi) (hW (x * 61 + (y + 1)))
    have hW2 := hk_w9_w hW (x * 61 + (y + 1))
    have hag := hk_agr_w W hx hy
    have lift : ∀ {x2 e2 s2 : Int}, 0 ≤ x2 ∧ x2 ≤ 8 → y + 1 ≤ 59 → 0 ≤ e2 → e2 ≤ en → hk_tend L W y en (hk_T L tn lo hi n (hk_wW W (x * 61 + (y + 1))) x2 (y + 1) e2 s2) := by
      intro x2 e2 s2 h1 h2 h3 h4
      obtain ⟨q1, q2, q3⟩ := hk_T_all L tn lo hi n (hk_wW W (x * 61 + (y + 1))) x2 (y + 1) e2 s2 hW2 h1 ⟨by omega, h2⟩ h3
      refine ⟨q1, q2, ?_⟩
      rcases q3 with q3 | ⟨xj, yj, r1, r2, r3, r4, r5, r6, r7, r8⟩
      · exact Or.inl q3
      · exact Or.inr ⟨xj, yj, r1, r2, by omega, r4, r5, hk_agr_tr r6 (hk_agr_up hag (by omega)), r7, by omega⟩
    rw [hk_T]
    by_cases h1 : en < hk_cst W lo hi x (y + 1)
    · rw [if_pos h1]; exact ⟨hk_ok_rest hx hy, hW, Or.inl rfl⟩
    rw [if_neg h1]
    by_cases h2 : L x (y + 1) ≠ -1
    · rw [if_pos h2]
      have e := Int.tdiv_eq_ediv_of_nonneg (a := en * 3) (b := 4) (by omega)
      exact ⟨hk_ok_rest hx hy, hW, Or.inr ⟨x, y + 1, hx.1, hx.2, by omega, by omega, rfl, hk_agr_rf W _, by show 0 ≤ (en * 3).tdiv 4; omega, by show (en * 3).tdiv 4 ≤ en; omega⟩⟩
    rw [if_neg h2]
    by_cases h3 : 60 ≤ y + 1
    · rw [if_pos h3]; exact ⟨Or.inl rfl, hW2, Or.inl rfl⟩
    rw [if_neg h3]
    by_cases h4 : tn = 0 ∨ (lo ≤ y + 1 ∧ y + 1 ≤ hi)
    · rw [if_pos h4]; exact lift hx (by omega) (by omega) (by omega)
    rw [if_neg h4]
    by_cases h5 : 12 ≤ sp + 1 ∨ (en - hk_cst W lo hi x (y + 1) < 300 ∧ 6 ≤ sp + 1)
    · rw [if_pos h5]
      by_cases h6 : ¬ (0 ≤ x + tn ∧ x + tn ≤ 8)
      · rw [if_pos h6]; exact ⟨Or.inl rfl, hW2, Or.inl rfl⟩
      rw [if_neg h6]
      by_cases h7 : L (x + tn) (y + 1) ≠ -1
      · rw [if_pos h7]
        have e := Int.tdiv_eq_ediv_of_nonneg (a := en - hk_cst W lo hi x (y + 1)) (b := 2) (by omega)
        exact ⟨hk_ok_rest hx (by omega), hW2, Or.inr ⟨x + tn, y + 1, by omega, by omega, by omega, by omega, rfl, hag, by show 0 ≤ (en - hk_cst W lo hi x (y + 1)).tdiv 2; omega, by show (en - hk_cst W lo hi x (y + 1)).tdiv 2 ≤ en; omega⟩⟩
      · rw [if_neg h7]; exact lift (by omega) (by omega) (by omega) (by omega)
    · rw [if_neg h5]; exact lift hx (by omega) (by omega) (by omega)
theorem hk_first_in (f : Int → Int) (p : Int) : ∀ (n : Nat) (i : Int), hk_first f p n i ≠ -1 → i ≤ hk_first f p n i ∧ hk_first f p n i < i + n ∧ f (hk_first f p n i) = p
  | 0, _, h => absurd rfl h
  | n + 1, i, h => by
    unfold hk_first at h ⊢
    by_cases h1 : f i = p
    · rw [if_pos h1]; exact ⟨by omega, by omega, h1⟩
    · rw [if_neg h1] at h ⊢
      have ih := hk_first_in f p n (i + 1) h
      exact ⟨by omega, by omega, ih.2.2⟩
theorem hk_lie_in {f : Int → Int} {x y : Int} (h : hk_lie f x y ≠ -1) : 30 ≤ y ∧ 0 ≤ hk_lie f x y ∧ hk_lie f x y < 6 ∧ f (hk_lie f x y) = 100 * x + y := by
  unfold hk_lie at h ⊢
  by_cases h1 : y < 30
  · rw [if_pos h1] at h; exact absurd rfl h
  · rw [if_neg h1] at h ⊢
    have q := hk_first_in f (100 * x + y) 6 0 h
    exact ⟨by omega, q.1, q.2.1, q.2.2⟩
def hk_pt (f : Int → Int) (n v : Int) : Int → Int := fun b => if b = n then v else f b
theorem hk_good_pt {f : Int → Int} (h : hk_good f) (n : Int) {v : Int} (hv : hk_ok v) : hk_good (hk_pt f n v) := fun i h1 h2 => by
  unfold hk_pt
  split
  · exact hv
  · exact h i h1 h2
def hk_chain : Nat → (Int → Int) → (Int → Int) → Int → Int → (Int → Int) × (Int → Int)
  | 0, W, f, _, _ => (W, f)
  | n + 1, W, f, ht, gv =>
    if ht = -1 then (W, f)
    else hk_chain n (hk_T (hk_lie f) 0 1 0 60 W ((hk_at f ht).tdiv 100) ((hk_at f ht).tmod 100) gv 0).1 (hk_pt f ht (hk_T (hk_lie f) 0 1 0 60 W ((hk_at f ht).tdiv 100) ((hk_at f ht).tmod 100) gv 0).2.1) (hk_T (hk_lie f) 0 1 0 60 W ((hk_at f ht).tdiv 100) ((hk_at f ht).tmod 100) gv 0).2.2.1 (hk_T (hk_lie f) 0 1 0 60 W ((hk_at f ht).tdiv 100) ((hk_at f ht).tmod 100) gv 0).2.2.2
/-- a hit: nobody, or one who lies on the sheet, with cells behind him as they were -/
def hk_hit (f : Int → Int) (U W : Int → Int) (ht gv : Int) : Prop := ht = -1 ∨ (0 ≤ ht ∧ ht < 6 ∧ 0 ≤ gv ∧ gv ≤ 1000 ∧ ∃ xj yj, 0 ≤ xj ∧ xj ≤ 8 ∧ 30 ≤ yj ∧ yj ≤ 59 ∧ f ht = 100 * xj + yj ∧ hk_agr U W yj)
theorem hk_hit_of {f : Int → Int} {U W : Int → Int} {y en n : Int} {R : (Int → Int) × Int × Int × Int} (hg : hk_good f) (h : hk_tend (hk_lie f) W y en R) (hen : en ≤ 1000) (hU : ∀ yj, y < yj → hk_agr R.1 W yj → hk_agr U R.1 yj) (hn : ∀ xj yj, y < yj → f n = 100 * xj + yj → 0 ≤ xj → xj ≤ 8 → 30 ≤ yj → yj ≤ 59 → R.2.2.1 = n → False) (v : Int) : hk_hit (hk_pt f n v) U R.1 R.2.2.1 R.2.2.2 := by
  obtain ⟨h1, h2, h3⟩ := h
  rcases h3 with h3 | ⟨xj, yj, r1, r2, r3, r4, r5, r6, r7, r8⟩
  · exact Or.inl h3
  · by_cases h0 : R.2.2.1 = -1
    · exact Or.inl h0
    · have q := hk_lie_in (f := f) (x := xj) (y := yj) (by rw [r5]; exact h0)
      rw [r5] at q
      have ho := hg R.2.2.1 q.2.1 q.2.2.1
      have hyj : yj ≤ 59 := by
        unfold hk_ok at ho
        rw [q.2.2.2] at ho
        omega
      have hne : R.2.2.1 ≠ n := fun e => hn xj yj r3 (by rw [← e]; exact q.2.2.2) r1 r2 q.1 hyj e
      refine Or.inr ⟨q.2.1, q.2.2.1, r7, by omega, xj, yj, r1, r2, q.1, hyj, ?_, hU yj r3 r6⟩
      unfold hk_pt
      rw [if_neg hne]
      exact q.2.2.2
theorem hk_T_agr (L : Int → Int → Int) (tn lo hi : Int) : ∀ (n : Nat) (U W : Int → Int) (x y en sp : Int), hk_agr U W y → 0 ≤ x ∧ x ≤ 8 → 0 ≤ y ∧ y ≤ 59 → (hk_T L tn lo hi n U x y en sp).2 = (hk_T L tn lo hi n W x y en sp).2
  | 0, U, W, x, y, en, sp, h, hx, hy => rfl
  | n + 1, U, W, x, y, en, sp, h, hx, hy => by
    have hU := h x (y + 1) hx.1 hx.2 (by omega) (by omega)
    have hc : hk_cst U lo hi x (y + 1) = hk_cst W lo hi x (y + 1) := hk_cst_e hU
    have hag : hk_agr (hk_wW U (x * 61 + (y + 1))) (hk_wW W (x * 61 + (y + 1))) (y + 1) := by
      intro x' y' h1 h2 h3 h4
      have hne : ¬ x' * 61 + y' = x * 61 + (y + 1) := by omega
      unfold hk_wW
      rw [if_neg (fun q => hne q.1), if_neg (fun q => hne q.1)]
      exact h x' y' h1 h2 (by omega) h4
    rw [hk_T, hk_T, hc]
    by_cases h1 : en < hk_cst W lo hi x (y + 1)
    · rw [if_pos h1, if_pos h1]
    rw [if_neg h1, if_neg h1]
    by_cases h2 : L x (y + 1) ≠ -1
    · rw [if_pos h2, if_pos h2]
    rw [if_neg h2, if_neg h2]
    by_cases h3 : 60 ≤ y + 1
    · rw [if_pos h3, if_pos h3]
    rw [if_neg h3, if_neg h3]
    by_cases h4 : tn = 0 ∨ (lo ≤ y + 1 ∧ y + 1 ≤ hi)
    · rw [if_pos h4, if_pos h4]; exact hk_T_agr L tn lo hi n _ _ _ _ _ _ hag hx (by omega)
    rw [if_neg h4, if_neg h4]
    by_cases h5 : 12 ≤ sp + 1 ∨ (en - hk_cst W lo hi x (y + 1) < 300 ∧ 6 ≤ sp + 1)
    · rw [if_pos h5, if_pos h5]
      by_cases h6 : ¬ (0 ≤ x + tn ∧ x + tn ≤ 8)
      · rw [if_pos h6, if_pos h6]
      rw [if_neg h6, if_neg h6]
      by_cases h7 : L (x + tn) (y + 1) ≠ -1
      · rw [if_pos h7, if_pos h7]
      · rw [if_neg h7, if_neg h7]; exact hk_T_agr L tn lo hi n _ _ _ _ _ _ hag (by omega) (by omega)
    · rw [if_neg h5, if_neg h5]; exact hk_T_agr L tn lo hi n _ _ _ _ _ _ hag hx (by omega)
theorem hk_gp_conv {I : jm_M} {k ks : Int} {R R2 : (Int → Int) × Int × Int × Int} {I' : jm_M} {z : Int} (h : hk_gpost I k ks R I' z) (h2 : R.2 = R2.2) (h1 : I k 1 ≠ 0 → R.1 = R2.1) : hk_gpost I k ks R2 I' z := by
  obtain ⟨Iv, ln, y, en, sp, e1, e2, e3, e4⟩ := h
  rw [h2] at e1 e2 e3
  exact ⟨Iv, ln, y, en, sp, e1, e2, e3, e4.1, e4.2.1, fun q => (e4.2.2.1 q).trans (h1 q), e4.2.2.2⟩
/-- the maps while stones run: the slide, its stones, the sheet's wear may differ from I -/
def hk_rrel (I : jm_M) (k ks wv : Int) (f W : Int → Int) (ht gv : Int) (M : jm_M) : Prop := (∀ a, a ≠ k → a ≠ k + 100 + 100 → a ≠ ks + 100 → M a = I a) ∧ M k 1 = wv ∧ M (k + 100 + 100) = f ∧ M k 9 = ht ∧ (ht ≠ -1 → M k 4 = gv) ∧ (-1 ≤ M k 5 ∧ M k 5 ≤ 1) ∧ hk_w9 (M (ks + 100)) ∧ (wv ≠ 0 → M (ks + 100) = W) ∧ (wv = 0 → M (ks + 100) = I (ks + 100)) ∧ hk_w9 W ∧ hk_good f ∧ hk_hit f (M (ks + 100)) W ht gv
/-- what is left when all lie still -/
def hk_rpost (I : jm_M) (k ks wv : Int) (R : (Int → Int) × (Int → Int)) (M : jm_M) : Prop := (∀ a, a ≠ k → a ≠ k + 100 + 100 → a ≠ ks + 100 → M a = I a) ∧ M (k + 100 + 100) = R.2 ∧ hk_w9 (M (ks + 100)) ∧ (wv ≠ 0 → M (ks + 100) = R.1) ∧ (wv = 0 → M (ks + 100) = I (ks + 100)) ∧ hk_good R.2 ∧ hk_w9 R.1
theorem hk_rrel_post {I M : jm_M} {k ks wv ht gv : Int} {f W : Int → Int} (h : hk_rrel I k ks wv f W ht gv M) : hk_rpost I k ks wv (W, f) M := ⟨h.1, h.2.2.1, h.2.2.2.2.2.2.1, h.2.2.2.2.2.2.2.1, h.2.2.2.2.2.2.2.2.1, h.2.2.2.2.2.2.2.2.2.2.1, h.2.2.2.2.2.2.2.2.2.1⟩
theorem hk_rrel_go {I M : jm_M} {k ks wv n z en y0 : Int} {f W : Int → Int} {R : (Int → Int) × Int × Int × Int} {Iv : jm_M} {ln y e2 sp : Int} (hk1 : k ≠ ks + 100) (hk2 : k + 100 + 100 ≠ ks + 100)
    (hM1 : ∀ a, a ≠ k → a ≠ k + 100 + 100 → a ≠ ks + 100 → M a = I a) (hM2 : M k 1 = wv) (hM3 : M (k + 100 + 100) = f) (hM5 : -1 ≤ M k 5 ∧ M k 5 ≤ 1) (hM7 : wv = 0 → M (ks + 100) = I (ks + 100)) (hag0 : hk_agr (M (ks + 100)) W y0) (hz : z = R.2.1) (hgv : R.2.2.1 ≠ -1 → e2 = R.2.2.2) (hrel : hk_rel M k ks Iv R.1) (hR : hk_tend (hk_lie f) W y0 en R) (hgood : hk_good f) (hen : en ≤ 1000)
    (hn : ∀ xj yj, y0 < yj → f n = 100 * xj + yj → 0 ≤ xj → xj ≤ 8 → 30 ≤ yj → yj ≤ 59 → R.2.2.1 = n → False) : hk_rrel I k ks wv (hk_pt f n z) R.1 R.2.2.1 R.2.2.2 (jm_up (hk_sl Iv k ln y e2 sp R.2.2.1) (k + 100 + 100) n z) := by
  obtain ⟨r1, r2, r3, r4⟩ := hrel
  have hne : k + 100 + 100 ≠ k := by omega
  have hIk : Iv k = M k := r1 k hk1
  have e1 : ∀ a, a ≠ k → a ≠ k + 100 + 100 → jm_up (hk_sl Iv k ln y e2 sp R.2.2.1) (k + 100 + 100) n z a = Iv a := fun a h1 h2 => by
    funext b
    rw [jm_up_n (Or.inl h2), hk_sl_go _ _ _ _ _ _ _ _ _ h1]
  have e2' : ∀ b, jm_up (hk_sl Iv k ln y e2 sp R.2.2.1) (k + 100 + 100) n z k b = hk_sl Iv k ln y e2 sp R.2.2.1 k b := fun b => jm_up_n (Or.inl (fun q => hne q.symm))
  have e3 : jm_up (hk_sl Iv k ln y e2 sp R.2.2.1) (k + 100 + 100) n z (ks + 100) = Iv (ks + 100) := e1 _ (fun q => hk1 q.symm) (fun q => hk2 q.symm)
  have hit : hk_hit (hk_pt f n z) (Iv (ks + 100)) R.1 R.2.2.1 R.2.2.2 := by
    refine hk_hit_of hgood hR hen (fun yj hyj hag => ?_) hn z
    by_cases hw1 : wv = 0
    · rw [r4 (by rw [hM2]; exact hw1)]
      exact fun a b z1 z2 z3 z4 => (hag0 a b z1 z2 (by omega) z4).trans (hag a b z1 z2 z3 z4).symm
    · rw [r3 (by rw [hM2]; exact hw1)]; exact hk_agr_rf _ _
  refine ⟨fun a h1 h2 h3 => by rw [e1 a h1 h2, r1 a h3, hM1 a h1 h2 h3], ?_, ?_, ?_, fun h => ?_, ?_, ?_, fun h => ?_, fun h => ?_, hR.2.1, ?_, ?_⟩
  · rw [e2', hk_sl_gk _ _ _ _ _ _ _ _ (by decide), hIk, hM2]
  · funext b
    unfold hk_pt
    by_cases hb : b = n
    · subst hb; rw [if_pos rfl, jm_up_s]
    · rw [if_neg hb, jm_up_n (Or.inr hb), hk_sl_go _ _ _ _ _ _ _ _ _ hne, r1 _ hk2, hM3]
  · rw [e2', hk_sl_g9]
  · rw [e2', hk_sl_g4]; exact hgv h
  · rw [e2', hk_sl_gk _ _ _ _ _ _ _ _ (by decide), hIk]; exact hM5
  · rw [e3]; exact r2
  · rw [e3]; exact r3 (by rw [hM2]; exact h)
  · rw [e3, r4 (by rw [hM2]; exact h)]; exact hM7 h
  · rw [hz]; exact hk_good_pt hgood n hR.1
  · rw [e3]; exact hit
def hk_F0 (I : jm_M) (k k2 : Int) : Int → Int := hk_fill I (k + 100 + 100) 6 (I (k2 + 100)) (k + 100 + 100)
def hk_R1 (I : jm_M) (k ks k2 : Int) : (Int → Int) × Int × Int × Int := hk_T (hk_lie (hk_F0 I k k2)) (I k 5) (I k 6) (I k 7) 60 (I (ks + 100)) (I k 2) (I k 3) (I k 4) 0
def hk_RR (I : jm_M) (k ks k2 n : Int) : (Int → Int) × (Int → Int) := hk_chain 6 (hk_R1 I k ks k2).1 (hk_pt (hk_F0 I k k2) n (hk_R1 I k ks k2).2.1) (hk_R1 I k ks k2).2.2.1 (hk_R1 I k ks k2).2.2.2
theorem hk_ok_R {p : Int} (h : hk_ok p) : jm_R p := by unfold hk_ok at h; unfold jm_R; omega
