/-! the model's throw: ways one behind another -/
def hk_tend2 (L : Int → Int → Int) (y en : Int) (R : (Int → Int) × Int × Int × Int) : Prop :=
  hk_ok R.2.1 ∧ hk_w9 R.1 ∧ (R.2.2.1 = -1 ∨ ∃ xj yj, 0 ≤ xj ∧ xj ≤ 8 ∧ y < yj ∧ yj ≤ 60 ∧ L xj yj = R.2.2.1 ∧ (R.2.1 = -1 ∨ R.2.1 % 100 ≤ yj) ∧ 0 ≤ R.2.2.2 ∧ R.2.2.2 ≤ en)
theorem hk_rest_m {x y yj : Int} (hx : 0 ≤ x ∧ x ≤ 8) (hy : 0 ≤ y ∧ y ≤ 59) (h : y ≤ yj) : hk_rest x y = -1 ∨ hk_rest x y % 100 ≤ yj := by
  unfold hk_rest
  split
  · exact Or.inl rfl
  · right; omega
theorem hk_T_all2 (L : Int → Int → Int) (tn lo hi : Int) : ∀ (n : Nat) (W : Int → Int) (x y en sp : Int), hk_w9 W → 0 ≤ x ∧ x ≤ 8 → 0 ≤ y ∧ y ≤ 59 → 0 ≤ en → hk_tend2 L y en (hk_T L tn lo hi n W x y en sp)
  | 0, W, x, y, en, sp, hW, hx, hy, hen => ⟨Or.inl rfl, hW, Or.inl rfl⟩
  | n + 1, W, x, y, en, sp, hW, hx, hy, hen => by
    have hc := hk_cst_r (lo := lo) (hi := hi) (hW (x * 61 + (y + 1)))
    have hW2 := hk_w9_w hW (x * 61 + (y + 1))
    have lift : ∀ {x2 e2 s2 : Int}, 0 ≤ x2 ∧ x2 ≤ 8 → y + 1 ≤ 59 → 0 ≤ e2 → e2 ≤ en → hk_tend2 L y en (hk_T L tn lo hi n (hk_wW W (x * 61 + (y + 1))) x2 (y + 1) e2 s2) := by
      intro x2 e2 s2 h1 h2 h3 h4
      obtain ⟨q1, q2, q3⟩ := hk_T_all2 L tn lo hi n (hk_wW W (x * 61 + (y + 1))) x2 (y + 1) e2 s2 hW2 h1 ⟨by omega, h2⟩ h3
      refine ⟨q1, q2, ?_⟩
      rcases q3 with q3 | ⟨xj, yj, r1, r2, r3, r4, r5, r6, r7, r8⟩
      · exact Or.inl q3
      · exact Or.inr ⟨xj, yj, r1, r2, by omega, r4, r5, r6, r7, by omega⟩
    rw [hk_T]
    by_cases h1 : en < hk_cst W lo hi x (y + 1)
    · rw [if_pos h1]; exact ⟨hk_ok_rest hx hy, hW, Or.inl rfl⟩
    rw [if_neg h1]
    by_cases h2 : L x (y + 1) ≠ -1
    · rw [if_pos h2]
      have e := Int.tdiv_eq_ediv_of_nonneg (a := en * 3) (b := 4) (by omega)
      exact ⟨hk_ok_rest hx hy, hW, Or.inr ⟨x, y + 1, hx.1, hx.2, by omega, by omega, rfl, hk_rest_m hx hy (by omega), by show 0 ≤ (en * 3).tdiv 4; omega, by show (en * 3).tdiv 4 ≤ en; omega⟩⟩
    rw [if_neg h2]
    by_cases h3 : 60 ≤ y + 1
    · rw [if_pos h3]; exact ⟨Or.inl rfl, hW2, Or.inl rfl⟩
    rw [if_neg h3]
    by_cases h4 : tn = 0 ∨ (lo ≤ y + 1 ∧ y + 1 ≤ hi)
    · rw [if_pos h4]; exact lift hx (by omega) (by omega) (by omega)
    rw [if_neg h4]
    by_cases h5 : 12 ≤ sp + 1 ∨ (en - hk_cst W lo hi x (y + 1) < 300 ∧ 6 ≤ sp + 1)
    · rw [if_pos h5]
      by_cases h6 : ¬ (0 ≤ x + tn ∧ x + tn ≤ 8)
      · rw [if_pos h6]; exact ⟨Or.inl rfl, hW2, Or.inl rfl⟩
      rw [if_neg h6]
      by_cases h7 : L (x + tn) (y + 1) ≠ -1
      · rw [if_pos h7]
        have e := Int.tdiv_eq_ediv_of_nonneg (a := en - hk_cst W lo hi x (y + 1)) (b := 2) (by omega)
        exact ⟨hk_ok_rest hx (by omega), hW2, Or.inr ⟨x + tn, y + 1, by omega, by omega, by omega, by omega, rfl, hk_rest_m hx (by omega) (by omega), by show 0 ≤ (en - hk_cst W lo hi x (y + 1)).tdiv 2; omega, by show (en - hk_cst W lo hi x (y + 1)).tdiv 2 ≤ en; omega⟩⟩
      · rw [if_neg h7]; exact lift (by omega) (by omega) (by omega) (by omega)
    · rw [if_neg h5]; exact lift hx (by omega) (by omega) (by omega)
def hk_ct (f : Int → Int) (y : Int) : Nat → Nat
  | 0 => 0
  | n + 1 => hk_ct f y n + (if f n ≠ -1 ∧ y < f n % 100 then 1 else 0)
theorem hk_ct_le (f : Int → Int) (y : Int) : ∀ n, hk_ct f y n ≤ n
  | 0 => Nat.le_refl 0
  | n + 1 => by
    have h := hk_ct_le f y n
    unfold hk_ct
    split <;> omega
theorem hk_ct_sub {f g : Int → Int} {y y2 : Int} (h : ∀ i : Int, (g i ≠ -1 ∧ y2 < g i % 100) → (f i ≠ -1 ∧ y < f i % 100)) : ∀ n, hk_ct g y2 n ≤ hk_ct f y n
  | 0 => Nat.le_refl 0
  | n + 1 => by
    have q := hk_ct_sub h n
    have q2 := h n
    unfold hk_ct
    by_cases h1 : g n ≠ -1 ∧ y2 < g n % 100
    · rw [if_pos h1, if_pos (q2 h1)]; omega
    · rw [if_neg h1]; omega
theorem hk_ct_lt {f g : Int → Int} {y y2 j : Int} (h : ∀ i : Int, (g i ≠ -1 ∧ y2 < g i % 100) → (f i ≠ -1 ∧ y < f i % 100)) (h1 : f j ≠ -1 ∧ y < f j % 100) (h2 : ¬ (g j ≠ -1 ∧ y2 < g j % 100)) : ∀ n : Nat, 0 ≤ j → j < n → hk_ct g y2 n < hk_ct f y n
  | 0, h3, h4 => by omega
  | n + 1, h3, h4 => by
    have q := hk_ct_sub h n
    have q2 := h n
    unfold hk_ct
    by_cases e : j = n
    · subst e
      rw [if_neg h2, if_pos h1]; omega
    · have ih := hk_ct_lt h h1 h2 n h3 (by omega)
      by_cases h5 : g n ≠ -1 ∧ y2 < g n % 100
      · rw [if_pos h5, if_pos (q2 h5)]; omega
      · rw [if_neg h5]; omega
def hk_mR (W f : Int → Int) (mv x y en tn lo hi : Int) : (Int → Int) × Int × Int × Int := hk_T (hk_mst (hk_pt f mv (-1))) tn lo hi 60 W x y en 0
def hk_mf (W f : Int → Int) (mv x y en tn lo hi : Int) : Int → Int := hk_pt (hk_pt f mv (-1)) mv (hk_mR W f mv x y en tn lo hi).2.1
def hk_mch : Nat → (Int → Int) → (Int → Int) → Int → Int → Int → Int → Int → Int → Int → (Int → Int) × (Int → Int)
  | 0, W, f, _, _, _, _, _, _, _ => (W, f)
  | n + 1, W, f, mv, x, y, en, tn, lo, hi =>
    if (hk_mR W f mv x y en tn lo hi).2.2.1 = -1 then ((hk_mR W f mv x y en tn lo hi).1, hk_mf W f mv x y en tn lo hi)
    else hk_mch n (hk_mR W f mv x y en tn lo hi).1 (hk_mf W f mv x y en tn lo hi) (hk_mR W f mv x y en tn lo hi).2.2.1 ((hk_mf W f mv x y en tn lo hi (hk_mR W f mv x y en tn lo hi).2.2.1).tdiv 100) ((hk_mf W f mv x y en tn lo hi (hk_mR W f mv x y en tn lo hi).2.2.1).tmod 100) (hk_mR W f mv x y en tn lo hi).2.2.2 0 1 0
theorem hk_last_in (f : Int → Int) (p : Int) : ∀ n, hk_last f p n ≠ -1 → 0 ≤ hk_last f p n ∧ hk_last f p n < n ∧ f (hk_last f p n) = p
  | 0, h => absurd rfl h
  | n + 1, h => by
    unfold hk_last at h ⊢
    by_cases h1 : f n = p
    · rw [if_pos h1]; exact ⟨by omega, by omega, h1⟩
    · rw [if_neg h1] at h ⊢
      have ih := hk_last_in f p n h
      exact ⟨ih.1, by omega, ih.2.2⟩
theorem hk_good_pm {f : Int → Int} (h : hk_good f) (n : Int) : hk_good (hk_pt f n (-1)) := hk_good_pt h n (Or.inl rfl)
/-- one way of the model's, with a hit: the next one lies there, and fewer lie behind him -/
theorem hk_mstep {W f : Int → Int} {mv x y en tn lo hi : Int} (hW : hk_w9 W) (hg : hk_good f) (hx : 0 ≤ x ∧ x ≤ 8) (hy : 0 ≤ y ∧ y ≤ 59) (hen : 0 ≤ en ∧ en ≤ 1000) (hh : (hk_mR W f mv x y en tn lo hi).2.2.1 ≠ -1) :
    ∃ xj yj, 0 ≤ xj ∧ xj ≤ 8 ∧ y < yj ∧ 30 ≤ yj ∧ yj ≤ 59 ∧ (0 ≤ (hk_mR W f mv x y en tn lo hi).2.2.1 ∧ (hk_mR W f mv x y en tn lo hi).2.2.1 < 6) ∧ (hk_mR W f mv x y en tn lo hi).2.2.1 ≠ mv ∧ hk_mf W f mv x y en tn lo hi (hk_mR W f mv x y en tn lo hi).2.2.1 = 100 * xj + yj ∧ (hk_mf W f mv x y en tn lo hi (hk_mR W f mv x y en tn lo hi).2.2.1).tdiv 100 = xj ∧ (hk_mf W f mv x y en tn lo hi (hk_mR W f mv x y en tn lo hi).2.2.1).tmod 100 = yj ∧ (0 ≤ (hk_mR W f mv x y en tn lo hi).2.2.2 ∧ (hk_mR W f mv x y en tn lo hi).2.2.2 ≤ 1000) ∧ hk_ct (hk_pt (hk_mf W f mv x y en tn lo hi) (hk_mR W f mv x y en tn lo hi).2.2.1 (-1)) yj 6 < hk_ct (hk_pt f mv (-1)) y 6 := by
  have h := hk_T_all2 (hk_mst (hk_pt f mv (-1))) tn lo hi 60 W x y en 0 hW hx hy hen.1
  rw [show hk_T (hk_mst (hk_pt f mv (-1))) tn lo hi 60 W x y en 0 = hk_mR W f mv x y en tn lo hi from rfl] at h
  obtain ⟨h1, h2, h3⟩ := h
  obtain ⟨xj, yj, r1, r2, r3, r4, r5, r6, r7, r8⟩ := h3.resolve_left hh
  have q := hk_last_in (hk_pt f mv (-1)) (100 * xj + yj) 6 (by rw [show hk_last (hk_pt f mv (-1)) (100 * xj + yj) 6 = hk_mst (hk_pt f mv (-1)) xj yj from rfl, r5]; exact hh)
  rw [show hk_last (hk_pt f mv (-1)) (100 * xj + yj) 6 = hk_mst (hk_pt f mv (-1)) xj yj from rfl, r5] at q
  have ho := hk_good_pm hg mv _ q.1 q.2.1
  have hne : (hk_mR W f mv x y en tn lo hi).2.2.1 ≠ mv := by
    intro e
    have q3 := q.2.2
    rw [e] at q3
    unfold hk_pt at q3
    rw [if_pos rfl] at q3
    omega
  have hyj : 30 ≤ yj ∧ yj ≤ 59 := by
    unfold hk_ok at ho
    rw [q.2.2] at ho
    omega
  have hmf : hk_mf W f mv x y en tn lo hi (hk_mR W f mv x y en tn lo hi).2.2.1 = 100 * xj + yj := by
    unfold hk_mf
    rw [hk_pt, if_neg hne]
    exact q.2.2
  have hd := hk_div (100 * xj + yj) (by omega)
  refine ⟨xj, yj, r1, r2, r3, hyj.1, hyj.2, ⟨q.1, by have := q.2.1; omega⟩, hne, hmf, by rw [hmf, hd.1]; omega, by rw [hmf, hd.2]; omega, ⟨r7, by omega⟩, ?_⟩
  refine hk_ct_lt (j := (hk_mR W f mv x y en tn lo hi).2.2.1) (fun i hi2 => ?_) ?_ ?_ 6 q.1 (by have := q.2.1; omega)
  · by_cases e1 : i = (hk_mR W f mv x y en tn lo hi).2.2.1
    · rw [hk_pt, if_pos e1] at hi2; exact absurd rfl hi2.1
    · rw [hk_pt, if_neg e1] at hi2
      by_cases e2 : i = mv
      · unfold hk_mf at hi2
        rw [hk_pt, if_pos e2] at hi2
        rcases r6 with r6 | r6
        · exact absurd r6 hi2.1
        · omega
      · unfold hk_mf at hi2
        rw [hk_pt, if_neg e2] at hi2
        exact ⟨hi2.1, by omega⟩
  · rw [q.2.2]; constructor <;> omega
  · rw [hk_pt, if_pos rfl]; exact fun z => z.1 rfl
/-- the inner loop's state -/
def hk_fin (R : (Int → Int) × Int × Int × Int) (W : Int → Int) (x y nx gv go : Int) : Prop := R.1 = W ∧ R.2.1 = (if go = 0 then hk_rest x y else -1) ∧ R.2.2.1 = nx ∧ (nx ≠ -1 → gv = R.2.2.2) ∧ (0 ≤ x ∧ x ≤ 8) ∧ (0 ≤ y ∧ y ≤ 60)
def hk_in (R : (Int → Int) × Int × Int × Int) (L : Int → Int → Int) (tn lo hi : Int) (W : Int → Int) (x y en st nx gv go mo : Int) : Prop :=
  (mo = 1 ∧ nx = -1 ∧ go = 0 ∧ (0 ≤ x ∧ x ≤ 8) ∧ (0 ≤ y ∧ y ≤ 59) ∧ (0 ≤ en ∧ en ≤ 100000) ∧ (0 ≤ st ∧ st ≤ y) ∧ ∃ (sp : Int) (n : Nat), hk_T L tn lo hi n W x y en sp = R ∧ 60 - y ≤ n ∧ (tn ≠ 0 → sp = st)) ∨ (mo = 0 ∧ hk_fin R W x y nx gv go)
theorem hk_fin0 {R : (Int → Int) × Int × Int × Int} {W : Int → Int} {x y ht gv gv2 go : Int} (h : (W, hk_rest x y, ht, gv) = R) (hg : go = 0) (h2 : ht ≠ -1 → gv2 = gv) (hx : 0 ≤ x ∧ x ≤ 8) (hy : 0 ≤ y ∧ y ≤ 60) : hk_fin R W x y ht gv2 go := by
  subst h
  exact ⟨rfl, by rw [if_pos hg], rfl, h2, hx, hy⟩
theorem hk_fin1 {R : (Int → Int) × Int × Int × Int} {W : Int → Int} {x y nx gv2 go : Int} (h : (W, (-1 : Int), (-1 : Int), (0 : Int)) = R) (hg : go ≠ 0) (hn : nx = -1) (hx : 0 ≤ x ∧ x ≤ 8) (hy : 0 ≤ y ∧ y ≤ 60) : hk_fin R W x y nx gv2 go := by
  subst h
  exact ⟨rfl, by rw [if_neg hg], hn.symm, fun q => absurd hn q, hx, hy⟩
theorem hk_ww_row {M : jm_M} {c z : Int} (h : (9 ≤ M 324 c ∧ z = 0) ∨ (¬ 9 ≤ M 324 c ∧ z = 1)) : jm_up M 324 c (M 324 c + z) 324 = hk_wW (M 324) c := by
  funext b
  unfold hk_wW
  by_cases hb : b = c
  · subst hb
    rw [jm_up_s]
    rcases h with ⟨h1, h2⟩ | ⟨h1, h2⟩
    · rw [if_neg (by omega)]; omega
    · rw [if_pos ⟨rfl, by omega⟩]; omega
  · rw [jm_up_n (Or.inr hb), if_neg (fun q => hb q.1)]
