/-! IN A MIRROR: places, stones, wear; a throw, its chain; scores; the sum of wear -/
def hk_mi (p : Int) : Int := if p < 0 then p else 800 - p / 100 * 100 + p % 100
def hk_mF (f g : Int → Int) : Prop := ∀ j, 0 ≤ j → j < 6 → g j = hk_mi (f j)
def hk_mW (W V : Int → Int) : Prop := ∀ x y, 0 ≤ x → x ≤ 8 → 0 ≤ y → y ≤ 60 → V ((8 - x) * 61 + y) = W (x * 61 + y)
theorem hk_mi_v {p : Int} (h0 : 0 ≤ p) (h1 : p / 100 ≤ 8) : 0 ≤ hk_mi p ∧ hk_mi p / 100 = 8 - p / 100 ∧ hk_mi p % 100 = p % 100 := by
  unfold hk_mi
  rw [if_neg (by omega)]
  omega
theorem hk_mi_ok {p : Int} (h : hk_ok p) : hk_ok (hk_mi p) ∧ hk_dist (hk_mi p) = hk_dist p := by
  rcases h with rfl | h
  · exact ⟨Or.inl (by decide), by decide⟩
  · have v := hk_mi_v (p := p) (by omega) (by omega)
    refine ⟨Or.inr (by omega), ?_⟩
    have e1 := hk_div p (by omega)
    have e2 := hk_div (hk_mi p) v.1
    unfold hk_dist
    rw [if_neg (by omega), if_neg (by omega), e1.1, e1.2, e2.1, e2.2, v.2.1, v.2.2]
    have e3 : hk_ab (8 - p / 100 - 4) = hk_ab (p / 100 - 4) := by unfold hk_ab; split <;> split <;> omega
    rw [e3]
theorem hk_m_at {f g : Int → Int} (h : hk_mF f g) (n : Int) : hk_at g n = hk_mi (hk_at f n) := by
  unfold hk_at
  by_cases q : 0 ≤ n ∧ n < 6
  · rw [if_pos q, if_pos q]; exact h n q.1 q.2
  · rw [if_neg q, if_neg q]; decide
theorem hk_m_da {f g : Int → Int} (h : hk_mF f g) (k : hk_good f) (n : Int) : hk_dist (hk_at g n) = hk_dist (hk_at f n) := by
  rw [hk_m_at h]
  refine (hk_mi_ok ?_).2
  unfold hk_at
  split
  · rename_i q; exact k n q.1 q.2
  · exact Or.inl rfl
theorem hk_m_near {f g : Int → Int} (h : hk_mF f g) (k : hk_good f) (s : Int) : ∀ n : Nat, hk_near g s n = hk_near f s n
  | 0 => rfl
  | n + 1 => by rw [hk_near, hk_near, hk_m_near h k s n, hk_m_da h k]
theorem hk_m_cntn {f g : Int → Int} (h : hk_mF f g) (k : hk_good f) (s l : Int) : ∀ n : Nat, hk_cntn g s l n = hk_cntn f s l n
  | 0 => rfl
  | n + 1 => by rw [hk_cntn, hk_cntn, hk_m_cntn h k s l n, hk_m_da h k]
theorem hk_m_score {f g : Int → Int} (h : hk_mF f g) (k : hk_good f) : hk_score g = hk_score f := by
  unfold hk_score
  rw [hk_m_near h k, hk_m_near h k, hk_m_cntn h k, hk_m_cntn h k]
theorem hk_m_one {f g : Int → Int} (h : hk_mF f g) (k : hk_good f) : ∀ n : Nat, hk_one g n = hk_one f n
  | 0 => rfl
  | n + 1 => by
    rw [hk_one, hk_one, hk_m_one h k n]
    unfold hk_onet
    rw [hk_m_da h k, hk_m_cntn h k]
theorem hk_m_first {f g : Int → Int} (h : hk_mF f g) (k : hk_good f) {x y : Int} (hx : 0 ≤ x ∧ x ≤ 8) (hy : 30 ≤ y ∧ y ≤ 60) : ∀ (n : Nat) (i : Int), 0 ≤ i → i + n ≤ 6 → hk_first g (100 * (8 - x) + y) n i = hk_first f (100 * x + y) n i
  | 0, _, _, _ => rfl
  | n + 1, i, h0, h1 => by
    have ih := hk_m_first h k hx hy n (i + 1) (by omega) (by omega)
    have o := k i h0 (by omega)
    have e := h i h0 (by omega)
    have q : g i = 100 * (8 - x) + y ↔ f i = 100 * x + y := by
      rw [e]
      unfold hk_mi
      unfold hk_ok at o
      split <;> omega
    rw [hk_first, hk_first, ih]
    by_cases c : f i = 100 * x + y
    · rw [if_pos c, if_pos (q.mpr c)]
    · rw [if_neg c, if_neg (fun z => c (q.mp z))]
theorem hk_m_lie {f g : Int → Int} (h : hk_mF f g) (k : hk_good f) {x y : Int} (hx : 0 ≤ x ∧ x ≤ 8) (hy : 0 ≤ y ∧ y ≤ 60) : hk_lie g (8 - x) y = hk_lie f x y := by
  unfold hk_lie
  by_cases c : y < 30
  · rw [if_pos c, if_pos c]
  · rw [if_neg c, if_neg c]; exact hk_m_first h k hx ⟨by omega, hy.2⟩ 6 0 (by omega) (by omega)
theorem hk_m_rest {x y : Int} (hx : 0 ≤ x ∧ x ≤ 8) (hy : 0 ≤ y ∧ y ≤ 60) : hk_rest (8 - x) y = hk_mi (hk_rest x y) := by
  unfold hk_rest hk_mi
  by_cases c : y < 30
  · rw [if_pos c, if_pos c]; decide
  · rw [if_neg c, if_neg c, if_neg (by omega)]; omega
theorem hk_m_wW {W V : Int → Int} (h : hk_mW W V) {x y : Int} (hx : 0 ≤ x ∧ x ≤ 8) (hy : 0 ≤ y ∧ y ≤ 60) : hk_mW (hk_wW W (x * 61 + y)) (hk_wW V ((8 - x) * 61 + y)) := by
  intro a b h1 h2 h3 h4
  unfold hk_wW
  have e := h x y hx.1 hx.2 hy.1 hy.2
  have e2 := h a b h1 h2 h3 h4
  rw [e, e2]
  by_cases c : a = x ∧ b = y
  · obtain ⟨rfl, rfl⟩ := c
    by_cases d : W (a * 61 + b) < 9
    · rw [if_pos ⟨rfl, d⟩, if_pos ⟨rfl, d⟩]
    · rw [if_neg (fun z => d z.2), if_neg (fun z => d z.2)]
  · rw [if_neg (fun z => c (by have := z.1; omega)), if_neg (fun z => c (by have := z.1; omega))]
def hk_mT (R S : (Int → Int) × Int × Int × Int) : Prop := hk_mW R.1 S.1 ∧ S.2.1 = hk_mi R.2.1 ∧ S.2.2 = R.2.2
theorem hk_m_T {f g : Int → Int} (h : hk_mF f g) (k : hk_good f) (tn lo hi : Int) (ht : -1 ≤ tn ∧ tn ≤ 1) : ∀ (n : Nat) (W V : Int → Int) (x y en sp : Int), hk_mW W V → 0 ≤ x ∧ x ≤ 8 → 0 ≤ y ∧ y ≤ 59 → hk_mT (hk_T (hk_lie f) tn lo hi n W x y en sp) (hk_T (hk_lie g) (-tn) lo hi n V (8 - x) y en sp)
  | 0, W, V, x, y, en, sp, hw, hx, hy => ⟨hw, by show (-1 : Int) = hk_mi (-1); decide, rfl⟩
  | n + 1, W, V, x, y, en, sp, hw, hx, hy => by
    have ec : hk_cst V lo hi (8 - x) (y + 1) = hk_cst W lo hi x (y + 1) := by
      unfold hk_cst
      rw [hw x (y + 1) hx.1 hx.2 (by omega) (by omega)]
    have el := hk_m_lie h k (x := x) (y := y + 1) hx (by omega)
    have ww := hk_m_wW hw hx (y := y + 1) (by omega)
    rw [hk_T, hk_T, ec, el]
    by_cases h1 : en < hk_cst W lo hi x (y + 1)
    · rw [if_pos h1, if_pos h1]; exact ⟨hw, hk_m_rest hx (by omega), rfl⟩
    rw [if_neg h1, if_neg h1]
    by_cases h2 : hk_lie f x (y + 1) ≠ -1
    · rw [if_pos h2, if_pos h2]; exact ⟨hw, hk_m_rest hx (by omega), rfl⟩
    rw [if_neg h2, if_neg h2]
    by_cases h3 : 60 ≤ y + 1
    · rw [if_pos h3, if_pos h3]; exact ⟨ww, by show (-1 : Int) = hk_mi (-1); decide, rfl⟩
    rw [if_neg h3, if_neg h3]
    by_cases h4 : tn = 0 ∨ (lo ≤ y + 1 ∧ y + 1 ≤ hi)
    · rw [if_pos h4, if_pos (show -tn = 0 ∨ (lo ≤ y + 1 ∧ y + 1 ≤ hi) by omega)]
      exact hk_m_T h k tn lo hi ht n _ _ x (y + 1) _ _ ww hx (by omega)
    rw [if_neg h4, if_neg (show ¬ (-tn = 0 ∨ (lo ≤ y + 1 ∧ y + 1 ≤ hi)) by omega)]
    by_cases h5 : 12 ≤ sp + 1 ∨ (en - hk_cst W lo hi x (y + 1) < 300 ∧ 6 ≤ sp + 1)
    · rw [if_pos h5, if_pos h5]
      have e8 : 8 - x + -tn = 8 - (x + tn) := by omega
      rw [e8]
      by_cases h6 : ¬ (0 ≤ x + tn ∧ x + tn ≤ 8)
      · rw [if_pos h6, if_pos (show ¬ (0 ≤ 8 - (x + tn) ∧ 8 - (x + tn) ≤ 8) by omega)]; exact ⟨ww, by show (-1 : Int) = hk_mi (-1); decide, rfl⟩
      have el2 := hk_m_lie h k (x := x + tn) (y := y + 1) (by omega) (by omega)
      rw [if_neg h6, if_neg (show ¬ ¬ (0 ≤ 8 - (x + tn) ∧ 8 - (x + tn) ≤ 8) by omega), el2]
      by_cases h7 : hk_lie f (x + tn) (y + 1) ≠ -1
      · rw [if_pos h7, if_pos h7]; exact ⟨ww, hk_m_rest hx (by omega), rfl⟩
      · rw [if_neg h7, if_neg h7]; exact hk_m_T h k tn lo hi ht n _ _ (x + tn) (y + 1) _ _ ww (by omega) (by omega)
    · rw [if_neg h5, if_neg h5]; exact hk_m_T h k tn lo hi ht n _ _ x (y + 1) _ _ ww hx (by omega)
theorem hk_m_pt {f g : Int → Int} (h : hk_mF f g) (n v : Int) : hk_mF (hk_pt f n v) (hk_pt g n (hk_mi v)) := fun j h0 h1 => by
  unfold hk_pt
  split
  · rfl
  · exact h j h0 h1
/-- whom a stone hits: one who lies on the sheet, and not the one who runs -/
def hk_mh (f : Int → Int) (ht gv : Int) : Prop := ht = -1 ∨ (0 ≤ ht ∧ ht < 6 ∧ f ht ≠ -1 ∧ 0 ≤ gv)
theorem hk_mh_of {f W : Int → Int} {y en n v : Int} {R : (Int → Int) × Int × Int × Int} (t : hk_tend (hk_lie f) W y en R) (hy : 0 ≤ y) (hn : f n = -1 ∨ f n % 100 = y) : hk_mh (hk_pt f n v) R.2.2.1 R.2.2.2 := by
  rcases t.2.2 with z | ⟨xj, yj, r1, r2, r3, r4, r5, r6, r7, r8⟩
  · exact Or.inl z
  · by_cases z : R.2.2.1 = -1
    · exact Or.inl z
    · have q := hk_lie_in (f := f) (x := xj) (y := yj) (by rw [r5]; exact z)
      rw [r5] at q
      refine Or.inr ⟨q.2.1, q.2.2.1, ?_, r7⟩
      have hne : R.2.2.1 ≠ n := fun e => by
        have e2 := q.2.2.2
        rw [e] at e2
        rw [e2] at hn
        omega
      unfold hk_pt
      rw [if_neg hne, q.2.2.2]
      omega
theorem hk_m_chain : ∀ (n : Nat) (W V f g : Int → Int) (ht gv : Int), hk_mW W V → hk_mF f g → hk_good f → hk_w9 W → hk_mh f ht gv → hk_mW (hk_chain n W f ht gv).1 (hk_chain n V g ht gv).1 ∧ hk_mF (hk_chain n W f ht gv).2 (hk_chain n V g ht gv).2
  | 0, W, V, f, g, ht, gv, hW, hF, hg, h9, hh => ⟨hW, hF⟩
  | n + 1, W, V, f, g, ht, gv, hW, hF, hg, h9, hh => by
    rw [hk_chain, hk_chain]
    by_cases e : ht = -1
    · rw [if_pos e, if_pos e]; exact ⟨hW, hF⟩
    rw [if_neg e, if_neg e]
    have q := hh.resolve_left e
    have o := (hg ht q.1 q.2.1).resolve_left q.2.2.1
    have a1 : hk_at f ht = f ht := if_pos ⟨q.1, q.2.1⟩
    have a2 : hk_at g ht = hk_mi (f ht) := by rw [hk_m_at hF, a1]
    have v := hk_mi_v (p := f ht) (by omega) (by omega)
    have d1 := hk_div (f ht) (by omega)
    have d2 := hk_div (hk_mi (f ht)) v.1
    rw [a1, a2, d1.1, d1.2, d2.1, d2.2, v.2.1, v.2.2]
    obtain ⟨R, hR⟩ : ∃ R, R = hk_T (hk_lie f) 0 1 0 60 W (f ht / 100) (f ht % 100) gv 0 := ⟨_, rfl⟩
    obtain ⟨S, hS⟩ : ∃ S, S = hk_T (hk_lie g) 0 1 0 60 V (8 - f ht / 100) (f ht % 100) gv 0 := ⟨_, rfl⟩
    have m : hk_mT R S := by
      have m0 := hk_m_T hF hg 0 1 0 (by omega) 60 W V (f ht / 100) (f ht % 100) gv 0 hW (by omega) (by omega)
      rw [hR, hS]
      exact m0
    have t : hk_tend (hk_lie f) W (f ht % 100) gv R := by rw [hR]; exact hk_T_all (hk_lie f) 0 1 0 60 W _ _ gv 0 h9 (by omega) (by omega) q.2.2.2
    rw [← hR, ← hS, m.2.2, m.2.1]
    exact hk_m_chain n _ _ _ _ _ _ m.1 (hk_m_pt hF ht _) (hk_good_pt hg ht t.1) t.2.1 (hk_mh_of t (by omega) (Or.inr rfl))
theorem hk_m_thr {W V f g : Int → Int} {n ln en tn : Int} (lo hi : Int) (hW : hk_mW W V) (hF : hk_mF f g) (hg : hk_good f) (h9 : hk_w9 W) (hn : f n = -1) (hl : 0 ≤ ln ∧ ln ≤ 8) (he : 0 ≤ en) (ht : -1 ≤ tn ∧ tn ≤ 1) : (hk_thr V g n (8 - ln) en (-tn) lo hi).1 = hk_mi (hk_thr W f n ln en tn lo hi).1 ∧ hk_mW (hk_thr W f n ln en tn lo hi).2.1 (hk_thr V g n (8 - ln) en (-tn) lo hi).2.1 ∧ hk_mF (hk_thr W f n ln en tn lo hi).2.2 (hk_thr V g n (8 - ln) en (-tn) lo hi).2.2 ∧ hk_ok (hk_thr W f n ln en tn lo hi).1 := by
  unfold hk_thr
  obtain ⟨R, hR⟩ : ∃ R, R = hk_T (hk_lie f) tn lo hi 60 W ln 0 en 0 := ⟨_, rfl⟩
  obtain ⟨S, hS⟩ : ∃ S, S = hk_T (hk_lie g) (-tn) lo hi 60 V (8 - ln) 0 en 0 := ⟨_, rfl⟩
  have m : hk_mT R S := by
    rw [hR, hS]
    exact hk_m_T hF hg tn lo hi ht 60 W V ln 0 en 0 hW hl (by omega)
  have t : hk_tend (hk_lie f) W 0 en R := by rw [hR]; exact hk_T_all (hk_lie f) tn lo hi 60 W ln 0 en 0 h9 hl (by omega) he
  rw [← hR, ← hS]
  show S.2.1 = hk_mi R.2.1 ∧ hk_mW (hk_chain 6 R.1 (hk_pt f n R.2.1) R.2.2.1 R.2.2.2).1 (hk_chain 6 S.1 (hk_pt g n S.2.1) S.2.2.1 S.2.2.2).1 ∧ hk_mF (hk_chain 6 R.1 (hk_pt f n R.2.1) R.2.2.1 R.2.2.2).2 (hk_chain 6 S.1 (hk_pt g n S.2.1) S.2.2.1 S.2.2.2).2 ∧ hk_ok R.2.1
  rw [m.2.2, m.2.1]
  have c := hk_m_chain 6 R.1 S.1 (hk_pt f n R.2.1) (hk_pt g n (hk_mi R.2.1)) R.2.2.1 R.2.2.2 m.1 (hk_m_pt hF n _) (hk_good_pt hg n t.1) t.2.1 (hk_mh_of t (by omega) (Or.inl hn))
  exact ⟨rfl, c.1, c.2, t.1⟩
-- the sum of all wear
theorem hk_sum_add (f : Int → Int) (m : Nat) : ∀ n : Nat, hk_sum f (m + n) = hk_sum f m + hk_sum (fun k => f (m + k)) n
  | 0 => by show hk_sum f m = hk_sum f m + 0; omega
  | n + 1 => by
    have ih := hk_sum_add f m n
    show hk_sum f (m + n) + f ((m + n : Nat) : Int) = hk_sum f m + (hk_sum (fun k => f (m + k)) n + f (m + n))
    rw [ih, show ((m + n : Nat) : Int) = (m : Int) + (n : Int) by omega]
    omega
theorem hk_sum_cg {f g : Int → Int} : ∀ n : Nat, (∀ k : Nat, k < n → f k = g k) → hk_sum f n = hk_sum g n
  | 0, _ => rfl
  | n + 1, h => by rw [hk_sum, hk_sum, hk_sum_cg n (fun k hk => h k (by omega)), h n (by omega)]
def hk_row1 (f : Int → Int) (m : Nat) : Int := hk_sum (fun k => f ((m : Int) * 61 + k)) 61
def hk_rws (f : Int → Int) : Nat → Int
  | 0 => 0
  | m + 1 => hk_rws f m + hk_row1 f m
theorem hk_sum_rws (f : Int → Int) : ∀ m : Nat, hk_sum f (61 * m) = hk_rws f m
  | 0 => rfl
  | m + 1 => by
    rw [show 61 * (m + 1) = 61 * m + 61 by omega, hk_sum_add, hk_sum_rws f m, hk_rws]
    have e : (fun k : Int => f (((61 * m : Nat) : Int) + k)) = fun k => f ((m : Int) * 61 + k) := by
      funext k
      rw [show ((61 * m : Nat) : Int) = (m : Int) * 61 by omega]
    rw [e]
    rfl
theorem hk_m_row {W V : Int → Int} (h : hk_mW W V) {i j : Nat} (hij : i + j = 8) : hk_row1 V i = hk_row1 W j := by
  refine hk_sum_cg 61 (fun k hk => ?_)
  have e := h j k (by omega) (by omega) (by omega) (by omega)
  rw [show (8 - (j : Int)) = (i : Int) by omega] at e
  exact e
theorem hk_m_sum {W V : Int → Int} (h : hk_mW W V) : hk_sum V 549 = hk_sum W 549 := by
  have e1 := hk_sum_rws V 9
  have e2 := hk_sum_rws W 9
  have r0 := hk_m_row h (i := 0) (j := 8) rfl
  have r1 := hk_m_row h (i := 1) (j := 7) rfl
  have r2 := hk_m_row h (i := 2) (j := 6) rfl
  have r3 := hk_m_row h (i := 3) (j := 5) rfl
  have r4 := hk_m_row h (i := 4) (j := 4) rfl
  have r5 := hk_m_row h (i := 5) (j := 3) rfl
  have r6 := hk_m_row h (i := 6) (j := 2) rfl
  have r7 := hk_m_row h (i := 7) (j := 1) rfl
  have r8 := hk_m_row h (i := 8) (j := 0) rfl
  rw [show 61 * 9 = 549 from rfl] at e1 e2
  rw [e1, e2]
  simp only [hk_rws]
  omega
