/-! THE MODEL: its node is 300, its rows 300 and the field's place further -/
def hk_dis (p : Int) : Int := if p = -1 then 1000 else 2 * hk_ab (p.tdiv 100 - 4) + hk_ab (p.tmod 100 - 50)
def hk_last (f : Int → Int) (p : Int) : Nat → Int
  | 0 => -1
  | n + 1 => if f n = p then (n : Int) else hk_last f p n
def hk_mst (f : Int → Int) (x y : Int) : Int := hk_last f (100 * x + y) 6
theorem hk_last_r (f : Int → Int) (p : Int) : ∀ n, -1 ≤ hk_last f p n ∧ hk_last f p n < n
  | 0 => ⟨by unfold hk_last; omega, by unfold hk_last; omega⟩
  | n + 1 => by
    have h := hk_last_r f p n
    unfold hk_last
    split <;> omega
def hk_on (f : Int → Int) : Nat → Int
  | 0 => 11
  | n + 1 => if (n : Int) < 3 ∧ hk_dis (f n) < hk_on f n then hk_dis (f n) else hk_on f n
def hk_tw (f : Int → Int) : Nat → Int
  | 0 => 11
  | n + 1 => if 3 ≤ (n : Int) ∧ hk_dis (f n) < hk_tw f n then hk_dis (f n) else hk_tw f n
def hk_nn (f : Int → Int) (a b : Int) : Nat → Int
  | 0 => 0
  | n + 1 => hk_nn f a b n + (if a < b ∧ (n : Int) < 3 ∧ hk_dis (f n) < b then 1 else 0) - (if b < a ∧ 3 ≤ (n : Int) ∧ hk_dis (f n) < a then 1 else 0)
def hk_scd (f : Int → Int) : Int := hk_nn f (hk_on f 6) (hk_tw f 6) 6
theorem hk_dis_R {p : Int} (h : jm_R p) : 0 ≤ hk_dis p ∧ hk_dis p ≤ 200000000 := by
  unfold hk_dis
  split
  · omega
  · have e1 : -21474837 ≤ p.tdiv 100 ∧ p.tdiv 100 ≤ 21474837 := by
      rcases Int.le_total 0 p with q | q
      · rw [Int.tdiv_eq_ediv_of_nonneg q]; omega
      · have e : p.tdiv 100 = -((-p).tdiv 100) := by rw [Int.neg_tdiv, Int.neg_neg]
        rw [e, Int.tdiv_eq_ediv_of_nonneg (by omega)]; omega
    have e2 : -100 < p.tmod 100 ∧ p.tmod 100 < 100 := ⟨Int.lt_tmod_of_pos p (by decide), Int.tmod_lt_of_pos p (by decide)⟩
    have a1 := hk_ab_r (p.tdiv 100 - 4)
    have a2 := hk_ab_r (p.tmod 100 - 50)
    have b1 : hk_ab (p.tdiv 100 - 4) ≤ 21474850 := by unfold hk_ab; split <;> omega
    have b2 : hk_ab (p.tmod 100 - 50) ≤ 1000 := by unfold hk_ab; split <;> omega
    omega
theorem hk_on_R {f : Int → Int} (h : ∀ b, jm_R (f b)) : ∀ n, 0 ≤ hk_on f n ∧ hk_on f n ≤ 11
  | 0 => ⟨by unfold hk_on; omega, by unfold hk_on; omega⟩
  | n + 1 => by
    have q := hk_on_R h n
    have q2 := hk_dis_R (h n)
    unfold hk_on
    split <;> omega
theorem hk_tw_R {f : Int → Int} (h : ∀ b, jm_R (f b)) : ∀ n, 0 ≤ hk_tw f n ∧ hk_tw f n ≤ 11
  | 0 => ⟨by unfold hk_tw; omega, by unfold hk_tw; omega⟩
  | n + 1 => by
    have q := hk_tw_R h n
    have q2 := hk_dis_R (h n)
    unfold hk_tw
    split <;> omega
theorem hk_nn_R (f : Int → Int) (a b : Int) : ∀ n : Nat, -(n : Int) ≤ hk_nn f a b n ∧ hk_nn f a b n ≤ n
  | 0 => ⟨by unfold hk_nn; omega, by unfold hk_nn; omega⟩
  | n + 1 => by
    have q := hk_nn_R f a b n
    unfold hk_nn
    split <;> split <;> omega
/-- who throws next, of the model's rows -/
def hk_mturn (I : jm_M) (g : Int) : Int := if I 309 g = 1 then I 317 g else if I 309 g = 2 then (if I 318 g = 0 then 1 - (I 317 g).tmod 2 else (I 317 g).tmod 2) else -1
def hk_mslot (I : jm_M) (g : Int) : Int := 3 * hk_mturn I g + (if I 309 g = 2 then (I 317 g).tdiv 2 else 0)
def hk_tku (I : jm_M) (g : Int) : jm_M := hk_fill (hk_fill I 324 549 (fun c => I 305 (549 * I 314 g + c))) 325 6 (fun k => I 320 (6 * g + k))
def hk_mavg (I : jm_M) (t : Int) : Int := if I 322 t = 0 then 30 else (I 323 t).tdiv (I 322 t)
