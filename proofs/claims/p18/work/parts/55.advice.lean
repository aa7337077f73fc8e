/-! the model's advice, standing and plan -/
/-- the same game, the same stones, the same sheet: rows of work may differ -/
def hk_wkr (I J : jm_M) : Prop := (∀ a, a ≠ 324 → a ≠ 325 → a ≠ 300 → J a = I a) ∧ hk_out (J 324) (I 324) 549 ∧ hk_out (J 325) (I 325) 6
theorem hk_wkr_mw {I J : jm_M} (h : hk_wkr I J) (g lane wt tn : Int) : hk_mworth J g lane wt tn = hk_mworth I g lane wt tn := by
  obtain ⟨h1, h2, h3⟩ := h
  unfold hk_mworth
  rw [hk_tku_4o (h1 305 (by decide) (by decide) (by decide)) (congrFun (h1 314 (by decide) (by decide) (by decide)) g) h2, hk_tku_5o (h1 320 (by decide) (by decide) (by decide)) h3, hk_mslot_c (h1 309 (by decide) (by decide) (by decide)) (h1 317 (by decide) (by decide) (by decide)) (h1 318 (by decide) (by decide) (by decide)), hk_mturn_c (h1 309 (by decide) (by decide) (by decide)) (h1 317 (by decide) (by decide) (by decide)) (h1 318 (by decide) (by decide) (by decide))]
/-- the best of tries told by their number -/
def hk_adv (v c : Int → Int) : Nat → Int × Int
  | 0 => (-1, 0)
  | n + 1 => if (hk_adv v c n).1 = -1 ∨ (hk_adv v c n).2 < v n then (c n, v n) else hk_adv v c n
def hk_advc (k : Int) : Int := 1000 * (k / 10) + 10 * (40 + k / 2 % 5 * 10) + k % 2
def hk_m3 (a b c : Int) : Int := if c < (if b < a then b else a) then c else (if b < a then b else a)
def hk_advm (I : jm_M) (g k : Int) : Int := hk_m3 (hk_mworth I g (k / 10) (40 + k / 2 % 5 * 10) (if k % 2 = 0 then -1 else 1)) (hk_mworth I g (k / 10) (40 + k / 2 % 5 * 10 - 5) (if k % 2 = 0 then -1 else 1)) (hk_mworth I g (k / 10) (40 + k / 2 % 5 * 10 + 5) (if k % 2 = 0 then -1 else 1))
theorem hk_mworth_r (I : jm_M) (g lane wt tn : Int) : -6 ≤ hk_mworth I g lane wt tn ∧ hk_mworth I g lane wt tn ≤ 6 := by
  have h := hk_nn_R (hk_mch 7 (hk_tku I g 324) (hk_tku I g 325) (hk_mslot I g) lane 0 (10 * wt) tn 1 0).2 (hk_on (hk_mch 7 (hk_tku I g 324) (hk_tku I g 325) (hk_mslot I g) lane 0 (10 * wt) tn 1 0).2 6) (hk_tw (hk_mch 7 (hk_tku I g 324) (hk_tku I g 325) (hk_mslot I g) lane 0 (10 * wt) tn 1 0).2 6) 6
  rw [show hk_nn (hk_mch 7 (hk_tku I g 324) (hk_tku I g 325) (hk_mslot I g) lane 0 (10 * wt) tn 1 0).2 (hk_on (hk_mch 7 (hk_tku I g 324) (hk_tku I g 325) (hk_mslot I g) lane 0 (10 * wt) tn 1 0).2 6) (hk_tw (hk_mch 7 (hk_tku I g 324) (hk_tku I g 325) (hk_mslot I g) lane 0 (10 * wt) tn 1 0).2 6) 6 = hk_scd (hk_mch 7 (hk_tku I g 324) (hk_tku I g 325) (hk_mslot I g) lane 0 (10 * wt) tn 1 0).2 from rfl] at h
  unfold hk_mworth
  split <;> omega
/-- the rank of a team, and who stands where -/
def hk_mla (I : jm_M) (k t : Int) : Int := if I 321 t < I 321 k ∨ (I 321 k = I 321 t ∧ (hk_mavg I k < hk_mavg I t ∨ (hk_mavg I k = hk_mavg I t ∧ k < t))) then 1 else 0
def hk_mrk (I : jm_M) (t : Int) : Nat → Int
  | 0 => 0
  | n + 1 => hk_mrk I t n + hk_mla I n t
theorem hk_mrk_r (I : jm_M) (t : Int) : ∀ n : Nat, 0 ≤ hk_mrk I t n ∧ hk_mrk I t n ≤ n ∧ (0 ≤ t → t < n → hk_mrk I t n + 1 ≤ n)
  | 0 => ⟨by unfold hk_mrk; omega, by unfold hk_mrk; omega, fun _ _ => by omega⟩
  | n + 1 => by
    obtain ⟨h1, h2, h3⟩ := hk_mrk_r I t n
    have q : 0 ≤ hk_mla I n t ∧ hk_mla I n t ≤ 1 ∧ (t = n → hk_mla I n t = 0) := by
      unfold hk_mla
      refine ⟨by split <;> omega, by split <;> omega, fun e => ?_⟩
      subst e
      rw [if_neg (by omega)]
    rw [hk_mrk]
    refine ⟨by omega, by omega, fun a b => ?_⟩
    by_cases e : t = n
    · have := q.2.2 e; omega
    · have := h3 a (by omega); omega
def hk_ord (I : jm_M) : Nat → Int → Int
  | 0 => I 326
  | n + 1 => hk_pt (hk_ord I n) (hk_mrk I n 6) n
theorem hk_mavg_r {I : jm_M} {t : Int} (h : (0 ≤ I 323 t ∧ I 323 t ≤ 1000000) ∧ 0 ≤ I 322 t) : 0 ≤ hk_mavg I t ∧ hk_mavg I t ≤ 1000000 := by
  unfold hk_mavg
  split
  · omega
  · rw [Int.tdiv_eq_ediv_of_nonneg h.1.1]
    have h1 := Int.ediv_nonneg h.1.1 h.2
    have h2 := Int.ediv_le_self (I 322 t) h.1.1
    omega
def hk_mplan (I : jm_M) (a b h s : Int) : jm_M := jm_up (hk_filo (jm_up (jm_up (jm_up (jm_up (jm_up (jm_up I 300 0 0) 310 (I 300 8) a) 311 (I 300 8) b) 312 (I 300 8) h) 313 (I 300 8) s) 314 (I 300 8) (-1)) 320 (6 * I 300 8) 6 (fun _ => -1)) 300 8 (I 300 8 + 1)
theorem hk_wkr_14 {I J : jm_M} (h : hk_wkr I J) {g : Int} : J 314 g = I 314 g := congrFun (h.1 314 (by decide) (by decide) (by decide)) g
theorem hk_wkr_17 {I J : jm_M} (h : hk_wkr I J) {g : Int} : J 317 g = I 317 g := congrFun (h.1 317 (by decide) (by decide) (by decide)) g
theorem hk_wkr_sl {I J : jm_M} (h : hk_wkr I J) {g : Int} : hk_mslot J g = hk_mslot I g := hk_mslot_c (h.1 309 (by decide) (by decide) (by decide)) (h.1 317 (by decide) (by decide) (by decide)) (h.1 318 (by decide) (by decide) (by decide))
theorem hk_wkr_t4 {I J : jm_M} (h : hk_wkr I J) {g : Int} : hk_tku J g 324 = hk_tku I g 324 := hk_tku_4o (h.1 305 (by decide) (by decide) (by decide)) (hk_wkr_14 h) h.2.1
theorem hk_wkr_t5 {I J : jm_M} (h : hk_wkr I J) {g : Int} : hk_tku J g 325 = hk_tku I g 325 := hk_tku_5o (h.1 320 (by decide) (by decide) (by decide)) h.2.2
theorem hk_wkr_st {I J K : jm_M} (h : hk_wkr I J) (o : ∀ a, a ≠ 324 → a ≠ 325 → K a = J a) (x : hk_out (K 324) (J 324) 549) (y : hk_out (K 325) (J 325) 6) : hk_wkr I K :=
  ⟨fun a h1 h2 h3 => (o a h1 h2).trans (h.1 a h1 h2 h3), hk_out_tr x h.2.1, hk_out_tr y h.2.2⟩
theorem hk_wkr_wk {I J K : jm_M} (h : hk_wkr I J) (h2 : hk_wkr I K) (e : K 300 = J 300) : hk_wk J K := fun a b q1 q2 _ _ _ => by
  by_cases q : a = 300
  · rw [q, e]
  · rw [h2.1 a q1 q2 q, h.1 a q1 q2 q]
theorem hk_mavg_c {I J : jm_M} {t : Int} (h2 : J 322 = I 322) (h3 : J 323 = I 323) : hk_mavg J t = hk_mavg I t := by unfold hk_mavg; rw [h2, h3]
