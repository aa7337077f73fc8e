/-! what the coach tries -/
def hk_slot (I : jm_M) (k : Int) : Int := hk_nside (I k 5) (I k 11) (I k 12) * 3 + (I k 11).tdiv 2
def hk_wpre (I : jm_M) (k : Int) : Prop := (0 ≤ I k 6 ∧ I k 6 < 3) ∧ (0 ≤ hk_slot I k ∧ hk_slot I k < 6) ∧ I (k + 100 + 100) (hk_slot I k) = -1 ∧ hk_good (I (k + 100 + 100)) ∧ hk_w9 (I (10 + I k 6 + 100)) ∧ (0 ≤ hk_nside (I k 5) (I k 11) (I k 12) ∧ hk_nside (I k 5) (I k 11) (I k 12) ≤ 1)
/-- the maps are the same but for the slide and its stones -/
def hk_off (I I' : jm_M) : Prop := ∀ a, a ≠ 4 → a ≠ 4 + 100 + 100 → I' a = I a
theorem hk_off_rf (I : jm_M) : hk_off I I := fun _ _ _ => rfl
theorem hk_off_tr {I I2 I3 : jm_M} (h : hk_off I I2) (h2 : hk_off I2 I3) : hk_off I I3 := fun a h3 h4 => (h2 a h3 h4).trans (h a h3 h4)
def hk_wtry (W f : Int → Int) (n sd ln wt tn : Int) : Int := if sd = 0 then hk_score (hk_thr W f n ln (10 * wt) tn 1 0).2.2 else -hk_score (hk_thr W f n ln (10 * wt) tn 1 0).2.2
def hk_wt (I : jm_M) (k ln wt tn : Int) : Int := hk_wtry (I (10 + I k 6 + 100)) (I (k + 100 + 100)) (hk_slot I k) (hk_nside (I k 5) (I k 11) (I k 12)) ln wt tn
theorem hk_wt_r (I : jm_M) (k ln wt tn : Int) : -3 ≤ hk_wt I k ln wt tn ∧ hk_wt I k ln wt tn ≤ 3 := by
  unfold hk_wt hk_wtry
  have h := hk_score_r (hk_thr (I (10 + I k 6 + 100)) (I (k + 100 + 100)) (hk_slot I k) ln (10 * wt) tn 1 0).2.2
  split <;> omega
theorem hk_off_slot {I I' : jm_M} {k : Int} (h : hk_off I I') (hk : 30 ≤ k ∧ k < 100) : hk_slot I' k = hk_slot I k := by unfold hk_slot; rw [h k (by omega) (by omega)]
theorem hk_off_wpre {I I' : jm_M} {k : Int} (h : hk_off I I') (hk : 30 ≤ k ∧ k < 100) (hp : hk_wpre I k) : hk_wpre I' k := by
  have h1 := h k (by omega) (by omega)
  have h2 := h (k + 100 + 100) (by omega) (by omega)
  have h6 := hp.1
  have h3 := h (10 + I k 6 + 100) (by omega) (by omega)
  unfold hk_wpre
  rw [hk_off_slot h hk, h1, h2, h3]
  exact hp
theorem hk_off_wt {I I' : jm_M} {k : Int} (h : hk_off I I') (hk : 30 ≤ k ∧ k < 100) (hp : hk_wpre I k) (ln wt tn : Int) : hk_wt I' k ln wt tn = hk_wt I k ln wt tn := by
  have h1 := h k (by omega) (by omega)
  have h2 := h (k + 100 + 100) (by omega) (by omega)
  have h6 := hp.1
  have h3 := h (10 + I k 6 + 100) (by omega) (by omega)
  unfold hk_wt
  rw [hk_off_slot h hk, h1, h2, h3]
def hk_wsh (I : jm_M) (k ln wt tn : Int) : Int := hk_mn (hk_mn (hk_wt I k ln wt tn) (hk_wt I k ln (wt - 5) tn)) (hk_wt I k ln (wt + 5) tn)
theorem hk_wsh_r (I : jm_M) (k ln wt tn : Int) : -3 ≤ hk_wsh I k ln wt tn ∧ hk_wsh I k ln wt tn ≤ 3 := by
  have h1 := hk_wt_r I k ln wt tn
  have h2 := hk_wt_r I k ln (wt - 5) tn
  have h3 := hk_wt_r I k ln (wt + 5) tn
  unfold hk_wsh hk_mn
  split
  · omega
  · split <;> omega
theorem hk_off_wsh {I I' : jm_M} {k : Int} (h : hk_off I I') (hk : 30 ≤ k ∧ k < 100) (hp : hk_wpre I k) (ln wt tn : Int) : hk_wsh I' k ln wt tn = hk_wsh I k ln wt tn := by unfold hk_wsh; rw [hk_off_wt h hk hp, hk_off_wt h hk hp, hk_off_wt h hk hp]
