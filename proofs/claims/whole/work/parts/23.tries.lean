/-! the model's tries -/
theorem hk_tku_4' (I : jm_M) (g : Int) : hk_tku I g 324 = fun c => if 0 ≤ c ∧ c < 549 then I 305 (549 * I 314 g + c) else I 324 c := by
  unfold hk_tku
  rw [hk_fill_f (by decide)]
  funext c
  unfold hk_fill
  by_cases h : 0 ≤ c ∧ c < 549
  · rw [if_pos ⟨rfl, h⟩, if_pos h]
  · rw [if_neg (fun q => h q.2), if_neg h]
theorem hk_tku_4 {I J : jm_M} {g : Int} (h1 : J 305 = I 305) (h2 : J 314 g = I 314 g) (h3 : J 324 = I 324) : hk_tku J g 324 = hk_tku I g 324 := by rw [hk_tku_4', hk_tku_4', h1, h2, h3]
theorem hk_tku_5' (I : jm_M) (g : Int) : hk_tku I g 325 = fun c => if 0 ≤ c ∧ c < 6 then I 320 (6 * g + c) else I 325 c := by
  unfold hk_tku
  funext c
  unfold hk_fill
  by_cases h : 0 ≤ c ∧ c < 6
  · rw [if_pos ⟨rfl, h⟩, if_pos h]
  · rw [if_neg (fun q => h q.2), if_neg h, if_neg (fun q => absurd q.1 (by decide))]
theorem hk_tku_5 {I J : jm_M} {g : Int} (h1 : J 320 = I 320) (h3 : J 325 = I 325) : hk_tku J g 325 = hk_tku I g 325 := by rw [hk_tku_5', hk_tku_5', h1, h3]
theorem hk_mturn_c {I J : jm_M} {g : Int} (h1 : J 309 = I 309) (h2 : J 317 = I 317) (h3 : J 318 = I 318) : hk_mturn J g = hk_mturn I g := by unfold hk_mturn; rw [h1, h2, h3]
theorem hk_mslot_c {I J : jm_M} {g : Int} (h1 : J 309 = I 309) (h2 : J 317 = I 317) (h3 : J 318 = I 318) : hk_mslot J g = hk_mslot I g := by unfold hk_mslot; rw [hk_mturn_c h1 h2 h3, h1, h2]
theorem hk_mturn_r {I : jm_M} {g : Int} (h : 0 ≤ hk_mslot I g ∧ hk_mslot I g < 6) (h2 : 0 ≤ I 317 g ∧ I 317 g ≤ 6) : -100 ≤ hk_mturn I g ∧ hk_mturn I g ≤ 100 := by
  have e := Int.tmod_eq_emod_of_nonneg (a := I 317 g) (b := 2) h2.1
  unfold hk_mturn
  split
  · omega
  · split
    · split <;> omega
    · omega
def hk_mworth (I : jm_M) (g lane wt tn : Int) : Int := if hk_mturn I g = 0 then hk_scd (hk_mch 7 (hk_tku I g 324) (hk_tku I g 325) (hk_mslot I g) lane 0 (10 * wt) tn 1 0).2 else -hk_scd (hk_mch 7 (hk_tku I g 324) (hk_tku I g 325) (hk_mslot I g) lane 0 (10 * wt) tn 1 0).2
