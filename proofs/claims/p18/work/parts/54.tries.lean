/-! the model's tries -/
theorem hk_tku_4' (I : jm_M) (g : Int) : hk_tku I g 324 = fun c => if 0 ≤ c ∧ c < 549 then I 305 (549 * I 314 g + c) else I 324 c := by
  unfold hk_tku
  rw [hk_fill_f (by decide)]
  funext c
  unfold hk_fill
  by_cases h : 0 ≤ c ∧ c < 549
  · rw [if_pos ⟨rfl, h⟩, if_pos h]
  · rw [if_neg (fun q => h q.2), if_neg h]
theorem hk_tku_4 {I J : jm_M} {g : Int} (h1 : J 305 = I 305) (h2 : J 314 g = I 314 g) (h3 : J 324 = I 324) : hk_tku J g 324 = hk_tku I g 324 := by rw [hk_tku_4', hk_tku_4', h1, h2, h3]
theorem hk_tku_5' (I : jm_M) (g : Int) : hk_tku I g 325 = fun c => if 0 ≤ c ∧ c < 6 then I 320 (6 * g + c) else I 325 c := by
  unfold hk_tku
  funext c
  unfold hk_fill
  by_cases h : 0 ≤ c ∧ c < 6
  · rw [if_pos ⟨rfl, h⟩, if_pos h]
  · rw [if_neg (fun q => h q.2), if_neg h, if_neg (fun q => absurd q.1 (by decide))]
theorem hk_tku_5 {I J : jm_M} {g : Int} (h1 : J 320 = I 320) (h3 : J 325 = I 325) : hk_tku J g 325 = hk_tku I g 325 := by rw [hk_tku_5', hk_tku_5', h1, h3]
theorem hk_mturn_c {I J : jm_M} {g : Int} (h1 : J 309 = I 309) (h2 : J 317 = I 317) (h3 : J 318 = I 318) : hk_mturn J g = hk_mturn I g := by unfold hk_mturn; rw [h1, h2, h3]
theorem hk_mslot_c {I J : jm_M} {g : Int} (h1 : J 309 = I 309) (h2 : J 317 = I 317) (h3 : J 318 = I 318) : hk_mslot J g = hk_mslot I g := by unfold hk_mslot; rw [hk_mturn_c h1 h2 h3, h1, h2]
theorem hk_mturn_r {I : jm_M} {g : Int} (h : 0 ≤ hk_mslot I g ∧ hk_mslot I g < 6) (h2 : 0 ≤ I 317 g ∧ I 317 g ≤ 6) : -100 ≤ hk_mturn I g ∧ hk_mturn I g ≤ 100 := by
  have e := Int.tmod_eq_emod_of_nonneg (a := I 317 g) (b := 2) h2.1
  unfold hk_mturn
  split
  · omega
  · split
    · split <;> omega
    · omega
def hk_mworth (I : jm_M) (g lane wt tn : Int) : Int := if hk_mturn I g = 0 then hk_scd (hk_mch 7 (hk_tku I g 324) (hk_tku I g 325) (hk_mslot I g) lane 0 (10 * wt) tn 1 0).2 else -hk_scd (hk_mch 7 (hk_tku I g 324) (hk_tku I g 325) (hk_mslot I g) lane 0 (10 * wt) tn 1 0).2
def hk_out (f g : Int → Int) (n : Int) : Prop := ∀ c, ¬ (0 ≤ c ∧ c < n) → f c = g c
theorem hk_T_out (L : Int → Int → Int) (tn lo hi : Int) : ∀ (n : Nat) (W : Int → Int) (x y en sp : Int), 0 ≤ x ∧ x ≤ 8 → 0 ≤ y ∧ y ≤ 59 → hk_out (hk_T L tn lo hi n W x y en sp).1 W 549
  | 0, W, x, y, en, sp, hx, hy => fun _ _ => rfl
  | n + 1, W, x, y, en, sp, hx, hy => by
    have h0 : hk_out (hk_wW W (x * 61 + (y + 1))) W 549 := fun c hc => by
      unfold hk_wW
      rw [if_neg (fun q => hc (by omega))]
    have lift : ∀ {x2 e2 s2 : Int}, 0 ≤ x2 ∧ x2 ≤ 8 → y + 1 ≤ 59 → hk_out (hk_T L tn lo hi n (hk_wW W (x * 61 + (y + 1))) x2 (y + 1) e2 s2).1 W 549 := by
      intro x2 e2 s2 h1 h2 c hc
      exact (hk_T_out L tn lo hi n (hk_wW W (x * 61 + (y + 1))) x2 (y + 1) e2 s2 h1 ⟨by omega, h2⟩ c hc).trans (h0 c hc)
    rw [hk_T]
    by_cases h1 : en < hk_cst W lo hi x (y + 1)
    · rw [if_pos h1]; exact fun _ _ => rfl
    rw [if_neg h1]
    by_cases h2 : L x (y + 1) ≠ -1
    · rw [if_pos h2]; exact fun _ _ => rfl
    rw [if_neg h2]
    by_cases h3 : 60 ≤ y + 1
    · rw [if_pos h3]; exact h0
    rw [if_neg h3]
    by_cases h4 : tn = 0 ∨ (lo ≤ y + 1 ∧ y + 1 ≤ hi)
    · rw [if_pos h4]; exact lift hx (by omega)
    rw [if_neg h4]
    by_cases h5 : 12 ≤ sp + 1 ∨ (en - hk_cst W lo hi x (y + 1) < 300 ∧ 6 ≤ sp + 1)
    · rw [if_pos h5]
      by_cases h6 : ¬ (0 ≤ x + tn ∧ x + tn ≤ 8)
      · rw [if_pos h6]; exact h0
      rw [if_neg h6]
      by_cases h7 : L (x + tn) (y + 1) ≠ -1
      · rw [if_pos h7]; exact h0
      · rw [if_neg h7]; exact lift (by omega) (by omega)
    · rw [if_neg h5]; exact lift hx (by omega)
theorem hk_mch_out : ∀ (n : Nat) (W f : Int → Int) (mv x y en tn lo hi : Int), hk_w9 W → hk_good f → 0 ≤ mv ∧ mv < 6 → 0 ≤ x ∧ x ≤ 8 → 0 ≤ y ∧ y ≤ 59 → 0 ≤ en ∧ en ≤ 1000 → hk_out (hk_mch n W f mv x y en tn lo hi).1 W 549 ∧ hk_out (hk_mch n W f mv x y en tn lo hi).2 f 6
  | 0, W, f, mv, x, y, en, tn, lo, hi, hW, hf, hm, hx, hy, he => ⟨fun _ _ => rfl, fun _ _ => rfl⟩
  | n + 1, W, f, mv, x, y, en, tn, lo, hi, hW, hf, hm, hx, hy, he => by
    have h1 : hk_out (hk_mR W f mv x y en tn lo hi).1 W 549 := hk_T_out _ _ _ _ _ _ _ _ _ _ hx hy
    have h2 : hk_out (hk_mf W f mv x y en tn lo hi) f 6 := fun c hc => by
      unfold hk_mf hk_pt
      rw [if_neg (fun q => hc (by omega)), if_neg (fun q => hc (by omega))]
    have h3 := hk_T_all2 (hk_mst (hk_pt f mv (-1))) tn lo hi 60 W x y en 0 hW hx hy he.1
    rw [hk_mch]
    by_cases q : (hk_mR W f mv x y en tn lo hi).2.2.1 = -1
    · rw [if_pos q]; exact ⟨h1, h2⟩
    · rw [if_neg q]
      obtain ⟨xj, yj, s1, s2, s3, s4, s5, s6, s7, s8, s9, s10, s11, s12⟩ := hk_mstep hW hf hx hy he q
      have hg2 : hk_good (hk_mf W f mv x y en tn lo hi) := hk_good_pt (hk_good_pm hf mv) mv h3.1
      have ih := hk_mch_out n (hk_mR W f mv x y en tn lo hi).1 (hk_mf W f mv x y en tn lo hi) (hk_mR W f mv x y en tn lo hi).2.2.1 ((hk_mf W f mv x y en tn lo hi (hk_mR W f mv x y en tn lo hi).2.2.1).tdiv 100) ((hk_mf W f mv x y en tn lo hi (hk_mR W f mv x y en tn lo hi).2.2.1).tmod 100) (hk_mR W f mv x y en tn lo hi).2.2.2 0 1 0 h3.2.1 hg2 s6 (by rw [s9]; exact ⟨s1, s2⟩) (by rw [s10]; exact ⟨by omega, s5⟩) s11
      exact ⟨fun c hc => (ih.1 c hc).trans (h1 c hc), fun c hc => (ih.2 c hc).trans (h2 c hc)⟩
theorem hk_tku_4o {I J : jm_M} {g : Int} (h1 : J 305 = I 305) (h2 : J 314 g = I 314 g) (h3 : hk_out (J 324) (I 324) 549) : hk_tku J g 324 = hk_tku I g 324 := by
  rw [hk_tku_4', hk_tku_4', h1, h2]
  funext c
  by_cases h : 0 ≤ c ∧ c < 549
  · rw [if_pos h, if_pos h]
  · rw [if_neg h, if_neg h]; exact h3 c h
theorem hk_tku_5o {I J : jm_M} {g : Int} (h1 : J 320 = I 320) (h3 : hk_out (J 325) (I 325) 6) : hk_tku J g 325 = hk_tku I g 325 := by
  rw [hk_tku_5', hk_tku_5', h1]
  funext c
  by_cases h : 0 ≤ c ∧ c < 6
  · rw [if_pos h, if_pos h]
  · rw [if_neg h, if_neg h]; exact h3 c h
theorem hk_tku_out4 (I : jm_M) (g : Int) : hk_out (hk_tku I g 324) (I 324) 549 := fun c hc => by rw [hk_tku_4']; exact if_neg hc
theorem hk_tku_out5 (I : jm_M) (g : Int) : hk_out (hk_tku I g 325) (I 325) 6 := fun c hc => by rw [hk_tku_5']; exact if_neg hc
theorem hk_out_tr {f g h : Int → Int} {n : Int} (a : hk_out f g n) (b : hk_out g h n) : hk_out f h n := fun c hc => (a c hc).trans (b c hc)
