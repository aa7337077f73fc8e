/-! THE LAW'S STATIC METHODS -/
set_option maxRecDepth 100000 in
theorem jw_K_RL7 : Cond.constant RL 7 (1073741823 : Int32) ∈ jm_W0 := jm_in 166 rfl rfl
set_option maxRecDepth 100000 in
theorem okL_does : jm_okW RL yL_does cL_does 5 (some .int) [(0, 113, 114, 39), (0, 113, 120, 41), (0, 113, 126, 43)] 4 := ⟨jm_in 168 rfl rfl, jw_n_RL, jm_in 169 rfl rfl, rfl, ⟨by decide +kernel, by decide +kernel, by decide +kernel⟩, by decide +kernel⟩
def wL_does : List Cond := Cond.codeWith yL_does cL_does 5 (some .int) [(0, 113, 114, 39), (0, 113, 120, 41), (0, 113, 126, 43)] :: jm_W0
abbrev rcL_does : Room := jm_rx { frames := 12, cells := 0, slots := 0, locals := 240 } 2 12
set_option maxRecDepth 100000 in
theorem okL_plans : jm_okW RL yL_plans cL_plans 6 (some .int) [(0, 9, 10, 39), (0, 9, 16, 41), (0, 9, 22, 43)] 5 := ⟨jm_in 479 rfl rfl, jw_n_RL, jm_in 480 rfl rfl, rfl, ⟨by decide +kernel, by decide +kernel, by decide +kernel⟩, by decide +kernel⟩
def wL_plans : List Cond := Cond.codeWith yL_plans cL_plans 6 (some .int) [(0, 9, 10, 39), (0, 9, 16, 41), (0, 9, 22, 43)] :: jm_W0
abbrev rcL_plans : Room := jm_rx { frames := 12, cells := 0, slots := 0, locals := 240 } 3 20
set_option maxRecDepth 100000 in
theorem okL_shoots : jm_okW RL yL_shoots cL_shoots 8 (some .int) [(0, 13, 14, 39), (0, 13, 20, 41), (0, 13, 26, 43)] 7 := ⟨jm_in 548 rfl rfl, jw_n_RL, jm_in 549 rfl rfl, rfl, ⟨by decide +kernel, by decide +kernel, by decide +kernel⟩, by decide +kernel⟩
def wL_shoots : List Cond := Cond.codeWith yL_shoots cL_shoots 8 (some .int) [(0, 13, 14, 39), (0, 13, 20, 41), (0, 13, 26, 43)] :: jm_W0
abbrev rcL_shoots : Room := jm_rx { frames := 12, cells := 0, slots := 0, locals := 240 } 2 12
set_option maxRecDepth 100000 in
theorem okL_tries : jm_okW RL yL_tries cL_tries 8 (some .int) [(0, 13, 14, 39), (0, 13, 20, 41), (0, 13, 26, 43)] 7 := ⟨jm_in 588 rfl rfl, jw_n_RL, jm_in 589 rfl rfl, rfl, ⟨by decide +kernel, by decide +kernel, by decide +kernel⟩, by decide +kernel⟩
def wL_tries : List Cond := Cond.codeWith yL_tries cL_tries 8 (some .int) [(0, 13, 14, 39), (0, 13, 20, 41), (0, 13, 26, 43)] :: jm_W0
abbrev rcL_tries : Room := jm_rx { frames := 12, cells := 0, slots := 0, locals := 240 } 2 12
set_option maxRecDepth 100000 in
theorem okL_stone : jm_okW RL yL_stone cL_stone 5 (some .int) [(0, 7, 8, 39)] 4 := ⟨jm_in 601 rfl rfl, jw_n_RL, jm_in 602 rfl rfl, rfl, ⟨by decide +kernel, by decide +kernel, by decide +kernel⟩, by decide +kernel⟩
def wL_stone : List Cond := Cond.codeWith yL_stone cL_stone 5 (some .int) [(0, 7, 8, 39)] :: jm_W0
abbrev rcL_stone : Room := jm_rx { frames := 12, cells := 0, slots := 0, locals := 240 } 2 12
set_option maxRecDepth 100000 in
theorem okL_wear : jm_okW RL yL_wear cL_wear 5 (some .int) [(0, 7, 8, 39)] 4 := ⟨jm_in 610 rfl rfl, jw_n_RL, jm_in 611 rfl rfl, rfl, ⟨by decide +kernel, by decide +kernel, by decide +kernel⟩, by decide +kernel⟩
def wL_wear : List Cond := Cond.codeWith yL_wear cL_wear 5 (some .int) [(0, 7, 8, 39)] :: jm_W0
abbrev rcL_wear : Room := jm_rx { frames := 12, cells := 0, slots := 0, locals := 240 } 2 12
abbrev rcL_mirrored : Room := { frames := 1, cells := 0, slots := 0, locals := 24 }
abbrev rcL_drawn : Room := { frames := 1, cells := 0, slots := 0, locals := 24 }
def hk_v2 (I : jm_M) (s k : Int) : Int := if k = 0 then (if I (10 + s) 1 = 0 then 0 else 1) else if k = 1 then I (10 + s) 2 else if k = 2 then hk_sum (I (10 + s + 100)) 549 else if I 0 7 = s then I 0 8 else 0
set_option maxRecDepth 100000 in
set_option maxHeartbeats 4000000 in
theorem kL_d2 (E : jm_E) (hl0 : E.1.stackTraces = false) (w : jm_W) (I : jm_M) (ng : Int) (H : jm_X5 E w ng) (s k : Int) (rs : jm_R s) (rk : jm_R k) (hs : 0 ≤ s ∧ s < 3) (hk : 0 ≤ k ∧ k ≤ 3) : jm_Mi E yL_does wL_does rcL_does 2 12 w I [.ref (w.2.1 0), jm_v 2, jm_v s, jm_v k] (fun I' z => I' = I ∧ z = hk_v2 I s k) := by
  refine jm_in_w (cc := cL_does) (maxL := 5) (rt := .int) (hh := [(0, 113, 114, 39), (0, 113, 120, 41), (0, 113, 126, 43)]) RL (by decide +kernel) rfl rfl (Nat.le_of_ble_eq_true rfl) (by simp [Value.category]) ?_
  intro G C tb hR hI
  refine jm_iload_n C dL_does_0 rfl ?_
  refine jm_if_ne 12 C dL_does_1 rfl (by decide) (fun _ => ?_) (fun q => absurd q (by decide))
  refine jm_iload_n C dL_does_12 rfl ?_
  refine jm_iconst C dL_does_13 ?_
  refine jm_icmp_ne 25 C dL_does_14 rfl (by decide) (by decide) (fun _ => ?_) (fun q => absurd q (by decide))
  refine jm_iload_n C dL_does_25 rfl ?_
  refine jm_iconst C dL_does_26 ?_
  refine jm_icmp_ne 39 C dL_does_27 rfl (by decide) (by decide) (fun q => absurd rfl q) (fun _ => ?_)
  refine jm_aload_n C dL_does_30 rfl ?_
  refine jm_iload_n C dL_does_31 rfl ?_
  refine jm_iload_n C dL_does_32 rfl ?_
  refine jm_xcVi (n := 2) (ci := 5) [] C (kxX5_ofSheet E hl0 w I ng H s k rs rk) jw_m_RL_17 okX5_ofSheet rfl ⟨rfl, rfl⟩ ⟨Nat.le_of_ble_eq_true rfl, Nat.le_of_ble_eq_true rfl⟩ rfl H.1.1 H.1.2 rfl rfl (Nat.le_of_ble_eq_true rfl) dL_does_33 ⟨Nat.le_of_ble_eq_true rfl, Nat.le_of_ble_eq_true rfl⟩ (fun cls I2 h => h.2.elim (fun q => absurd hs q.1) (fun q => absurd hk q.2.1)) (fun I2 z h => ?_)
  refine jm_goto 113 C dL_does_36 rfl ?_
  refine jm_wid (q' := (2, 12)) (Nat.le_of_ble_eq_true rfl) (Nat.le_of_ble_eq_true rfl) ?_
  exact hR _ _ _ _ dL_does_113 rfl ⟨h.2.2.1, h.2.2.2⟩
def hk_v3 (I : jm_M) (g k : Int) : Int := if k = 0 then I (30 + g) 5 else if k = 1 then I (30 + g) 4 else if k = 2 then I (30 + g) 6 else if k = 3 then I (30 + g) 8 else if k = 4 then I (30 + g) 9 else if k = 5 then I (30 + g) 10 else if k = 6 then hk_nside (I (30 + g) 5) (I (30 + g) 11) (I (30 + g) 12) else I (30 + g) 12
set_option maxRecDepth 100000 in
set_option maxHeartbeats 4000000 in
theorem kL_d3 (E : jm_E) (hl0 : E.1.stackTraces = false) (w : jm_W) (I : jm_M) (ng : Int) (H : jm_X5 E w ng) (g k : Int) (rg : jm_R g) (rk : jm_R k) (hg : 0 ≤ g ∧ g < ng) (hk : 0 ≤ k ∧ k ≤ 7) : jm_Mi E yL_does wL_does rcL_does 2 12 w I [.ref (w.2.1 0), jm_v 3, jm_v g, jm_v k] (fun I' z => I' = I ∧ z = hk_v3 I g k) := by
  refine jm_in_w (cc := cL_does) (maxL := 5) (rt := .int) (hh := [(0, 113, 114, 39), (0, 113, 120, 41), (0, 113, 126, 43)]) RL (by decide +kernel) rfl rfl (Nat.le_of_ble_eq_true rfl) (by simp [Value.category]) ?_
  intro G C tb hR hI
  refine jm_iload_n C dL_does_0 rfl ?_
  refine jm_if_ne 12 C dL_does_1 rfl (by decide) (fun _ => ?_) (fun q => absurd q (by decide))
  refine jm_iload_n C dL_does_12 rfl ?_
  refine jm_iconst C dL_does_13 ?_
  refine jm_icmp_ne 25 C dL_does_14 rfl (by decide) (by decide) (fun _ => ?_) (fun q => absurd q (by decide))
  refine jm_iload_n C dL_does_25 rfl ?_
  refine jm_iconst C dL_does_26 ?_
  refine jm_icmp_ne 39 C dL_does_27 rfl (by decide) (by decide) (fun _ => ?_) (fun q => absurd q (by decide))
  refine jm_iload_n C dL_does_39 rfl ?_
  refine jm_iconst C dL_does_40 ?_
  refine jm_icmp_ne 53 C dL_does_41 rfl (by decide) (by decide) (fun q => absurd rfl q) (fun _ => ?_)
  refine jm_aload_n C dL_does_44 rfl ?_
  refine jm_iload_n C dL_does_45 rfl ?_
  refine jm_iload_n C dL_does_46 rfl ?_
  refine jm_xcVi (n := 2) (ci := 5) [] C (kxX5_ofGame E hl0 w I ng H g k rg rk) jw_m_RL_21 okX5_ofGame rfl ⟨rfl, rfl⟩ ⟨Nat.le_of_ble_eq_true rfl, Nat.le_of_ble_eq_true rfl⟩ rfl H.1.1 H.1.2 rfl rfl (Nat.le_of_ble_eq_true rfl) dL_does_47 ⟨Nat.le_of_ble_eq_true rfl, Nat.le_of_ble_eq_true rfl⟩ (fun cls I2 h => h.2.elim (fun q => absurd hg q.1) (fun q => absurd hk q.2.1)) (fun I2 z h => ?_)
  refine jm_goto 113 C dL_does_50 rfl ?_
  refine jm_wid (q' := (2, 12)) (Nat.le_of_ble_eq_true rfl) (Nat.le_of_ble_eq_true rfl) ?_
  exact hR _ _ _ _ dL_does_113 rfl ⟨h.2.2.1, h.2.2.2⟩
def hk_v4 (I : jm_M) (g : Int) : Int := hk_score (I (30 + g + 100 + 100))
set_option maxRecDepth 100000 in
set_option maxHeartbeats 4000000 in
theorem kL_d4 (E : jm_E) (hl0 : E.1.stackTraces = false) (w : jm_W) (I : jm_M) (ng : Int) (H : jm_X5 E w ng) (g : Int) (z0 : Int) (rg : jm_R g) (hg : 0 ≤ g ∧ g < ng) : jm_Mi E yL_does wL_does rcL_does 2 12 w I [.ref (w.2.1 0), jm_v 4, jm_v g, jm_v z0] (fun I' z => I' = I ∧ z = hk_v4 I g) := by
  refine jm_in_w (cc := cL_does) (maxL := 5) (rt := .int) (hh := [(0, 113, 114, 39), (0, 113, 120, 41), (0, 113, 126, 43)]) RL (by decide +kernel) rfl rfl (Nat.le_of_ble_eq_true rfl) (by simp [Value.category]) ?_
  intro G C tb hR hI
  refine jm_iload_n C dL_does_0 rfl ?_
  refine jm_if_ne 12 C dL_does_1 rfl (by decide) (fun _ => ?_) (fun q => absurd q (by decide))
  refine jm_iload_n C dL_does_12 rfl ?_
  refine jm_iconst C dL_does_13 ?_
  refine jm_icmp_ne 25 C dL_does_14 rfl (by decide) (by decide) (fun _ => ?_) (fun q => absurd q (by decide))
  refine jm_iload_n C dL_does_25 rfl ?_
  refine jm_iconst C dL_does_26 ?_
  refine jm_icmp_ne 39 C dL_does_27 rfl (by decide) (by decide) (fun _ => ?_) (fun q => absurd q (by decide))
  refine jm_iload_n C dL_does_39 rfl ?_
  refine jm_iconst C dL_does_40 ?_
  refine jm_icmp_ne 53 C dL_does_41 rfl (by decide) (by decide) (fun _ => ?_) (fun q => absurd q (by decide))
  refine jm_iload_n C dL_does_53 rfl ?_
  refine jm_iconst C dL_does_54 ?_
  refine jm_icmp_ne 66 C dL_does_55 rfl (by decide) (by decide) (fun q => absurd rfl q) (fun _ => ?_)
  refine jm_aload_n C dL_does_58 rfl ?_
  refine jm_iload_n C dL_does_59 rfl ?_
  refine jm_xcVi (n := 1) (ci := 5) [] C (kxX5_wouldScore E hl0 w I ng H g rg) jw_m_RL_24 okX5_wouldScore rfl ⟨rfl, rfl⟩ ⟨Nat.le_of_ble_eq_true rfl, Nat.le_of_ble_eq_true rfl⟩ rfl H.1.1 H.1.2 rfl rfl (Nat.le_of_ble_eq_true rfl) dL_does_60 ⟨Nat.le_of_ble_eq_true rfl, Nat.le_of_ble_eq_true rfl⟩ (fun cls I2 h => absurd hg h.2.2) (fun I2 z h => ?_)
  refine jm_goto 113 C dL_does_63 rfl ?_
  refine jm_wid (q' := (2, 12)) (Nat.le_of_ble_eq_true rfl) (Nat.le_of_ble_eq_true rfl) ?_
  exact hR _ _ _ _ dL_does_113 rfl ⟨h.2.1, h.2.2⟩
def hk_v5 (I : jm_M) (g : Int) : Int := hk_one (I (30 + g + 100 + 100)) 6
set_option maxRecDepth 100000 in
set_option maxHeartbeats 4000000 in
theorem kL_d5 (E : jm_E) (hl0 : E.1.stackTraces = false) (w : jm_W) (I : jm_M) (ng : Int) (H : jm_X5 E w ng) (g : Int) (z0 : Int) (rg : jm_R g) (hg : 0 ≤ g ∧ g < ng) : jm_Mi E yL_does wL_does rcL_does 2 12 w I [.ref (w.2.1 0), jm_v 5, jm_v g, jm_v z0] (fun I' z => I' = I ∧ z = hk_v5 I g) := by
  refine jm_in_w (cc := cL_does) (maxL := 5) (rt := .int) (hh := [(0, 113, 114, 39), (0, 113, 120, 41), (0, 113, 126, 43)]) RL (by decide +kernel) rfl rfl (Nat.le_of_ble_eq_true rfl) (by simp [Value.category]) ?_
  intro G C tb hR hI
  refine jm_iload_n C dL_does_0 rfl ?_
  refine jm_if_ne 12 C dL_does_1 rfl (by decide) (fun _ => ?_) (fun q => absurd q (by decide))
  refine jm_iload_n C dL_does_12 rfl ?_
  refine jm_iconst C dL_does_13 ?_
  refine jm_icmp_ne 25 C dL_does_14 rfl (by decide) (by decide) (fun _ => ?_) (fun q => absurd q (by decide))
  refine jm_iload_n C dL_does_25 rfl ?_
  refine jm_iconst C dL_does_26 ?_
  refine jm_icmp_ne 39 C dL_does_27 rfl (by decide) (by decide) (fun _ => ?_) (fun q => absurd q (by decide))
  refine jm_iload_n C dL_does_39 rfl ?_
  refine jm_iconst C dL_does_40 ?_
  refine jm_icmp_ne 53 C dL_does_41 rfl (by decide) (by decide) (fun _ => ?_) (fun q => absurd q (by decide))
  refine jm_iload_n C dL_does_53 rfl ?_
  refine jm_iconst C dL_does_54 ?_
  refine jm_icmp_ne 66 C dL_does_55 rfl (by decide) (by decide) (fun _ => ?_) (fun q => absurd q (by decide))
  refine jm_iload_n C dL_does_66 rfl ?_
  refine jm_iconst C dL_does_67 ?_
  refine jm_icmp_ne 79 C dL_does_68 rfl (by decide) (by decide) (fun q => absurd rfl q) (fun _ => ?_)
  refine jm_aload_n C dL_does_71 rfl ?_
  refine jm_iload_n C dL_does_72 rfl ?_
  refine jm_xcVi (n := 1) (ci := 5) [] C (kxX5_wouldScoreAnew E hl0 w I ng H g rg) jw_m_RL_27 okX5_wouldScoreAnew rfl ⟨rfl, rfl⟩ ⟨Nat.le_of_ble_eq_true rfl, Nat.le_of_ble_eq_true rfl⟩ rfl H.1.1 H.1.2 rfl rfl (Nat.le_of_ble_eq_true rfl) dL_does_73 ⟨Nat.le_of_ble_eq_true rfl, Nat.le_of_ble_eq_true rfl⟩ (fun cls I2 h => absurd hg h.2.2) (fun I2 z h => ?_)
  refine jm_goto 113 C dL_does_76 rfl ?_
  refine jm_wid (q' := (2, 12)) (Nat.le_of_ble_eq_true rfl) (Nat.le_of_ble_eq_true rfl) ?_
  exact hR _ _ _ _ dL_does_113 rfl ⟨h.2.1, h.2.2⟩
def hk_v7 (I : jm_M) (p : Int) : Int := hk_std I p 6
set_option maxRecDepth 100000 in
set_option maxHeartbeats 4000000 in
theorem kL_d7 (E : jm_E) (hl0 : E.1.stackTraces = false) (w : jm_W) (I : jm_M) (ng : Int) (H : jm_X5 E w ng) (p : Int) (z0 : Int) (rp : jm_R p) (hp : 0 ≤ p ∧ p ≤ 5) : jm_Mi E yL_does wL_does rcL_does 2 12 w I [.ref (w.2.1 0), jm_v 7, jm_v p, jm_v z0] (fun I' z => I' = I ∧ z = hk_v7 I p) := by
  refine jm_in_w (cc := cL_does) (maxL := 5) (rt := .int) (hh := [(0, 113, 114, 39), (0, 113, 120, 41), (0, 113, 126, 43)]) RL (by decide +kernel) rfl rfl (Nat.le_of_ble_eq_true rfl) (by simp [Value.category]) ?_
  intro G C tb hR hI
  refine jm_iload_n C dL_does_0 rfl ?_
  refine jm_if_ne 12 C dL_does_1 rfl (by decide) (fun _ => ?_) (fun q => absurd q (by decide))
  refine jm_iload_n C dL_does_12 rfl ?_
  refine jm_iconst C dL_does_13 ?_
  refine jm_icmp_ne 25 C dL_does_14 rfl (by decide) (by decide) (fun _ => ?_) (fun q => absurd q (by decide))
  refine jm_iload_n C dL_does_25 rfl ?_
  refine jm_iconst C dL_does_26 ?_
  refine jm_icmp_ne 39 C dL_does_27 rfl (by decide) (by decide) (fun _ => ?_) (fun q => absurd q (by decide))
  refine jm_iload_n C dL_does_39 rfl ?_
  refine jm_iconst C dL_does_40 ?_
  refine jm_icmp_ne 53 C dL_does_41 rfl (by decide) (by decide) (fun _ => ?_) (fun q => absurd q (by decide))
  refine jm_iload_n C dL_does_53 rfl ?_
  refine jm_iconst C dL_does_54 ?_
  refine jm_icmp_ne 66 C dL_does_55 rfl (by decide) (by decide) (fun _ => ?_) (fun q => absurd q (by decide))
  refine jm_iload_n C dL_does_66 rfl ?_
  refine jm_iconst C dL_does_67 ?_
  refine jm_icmp_ne 79 C dL_does_68 rfl (by decide) (by decide) (fun _ => ?_) (fun q => absurd q (by decide))
  refine jm_iload_n C dL_does_79 rfl ?_
  refine jm_bipush C dL_does_80 (by decide +kernel) ?_
  refine jm_icmp_ne 93 C dL_does_82 rfl (by decide) (by decide) (fun _ => ?_) (fun q => absurd q (by decide))
  refine jm_iload_n C dL_does_93 rfl ?_
  refine jm_bipush C dL_does_94 (by decide +kernel) ?_
  refine jm_icmp_ne 107 C dL_does_96 rfl (by decide) (by decide) (fun q => absurd rfl q) (fun _ => ?_)
  refine jm_aload_n C dL_does_99 rfl ?_
  refine jm_iload_n C dL_does_100 rfl ?_
  refine jm_xcVi (n := 1) (ci := 5) [] C (kxX5_standing E hl0 w I ng H p rp) jw_m_RL_33 okX5_standing rfl ⟨rfl, rfl⟩ ⟨Nat.le_of_ble_eq_true rfl, Nat.le_of_ble_eq_true rfl⟩ rfl H.1.1 H.1.2 rfl rfl (Nat.le_of_ble_eq_true rfl) dL_does_101 ⟨Nat.le_of_ble_eq_true rfl, Nat.le_of_ble_eq_true rfl⟩ (fun cls I2 h => absurd hp h.2.2) (fun I2 z h => ?_)
  refine jm_goto 113 C dL_does_104 rfl ?_
  refine jm_wid (q' := (2, 12)) (Nat.le_of_ble_eq_true rfl) (Nat.le_of_ble_eq_true rfl) ?_
  exact hR _ _ _ _ dL_does_113 rfl ⟨h.2.1, h.2.2⟩
def hk_v8 (I : jm_M) (t k : Int) : Int := if k = 0 then I (20 + t) 0 else if k = 1 then I (20 + t) 1 else I (20 + t) 2
set_option maxRecDepth 100000 in
set_option maxHeartbeats 4000000 in
theorem kL_d8 (E : jm_E) (hl0 : E.1.stackTraces = false) (w : jm_W) (I : jm_M) (ng : Int) (H : jm_X5 E w ng) (t k : Int) (rt : jm_R t) (rk : jm_R k) (ht : 0 ≤ t ∧ t < 6) (hk : 0 ≤ k ∧ k ≤ 2) : jm_Mi E yL_does wL_does rcL_does 2 12 w I [.ref (w.2.1 0), jm_v 8, jm_v t, jm_v k] (fun I' z => I' = I ∧ z = hk_v8 I t k) := by
  refine jm_in_w (cc := cL_does) (maxL := 5) (rt := .int) (hh := [(0, 113, 114, 39), (0, 113, 120, 41), (0, 113, 126, 43)]) RL (by decide +kernel) rfl rfl (Nat.le_of_ble_eq_true rfl) (by simp [Value.category]) ?_
  intro G C tb hR hI
  refine jm_iload_n C dL_does_0 rfl ?_
  refine jm_if_ne 12 C dL_does_1 rfl (by decide) (fun _ => ?_) (fun q => absurd q (by decide))
  refine jm_iload_n C dL_does_12 rfl ?_
  refine jm_iconst C dL_does_13 ?_
  refine jm_icmp_ne 25 C dL_does_14 rfl (by decide) (by decide) (fun _ => ?_) (fun q => absurd q (by decide))
  refine jm_iload_n C dL_does_25 rfl ?_
  refine jm_iconst C dL_does_26 ?_
  refine jm_icmp_ne 39 C dL_does_27 rfl (by decide) (by decide) (fun _ => ?_) (fun q => absurd q (by decide))
  refine jm_iload_n C dL_does_39 rfl ?_
  refine jm_iconst C dL_does_40 ?_
  refine jm_icmp_ne 53 C dL_does_41 rfl (by decide) (by decide) (fun _ => ?_) (fun q => absurd q (by decide))
  refine jm_iload_n C dL_does_53 rfl ?_
  refine jm_iconst C dL_does_54 ?_
  refine jm_icmp_ne 66 C dL_does_55 rfl (by decide) (by decide) (fun _ => ?_) (fun q => absurd q (by decide))
  refine jm_iload_n C dL_does_66 rfl ?_
  refine jm_iconst C dL_does_67 ?_
  refine jm_icmp_ne 79 C dL_does_68 rfl (by decide) (by decide) (fun _ => ?_) (fun q => absurd q (by decide))
  refine jm_iload_n C dL_does_79 rfl ?_
  refine jm_bipush C dL_does_80 (by decide +kernel) ?_
  refine jm_icmp_ne 93 C dL_does_82 rfl (by decide) (by decide) (fun _ => ?_) (fun q => absurd q (by decide))
  refine jm_iload_n C dL_does_93 rfl ?_
  refine jm_bipush C dL_does_94 (by decide +kernel) ?_
  refine jm_icmp_ne 107 C dL_does_96 rfl (by decide) (by decide) (fun _ => ?_) (fun q => absurd q (by decide))
  refine jm_aload_n C dL_does_107 rfl ?_
  refine jm_iload_n C dL_does_108 rfl ?_
  refine jm_iload_n C dL_does_109 rfl ?_
  refine jm_xcVi (n := 2) (ci := 5) [] C (kxX5_ofTeam E hl0 w I ng H t k rt rk) jw_m_RL_36 okX5_ofTeam rfl ⟨rfl, rfl⟩ ⟨Nat.le_of_ble_eq_true rfl, Nat.le_of_ble_eq_true rfl⟩ rfl H.1.1 H.1.2 rfl rfl (Nat.le_of_ble_eq_true rfl) dL_does_110 ⟨Nat.le_of_ble_eq_true rfl, Nat.le_of_ble_eq_true rfl⟩ (fun cls I2 h => h.2.elim (fun q => absurd ht q.1) (fun q => absurd hk q.2.1)) (fun I2 z h => ?_)
  refine jm_wid (q' := (2, 12)) (Nat.le_of_ble_eq_true rfl) (Nat.le_of_ble_eq_true rfl) ?_
  exact hR _ _ _ _ dL_does_113 rfl ⟨h.2.2.1, h.2.2.2⟩
def hk_v9 (I : jm_M) (g t k : Int) : Int := hk_at (I (30 + g + 100 + 100)) (t * 3 + k)
set_option maxRecDepth 100000 in
set_option maxHeartbeats 4000000 in
theorem kL_stone (E : jm_E) (hl0 : E.1.stackTraces = false) (w : jm_W) (I : jm_M) (ng : Int) (H : jm_X5 E w ng) (g t k : Int) (rg : jm_R g) (rt : jm_R t) (rk : jm_R k) (hg : 0 ≤ g ∧ g < ng) (ht : (0 ≤ t ∧ t ≤ 1) ∧ (0 ≤ k ∧ k ≤ 2)) : jm_Mi E yL_stone wL_stone rcL_stone 2 12 w I [.ref (w.2.1 0), jm_v g, jm_v t, jm_v k] (fun I' z => I' = I ∧ z = hk_v9 I g t k) := by
  refine jm_in_w (cc := cL_stone) (maxL := 5) (rt := .int) (hh := [(0, 7, 8, 39)]) RL (by decide +kernel) rfl rfl (Nat.le_of_ble_eq_true rfl) (by simp [Value.category]) ?_
  intro G C tb hR hI
  refine jm_aload_n C dL_stone_0 rfl ?_
  refine jm_iload_n C dL_stone_1 rfl ?_
  refine jm_iload_n C dL_stone_2 rfl ?_
  refine jm_iload_n C dL_stone_3 rfl ?_
  refine jm_xcVi (n := 3) (ci := 5) [] C (kxX5_stone E hl0 w I ng H g t k rg rt rk) jw_m_RL_60 okX5_stone rfl ⟨rfl, rfl⟩ ⟨Nat.le_of_ble_eq_true rfl, Nat.le_of_ble_eq_true rfl⟩ rfl H.1.1 H.1.2 rfl rfl (Nat.le_of_ble_eq_true rfl) dL_stone_4 ⟨Nat.le_of_ble_eq_true rfl, Nat.le_of_ble_eq_true rfl⟩ (fun cls I2 h => absurd (And.intro hg ht) h.2.2) (fun I2 z h => ?_)
  refine jm_wid (q' := (2, 12)) (Nat.le_of_ble_eq_true rfl) (Nat.le_of_ble_eq_true rfl) ?_
  exact hR _ _ _ _ dL_stone_7 rfl ⟨h.2.2.1, h.2.2.2⟩
def hk_v10 (I : jm_M) (s x y : Int) : Int := I (10 + s + 100) (x * 61 + y)
set_option maxRecDepth 100000 in
set_option maxHeartbeats 4000000 in
theorem kL_wear (E : jm_E) (hl0 : E.1.stackTraces = false) (w : jm_W) (I : jm_M) (ng : Int) (H : jm_X5 E w ng) (s x y : Int) (rs : jm_R s) (rx : jm_R x) (ry : jm_R y) (hs : 0 ≤ s ∧ s < 3) (hx : 0 ≤ x ∧ x ≤ 8 ∧ 0 ≤ y ∧ y ≤ 60) : jm_Mi E yL_wear wL_wear rcL_wear 2 12 w I [.ref (w.2.1 0), jm_v s, jm_v x, jm_v y] (fun I' z => I' = I ∧ z = hk_v10 I s x y) := by
  refine jm_in_w (cc := cL_wear) (maxL := 5) (rt := .int) (hh := [(0, 7, 8, 39)]) RL (by decide +kernel) rfl rfl (Nat.le_of_ble_eq_true rfl) (by simp [Value.category]) ?_
  intro G C tb hR hI
  refine jm_aload_n C dL_wear_0 rfl ?_
  refine jm_iload_n C dL_wear_1 rfl ?_
  refine jm_iload_n C dL_wear_2 rfl ?_
  refine jm_iload_n C dL_wear_3 rfl ?_
  refine jm_xcVi (n := 3) (ci := 5) [] C (kxX5_wear E hl0 w I ng H s x y rs rx ry) jw_m_RL_56 okX5_wear rfl ⟨rfl, rfl⟩ ⟨Nat.le_of_ble_eq_true rfl, Nat.le_of_ble_eq_true rfl⟩ rfl H.1.1 H.1.2 rfl rfl (Nat.le_of_ble_eq_true rfl) dL_wear_4 ⟨Nat.le_of_ble_eq_true rfl, Nat.le_of_ble_eq_true rfl⟩ (fun cls I2 h => absurd (And.intro hs hx) h.2.2) (fun I2 z h => ?_)
  refine jm_wid (q' := (2, 12)) (Nat.le_of_ble_eq_true rfl) (Nat.le_of_ble_eq_true rfl) ?_
  exact hR _ _ _ _ dL_wear_7 rfl ⟨h.2.2.1, h.2.2.2⟩
set_option maxRecDepth 100000 in
set_option maxHeartbeats 4000000 in
theorem kL_d1 (E : jm_E) (hl0 : E.1.stackTraces = false) (w : jm_W) (I : jm_M) (ng : Int) (H : jm_X5 E w ng) (k z0 : Int) (rk : jm_R k) (hnow : 0 ≤ I 0 5 ∧ I 0 5 ≤ 9999) (hck : hk_ck I ng) (hk : 1 ≤ k ∧ k ≤ 48) (hn : I 0 5 + k ≤ 9999) : jm_Mi E yL_does wL_does rcL_does 2 12 w I [.ref (w.2.1 0), jm_v 1, jm_v k, jm_v z0] (fun I' z => I' = hk_cpn I ng k.toNat ∧ z = I 0 5 + k) := by
  refine jm_in_w (cc := cL_does) (maxL := 5) (rt := .int) (hh := [(0, 113, 114, 39), (0, 113, 120, 41), (0, 113, 126, 43)]) RL (by decide +kernel) rfl rfl (Nat.le_of_ble_eq_true rfl) (by simp [Value.category]) ?_
  intro G C tb hR hI
  refine jm_iload_n C dL_does_0 rfl ?_
  refine jm_if_ne 12 C dL_does_1 rfl (by decide) (fun _ => ?_) (fun q => absurd q (by decide))
  refine jm_iload_n C dL_does_12 rfl ?_
  refine jm_iconst C dL_does_13 ?_
  refine jm_icmp_ne 25 C dL_does_14 rfl (by decide) (by decide) (fun q => absurd rfl q) (fun _ => ?_)
  refine jm_aload_n C dL_does_17 rfl ?_
  refine jm_iload_n C dL_does_18 rfl ?_
  refine jm_xcVi (n := 1) (ci := 5) [] C (kxX5_pass E hl0 w I ng H k rk hnow hck) jw_m_RL_14 okX5_pass rfl ⟨rfl, rfl⟩ ⟨Nat.le_of_ble_eq_true rfl, Nat.le_of_ble_eq_true rfl⟩ rfl H.1.1 H.1.2 rfl rfl (Nat.le_of_ble_eq_true rfl) dL_does_19 ⟨Nat.le_of_ble_eq_true rfl, Nat.le_of_ble_eq_true rfl⟩ (fun cls I2 h => h.2.elim (fun q => absurd hk q.1) (fun q => absurd hn q.2.1)) (fun I2 z h => ?_)
  refine jm_goto 113 C dL_does_22 rfl ?_
  refine jm_wid (q' := (2, 12)) (Nat.le_of_ble_eq_true rfl) (Nat.le_of_ble_eq_true rfl) ?_
  exact hR _ _ _ _ dL_does_113 rfl ⟨h.2.2.1, h.2.2.2⟩
def hk_ptries (I I' : jm_M) (g lane wt tn lo hi z : Int) : Prop := ((I (30 + g) 5 = 1 ∨ I (30 + g) 5 = 2) ∧ hk_off I I' ∧ z = (hk_thr (I (10 + I (30 + g) 6 + 100)) (I (30 + g + 100 + 100)) (hk_slot I (30 + g)) lane (10 * wt) tn lo hi).1) ∨ (¬ (I (30 + g) 5 = 1 ∨ I (30 + g) 5 = 2) ∧ I' = I ∧ z = -700)
set_option maxRecDepth 100000 in
set_option maxHeartbeats 4000000 in
theorem kL_tries (E : jm_E) (hl0 : E.1.stackTraces = false) (w : jm_W) (I : jm_M) (ng : Int) (H : jm_X5 E w ng) (g : Int) (lane wt tn lo hi : Int) (g1 : jm_R g) (g2 : jm_R lane) (g3 : jm_R wt) (g4 : jm_R tn) (g5 : jm_R lo) (g6 : jm_R hi) (hpr : ∀ i, 0 ≤ i → i < ng → I (30 + i) 5 = 1 ∨ I (30 + i) 5 = 2 → hk_wpre I (30 + i)) (hg : 0 ≤ g ∧ g < ng) (hsh : hk_shot lane wt tn lo hi) : jm_Mi E yL_tries wL_tries rcL_tries 2 12 w I [.ref (w.2.1 0), jm_v g, jm_v lane, jm_v wt, jm_v tn, jm_v lo, jm_v hi] (fun I' z => hk_ptries I I' g lane wt tn lo hi z) := by
  refine jm_in_w (cc := cL_tries) (maxL := 8) (rt := .int) (hh := [(0, 13, 14, 39), (0, 13, 20, 41), (0, 13, 26, 43)]) RL (by decide +kernel) rfl rfl (Nat.le_of_ble_eq_true rfl) (by simp [Value.category]) ?_
  intro G C tb hR hI
  refine jm_aload_n C dL_tries_0 rfl ?_
  refine jm_iload_n C dL_tries_1 rfl ?_
  refine jm_iload_n C dL_tries_2 rfl ?_
  refine jm_iload_n C dL_tries_3 rfl ?_
  refine jm_iload C dL_tries_4 rfl ?_
  refine jm_iload C dL_tries_6 rfl ?_
  refine jm_iload C dL_tries_8 rfl ?_
  refine jm_xcVi (n := 6) (ci := 5) [] C (kxX5_tries E hl0 w I ng H g lane wt tn lo hi g1 g2 g3 g4 g5 g6 hpr) jw_m_RL_53 okX5_tries rfl ⟨rfl, rfl⟩ ⟨Nat.le_of_ble_eq_true rfl, Nat.le_of_ble_eq_true rfl⟩ rfl H.1.1 H.1.2 rfl rfl (Nat.le_of_ble_eq_true rfl) dL_tries_10 ⟨Nat.le_of_ble_eq_true rfl, Nat.le_of_ble_eq_true rfl⟩ (fun cls I2 h => ?_) (fun I2 z h => ?_)
  · rcases h.2 with q | q | q
    · exact absurd hg q.1
    · exact absurd hsh q.2.1
    · obtain rfl := q.2.2.2
      refine jm_catch [⟨0, 13, 14, 39⟩, ⟨0, 13, 20, 41⟩] ⟨0, 13, 26, 43⟩ [] C tb rfl (List.forall_mem_cons.mpr ⟨⟨by decide, _, jw_L_RL39, jm_c31⟩, List.forall_mem_cons.mpr ⟨⟨by decide, _, jw_L_RL41, jm_c32⟩, fun _ q => absurd q List.not_mem_nil⟩⟩) (by decide) (by decide) jw_L_RL43 jm_b3 (fun a9 => ?_)
      refine jm_astore C dL_tries_26 (by decide) ?_
      refine jm_sipush C dL_tries_28 (by decide +kernel) ?_
      refine jm_wid (q' := (2, 12)) (Nat.le_of_ble_eq_true rfl) (Nat.le_of_ble_eq_true rfl) ?_
      exact hR _ _ _ _ dL_tries_31 rfl (Or.inr ⟨q.2.2.1, h.1, rfl⟩)
  · refine jm_wid (q' := (2, 12)) (Nat.le_of_ble_eq_true rfl) (Nat.le_of_ble_eq_true rfl) ?_
    exact hR _ _ _ _ dL_tries_13 rfl (Or.inl ⟨h.2.2.1, h.2.2.2⟩)
def hk_pshoots (I I' : jm_M) (g lane wt tn lo hi z : Int) : Prop := ((I (30 + g) 5 = 1 ∨ I (30 + g) 5 = 2) ∧ z = (hk_thr (I (10 + I (30 + g) 6 + 100)) (I (30 + g + 100 + 100)) (hk_slot I (30 + g)) lane (10 * wt) tn lo hi).1 ∧ ∃ M : jm_M, (∀ a, a ≠ 4 → a ≠ 4 + 100 + 100 → a ≠ 10 + I (30 + g) 6 + 100 → M a = I a) ∧ hk_eq6 (M (4 + 100 + 100)) (hk_thr (I (10 + I (30 + g) 6 + 100)) (I (30 + g + 100 + 100)) (hk_slot I (30 + g)) lane (10 * wt) tn lo hi).2.2 ∧ M (10 + I (30 + g) 6 + 100) = (hk_thr (I (10 + I (30 + g) 6 + 100)) (I (30 + g + 100 + 100)) (hk_slot I (30 + g)) lane (10 * wt) tn lo hi).2.1 ∧ hk_w9 (M (10 + I (30 + g) 6 + 100)) ∧ hk_good (hk_thr (I (10 + I (30 + g) 6 + 100)) (I (30 + g + 100 + 100)) (hk_slot I (30 + g)) lane (10 * wt) tn lo hi).2.2 ∧ I' = (if I (30 + g) 5 = 1 then hk_sdr M (30 + g) (hk_dist (hk_thr (I (10 + I (30 + g) 6 + 100)) (I (30 + g + 100 + 100)) (hk_slot I (30 + g)) lane (10 * wt) tn lo hi).1) else hk_sst (hk_fill M (30 + g + 100 + 100) 6 (M (4 + 100 + 100))) (30 + g))) ∨ (¬ (I (30 + g) 5 = 1 ∨ I (30 + g) 5 = 2) ∧ I' = I ∧ z = -700)
set_option maxRecDepth 100000 in
set_option maxHeartbeats 4000000 in
theorem kL_shoots (E : jm_E) (hl0 : E.1.stackTraces = false) (w : jm_W) (I : jm_M) (ng : Int) (H : jm_X5 E w ng) (g : Int) (lane wt tn lo hi : Int) (g1 : jm_R g) (g2 : jm_R lane) (g3 : jm_R wt) (g4 : jm_R tn) (g5 : jm_R lo) (g6 : jm_R hi) (hpr : ∀ i, 0 ≤ i → i < ng → I (30 + i) 5 = 1 ∨ I (30 + i) 5 = 2 → hk_wpre I (30 + i)) (hex : ∀ i, 0 ≤ i → i < ng → I (30 + i) 5 = 1 ∨ I (30 + i) 5 = 2 → (0 ≤ I (30 + i) 0 ∧ I (30 + i) 0 < 6) ∧ (0 ≤ I (30 + i) 1 ∧ I (30 + i) 1 < 6) ∧ (0 ≤ I (30 + i) 11 ∧ I (30 + i) 11 ≤ 100000) ∧ (0 ≤ I (30 + i) 8 ∧ I (30 + i) 8 ≤ 100000) ∧ (0 ≤ I (30 + i) 9 ∧ I (30 + i) 9 ≤ 100000) ∧ (0 ≤ I (30 + i) 10 ∧ I (30 + i) 10 ≤ 100000)) (hwn : ∀ t, 0 ≤ t → t < 6 → 0 ≤ I (20 + t) 0 ∧ I (20 + t) 0 ≤ 1000000) (htm : ∀ t, 0 ≤ t → t < 6 → (0 ≤ I (20 + t) 1 ∧ I (20 + t) 1 ≤ 1000000) ∧ (0 ≤ I (20 + t) 2 ∧ I (20 + t) 2 ≤ 1000000)) (hg : 0 ≤ g ∧ g < ng) (hsh : hk_shot lane wt tn lo hi) : jm_Mi E yL_shoots wL_shoots rcL_shoots 2 12 w I [.ref (w.2.1 0), jm_v g, jm_v lane, jm_v wt, jm_v tn, jm_v lo, jm_v hi] (fun I' z => hk_pshoots I I' g lane wt tn lo hi z) := by
  refine jm_in_w (cc := cL_shoots) (maxL := 8) (rt := .int) (hh := [(0, 13, 14, 39), (0, 13, 20, 41), (0, 13, 26, 43)]) RL (by decide +kernel) rfl rfl (Nat.le_of_ble_eq_true rfl) (by simp [Value.category]) ?_
  intro G C tb hR hI
  refine jm_aload_n C dL_shoots_0 rfl ?_
  refine jm_iload_n C dL_shoots_1 rfl ?_
  refine jm_iload_n C dL_shoots_2 rfl ?_
  refine jm_iload_n C dL_shoots_3 rfl ?_
  refine jm_iload C dL_shoots_4 rfl ?_
  refine jm_iload C dL_shoots_6 rfl ?_
  refine jm_iload C dL_shoots_8 rfl ?_
  refine jm_xcVi (n := 6) (ci := 5) [] C (kxX5_shoot E hl0 w I ng H g lane wt tn lo hi g1 g2 g3 g4 g5 g6 hpr hex hwn htm) jw_m_RL_49 okX5_shoot rfl ⟨rfl, rfl⟩ ⟨Nat.le_of_ble_eq_true rfl, Nat.le_of_ble_eq_true rfl⟩ rfl H.1.1 H.1.2 rfl rfl (Nat.le_of_ble_eq_true rfl) dL_shoots_10 ⟨Nat.le_of_ble_eq_true rfl, Nat.le_of_ble_eq_true rfl⟩ (fun cls I2 h => ?_) (fun I2 z h => ?_)
  · rcases h.2 with q | q | q
    · exact absurd hg q.1
    · exact absurd hsh q.2.1
    · obtain rfl := q.2.2.2
      refine jm_catch [⟨0, 13, 14, 39⟩, ⟨0, 13, 20, 41⟩] ⟨0, 13, 26, 43⟩ [] C tb rfl (List.forall_mem_cons.mpr ⟨⟨by decide, _, jw_L_RL39, jm_c31⟩, List.forall_mem_cons.mpr ⟨⟨by decide, _, jw_L_RL41, jm_c32⟩, fun _ q => absurd q List.not_mem_nil⟩⟩) (by decide) (by decide) jw_L_RL43 jm_b3 (fun a9 => ?_)
      refine jm_astore C dL_shoots_26 (by decide) ?_
      refine jm_sipush C dL_shoots_28 (by decide +kernel) ?_
      refine jm_wid (q' := (2, 12)) (Nat.le_of_ble_eq_true rfl) (Nat.le_of_ble_eq_true rfl) ?_
      exact hR _ _ _ _ dL_shoots_31 rfl (Or.inr ⟨q.2.2.1, h.1, rfl⟩)
  · refine jm_wid (q' := (2, 12)) (Nat.le_of_ble_eq_true rfl) (Nat.le_of_ble_eq_true rfl) ?_
    exact hR _ _ _ _ dL_shoots_13 rfl (Or.inl ⟨h.2.2.1, h.2.2.2⟩)
def hk_pplans (E : jm_E) (w w' : jm_W) (I I' : jm_M) (ng a b h s z : Int) : Prop := z = ng ∧ jm_X5 E w' (ng + 1) ∧ hk_sm w w' ng ∧ (∀ y, y ≠ 4 → I' 0 y = I 0 y) ∧ I' 0 4 = ng + 1 ∧ (∀ x, x ≠ 0 → x ≠ 30 + ng → x ≠ 30 + ng + 100 → x ≠ 30 + ng + 100 + 100 → I' x = I x) ∧ hk_gnew I' (30 + ng) a b s h
set_option maxRecDepth 100000 in
set_option maxHeartbeats 4000000 in
theorem kL_plans (E : jm_E) (hl0 : E.1.stackTraces = false) (w : jm_W) (I : jm_M) (ng : Int) (H : jm_X5 E w ng) (h4 : I 0 4 = ng) (hnow : 0 ≤ I 0 5 ∧ I 0 5 ≤ 9999) (a b h s : Int) (g1 : jm_R a) (g2 : jm_R b) (g3 : jm_R h) (g4 : jm_R s) (hn1 : ng < 12 → 30 + ng ∉ w.1 ∧ 30 + ng + 100 ∉ w.1 ∧ 30 + ng + 100 + 100 ∉ w.1) (ha : (0 ≤ a ∧ a ≤ 5) ∧ (0 ≤ b ∧ b ≤ 5) ∧ (0 ≤ s ∧ s ≤ 2)) (hh : a ≠ b ∧ I 0 5 + 1 ≤ h ∧ h ≤ 9999) (h12 : ng < 12) : jm_Mw E yL_plans wL_plans rcL_plans 3 20 w I [.ref (w.2.1 0), jm_v a, jm_v b, jm_v h, jm_v s] (fun w' I' z => hk_pplans E w w' I I' ng a b h s z) := by
  refine jm_in_ww (cc := cL_plans) (maxL := 6) (rt := .int) (hh := [(0, 9, 10, 39), (0, 9, 16, 41), (0, 9, 22, 43)]) RL (by decide +kernel) rfl rfl (Nat.le_of_ble_eq_true rfl) (by simp [Value.category]) ?_
  intro G C tb hR hI
  refine jm_aload_n C dL_plans_0 rfl ?_
  refine jm_iload_n C dL_plans_1 rfl ?_
  refine jm_iload_n C dL_plans_2 rfl ?_
  refine jm_iload_n C dL_plans_3 rfl ?_
  refine jm_iload C dL_plans_4 rfl ?_
  refine jm_xcVw (n := 4) (ci := 5) [] C (kxX5_plan E hl0 w I ng H h4 hnow a b h s g1 g2 g3 g4 hn1) jw_m_RL_45 okX5_plan rfl ⟨rfl, rfl⟩ ⟨Nat.le_of_ble_eq_true rfl, Nat.le_of_ble_eq_true rfl⟩ rfl H.1.1 H.1.2 rfl rfl (Nat.le_of_ble_eq_true rfl) dL_plans_6 ⟨Nat.le_of_ble_eq_true rfl, Nat.le_of_ble_eq_true rfl⟩ (fun cls I2 q => ?_) (fun w2 I2 z q => ?_)
  · rcases q.2 with q | q | q
    · exact absurd ha q.1
    · exact absurd hh q.2.1
    · exact absurd h12 q.2.2.1
  · refine jm_wid (q' := (3, 20)) (Nat.le_of_ble_eq_true rfl) (Nat.le_of_ble_eq_true rfl) ?_
    exact hR _ _ _ _ _ dL_plans_9 rfl q.2.2.2
set_option maxRecDepth 100000 in
set_option maxHeartbeats 4000000 in
theorem kL_mirrored (E : jm_E) (w : jm_W) (I : jm_M) (p : Int) (hp : -1000 ≤ p ∧ p ≤ 100000) : jm_Mi E yL_mirrored wL_mirrored rcL_mirrored 0 0 w I [jm_v p] (fun I' z => I' = I ∧ z = hk_mi p) := by
  refine jm_in_i (cc := cL_mirrored) (maxL := 1) (rt := .int) RL (by decide +kernel) rfl rfl (Nat.le_of_ble_eq_true rfl) (by simp [Value.category]) ?_
  intro G C hR hI
  have hr : jm_R p := ⟨by omega, by omega⟩
  refine jm_iload_n C dL_mirrored_0 rfl ?_
  refine jm_if_ge 8 C dL_mirrored_1 rfl hr (fun q => ?_) (fun q => ?_)
  · have d := hk_div p q
    refine jm_sipush C dL_mirrored_8 (by decide +kernel) ?_
    refine jm_iload_n C dL_mirrored_11 rfl ?_
    refine jm_bipush C dL_mirrored_12 (by decide +kernel) ?_
    refine jm_idiv C dL_mirrored_14 hr (by decide) (by decide) ?_
    refine jm_bipush C dL_mirrored_15 (by decide +kernel) ?_
    refine jm_imul C dL_mirrored_17 ?_
    refine jm_isub C dL_mirrored_18 ?_
    refine jm_iload_n C dL_mirrored_19 rfl ?_
    refine jm_bipush C dL_mirrored_20 (by decide +kernel) ?_
    refine jm_irem C dL_mirrored_22 hr (by decide) (by decide) ?_
    refine jm_iadd C dL_mirrored_23 ?_
    exact hR _ _ _ _ dL_mirrored_24 rfl ⟨rfl, by unfold hk_mi; rw [if_neg (by omega), d.1, d.2]⟩
  · refine jm_iload_n C dL_mirrored_4 rfl ?_
    refine jm_goto 24 C dL_mirrored_5 rfl ?_
    exact hR _ _ _ _ dL_mirrored_24 rfl ⟨rfl, by unfold hk_mi; rw [if_pos (by omega)]⟩
theorem hk_and (x : Int32) : 0 ≤ (x &&& 1073741823).toInt ∧ (x &&& 1073741823).toInt ≤ 1073741823 := by
  have h : (x &&& 1073741823).toBitVec.toNat ≤ 1073741823 := by
    rw [Int32.toBitVec_and, BitVec.toNat_and]
    exact Nat.le_trans Nat.and_le_right (by decide)
  rw [show (x &&& 1073741823).toInt = (x &&& 1073741823).toBitVec.toInt from rfl, BitVec.toInt_eq_toNat_of_lt (by omega)]
  omega
theorem jm_ldc {E : jm_E} {G : jm_G} {q : Nat × Nat} {w : jm_W} {I : jm_M} {pc : Nat} {lv : List (Nat × Value)} {st : List Value} {cc : ByteArray} {nL : Nat} {own : String} {rm : Room} {index : Nat} {v : Int} {x : Int32} (C : jm_C E G cc nL own rm) (hc : Cond.constant own index x ∈ jm_W0) (hx : x = jm_i v) (hd : decode cc pc = .ok (.ldc index, 2)) (k : jm_J E G q w I (pc + 2) lv (jm_v v :: st)) : jm_J E G q w I pc lv st := by
  subst hx
  obtain ⟨l, D, ca⟩ := E
  obtain ⟨p, e, R, s, m, args, below, meth, c, Q, A⟩ := G
  intro H locs ls hI hP hD hS hl
  obtain ⟨hx, hb, hml, hown, hts, -, hK, -⟩ := C
  exact lv_ldc hx hb hown (hts _ hc) hd (k H locs ls hI hP hD hS hl)
set_option maxRecDepth 100000 in
set_option maxHeartbeats 4000000 in
theorem kL_drawn (E : jm_E) (w : jm_W) (I : jm_M) (b L : Nat) (xs : Nat → Int32) (hL : L ≤ 260) (k : Int) (hk : 0 ≤ k ∧ k < 1000) : jm_MiX b L xs E yL_drawn wL_drawn rcL_drawn 0 0 w I [.ref b, jm_v k] (fun I' z => I' = I ∧ 0 ≤ z ∧ z ≤ 1073741823) := by
  refine jm_in_X (cc := cL_drawn) (maxL := 3) (rt := .int) RL (by decide +kernel) rfl rfl (Nat.le_of_ble_eq_true rfl) (by simp [Value.category]) ?_
  intro G C S hR hI
  have fin : ∀ (g : Int) (lv : List (Nat × Value)), jm_J E G (0, 0) w I 21 lv [jm_v g] := fun g lv => by
    refine jm_istore_n C dL_drawn_21 (by decide) ?_
    refine jm_iload_n C dL_drawn_22 rfl ?_
    refine jm_ldc (v := 1073741823) C jw_K_RL7 (by decide +kernel) dL_drawn_23 ?_
    refine jm_iand C dL_drawn_25 ?_
    have z := hk_and (jm_i g)
    rw [show (1073741823 : Int32) = jm_i 1073741823 by decide +kernel] at z
    exact hR _ _ _ _ dL_drawn_26 rfl ⟨rfl, z⟩
  refine jm_iload_n C dL_drawn_0 rfl ?_
  refine jm_aload_n C dL_drawn_1 rfl ?_
  refine jm_slen C S dL_drawn_2 ?_
  refine jm_icmp_ge 12 C dL_drawn_3 rfl (by constructor <;> omega) (by constructor <;> omega) (fun q => ?_) (fun q => ?_)
  · refine jm_sipush C dL_drawn_12 (by decide +kernel) ?_
    refine jm_iload_n C dL_drawn_15 rfl ?_
    refine jm_imul C dL_drawn_16 ?_
    refine jm_sipush C dL_drawn_17 (by decide +kernel) ?_
    refine jm_iadd C dL_drawn_20 ?_
    exact fin _ _
  · refine jm_aload_n C dL_drawn_6 rfl ?_
    refine jm_iload_n C dL_drawn_7 rfl ?_
    refine jm_sld C S hk.1 (by omega) (by constructor <;> omega) dL_drawn_8 ?_
    refine jm_goto 21 C dL_drawn_9 rfl ?_
    exact fin _ _
