set_option maxRecDepth 100000 in
theorem okL_crew : jm_okW RL yL_crew cL_crew 4 (some .int) [(0, 9, 12, 15)] 3 := ⟨jm_in 356 rfl rfl, jw_n_RL, jm_in 357 rfl rfl, rfl, ⟨by decide +kernel, by decide +kernel, by decide +kernel⟩, by decide +kernel⟩
def wL_crew : List Cond := Cond.codeWith yL_crew cL_crew 4 (some .int) [(0, 9, 12, 15)] :: jm_W0
abbrev rcL_crew : Room := jm_rx rmL_crew 2 12
set_option maxRecDepth 100000 in
set_option maxHeartbeats 4000000 in
theorem kL_crew (E : jm_E) (hl0 : E.1.stackTraces = false) (w : jm_W) (I : jm_M) (ng : Int) (H : jm_X5 E w ng) (n : Int) (hn : jm_R n) (hO : 299 ∈ w.1 ∧ w.2.2 299 = jm_La (E.2.2 2) 1) : jm_Mi E yL_crew wL_crew rcL_crew 2 12 w I [.ref (w.2.1 0), jm_v n, .ref (w.2.1 299)] (hk_wp (fun I' z => (1 ≤ n ∧ n ≤ 6) ∧ I' = jm_up I 0 6 n ∧ z = I 0 6) (fun cls I' => I' = I ∧ cls = "java/lang/IllegalArgumentException" ∧ ¬ (1 ≤ n ∧ n ≤ 6)) [("java/lang/IllegalArgumentException", 1)]) := by
  refine jm_in_w (cc := cL_crew) (maxL := 4) (rt := .int) (hh := [(0, 9, 12, 15)]) RL (by decide +kernel) rfl rfl (Nat.le_of_ble_eq_true rfl) (by simp [Value.category]) ?_
  intro G C tb hR hI
  refine jm_aload_n C dL_crew_0 rfl ?_
  refine jm_iconst C dL_crew_1 ?_
  refine jm_aload_n C dL_crew_2 rfl ?_
  refine jm_iload_n C dL_crew_3 rfl ?_
  refine jm_xcVi (n := 1) (ci := 5) [jm_v 0, .ref (w.2.1 299)] C (kxX5_crew E hl0 w I ng H n hn) jw_m_RL_19 okX5_crew rfl ⟨rfl, rfl⟩ ⟨Nat.le_of_ble_eq_true rfl, Nat.le_of_ble_eq_true rfl⟩ rfl H.1.1 H.1.2 rfl rfl (Nat.le_of_ble_eq_true rfl) dL_crew_4 ⟨Nat.le_of_ble_eq_true rfl, Nat.le_of_ble_eq_true rfl⟩ (fun cls I2 h => ?_) (fun I2 z h => ?_)
  · have hh := h
    obtain rfl := h.2.1
    refine jm_catch [] ⟨0, 9, 12, 15⟩ [] C tb rfl (fun _ q => absurd q List.not_mem_nil) (by decide) (by decide) jw_L_RL15 jm_b2 (fun a9 => ?_)
    refine jm_astore_n C dL_crew_12 (by decide) ?_
    refine jm_iconst C dL_crew_13 ?_
    refine jm_wid (q' := (2, 12)) (Nat.le_of_ble_eq_true rfl) (Nat.le_of_ble_eq_true rfl) ?_
    exact hR _ _ _ _ dL_crew_14 rfl (Or.inr ⟨_, List.mem_of_getElem? (i := 0) rfl, hh, rfl⟩)
  · obtain ⟨v, hv, ev⟩ : ∃ v, jm_R v ∧ jm_i v = jm_i z := ⟨(jm_i z).toInt, jm_R_of _, jm_i_of _⟩
    rw [show jm_v z = jm_v v from congrArg Value.int ev.symm]
    refine jm_i2l C dL_crew_7 hv ?_
    refine jm_last C hO.1 rfl hO.2 (by decide) (by decide) (by decide) dL_crew_8 hv ?_
    refine jm_goto 15 C dL_crew_9 rfl ?_
    refine jm_iconst C dL_crew_15 ?_
    refine jm_wid (q' := (2, 12)) (Nat.le_of_ble_eq_true rfl) (Nat.le_of_ble_eq_true rfl) ?_
    exact hR _ _ _ _ dL_crew_16 rfl (Or.inl ⟨rfl, I2, z, v, h, hv, ev, rfl⟩)
set_option maxRecDepth 100000 in
theorem okL_pass : jm_okW RL yL_pass cL_pass 4 (some .int) [(0, 9, 12, 15), (0, 9, 15, 17)] 3 := ⟨jm_in 511 rfl rfl, jw_n_RL, jm_in 512 rfl rfl, rfl, ⟨by decide +kernel, by decide +kernel, by decide +kernel⟩, by decide +kernel⟩
def wL_pass : List Cond := Cond.codeWith yL_pass cL_pass 4 (some .int) [(0, 9, 12, 15), (0, 9, 15, 17)] :: jm_W0
abbrev rcL_pass : Room := jm_rx rmL_pass 2 12
set_option maxRecDepth 100000 in
set_option maxHeartbeats 4000000 in
theorem kL_pass (E : jm_E) (hl0 : E.1.stackTraces = false) (w : jm_W) (I : jm_M) (ng : Int) (H : jm_X5 E w ng) (k : Int) (h1 : jm_R k) (hnow : 0 ≤ I 0 5 ∧ I 0 5 ≤ 9999) (hck : hk_ck I ng) (hO : 299 ∈ w.1 ∧ w.2.2 299 = jm_La (E.2.2 2) 1) : jm_Mi E yL_pass wL_pass rcL_pass 2 12 w I [.ref (w.2.1 0), jm_v k, .ref (w.2.1 299)] (hk_wp (fun I' z => (1 ≤ k ∧ k ≤ 48) ∧ (I 0 5 + k ≤ 9999) ∧ I' = hk_cpn I ng k.toNat ∧ z = I 0 5 + k) (fun cls I' => I' = I ∧ ((¬ (1 ≤ k ∧ k ≤ 48) ∧ cls = "java/lang/IllegalArgumentException") ∨ ((1 ≤ k ∧ k ≤ 48) ∧ ¬ (I 0 5 + k ≤ 9999) ∧ cls = "java/lang/IllegalStateException"))) [("java/lang/IllegalArgumentException", 1), ("java/lang/IllegalStateException", 2)]) := by
  refine jm_in_w (cc := cL_pass) (maxL := 4) (rt := .int) (hh := [(0, 9, 12, 15), (0, 9, 15, 17)]) RL (by decide +kernel) rfl rfl (Nat.le_of_ble_eq_true rfl) (by simp [Value.category]) ?_
  intro G C tb hR hI
  refine jm_aload_n C dL_pass_0 rfl ?_
  refine jm_iconst C dL_pass_1 ?_
  refine jm_aload_n C dL_pass_2 rfl ?_
  refine jm_iload_n C dL_pass_3 rfl ?_
  refine jm_xcVi (n := 1) (ci := 5) [jm_v 0, .ref (w.2.1 299)] C (kxX5_pass E hl0 w I ng H k h1 hnow hck) jw_m_RL_27 okX5_pass rfl ⟨rfl, rfl⟩ ⟨Nat.le_of_ble_eq_true rfl, Nat.le_of_ble_eq_true rfl⟩ rfl H.1.1 H.1.2 rfl rfl (Nat.le_of_ble_eq_true rfl) dL_pass_4 ⟨Nat.le_of_ble_eq_true rfl, Nat.le_of_ble_eq_true rfl⟩ (fun cls I2 h => ?_) (fun I2 z h => ?_)
  · have hh := h
    rcases h.2 with q | q
    · obtain rfl := q.2
      refine jm_catch [] ⟨0, 9, 12, 15⟩ [⟨0, 9, 15, 17⟩] C tb rfl (fun _ q => absurd q List.not_mem_nil) (by decide) (by decide) jw_L_RL15 jm_b2 (fun a9 => ?_)
      refine jm_astore_n C dL_pass_12 (by decide) ?_
      refine jm_iconst C dL_pass_13 ?_
      refine jm_wid (q' := (2, 12)) (Nat.le_of_ble_eq_true rfl) (Nat.le_of_ble_eq_true rfl) ?_
      exact hR _ _ _ _ dL_pass_14 rfl (Or.inr ⟨_, List.mem_of_getElem? (i := 0) rfl, hh, rfl⟩)
    · obtain rfl := q.2.2
      refine jm_catch [⟨0, 9, 12, 15⟩] ⟨0, 9, 15, 17⟩ [] C tb rfl (List.forall_mem_cons.mpr ⟨⟨by decide, _, jw_L_RL15, jm_c32⟩, fun _ q => absurd q List.not_mem_nil⟩) (by decide) (by decide) jw_L_RL17 jm_b3 (fun a9 => ?_)
      refine jm_astore_n C dL_pass_15 (by decide) ?_
      refine jm_iconst C dL_pass_16 ?_
      refine jm_wid (q' := (2, 12)) (Nat.le_of_ble_eq_true rfl) (Nat.le_of_ble_eq_true rfl) ?_
      exact hR _ _ _ _ dL_pass_17 rfl (Or.inr ⟨_, List.mem_of_getElem? (i := 1) rfl, hh, rfl⟩)
  · obtain ⟨v, hv, ev⟩ : ∃ v, jm_R v ∧ jm_i v = jm_i z := ⟨(jm_i z).toInt, jm_R_of _, jm_i_of _⟩
    rw [show jm_v z = jm_v v from congrArg Value.int ev.symm]
    refine jm_i2l C dL_pass_7 hv ?_
    refine jm_last C hO.1 rfl hO.2 (by decide) (by decide) (by decide) dL_pass_8 hv ?_
    refine jm_goto 18 C dL_pass_9 rfl ?_
    refine jm_iconst C dL_pass_18 ?_
    refine jm_wid (q' := (2, 12)) (Nat.le_of_ble_eq_true rfl) (Nat.le_of_ble_eq_true rfl) ?_
    exact hR _ _ _ _ dL_pass_19 rfl (Or.inl ⟨rfl, I2, z, v, h, hv, ev, rfl⟩)
set_option maxRecDepth 100000 in
theorem okL_ofSheet : jm_okW RL yL_ofSheet cL_ofSheet 5 (some .int) [(0, 10, 13, 13), (0, 10, 17, 15)] 4 := ⟨jm_in 547 rfl rfl, jw_n_RL, jm_in 548 rfl rfl, rfl, ⟨by decide +kernel, by decide +kernel, by decide +kernel⟩, by decide +kernel⟩
def wL_ofSheet : List Cond := Cond.codeWith yL_ofSheet cL_ofSheet 5 (some .int) [(0, 10, 13, 13), (0, 10, 17, 15)] :: jm_W0
abbrev rcL_ofSheet : Room := jm_rx rmL_ofSheet 2 12
set_option maxRecDepth 100000 in
set_option maxHeartbeats 4000000 in
theorem kL_ofSheet (E : jm_E) (hl0 : E.1.stackTraces = false) (w : jm_W) (I : jm_M) (ng : Int) (H : jm_X5 E w ng) (s k : Int) (h1 : jm_R s) (h2 : jm_R k) (hO : 299 ∈ w.1 ∧ w.2.2 299 = jm_La (E.2.2 2) 1) : jm_Mi E yL_ofSheet wL_ofSheet rcL_ofSheet 2 12 w I [.ref (w.2.1 0), jm_v s, jm_v k, .ref (w.2.1 299)] (hk_wp (fun I' z => (0 ≤ s ∧ s < 3) ∧ (0 ≤ k ∧ k ≤ 3) ∧ I' = I ∧ z = if k = 0 then (if I (10 + s) 1 = 0 then 0 else 1) else if k = 1 then I (10 + s) 2 else if k = 2 then hk_sum (I (10 + s + 100)) 549 else if I 0 7 = s then I 0 8 else 0) (fun cls I' => I' = I ∧ ((¬ (0 ≤ s ∧ s < 3) ∧ cls = "java/lang/IndexOutOfBoundsException") ∨ ((0 ≤ s ∧ s < 3) ∧ ¬ (0 ≤ k ∧ k ≤ 3) ∧ cls = "java/lang/IllegalArgumentException"))) [("java/lang/IndexOutOfBoundsException", 1), ("java/lang/IllegalArgumentException", 2)]) := by
  refine jm_in_w (cc := cL_ofSheet) (maxL := 5) (rt := .int) (hh := [(0, 10, 13, 13), (0, 10, 17, 15)]) RL (by decide +kernel) rfl rfl (Nat.le_of_ble_eq_true rfl) (by simp [Value.category]) ?_
  intro G C tb hR hI
  refine jm_aload_n C dL_ofSheet_0 rfl ?_
  refine jm_iconst C dL_ofSheet_1 ?_
  refine jm_aload_n C dL_ofSheet_2 rfl ?_
  refine jm_iload_n C dL_ofSheet_3 rfl ?_
  refine jm_iload_n C dL_ofSheet_4 rfl ?_
  refine jm_xcVi (n := 2) (ci := 5) [jm_v 0, .ref (w.2.1 299)] C (kxX5_ofSheet E hl0 w I ng H s k h1 h2) jw_m_RL_30 okX5_ofSheet rfl ⟨rfl, rfl⟩ ⟨Nat.le_of_ble_eq_true rfl, Nat.le_of_ble_eq_true rfl⟩ rfl H.1.1 H.1.2 rfl rfl (Nat.le_of_ble_eq_true rfl) dL_ofSheet_5 ⟨Nat.le_of_ble_eq_true rfl, Nat.le_of_ble_eq_true rfl⟩ (fun cls I2 h => ?_) (fun I2 z h => ?_)
  · have hh := h
    rcases h.2 with q | q
    · obtain rfl := q.2
      refine jm_catch [] ⟨0, 10, 13, 13⟩ [⟨0, 10, 17, 15⟩] C tb rfl (fun _ q => absurd q List.not_mem_nil) (by decide) (by decide) jw_L_RL13 jm_b1 (fun a9 => ?_)
      refine jm_astore C dL_ofSheet_13 (by decide) ?_
      refine jm_iconst C dL_ofSheet_15 ?_
      refine jm_wid (q' := (2, 12)) (Nat.le_of_ble_eq_true rfl) (Nat.le_of_ble_eq_true rfl) ?_
      exact hR _ _ _ _ dL_ofSheet_16 rfl (Or.inr ⟨_, List.mem_of_getElem? (i := 0) rfl, hh, rfl⟩)
    · obtain rfl := q.2.2
      refine jm_catch [⟨0, 10, 13, 13⟩] ⟨0, 10, 17, 15⟩ [] C tb rfl (List.forall_mem_cons.mpr ⟨⟨by decide, _, jw_L_RL13, jm_c21⟩, fun _ q => absurd q List.not_mem_nil⟩) (by decide) (by decide) jw_L_RL15 jm_b2 (fun a9 => ?_)
      refine jm_astore C dL_ofSheet_17 (by decide) ?_
      refine jm_iconst C dL_ofSheet_19 ?_
      refine jm_wid (q' := (2, 12)) (Nat.le_of_ble_eq_true rfl) (Nat.le_of_ble_eq_true rfl) ?_
      exact hR _ _ _ _ dL_ofSheet_20 rfl (Or.inr ⟨_, List.mem_of_getElem? (i := 1) rfl, hh, rfl⟩)
  · obtain ⟨v, hv, ev⟩ : ∃ v, jm_R v ∧ jm_i v = jm_i z := ⟨(jm_i z).toInt, jm_R_of _, jm_i_of _⟩
    rw [show jm_v z = jm_v v from congrArg Value.int ev.symm]
    refine jm_i2l C dL_ofSheet_8 hv ?_
    refine jm_last C hO.1 rfl hO.2 (by decide) (by decide) (by decide) dL_ofSheet_9 hv ?_
    refine jm_goto 21 C dL_ofSheet_10 rfl ?_
    refine jm_iconst C dL_ofSheet_21 ?_
    refine jm_wid (q' := (2, 12)) (Nat.le_of_ble_eq_true rfl) (Nat.le_of_ble_eq_true rfl) ?_
    exact hR _ _ _ _ dL_ofSheet_22 rfl (Or.inl ⟨rfl, I2, z, v, h, hv, ev, rfl⟩)
set_option maxRecDepth 100000 in
theorem okL_wear : jm_okW RL yL_wear cL_wear 6 (some .int) [(0, 12, 15, 13)] 5 := ⟨jm_in 559 rfl rfl, jw_n_RL, jm_in 560 rfl rfl, rfl, ⟨by decide +kernel, by decide +kernel, by decide +kernel⟩, by decide +kernel⟩
def wL_wear : List Cond := Cond.codeWith yL_wear cL_wear 6 (some .int) [(0, 12, 15, 13)] :: jm_W0
abbrev rcL_wear : Room := jm_rx rmL_wear 2 12
set_option maxRecDepth 100000 in
set_option maxHeartbeats 4000000 in
theorem kL_wear (E : jm_E) (hl0 : E.1.stackTraces = false) (w : jm_W) (I : jm_M) (ng : Int) (H : jm_X5 E w ng) (s x y : Int) (h1 : jm_R s) (h2 : jm_R x) (h3 : jm_R y) (hO : 299 ∈ w.1 ∧ w.2.2 299 = jm_La (E.2.2 2) 1) : jm_Mi E yL_wear wL_wear rcL_wear 2 12 w I [.ref (w.2.1 0), jm_v s, jm_v x, jm_v y, .ref (w.2.1 299)] (hk_wp (fun I' z => (0 ≤ s ∧ s < 3) ∧ (0 ≤ x ∧ x ≤ 8 ∧ 0 ≤ y ∧ y ≤ 60) ∧ I' = I ∧ z = I (10 + s + 100) (x * 61 + y)) (fun cls I' => I' = I ∧ cls = "java/lang/IndexOutOfBoundsException" ∧ ¬ ((0 ≤ s ∧ s < 3) ∧ (0 ≤ x ∧ x ≤ 8 ∧ 0 ≤ y ∧ y ≤ 60))) [("java/lang/IndexOutOfBoundsException", 1)]) := by
  refine jm_in_w (cc := cL_wear) (maxL := 6) (rt := .int) (hh := [(0, 12, 15, 13)]) RL (by decide +kernel) rfl rfl (Nat.le_of_ble_eq_true rfl) (by simp [Value.category]) ?_
  intro G C tb hR hI
  refine jm_aload C dL_wear_0 rfl ?_
  refine jm_iconst C dL_wear_2 ?_
  refine jm_aload_n C dL_wear_3 rfl ?_
  refine jm_iload_n C dL_wear_4 rfl ?_
  refine jm_iload_n C dL_wear_5 rfl ?_
  refine jm_iload_n C dL_wear_6 rfl ?_
  refine jm_xcVi (n := 3) (ci := 5) [jm_v 0, .ref (w.2.1 299)] C (kxX5_wear E hl0 w I ng H s x y h1 h2 h3) jw_m_RL_34 okX5_wear rfl ⟨rfl, rfl⟩ ⟨Nat.le_of_ble_eq_true rfl, Nat.le_of_ble_eq_true rfl⟩ rfl H.1.1 H.1.2 rfl rfl (Nat.le_of_ble_eq_true rfl) dL_wear_7 ⟨Nat.le_of_ble_eq_true rfl, Nat.le_of_ble_eq_true rfl⟩ (fun cls I2 h => ?_) (fun I2 z h => ?_)
  · have hh := h
    obtain rfl := h.2.1
    refine jm_catch [] ⟨0, 12, 15, 13⟩ [] C tb rfl (fun _ q => absurd q List.not_mem_nil) (by decide) (by decide) jw_L_RL13 jm_b1 (fun a9 => ?_)
    refine jm_astore C dL_wear_15 (by decide) ?_
    refine jm_iconst C dL_wear_17 ?_
    refine jm_wid (q' := (2, 12)) (Nat.le_of_ble_eq_true rfl) (Nat.le_of_ble_eq_true rfl) ?_
    exact hR _ _ _ _ dL_wear_18 rfl (Or.inr ⟨_, List.mem_of_getElem? (i := 0) rfl, hh, rfl⟩)
  · obtain ⟨v, hv, ev⟩ : ∃ v, jm_R v ∧ jm_i v = jm_i z := ⟨(jm_i z).toInt, jm_R_of _, jm_i_of _⟩
    rw [show jm_v z = jm_v v from congrArg Value.int ev.symm]
    refine jm_i2l C dL_wear_10 hv ?_
    refine jm_last C hO.1 rfl hO.2 (by decide) (by decide) (by decide) dL_wear_11 hv ?_
    refine jm_goto 19 C dL_wear_12 rfl ?_
    refine jm_iconst C dL_wear_19 ?_
    refine jm_wid (q' := (2, 12)) (Nat.le_of_ble_eq_true rfl) (Nat.le_of_ble_eq_true rfl) ?_
    exact hR _ _ _ _ dL_wear_20 rfl (Or.inl ⟨rfl, I2, z, v, h, hv, ev, rfl⟩)
set_option maxRecDepth 100000 in
theorem okL_ofGame : jm_okW RL yL_ofGame cL_ofGame 5 (some .int) [(0, 10, 13, 13), (0, 10, 17, 15)] 4 := ⟨jm_in 571 rfl rfl, jw_n_RL, jm_in 572 rfl rfl, rfl, ⟨by decide +kernel, by decide +kernel, by decide +kernel⟩, by decide +kernel⟩
def wL_ofGame : List Cond := Cond.codeWith yL_ofGame cL_ofGame 5 (some .int) [(0, 10, 13, 13), (0, 10, 17, 15)] :: jm_W0
abbrev rcL_ofGame : Room := jm_rx rmL_ofGame 2 12
set_option maxRecDepth 100000 in
set_option maxHeartbeats 4000000 in
theorem kL_ofGame (E : jm_E) (hl0 : E.1.stackTraces = false) (w : jm_W) (I : jm_M) (ng : Int) (H : jm_X5 E w ng) (g k : Int) (h1 : jm_R g) (h2 : jm_R k) (hO : 299 ∈ w.1 ∧ w.2.2 299 = jm_La (E.2.2 2) 1) : jm_Mi E yL_ofGame wL_ofGame rcL_ofGame 2 12 w I [.ref (w.2.1 0), jm_v g, jm_v k, .ref (w.2.1 299)] (hk_wp (fun I' z => (0 ≤ g ∧ g < ng) ∧ (0 ≤ k ∧ k ≤ 7) ∧ I' = I ∧ z = if k = 0 then I (30 + g) 5 else if k = 1 then I (30 + g) 4 else if k = 2 then I (30 + g) 6 else if k = 3 then I (30 + g) 8 else if k = 4 then I (30 + g) 9 else if k = 5 then I (30 + g) 10 else if k = 6 then hk_nside (I (30 + g) 5) (I (30 + g) 11) (I (30 + g) 12) else I (30 + g) 12) (fun cls I' => I' = I ∧ ((¬ (0 ≤ g ∧ g < ng) ∧ cls = "java/lang/IndexOutOfBoundsException") ∨ ((0 ≤ g ∧ g < ng) ∧ ¬ (0 ≤ k ∧ k ≤ 7) ∧ cls = "java/lang/IllegalArgumentException"))) [("java/lang/IndexOutOfBoundsException", 1), ("java/lang/IllegalArgumentException", 2)]) := by
  refine jm_in_w (cc := cL_ofGame) (maxL := 5) (rt := .int) (hh := [(0, 10, 13, 13), (0, 10, 17, 15)]) RL (by decide +kernel) rfl rfl (Nat.le_of_ble_eq_true rfl) (by simp [Value.category]) ?_
  intro G C tb hR hI
  refine jm_aload_n C dL_ofGame_0 rfl ?_
  refine jm_iconst C dL_ofGame_1 ?_
  refine jm_aload_n C dL_ofGame_2 rfl ?_
  refine jm_iload_n C dL_ofGame_3 rfl ?_
  refine jm_iload_n C dL_ofGame_4 rfl ?_
  refine jm_xcVi (n := 2) (ci := 5) [jm_v 0, .ref (w.2.1 299)] C (kxX5_ofGame E hl0 w I ng H g k h1 h2) jw_m_RL_38 okX5_ofGame rfl ⟨rfl, rfl⟩ ⟨Nat.le_of_ble_eq_true rfl, Nat.le_of_ble_eq_true rfl⟩ rfl H.1.1 H.1.2 rfl rfl (Nat.le_of_ble_eq_true rfl) dL_ofGame_5 ⟨Nat.le_of_ble_eq_true rfl, Nat.le_of_ble_eq_true rfl⟩ (fun cls I2 h => ?_) (fun I2 z h => ?_)
  · have hh := h
    rcases h.2 with q | q
    · obtain rfl := q.2
      refine jm_catch [] ⟨0, 10, 13, 13⟩ [⟨0, 10, 17, 15⟩] C tb rfl (fun _ q => absurd q List.not_mem_nil) (by decide) (by decide) jw_L_RL13 jm_b1 (fun a9 => ?_)
      refine jm_astore C dL_ofGame_13 (by decide) ?_
      refine jm_iconst C dL_ofGame_15 ?_
      refine jm_wid (q' := (2, 12)) (Nat.le_of_ble_eq_true rfl) (Nat.le_of_ble_eq_true rfl) ?_
      exact hR _ _ _ _ dL_ofGame_16 rfl (Or.inr ⟨_, List.mem_of_getElem? (i := 0) rfl, hh, rfl⟩)
    · obtain rfl := q.2.2
      refine jm_catch [⟨0, 10, 13, 13⟩] ⟨0, 10, 17, 15⟩ [] C tb rfl (List.forall_mem_cons.mpr ⟨⟨by decide, _, jw_L_RL13, jm_c21⟩, fun _ q => absurd q List.not_mem_nil⟩) (by decide) (by decide) jw_L_RL15 jm_b2 (fun a9 => ?_)
      refine jm_astore C dL_ofGame_17 (by decide) ?_
      refine jm_iconst C dL_ofGame_19 ?_
      refine jm_wid (q' := (2, 12)) (Nat.le_of_ble_eq_true rfl) (Nat.le_of_ble_eq_true rfl) ?_
      exact hR _ _ _ _ dL_ofGame_20 rfl (Or.inr ⟨_, List.mem_of_getElem? (i := 1) rfl, hh, rfl⟩)
  · obtain ⟨v, hv, ev⟩ : ∃ v, jm_R v ∧ jm_i v = jm_i z := ⟨(jm_i z).toInt, jm_R_of _, jm_i_of _⟩
    rw [show jm_v z = jm_v v from congrArg Value.int ev.symm]
    refine jm_i2l C dL_ofGame_8 hv ?_
    refine jm_last C hO.1 rfl hO.2 (by decide) (by decide) (by decide) dL_ofGame_9 hv ?_
    refine jm_goto 21 C dL_ofGame_10 rfl ?_
    refine jm_iconst C dL_ofGame_21 ?_
    refine jm_wid (q' := (2, 12)) (Nat.le_of_ble_eq_true rfl) (Nat.le_of_ble_eq_true rfl) ?_
    exact hR _ _ _ _ dL_ofGame_22 rfl (Or.inl ⟨rfl, I2, z, v, h, hv, ev, rfl⟩)
set_option maxRecDepth 100000 in
theorem okL_stone : jm_okW RL yL_stone cL_stone 6 (some .int) [(0, 12, 15, 13)] 5 := ⟨jm_in 578 rfl rfl, jw_n_RL, jm_in 579 rfl rfl, rfl, ⟨by decide +kernel, by decide +kernel, by decide +kernel⟩, by decide +kernel⟩
def wL_stone : List Cond := Cond.codeWith yL_stone cL_stone 6 (some .int) [(0, 12, 15, 13)] :: jm_W0
abbrev rcL_stone : Room := jm_rx rmL_stone 2 12
set_option maxRecDepth 100000 in
set_option maxHeartbeats 4000000 in
theorem kL_stone (E : jm_E) (hl0 : E.1.stackTraces = false) (w : jm_W) (I : jm_M) (ng : Int) (H : jm_X5 E w ng) (g t k : Int) (h1 : jm_R g) (h2 : jm_R t) (h3 : jm_R k) (hO : 299 ∈ w.1 ∧ w.2.2 299 = jm_La (E.2.2 2) 1) : jm_Mi E yL_stone wL_stone rcL_stone 2 12 w I [.ref (w.2.1 0), jm_v g, jm_v t, jm_v k, .ref (w.2.1 299)] (hk_wp (fun I' z => (0 ≤ g ∧ g < ng) ∧ ((0 ≤ t ∧ t ≤ 1) ∧ (0 ≤ k ∧ k ≤ 2)) ∧ I' = I ∧ z = hk_at (I (30 + g + 100 + 100)) (t * 3 + k)) (fun cls I' => I' = I ∧ cls = "java/lang/IndexOutOfBoundsException" ∧ ¬ ((0 ≤ g ∧ g < ng) ∧ ((0 ≤ t ∧ t ≤ 1) ∧ (0 ≤ k ∧ k ≤ 2)))) [("java/lang/IndexOutOfBoundsException", 1)]) := by
  refine jm_in_w (cc := cL_stone) (maxL := 6) (rt := .int) (hh := [(0, 12, 15, 13)]) RL (by decide +kernel) rfl rfl (Nat.le_of_ble_eq_true rfl) (by simp [Value.category]) ?_
  intro G C tb hR hI
  refine jm_aload C dL_stone_0 rfl ?_
  refine jm_iconst C dL_stone_2 ?_
  refine jm_aload_n C dL_stone_3 rfl ?_
  refine jm_iload_n C dL_stone_4 rfl ?_
  refine jm_iload_n C dL_stone_5 rfl ?_
  refine jm_iload_n C dL_stone_6 rfl ?_
  refine jm_xcVi (n := 3) (ci := 5) [jm_v 0, .ref (w.2.1 299)] C (kxX5_stone E hl0 w I ng H g t k h1 h2 h3) jw_m_RL_41 okX5_stone rfl ⟨rfl, rfl⟩ ⟨Nat.le_of_ble_eq_true rfl, Nat.le_of_ble_eq_true rfl⟩ rfl H.1.1 H.1.2 rfl rfl (Nat.le_of_ble_eq_true rfl) dL_stone_7 ⟨Nat.le_of_ble_eq_true rfl, Nat.le_of_ble_eq_true rfl⟩ (fun cls I2 h => ?_) (fun I2 z h => ?_)
  · have hh := h
    obtain rfl := h.2.1
    refine jm_catch [] ⟨0, 12, 15, 13⟩ [] C tb rfl (fun _ q => absurd q List.not_mem_nil) (by decide) (by decide) jw_L_RL13 jm_b1 (fun a9 => ?_)
    refine jm_astore C dL_stone_15 (by decide) ?_
    refine jm_iconst C dL_stone_17 ?_
    refine jm_wid (q' := (2, 12)) (Nat.le_of_ble_eq_true rfl) (Nat.le_of_ble_eq_true rfl) ?_
    exact hR _ _ _ _ dL_stone_18 rfl (Or.inr ⟨_, List.mem_of_getElem? (i := 0) rfl, hh, rfl⟩)
  · obtain ⟨v, hv, ev⟩ : ∃ v, jm_R v ∧ jm_i v = jm_i z := ⟨(jm_i z).toInt, jm_R_of _, jm_i_of _⟩
    rw [show jm_v z = jm_v v from congrArg Value.int ev.symm]
    refine jm_i2l C dL_stone_10 hv ?_
    refine jm_last C hO.1 rfl hO.2 (by decide) (by decide) (by decide) dL_stone_11 hv ?_
    refine jm_goto 19 C dL_stone_12 rfl ?_
    refine jm_iconst C dL_stone_19 ?_
    refine jm_wid (q' := (2, 12)) (Nat.le_of_ble_eq_true rfl) (Nat.le_of_ble_eq_true rfl) ?_
    exact hR _ _ _ _ dL_stone_20 rfl (Or.inl ⟨rfl, I2, z, v, h, hv, ev, rfl⟩)
set_option maxRecDepth 100000 in
theorem okL_wouldScore : jm_okW RL yL_wouldScore cL_wouldScore 4 (some .int) [(0, 9, 12, 13)] 3 := ⟨jm_in 587 rfl rfl, jw_n_RL, jm_in 588 rfl rfl, rfl, ⟨by decide +kernel, by decide +kernel, by decide +kernel⟩, by decide +kernel⟩
def wL_wouldScore : List Cond := Cond.codeWith yL_wouldScore cL_wouldScore 4 (some .int) [(0, 9, 12, 13)] :: jm_W0
abbrev rcL_wouldScore : Room := jm_rx rmL_wouldScore 2 12
set_option maxRecDepth 100000 in
set_option maxHeartbeats 4000000 in
theorem kL_wouldScore (E : jm_E) (hl0 : E.1.stackTraces = false) (w : jm_W) (I : jm_M) (ng : Int) (H : jm_X5 E w ng) (g : Int) (h1 : jm_R g) (hO : 299 ∈ w.1 ∧ w.2.2 299 = jm_La (E.2.2 2) 1) : jm_Mi E yL_wouldScore wL_wouldScore rcL_wouldScore 2 12 w I [.ref (w.2.1 0), jm_v g, .ref (w.2.1 299)] (hk_wp (fun I' z => (0 ≤ g ∧ g < ng) ∧ I' = I ∧ z = hk_score (I (30 + g + 100 + 100))) (fun cls I' => I' = I ∧ cls = "java/lang/IndexOutOfBoundsException" ∧ ¬ (0 ≤ g ∧ g < ng)) [("java/lang/IndexOutOfBoundsException", 1)]) := by
  refine jm_in_w (cc := cL_wouldScore) (maxL := 4) (rt := .int) (hh := [(0, 9, 12, 13)]) RL (by decide +kernel) rfl rfl (Nat.le_of_ble_eq_true rfl) (by simp [Value.category]) ?_
  intro G C tb hR hI
  refine jm_aload_n C dL_wouldScore_0 rfl ?_
  refine jm_iconst C dL_wouldScore_1 ?_
  refine jm_aload_n C dL_wouldScore_2 rfl ?_
  refine jm_iload_n C dL_wouldScore_3 rfl ?_
  refine jm_xcVi (n := 1) (ci := 5) [jm_v 0, .ref (w.2.1 299)] C (kxX5_wouldScore E hl0 w I ng H g h1) jw_m_RL_44 okX5_wouldScore rfl ⟨rfl, rfl⟩ ⟨Nat.le_of_ble_eq_true rfl, Nat.le_of_ble_eq_true rfl⟩ rfl H.1.1 H.1.2 rfl rfl (Nat.le_of_ble_eq_true rfl) dL_wouldScore_4 ⟨Nat.le_of_ble_eq_true rfl, Nat.le_of_ble_eq_true rfl⟩ (fun cls I2 h => ?_) (fun I2 z h => ?_)
  · have hh := h
    obtain rfl := h.2.1
    refine jm_catch [] ⟨0, 9, 12, 13⟩ [] C tb rfl (fun _ q => absurd q List.not_mem_nil) (by decide) (by decide) jw_L_RL13 jm_b1 (fun a9 => ?_)
    refine jm_astore_n C dL_wouldScore_12 (by decide) ?_
    refine jm_iconst C dL_wouldScore_13 ?_
    refine jm_wid (q' := (2, 12)) (Nat.le_of_ble_eq_true rfl) (Nat.le_of_ble_eq_true rfl) ?_
    exact hR _ _ _ _ dL_wouldScore_14 rfl (Or.inr ⟨_, List.mem_of_getElem? (i := 0) rfl, hh, rfl⟩)
  · obtain ⟨v, hv, ev⟩ : ∃ v, jm_R v ∧ jm_i v = jm_i z := ⟨(jm_i z).toInt, jm_R_of _, jm_i_of _⟩
    rw [show jm_v z = jm_v v from congrArg Value.int ev.symm]
    refine jm_i2l C dL_wouldScore_7 hv ?_
    refine jm_last C hO.1 rfl hO.2 (by decide) (by decide) (by decide) dL_wouldScore_8 hv ?_
    refine jm_goto 15 C dL_wouldScore_9 rfl ?_
    refine jm_iconst C dL_wouldScore_15 ?_
    refine jm_wid (q' := (2, 12)) (Nat.le_of_ble_eq_true rfl) (Nat.le_of_ble_eq_true rfl) ?_
    exact hR _ _ _ _ dL_wouldScore_16 rfl (Or.inl ⟨rfl, I2, z, v, h, hv, ev, rfl⟩)
set_option maxRecDepth 100000 in
theorem okL_wouldScoreAnew : jm_okW RL yL_wouldScoreAnew cL_wouldScoreAnew 4 (some .int) [(0, 9, 12, 13)] 3 := ⟨jm_in 595 rfl rfl, jw_n_RL, jm_in 596 rfl rfl, rfl, ⟨by decide +kernel, by decide +kernel, by decide +kernel⟩, by decide +kernel⟩
def wL_wouldScoreAnew : List Cond := Cond.codeWith yL_wouldScoreAnew cL_wouldScoreAnew 4 (some .int) [(0, 9, 12, 13)] :: jm_W0
abbrev rcL_wouldScoreAnew : Room := jm_rx rmL_wouldScoreAnew 2 12
set_option maxRecDepth 100000 in
set_option maxHeartbeats 4000000 in
theorem kL_wouldScoreAnew (E : jm_E) (hl0 : E.1.stackTraces = false) (w : jm_W) (I : jm_M) (ng : Int) (H : jm_X5 E w ng) (g : Int) (h1 : jm_R g) (hO : 299 ∈ w.1 ∧ w.2.2 299 = jm_La (E.2.2 2) 1) : jm_Mi E yL_wouldScoreAnew wL_wouldScoreAnew rcL_wouldScoreAnew 2 12 w I [.ref (w.2.1 0), jm_v g, .ref (w.2.1 299)] (hk_wp (fun I' z => (0 ≤ g ∧ g < ng) ∧ I' = I ∧ z = hk_one (I (30 + g + 100 + 100)) 6) (fun cls I' => I' = I ∧ cls = "java/lang/IndexOutOfBoundsException" ∧ ¬ (0 ≤ g ∧ g < ng)) [("java/lang/IndexOutOfBoundsException", 1)]) := by
  refine jm_in_w (cc := cL_wouldScoreAnew) (maxL := 4) (rt := .int) (hh := [(0, 9, 12, 13)]) RL (by decide +kernel) rfl rfl (Nat.le_of_ble_eq_true rfl) (by simp [Value.category]) ?_
  intro G C tb hR hI
  refine jm_aload_n C dL_wouldScoreAnew_0 rfl ?_
  refine jm_iconst C dL_wouldScoreAnew_1 ?_
  refine jm_aload_n C dL_wouldScoreAnew_2 rfl ?_
  refine jm_iload_n C dL_wouldScoreAnew_3 rfl ?_
  refine jm_xcVi (n := 1) (ci := 5) [jm_v 0, .ref (w.2.1 299)] C (kxX5_wouldScoreAnew E hl0 w I ng H g h1) jw_m_RL_47 okX5_wouldScoreAnew rfl ⟨rfl, rfl⟩ ⟨Nat.le_of_ble_eq_true rfl, Nat.le_of_ble_eq_true rfl⟩ rfl H.1.1 H.1.2 rfl rfl (Nat.le_of_ble_eq_true rfl) dL_wouldScoreAnew_4 ⟨Nat.le_of_ble_eq_true rfl, Nat.le_of_ble_eq_true rfl⟩ (fun cls I2 h => ?_) (fun I2 z h => ?_)
  · have hh := h
    obtain rfl := h.2.1
    refine jm_catch [] ⟨0, 9, 12, 13⟩ [] C tb rfl (fun _ q => absurd q List.not_mem_nil) (by decide) (by decide) jw_L_RL13 jm_b1 (fun a9 => ?_)
    refine jm_astore_n C dL_wouldScoreAnew_12 (by decide) ?_
    refine jm_iconst C dL_wouldScoreAnew_13 ?_
    refine jm_wid (q' := (2, 12)) (Nat.le_of_ble_eq_true rfl) (Nat.le_of_ble_eq_true rfl) ?_
    exact hR _ _ _ _ dL_wouldScoreAnew_14 rfl (Or.inr ⟨_, List.mem_of_getElem? (i := 0) rfl, hh, rfl⟩)
  · obtain ⟨v, hv, ev⟩ : ∃ v, jm_R v ∧ jm_i v = jm_i z := ⟨(jm_i z).toInt, jm_R_of _, jm_i_of _⟩
    rw [show jm_v z = jm_v v from congrArg Value.int ev.symm]
    refine jm_i2l C dL_wouldScoreAnew_7 hv ?_
    refine jm_last C hO.1 rfl hO.2 (by decide) (by decide) (by decide) dL_wouldScoreAnew_8 hv ?_
    refine jm_goto 15 C dL_wouldScoreAnew_9 rfl ?_
    refine jm_iconst C dL_wouldScoreAnew_15 ?_
    refine jm_wid (q' := (2, 12)) (Nat.le_of_ble_eq_true rfl) (Nat.le_of_ble_eq_true rfl) ?_
    exact hR _ _ _ _ dL_wouldScoreAnew_16 rfl (Or.inl ⟨rfl, I2, z, v, h, hv, ev, rfl⟩)
set_option maxRecDepth 100000 in
theorem okL_standing : jm_okW RL yL_standing cL_standing 4 (some .int) [(0, 9, 12, 13)] 3 := ⟨jm_in 629 rfl rfl, jw_n_RL, jm_in 630 rfl rfl, rfl, ⟨by decide +kernel, by decide +kernel, by decide +kernel⟩, by decide +kernel⟩
def wL_standing : List Cond := Cond.codeWith yL_standing cL_standing 4 (some .int) [(0, 9, 12, 13)] :: jm_W0
abbrev rcL_standing : Room := jm_rx rmL_standing 2 12
set_option maxRecDepth 100000 in
set_option maxHeartbeats 4000000 in
theorem kL_standing (E : jm_E) (hl0 : E.1.stackTraces = false) (w : jm_W) (I : jm_M) (ng : Int) (H : jm_X5 E w ng) (p : Int) (h1 : jm_R p) (hO : 299 ∈ w.1 ∧ w.2.2 299 = jm_La (E.2.2 2) 1) : jm_Mi E yL_standing wL_standing rcL_standing 2 12 w I [.ref (w.2.1 0), jm_v p, .ref (w.2.1 299)] (hk_wp (fun I' z => (0 ≤ p ∧ p ≤ 5) ∧ I' = I ∧ z = hk_std I p 6) (fun cls I' => I' = I ∧ cls = "java/lang/IndexOutOfBoundsException" ∧ ¬ (0 ≤ p ∧ p ≤ 5)) [("java/lang/IndexOutOfBoundsException", 1)]) := by
  refine jm_in_w (cc := cL_standing) (maxL := 4) (rt := .int) (hh := [(0, 9, 12, 13)]) RL (by decide +kernel) rfl rfl (Nat.le_of_ble_eq_true rfl) (by simp [Value.category]) ?_
  intro G C tb hR hI
  refine jm_aload_n C dL_standing_0 rfl ?_
  refine jm_iconst C dL_standing_1 ?_
  refine jm_aload_n C dL_standing_2 rfl ?_
  refine jm_iload_n C dL_standing_3 rfl ?_
  refine jm_xcVi (n := 1) (ci := 5) [jm_v 0, .ref (w.2.1 299)] C (kxX5_standing E hl0 w I ng H p h1) jw_m_RL_56 okX5_standing rfl ⟨rfl, rfl⟩ ⟨Nat.le_of_ble_eq_true rfl, Nat.le_of_ble_eq_true rfl⟩ rfl H.1.1 H.1.2 rfl rfl (Nat.le_of_ble_eq_true rfl) dL_standing_4 ⟨Nat.le_of_ble_eq_true rfl, Nat.le_of_ble_eq_true rfl⟩ (fun cls I2 h => ?_) (fun I2 z h => ?_)
  · have hh := h
    obtain rfl := h.2.1
    refine jm_catch [] ⟨0, 9, 12, 13⟩ [] C tb rfl (fun _ q => absurd q List.not_mem_nil) (by decide) (by decide) jw_L_RL13 jm_b1 (fun a9 => ?_)
    refine jm_astore_n C dL_standing_12 (by decide) ?_
    refine jm_iconst C dL_standing_13 ?_
    refine jm_wid (q' := (2, 12)) (Nat.le_of_ble_eq_true rfl) (Nat.le_of_ble_eq_true rfl) ?_
    exact hR _ _ _ _ dL_standing_14 rfl (Or.inr ⟨_, List.mem_of_getElem? (i := 0) rfl, hh, rfl⟩)
  · obtain ⟨v, hv, ev⟩ : ∃ v, jm_R v ∧ jm_i v = jm_i z := ⟨(jm_i z).toInt, jm_R_of _, jm_i_of _⟩
    rw [show jm_v z = jm_v v from congrArg Value.int ev.symm]
    refine jm_i2l C dL_standing_7 hv ?_
    refine jm_last C hO.1 rfl hO.2 (by decide) (by decide) (by decide) dL_standing_8 hv ?_
    refine jm_goto 15 C dL_standing_9 rfl ?_
    refine jm_iconst C dL_standing_15 ?_
    refine jm_wid (q' := (2, 12)) (Nat.le_of_ble_eq_true rfl) (Nat.le_of_ble_eq_true rfl) ?_
    exact hR _ _ _ _ dL_standing_16 rfl (Or.inl ⟨rfl, I2, z, v, h, hv, ev, rfl⟩)
set_option maxRecDepth 100000 in
theorem okL_ofTeam : jm_okW RL yL_ofTeam cL_ofTeam 5 (some .int) [(0, 10, 13, 13), (0, 10, 17, 15)] 4 := ⟨jm_in 649 rfl rfl, jw_n_RL, jm_in 650 rfl rfl, rfl, ⟨by decide +kernel, by decide +kernel, by decide +kernel⟩, by decide +kernel⟩
def wL_ofTeam : List Cond := Cond.codeWith yL_ofTeam cL_ofTeam 5 (some .int) [(0, 10, 13, 13), (0, 10, 17, 15)] :: jm_W0
abbrev rcL_ofTeam : Room := jm_rx rmL_ofTeam 2 12
set_option maxRecDepth 100000 in
set_option maxHeartbeats 4000000 in
theorem kL_ofTeam (E : jm_E) (hl0 : E.1.stackTraces = false) (w : jm_W) (I : jm_M) (ng : Int) (H : jm_X5 E w ng) (t k : Int) (h1 : jm_R t) (h2 : jm_R k) (hO : 299 ∈ w.1 ∧ w.2.2 299 = jm_La (E.2.2 2) 1) : jm_Mi E yL_ofTeam wL_ofTeam rcL_ofTeam 2 12 w I [.ref (w.2.1 0), jm_v t, jm_v k, .ref (w.2.1 299)] (hk_wp (fun I' z => (0 ≤ t ∧ t < 6) ∧ (0 ≤ k ∧ k ≤ 2) ∧ I' = I ∧ z = if k = 0 then I (20 + t) 0 else if k = 1 then I (20 + t) 1 else I (20 + t) 2) (fun cls I' => I' = I ∧ ((¬ (0 ≤ t ∧ t < 6) ∧ cls = "java/lang/IndexOutOfBoundsException") ∨ ((0 ≤ t ∧ t < 6) ∧ ¬ (0 ≤ k ∧ k ≤ 2) ∧ cls = "java/lang/IllegalArgumentException"))) [("java/lang/IndexOutOfBoundsException", 1), ("java/lang/IllegalArgumentException", 2)]) := by
  refine jm_in_w (cc := cL_ofTeam) (maxL := 5) (rt := .int) (hh := [(0, 10, 13, 13), (0, 10, 17, 15)]) RL (by decide +kernel) rfl rfl (Nat.le_of_ble_eq_true rfl) (by simp [Value.category]) ?_
  intro G C tb hR hI
  refine jm_aload_n C dL_ofTeam_0 rfl ?_
  refine jm_iconst C dL_ofTeam_1 ?_
  refine jm_aload_n C dL_ofTeam_2 rfl ?_
  refine jm_iload_n C dL_ofTeam_3 rfl ?_
  refine jm_iload_n C dL_ofTeam_4 rfl ?_
  refine jm_xcVi (n := 2) (ci := 5) [jm_v 0, .ref (w.2.1 299)] C (kxX5_ofTeam E hl0 w I ng H t k h1 h2) jw_m_RL_59 okX5_ofTeam rfl ⟨rfl, rfl⟩ ⟨Nat.le_of_ble_eq_true rfl, Nat.le_of_ble_eq_true rfl⟩ rfl H.1.1 H.1.2 rfl rfl (Nat.le_of_ble_eq_true rfl) dL_ofTeam_5 ⟨Nat.le_of_ble_eq_true rfl, Nat.le_of_ble_eq_true rfl⟩ (fun cls I2 h => ?_) (fun I2 z h => ?_)
  · have hh := h
    rcases h.2 with q | q
    · obtain rfl := q.2
      refine jm_catch [] ⟨0, 10, 13, 13⟩ [⟨0, 10, 17, 15⟩] C tb rfl (fun _ q => absurd q List.not_mem_nil) (by decide) (by decide) jw_L_RL13 jm_b1 (fun a9 => ?_)
      refine jm_astore C dL_ofTeam_13 (by decide) ?_
      refine jm_iconst C dL_ofTeam_15 ?_
      refine jm_wid (q' := (2, 12)) (Nat.le_of_ble_eq_true rfl) (Nat.le_of_ble_eq_true rfl) ?_
      exact hR _ _ _ _ dL_ofTeam_16 rfl (Or.inr ⟨_, List.mem_of_getElem? (i := 0) rfl, hh, rfl⟩)
    · obtain rfl := q.2.2
      refine jm_catch [⟨0, 10, 13, 13⟩] ⟨0, 10, 17, 15⟩ [] C tb rfl (List.forall_mem_cons.mpr ⟨⟨by decide, _, jw_L_RL13, jm_c21⟩, fun _ q => absurd q List.not_mem_nil⟩) (by decide) (by decide) jw_L_RL15 jm_b2 (fun a9 => ?_)
      refine jm_astore C dL_ofTeam_17 (by decide) ?_
      refine jm_iconst C dL_ofTeam_19 ?_
      refine jm_wid (q' := (2, 12)) (Nat.le_of_ble_eq_true rfl) (Nat.le_of_ble_eq_true rfl) ?_
      exact hR _ _ _ _ dL_ofTeam_20 rfl (Or.inr ⟨_, List.mem_of_getElem? (i := 1) rfl, hh, rfl⟩)
  · obtain ⟨v, hv, ev⟩ : ∃ v, jm_R v ∧ jm_i v = jm_i z := ⟨(jm_i z).toInt, jm_R_of _, jm_i_of _⟩
    rw [show jm_v z = jm_v v from congrArg Value.int ev.symm]
    refine jm_i2l C dL_ofTeam_8 hv ?_
    refine jm_last C hO.1 rfl hO.2 (by decide) (by decide) (by decide) dL_ofTeam_9 hv ?_
    refine jm_goto 21 C dL_ofTeam_10 rfl ?_
    refine jm_iconst C dL_ofTeam_21 ?_
    refine jm_wid (q' := (2, 12)) (Nat.le_of_ble_eq_true rfl) (Nat.le_of_ble_eq_true rfl) ?_
    exact hR _ _ _ _ dL_ofTeam_22 rfl (Or.inl ⟨rfl, I2, z, v, h, hv, ev, rfl⟩)
set_option maxRecDepth 100000 in
theorem okL_tries : jm_okW RL yL_tries cL_tries 9 (some .int) [(0, 18, 21, 13), (0, 18, 25, 15), (0, 18, 29, 17)] 8 := ⟨jm_in 606 rfl rfl, jw_n_RL, jm_in 607 rfl rfl, rfl, ⟨by decide +kernel, by decide +kernel, by decide +kernel⟩, by decide +kernel⟩
def wL_tries : List Cond := Cond.codeWith yL_tries cL_tries 9 (some .int) [(0, 18, 21, 13), (0, 18, 25, 15), (0, 18, 29, 17)] :: jm_W0
abbrev rcL_tries : Room := jm_rx rmL_tries 2 12
set_option maxRecDepth 100000 in
set_option maxHeartbeats 4000000 in
theorem kL_tries (E : jm_E) (hl0 : E.1.stackTraces = false) (w : jm_W) (I : jm_M) (ng : Int) (H : jm_X5 E w ng) (g : Int) (lane wt tn lo hi : Int) (g1 : jm_R g) (g2 : jm_R lane) (g3 : jm_R wt) (g4 : jm_R tn) (g5 : jm_R lo) (g6 : jm_R hi) (hpr : ∀ i, 0 ≤ i → i < ng → I (30 + i) 5 = 1 ∨ I (30 + i) 5 = 2 → hk_wpre I (30 + i)) (hO : 299 ∈ w.1 ∧ w.2.2 299 = jm_La (E.2.2 2) 1) : jm_Mi E yL_tries wL_tries rcL_tries 2 12 w I [.ref (w.2.1 0), jm_v g, jm_v lane, jm_v wt, jm_v tn, jm_v lo, jm_v hi, .ref (w.2.1 299)] (hk_wp (fun I' z => (0 ≤ g ∧ g < ng) ∧ (hk_shot lane wt tn lo hi) ∧ (I (30 + g) 5 = 1 ∨ I (30 + g) 5 = 2) ∧ hk_off I I' ∧ z = (hk_thr (I (10 + I (30 + g) 6 + 100)) (I (30 + g + 100 + 100)) (hk_slot I (30 + g)) lane (10 * wt) tn lo hi).1) (fun cls I' => I' = I ∧ ((¬ (0 ≤ g ∧ g < ng) ∧ cls = "java/lang/IndexOutOfBoundsException") ∨ ((0 ≤ g ∧ g < ng) ∧ ¬ (hk_shot lane wt tn lo hi) ∧ cls = "java/lang/IllegalArgumentException") ∨ ((0 ≤ g ∧ g < ng) ∧ (hk_shot lane wt tn lo hi) ∧ ¬ (I (30 + g) 5 = 1 ∨ I (30 + g) 5 = 2) ∧ cls = "java/lang/IllegalStateException"))) [("java/lang/IndexOutOfBoundsException", 1), ("java/lang/IllegalArgumentException", 2), ("java/lang/IllegalStateException", 3)]) := by
  refine jm_in_w (cc := cL_tries) (maxL := 9) (rt := .int) (hh := [(0, 18, 21, 13), (0, 18, 25, 15), (0, 18, 29, 17)]) RL (by decide +kernel) rfl rfl (Nat.le_of_ble_eq_true rfl) (by simp [Value.category]) ?_
  intro G C tb hR hI
  refine jm_aload C dL_tries_0 rfl ?_
  refine jm_iconst C dL_tries_2 ?_
  refine jm_aload_n C dL_tries_3 rfl ?_
  refine jm_iload_n C dL_tries_4 rfl ?_
  refine jm_iload_n C dL_tries_5 rfl ?_
  refine jm_iload_n C dL_tries_6 rfl ?_
  refine jm_iload C dL_tries_7 rfl ?_
  refine jm_iload C dL_tries_9 rfl ?_
  refine jm_iload C dL_tries_11 rfl ?_
  refine jm_xcVi (n := 6) (ci := 5) [jm_v 0, .ref (w.2.1 299)] C (kxX5_tries E hl0 w I ng H g lane wt tn lo hi g1 g2 g3 g4 g5 g6 hpr) jw_m_RL_50 okX5_tries rfl ⟨rfl, rfl⟩ ⟨Nat.le_of_ble_eq_true rfl, Nat.le_of_ble_eq_true rfl⟩ rfl H.1.1 H.1.2 rfl rfl (Nat.le_of_ble_eq_true rfl) dL_tries_13 ⟨Nat.le_of_ble_eq_true rfl, Nat.le_of_ble_eq_true rfl⟩ (fun cls I2 h => ?_) (fun I2 z h => ?_)
  · have hh := h
    rcases h.2 with q | q | q
    · obtain rfl := q.2
      refine jm_catch [] ⟨0, 18, 21, 13⟩ [⟨0, 18, 25, 15⟩, ⟨0, 18, 29, 17⟩] C tb rfl (fun _ q => absurd q List.not_mem_nil) (by decide) (by decide) jw_L_RL13 jm_b1 (fun a9 => ?_)
      refine jm_astore C dL_tries_21 (by decide) ?_
      refine jm_iconst C dL_tries_23 ?_
      refine jm_wid (q' := (2, 12)) (Nat.le_of_ble_eq_true rfl) (Nat.le_of_ble_eq_true rfl) ?_
      exact hR _ _ _ _ dL_tries_24 rfl (Or.inr ⟨_, List.mem_of_getElem? (i := 0) rfl, hh, rfl⟩)
    · obtain rfl := q.2.2
      refine jm_catch [⟨0, 18, 21, 13⟩] ⟨0, 18, 25, 15⟩ [⟨0, 18, 29, 17⟩] C tb rfl (List.forall_mem_cons.mpr ⟨⟨by decide, _, jw_L_RL13, jm_c21⟩, fun _ q => absurd q List.not_mem_nil⟩) (by decide) (by decide) jw_L_RL15 jm_b2 (fun a9 => ?_)
      refine jm_astore C dL_tries_25 (by decide) ?_
      refine jm_iconst C dL_tries_27 ?_
      refine jm_wid (q' := (2, 12)) (Nat.le_of_ble_eq_true rfl) (Nat.le_of_ble_eq_true rfl) ?_
      exact hR _ _ _ _ dL_tries_28 rfl (Or.inr ⟨_, List.mem_of_getElem? (i := 1) rfl, hh, rfl⟩)
    · obtain rfl := q.2.2.2
      refine jm_catch [⟨0, 18, 21, 13⟩, ⟨0, 18, 25, 15⟩] ⟨0, 18, 29, 17⟩ [] C tb rfl (List.forall_mem_cons.mpr ⟨⟨by decide, _, jw_L_RL13, jm_c31⟩, List.forall_mem_cons.mpr ⟨⟨by decide, _, jw_L_RL15, jm_c32⟩, fun _ q => absurd q List.not_mem_nil⟩⟩) (by decide) (by decide) jw_L_RL17 jm_b3 (fun a9 => ?_)
      refine jm_astore C dL_tries_29 (by decide) ?_
      refine jm_iconst C dL_tries_31 ?_
      refine jm_wid (q' := (2, 12)) (Nat.le_of_ble_eq_true rfl) (Nat.le_of_ble_eq_true rfl) ?_
      exact hR _ _ _ _ dL_tries_32 rfl (Or.inr ⟨_, List.mem_of_getElem? (i := 2) rfl, hh, rfl⟩)
  · obtain ⟨v, hv, ev⟩ : ∃ v, jm_R v ∧ jm_i v = jm_i z := ⟨(jm_i z).toInt, jm_R_of _, jm_i_of _⟩
    rw [show jm_v z = jm_v v from congrArg Value.int ev.symm]
    refine jm_i2l C dL_tries_16 hv ?_
    refine jm_last C hO.1 rfl hO.2 (by decide) (by decide) (by decide) dL_tries_17 hv ?_
    refine jm_goto 33 C dL_tries_18 rfl ?_
    refine jm_iconst C dL_tries_33 ?_
    refine jm_wid (q' := (2, 12)) (Nat.le_of_ble_eq_true rfl) (Nat.le_of_ble_eq_true rfl) ?_
    exact hR _ _ _ _ dL_tries_34 rfl (Or.inl ⟨rfl, I2, z, v, h, hv, ev, rfl⟩)
set_option maxRecDepth 100000 in
theorem okL_advice : jm_okW RL yL_advice cL_advice 4 (some .int) [(0, 9, 12, 13), (0, 9, 15, 17)] 3 := ⟨jm_in 613 rfl rfl, jw_n_RL, jm_in 614 rfl rfl, rfl, ⟨by decide +kernel, by decide +kernel, by decide +kernel⟩, by decide +kernel⟩
def wL_advice : List Cond := Cond.codeWith yL_advice cL_advice 4 (some .int) [(0, 9, 12, 13), (0, 9, 15, 17)] :: jm_W0
abbrev rcL_advice : Room := jm_rx rmL_advice 2 12
set_option maxRecDepth 100000 in
set_option maxHeartbeats 4000000 in
theorem kL_advice (E : jm_E) (hl0 : E.1.stackTraces = false) (w : jm_W) (I : jm_M) (ng : Int) (H : jm_X5 E w ng) (g : Int) (g1 : jm_R g) (hpr : ∀ i, 0 ≤ i → i < ng → I (30 + i) 5 = 2 → hk_wpre I (30 + i)) (hO : 299 ∈ w.1 ∧ w.2.2 299 = jm_La (E.2.2 2) 1) : jm_Mi E yL_advice wL_advice rcL_advice 2 12 w I [.ref (w.2.1 0), jm_v g, .ref (w.2.1 299)] (hk_wp (fun I' z => (0 ≤ g ∧ g < ng) ∧ (I (30 + g) 5 = 2) ∧ hk_off I I' ∧ z = (hk_adv (hk_advv I (30 + g)) hk_advc 90).1) (fun cls I' => I' = I ∧ ((¬ (0 ≤ g ∧ g < ng) ∧ cls = "java/lang/IndexOutOfBoundsException") ∨ ((0 ≤ g ∧ g < ng) ∧ ¬ (I (30 + g) 5 = 2) ∧ cls = "java/lang/IllegalStateException"))) [("java/lang/IndexOutOfBoundsException", 1), ("java/lang/IllegalStateException", 2)]) := by
  refine jm_in_w (cc := cL_advice) (maxL := 4) (rt := .int) (hh := [(0, 9, 12, 13), (0, 9, 15, 17)]) RL (by decide +kernel) rfl rfl (Nat.le_of_ble_eq_true rfl) (by simp [Value.category]) ?_
  intro G C tb hR hI
  refine jm_aload_n C dL_advice_0 rfl ?_
  refine jm_iconst C dL_advice_1 ?_
  refine jm_aload_n C dL_advice_2 rfl ?_
  refine jm_iload_n C dL_advice_3 rfl ?_
  refine jm_xcVi (n := 1) (ci := 5) [jm_v 0, .ref (w.2.1 299)] C (kxX5_advice E hl0 w I ng H g g1 hpr) jw_m_RL_53 okX5_advice rfl ⟨rfl, rfl⟩ ⟨Nat.le_of_ble_eq_true rfl, Nat.le_of_ble_eq_true rfl⟩ rfl H.1.1 H.1.2 rfl rfl (Nat.le_of_ble_eq_true rfl) dL_advice_4 ⟨Nat.le_of_ble_eq_true rfl, Nat.le_of_ble_eq_true rfl⟩ (fun cls I2 h => ?_) (fun I2 z h => ?_)
  · have hh := h
    rcases h.2 with q | q
    · obtain rfl := q.2
      refine jm_catch [] ⟨0, 9, 12, 13⟩ [⟨0, 9, 15, 17⟩] C tb rfl (fun _ q => absurd q List.not_mem_nil) (by decide) (by decide) jw_L_RL13 jm_b1 (fun a9 => ?_)
      refine jm_astore_n C dL_advice_12 (by decide) ?_
      refine jm_iconst C dL_advice_13 ?_
      refine jm_wid (q' := (2, 12)) (Nat.le_of_ble_eq_true rfl) (Nat.le_of_ble_eq_true rfl) ?_
      exact hR _ _ _ _ dL_advice_14 rfl (Or.inr ⟨_, List.mem_of_getElem? (i := 0) rfl, hh, rfl⟩)
    · obtain rfl := q.2.2
      refine jm_catch [⟨0, 9, 12, 13⟩] ⟨0, 9, 15, 17⟩ [] C tb rfl (List.forall_mem_cons.mpr ⟨⟨by decide, _, jw_L_RL13, jm_c31⟩, fun _ q => absurd q List.not_mem_nil⟩) (by decide) (by decide) jw_L_RL17 jm_b3 (fun a9 => ?_)
      refine jm_astore_n C dL_advice_15 (by decide) ?_
      refine jm_iconst C dL_advice_16 ?_
      refine jm_wid (q' := (2, 12)) (Nat.le_of_ble_eq_true rfl) (Nat.le_of_ble_eq_true rfl) ?_
      exact hR _ _ _ _ dL_advice_17 rfl (Or.inr ⟨_, List.mem_of_getElem? (i := 1) rfl, hh, rfl⟩)
  · obtain ⟨v, hv, ev⟩ : ∃ v, jm_R v ∧ jm_i v = jm_i z := ⟨(jm_i z).toInt, jm_R_of _, jm_i_of _⟩
    rw [show jm_v z = jm_v v from congrArg Value.int ev.symm]
    refine jm_i2l C dL_advice_7 hv ?_
    refine jm_last C hO.1 rfl hO.2 (by decide) (by decide) (by decide) dL_advice_8 hv ?_
    refine jm_goto 18 C dL_advice_9 rfl ?_
    refine jm_iconst C dL_advice_18 ?_
    refine jm_wid (q' := (2, 12)) (Nat.le_of_ble_eq_true rfl) (Nat.le_of_ble_eq_true rfl) ?_
    exact hR _ _ _ _ dL_advice_19 rfl (Or.inl ⟨rfl, I2, z, v, h, hv, ev, rfl⟩)
set_option maxRecDepth 100000 in
theorem okL_shoot : jm_okW RL yL_shoot cL_shoot 9 (some .int) [(0, 18, 21, 13), (0, 18, 25, 15), (0, 18, 29, 17)] 8 := ⟨jm_in 364 rfl rfl, jw_n_RL, jm_in 365 rfl rfl, rfl, ⟨by decide +kernel, by decide +kernel, by decide +kernel⟩, by decide +kernel⟩
def wL_shoot : List Cond := Cond.codeWith yL_shoot cL_shoot 9 (some .int) [(0, 18, 21, 13), (0, 18, 25, 15), (0, 18, 29, 17)] :: jm_W0
abbrev rcL_shoot : Room := jm_rx rmL_shoot 2 12
set_option maxRecDepth 100000 in
set_option maxHeartbeats 4000000 in
theorem kL_shoot (E : jm_E) (hl0 : E.1.stackTraces = false) (w : jm_W) (I : jm_M) (ng : Int) (H : jm_X5 E w ng) (g : Int) (lane wt tn lo hi : Int) (g1 : jm_R g) (g2 : jm_R lane) (g3 : jm_R wt) (g4 : jm_R tn) (g5 : jm_R lo) (g6 : jm_R hi) (hpr : ∀ i, 0 ≤ i → i < ng → I (30 + i) 5 = 1 ∨ I (30 + i) 5 = 2 → hk_wpre I (30 + i)) (hex : ∀ i, 0 ≤ i → i < ng → I (30 + i) 5 = 1 ∨ I (30 + i) 5 = 2 → (0 ≤ I (30 + i) 0 ∧ I (30 + i) 0 < 6) ∧ (0 ≤ I (30 + i) 1 ∧ I (30 + i) 1 < 6) ∧ (0 ≤ I (30 + i) 11 ∧ I (30 + i) 11 ≤ 100000) ∧ (0 ≤ I (30 + i) 8 ∧ I (30 + i) 8 ≤ 100000) ∧ (0 ≤ I (30 + i) 9 ∧ I (30 + i) 9 ≤ 100000) ∧ (0 ≤ I (30 + i) 10 ∧ I (30 + i) 10 ≤ 100000)) (hwn : ∀ t, 0 ≤ t → t < 6 → 0 ≤ I (20 + t) 0 ∧ I (20 + t) 0 ≤ 1000000) (htm : ∀ t, 0 ≤ t → t < 6 → (0 ≤ I (20 + t) 1 ∧ I (20 + t) 1 ≤ 1000000) ∧ (0 ≤ I (20 + t) 2 ∧ I (20 + t) 2 ≤ 1000000)) (hO : 299 ∈ w.1 ∧ w.2.2 299 = jm_La (E.2.2 2) 1) : jm_Mi E yL_shoot wL_shoot rcL_shoot 2 12 w I [.ref (w.2.1 0), jm_v g, jm_v lane, jm_v wt, jm_v tn, jm_v lo, jm_v hi, .ref (w.2.1 299)] (hk_wp (fun I' z => (0 ≤ g ∧ g < ng) ∧ (hk_shot lane wt tn lo hi) ∧ (I (30 + g) 5 = 1 ∨ I (30 + g) 5 = 2) ∧ z = (hk_thr (I (10 + I (30 + g) 6 + 100)) (I (30 + g + 100 + 100)) (hk_slot I (30 + g)) lane (10 * wt) tn lo hi).1 ∧ ∃ M : jm_M, (∀ a, a ≠ 4 → a ≠ 4 + 100 + 100 → a ≠ 10 + I (30 + g) 6 + 100 → M a = I a) ∧ hk_eq6 (M (4 + 100 + 100)) (hk_thr (I (10 + I (30 + g) 6 + 100)) (I (30 + g + 100 + 100)) (hk_slot I (30 + g)) lane (10 * wt) tn lo hi).2.2 ∧ M (10 + I (30 + g) 6 + 100) = (hk_thr (I (10 + I (30 + g) 6 + 100)) (I (30 + g + 100 + 100)) (hk_slot I (30 + g)) lane (10 * wt) tn lo hi).2.1 ∧ hk_w9 (M (10 + I (30 + g) 6 + 100)) ∧ hk_good (hk_thr (I (10 + I (30 + g) 6 + 100)) (I (30 + g + 100 + 100)) (hk_slot I (30 + g)) lane (10 * wt) tn lo hi).2.2 ∧ I' = (if I (30 + g) 5 = 1 then hk_sdr M (30 + g) (hk_dist (hk_thr (I (10 + I (30 + g) 6 + 100)) (I (30 + g + 100 + 100)) (hk_slot I (30 + g)) lane (10 * wt) tn lo hi).1) else hk_sst (hk_fill M (30 + g + 100 + 100) 6 (M (4 + 100 + 100))) (30 + g))) (fun cls I' => I' = I ∧ ((¬ (0 ≤ g ∧ g < ng) ∧ cls = "java/lang/IndexOutOfBoundsException") ∨ ((0 ≤ g ∧ g < ng) ∧ ¬ (hk_shot lane wt tn lo hi) ∧ cls = "java/lang/IllegalArgumentException") ∨ ((0 ≤ g ∧ g < ng) ∧ (hk_shot lane wt tn lo hi) ∧ ¬ (I (30 + g) 5 = 1 ∨ I (30 + g) 5 = 2) ∧ cls = "java/lang/IllegalStateException"))) [("java/lang/IndexOutOfBoundsException", 1), ("java/lang/IllegalArgumentException", 2), ("java/lang/IllegalStateException", 3)]) := by
  refine jm_in_w (cc := cL_shoot) (maxL := 9) (rt := .int) (hh := [(0, 18, 21, 13), (0, 18, 25, 15), (0, 18, 29, 17)]) RL (by decide +kernel) rfl rfl (Nat.le_of_ble_eq_true rfl) (by simp [Value.category]) ?_
  intro G C tb hR hI
  refine jm_aload C dL_shoot_0 rfl ?_
  refine jm_iconst C dL_shoot_2 ?_
  refine jm_aload_n C dL_shoot_3 rfl ?_
  refine jm_iload_n C dL_shoot_4 rfl ?_
  refine jm_iload_n C dL_shoot_5 rfl ?_
  refine jm_iload_n C dL_shoot_6 rfl ?_
  refine jm_iload C dL_shoot_7 rfl ?_
  refine jm_iload C dL_shoot_9 rfl ?_
  refine jm_iload C dL_shoot_11 rfl ?_
  refine jm_xcVi (n := 6) (ci := 5) [jm_v 0, .ref (w.2.1 299)] C (kxX5_shoot E hl0 w I ng H g lane wt tn lo hi g1 g2 g3 g4 g5 g6 hpr hex hwn htm) jw_m_RL_23 okX5_shoot rfl ⟨rfl, rfl⟩ ⟨Nat.le_of_ble_eq_true rfl, Nat.le_of_ble_eq_true rfl⟩ rfl H.1.1 H.1.2 rfl rfl (Nat.le_of_ble_eq_true rfl) dL_shoot_13 ⟨Nat.le_of_ble_eq_true rfl, Nat.le_of_ble_eq_true rfl⟩ (fun cls I2 h => ?_) (fun I2 z h => ?_)
  · have hh := h
    rcases h.2 with q | q | q
    · obtain rfl := q.2
      refine jm_catch [] ⟨0, 18, 21, 13⟩ [⟨0, 18, 25, 15⟩, ⟨0, 18, 29, 17⟩] C tb rfl (fun _ q => absurd q List.not_mem_nil) (by decide) (by decide) jw_L_RL13 jm_b1 (fun a9 => ?_)
      refine jm_astore C dL_shoot_21 (by decide) ?_
      refine jm_iconst C dL_shoot_23 ?_
      refine jm_wid (q' := (2, 12)) (Nat.le_of_ble_eq_true rfl) (Nat.le_of_ble_eq_true rfl) ?_
      exact hR _ _ _ _ dL_shoot_24 rfl (Or.inr ⟨_, List.mem_of_getElem? (i := 0) rfl, hh, rfl⟩)
    · obtain rfl := q.2.2
      refine jm_catch [⟨0, 18, 21, 13⟩] ⟨0, 18, 25, 15⟩ [⟨0, 18, 29, 17⟩] C tb rfl (List.forall_mem_cons.mpr ⟨⟨by decide, _, jw_L_RL13, jm_c21⟩, fun _ q => absurd q List.not_mem_nil⟩) (by decide) (by decide) jw_L_RL15 jm_b2 (fun a9 => ?_)
      refine jm_astore C dL_shoot_25 (by decide) ?_
      refine jm_iconst C dL_shoot_27 ?_
      refine jm_wid (q' := (2, 12)) (Nat.le_of_ble_eq_true rfl) (Nat.le_of_ble_eq_true rfl) ?_
      exact hR _ _ _ _ dL_shoot_28 rfl (Or.inr ⟨_, List.mem_of_getElem? (i := 1) rfl, hh, rfl⟩)
    · obtain rfl := q.2.2.2
      refine jm_catch [⟨0, 18, 21, 13⟩, ⟨0, 18, 25, 15⟩] ⟨0, 18, 29, 17⟩ [] C tb rfl (List.forall_mem_cons.mpr ⟨⟨by decide, _, jw_L_RL13, jm_c31⟩, List.forall_mem_cons.mpr ⟨⟨by decide, _, jw_L_RL15, jm_c32⟩, fun _ q => absurd q List.not_mem_nil⟩⟩) (by decide) (by decide) jw_L_RL17 jm_b3 (fun a9 => ?_)
      refine jm_astore C dL_shoot_29 (by decide) ?_
      refine jm_iconst C dL_shoot_31 ?_
      refine jm_wid (q' := (2, 12)) (Nat.le_of_ble_eq_true rfl) (Nat.le_of_ble_eq_true rfl) ?_
      exact hR _ _ _ _ dL_shoot_32 rfl (Or.inr ⟨_, List.mem_of_getElem? (i := 2) rfl, hh, rfl⟩)
  · obtain ⟨v, hv, ev⟩ : ∃ v, jm_R v ∧ jm_i v = jm_i z := ⟨(jm_i z).toInt, jm_R_of _, jm_i_of _⟩
    rw [show jm_v z = jm_v v from congrArg Value.int ev.symm]
    refine jm_i2l C dL_shoot_16 hv ?_
    refine jm_last C hO.1 rfl hO.2 (by decide) (by decide) (by decide) dL_shoot_17 hv ?_
    refine jm_goto 33 C dL_shoot_18 rfl ?_
    refine jm_iconst C dL_shoot_33 ?_
    refine jm_wid (q' := (2, 12)) (Nat.le_of_ble_eq_true rfl) (Nat.le_of_ble_eq_true rfl) ?_
    exact hR _ _ _ _ dL_shoot_34 rfl (Or.inl ⟨rfl, I2, z, v, h, hv, ev, rfl⟩)
