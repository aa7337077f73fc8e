set_option maxRecDepth 100000 in
theorem okL_plan : jm_okW RL yL_plan cL_plan 7 (some .int) [(0, 14, 17, 13), (0, 14, 21, 15), (0, 14, 25, 17)] 6 := ⟨jm_in 184 rfl rfl, jw_n_RL, jm_in 185 rfl rfl, rfl, ⟨by decide +kernel, by decide +kernel, by decide +kernel⟩, by decide +kernel⟩
def wL_plan : List Cond := Cond.codeWith yL_plan cL_plan 7 (some .int) [(0, 14, 17, 13), (0, 14, 21, 15), (0, 14, 25, 17)] :: jm_W0
abbrev rcL_plan : Room := jm_rx rmL_plan 3 20
def hk_wpw (post : jm_W → jm_M → Int → Prop) (px : String → jm_M → Prop) (cs : List (String × Int)) (w w' : jm_W) (I' : jm_M) (z : Int) : Prop := (z = 0 ∧ ∃ (I1 : jm_M) (v v' : Int), post w' I1 v ∧ jm_R v' ∧ jm_i v' = jm_i v ∧ I' = jm_up I1 299 0 v') ∨ (w' = w ∧ ∃ c, c ∈ cs ∧ px c.1 I' ∧ z = c.2)
set_option maxRecDepth 100000 in
set_option maxHeartbeats 4000000 in
theorem kL_plan (E : jm_E) (hl0 : E.1.stackTraces = false) (w : jm_W) (I : jm_M) (ng : Int) (H : jm_X5 E w ng) (h4 : I 0 4 = ng) (hnow : 0 ≤ I 0 5 ∧ I 0 5 ≤ 9999) (a b h s : Int) (g1 : jm_R a) (g2 : jm_R b) (g3 : jm_R h) (g4 : jm_R s) (hn1 : ng < 12 → 30 + ng ∉ w.1 ∧ 30 + ng + 100 ∉ w.1 ∧ 30 + ng + 100 + 100 ∉ w.1) (hO : 299 ∈ w.1 ∧ w.2.2 299 = jm_La (E.2.2 2) 1) : jm_Mw E yL_plan wL_plan rcL_plan 3 20 w I [.ref (w.2.1 0), jm_v a, jm_v b, jm_v h, jm_v s, .ref (w.2.1 299)] (hk_wpw (fun w' I' z => ((0 ≤ a ∧ a ≤ 5) ∧ (0 ≤ b ∧ b ≤ 5) ∧ (0 ≤ s ∧ s ≤ 2)) ∧ (a ≠ b ∧ I 0 5 + 1 ≤ h ∧ h ≤ 9999) ∧ (ng < 12) ∧ z = ng ∧ jm_X5 E w' (ng + 1) ∧ hk_sm w w' ng ∧ (∀ y, y ≠ 4 → I' 0 y = I 0 y) ∧ I' 0 4 = ng + 1 ∧ (∀ x, x ≠ 0 → x ≠ 30 + ng → x ≠ 30 + ng + 100 → x ≠ 30 + ng + 100 + 100 → I' x = I x) ∧ hk_gnew I' (30 + ng) a b s h) (fun cls I' => I' = I ∧ ((¬ ((0 ≤ a ∧ a ≤ 5) ∧ (0 ≤ b ∧ b ≤ 5) ∧ (0 ≤ s ∧ s ≤ 2)) ∧ cls = "java/lang/IndexOutOfBoundsException") ∨ (((0 ≤ a ∧ a ≤ 5) ∧ (0 ≤ b ∧ b ≤ 5) ∧ (0 ≤ s ∧ s ≤ 2)) ∧ ¬ (a ≠ b ∧ I 0 5 + 1 ≤ h ∧ h ≤ 9999) ∧ cls = "java/lang/IllegalArgumentException") ∨ (((0 ≤ a ∧ a ≤ 5) ∧ (0 ≤ b ∧ b ≤ 5) ∧ (0 ≤ s ∧ s ≤ 2)) ∧ (a ≠ b ∧ I 0 5 + 1 ≤ h ∧ h ≤ 9999) ∧ ¬ (ng < 12) ∧ cls = "java/lang/IllegalStateException"))) [("java/lang/IndexOutOfBoundsException", 1), ("java/lang/IllegalArgumentException", 2), ("java/lang/IllegalStateException", 3)] w) := by
  refine jm_in_ww (cc := cL_plan) (maxL := 7) (rt := .int) (hh := [(0, 14, 17, 13), (0, 14, 21, 15), (0, 14, 25, 17)]) RL (by decide +kernel) rfl rfl (Nat.le_of_ble_eq_true rfl) (by simp [Value.category]) ?_
  intro G C tb hR hI
  refine jm_aload C dL_plan_0 rfl ?_
  refine jm_iconst C dL_plan_2 ?_
  refine jm_aload_n C dL_plan_3 rfl ?_
  refine jm_iload_n C dL_plan_4 rfl ?_
  refine jm_iload_n C dL_plan_5 rfl ?_
  refine jm_iload_n C dL_plan_6 rfl ?_
  refine jm_iload C dL_plan_7 rfl ?_
  refine jm_xcVw (n := 4) (ci := 5) [jm_v 0, .ref (w.2.1 299)] C (kxX5_plan E hl0 w I ng H h4 hnow a b h s g1 g2 g3 g4 hn1) jw_m_RL_7 okX5_plan rfl ⟨rfl, rfl⟩ ⟨Nat.le_of_ble_eq_true rfl, Nat.le_of_ble_eq_true rfl⟩ rfl H.1.1 H.1.2 rfl rfl (Nat.le_of_ble_eq_true rfl) dL_plan_9 ⟨Nat.le_of_ble_eq_true rfl, Nat.le_of_ble_eq_true rfl⟩ (fun cls I2 h => ?_) (fun w2 I2 z h => ?_)
  · have hh := h
    rcases h.2 with q | q | q
    · obtain rfl := q.2
      refine jm_catch [] ⟨0, 14, 17, 13⟩ [⟨0, 14, 21, 15⟩, ⟨0, 14, 25, 17⟩] C tb rfl (fun _ q => absurd q List.not_mem_nil) (by decide) (by decide) jw_L_RL13 jm_b1 (fun a9 => ?_)
      refine jm_astore C dL_plan_17 (by decide) ?_
      refine jm_iconst C dL_plan_19 ?_
      refine jm_wid (q' := (3, 20)) (Nat.le_of_ble_eq_true rfl) (Nat.le_of_ble_eq_true rfl) ?_
      exact hR _ _ _ _ _ dL_plan_20 rfl (Or.inr ⟨rfl, _, List.mem_of_getElem? (i := 0) rfl, hh, rfl⟩)
    · obtain rfl := q.2.2
      refine jm_catch [⟨0, 14, 17, 13⟩] ⟨0, 14, 21, 15⟩ [⟨0, 14, 25, 17⟩] C tb rfl (List.forall_mem_cons.mpr ⟨⟨by decide, _, jw_L_RL13, jm_c21⟩, fun _ q => absurd q List.not_mem_nil⟩) (by decide) (by decide) jw_L_RL15 jm_b2 (fun a9 => ?_)
      refine jm_astore C dL_plan_21 (by decide) ?_
      refine jm_iconst C dL_plan_23 ?_
      refine jm_wid (q' := (3, 20)) (Nat.le_of_ble_eq_true rfl) (Nat.le_of_ble_eq_true rfl) ?_
      exact hR _ _ _ _ _ dL_plan_24 rfl (Or.inr ⟨rfl, _, List.mem_of_getElem? (i := 1) rfl, hh, rfl⟩)
    · obtain rfl := q.2.2.2
      refine jm_catch [⟨0, 14, 17, 13⟩, ⟨0, 14, 21, 15⟩] ⟨0, 14, 25, 17⟩ [] C tb rfl (List.forall_mem_cons.mpr ⟨⟨by decide, _, jw_L_RL13, jm_c31⟩, List.forall_mem_cons.mpr ⟨⟨by decide, _, jw_L_RL15, jm_c32⟩, fun _ q => absurd q List.not_mem_nil⟩⟩) (by decide) (by decide) jw_L_RL17 jm_b3 (fun a9 => ?_)
      refine jm_astore C dL_plan_25 (by decide) ?_
      refine jm_iconst C dL_plan_27 ?_
      refine jm_wid (q' := (3, 20)) (Nat.le_of_ble_eq_true rfl) (Nat.le_of_ble_eq_true rfl) ?_
      exact hR _ _ _ _ _ dL_plan_28 rfl (Or.inr ⟨rfl, _, List.mem_of_getElem? (i := 2) rfl, hh, rfl⟩)
  · obtain ⟨v, hv, ev⟩ : ∃ v, jm_R v ∧ jm_i v = jm_i z := ⟨(jm_i z).toInt, jm_R_of _, jm_i_of _⟩
    have sm := h.2.2.2.2.2.1
    have s9 := sm.1 299 hO.1
    rw [show jm_v z = jm_v v from congrArg Value.int ev.symm]
    refine jm_i2l C dL_plan_12 hv ?_
    rw [← s9.2.1]
    refine jm_last C s9.1 rfl ((s9.2.2 (by decide) (by decide) (by decide)).trans hO.2) (by decide) (by decide) (by decide) dL_plan_13 hv ?_
    refine jm_goto 29 C dL_plan_14 rfl ?_
    refine jm_iconst C dL_plan_29 ?_
    refine jm_wid (q' := (3, 20)) (Nat.le_of_ble_eq_true rfl) (Nat.le_of_ble_eq_true rfl) ?_
    exact hR _ _ _ _ _ dL_plan_30 rfl (Or.inl ⟨rfl, I2, z, v, h, hv, ev, rfl⟩)
theorem kX5_hour (E : jm_E) (w : jm_W) (I : jm_M) (ng : Int) (H : jm_X5 E w ng) : jm_Mi E yX5_hour wX5_hour rmX5_hour 0 0 w I [.ref (w.2.1 0)] (fun I' z => I' = I ∧ z = I 0 5) := by
  refine jm_in_i (cc := cX5_hour) (maxL := 1) (rt := .int) RX5 (by decide +kernel) rfl rfl (Nat.le_of_ble_eq_true rfl) (by simp [Value.category]) ?_
  intro G C hR hI
  refine jm_aload_n C dX5_hour_0 rfl ?_
  refine jm_get (ci := 5) (f := 5) 5 rfl C rfl jw_u_5 H.1.1 H.1.2 rfl (by decide) jw_f_RX5_54 dX5_hour_1 (fun yr => ?_)
  exact hR _ _ _ _ dX5_hour_4 rfl ⟨rfl, rfl⟩
/-- the hour of both -/
theorem hk_s_hour {I I2 : jm_M} {n : Nat} {T zb : Int} (H : hk_inv I I n T) (hm : I2 = jm_up I 300 0 0 ∧ zb = I 300 1) : I 0 5 = zb ∧ I2 300 0 = 0 ∧ hk_inv I2 I2 n (T + 1) := by
  obtain ⟨rfl, rfl⟩ := hm
  refine ⟨H.1.2.1.1, jm_up_s _ _ _ _, hk_inv_T (hk_inv_x H (fun a b _ q _ _ _ => jm_up_n (Or.inl (by omega))) (fun a b _ _ _ _ _ q => jm_up_n q)) (by omega)⟩
