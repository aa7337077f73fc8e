/-! THE TWO GREAT CONSTRUCTORS -/
def hk_hn (z : Int) : Prop := (0 ≤ z ∧ z < 30) ∨ (100 ≤ z ∧ z < 130) ∨ z = 204
def hk_mn3 (z : Int) : Prop := 300 < z ∧ z ≤ 327
def hk_h0 (I I' : jm_M) : Prop := (I' 0 4 = I 0 4 ∧ I' 0 5 = I 0 5 ∧ I' 0 6 = 2 ∧ I' 0 7 = -1 ∧ I' 0 8 = I 0 8) ∧ (∀ i, 0 ≤ i → i < 3 → I' (10 + i) 1 = 1 ∧ I' (10 + i) 2 = -1 ∧ I' (10 + i + 100) = fun _ => 0) ∧ (∀ t, 0 ≤ t → t < 6 → I' (20 + t) = fun _ => 0) ∧ (∀ a, ¬ hk_hn a → I' a = I a)
def hk_m0 (I I' : jm_M) : Prop := (∀ b, b ≠ 2 → b ≠ 3 → I' 300 b = I 300 b) ∧ I' 300 2 = 2 ∧ I' 300 3 = -1 ∧ (∀ b, I' 307 b = if 0 ≤ b ∧ b < 3 then -1 else 0) ∧ (∀ a, 300 < a → a ≤ 327 → a ≠ 307 → a ≠ 308 → I' a = fun _ => 0) ∧ (∀ a, a < 300 → I' a = I a)
set_option maxRecDepth 100000 in
set_option maxHeartbeats 40000000 in
/-- the house -/
theorem kX5_init (E : jm_E) (w : jm_W) (I : jm_M) (r : Nat) (A_0 : w.2.1 0 = r) (M_0 : 0 ∈ w.1) (S_0 : w.2.2 0 = jm_O 5 [some .null, some .null, some .null, some .null, none, none, none, none, none]) (hw : ∀ z, z ∈ w.1 → z = 0 ∨ 400 ≤ z) : jm_Mcx jm_XA E yX5_init wX5_init rcX5_init 18 1712 w I [.ref r] (fun w' I' => jm_gr w w' 0 hk_hn ∧ jm_X5 E w' 0 ∧ hk_h0 I I') := by
  refine jm_in_c (cc := cX5_init) (maxL := 2) RX5 (by decide +kernel) rfl rfl rfl (Nat.le_of_ble_eq_true rfl) (by simp [Value.category]) ?_
  intro G C hin0 hX hR hI
  have hAO := jm_AO_1 hX
  have N_1 : (1) ∉ w.1 := fun h => absurd (hw _ h) (by decide)
  have N0_1 := N_1
  have N_10 : (10) ∉ w.1 := fun h => absurd (hw _ h) (by decide)
  have N0_10 := N_10
  have N_10p100 : (10 + 100) ∉ w.1 := fun h => absurd (hw _ h) (by decide)
  have N0_10p100 := N_10p100
  have N_11 : (11) ∉ w.1 := fun h => absurd (hw _ h) (by decide)
  have N0_11 := N_11
  have N_11p100 : (11 + 100) ∉ w.1 := fun h => absurd (hw _ h) (by decide)
  have N0_11p100 := N_11p100
  have N_12 : (12) ∉ w.1 := fun h => absurd (hw _ h) (by decide)
  have N0_12 := N_12
  have N_12p100 : (12 + 100) ∉ w.1 := fun h => absurd (hw _ h) (by decide)
  have N0_12p100 := N_12p100
  have N_2 : (2) ∉ w.1 := fun h => absurd (hw _ h) (by decide)
  have N0_2 := N_2
  have N_20 : (20) ∉ w.1 := fun h => absurd (hw _ h) (by decide)
  have N0_20 := N_20
  have N_21 : (21) ∉ w.1 := fun h => absurd (hw _ h) (by decide)
  have N0_21 := N_21
  have N_22 : (22) ∉ w.1 := fun h => absurd (hw _ h) (by decide)
  have N0_22 := N_22
  have N_23 : (23) ∉ w.1 := fun h => absurd (hw _ h) (by decide)
  have N0_23 := N_23
  have N_24 : (24) ∉ w.1 := fun h => absurd (hw _ h) (by decide)
  have N0_24 := N_24
  have N_25 : (25) ∉ w.1 := fun h => absurd (hw _ h) (by decide)
  have N0_25 := N_25
  have N_3 : (3) ∉ w.1 := fun h => absurd (hw _ h) (by decide)
  have N0_3 := N_3
  have N_4 : (4) ∉ w.1 := fun h => absurd (hw _ h) (by decide)
  have N0_4 := N_4
  have N_4p100 : (4 + 100) ∉ w.1 := fun h => absurd (hw _ h) (by decide)
  have N0_4p100 := N_4p100
  have N_4p100p100 : (4 + 100 + 100) ∉ w.1 := fun h => absurd (hw _ h) (by decide)
  have N0_4p100p100 := N_4p100p100
  have GT : jm_gr w w 0 hk_hn := jm_gr_rf w 0 _
  refine jm_aload_n C dX5_init_0 rfl ?_
  refine jm_obj C jw_m_RX5_3 (Nat.le_of_ble_eq_true rfl) (Nat.le_of_ble_eq_true rfl) dX5_init_1 ?_
  refine jm_aload_n C dX5_init_4 rfl ?_
  refine jm_iconst C dX5_init_5 ?_
  refine jm_newq 3 3 (1) (by decide) (by decide) C rfl jw_L_RX5_9 hAO.1 N_1 ⟨Nat.le_of_ble_eq_true rfl, Nat.le_of_ble_eq_true rfl⟩ dX5_init_6 (fun a_1 => ?_)
  refine jm_gen (fun w1 hw1 => ?_)
  have GG : jm_gr w w1 (1) (fun z => z = (1)) := by rw [hw1]; exact jm_gr_ad N_1
  replace A_0 : w1.2.1 (0) = r := (GG.1 _ M_0).2.1.trans A_0
  replace S_0 : w1.2.2 (0) = jm_O 5 [some .null, some .null, some .null, some .null, none, none, none, none, none] := ((GG.1 _ M_0).2.2 (by decide)).trans S_0
  replace M_0 : (0) ∈ w1.1 := (GG.1 _ M_0).1
  replace N_10 : (10) ∉ w1.1 := fun h => (GG.2 _ h).elim N_10 (fun e => absurd (show (10 : Int) = (1) from e) (by decide))
  replace N_10p100 : (10 + 100) ∉ w1.1 := fun h => (GG.2 _ h).elim N_10p100 (fun e => absurd (show (10 + 100 : Int) = (1) from e) (by decide))
  replace N_11 : (11) ∉ w1.1 := fun h => (GG.2 _ h).elim N_11 (fun e => absurd (show (11 : Int) = (1) from e) (by decide))
  replace N_11p100 : (11 + 100) ∉ w1.1 := fun h => (GG.2 _ h).elim N_11p100 (fun e => absurd (show (11 + 100 : Int) = (1) from e) (by decide))
  replace N_12 : (12) ∉ w1.1 := fun h => (GG.2 _ h).elim N_12 (fun e => absurd (show (12 : Int) = (1) from e) (by decide))
  replace N_12p100 : (12 + 100) ∉ w1.1 := fun h => (GG.2 _ h).elim N_12p100 (fun e => absurd (show (12 + 100 : Int) = (1) from e) (by decide))
  replace N_2 : (2) ∉ w1.1 := fun h => (GG.2 _ h).elim N_2 (fun e => absurd (show (2 : Int) = (1) from e) (by decide))
  replace N_20 : (20) ∉ w1.1 := fun h => (GG.2 _ h).elim N_20 (fun e => absurd (show (20 : Int) = (1) from e) (by decide))
  replace N_21 : (21) ∉ w1.1 := fun h => (GG.2 _ h).elim N_21 (fun e => absurd (show (21 : Int) = (1) from e) (by decide))
  replace N_22 : (22) ∉ w1.1 := fun h => (GG.2 _ h).elim N_22 (fun e => absurd (show (22 : Int) = (1) from e) (by decide))
  replace N_23 : (23) ∉ w1.1 := fun h => (GG.2 _ h).elim N_23 (fun e => absurd (show (23 : Int) = (1) from e) (by decide))
  replace N_24 : (24) ∉ w1.1 := fun h => (GG.2 _ h).elim N_24 (fun e => absurd (show (24 : Int) = (1) from e) (by decide))
  replace N_25 : (25) ∉ w1.1 := fun h => (GG.2 _ h).elim N_25 (fun e => absurd (show (25 : Int) = (1) from e) (by decide))
  replace N_3 : (3) ∉ w1.1 := fun h => (GG.2 _ h).elim N_3 (fun e => absurd (show (3 : Int) = (1) from e) (by decide))
  replace N_4 : (4) ∉ w1.1 := fun h => (GG.2 _ h).elim N_4 (fun e => absurd (show (4 : Int) = (1) from e) (by decide))
  replace N_4p100 : (4 + 100) ∉ w1.1 := fun h => (GG.2 _ h).elim N_4p100 (fun e => absurd (show (4 + 100 : Int) = (1) from e) (by decide))
  replace N_4p100p100 : (4 + 100 + 100) ∉ w1.1 := fun h => (GG.2 _ h).elim N_4p100p100 (fun e => absurd (show (4 + 100 + 100 : Int) = (1) from e) (by decide))
  replace GT : jm_gr w w1 (0) (hk_hn) := jm_gr_tr GT GG (fun h => absurd h N0_1) (fun z e => e.elim id (fun e => by have e : z = (1) := e; subst e; exact (show hk_hn _ from by unfold hk_hn; decide)))
  have M_1 : (1) ∈ w1.1 := by rw [hw1]; exact jm_ad_m
  have A_1 : w1.2.1 (1) = a_1 := by rw [hw1]; exact jm_ad_a
  have S_1 : w1.2.2 (1) = jm_Qa (E.2.2 3) 3 (fun _ => none) := by rw [hw1]; exact jm_ad_s
  clear hw1
  refine jm_geni (fun J1 hJ1 => ?_)
  rw [← A_0]
  refine jm_putr (ci := 5) (f := 0) (a := a_1) C hin0 rfl tyX5 tyX5_ok nmX5 jw_u_5 M_0 S_0 (Nat.le_of_ble_eq_true rfl) (by decide) jw_f_RX5_11 rfl rfl (tyX5_ok 0 (by decide)) rfl rfl dX5_init_9 ?_
  try rw [A_0]
  refine jm_gen (fun w2 hw2 => ?_)
  have GG : jm_gr w1 w2 (0) (fun _ => False) := by rw [hw2]; exact jm_gr_sh
  replace A_0 : w2.2.1 (0) = r := (GG.1 _ M_0).2.1.trans A_0
  replace M_0 : (0) ∈ w2.1 := (GG.1 _ M_0).1
  replace A_1 : w2.2.1 (1) = a_1 := (GG.1 _ M_1).2.1.trans A_1
  replace S_1 : w2.2.2 (1) = jm_Qa (E.2.2 3) 3 (fun _ => none) := ((GG.1 _ M_1).2.2 (by decide)).trans S_1
  replace M_1 : (1) ∈ w2.1 := (GG.1 _ M_1).1
  replace N_10 : (10) ∉ w2.1 := fun h => (GG.2 _ h).elim N_10 (fun e => e.elim)
  replace N_10p100 : (10 + 100) ∉ w2.1 := fun h => (GG.2 _ h).elim N_10p100 (fun e => e.elim)
  replace N_11 : (11) ∉ w2.1 := fun h => (GG.2 _ h).elim N_11 (fun e => e.elim)
  replace N_11p100 : (11 + 100) ∉ w2.1 := fun h => (GG.2 _ h).elim N_11p100 (fun e => e.elim)
  replace N_12 : (12) ∉ w2.1 := fun h => (GG.2 _ h).elim N_12 (fun e => e.elim)
  replace N_12p100 : (12 + 100) ∉ w2.1 := fun h => (GG.2 _ h).elim N_12p100 (fun e => e.elim)
  replace N_2 : (2) ∉ w2.1 := fun h => (GG.2 _ h).elim N_2 (fun e => e.elim)
  replace N_20 : (20) ∉ w2.1 := fun h => (GG.2 _ h).elim N_20 (fun e => e.elim)
  replace N_21 : (21) ∉ w2.1 := fun h => (GG.2 _ h).elim N_21 (fun e => e.elim)
  replace N_22 : (22) ∉ w2.1 := fun h => (GG.2 _ h).elim N_22 (fun e => e.elim)
  replace N_23 : (23) ∉ w2.1 := fun h => (GG.2 _ h).elim N_23 (fun e => e.elim)
  replace N_24 : (24) ∉ w2.1 := fun h => (GG.2 _ h).elim N_24 (fun e => e.elim)
  replace N_25 : (25) ∉ w2.1 := fun h => (GG.2 _ h).elim N_25 (fun e => e.elim)
  replace N_3 : (3) ∉ w2.1 := fun h => (GG.2 _ h).elim N_3 (fun e => e.elim)
  replace N_4 : (4) ∉ w2.1 := fun h => (GG.2 _ h).elim N_4 (fun e => e.elim)
  replace N_4p100 : (4 + 100) ∉ w2.1 := fun h => (GG.2 _ h).elim N_4p100 (fun e => e.elim)
  replace N_4p100p100 : (4 + 100 + 100) ∉ w2.1 := fun h => (GG.2 _ h).elim N_4p100p100 (fun e => e.elim)
  replace GT : jm_gr w w2 (0) (hk_hn) := jm_gr_tr GT GG (fun _ => rfl) (fun z e => e.elim id (fun e => e.elim))
  have S_0 : w2.2.2 (0) = jm_O 5 [some (.ref a_1), some .null, some .null, some .null, none, none, none, none, none] := by rw [hw2]; exact jm_sh_s
  clear hw2
  refine jm_iconst C dX5_init_12 ?_
  refine jm_istore_n C dX5_init_13 (by decide) ?_
  refine jm_iload_n C dX5_init_14 rfl ?_
  refine jm_aload_n C dX5_init_15 rfl ?_
  rw [← A_0]
  refine jm_getr (ci := 5) (f := 0) C rfl jw_u_5 M_0 S_0 rfl (by decide) jw_f_RX5_11 dX5_init_16 ?_
  try rw [A_0]
  rw [← A_1]
  refine jm_alenq 3 3 rfl C M_1 rfl S_1 dX5_init_19 ?_
  try rw [A_1]
  refine jm_icmp_ge 42 C dX5_init_20 rfl (by decide) (by decide) (fun c => ?_) (fun c => ?_)
  · exact absurd c (by decide)
  refine jm_aload_n C dX5_init_23 rfl ?_
  rw [← A_0]
  refine jm_getr (ci := 5) (f := 0) C rfl jw_u_5 M_0 S_0 rfl (by decide) jw_f_RX5_11 dX5_init_24 ?_
  try rw [A_0]
  refine jm_iload_n C dX5_init_27 rfl ?_
  refine jm_new (ci := 1) (tm := [some .null, none, none]) (10) C rfl tyX1 tyX1_ok jw_u_1 jw_L_RX5_9 jw_I_RX1 jw_n_RX1 N_10 (by decide +kernel) ⟨Nat.le_of_ble_eq_true rfl, Nat.le_of_ble_eq_true rfl⟩ dX5_init_28 (fun a_10 => ?_)
  refine jm_gen (fun w3 hw3 => ?_)
  have GG : jm_gr w2 w3 (10) (fun z => z = (10)) := by rw [hw3]; exact jm_gr_ad N_10
  replace A_0 : w3.2.1 (0) = r := (GG.1 _ M_0).2.1.trans A_0
  replace S_0 : w3.2.2 (0) = jm_O 5 [some (.ref a_1), some .null, some .null, some .null, none, none, none, none, none] := ((GG.1 _ M_0).2.2 (by decide)).trans S_0
  replace M_0 : (0) ∈ w3.1 := (GG.1 _ M_0).1
  replace A_1 : w3.2.1 (1) = a_1 := (GG.1 _ M_1).2.1.trans A_1
  replace S_1 : w3.2.2 (1) = jm_Qa (E.2.2 3) 3 (fun _ => none) := ((GG.1 _ M_1).2.2 (by decide)).trans S_1
  replace M_1 : (1) ∈ w3.1 := (GG.1 _ M_1).1
  replace N_10p100 : (10 + 100) ∉ w3.1 := fun h => (GG.2 _ h).elim N_10p100 (fun e => absurd (show (10 + 100 : Int) = (10) from e) (by decide))
  replace N_11 : (11) ∉ w3.1 := fun h => (GG.2 _ h).elim N_11 (fun e => absurd (show (11 : Int) = (10) from e) (by decide))
  replace N_11p100 : (11 + 100) ∉ w3.1 := fun h => (GG.2 _ h).elim N_11p100 (fun e => absurd (show (11 + 100 : Int) = (10) from e) (by decide))
  replace N_12 : (12) ∉ w3.1 := fun h => (GG.2 _ h).elim N_12 (fun e => absurd (show (12 : Int) = (10) from e) (by decide))
  replace N_12p100 : (12 + 100) ∉ w3.1 := fun h => (GG.2 _ h).elim N_12p100 (fun e => absurd (show (12 + 100 : Int) = (10) from e) (by decide))
  replace N_2 : (2) ∉ w3.1 := fun h => (GG.2 _ h).elim N_2 (fun e => absurd (show (2 : Int) = (10) from e) (by decide))
  replace N_20 : (20) ∉ w3.1 := fun h => (GG.2 _ h).elim N_20 (fun e => absurd (show (20 : Int) = (10) from e) (by decide))
  replace N_21 : (21) ∉ w3.1 := fun h => (GG.2 _ h).elim N_21 (fun e => absurd (show (21 : Int) = (10) from e) (by decide))
  replace N_22 : (22) ∉ w3.1 := fun h => (GG.2 _ h).elim N_22 (fun e => absurd (show (22 : Int) = (10) from e) (by decide))
  replace N_23 : (23) ∉ w3.1 := fun h => (GG.2 _ h).elim N_23 (fun e => absurd (show (23 : Int) = (10) from e) (by decide))
  replace N_24 : (24) ∉ w3.1 := fun h => (GG.2 _ h).elim N_24 (fun e => absurd (show (24 : Int) = (10) from e) (by decide))
  replace N_25 : (25) ∉ w3.1 := fun h => (GG.2 _ h).elim N_25 (fun e => absurd (show (25 : Int) = (10) from e) (by decide))
  replace N_3 : (3) ∉ w3.1 := fun h => (GG.2 _ h).elim N_3 (fun e => absurd (show (3 : Int) = (10) from e) (by decide))
  replace N_4 : (4) ∉ w3.1 := fun h => (GG.2 _ h).elim N_4 (fun e => absurd (show (4 : Int) = (10) from e) (by decide))
  replace N_4p100 : (4 + 100) ∉ w3.1 := fun h => (GG.2 _ h).elim N_4p100 (fun e => absurd (show (4 + 100 : Int) = (10) from e) (by decide))
  replace N_4p100p100 : (4 + 100 + 100) ∉ w3.1 := fun h => (GG.2 _ h).elim N_4p100p100 (fun e => absurd (show (4 + 100 + 100 : Int) = (10) from e) (by decide))
  replace GT : jm_gr w w3 (0) (hk_hn) := jm_gr_tr GT GG (fun h => absurd h N0_10) (fun z e => e.elim id (fun e => by have e : z = (10) := e; subst e; exact (show hk_hn _ from by unfold hk_hn; decide)))
  have M_10 : (10) ∈ w3.1 := by rw [hw3]; exact jm_ad_m
  have A_10 : w3.2.1 (10) = a_10 := by rw [hw3]; exact jm_ad_a
  have S_10 : w3.2.2 (10) = jm_O 1 [some .null, none, none] := by rw [hw3]; exact jm_ad_s
  clear hw3
  refine jm_geni (fun J2 hJ2 => ?_)
  refine jm_dup C dX5_init_31 rfl ?_
  refine jm_cIN (n := 0) [.ref a_10, jm_v 0, .ref a_1] (host := RX5) jm_XTm (jm_trivX G) C (kX1_init E w3 (J2) (10) a_10 A_10 M_10 S_10 N_10p100 ) jm_n_X1 okX1_init rfl ⟨rfl, rfl⟩ ⟨Nat.le_of_ble_eq_true rfl, Nat.le_of_ble_eq_true rfl⟩ rfl rfl (Nat.le_of_ble_eq_true rfl) dX5_init_32 ⟨Nat.le_of_ble_eq_true rfl, Nat.le_of_ble_eq_true rfl⟩ (fun w4 I4 hh => ?_)
  obtain ⟨GG, XX, hh⟩ := hh
  have hI4 := hh
  clear hh
  replace A_0 : w4.2.1 (0) = r := (GG.1 _ M_0).2.1.trans A_0
  replace S_0 : w4.2.2 (0) = jm_O 5 [some (.ref a_1), some .null, some .null, some .null, none, none, none, none, none] := ((GG.1 _ M_0).2.2 (by decide)).trans S_0
  replace M_0 : (0) ∈ w4.1 := (GG.1 _ M_0).1
  replace A_1 : w4.2.1 (1) = a_1 := (GG.1 _ M_1).2.1.trans A_1
  replace S_1 : w4.2.2 (1) = jm_Qa (E.2.2 3) 3 (fun _ => none) := ((GG.1 _ M_1).2.2 (by decide)).trans S_1
  replace M_1 : (1) ∈ w4.1 := (GG.1 _ M_1).1
  replace A_10 : w4.2.1 (10) = a_10 := (GG.1 _ M_10).2.1.trans A_10
  replace M_10 : (10) ∈ w4.1 := (GG.1 _ M_10).1
  replace N_11 : (11) ∉ w4.1 := fun h => (GG.2 _ h).elim N_11 (fun e => absurd (show (11 : Int) = (10 + 100) from e) (by decide))
  replace N_11p100 : (11 + 100) ∉ w4.1 := fun h => (GG.2 _ h).elim N_11p100 (fun e => absurd (show (11 + 100 : Int) = (10 + 100) from e) (by decide))
  replace N_12 : (12) ∉ w4.1 := fun h => (GG.2 _ h).elim N_12 (fun e => absurd (show (12 : Int) = (10 + 100) from e) (by decide))
  replace N_12p100 : (12 + 100) ∉ w4.1 := fun h => (GG.2 _ h).elim N_12p100 (fun e => absurd (show (12 + 100 : Int) = (10 + 100) from e) (by decide))
  replace N_2 : (2) ∉ w4.1 := fun h => (GG.2 _ h).elim N_2 (fun e => absurd (show (2 : Int) = (10 + 100) from e) (by decide))
  replace N_20 : (20) ∉ w4.1 := fun h => (GG.2 _ h).elim N_20 (fun e => absurd (show (20 : Int) = (10 + 100) from e) (by decide))
  replace N_21 : (21) ∉ w4.1 := fun h => (GG.2 _ h).elim N_21 (fun e => absurd (show (21 : Int) = (10 + 100) from e) (by decide))
  replace N_22 : (22) ∉ w4.1 := fun h => (GG.2 _ h).elim N_22 (fun e => absurd (show (22 : Int) = (10 + 100) from e) (by decide))
  replace N_23 : (23) ∉ w4.1 := fun h => (GG.2 _ h).elim N_23 (fun e => absurd (show (23 : Int) = (10 + 100) from e) (by decide))
  replace N_24 : (24) ∉ w4.1 := fun h => (GG.2 _ h).elim N_24 (fun e => absurd (show (24 : Int) = (10 + 100) from e) (by decide))
  replace N_25 : (25) ∉ w4.1 := fun h => (GG.2 _ h).elim N_25 (fun e => absurd (show (25 : Int) = (10 + 100) from e) (by decide))
  replace N_3 : (3) ∉ w4.1 := fun h => (GG.2 _ h).elim N_3 (fun e => absurd (show (3 : Int) = (10 + 100) from e) (by decide))
  replace N_4 : (4) ∉ w4.1 := fun h => (GG.2 _ h).elim N_4 (fun e => absurd (show (4 : Int) = (10 + 100) from e) (by decide))
  replace N_4p100 : (4 + 100) ∉ w4.1 := fun h => (GG.2 _ h).elim N_4p100 (fun e => absurd (show (4 + 100 : Int) = (10 + 100) from e) (by decide))
  replace N_4p100p100 : (4 + 100 + 100) ∉ w4.1 := fun h => (GG.2 _ h).elim N_4p100p100 (fun e => absurd (show (4 + 100 + 100 : Int) = (10 + 100) from e) (by decide))
  replace GT : jm_gr w w4 (0) (hk_hn) := jm_gr_tr GT GG (fun h => absurd h N0_10) (fun z e => e.elim id (fun e => by have e : z = (10 + 100) := e; subst e; exact (show hk_hn _ from by unfold hk_hn; decide)))
  have X_10 := XX
  rw [← A_1, ← A_10]
  refine jm_aast (t := 3) C M_1 rfl S_1 X_10.1 X_10.2.1 rfl (by decide) (by decide) (by decide) dX5_init_35 ?_
  try rw [A_1]
  try rw [A_10]
  refine jm_gen (fun w5 hw5 => ?_)
  have GG : jm_gr w4 w5 (1) (fun _ => False) := by rw [hw5]; exact jm_gr_sh
  replace A_0 : w5.2.1 (0) = r := (GG.1 _ M_0).2.1.trans A_0
  replace S_0 : w5.2.2 (0) = jm_O 5 [some (.ref a_1), some .null, some .null, some .null, none, none, none, none, none] := ((GG.1 _ M_0).2.2 (by decide)).trans S_0
  replace M_0 : (0) ∈ w5.1 := (GG.1 _ M_0).1
  replace A_1 : w5.2.1 (1) = a_1 := (GG.1 _ M_1).2.1.trans A_1
  replace M_1 : (1) ∈ w5.1 := (GG.1 _ M_1).1
  replace X_10 : jm_X1 E w5 (10) := jm_X1_gr X_10 GG (by decide) (by decide)
  replace A_10 : w5.2.1 (10) = a_10 := (GG.1 _ M_10).2.1.trans A_10
  replace M_10 : (10) ∈ w5.1 := (GG.1 _ M_10).1
  replace N_11 : (11) ∉ w5.1 := fun h => (GG.2 _ h).elim N_11 (fun e => e.elim)
  replace N_11p100 : (11 + 100) ∉ w5.1 := fun h => (GG.2 _ h).elim N_11p100 (fun e => e.elim)
  replace N_12 : (12) ∉ w5.1 := fun h => (GG.2 _ h).elim N_12 (fun e => e.elim)
  replace N_12p100 : (12 + 100) ∉ w5.1 := fun h => (GG.2 _ h).elim N_12p100 (fun e => e.elim)
  replace N_2 : (2) ∉ w5.1 := fun h => (GG.2 _ h).elim N_2 (fun e => e.elim)
  replace N_20 : (20) ∉ w5.1 := fun h => (GG.2 _ h).elim N_20 (fun e => e.elim)
  replace N_21 : (21) ∉ w5.1 := fun h => (GG.2 _ h).elim N_21 (fun e => e.elim)
  replace N_22 : (22) ∉ w5.1 := fun h => (GG.2 _ h).elim N_22 (fun e => e.elim)
  replace N_23 : (23) ∉ w5.1 := fun h => (GG.2 _ h).elim N_23 (fun e => e.elim)
  replace N_24 : (24) ∉ w5.1 := fun h => (GG.2 _ h).elim N_24 (fun e => e.elim)
  replace N_25 : (25) ∉ w5.1 := fun h => (GG.2 _ h).elim N_25 (fun e => e.elim)
  replace N_3 : (3) ∉ w5.1 := fun h => (GG.2 _ h).elim N_3 (fun e => e.elim)
  replace N_4 : (4) ∉ w5.1 := fun h => (GG.2 _ h).elim N_4 (fun e => e.elim)
  replace N_4p100 : (4 + 100) ∉ w5.1 := fun h => (GG.2 _ h).elim N_4p100 (fun e => e.elim)
  replace N_4p100p100 : (4 + 100 + 100) ∉ w5.1 := fun h => (GG.2 _ h).elim N_4p100p100 (fun e => e.elim)
  replace GT : jm_gr w w5 (0) (hk_hn) := jm_gr_tr GT GG (fun h => absurd h N0_1) (fun z e => e.elim id (fun e => e.elim))
  have S_1 : w5.2.2 (1) = jm_Qa (E.2.2 3) 3 (va_up (fun _ => none) ((0 : Int)).toNat (some a_10)) := by rw [hw5]; exact jm_sh_s
  clear hw5
  refine jm_iinc C dX5_init_36 (by decide) rfl ?_
  refine jm_goto 14 C dX5_init_39 rfl ?_
  refine jm_iload_n C dX5_init_14 rfl ?_
  refine jm_aload_n C dX5_init_15 rfl ?_
  rw [← A_0]
  refine jm_getr (ci := 5) (f := 0) C rfl jw_u_5 M_0 S_0 rfl (by decide) jw_f_RX5_11 dX5_init_16 ?_
  try rw [A_0]
  rw [← A_1]
  refine jm_alenq 3 3 rfl C M_1 rfl S_1 dX5_init_19 ?_
  try rw [A_1]
  refine jm_icmp_ge 42 C dX5_init_20 rfl (by decide) (by decide) (fun c => ?_) (fun c => ?_)
  · exact absurd c (by decide)
  refine jm_aload_n C dX5_init_23 rfl ?_
  rw [← A_0]
  refine jm_getr (ci := 5) (f := 0) C rfl jw_u_5 M_0 S_0 rfl (by decide) jw_f_RX5_11 dX5_init_24 ?_
  try rw [A_0]
  refine jm_iload_n C dX5_init_27 rfl ?_
  refine jm_new (ci := 1) (tm := [some .null, none, none]) (11) C rfl tyX1 tyX1_ok jw_u_1 jw_L_RX5_9 jw_I_RX1 jw_n_RX1 N_11 (by decide +kernel) ⟨Nat.le_of_ble_eq_true rfl, Nat.le_of_ble_eq_true rfl⟩ dX5_init_28 (fun a_11 => ?_)
  refine jm_gen (fun w6 hw6 => ?_)
  have GG : jm_gr w5 w6 (11) (fun z => z = (11)) := by rw [hw6]; exact jm_gr_ad N_11
  replace A_0 : w6.2.1 (0) = r := (GG.1 _ M_0).2.1.trans A_0
  replace S_0 : w6.2.2 (0) = jm_O 5 [some (.ref a_1), some .null, some .null, some .null, none, none, none, none, none] := ((GG.1 _ M_0).2.2 (by decide)).trans S_0
  replace M_0 : (0) ∈ w6.1 := (GG.1 _ M_0).1
  replace A_1 : w6.2.1 (1) = a_1 := (GG.1 _ M_1).2.1.trans A_1
  replace S_1 : w6.2.2 (1) = jm_Qa (E.2.2 3) 3 (va_up (fun _ => none) ((0 : Int)).toNat (some a_10)) := ((GG.1 _ M_1).2.2 (by decide)).trans S_1
  replace M_1 : (1) ∈ w6.1 := (GG.1 _ M_1).1
  replace X_10 : jm_X1 E w6 (10) := jm_X1_gr X_10 GG (by decide) (by decide)
  replace A_10 : w6.2.1 (10) = a_10 := (GG.1 _ M_10).2.1.trans A_10
  replace M_10 : (10) ∈ w6.1 := (GG.1 _ M_10).1
  replace N_11p100 : (11 + 100) ∉ w6.1 := fun h => (GG.2 _ h).elim N_11p100 (fun e => absurd (show (11 + 100 : Int) = (11) from e) (by decide))
  replace N_12 : (12) ∉ w6.1 := fun h => (GG.2 _ h).elim N_12 (fun e => absurd (show (12 : Int) = (11) from e) (by decide))
  replace N_12p100 : (12 + 100) ∉ w6.1 := fun h => (GG.2 _ h).elim N_12p100 (fun e => absurd (show (12 + 100 : Int) = (11) from e) (by decide))
  replace N_2 : (2) ∉ w6.1 := fun h => (GG.2 _ h).elim N_2 (fun e => absurd (show (2 : Int) = (11) from e) (by decide))
  replace N_20 : (20) ∉ w6.1 := fun h => (GG.2 _ h).elim N_20 (fun e => absurd (show (20 : Int) = (11) from e) (by decide))
  replace N_21 : (21) ∉ w6.1 := fun h => (GG.2 _ h).elim N_21 (fun e => absurd (show (21 : Int) = (11) from e) (by decide))
  replace N_22 : (22) ∉ w6.1 := fun h => (GG.2 _ h).elim N_22 (fun e => absurd (show (22 : Int) = (11) from e) (by decide))
  replace N_23 : (23) ∉ w6.1 := fun h => (GG.2 _ h).elim N_23 (fun e => absurd (show (23 : Int) = (11) from e) (by decide))
  replace N_24 : (24) ∉ w6.1 := fun h => (GG.2 _ h).elim N_24 (fun e => absurd (show (24 : Int) = (11) from e) (by decide))
  replace N_25 : (25) ∉ w6.1 := fun h => (GG.2 _ h).elim N_25 (fun e => absurd (show (25 : Int) = (11) from e) (by decide))
  replace N_3 : (3) ∉ w6.1 := fun h => (GG.2 _ h).elim N_3 (fun e => absurd (show (3 : Int) = (11) from e) (by decide))
  replace N_4 : (4) ∉ w6.1 := fun h => (GG.2 _ h).elim N_4 (fun e => absurd (show (4 : Int) = (11) from e) (by decide))
  replace N_4p100 : (4 + 100) ∉ w6.1 := fun h => (GG.2 _ h).elim N_4p100 (fun e => absurd (show (4 + 100 : Int) = (11) from e) (by decide))
  replace N_4p100p100 : (4 + 100 + 100) ∉ w6.1 := fun h => (GG.2 _ h).elim N_4p100p100 (fun e => absurd (show (4 + 100 + 100 : Int) = (11) from e) (by decide))
  replace GT : jm_gr w w6 (0) (hk_hn) := jm_gr_tr GT GG (fun h => absurd h N0_11) (fun z e => e.elim id (fun e => by have e : z = (11) := e; subst e; exact (show hk_hn _ from by unfold hk_hn; decide)))
  have M_11 : (11) ∈ w6.1 := by rw [hw6]; exact jm_ad_m
  have A_11 : w6.2.1 (11) = a_11 := by rw [hw6]; exact jm_ad_a
  have S_11 : w6.2.2 (11) = jm_O 1 [some .null, none, none] := by rw [hw6]; exact jm_ad_s
  clear hw6
  refine jm_geni (fun J3 hJ3 => ?_)
  refine jm_dup C dX5_init_31 rfl ?_
  refine jm_cIN (n := 0) [.ref a_11, jm_v (0 + 1), .ref a_1] (host := RX5) jm_XTm (jm_trivX G) C (kX1_init E w6 (J3) (11) a_11 A_11 M_11 S_11 N_11p100 ) jm_n_X1 okX1_init rfl ⟨rfl, rfl⟩ ⟨Nat.le_of_ble_eq_true rfl, Nat.le_of_ble_eq_true rfl⟩ rfl rfl (Nat.le_of_ble_eq_true rfl) dX5_init_32 ⟨Nat.le_of_ble_eq_true rfl, Nat.le_of_ble_eq_true rfl⟩ (fun w7 I7 hh => ?_)
  obtain ⟨GG, XX, hh⟩ := hh
  have hI7 := hh
  clear hh
  replace A_0 : w7.2.1 (0) = r := (GG.1 _ M_0).2.1.trans A_0
  replace S_0 : w7.2.2 (0) = jm_O 5 [some (.ref a_1), some .null, some .null, some .null, none, none, none, none, none] := ((GG.1 _ M_0).2.2 (by decide)).trans S_0
  replace M_0 : (0) ∈ w7.1 := (GG.1 _ M_0).1
  replace A_1 : w7.2.1 (1) = a_1 := (GG.1 _ M_1).2.1.trans A_1
  replace S_1 : w7.2.2 (1) = jm_Qa (E.2.2 3) 3 (va_up (fun _ => none) ((0 : Int)).toNat (some a_10)) := ((GG.1 _ M_1).2.2 (by decide)).trans S_1
  replace M_1 : (1) ∈ w7.1 := (GG.1 _ M_1).1
  replace X_10 : jm_X1 E w7 (10) := jm_X1_gr X_10 GG (by decide) (by decide)
  replace A_10 : w7.2.1 (10) = a_10 := (GG.1 _ M_10).2.1.trans A_10
  replace M_10 : (10) ∈ w7.1 := (GG.1 _ M_10).1
  replace A_11 : w7.2.1 (11) = a_11 := (GG.1 _ M_11).2.1.trans A_11
  replace M_11 : (11) ∈ w7.1 := (GG.1 _ M_11).1
  replace N_12 : (12) ∉ w7.1 := fun h => (GG.2 _ h).elim N_12 (fun e => absurd (show (12 : Int) = (11 + 100) from e) (by decide))
  replace N_12p100 : (12 + 100) ∉ w7.1 := fun h => (GG.2 _ h).elim N_12p100 (fun e => absurd (show (12 + 100 : Int) = (11 + 100) from e) (by decide))
  replace N_2 : (2) ∉ w7.1 := fun h => (GG.2 _ h).elim N_2 (fun e => absurd (show (2 : Int) = (11 + 100) from e) (by decide))
  replace N_20 : (20) ∉ w7.1 := fun h => (GG.2 _ h).elim N_20 (fun e => absurd (show (20 : Int) = (11 + 100) from e) (by decide))
  replace N_21 : (21) ∉ w7.1 := fun h => (GG.2 _ h).elim N_21 (fun e => absurd (show (21 : Int) = (11 + 100) from e) (by decide))
  replace N_22 : (22) ∉ w7.1 := fun h => (GG.2 _ h).elim N_22 (fun e => absurd (show (22 : Int) = (11 + 100) from e) (by decide))
  replace N_23 : (23) ∉ w7.1 := fun h => (GG.2 _ h).elim N_23 (fun e => absurd (show (23 : Int) = (11 + 100) from e) (by decide))
  replace N_24 : (24) ∉ w7.1 := fun h => (GG.2 _ h).elim N_24 (fun e => absurd (show (24 : Int) = (11 + 100) from e) (by decide))
  replace N_25 : (25) ∉ w7.1 := fun h => (GG.2 _ h).elim N_25 (fun e => absurd (show (25 : Int) = (11 + 100) from e) (by decide))
  replace N_3 : (3) ∉ w7.1 := fun h => (GG.2 _ h).elim N_3 (fun e => absurd (show (3 : Int) = (11 + 100) from e) (by decide))
  replace N_4 : (4) ∉ w7.1 := fun h => (GG.2 _ h).elim N_4 (fun e => absurd (show (4 : Int) = (11 + 100) from e) (by decide))
  replace N_4p100 : (4 + 100) ∉ w7.1 := fun h => (GG.2 _ h).elim N_4p100 (fun e => absurd (show (4 + 100 : Int) = (11 + 100) from e) (by decide))
  replace N_4p100p100 : (4 + 100 + 100) ∉ w7.1 := fun h => (GG.2 _ h).elim N_4p100p100 (fun e => absurd (show (4 + 100 + 100 : Int) = (11 + 100) from e) (by decide))
  replace GT : jm_gr w w7 (0) (hk_hn) := jm_gr_tr GT GG (fun h => absurd h N0_11) (fun z e => e.elim id (fun e => by have e : z = (11 + 100) := e; subst e; exact (show hk_hn _ from by unfold hk_hn; decide)))
  have X_11 := XX
  rw [← A_1, ← A_11]
  refine jm_aast (t := 3) C M_1 rfl S_1 X_11.1 X_11.2.1 rfl (by decide) (by decide) (by decide) dX5_init_35 ?_
  try rw [A_1]
  try rw [A_11]
  refine jm_gen (fun w8 hw8 => ?_)
  have GG : jm_gr w7 w8 (1) (fun _ => False) := by rw [hw8]; exact jm_gr_sh
  replace A_0 : w8.2.1 (0) = r := (GG.1 _ M_0).2.1.trans A_0
  replace S_0 : w8.2.2 (0) = jm_O 5 [some (.ref a_1), some .null, some .null, some .null, none, none, none, none, none] := ((GG.1 _ M_0).2.2 (by decide)).trans S_0
  replace M_0 : (0) ∈ w8.1 := (GG.1 _ M_0).1
  replace A_1 : w8.2.1 (1) = a_1 := (GG.1 _ M_1).2.1.trans A_1
  replace M_1 : (1) ∈ w8.1 := (GG.1 _ M_1).1
  replace X_10 : jm_X1 E w8 (10) := jm_X1_gr X_10 GG (by decide) (by decide)
  replace A_10 : w8.2.1 (10) = a_10 := (GG.1 _ M_10).2.1.trans A_10
  replace M_10 : (10) ∈ w8.1 := (GG.1 _ M_10).1
  replace X_11 : jm_X1 E w8 (11) := jm_X1_gr X_11 GG (by decide) (by decide)
  replace A_11 : w8.2.1 (11) = a_11 := (GG.1 _ M_11).2.1.trans A_11
  replace M_11 : (11) ∈ w8.1 := (GG.1 _ M_11).1
  replace N_12 : (12) ∉ w8.1 := fun h => (GG.2 _ h).elim N_12 (fun e => e.elim)
  replace N_12p100 : (12 + 100) ∉ w8.1 := fun h => (GG.2 _ h).elim N_12p100 (fun e => e.elim)
  replace N_2 : (2) ∉ w8.1 := fun h => (GG.2 _ h).elim N_2 (fun e => e.elim)
  replace N_20 : (20) ∉ w8.1 := fun h => (GG.2 _ h).elim N_20 (fun e => e.elim)
  replace N_21 : (21) ∉ w8.1 := fun h => (GG.2 _ h).elim N_21 (fun e => e.elim)
  replace N_22 : (22) ∉ w8.1 := fun h => (GG.2 _ h).elim N_22 (fun e => e.elim)
  replace N_23 : (23) ∉ w8.1 := fun h => (GG.2 _ h).elim N_23 (fun e => e.elim)
  replace N_24 : (24) ∉ w8.1 := fun h => (GG.2 _ h).elim N_24 (fun e => e.elim)
  replace N_25 : (25) ∉ w8.1 := fun h => (GG.2 _ h).elim N_25 (fun e => e.elim)
  replace N_3 : (3) ∉ w8.1 := fun h => (GG.2 _ h).elim N_3 (fun e => e.elim)
  replace N_4 : (4) ∉ w8.1 := fun h => (GG.2 _ h).elim N_4 (fun e => e.elim)
  replace N_4p100 : (4 + 100) ∉ w8.1 := fun h => (GG.2 _ h).elim N_4p100 (fun e => e.elim)
  replace N_4p100p100 : (4 + 100 + 100) ∉ w8.1 := fun h => (GG.2 _ h).elim N_4p100p100 (fun e => e.elim)
  replace GT : jm_gr w w8 (0) (hk_hn) := jm_gr_tr GT GG (fun h => absurd h N0_1) (fun z e => e.elim id (fun e => e.elim))
  have S_1 : w8.2.2 (1) = jm_Qa (E.2.2 3) 3 (va_up (va_up (fun _ => none) ((0 : Int)).toNat (some a_10)) ((0 + 1 : Int)).toNat (some a_11)) := by rw [hw8]; exact jm_sh_s
  clear hw8
  refine jm_iinc C dX5_init_36 (by decide) rfl ?_
  refine jm_goto 14 C dX5_init_39 rfl ?_
  refine jm_iload_n C dX5_init_14 rfl ?_
  refine jm_aload_n C dX5_init_15 rfl ?_
  rw [← A_0]
  refine jm_getr (ci := 5) (f := 0) C rfl jw_u_5 M_0 S_0 rfl (by decide) jw_f_RX5_11 dX5_init_16 ?_
  try rw [A_0]
  rw [← A_1]
  refine jm_alenq 3 3 rfl C M_1 rfl S_1 dX5_init_19 ?_
  try rw [A_1]
  refine jm_icmp_ge 42 C dX5_init_20 rfl (by decide) (by decide) (fun c => ?_) (fun c => ?_)
  · exact absurd c (by decide)
  refine jm_aload_n C dX5_init_23 rfl ?_
  rw [← A_0]
  refine jm_getr (ci := 5) (f := 0) C rfl jw_u_5 M_0 S_0 rfl (by decide) jw_f_RX5_11 dX5_init_24 ?_
  try rw [A_0]
  refine jm_iload_n C dX5_init_27 rfl ?_
  refine jm_new (ci := 1) (tm := [some .null, none, none]) (12) C rfl tyX1 tyX1_ok jw_u_1 jw_L_RX5_9 jw_I_RX1 jw_n_RX1 N_12 (by decide +kernel) ⟨Nat.le_of_ble_eq_true rfl, Nat.le_of_ble_eq_true rfl⟩ dX5_init_28 (fun a_12 => ?_)
  refine jm_gen (fun w9 hw9 => ?_)
  have GG : jm_gr w8 w9 (12) (fun z => z = (12)) := by rw [hw9]; exact jm_gr_ad N_12
  replace A_0 : w9.2.1 (0) = r := (GG.1 _ M_0).2.1.trans A_0
  replace S_0 : w9.2.2 (0) = jm_O 5 [some (.ref a_1), some .null, some .null, some .null, none, none, none, none, none] := ((GG.1 _ M_0).2.2 (by decide)).trans S_0
  replace M_0 : (0) ∈ w9.1 := (GG.1 _ M_0).1
  replace A_1 : w9.2.1 (1) = a_1 := (GG.1 _ M_1).2.1.trans A_1
  replace S_1 : w9.2.2 (1) = jm_Qa (E.2.2 3) 3 (va_up (va_up (fun _ => none) ((0 : Int)).toNat (some a_10)) ((0 + 1 : Int)).toNat (some a_11)) := ((GG.1 _ M_1).2.2 (by decide)).trans S_1
  replace M_1 : (1) ∈ w9.1 := (GG.1 _ M_1).1
  replace X_10 : jm_X1 E w9 (10) := jm_X1_gr X_10 GG (by decide) (by decide)
  replace A_10 : w9.2.1 (10) = a_10 := (GG.1 _ M_10).2.1.trans A_10
  replace M_10 : (10) ∈ w9.1 := (GG.1 _ M_10).1
  replace X_11 : jm_X1 E w9 (11) := jm_X1_gr X_11 GG (by decide) (by decide)
  replace A_11 : w9.2.1 (11) = a_11 := (GG.1 _ M_11).2.1.trans A_11
  replace M_11 : (11) ∈ w9.1 := (GG.1 _ M_11).1
  replace N_12p100 : (12 + 100) ∉ w9.1 := fun h => (GG.2 _ h).elim N_12p100 (fun e => absurd (show (12 + 100 : Int) = (12) from e) (by decide))
  replace N_2 : (2) ∉ w9.1 := fun h => (GG.2 _ h).elim N_2 (fun e => absurd (show (2 : Int) = (12) from e) (by decide))
  replace N_20 : (20) ∉ w9.1 := fun h => (GG.2 _ h).elim N_20 (fun e => absurd (show (20 : Int) = (12) from e) (by decide))
  replace N_21 : (21) ∉ w9.1 := fun h => (GG.2 _ h).elim N_21 (fun e => absurd (show (21 : Int) = (12) from e) (by decide))
  replace N_22 : (22) ∉ w9.1 := fun h => (GG.2 _ h).elim N_22 (fun e => absurd (show (22 : Int) = (12) from e) (by decide))
  replace N_23 : (23) ∉ w9.1 := fun h => (GG.2 _ h).elim N_23 (fun e => absurd (show (23 : Int) = (12) from e) (by decide))
  replace N_24 : (24) ∉ w9.1 := fun h => (GG.2 _ h).elim N_24 (fun e => absurd (show (24 : Int) = (12) from e) (by decide))
  replace N_25 : (25) ∉ w9.1 := fun h => (GG.2 _ h).elim N_25 (fun e => absurd (show (25 : Int) = (12) from e) (by decide))
  replace N_3 : (3) ∉ w9.1 := fun h => (GG.2 _ h).elim N_3 (fun e => absurd (show (3 : Int) = (12) from e) (by decide))
  replace N_4 : (4) ∉ w9.1 := fun h => (GG.2 _ h).elim N_4 (fun e => absurd (show (4 : Int) = (12) from e) (by decide))
  replace N_4p100 : (4 + 100) ∉ w9.1 := fun h => (GG.2 _ h).elim N_4p100 (fun e => absurd (show (4 + 100 : Int) = (12) from e) (by decide))
  replace N_4p100p100 : (4 + 100 + 100) ∉ w9.1 := fun h => (GG.2 _ h).elim N_4p100p100 (fun e => absurd (show (4 + 100 + 100 : Int) = (12) from e) (by decide))
  replace GT : jm_gr w w9 (0) (hk_hn) := jm_gr_tr GT GG (fun h => absurd h N0_12) (fun z e => e.elim id (fun e => by have e : z = (12) := e; subst e; exact (show hk_hn _ from by unfold hk_hn; decide)))
  have M_12 : (12) ∈ w9.1 := by rw [hw9]; exact jm_ad_m
  have A_12 : w9.2.1 (12) = a_12 := by rw [hw9]; exact jm_ad_a
  have S_12 : w9.2.2 (12) = jm_O 1 [some .null, none, none] := by rw [hw9]; exact jm_ad_s
  clear hw9
  refine jm_geni (fun J4 hJ4 => ?_)
  refine jm_dup C dX5_init_31 rfl ?_
  refine jm_cIN (n := 0) [.ref a_12, jm_v ((0 + 1) + 1), .ref a_1] (host := RX5) jm_XTm (jm_trivX G) C (kX1_init E w9 (J4) (12) a_12 A_12 M_12 S_12 N_12p100 ) jm_n_X1 okX1_init rfl ⟨rfl, rfl⟩ ⟨Nat.le_of_ble_eq_true rfl, Nat.le_of_ble_eq_true rfl⟩ rfl rfl (Nat.le_of_ble_eq_true rfl) dX5_init_32 ⟨Nat.le_of_ble_eq_true rfl, Nat.le_of_ble_eq_true rfl⟩ (fun w10 I10 hh => ?_)
  obtain ⟨GG, XX, hh⟩ := hh
  have hI10 := hh
  clear hh
  replace A_0 : w10.2.1 (0) = r := (GG.1 _ M_0).2.1.trans A_0
  replace S_0 : w10.2.2 (0) = jm_O 5 [some (.ref a_1), some .null, some .null, some .null, none, none, none, none, none] := ((GG.1 _ M_0).2.2 (by decide)).trans S_0
  replace M_0 : (0) ∈ w10.1 := (GG.1 _ M_0).1
  replace A_1 : w10.2.1 (1) = a_1 := (GG.1 _ M_1).2.1.trans A_1
  replace S_1 : w10.2.2 (1) = jm_Qa (E.2.2 3) 3 (va_up (va_up (fun _ => none) ((0 : Int)).toNat (some a_10)) ((0 + 1 : Int)).toNat (some a_11)) := ((GG.1 _ M_1).2.2 (by decide)).trans S_1
  replace M_1 : (1) ∈ w10.1 := (GG.1 _ M_1).1
  replace X_10 : jm_X1 E w10 (10) := jm_X1_gr X_10 GG (by decide) (by decide)
  replace A_10 : w10.2.1 (10) = a_10 := (GG.1 _ M_10).2.1.trans A_10
  replace M_10 : (10) ∈ w10.1 := (GG.1 _ M_10).1
  replace X_11 : jm_X1 E w10 (11) := jm_X1_gr X_11 GG (by decide) (by decide)
  replace A_11 : w10.2.1 (11) = a_11 := (GG.1 _ M_11).2.1.trans A_11
  replace M_11 : (11) ∈ w10.1 := (GG.1 _ M_11).1
  replace A_12 : w10.2.1 (12) = a_12 := (GG.1 _ M_12).2.1.trans A_12
  replace M_12 : (12) ∈ w10.1 := (GG.1 _ M_12).1
  replace N_2 : (2) ∉ w10.1 := fun h => (GG.2 _ h).elim N_2 (fun e => absurd (show (2 : Int) = (12 + 100) from e) (by decide))
  replace N_20 : (20) ∉ w10.1 := fun h => (GG.2 _ h).elim N_20 (fun e => absurd (show (20 : Int) = (12 + 100) from e) (by decide))
  replace N_21 : (21) ∉ w10.1 := fun h => (GG.2 _ h).elim N_21 (fun e => absurd (show (21 : Int) = (12 + 100) from e) (by decide))
  replace N_22 : (22) ∉ w10.1 := fun h => (GG.2 _ h).elim N_22 (fun e => absurd (show (22 : Int) = (12 + 100) from e) (by decide))
  replace N_23 : (23) ∉ w10.1 := fun h => (GG.2 _ h).elim N_23 (fun e => absurd (show (23 : Int) = (12 + 100) from e) (by decide))
  replace N_24 : (24) ∉ w10.1 := fun h => (GG.2 _ h).elim N_24 (fun e => absurd (show (24 : Int) = (12 + 100) from e) (by decide))
  replace N_25 : (25) ∉ w10.1 := fun h => (GG.2 _ h).elim N_25 (fun e => absurd (show (25 : Int) = (12 + 100) from e) (by decide))
  replace N_3 : (3) ∉ w10.1 := fun h => (GG.2 _ h).elim N_3 (fun e => absurd (show (3 : Int) = (12 + 100) from e) (by decide))
  replace N_4 : (4) ∉ w10.1 := fun h => (GG.2 _ h).elim N_4 (fun e => absurd (show (4 : Int) = (12 + 100) from e) (by decide))
  replace N_4p100 : (4 + 100) ∉ w10.1 := fun h => (GG.2 _ h).elim N_4p100 (fun e => absurd (show (4 + 100 : Int) = (12 + 100) from e) (by decide))
  replace N_4p100p100 : (4 + 100 + 100) ∉ w10.1 := fun h => (GG.2 _ h).elim N_4p100p100 (fun e => absurd (show (4 + 100 + 100 : Int) = (12 + 100) from e) (by decide))
  replace GT : jm_gr w w10 (0) (hk_hn) := jm_gr_tr GT GG (fun h => absurd h N0_12) (fun z e => e.elim id (fun e => by have e : z = (12 + 100) := e; subst e; exact (show hk_hn _ from by unfold hk_hn; decide)))
  have X_12 := XX
  rw [← A_1, ← A_12]
  refine jm_aast (t := 3) C M_1 rfl S_1 X_12.1 X_12.2.1 rfl (by decide) (by decide) (by decide) dX5_init_35 ?_
  try rw [A_1]
  try rw [A_12]
  refine jm_gen (fun w11 hw11 => ?_)
  have GG : jm_gr w10 w11 (1) (fun _ => False) := by rw [hw11]; exact jm_gr_sh
  replace A_0 : w11.2.1 (0) = r := (GG.1 _ M_0).2.1.trans A_0
  replace S_0 : w11.2.2 (0) = jm_O 5 [some (.ref a_1), some .null, some .null, some .null, none, none, none, none, none] := ((GG.1 _ M_0).2.2 (by decide)).trans S_0
  replace M_0 : (0) ∈ w11.1 := (GG.1 _ M_0).1
  replace A_1 : w11.2.1 (1) = a_1 := (GG.1 _ M_1).2.1.trans A_1
  replace M_1 : (1) ∈ w11.1 := (GG.1 _ M_1).1
  replace X_10 : jm_X1 E w11 (10) := jm_X1_gr X_10 GG (by decide) (by decide)
  replace A_10 : w11.2.1 (10) = a_10 := (GG.1 _ M_10).2.1.trans A_10
  replace M_10 : (10) ∈ w11.1 := (GG.1 _ M_10).1
  replace X_11 : jm_X1 E w11 (11) := jm_X1_gr X_11 GG (by decide) (by decide)
  replace A_11 : w11.2.1 (11) = a_11 := (GG.1 _ M_11).2.1.trans A_11
  replace M_11 : (11) ∈ w11.1 := (GG.1 _ M_11).1
  replace X_12 : jm_X1 E w11 (12) := jm_X1_gr X_12 GG (by decide) (by decide)
  replace A_12 : w11.2.1 (12) = a_12 := (GG.1 _ M_12).2.1.trans A_12
  replace M_12 : (12) ∈ w11.1 := (GG.1 _ M_12).1
  replace N_2 : (2) ∉ w11.1 := fun h => (GG.2 _ h).elim N_2 (fun e => e.elim)
  replace N_20 : (20) ∉ w11.1 := fun h => (GG.2 _ h).elim N_20 (fun e => e.elim)
  replace N_21 : (21) ∉ w11.1 := fun h => (GG.2 _ h).elim N_21 (fun e => e.elim)
  replace N_22 : (22) ∉ w11.1 := fun h => (GG.2 _ h).elim N_22 (fun e => e.elim)
  replace N_23 : (23) ∉ w11.1 := fun h => (GG.2 _ h).elim N_23 (fun e => e.elim)
  replace N_24 : (24) ∉ w11.1 := fun h => (GG.2 _ h).elim N_24 (fun e => e.elim)
  replace N_25 : (25) ∉ w11.1 := fun h => (GG.2 _ h).elim N_25 (fun e => e.elim)
  replace N_3 : (3) ∉ w11.1 := fun h => (GG.2 _ h).elim N_3 (fun e => e.elim)
  replace N_4 : (4) ∉ w11.1 := fun h => (GG.2 _ h).elim N_4 (fun e => e.elim)
  replace N_4p100 : (4 + 100) ∉ w11.1 := fun h => (GG.2 _ h).elim N_4p100 (fun e => e.elim)
  replace N_4p100p100 : (4 + 100 + 100) ∉ w11.1 := fun h => (GG.2 _ h).elim N_4p100p100 (fun e => e.elim)
  replace GT : jm_gr w w11 (0) (hk_hn) := jm_gr_tr GT GG (fun h => absurd h N0_1) (fun z e => e.elim id (fun e => e.elim))
  have S_1 : w11.2.2 (1) = jm_Qa (E.2.2 3) 3 (va_up (va_up (va_up (fun _ => none) ((0 : Int)).toNat (some a_10)) ((0 + 1 : Int)).toNat (some a_11)) (((0 + 1) + 1 : Int)).toNat (some a_12)) := by rw [hw11]; exact jm_sh_s
  clear hw11
  refine jm_iinc C dX5_init_36 (by decide) rfl ?_
  refine jm_goto 14 C dX5_init_39 rfl ?_
  refine jm_iload_n C dX5_init_14 rfl ?_
  refine jm_aload_n C dX5_init_15 rfl ?_
  rw [← A_0]
  refine jm_getr (ci := 5) (f := 0) C rfl jw_u_5 M_0 S_0 rfl (by decide) jw_f_RX5_11 dX5_init_16 ?_
  try rw [A_0]
  rw [← A_1]
  refine jm_alenq 3 3 rfl C M_1 rfl S_1 dX5_init_19 ?_
  try rw [A_1]
  refine jm_icmp_ge 42 C dX5_init_20 rfl (by decide) (by decide) (fun c => ?_) (fun c => ?_)
  rotate_left
  · exact absurd (show _ from by decide) c
  refine jm_aload_n C dX5_init_42 rfl ?_
  refine jm_bipush C dX5_init_43 (by decide +kernel) ?_
  refine jm_newq 4 6 (2) (by decide) (by decide) C rfl jw_L_RX5_16 hAO.2.1 N_2 ⟨Nat.le_of_ble_eq_true rfl, Nat.le_of_ble_eq_true rfl⟩ dX5_init_45 (fun a_2 => ?_)
  refine jm_gen (fun w12 hw12 => ?_)
  have GG : jm_gr w11 w12 (2) (fun z => z = (2)) := by rw [hw12]; exact jm_gr_ad N_2
  replace A_0 : w12.2.1 (0) = r := (GG.1 _ M_0).2.1.trans A_0
  replace S_0 : w12.2.2 (0) = jm_O 5 [some (.ref a_1), some .null, some .null, some .null, none, none, none, none, none] := ((GG.1 _ M_0).2.2 (by decide)).trans S_0
  replace M_0 : (0) ∈ w12.1 := (GG.1 _ M_0).1
  replace A_1 : w12.2.1 (1) = a_1 := (GG.1 _ M_1).2.1.trans A_1
  replace S_1 : w12.2.2 (1) = jm_Qa (E.2.2 3) 3 (va_up (va_up (va_up (fun _ => none) ((0 : Int)).toNat (some a_10)) ((0 + 1 : Int)).toNat (some a_11)) (((0 + 1) + 1 : Int)).toNat (some a_12)) := ((GG.1 _ M_1).2.2 (by decide)).trans S_1
  replace M_1 : (1) ∈ w12.1 := (GG.1 _ M_1).1
  replace X_10 : jm_X1 E w12 (10) := jm_X1_gr X_10 GG (by decide) (by decide)
  replace A_10 : w12.2.1 (10) = a_10 := (GG.1 _ M_10).2.1.trans A_10
  replace M_10 : (10) ∈ w12.1 := (GG.1 _ M_10).1
  replace X_11 : jm_X1 E w12 (11) := jm_X1_gr X_11 GG (by decide) (by decide)
  replace A_11 : w12.2.1 (11) = a_11 := (GG.1 _ M_11).2.1.trans A_11
  replace M_11 : (11) ∈ w12.1 := (GG.1 _ M_11).1
  replace X_12 : jm_X1 E w12 (12) := jm_X1_gr X_12 GG (by decide) (by decide)
  replace A_12 : w12.2.1 (12) = a_12 := (GG.1 _ M_12).2.1.trans A_12
  replace M_12 : (12) ∈ w12.1 := (GG.1 _ M_12).1
  replace N_20 : (20) ∉ w12.1 := fun h => (GG.2 _ h).elim N_20 (fun e => absurd (show (20 : Int) = (2) from e) (by decide))
  replace N_21 : (21) ∉ w12.1 := fun h => (GG.2 _ h).elim N_21 (fun e => absurd (show (21 : Int) = (2) from e) (by decide))
  replace N_22 : (22) ∉ w12.1 := fun h => (GG.2 _ h).elim N_22 (fun e => absurd (show (22 : Int) = (2) from e) (by decide))
  replace N_23 : (23) ∉ w12.1 := fun h => (GG.2 _ h).elim N_23 (fun e => absurd (show (23 : Int) = (2) from e) (by decide))
  replace N_24 : (24) ∉ w12.1 := fun h => (GG.2 _ h).elim N_24 (fun e => absurd (show (24 : Int) = (2) from e) (by decide))
  replace N_25 : (25) ∉ w12.1 := fun h => (GG.2 _ h).elim N_25 (fun e => absurd (show (25 : Int) = (2) from e) (by decide))
  replace N_3 : (3) ∉ w12.1 := fun h => (GG.2 _ h).elim N_3 (fun e => absurd (show (3 : Int) = (2) from e) (by decide))
  replace N_4 : (4) ∉ w12.1 := fun h => (GG.2 _ h).elim N_4 (fun e => absurd (show (4 : Int) = (2) from e) (by decide))
  replace N_4p100 : (4 + 100) ∉ w12.1 := fun h => (GG.2 _ h).elim N_4p100 (fun e => absurd (show (4 + 100 : Int) = (2) from e) (by decide))
  replace N_4p100p100 : (4 + 100 + 100) ∉ w12.1 := fun h => (GG.2 _ h).elim N_4p100p100 (fun e => absurd (show (4 + 100 + 100 : Int) = (2) from e) (by decide))
  replace GT : jm_gr w w12 (0) (hk_hn) := jm_gr_tr GT GG (fun h => absurd h N0_2) (fun z e => e.elim id (fun e => by have e : z = (2) := e; subst e; exact (show hk_hn _ from by unfold hk_hn; decide)))
  have M_2 : (2) ∈ w12.1 := by rw [hw12]; exact jm_ad_m
  have A_2 : w12.2.1 (2) = a_2 := by rw [hw12]; exact jm_ad_a
  have S_2 : w12.2.2 (2) = jm_Qa (E.2.2 4) 6 (fun _ => none) := by rw [hw12]; exact jm_ad_s
  clear hw12
  refine jm_geni (fun J5 hJ5 => ?_)
  rw [← A_0]
  refine jm_putr (ci := 5) (f := 1) (a := a_2) C hin0 rfl tyX5 tyX5_ok nmX5 jw_u_5 M_0 S_0 (Nat.le_of_ble_eq_true rfl) (by decide) jw_f_RX5_18 rfl rfl (tyX5_ok 1 (by decide)) rfl rfl dX5_init_48 ?_
  try rw [A_0]
  refine jm_gen (fun w13 hw13 => ?_)
  have GG : jm_gr w12 w13 (0) (fun _ => False) := by rw [hw13]; exact jm_gr_sh
  replace A_0 : w13.2.1 (0) = r := (GG.1 _ M_0).2.1.trans A_0
  replace M_0 : (0) ∈ w13.1 := (GG.1 _ M_0).1
  replace A_1 : w13.2.1 (1) = a_1 := (GG.1 _ M_1).2.1.trans A_1
  replace S_1 : w13.2.2 (1) = jm_Qa (E.2.2 3) 3 (va_up (va_up (va_up (fun _ => none) ((0 : Int)).toNat (some a_10)) ((0 + 1 : Int)).toNat (some a_11)) (((0 + 1) + 1 : Int)).toNat (some a_12)) := ((GG.1 _ M_1).2.2 (by decide)).trans S_1
  replace M_1 : (1) ∈ w13.1 := (GG.1 _ M_1).1
  replace X_10 : jm_X1 E w13 (10) := jm_X1_gr X_10 GG (by decide) (by decide)
  replace A_10 : w13.2.1 (10) = a_10 := (GG.1 _ M_10).2.1.trans A_10
  replace M_10 : (10) ∈ w13.1 := (GG.1 _ M_10).1
  replace X_11 : jm_X1 E w13 (11) := jm_X1_gr X_11 GG (by decide) (by decide)
  replace A_11 : w13.2.1 (11) = a_11 := (GG.1 _ M_11).2.1.trans A_11
  replace M_11 : (11) ∈ w13.1 := (GG.1 _ M_11).1
  replace X_12 : jm_X1 E w13 (12) := jm_X1_gr X_12 GG (by decide) (by decide)
  replace A_12 : w13.2.1 (12) = a_12 := (GG.1 _ M_12).2.1.trans A_12
  replace M_12 : (12) ∈ w13.1 := (GG.1 _ M_12).1
  replace A_2 : w13.2.1 (2) = a_2 := (GG.1 _ M_2).2.1.trans A_2
  replace S_2 : w13.2.2 (2) = jm_Qa (E.2.2 4) 6 (fun _ => none) := ((GG.1 _ M_2).2.2 (by decide)).trans S_2
  replace M_2 : (2) ∈ w13.1 := (GG.1 _ M_2).1
  replace N_20 : (20) ∉ w13.1 := fun h => (GG.2 _ h).elim N_20 (fun e => e.elim)
  replace N_21 : (21) ∉ w13.1 := fun h => (GG.2 _ h).elim N_21 (fun e => e.elim)
  replace N_22 : (22) ∉ w13.1 := fun h => (GG.2 _ h).elim N_22 (fun e => e.elim)
  replace N_23 : (23) ∉ w13.1 := fun h => (GG.2 _ h).elim N_23 (fun e => e.elim)
  replace N_24 : (24) ∉ w13.1 := fun h => (GG.2 _ h).elim N_24 (fun e => e.elim)
  replace N_25 : (25) ∉ w13.1 := fun h => (GG.2 _ h).elim N_25 (fun e => e.elim)
  replace N_3 : (3) ∉ w13.1 := fun h => (GG.2 _ h).elim N_3 (fun e => e.elim)
  replace N_4 : (4) ∉ w13.1 := fun h => (GG.2 _ h).elim N_4 (fun e => e.elim)
  replace N_4p100 : (4 + 100) ∉ w13.1 := fun h => (GG.2 _ h).elim N_4p100 (fun e => e.elim)
  replace N_4p100p100 : (4 + 100 + 100) ∉ w13.1 := fun h => (GG.2 _ h).elim N_4p100p100 (fun e => e.elim)
  replace GT : jm_gr w w13 (0) (hk_hn) := jm_gr_tr GT GG (fun _ => rfl) (fun z e => e.elim id (fun e => e.elim))
  have S_0 : w13.2.2 (0) = jm_O 5 [some (.ref a_1), some (.ref a_2), some .null, some .null, none, none, none, none, none] := by rw [hw13]; exact jm_sh_s
  clear hw13
  refine jm_iconst C dX5_init_51 ?_
  refine jm_istore_n C dX5_init_52 (by decide) ?_
  refine jm_iload_n C dX5_init_53 rfl ?_
  refine jm_aload_n C dX5_init_54 rfl ?_
  rw [← A_0]
  refine jm_getr (ci := 5) (f := 1) C rfl jw_u_5 M_0 S_0 rfl (by decide) jw_f_RX5_18 dX5_init_55 ?_
  try rw [A_0]
  rw [← A_2]
  refine jm_alenq 4 6 rfl C M_2 rfl S_2 dX5_init_58 ?_
  try rw [A_2]
  refine jm_icmp_ge 81 C dX5_init_59 rfl (by decide) (by decide) (fun c => ?_) (fun c => ?_)
  · exact absurd c (by decide)
  refine jm_aload_n C dX5_init_62 rfl ?_
  rw [← A_0]
  refine jm_getr (ci := 5) (f := 1) C rfl jw_u_5 M_0 S_0 rfl (by decide) jw_f_RX5_18 dX5_init_63 ?_
  try rw [A_0]
  refine jm_iload_n C dX5_init_66 rfl ?_
  refine jm_new (ci := 4) (tm := [none, none, none]) (20) C rfl tyX4 tyX4_ok jw_u_4 jw_L_RX5_16 jw_I_RX4 jw_n_RX4 N_20 (by decide +kernel) ⟨Nat.le_of_ble_eq_true rfl, Nat.le_of_ble_eq_true rfl⟩ dX5_init_67 (fun a_20 => ?_)
  refine jm_gen (fun w14 hw14 => ?_)
  have GG : jm_gr w13 w14 (20) (fun z => z = (20)) := by rw [hw14]; exact jm_gr_ad N_20
  replace A_0 : w14.2.1 (0) = r := (GG.1 _ M_0).2.1.trans A_0
  replace S_0 : w14.2.2 (0) = jm_O 5 [some (.ref a_1), some (.ref a_2), some .null, some .null, none, none, none, none, none] := ((GG.1 _ M_0).2.2 (by decide)).trans S_0
  replace M_0 : (0) ∈ w14.1 := (GG.1 _ M_0).1
  replace A_1 : w14.2.1 (1) = a_1 := (GG.1 _ M_1).2.1.trans A_1
  replace S_1 : w14.2.2 (1) = jm_Qa (E.2.2 3) 3 (va_up (va_up (va_up (fun _ => none) ((0 : Int)).toNat (some a_10)) ((0 + 1 : Int)).toNat (some a_11)) (((0 + 1) + 1 : Int)).toNat (some a_12)) := ((GG.1 _ M_1).2.2 (by decide)).trans S_1
  replace M_1 : (1) ∈ w14.1 := (GG.1 _ M_1).1
  replace X_10 : jm_X1 E w14 (10) := jm_X1_gr X_10 GG (by decide) (by decide)
  replace A_10 : w14.2.1 (10) = a_10 := (GG.1 _ M_10).2.1.trans A_10
  replace M_10 : (10) ∈ w14.1 := (GG.1 _ M_10).1
  replace X_11 : jm_X1 E w14 (11) := jm_X1_gr X_11 GG (by decide) (by decide)
  replace A_11 : w14.2.1 (11) = a_11 := (GG.1 _ M_11).2.1.trans A_11
  replace M_11 : (11) ∈ w14.1 := (GG.1 _ M_11).1
  replace X_12 : jm_X1 E w14 (12) := jm_X1_gr X_12 GG (by decide) (by decide)
  replace A_12 : w14.2.1 (12) = a_12 := (GG.1 _ M_12).2.1.trans A_12
  replace M_12 : (12) ∈ w14.1 := (GG.1 _ M_12).1
  replace A_2 : w14.2.1 (2) = a_2 := (GG.1 _ M_2).2.1.trans A_2
  replace S_2 : w14.2.2 (2) = jm_Qa (E.2.2 4) 6 (fun _ => none) := ((GG.1 _ M_2).2.2 (by decide)).trans S_2
  replace M_2 : (2) ∈ w14.1 := (GG.1 _ M_2).1
  replace N_21 : (21) ∉ w14.1 := fun h => (GG.2 _ h).elim N_21 (fun e => absurd (show (21 : Int) = (20) from e) (by decide))
  replace N_22 : (22) ∉ w14.1 := fun h => (GG.2 _ h).elim N_22 (fun e => absurd (show (22 : Int) = (20) from e) (by decide))
  replace N_23 : (23) ∉ w14.1 := fun h => (GG.2 _ h).elim N_23 (fun e => absurd (show (23 : Int) = (20) from e) (by decide))
  replace N_24 : (24) ∉ w14.1 := fun h => (GG.2 _ h).elim N_24 (fun e => absurd (show (24 : Int) = (20) from e) (by decide))
  replace N_25 : (25) ∉ w14.1 := fun h => (GG.2 _ h).elim N_25 (fun e => absurd (show (25 : Int) = (20) from e) (by decide))
  replace N_3 : (3) ∉ w14.1 := fun h => (GG.2 _ h).elim N_3 (fun e => absurd (show (3 : Int) = (20) from e) (by decide))
  replace N_4 : (4) ∉ w14.1 := fun h => (GG.2 _ h).elim N_4 (fun e => absurd (show (4 : Int) = (20) from e) (by decide))
  replace N_4p100 : (4 + 100) ∉ w14.1 := fun h => (GG.2 _ h).elim N_4p100 (fun e => absurd (show (4 + 100 : Int) = (20) from e) (by decide))
  replace N_4p100p100 : (4 + 100 + 100) ∉ w14.1 := fun h => (GG.2 _ h).elim N_4p100p100 (fun e => absurd (show (4 + 100 + 100 : Int) = (20) from e) (by decide))
  replace GT : jm_gr w w14 (0) (hk_hn) := jm_gr_tr GT GG (fun h => absurd h N0_20) (fun z e => e.elim id (fun e => by have e : z = (20) := e; subst e; exact (show hk_hn _ from by unfold hk_hn; decide)))
  have M_20 : (20) ∈ w14.1 := by rw [hw14]; exact jm_ad_m
  have A_20 : w14.2.1 (20) = a_20 := by rw [hw14]; exact jm_ad_a
  have S_20 : w14.2.2 (20) = jm_O 4 [none, none, none] := by rw [hw14]; exact jm_ad_s
  clear hw14
  refine jm_geni (fun J6 hJ6 => ?_)
  refine jm_dup C dX5_init_70 rfl ?_
  refine jm_cIN (n := 0) [.ref a_20, jm_v 0, .ref a_2] (host := RX5) jm_XTm (jm_trivX G) C (kX4_init E w14 (J6) (20) a_20 A_20 M_20 S_20  ) jm_n_X4 okX4_init rfl ⟨rfl, rfl⟩ ⟨Nat.le_of_ble_eq_true rfl, Nat.le_of_ble_eq_true rfl⟩ rfl rfl (Nat.le_of_ble_eq_true rfl) dX5_init_71 ⟨Nat.le_of_ble_eq_true rfl, Nat.le_of_ble_eq_true rfl⟩ (fun w15 I15 hh => ?_)
  obtain ⟨GG, XX, hh⟩ := hh
  have hI15 := hh
  clear hh
  replace A_0 : w15.2.1 (0) = r := (GG.1 _ M_0).2.1.trans A_0
  replace S_0 : w15.2.2 (0) = jm_O 5 [some (.ref a_1), some (.ref a_2), some .null, some .null, none, none, none, none, none] := ((GG.1 _ M_0).2.2 (by decide)).trans S_0
  replace M_0 : (0) ∈ w15.1 := (GG.1 _ M_0).1
  replace A_1 : w15.2.1 (1) = a_1 := (GG.1 _ M_1).2.1.trans A_1
  replace S_1 : w15.2.2 (1) = jm_Qa (E.2.2 3) 3 (va_up (va_up (va_up (fun _ => none) ((0 : Int)).toNat (some a_10)) ((0 + 1 : Int)).toNat (some a_11)) (((0 + 1) + 1 : Int)).toNat (some a_12)) := ((GG.1 _ M_1).2.2 (by decide)).trans S_1
  replace M_1 : (1) ∈ w15.1 := (GG.1 _ M_1).1
  replace X_10 : jm_X1 E w15 (10) := jm_X1_gr X_10 GG (by decide) (by decide)
  replace A_10 : w15.2.1 (10) = a_10 := (GG.1 _ M_10).2.1.trans A_10
  replace M_10 : (10) ∈ w15.1 := (GG.1 _ M_10).1
  replace X_11 : jm_X1 E w15 (11) := jm_X1_gr X_11 GG (by decide) (by decide)
  replace A_11 : w15.2.1 (11) = a_11 := (GG.1 _ M_11).2.1.trans A_11
  replace M_11 : (11) ∈ w15.1 := (GG.1 _ M_11).1
  replace X_12 : jm_X1 E w15 (12) := jm_X1_gr X_12 GG (by decide) (by decide)
  replace A_12 : w15.2.1 (12) = a_12 := (GG.1 _ M_12).2.1.trans A_12
  replace M_12 : (12) ∈ w15.1 := (GG.1 _ M_12).1
  replace A_2 : w15.2.1 (2) = a_2 := (GG.1 _ M_2).2.1.trans A_2
  replace S_2 : w15.2.2 (2) = jm_Qa (E.2.2 4) 6 (fun _ => none) := ((GG.1 _ M_2).2.2 (by decide)).trans S_2
  replace M_2 : (2) ∈ w15.1 := (GG.1 _ M_2).1
  replace A_20 : w15.2.1 (20) = a_20 := (GG.1 _ M_20).2.1.trans A_20
  replace M_20 : (20) ∈ w15.1 := (GG.1 _ M_20).1
  replace N_21 : (21) ∉ w15.1 := fun h => (GG.2 _ h).elim N_21 (fun e => e.elim)
  replace N_22 : (22) ∉ w15.1 := fun h => (GG.2 _ h).elim N_22 (fun e => e.elim)
  replace N_23 : (23) ∉ w15.1 := fun h => (GG.2 _ h).elim N_23 (fun e => e.elim)
  replace N_24 : (24) ∉ w15.1 := fun h => (GG.2 _ h).elim N_24 (fun e => e.elim)
  replace N_25 : (25) ∉ w15.1 := fun h => (GG.2 _ h).elim N_25 (fun e => e.elim)
  replace N_3 : (3) ∉ w15.1 := fun h => (GG.2 _ h).elim N_3 (fun e => e.elim)
  replace N_4 : (4) ∉ w15.1 := fun h => (GG.2 _ h).elim N_4 (fun e => e.elim)
  replace N_4p100 : (4 + 100) ∉ w15.1 := fun h => (GG.2 _ h).elim N_4p100 (fun e => e.elim)
  replace N_4p100p100 : (4 + 100 + 100) ∉ w15.1 := fun h => (GG.2 _ h).elim N_4p100p100 (fun e => e.elim)
  replace GT : jm_gr w w15 (0) (hk_hn) := jm_gr_tr GT GG (fun h => absurd h N0_20) (fun z e => e.elim id (fun e => e.elim))
  have X_20 := XX
  rw [← A_2, ← A_20]
  refine jm_aast (t := 4) C M_2 rfl S_2 X_20.1 X_20.2 rfl (by decide) (by decide) (by decide) dX5_init_74 ?_
  try rw [A_2]
  try rw [A_20]
  refine jm_gen (fun w16 hw16 => ?_)
  have GG : jm_gr w15 w16 (2) (fun _ => False) := by rw [hw16]; exact jm_gr_sh
  replace A_0 : w16.2.1 (0) = r := (GG.1 _ M_0).2.1.trans A_0
  replace S_0 : w16.2.2 (0) = jm_O 5 [some (.ref a_1), some (.ref a_2), some .null, some .null, none, none, none, none, none] := ((GG.1 _ M_0).2.2 (by decide)).trans S_0
  replace M_0 : (0) ∈ w16.1 := (GG.1 _ M_0).1
  replace A_1 : w16.2.1 (1) = a_1 := (GG.1 _ M_1).2.1.trans A_1
  replace S_1 : w16.2.2 (1) = jm_Qa (E.2.2 3) 3 (va_up (va_up (va_up (fun _ => none) ((0 : Int)).toNat (some a_10)) ((0 + 1 : Int)).toNat (some a_11)) (((0 + 1) + 1 : Int)).toNat (some a_12)) := ((GG.1 _ M_1).2.2 (by decide)).trans S_1
  replace M_1 : (1) ∈ w16.1 := (GG.1 _ M_1).1
  replace X_10 : jm_X1 E w16 (10) := jm_X1_gr X_10 GG (by decide) (by decide)
  replace A_10 : w16.2.1 (10) = a_10 := (GG.1 _ M_10).2.1.trans A_10
  replace M_10 : (10) ∈ w16.1 := (GG.1 _ M_10).1
  replace X_11 : jm_X1 E w16 (11) := jm_X1_gr X_11 GG (by decide) (by decide)
  replace A_11 : w16.2.1 (11) = a_11 := (GG.1 _ M_11).2.1.trans A_11
  replace M_11 : (11) ∈ w16.1 := (GG.1 _ M_11).1
  replace X_12 : jm_X1 E w16 (12) := jm_X1_gr X_12 GG (by decide) (by decide)
  replace A_12 : w16.2.1 (12) = a_12 := (GG.1 _ M_12).2.1.trans A_12
  replace M_12 : (12) ∈ w16.1 := (GG.1 _ M_12).1
  replace A_2 : w16.2.1 (2) = a_2 := (GG.1 _ M_2).2.1.trans A_2
  replace M_2 : (2) ∈ w16.1 := (GG.1 _ M_2).1
  replace X_20 : jm_X4 E w16 (20) := jm_X4_gr X_20 GG (by decide)
  replace A_20 : w16.2.1 (20) = a_20 := (GG.1 _ M_20).2.1.trans A_20
  replace M_20 : (20) ∈ w16.1 := (GG.1 _ M_20).1
  replace N_21 : (21) ∉ w16.1 := fun h => (GG.2 _ h).elim N_21 (fun e => e.elim)
  replace N_22 : (22) ∉ w16.1 := fun h => (GG.2 _ h).elim N_22 (fun e => e.elim)
  replace N_23 : (23) ∉ w16.1 := fun h => (GG.2 _ h).elim N_23 (fun e => e.elim)
  replace N_24 : (24) ∉ w16.1 := fun h => (GG.2 _ h).elim N_24 (fun e => e.elim)
  replace N_25 : (25) ∉ w16.1 := fun h => (GG.2 _ h).elim N_25 (fun e => e.elim)
  replace N_3 : (3) ∉ w16.1 := fun h => (GG.2 _ h).elim N_3 (fun e => e.elim)
  replace N_4 : (4) ∉ w16.1 := fun h => (GG.2 _ h).elim N_4 (fun e => e.elim)
  replace N_4p100 : (4 + 100) ∉ w16.1 := fun h => (GG.2 _ h).elim N_4p100 (fun e => e.elim)
  replace N_4p100p100 : (4 + 100 + 100) ∉ w16.1 := fun h => (GG.2 _ h).elim N_4p100p100 (fun e => e.elim)
  replace GT : jm_gr w w16 (0) (hk_hn) := jm_gr_tr GT GG (fun h => absurd h N0_2) (fun z e => e.elim id (fun e => e.elim))
  have S_2 : w16.2.2 (2) = jm_Qa (E.2.2 4) 6 (va_up (fun _ => none) ((0 : Int)).toNat (some a_20)) := by rw [hw16]; exact jm_sh_s
  clear hw16
  refine jm_iinc C dX5_init_75 (by decide) rfl ?_
  refine jm_goto 53 C dX5_init_78 rfl ?_
  refine jm_iload_n C dX5_init_53 rfl ?_
  refine jm_aload_n C dX5_init_54 rfl ?_
  rw [← A_0]
  refine jm_getr (ci := 5) (f := 1) C rfl jw_u_5 M_0 S_0 rfl (by decide) jw_f_RX5_18 dX5_init_55 ?_
  try rw [A_0]
  rw [← A_2]
  refine jm_alenq 4 6 rfl C M_2 rfl S_2 dX5_init_58 ?_
  try rw [A_2]
  refine jm_icmp_ge 81 C dX5_init_59 rfl (by decide) (by decide) (fun c => ?_) (fun c => ?_)
  · exact absurd c (by decide)
  refine jm_aload_n C dX5_init_62 rfl ?_
  rw [← A_0]
  refine jm_getr (ci := 5) (f := 1) C rfl jw_u_5 M_0 S_0 rfl (by decide) jw_f_RX5_18 dX5_init_63 ?_
  try rw [A_0]
  refine jm_iload_n C dX5_init_66 rfl ?_
  refine jm_new (ci := 4) (tm := [none, none, none]) (21) C rfl tyX4 tyX4_ok jw_u_4 jw_L_RX5_16 jw_I_RX4 jw_n_RX4 N_21 (by decide +kernel) ⟨Nat.le_of_ble_eq_true rfl, Nat.le_of_ble_eq_true rfl⟩ dX5_init_67 (fun a_21 => ?_)
  refine jm_gen (fun w17 hw17 => ?_)
  have GG : jm_gr w16 w17 (21) (fun z => z = (21)) := by rw [hw17]; exact jm_gr_ad N_21
  replace A_0 : w17.2.1 (0) = r := (GG.1 _ M_0).2.1.trans A_0
  replace S_0 : w17.2.2 (0) = jm_O 5 [some (.ref a_1), some (.ref a_2), some .null, some .null, none, none, none, none, none] := ((GG.1 _ M_0).2.2 (by decide)).trans S_0
  replace M_0 : (0) ∈ w17.1 := (GG.1 _ M_0).1
  replace A_1 : w17.2.1 (1) = a_1 := (GG.1 _ M_1).2.1.trans A_1
  replace S_1 : w17.2.2 (1) = jm_Qa (E.2.2 3) 3 (va_up (va_up (va_up (fun _ => none) ((0 : Int)).toNat (some a_10)) ((0 + 1 : Int)).toNat (some a_11)) (((0 + 1) + 1 : Int)).toNat (some a_12)) := ((GG.1 _ M_1).2.2 (by decide)).trans S_1
  replace M_1 : (1) ∈ w17.1 := (GG.1 _ M_1).1
  replace X_10 : jm_X1 E w17 (10) := jm_X1_gr X_10 GG (by decide) (by decide)
  replace A_10 : w17.2.1 (10) = a_10 := (GG.1 _ M_10).2.1.trans A_10
  replace M_10 : (10) ∈ w17.1 := (GG.1 _ M_10).1
  replace X_11 : jm_X1 E w17 (11) := jm_X1_gr X_11 GG (by decide) (by decide)
  replace A_11 : w17.2.1 (11) = a_11 := (GG.1 _ M_11).2.1.trans A_11
  replace M_11 : (11) ∈ w17.1 := (GG.1 _ M_11).1
  replace X_12 : jm_X1 E w17 (12) := jm_X1_gr X_12 GG (by decide) (by decide)
  replace A_12 : w17.2.1 (12) = a_12 := (GG.1 _ M_12).2.1.trans A_12
  replace M_12 : (12) ∈ w17.1 := (GG.1 _ M_12).1
  replace A_2 : w17.2.1 (2) = a_2 := (GG.1 _ M_2).2.1.trans A_2
  replace S_2 : w17.2.2 (2) = jm_Qa (E.2.2 4) 6 (va_up (fun _ => none) ((0 : Int)).toNat (some a_20)) := ((GG.1 _ M_2).2.2 (by decide)).trans S_2
  replace M_2 : (2) ∈ w17.1 := (GG.1 _ M_2).1
  replace X_20 : jm_X4 E w17 (20) := jm_X4_gr X_20 GG (by decide)
  replace A_20 : w17.2.1 (20) = a_20 := (GG.1 _ M_20).2.1.trans A_20
  replace M_20 : (20) ∈ w17.1 := (GG.1 _ M_20).1
  replace N_22 : (22) ∉ w17.1 := fun h => (GG.2 _ h).elim N_22 (fun e => absurd (show (22 : Int) = (21) from e) (by decide))
  replace N_23 : (23) ∉ w17.1 := fun h => (GG.2 _ h).elim N_23 (fun e => absurd (show (23 : Int) = (21) from e) (by decide))
  replace N_24 : (24) ∉ w17.1 := fun h => (GG.2 _ h).elim N_24 (fun e => absurd (show (24 : Int) = (21) from e) (by decide))
  replace N_25 : (25) ∉ w17.1 := fun h => (GG.2 _ h).elim N_25 (fun e => absurd (show (25 : Int) = (21) from e) (by decide))
  replace N_3 : (3) ∉ w17.1 := fun h => (GG.2 _ h).elim N_3 (fun e => absurd (show (3 : Int) = (21) from e) (by decide))
  replace N_4 : (4) ∉ w17.1 := fun h => (GG.2 _ h).elim N_4 (fun e => absurd (show (4 : Int) = (21) from e) (by decide))
  replace N_4p100 : (4 + 100) ∉ w17.1 := fun h => (GG.2 _ h).elim N_4p100 (fun e => absurd (show (4 + 100 : Int) = (21) from e) (by decide))
  replace N_4p100p100 : (4 + 100 + 100) ∉ w17.1 := fun h => (GG.2 _ h).elim N_4p100p100 (fun e => absurd (show (4 + 100 + 100 : Int) = (21) from e) (by decide))
  replace GT : jm_gr w w17 (0) (hk_hn) := jm_gr_tr GT GG (fun h => absurd h N0_21) (fun z e => e.elim id (fun e => by have e : z = (21) := e; subst e; exact (show hk_hn _ from by unfold hk_hn; decide)))
  have M_21 : (21) ∈ w17.1 := by rw [hw17]; exact jm_ad_m
  have A_21 : w17.2.1 (21) = a_21 := by rw [hw17]; exact jm_ad_a
  have S_21 : w17.2.2 (21) = jm_O 4 [none, none, none] := by rw [hw17]; exact jm_ad_s
  clear hw17
  refine jm_geni (fun J7 hJ7 => ?_)
  refine jm_dup C dX5_init_70 rfl ?_
  refine jm_cIN (n := 0) [.ref a_21, jm_v (0 + 1), .ref a_2] (host := RX5) jm_XTm (jm_trivX G) C (kX4_init E w17 (J7) (21) a_21 A_21 M_21 S_21  ) jm_n_X4 okX4_init rfl ⟨rfl, rfl⟩ ⟨Nat.le_of_ble_eq_true rfl, Nat.le_of_ble_eq_true rfl⟩ rfl rfl (Nat.le_of_ble_eq_true rfl) dX5_init_71 ⟨Nat.le_of_ble_eq_true rfl, Nat.le_of_ble_eq_true rfl⟩ (fun w18 I18 hh => ?_)
  obtain ⟨GG, XX, hh⟩ := hh
  have hI18 := hh
  clear hh
  replace A_0 : w18.2.1 (0) = r := (GG.1 _ M_0).2.1.trans A_0
  replace S_0 : w18.2.2 (0) = jm_O 5 [some (.ref a_1), some (.ref a_2), some .null, some .null, none, none, none, none, none] := ((GG.1 _ M_0).2.2 (by decide)).trans S_0
  replace M_0 : (0) ∈ w18.1 := (GG.1 _ M_0).1
  replace A_1 : w18.2.1 (1) = a_1 := (GG.1 _ M_1).2.1.trans A_1
  replace S_1 : w18.2.2 (1) = jm_Qa (E.2.2 3) 3 (va_up (va_up (va_up (fun _ => none) ((0 : Int)).toNat (some a_10)) ((0 + 1 : Int)).toNat (some a_11)) (((0 + 1) + 1 : Int)).toNat (some a_12)) := ((GG.1 _ M_1).2.2 (by decide)).trans S_1
  replace M_1 : (1) ∈ w18.1 := (GG.1 _ M_1).1
  replace X_10 : jm_X1 E w18 (10) := jm_X1_gr X_10 GG (by decide) (by decide)
  replace A_10 : w18.2.1 (10) = a_10 := (GG.1 _ M_10).2.1.trans A_10
  replace M_10 : (10) ∈ w18.1 := (GG.1 _ M_10).1
  replace X_11 : jm_X1 E w18 (11) := jm_X1_gr X_11 GG (by decide) (by decide)
  replace A_11 : w18.2.1 (11) = a_11 := (GG.1 _ M_11).2.1.trans A_11
  replace M_11 : (11) ∈ w18.1 := (GG.1 _ M_11).1
  replace X_12 : jm_X1 E w18 (12) := jm_X1_gr X_12 GG (by decide) (by decide)
  replace A_12 : w18.2.1 (12) = a_12 := (GG.1 _ M_12).2.1.trans A_12
  replace M_12 : (12) ∈ w18.1 := (GG.1 _ M_12).1
  replace A_2 : w18.2.1 (2) = a_2 := (GG.1 _ M_2).2.1.trans A_2
  replace S_2 : w18.2.2 (2) = jm_Qa (E.2.2 4) 6 (va_up (fun _ => none) ((0 : Int)).toNat (some a_20)) := ((GG.1 _ M_2).2.2 (by decide)).trans S_2
  replace M_2 : (2) ∈ w18.1 := (GG.1 _ M_2).1
  replace X_20 : jm_X4 E w18 (20) := jm_X4_gr X_20 GG (by decide)
  replace A_20 : w18.2.1 (20) = a_20 := (GG.1 _ M_20).2.1.trans A_20
  replace M_20 : (20) ∈ w18.1 := (GG.1 _ M_20).1
  replace A_21 : w18.2.1 (21) = a_21 := (GG.1 _ M_21).2.1.trans A_21
  replace M_21 : (21) ∈ w18.1 := (GG.1 _ M_21).1
  replace N_22 : (22) ∉ w18.1 := fun h => (GG.2 _ h).elim N_22 (fun e => e.elim)
  replace N_23 : (23) ∉ w18.1 := fun h => (GG.2 _ h).elim N_23 (fun e => e.elim)
  replace N_24 : (24) ∉ w18.1 := fun h => (GG.2 _ h).elim N_24 (fun e => e.elim)
  replace N_25 : (25) ∉ w18.1 := fun h => (GG.2 _ h).elim N_25 (fun e => e.elim)
  replace N_3 : (3) ∉ w18.1 := fun h => (GG.2 _ h).elim N_3 (fun e => e.elim)
  replace N_4 : (4) ∉ w18.1 := fun h => (GG.2 _ h).elim N_4 (fun e => e.elim)
  replace N_4p100 : (4 + 100) ∉ w18.1 := fun h => (GG.2 _ h).elim N_4p100 (fun e => e.elim)
  replace N_4p100p100 : (4 + 100 + 100) ∉ w18.1 := fun h => (GG.2 _ h).elim N_4p100p100 (fun e => e.elim)
  replace GT : jm_gr w w18 (0) (hk_hn) := jm_gr_tr GT GG (fun h => absurd h N0_21) (fun z e => e.elim id (fun e => e.elim))
  have X_21 := XX
  rw [← A_2, ← A_21]
  refine jm_aast (t := 4) C M_2 rfl S_2 X_21.1 X_21.2 rfl (by decide) (by decide) (by decide) dX5_init_74 ?_
  try rw [A_2]
  try rw [A_21]
  refine jm_gen (fun w19 hw19 => ?_)
  have GG : jm_gr w18 w19 (2) (fun _ => False) := by rw [hw19]; exact jm_gr_sh
  replace A_0 : w19.2.1 (0) = r := (GG.1 _ M_0).2.1.trans A_0
  replace S_0 : w19.2.2 (0) = jm_O 5 [some (.ref a_1), some (.ref a_2), some .null, some .null, none, none, none, none, none] := ((GG.1 _ M_0).2.2 (by decide)).trans S_0
  replace M_0 : (0) ∈ w19.1 := (GG.1 _ M_0).1
  replace A_1 : w19.2.1 (1) = a_1 := (GG.1 _ M_1).2.1.trans A_1
  replace S_1 : w19.2.2 (1) = jm_Qa (E.2.2 3) 3 (va_up (va_up (va_up (fun _ => none) ((0 : Int)).toNat (some a_10)) ((0 + 1 : Int)).toNat (some a_11)) (((0 + 1) + 1 : Int)).toNat (some a_12)) := ((GG.1 _ M_1).2.2 (by decide)).trans S_1
  replace M_1 : (1) ∈ w19.1 := (GG.1 _ M_1).1
  replace X_10 : jm_X1 E w19 (10) := jm_X1_gr X_10 GG (by decide) (by decide)
  replace A_10 : w19.2.1 (10) = a_10 := (GG.1 _ M_10).2.1.trans A_10
  replace M_10 : (10) ∈ w19.1 := (GG.1 _ M_10).1
  replace X_11 : jm_X1 E w19 (11) := jm_X1_gr X_11 GG (by decide) (by decide)
  replace A_11 : w19.2.1 (11) = a_11 := (GG.1 _ M_11).2.1.trans A_11
  replace M_11 : (11) ∈ w19.1 := (GG.1 _ M_11).1
  replace X_12 : jm_X1 E w19 (12) := jm_X1_gr X_12 GG (by decide) (by decide)
  replace A_12 : w19.2.1 (12) = a_12 := (GG.1 _ M_12).2.1.trans A_12
  replace M_12 : (12) ∈ w19.1 := (GG.1 _ M_12).1
  replace A_2 : w19.2.1 (2) = a_2 := (GG.1 _ M_2).2.1.trans A_2
  replace M_2 : (2) ∈ w19.1 := (GG.1 _ M_2).1
  replace X_20 : jm_X4 E w19 (20) := jm_X4_gr X_20 GG (by decide)
  replace A_20 : w19.2.1 (20) = a_20 := (GG.1 _ M_20).2.1.trans A_20
  replace M_20 : (20) ∈ w19.1 := (GG.1 _ M_20).1
  replace X_21 : jm_X4 E w19 (21) := jm_X4_gr X_21 GG (by decide)
  replace A_21 : w19.2.1 (21) = a_21 := (GG.1 _ M_21).2.1.trans A_21
  replace M_21 : (21) ∈ w19.1 := (GG.1 _ M_21).1
  replace N_22 : (22) ∉ w19.1 := fun h => (GG.2 _ h).elim N_22 (fun e => e.elim)
  replace N_23 : (23) ∉ w19.1 := fun h => (GG.2 _ h).elim N_23 (fun e => e.elim)
  replace N_24 : (24) ∉ w19.1 := fun h => (GG.2 _ h).elim N_24 (fun e => e.elim)
  replace N_25 : (25) ∉ w19.1 := fun h => (GG.2 _ h).elim N_25 (fun e => e.elim)
  replace N_3 : (3) ∉ w19.1 := fun h => (GG.2 _ h).elim N_3 (fun e => e.elim)
  replace N_4 : (4) ∉ w19.1 := fun h => (GG.2 _ h).elim N_4 (fun e => e.elim)
  replace N_4p100 : (4 + 100) ∉ w19.1 := fun h => (GG.2 _ h).elim N_4p100 (fun e => e.elim)
  replace N_4p100p100 : (4 + 100 + 100) ∉ w19.1 := fun h => (GG.2 _ h).elim N_4p100p100 (fun e => e.elim)
  replace GT : jm_gr w w19 (0) (hk_hn) := jm_gr_tr GT GG (fun h => absurd h N0_2) (fun z e => e.elim id (fun e => e.elim))
  have S_2 : w19.2.2 (2) = jm_Qa (E.2.2 4) 6 (va_up (va_up (fun _ => none) ((0 : Int)).toNat (some a_20)) ((0 + 1 : Int)).toNat (some a_21)) := by rw [hw19]; exact jm_sh_s
  clear hw19
  refine jm_iinc C dX5_init_75 (by decide) rfl ?_
  refine jm_goto 53 C dX5_init_78 rfl ?_
  refine jm_iload_n C dX5_init_53 rfl ?_
  refine jm_aload_n C dX5_init_54 rfl ?_
  rw [← A_0]
  refine jm_getr (ci := 5) (f := 1) C rfl jw_u_5 M_0 S_0 rfl (by decide) jw_f_RX5_18 dX5_init_55 ?_
  try rw [A_0]
  rw [← A_2]
  refine jm_alenq 4 6 rfl C M_2 rfl S_2 dX5_init_58 ?_
  try rw [A_2]
  refine jm_icmp_ge 81 C dX5_init_59 rfl (by decide) (by decide) (fun c => ?_) (fun c => ?_)
  · exact absurd c (by decide)
  refine jm_aload_n C dX5_init_62 rfl ?_
  rw [← A_0]
  refine jm_getr (ci := 5) (f := 1) C rfl jw_u_5 M_0 S_0 rfl (by decide) jw_f_RX5_18 dX5_init_63 ?_
  try rw [A_0]
  refine jm_iload_n C dX5_init_66 rfl ?_
  refine jm_new (ci := 4) (tm := [none, none, none]) (22) C rfl tyX4 tyX4_ok jw_u_4 jw_L_RX5_16 jw_I_RX4 jw_n_RX4 N_22 (by decide +kernel) ⟨Nat.le_of_ble_eq_true rfl, Nat.le_of_ble_eq_true rfl⟩ dX5_init_67 (fun a_22 => ?_)
  refine jm_gen (fun w20 hw20 => ?_)
  have GG : jm_gr w19 w20 (22) (fun z => z = (22)) := by rw [hw20]; exact jm_gr_ad N_22
  replace A_0 : w20.2.1 (0) = r := (GG.1 _ M_0).2.1.trans A_0
  replace S_0 : w20.2.2 (0) = jm_O 5 [some (.ref a_1), some (.ref a_2), some .null, some .null, none, none, none, none, none] := ((GG.1 _ M_0).2.2 (by decide)).trans S_0
  replace M_0 : (0) ∈ w20.1 := (GG.1 _ M_0).1
  replace A_1 : w20.2.1 (1) = a_1 := (GG.1 _ M_1).2.1.trans A_1
  replace S_1 : w20.2.2 (1) = jm_Qa (E.2.2 3) 3 (va_up (va_up (va_up (fun _ => none) ((0 : Int)).toNat (some a_10)) ((0 + 1 : Int)).toNat (some a_11)) (((0 + 1) + 1 : Int)).toNat (some a_12)) := ((GG.1 _ M_1).2.2 (by decide)).trans S_1
  replace M_1 : (1) ∈ w20.1 := (GG.1 _ M_1).1
  replace X_10 : jm_X1 E w20 (10) := jm_X1_gr X_10 GG (by decide) (by decide)
  replace A_10 : w20.2.1 (10) = a_10 := (GG.1 _ M_10).2.1.trans A_10
  replace M_10 : (10) ∈ w20.1 := (GG.1 _ M_10).1
  replace X_11 : jm_X1 E w20 (11) := jm_X1_gr X_11 GG (by decide) (by decide)
  replace A_11 : w20.2.1 (11) = a_11 := (GG.1 _ M_11).2.1.trans A_11
  replace M_11 : (11) ∈ w20.1 := (GG.1 _ M_11).1
  replace X_12 : jm_X1 E w20 (12) := jm_X1_gr X_12 GG (by decide) (by decide)
  replace A_12 : w20.2.1 (12) = a_12 := (GG.1 _ M_12).2.1.trans A_12
  replace M_12 : (12) ∈ w20.1 := (GG.1 _ M_12).1
  replace A_2 : w20.2.1 (2) = a_2 := (GG.1 _ M_2).2.1.trans A_2
  replace S_2 : w20.2.2 (2) = jm_Qa (E.2.2 4) 6 (va_up (va_up (fun _ => none) ((0 : Int)).toNat (some a_20)) ((0 + 1 : Int)).toNat (some a_21)) := ((GG.1 _ M_2).2.2 (by decide)).trans S_2
  replace M_2 : (2) ∈ w20.1 := (GG.1 _ M_2).1
  replace X_20 : jm_X4 E w20 (20) := jm_X4_gr X_20 GG (by decide)
  replace A_20 : w20.2.1 (20) = a_20 := (GG.1 _ M_20).2.1.trans A_20
  replace M_20 : (20) ∈ w20.1 := (GG.1 _ M_20).1
  replace X_21 : jm_X4 E w20 (21) := jm_X4_gr X_21 GG (by decide)
  replace A_21 : w20.2.1 (21) = a_21 := (GG.1 _ M_21).2.1.trans A_21
  replace M_21 : (21) ∈ w20.1 := (GG.1 _ M_21).1
  replace N_23 : (23) ∉ w20.1 := fun h => (GG.2 _ h).elim N_23 (fun e => absurd (show (23 : Int) = (22) from e) (by decide))
  replace N_24 : (24) ∉ w20.1 := fun h => (GG.2 _ h).elim N_24 (fun e => absurd (show (24 : Int) = (22) from e) (by decide))
  replace N_25 : (25) ∉ w20.1 := fun h => (GG.2 _ h).elim N_25 (fun e => absurd (show (25 : Int) = (22) from e) (by decide))
  replace N_3 : (3) ∉ w20.1 := fun h => (GG.2 _ h).elim N_3 (fun e => absurd (show (3 : Int) = (22) from e) (by decide))
  replace N_4 : (4) ∉ w20.1 := fun h => (GG.2 _ h).elim N_4 (fun e => absurd (show (4 : Int) = (22) from e) (by decide))
  replace N_4p100 : (4 + 100) ∉ w20.1 := fun h => (GG.2 _ h).elim N_4p100 (fun e => absurd (show (4 + 100 : Int) = (22) from e) (by decide))
  replace N_4p100p100 : (4 + 100 + 100) ∉ w20.1 := fun h => (GG.2 _ h).elim N_4p100p100 (fun e => absurd (show (4 + 100 + 100 : Int) = (22) from e) (by decide))
  replace GT : jm_gr w w20 (0) (hk_hn) := jm_gr_tr GT GG (fun h => absurd h N0_22) (fun z e => e.elim id (fun e => by have e : z = (22) := e; subst e; exact (show hk_hn _ from by unfold hk_hn; decide)))
  have M_22 : (22) ∈ w20.1 := by rw [hw20]; exact jm_ad_m
  have A_22 : w20.2.1 (22) = a_22 := by rw [hw20]; exact jm_ad_a
  have S_22 : w20.2.2 (22) = jm_O 4 [none, none, none] := by rw [hw20]; exact jm_ad_s
  clear hw20
  refine jm_geni (fun J8 hJ8 => ?_)
  refine jm_dup C dX5_init_70 rfl ?_
  refine jm_cIN (n := 0) [.ref a_22, jm_v ((0 + 1) + 1), .ref a_2] (host := RX5) jm_XTm (jm_trivX G) C (kX4_init E w20 (J8) (22) a_22 A_22 M_22 S_22  ) jm_n_X4 okX4_init rfl ⟨rfl, rfl⟩ ⟨Nat.le_of_ble_eq_true rfl, Nat.le_of_ble_eq_true rfl⟩ rfl rfl (Nat.le_of_ble_eq_true rfl) dX5_init_71 ⟨Nat.le_of_ble_eq_true rfl, Nat.le_of_ble_eq_true rfl⟩ (fun w21 I21 hh => ?_)
  obtain ⟨GG, XX, hh⟩ := hh
  have hI21 := hh
  clear hh
  replace A_0 : w21.2.1 (0) = r := (GG.1 _ M_0).2.1.trans A_0
  replace S_0 : w21.2.2 (0) = jm_O 5 [some (.ref a_1), some (.ref a_2), some .null, some .null, none, none, none, none, none] := ((GG.1 _ M_0).2.2 (by decide)).trans S_0
  replace M_0 : (0) ∈ w21.1 := (GG.1 _ M_0).1
  replace A_1 : w21.2.1 (1) = a_1 := (GG.1 _ M_1).2.1.trans A_1
  replace S_1 : w21.2.2 (1) = jm_Qa (E.2.2 3) 3 (va_up (va_up (va_up (fun _ => none) ((0 : Int)).toNat (some a_10)) ((0 + 1 : Int)).toNat (some a_11)) (((0 + 1) + 1 : Int)).toNat (some a_12)) := ((GG.1 _ M_1).2.2 (by decide)).trans S_1
  replace M_1 : (1) ∈ w21.1 := (GG.1 _ M_1).1
  replace X_10 : jm_X1 E w21 (10) := jm_X1_gr X_10 GG (by decide) (by decide)
  replace A_10 : w21.2.1 (10) = a_10 := (GG.1 _ M_10).2.1.trans A_10
  replace M_10 : (10) ∈ w21.1 := (GG.1 _ M_10).1
  replace X_11 : jm_X1 E w21 (11) := jm_X1_gr X_11 GG (by decide) (by decide)
  replace A_11 : w21.2.1 (11) = a_11 := (GG.1 _ M_11).2.1.trans A_11
  replace M_11 : (11) ∈ w21.1 := (GG.1 _ M_11).1
  replace X_12 : jm_X1 E w21 (12) := jm_X1_gr X_12 GG (by decide) (by decide)
  replace A_12 : w21.2.1 (12) = a_12 := (GG.1 _ M_12).2.1.trans A_12
  replace M_12 : (12) ∈ w21.1 := (GG.1 _ M_12).1
  replace A_2 : w21.2.1 (2) = a_2 := (GG.1 _ M_2).2.1.trans A_2
  replace S_2 : w21.2.2 (2) = jm_Qa (E.2.2 4) 6 (va_up (va_up (fun _ => none) ((0 : Int)).toNat (some a_20)) ((0 + 1 : Int)).toNat (some a_21)) := ((GG.1 _ M_2).2.2 (by decide)).trans S_2
  replace M_2 : (2) ∈ w21.1 := (GG.1 _ M_2).1
  replace X_20 : jm_X4 E w21 (20) := jm_X4_gr X_20 GG (by decide)
  replace A_20 : w21.2.1 (20) = a_20 := (GG.1 _ M_20).2.1.trans A_20
  replace M_20 : (20) ∈ w21.1 := (GG.1 _ M_20).1
  replace X_21 : jm_X4 E w21 (21) := jm_X4_gr X_21 GG (by decide)
  replace A_21 : w21.2.1 (21) = a_21 := (GG.1 _ M_21).2.1.trans A_21
  replace M_21 : (21) ∈ w21.1 := (GG.1 _ M_21).1
  replace A_22 : w21.2.1 (22) = a_22 := (GG.1 _ M_22).2.1.trans A_22
  replace M_22 : (22) ∈ w21.1 := (GG.1 _ M_22).1
  replace N_23 : (23) ∉ w21.1 := fun h => (GG.2 _ h).elim N_23 (fun e => e.elim)
  replace N_24 : (24) ∉ w21.1 := fun h => (GG.2 _ h).elim N_24 (fun e => e.elim)
  replace N_25 : (25) ∉ w21.1 := fun h => (GG.2 _ h).elim N_25 (fun e => e.elim)
  replace N_3 : (3) ∉ w21.1 := fun h => (GG.2 _ h).elim N_3 (fun e => e.elim)
  replace N_4 : (4) ∉ w21.1 := fun h => (GG.2 _ h).elim N_4 (fun e => e.elim)
  replace N_4p100 : (4 + 100) ∉ w21.1 := fun h => (GG.2 _ h).elim N_4p100 (fun e => e.elim)
  replace N_4p100p100 : (4 + 100 + 100) ∉ w21.1 := fun h => (GG.2 _ h).elim N_4p100p100 (fun e => e.elim)
  replace GT : jm_gr w w21 (0) (hk_hn) := jm_gr_tr GT GG (fun h => absurd h N0_22) (fun z e => e.elim id (fun e => e.elim))
  have X_22 := XX
  rw [← A_2, ← A_22]
  refine jm_aast (t := 4) C M_2 rfl S_2 X_22.1 X_22.2 rfl (by decide) (by decide) (by decide) dX5_init_74 ?_
  try rw [A_2]
  try rw [A_22]
  refine jm_gen (fun w22 hw22 => ?_)
  have GG : jm_gr w21 w22 (2) (fun _ => False) := by rw [hw22]; exact jm_gr_sh
  replace A_0 : w22.2.1 (0) = r := (GG.1 _ M_0).2.1.trans A_0
  replace S_0 : w22.2.2 (0) = jm_O 5 [some (.ref a_1), some (.ref a_2), some .null, some .null, none, none, none, none, none] := ((GG.1 _ M_0).2.2 (by decide)).trans S_0
  replace M_0 : (0) ∈ w22.1 := (GG.1 _ M_0).1
  replace A_1 : w22.2.1 (1) = a_1 := (GG.1 _ M_1).2.1.trans A_1
  replace S_1 : w22.2.2 (1) = jm_Qa (E.2.2 3) 3 (va_up (va_up (va_up (fun _ => none) ((0 : Int)).toNat (some a_10)) ((0 + 1 : Int)).toNat (some a_11)) (((0 + 1) + 1 : Int)).toNat (some a_12)) := ((GG.1 _ M_1).2.2 (by decide)).trans S_1
  replace M_1 : (1) ∈ w22.1 := (GG.1 _ M_1).1
  replace X_10 : jm_X1 E w22 (10) := jm_X1_gr X_10 GG (by decide) (by decide)
  replace A_10 : w22.2.1 (10) = a_10 := (GG.1 _ M_10).2.1.trans A_10
  replace M_10 : (10) ∈ w22.1 := (GG.1 _ M_10).1
  replace X_11 : jm_X1 E w22 (11) := jm_X1_gr X_11 GG (by decide) (by decide)
  replace A_11 : w22.2.1 (11) = a_11 := (GG.1 _ M_11).2.1.trans A_11
  replace M_11 : (11) ∈ w22.1 := (GG.1 _ M_11).1
  replace X_12 : jm_X1 E w22 (12) := jm_X1_gr X_12 GG (by decide) (by decide)
  replace A_12 : w22.2.1 (12) = a_12 := (GG.1 _ M_12).2.1.trans A_12
  replace M_12 : (12) ∈ w22.1 := (GG.1 _ M_12).1
  replace A_2 : w22.2.1 (2) = a_2 := (GG.1 _ M_2).2.1.trans A_2
  replace M_2 : (2) ∈ w22.1 := (GG.1 _ M_2).1
  replace X_20 : jm_X4 E w22 (20) := jm_X4_gr X_20 GG (by decide)
  replace A_20 : w22.2.1 (20) = a_20 := (GG.1 _ M_20).2.1.trans A_20
  replace M_20 : (20) ∈ w22.1 := (GG.1 _ M_20).1
  replace X_21 : jm_X4 E w22 (21) := jm_X4_gr X_21 GG (by decide)
  replace A_21 : w22.2.1 (21) = a_21 := (GG.1 _ M_21).2.1.trans A_21
  replace M_21 : (21) ∈ w22.1 := (GG.1 _ M_21).1
  replace X_22 : jm_X4 E w22 (22) := jm_X4_gr X_22 GG (by decide)
  replace A_22 : w22.2.1 (22) = a_22 := (GG.1 _ M_22).2.1.trans A_22
  replace M_22 : (22) ∈ w22.1 := (GG.1 _ M_22).1
  replace N_23 : (23) ∉ w22.1 := fun h => (GG.2 _ h).elim N_23 (fun e => e.elim)
  replace N_24 : (24) ∉ w22.1 := fun h => (GG.2 _ h).elim N_24 (fun e => e.elim)
  replace N_25 : (25) ∉ w22.1 := fun h => (GG.2 _ h).elim N_25 (fun e => e.elim)
  replace N_3 : (3) ∉ w22.1 := fun h => (GG.2 _ h).elim N_3 (fun e => e.elim)
  replace N_4 : (4) ∉ w22.1 := fun h => (GG.2 _ h).elim N_4 (fun e => e.elim)
  replace N_4p100 : (4 + 100) ∉ w22.1 := fun h => (GG.2 _ h).elim N_4p100 (fun e => e.elim)
  replace N_4p100p100 : (4 + 100 + 100) ∉ w22.1 := fun h => (GG.2 _ h).elim N_4p100p100 (fun e => e.elim)
  replace GT : jm_gr w w22 (0) (hk_hn) := jm_gr_tr GT GG (fun h => absurd h N0_2) (fun z e => e.elim id (fun e => e.elim))
  have S_2 : w22.2.2 (2) = jm_Qa (E.2.2 4) 6 (va_up (va_up (va_up (fun _ => none) ((0 : Int)).toNat (some a_20)) ((0 + 1 : Int)).toNat (some a_21)) (((0 + 1) + 1 : Int)).toNat (some a_22)) := by rw [hw22]; exact jm_sh_s
  clear hw22
  refine jm_iinc C dX5_init_75 (by decide) rfl ?_
  refine jm_goto 53 C dX5_init_78 rfl ?_
  refine jm_iload_n C dX5_init_53 rfl ?_
  refine jm_aload_n C dX5_init_54 rfl ?_
  rw [← A_0]
  refine jm_getr (ci := 5) (f := 1) C rfl jw_u_5 M_0 S_0 rfl (by decide) jw_f_RX5_18 dX5_init_55 ?_
  try rw [A_0]
  rw [← A_2]
  refine jm_alenq 4 6 rfl C M_2 rfl S_2 dX5_init_58 ?_
  try rw [A_2]
  refine jm_icmp_ge 81 C dX5_init_59 rfl (by decide) (by decide) (fun c => ?_) (fun c => ?_)
  · exact absurd c (by decide)
  refine jm_aload_n C dX5_init_62 rfl ?_
  rw [← A_0]
  refine jm_getr (ci := 5) (f := 1) C rfl jw_u_5 M_0 S_0 rfl (by decide) jw_f_RX5_18 dX5_init_63 ?_
  try rw [A_0]
  refine jm_iload_n C dX5_init_66 rfl ?_
  refine jm_new (ci := 4) (tm := [none, none, none]) (23) C rfl tyX4 tyX4_ok jw_u_4 jw_L_RX5_16 jw_I_RX4 jw_n_RX4 N_23 (by decide +kernel) ⟨Nat.le_of_ble_eq_true rfl, Nat.le_of_ble_eq_true rfl⟩ dX5_init_67 (fun a_23 => ?_)
  refine jm_gen (fun w23 hw23 => ?_)
  have GG : jm_gr w22 w23 (23) (fun z => z = (23)) := by rw [hw23]; exact jm_gr_ad N_23
  replace A_0 : w23.2.1 (0) = r := (GG.1 _ M_0).2.1.trans A_0
  replace S_0 : w23.2.2 (0) = jm_O 5 [some (.ref a_1), some (.ref a_2), some .null, some .null, none, none, none, none, none] := ((GG.1 _ M_0).2.2 (by decide)).trans S_0
  replace M_0 : (0) ∈ w23.1 := (GG.1 _ M_0).1
  replace A_1 : w23.2.1 (1) = a_1 := (GG.1 _ M_1).2.1.trans A_1
  replace S_1 : w23.2.2 (1) = jm_Qa (E.2.2 3) 3 (va_up (va_up (va_up (fun _ => none) ((0 : Int)).toNat (some a_10)) ((0 + 1 : Int)).toNat (some a_11)) (((0 + 1) + 1 : Int)).toNat (some a_12)) := ((GG.1 _ M_1).2.2 (by decide)).trans S_1
  replace M_1 : (1) ∈ w23.1 := (GG.1 _ M_1).1
  replace X_10 : jm_X1 E w23 (10) := jm_X1_gr X_10 GG (by decide) (by decide)
  replace A_10 : w23.2.1 (10) = a_10 := (GG.1 _ M_10).2.1.trans A_10
  replace M_10 : (10) ∈ w23.1 := (GG.1 _ M_10).1
  replace X_11 : jm_X1 E w23 (11) := jm_X1_gr X_11 GG (by decide) (by decide)
  replace A_11 : w23.2.1 (11) = a_11 := (GG.1 _ M_11).2.1.trans A_11
  replace M_11 : (11) ∈ w23.1 := (GG.1 _ M_11).1
  replace X_12 : jm_X1 E w23 (12) := jm_X1_gr X_12 GG (by decide) (by decide)
  replace A_12 : w23.2.1 (12) = a_12 := (GG.1 _ M_12).2.1.trans A_12
  replace M_12 : (12) ∈ w23.1 := (GG.1 _ M_12).1
  replace A_2 : w23.2.1 (2) = a_2 := (GG.1 _ M_2).2.1.trans A_2
  replace S_2 : w23.2.2 (2) = jm_Qa (E.2.2 4) 6 (va_up (va_up (va_up (fun _ => none) ((0 : Int)).toNat (some a_20)) ((0 + 1 : Int)).toNat (some a_21)) (((0 + 1) + 1 : Int)).toNat (some a_22)) := ((GG.1 _ M_2).2.2 (by decide)).trans S_2
  replace M_2 : (2) ∈ w23.1 := (GG.1 _ M_2).1
  replace X_20 : jm_X4 E w23 (20) := jm_X4_gr X_20 GG (by decide)
  replace A_20 : w23.2.1 (20) = a_20 := (GG.1 _ M_20).2.1.trans A_20
  replace M_20 : (20) ∈ w23.1 := (GG.1 _ M_20).1
  replace X_21 : jm_X4 E w23 (21) := jm_X4_gr X_21 GG (by decide)
  replace A_21 : w23.2.1 (21) = a_21 := (GG.1 _ M_21).2.1.trans A_21
  replace M_21 : (21) ∈ w23.1 := (GG.1 _ M_21).1
  replace X_22 : jm_X4 E w23 (22) := jm_X4_gr X_22 GG (by decide)
  replace A_22 : w23.2.1 (22) = a_22 := (GG.1 _ M_22).2.1.trans A_22
  replace M_22 : (22) ∈ w23.1 := (GG.1 _ M_22).1
  replace N_24 : (24) ∉ w23.1 := fun h => (GG.2 _ h).elim N_24 (fun e => absurd (show (24 : Int) = (23) from e) (by decide))
  replace N_25 : (25) ∉ w23.1 := fun h => (GG.2 _ h).elim N_25 (fun e => absurd (show (25 : Int) = (23) from e) (by decide))
  replace N_3 : (3) ∉ w23.1 := fun h => (GG.2 _ h).elim N_3 (fun e => absurd (show (3 : Int) = (23) from e) (by decide))
  replace N_4 : (4) ∉ w23.1 := fun h => (GG.2 _ h).elim N_4 (fun e => absurd (show (4 : Int) = (23) from e) (by decide))
  replace N_4p100 : (4 + 100) ∉ w23.1 := fun h => (GG.2 _ h).elim N_4p100 (fun e => absurd (show (4 + 100 : Int) = (23) from e) (by decide))
  replace N_4p100p100 : (4 + 100 + 100) ∉ w23.1 := fun h => (GG.2 _ h).elim N_4p100p100 (fun e => absurd (show (4 + 100 + 100 : Int) = (23) from e) (by decide))
  replace GT : jm_gr w w23 (0) (hk_hn) := jm_gr_tr GT GG (fun h => absurd h N0_23) (fun z e => e.elim id (fun e => by have e : z = (23) := e; subst e; exact (show hk_hn _ from by unfold hk_hn; decide)))
  have M_23 : (23) ∈ w23.1 := by rw [hw23]; exact jm_ad_m
  have A_23 : w23.2.1 (23) = a_23 := by rw [hw23]; exact jm_ad_a
  have S_23 : w23.2.2 (23) = jm_O 4 [none, none, none] := by rw [hw23]; exact jm_ad_s
  clear hw23
  refine jm_geni (fun J9 hJ9 => ?_)
  refine jm_dup C dX5_init_70 rfl ?_
  refine jm_cIN (n := 0) [.ref a_23, jm_v (((0 + 1) + 1) + 1), .ref a_2] (host := RX5) jm_XTm (jm_trivX G) C (kX4_init E w23 (J9) (23) a_23 A_23 M_23 S_23  ) jm_n_X4 okX4_init rfl ⟨rfl, rfl⟩ ⟨Nat.le_of_ble_eq_true rfl, Nat.le_of_ble_eq_true rfl⟩ rfl rfl (Nat.le_of_ble_eq_true rfl) dX5_init_71 ⟨Nat.le_of_ble_eq_true rfl, Nat.le_of_ble_eq_true rfl⟩ (fun w24 I24 hh => ?_)
  obtain ⟨GG, XX, hh⟩ := hh
  have hI24 := hh
  clear hh
  replace A_0 : w24.2.1 (0) = r := (GG.1 _ M_0).2.1.trans A_0
  replace S_0 : w24.2.2 (0) = jm_O 5 [some (.ref a_1), some (.ref a_2), some .null, some .null, none, none, none, none, none] := ((GG.1 _ M_0).2.2 (by decide)).trans S_0
  replace M_0 : (0) ∈ w24.1 := (GG.1 _ M_0).1
  replace A_1 : w24.2.1 (1) = a_1 := (GG.1 _ M_1).2.1.trans A_1
  replace S_1 : w24.2.2 (1) = jm_Qa (E.2.2 3) 3 (va_up (va_up (va_up (fun _ => none) ((0 : Int)).toNat (some a_10)) ((0 + 1 : Int)).toNat (some a_11)) (((0 + 1) + 1 : Int)).toNat (some a_12)) := ((GG.1 _ M_1).2.2 (by decide)).trans S_1
  replace M_1 : (1) ∈ w24.1 := (GG.1 _ M_1).1
  replace X_10 : jm_X1 E w24 (10) := jm_X1_gr X_10 GG (by decide) (by decide)
  replace A_10 : w24.2.1 (10) = a_10 := (GG.1 _ M_10).2.1.trans A_10
  replace M_10 : (10) ∈ w24.1 := (GG.1 _ M_10).1
  replace X_11 : jm_X1 E w24 (11) := jm_X1_gr X_11 GG (by decide) (by decide)
  replace A_11 : w24.2.1 (11) = a_11 := (GG.1 _ M_11).2.1.trans A_11
  replace M_11 : (11) ∈ w24.1 := (GG.1 _ M_11).1
  replace X_12 : jm_X1 E w24 (12) := jm_X1_gr X_12 GG (by decide) (by decide)
  replace A_12 : w24.2.1 (12) = a_12 := (GG.1 _ M_12).2.1.trans A_12
  replace M_12 : (12) ∈ w24.1 := (GG.1 _ M_12).1
  replace A_2 : w24.2.1 (2) = a_2 := (GG.1 _ M_2).2.1.trans A_2
  replace S_2 : w24.2.2 (2) = jm_Qa (E.2.2 4) 6 (va_up (va_up (va_up (fun _ => none) ((0 : Int)).toNat (some a_20)) ((0 + 1 : Int)).toNat (some a_21)) (((0 + 1) + 1 : Int)).toNat (some a_22)) := ((GG.1 _ M_2).2.2 (by decide)).trans S_2
  replace M_2 : (2) ∈ w24.1 := (GG.1 _ M_2).1
  replace X_20 : jm_X4 E w24 (20) := jm_X4_gr X_20 GG (by decide)
  replace A_20 : w24.2.1 (20) = a_20 := (GG.1 _ M_20).2.1.trans A_20
  replace M_20 : (20) ∈ w24.1 := (GG.1 _ M_20).1
  replace X_21 : jm_X4 E w24 (21) := jm_X4_gr X_21 GG (by decide)
  replace A_21 : w24.2.1 (21) = a_21 := (GG.1 _ M_21).2.1.trans A_21
  replace M_21 : (21) ∈ w24.1 := (GG.1 _ M_21).1
  replace X_22 : jm_X4 E w24 (22) := jm_X4_gr X_22 GG (by decide)
  replace A_22 : w24.2.1 (22) = a_22 := (GG.1 _ M_22).2.1.trans A_22
  replace M_22 : (22) ∈ w24.1 := (GG.1 _ M_22).1
  replace A_23 : w24.2.1 (23) = a_23 := (GG.1 _ M_23).2.1.trans A_23
  replace M_23 : (23) ∈ w24.1 := (GG.1 _ M_23).1
  replace N_24 : (24) ∉ w24.1 := fun h => (GG.2 _ h).elim N_24 (fun e => e.elim)
  replace N_25 : (25) ∉ w24.1 := fun h => (GG.2 _ h).elim N_25 (fun e => e.elim)
  replace N_3 : (3) ∉ w24.1 := fun h => (GG.2 _ h).elim N_3 (fun e => e.elim)
  replace N_4 : (4) ∉ w24.1 := fun h => (GG.2 _ h).elim N_4 (fun e => e.elim)
  replace N_4p100 : (4 + 100) ∉ w24.1 := fun h => (GG.2 _ h).elim N_4p100 (fun e => e.elim)
  replace N_4p100p100 : (4 + 100 + 100) ∉ w24.1 := fun h => (GG.2 _ h).elim N_4p100p100 (fun e => e.elim)
  replace GT : jm_gr w w24 (0) (hk_hn) := jm_gr_tr GT GG (fun h => absurd h N0_23) (fun z e => e.elim id (fun e => e.elim))
  have X_23 := XX
  rw [← A_2, ← A_23]
  refine jm_aast (t := 4) C M_2 rfl S_2 X_23.1 X_23.2 rfl (by decide) (by decide) (by decide) dX5_init_74 ?_
  try rw [A_2]
  try rw [A_23]
  refine jm_gen (fun w25 hw25 => ?_)
  have GG : jm_gr w24 w25 (2) (fun _ => False) := by rw [hw25]; exact jm_gr_sh
  replace A_0 : w25.2.1 (0) = r := (GG.1 _ M_0).2.1.trans A_0
  replace S_0 : w25.2.2 (0) = jm_O 5 [some (.ref a_1), some (.ref a_2), some .null, some .null, none, none, none, none, none] := ((GG.1 _ M_0).2.2 (by decide)).trans S_0
  replace M_0 : (0) ∈ w25.1 := (GG.1 _ M_0).1
  replace A_1 : w25.2.1 (1) = a_1 := (GG.1 _ M_1).2.1.trans A_1
  replace S_1 : w25.2.2 (1) = jm_Qa (E.2.2 3) 3 (va_up (va_up (va_up (fun _ => none) ((0 : Int)).toNat (some a_10)) ((0 + 1 : Int)).toNat (some a_11)) (((0 + 1) + 1 : Int)).toNat (some a_12)) := ((GG.1 _ M_1).2.2 (by decide)).trans S_1
  replace M_1 : (1) ∈ w25.1 := (GG.1 _ M_1).1
  replace X_10 : jm_X1 E w25 (10) := jm_X1_gr X_10 GG (by decide) (by decide)
  replace A_10 : w25.2.1 (10) = a_10 := (GG.1 _ M_10).2.1.trans A_10
  replace M_10 : (10) ∈ w25.1 := (GG.1 _ M_10).1
  replace X_11 : jm_X1 E w25 (11) := jm_X1_gr X_11 GG (by decide) (by decide)
  replace A_11 : w25.2.1 (11) = a_11 := (GG.1 _ M_11).2.1.trans A_11
  replace M_11 : (11) ∈ w25.1 := (GG.1 _ M_11).1
  replace X_12 : jm_X1 E w25 (12) := jm_X1_gr X_12 GG (by decide) (by decide)
  replace A_12 : w25.2.1 (12) = a_12 := (GG.1 _ M_12).2.1.trans A_12
  replace M_12 : (12) ∈ w25.1 := (GG.1 _ M_12).1
  replace A_2 : w25.2.1 (2) = a_2 := (GG.1 _ M_2).2.1.trans A_2
  replace M_2 : (2) ∈ w25.1 := (GG.1 _ M_2).1
  replace X_20 : jm_X4 E w25 (20) := jm_X4_gr X_20 GG (by decide)
  replace A_20 : w25.2.1 (20) = a_20 := (GG.1 _ M_20).2.1.trans A_20
  replace M_20 : (20) ∈ w25.1 := (GG.1 _ M_20).1
  replace X_21 : jm_X4 E w25 (21) := jm_X4_gr X_21 GG (by decide)
  replace A_21 : w25.2.1 (21) = a_21 := (GG.1 _ M_21).2.1.trans A_21
  replace M_21 : (21) ∈ w25.1 := (GG.1 _ M_21).1
  replace X_22 : jm_X4 E w25 (22) := jm_X4_gr X_22 GG (by decide)
  replace A_22 : w25.2.1 (22) = a_22 := (GG.1 _ M_22).2.1.trans A_22
  replace M_22 : (22) ∈ w25.1 := (GG.1 _ M_22).1
  replace X_23 : jm_X4 E w25 (23) := jm_X4_gr X_23 GG (by decide)
  replace A_23 : w25.2.1 (23) = a_23 := (GG.1 _ M_23).2.1.trans A_23
  replace M_23 : (23) ∈ w25.1 := (GG.1 _ M_23).1
  replace N_24 : (24) ∉ w25.1 := fun h => (GG.2 _ h).elim N_24 (fun e => e.elim)
  replace N_25 : (25) ∉ w25.1 := fun h => (GG.2 _ h).elim N_25 (fun e => e.elim)
  replace N_3 : (3) ∉ w25.1 := fun h => (GG.2 _ h).elim N_3 (fun e => e.elim)
  replace N_4 : (4) ∉ w25.1 := fun h => (GG.2 _ h).elim N_4 (fun e => e.elim)
  replace N_4p100 : (4 + 100) ∉ w25.1 := fun h => (GG.2 _ h).elim N_4p100 (fun e => e.elim)
  replace N_4p100p100 : (4 + 100 + 100) ∉ w25.1 := fun h => (GG.2 _ h).elim N_4p100p100 (fun e => e.elim)
  replace GT : jm_gr w w25 (0) (hk_hn) := jm_gr_tr GT GG (fun h => absurd h N0_2) (fun z e => e.elim id (fun e => e.elim))
  have S_2 : w25.2.2 (2) = jm_Qa (E.2.2 4) 6 (va_up (va_up (va_up (va_up (fun _ => none) ((0 : Int)).toNat (some a_20)) ((0 + 1 : Int)).toNat (some a_21)) (((0 + 1) + 1 : Int)).toNat (some a_22)) ((((0 + 1) + 1) + 1 : Int)).toNat (some a_23)) := by rw [hw25]; exact jm_sh_s
  clear hw25
  refine jm_iinc C dX5_init_75 (by decide) rfl ?_
  refine jm_goto 53 C dX5_init_78 rfl ?_
  refine jm_iload_n C dX5_init_53 rfl ?_
  refine jm_aload_n C dX5_init_54 rfl ?_
  rw [← A_0]
  refine jm_getr (ci := 5) (f := 1) C rfl jw_u_5 M_0 S_0 rfl (by decide) jw_f_RX5_18 dX5_init_55 ?_
  try rw [A_0]
  rw [← A_2]
  refine jm_alenq 4 6 rfl C M_2 rfl S_2 dX5_init_58 ?_
  try rw [A_2]
  refine jm_icmp_ge 81 C dX5_init_59 rfl (by decide) (by decide) (fun c => ?_) (fun c => ?_)
  · exact absurd c (by decide)
  refine jm_aload_n C dX5_init_62 rfl ?_
  rw [← A_0]
  refine jm_getr (ci := 5) (f := 1) C rfl jw_u_5 M_0 S_0 rfl (by decide) jw_f_RX5_18 dX5_init_63 ?_
  try rw [A_0]
  refine jm_iload_n C dX5_init_66 rfl ?_
  refine jm_new (ci := 4) (tm := [none, none, none]) (24) C rfl tyX4 tyX4_ok jw_u_4 jw_L_RX5_16 jw_I_RX4 jw_n_RX4 N_24 (by decide +kernel) ⟨Nat.le_of_ble_eq_true rfl, Nat.le_of_ble_eq_true rfl⟩ dX5_init_67 (fun a_24 => ?_)
  refine jm_gen (fun w26 hw26 => ?_)
  have GG : jm_gr w25 w26 (24) (fun z => z = (24)) := by rw [hw26]; exact jm_gr_ad N_24
  replace A_0 : w26.2.1 (0) = r := (GG.1 _ M_0).2.1.trans A_0
  replace S_0 : w26.2.2 (0) = jm_O 5 [some (.ref a_1), some (.ref a_2), some .null, some .null, none, none, none, none, none] := ((GG.1 _ M_0).2.2 (by decide)).trans S_0
  replace M_0 : (0) ∈ w26.1 := (GG.1 _ M_0).1
  replace A_1 : w26.2.1 (1) = a_1 := (GG.1 _ M_1).2.1.trans A_1
  replace S_1 : w26.2.2 (1) = jm_Qa (E.2.2 3) 3 (va_up (va_up (va_up (fun _ => none) ((0 : Int)).toNat (some a_10)) ((0 + 1 : Int)).toNat (some a_11)) (((0 + 1) + 1 : Int)).toNat (some a_12)) := ((GG.1 _ M_1).2.2 (by decide)).trans S_1
  replace M_1 : (1) ∈ w26.1 := (GG.1 _ M_1).1
  replace X_10 : jm_X1 E w26 (10) := jm_X1_gr X_10 GG (by decide) (by decide)
  replace A_10 : w26.2.1 (10) = a_10 := (GG.1 _ M_10).2.1.trans A_10
  replace M_10 : (10) ∈ w26.1 := (GG.1 _ M_10).1
  replace X_11 : jm_X1 E w26 (11) := jm_X1_gr X_11 GG (by decide) (by decide)
  replace A_11 : w26.2.1 (11) = a_11 := (GG.1 _ M_11).2.1.trans A_11
  replace M_11 : (11) ∈ w26.1 := (GG.1 _ M_11).1
  replace X_12 : jm_X1 E w26 (12) := jm_X1_gr X_12 GG (by decide) (by decide)
  replace A_12 : w26.2.1 (12) = a_12 := (GG.1 _ M_12).2.1.trans A_12
  replace M_12 : (12) ∈ w26.1 := (GG.1 _ M_12).1
  replace A_2 : w26.2.1 (2) = a_2 := (GG.1 _ M_2).2.1.trans A_2
  replace S_2 : w26.2.2 (2) = jm_Qa (E.2.2 4) 6 (va_up (va_up (va_up (va_up (fun _ => none) ((0 : Int)).toNat (some a_20)) ((0 + 1 : Int)).toNat (some a_21)) (((0 + 1) + 1 : Int)).toNat (some a_22)) ((((0 + 1) + 1) + 1 : Int)).toNat (some a_23)) := ((GG.1 _ M_2).2.2 (by decide)).trans S_2
  replace M_2 : (2) ∈ w26.1 := (GG.1 _ M_2).1
  replace X_20 : jm_X4 E w26 (20) := jm_X4_gr X_20 GG (by decide)
  replace A_20 : w26.2.1 (20) = a_20 := (GG.1 _ M_20).2.1.trans A_20
  replace M_20 : (20) ∈ w26.1 := (GG.1 _ M_20).1
  replace X_21 : jm_X4 E w26 (21) := jm_X4_gr X_21 GG (by decide)
  replace A_21 : w26.2.1 (21) = a_21 := (GG.1 _ M_21).2.1.trans A_21
  replace M_21 : (21) ∈ w26.1 := (GG.1 _ M_21).1
  replace X_22 : jm_X4 E w26 (22) := jm_X4_gr X_22 GG (by decide)
  replace A_22 : w26.2.1 (22) = a_22 := (GG.1 _ M_22).2.1.trans A_22
  replace M_22 : (22) ∈ w26.1 := (GG.1 _ M_22).1
  replace X_23 : jm_X4 E w26 (23) := jm_X4_gr X_23 GG (by decide)
  replace A_23 : w26.2.1 (23) = a_23 := (GG.1 _ M_23).2.1.trans A_23
  replace M_23 : (23) ∈ w26.1 := (GG.1 _ M_23).1
  replace N_25 : (25) ∉ w26.1 := fun h => (GG.2 _ h).elim N_25 (fun e => absurd (show (25 : Int) = (24) from e) (by decide))
  replace N_3 : (3) ∉ w26.1 := fun h => (GG.2 _ h).elim N_3 (fun e => absurd (show (3 : Int) = (24) from e) (by decide))
  replace N_4 : (4) ∉ w26.1 := fun h => (GG.2 _ h).elim N_4 (fun e => absurd (show (4 : Int) = (24) from e) (by decide))
  replace N_4p100 : (4 + 100) ∉ w26.1 := fun h => (GG.2 _ h).elim N_4p100 (fun e => absurd (show (4 + 100 : Int) = (24) from e) (by decide))
  replace N_4p100p100 : (4 + 100 + 100) ∉ w26.1 := fun h => (GG.2 _ h).elim N_4p100p100 (fun e => absurd (show (4 + 100 + 100 : Int) = (24) from e) (by decide))
  replace GT : jm_gr w w26 (0) (hk_hn) := jm_gr_tr GT GG (fun h => absurd h N0_24) (fun z e => e.elim id (fun e => by have e : z = (24) := e; subst e; exact (show hk_hn _ from by unfold hk_hn; decide)))
  have M_24 : (24) ∈ w26.1 := by rw [hw26]; exact jm_ad_m
  have A_24 : w26.2.1 (24) = a_24 := by rw [hw26]; exact jm_ad_a
  have S_24 : w26.2.2 (24) = jm_O 4 [none, none, none] := by rw [hw26]; exact jm_ad_s
  clear hw26
  refine jm_geni (fun J10 hJ10 => ?_)
  refine jm_dup C dX5_init_70 rfl ?_
  refine jm_cIN (n := 0) [.ref a_24, jm_v ((((0 + 1) + 1) + 1) + 1), .ref a_2] (host := RX5) jm_XTm (jm_trivX G) C (kX4_init E w26 (J10) (24) a_24 A_24 M_24 S_24  ) jm_n_X4 okX4_init rfl ⟨rfl, rfl⟩ ⟨Nat.le_of_ble_eq_true rfl, Nat.le_of_ble_eq_true rfl⟩ rfl rfl (Nat.le_of_ble_eq_true rfl) dX5_init_71 ⟨Nat.le_of_ble_eq_true rfl, Nat.le_of_ble_eq_true rfl⟩ (fun w27 I27 hh => ?_)
  obtain ⟨GG, XX, hh⟩ := hh
  have hI27 := hh
  clear hh
  replace A_0 : w27.2.1 (0) = r := (GG.1 _ M_0).2.1.trans A_0
  replace S_0 : w27.2.2 (0) = jm_O 5 [some (.ref a_1), some (.ref a_2), some .null, some .null, none, none, none, none, none] := ((GG.1 _ M_0).2.2 (by decide)).trans S_0
  replace M_0 : (0) ∈ w27.1 := (GG.1 _ M_0).1
  replace A_1 : w27.2.1 (1) = a_1 := (GG.1 _ M_1).2.1.trans A_1
  replace S_1 : w27.2.2 (1) = jm_Qa (E.2.2 3) 3 (va_up (va_up (va_up (fun _ => none) ((0 : Int)).toNat (some a_10)) ((0 + 1 : Int)).toNat (some a_11)) (((0 + 1) + 1 : Int)).toNat (some a_12)) := ((GG.1 _ M_1).2.2 (by decide)).trans S_1
  replace M_1 : (1) ∈ w27.1 := (GG.1 _ M_1).1
  replace X_10 : jm_X1 E w27 (10) := jm_X1_gr X_10 GG (by decide) (by decide)
  replace A_10 : w27.2.1 (10) = a_10 := (GG.1 _ M_10).2.1.trans A_10
  replace M_10 : (10) ∈ w27.1 := (GG.1 _ M_10).1
  replace X_11 : jm_X1 E w27 (11) := jm_X1_gr X_11 GG (by decide) (by decide)
  replace A_11 : w27.2.1 (11) = a_11 := (GG.1 _ M_11).2.1.trans A_11
  replace M_11 : (11) ∈ w27.1 := (GG.1 _ M_11).1
  replace X_12 : jm_X1 E w27 (12) := jm_X1_gr X_12 GG (by decide) (by decide)
  replace A_12 : w27.2.1 (12) = a_12 := (GG.1 _ M_12).2.1.trans A_12
  replace M_12 : (12) ∈ w27.1 := (GG.1 _ M_12).1
  replace A_2 : w27.2.1 (2) = a_2 := (GG.1 _ M_2).2.1.trans A_2
  replace S_2 : w27.2.2 (2) = jm_Qa (E.2.2 4) 6 (va_up (va_up (va_up (va_up (fun _ => none) ((0 : Int)).toNat (some a_20)) ((0 + 1 : Int)).toNat (some a_21)) (((0 + 1) + 1 : Int)).toNat (some a_22)) ((((0 + 1) + 1) + 1 : Int)).toNat (some a_23)) := ((GG.1 _ M_2).2.2 (by decide)).trans S_2
  replace M_2 : (2) ∈ w27.1 := (GG.1 _ M_2).1
  replace X_20 : jm_X4 E w27 (20) := jm_X4_gr X_20 GG (by decide)
  replace A_20 : w27.2.1 (20) = a_20 := (GG.1 _ M_20).2.1.trans A_20
  replace M_20 : (20) ∈ w27.1 := (GG.1 _ M_20).1
  replace X_21 : jm_X4 E w27 (21) := jm_X4_gr X_21 GG (by decide)
  replace A_21 : w27.2.1 (21) = a_21 := (GG.1 _ M_21).2.1.trans A_21
  replace M_21 : (21) ∈ w27.1 := (GG.1 _ M_21).1
  replace X_22 : jm_X4 E w27 (22) := jm_X4_gr X_22 GG (by decide)
  replace A_22 : w27.2.1 (22) = a_22 := (GG.1 _ M_22).2.1.trans A_22
  replace M_22 : (22) ∈ w27.1 := (GG.1 _ M_22).1
  replace X_23 : jm_X4 E w27 (23) := jm_X4_gr X_23 GG (by decide)
  replace A_23 : w27.2.1 (23) = a_23 := (GG.1 _ M_23).2.1.trans A_23
  replace M_23 : (23) ∈ w27.1 := (GG.1 _ M_23).1
  replace A_24 : w27.2.1 (24) = a_24 := (GG.1 _ M_24).2.1.trans A_24
  replace M_24 : (24) ∈ w27.1 := (GG.1 _ M_24).1
  replace N_25 : (25) ∉ w27.1 := fun h => (GG.2 _ h).elim N_25 (fun e => e.elim)
  replace N_3 : (3) ∉ w27.1 := fun h => (GG.2 _ h).elim N_3 (fun e => e.elim)
  replace N_4 : (4) ∉ w27.1 := fun h => (GG.2 _ h).elim N_4 (fun e => e.elim)
  replace N_4p100 : (4 + 100) ∉ w27.1 := fun h => (GG.2 _ h).elim N_4p100 (fun e => e.elim)
  replace N_4p100p100 : (4 + 100 + 100) ∉ w27.1 := fun h => (GG.2 _ h).elim N_4p100p100 (fun e => e.elim)
  replace GT : jm_gr w w27 (0) (hk_hn) := jm_gr_tr GT GG (fun h => absurd h N0_24) (fun z e => e.elim id (fun e => e.elim))
  have X_24 := XX
  rw [← A_2, ← A_24]
  refine jm_aast (t := 4) C M_2 rfl S_2 X_24.1 X_24.2 rfl (by decide) (by decide) (by decide) dX5_init_74 ?_
  try rw [A_2]
  try rw [A_24]
  refine jm_gen (fun w28 hw28 => ?_)
  have GG : jm_gr w27 w28 (2) (fun _ => False) := by rw [hw28]; exact jm_gr_sh
  replace A_0 : w28.2.1 (0) = r := (GG.1 _ M_0).2.1.trans A_0
  replace S_0 : w28.2.2 (0) = jm_O 5 [some (.ref a_1), some (.ref a_2), some .null, some .null, none, none, none, none, none] := ((GG.1 _ M_0).2.2 (by decide)).trans S_0
  replace M_0 : (0) ∈ w28.1 := (GG.1 _ M_0).1
  replace A_1 : w28.2.1 (1) = a_1 := (GG.1 _ M_1).2.1.trans A_1
  replace S_1 : w28.2.2 (1) = jm_Qa (E.2.2 3) 3 (va_up (va_up (va_up (fun _ => none) ((0 : Int)).toNat (some a_10)) ((0 + 1 : Int)).toNat (some a_11)) (((0 + 1) + 1 : Int)).toNat (some a_12)) := ((GG.1 _ M_1).2.2 (by decide)).trans S_1
  replace M_1 : (1) ∈ w28.1 := (GG.1 _ M_1).1
  replace X_10 : jm_X1 E w28 (10) := jm_X1_gr X_10 GG (by decide) (by decide)
  replace A_10 : w28.2.1 (10) = a_10 := (GG.1 _ M_10).2.1.trans A_10
  replace M_10 : (10) ∈ w28.1 := (GG.1 _ M_10).1
  replace X_11 : jm_X1 E w28 (11) := jm_X1_gr X_11 GG (by decide) (by decide)
  replace A_11 : w28.2.1 (11) = a_11 := (GG.1 _ M_11).2.1.trans A_11
  replace M_11 : (11) ∈ w28.1 := (GG.1 _ M_11).1
  replace X_12 : jm_X1 E w28 (12) := jm_X1_gr X_12 GG (by decide) (by decide)
  replace A_12 : w28.2.1 (12) = a_12 := (GG.1 _ M_12).2.1.trans A_12
  replace M_12 : (12) ∈ w28.1 := (GG.1 _ M_12).1
  replace A_2 : w28.2.1 (2) = a_2 := (GG.1 _ M_2).2.1.trans A_2
  replace M_2 : (2) ∈ w28.1 := (GG.1 _ M_2).1
  replace X_20 : jm_X4 E w28 (20) := jm_X4_gr X_20 GG (by decide)
  replace A_20 : w28.2.1 (20) = a_20 := (GG.1 _ M_20).2.1.trans A_20
  replace M_20 : (20) ∈ w28.1 := (GG.1 _ M_20).1
  replace X_21 : jm_X4 E w28 (21) := jm_X4_gr X_21 GG (by decide)
  replace A_21 : w28.2.1 (21) = a_21 := (GG.1 _ M_21).2.1.trans A_21
  replace M_21 : (21) ∈ w28.1 := (GG.1 _ M_21).1
  replace X_22 : jm_X4 E w28 (22) := jm_X4_gr X_22 GG (by decide)
  replace A_22 : w28.2.1 (22) = a_22 := (GG.1 _ M_22).2.1.trans A_22
  replace M_22 : (22) ∈ w28.1 := (GG.1 _ M_22).1
  replace X_23 : jm_X4 E w28 (23) := jm_X4_gr X_23 GG (by decide)
  replace A_23 : w28.2.1 (23) = a_23 := (GG.1 _ M_23).2.1.trans A_23
  replace M_23 : (23) ∈ w28.1 := (GG.1 _ M_23).1
  replace X_24 : jm_X4 E w28 (24) := jm_X4_gr X_24 GG (by decide)
  replace A_24 : w28.2.1 (24) = a_24 := (GG.1 _ M_24).2.1.trans A_24
  replace M_24 : (24) ∈ w28.1 := (GG.1 _ M_24).1
  replace N_25 : (25) ∉ w28.1 := fun h => (GG.2 _ h).elim N_25 (fun e => e.elim)
  replace N_3 : (3) ∉ w28.1 := fun h => (GG.2 _ h).elim N_3 (fun e => e.elim)
  replace N_4 : (4) ∉ w28.1 := fun h => (GG.2 _ h).elim N_4 (fun e => e.elim)
  replace N_4p100 : (4 + 100) ∉ w28.1 := fun h => (GG.2 _ h).elim N_4p100 (fun e => e.elim)
  replace N_4p100p100 : (4 + 100 + 100) ∉ w28.1 := fun h => (GG.2 _ h).elim N_4p100p100 (fun e => e.elim)
  replace GT : jm_gr w w28 (0) (hk_hn) := jm_gr_tr GT GG (fun h => absurd h N0_2) (fun z e => e.elim id (fun e => e.elim))
  have S_2 : w28.2.2 (2) = jm_Qa (E.2.2 4) 6 (va_up (va_up (va_up (va_up (va_up (fun _ => none) ((0 : Int)).toNat (some a_20)) ((0 + 1 : Int)).toNat (some a_21)) (((0 + 1) + 1 : Int)).toNat (some a_22)) ((((0 + 1) + 1) + 1 : Int)).toNat (some a_23)) (((((0 + 1) + 1) + 1) + 1 : Int)).toNat (some a_24)) := by rw [hw28]; exact jm_sh_s
  clear hw28
  refine jm_iinc C dX5_init_75 (by decide) rfl ?_
  refine jm_goto 53 C dX5_init_78 rfl ?_
  refine jm_iload_n C dX5_init_53 rfl ?_
  refine jm_aload_n C dX5_init_54 rfl ?_
  rw [← A_0]
  refine jm_getr (ci := 5) (f := 1) C rfl jw_u_5 M_0 S_0 rfl (by decide) jw_f_RX5_18 dX5_init_55 ?_
  try rw [A_0]
  rw [← A_2]
  refine jm_alenq 4 6 rfl C M_2 rfl S_2 dX5_init_58 ?_
  try rw [A_2]
  refine jm_icmp_ge 81 C dX5_init_59 rfl (by decide) (by decide) (fun c => ?_) (fun c => ?_)
  · exact absurd c (by decide)
  refine jm_aload_n C dX5_init_62 rfl ?_
  rw [← A_0]
  refine jm_getr (ci := 5) (f := 1) C rfl jw_u_5 M_0 S_0 rfl (by decide) jw_f_RX5_18 dX5_init_63 ?_
  try rw [A_0]
  refine jm_iload_n C dX5_init_66 rfl ?_
  refine jm_new (ci := 4) (tm := [none, none, none]) (25) C rfl tyX4 tyX4_ok jw_u_4 jw_L_RX5_16 jw_I_RX4 jw_n_RX4 N_25 (by decide +kernel) ⟨Nat.le_of_ble_eq_true rfl, Nat.le_of_ble_eq_true rfl⟩ dX5_init_67 (fun a_25 => ?_)
  refine jm_gen (fun w29 hw29 => ?_)
  have GG : jm_gr w28 w29 (25) (fun z => z = (25)) := by rw [hw29]; exact jm_gr_ad N_25
  replace A_0 : w29.2.1 (0) = r := (GG.1 _ M_0).2.1.trans A_0
  replace S_0 : w29.2.2 (0) = jm_O 5 [some (.ref a_1), some (.ref a_2), some .null, some .null, none, none, none, none, none] := ((GG.1 _ M_0).2.2 (by decide)).trans S_0
  replace M_0 : (0) ∈ w29.1 := (GG.1 _ M_0).1
  replace A_1 : w29.2.1 (1) = a_1 := (GG.1 _ M_1).2.1.trans A_1
  replace S_1 : w29.2.2 (1) = jm_Qa (E.2.2 3) 3 (va_up (va_up (va_up (fun _ => none) ((0 : Int)).toNat (some a_10)) ((0 + 1 : Int)).toNat (some a_11)) (((0 + 1) + 1 : Int)).toNat (some a_12)) := ((GG.1 _ M_1).2.2 (by decide)).trans S_1
  replace M_1 : (1) ∈ w29.1 := (GG.1 _ M_1).1
  replace X_10 : jm_X1 E w29 (10) := jm_X1_gr X_10 GG (by decide) (by decide)
  replace A_10 : w29.2.1 (10) = a_10 := (GG.1 _ M_10).2.1.trans A_10
  replace M_10 : (10) ∈ w29.1 := (GG.1 _ M_10).1
  replace X_11 : jm_X1 E w29 (11) := jm_X1_gr X_11 GG (by decide) (by decide)
  replace A_11 : w29.2.1 (11) = a_11 := (GG.1 _ M_11).2.1.trans A_11
  replace M_11 : (11) ∈ w29.1 := (GG.1 _ M_11).1
  replace X_12 : jm_X1 E w29 (12) := jm_X1_gr X_12 GG (by decide) (by decide)
  replace A_12 : w29.2.1 (12) = a_12 := (GG.1 _ M_12).2.1.trans A_12
  replace M_12 : (12) ∈ w29.1 := (GG.1 _ M_12).1
  replace A_2 : w29.2.1 (2) = a_2 := (GG.1 _ M_2).2.1.trans A_2
  replace S_2 : w29.2.2 (2) = jm_Qa (E.2.2 4) 6 (va_up (va_up (va_up (va_up (va_up (fun _ => none) ((0 : Int)).toNat (some a_20)) ((0 + 1 : Int)).toNat (some a_21)) (((0 + 1) + 1 : Int)).toNat (some a_22)) ((((0 + 1) + 1) + 1 : Int)).toNat (some a_23)) (((((0 + 1) + 1) + 1) + 1 : Int)).toNat (some a_24)) := ((GG.1 _ M_2).2.2 (by decide)).trans S_2
  replace M_2 : (2) ∈ w29.1 := (GG.1 _ M_2).1
  replace X_20 : jm_X4 E w29 (20) := jm_X4_gr X_20 GG (by decide)
  replace A_20 : w29.2.1 (20) = a_20 := (GG.1 _ M_20).2.1.trans A_20
  replace M_20 : (20) ∈ w29.1 := (GG.1 _ M_20).1
  replace X_21 : jm_X4 E w29 (21) := jm_X4_gr X_21 GG (by decide)
  replace A_21 : w29.2.1 (21) = a_21 := (GG.1 _ M_21).2.1.trans A_21
  replace M_21 : (21) ∈ w29.1 := (GG.1 _ M_21).1
  replace X_22 : jm_X4 E w29 (22) := jm_X4_gr X_22 GG (by decide)
  replace A_22 : w29.2.1 (22) = a_22 := (GG.1 _ M_22).2.1.trans A_22
  replace M_22 : (22) ∈ w29.1 := (GG.1 _ M_22).1
  replace X_23 : jm_X4 E w29 (23) := jm_X4_gr X_23 GG (by decide)
  replace A_23 : w29.2.1 (23) = a_23 := (GG.1 _ M_23).2.1.trans A_23
  replace M_23 : (23) ∈ w29.1 := (GG.1 _ M_23).1
  replace X_24 : jm_X4 E w29 (24) := jm_X4_gr X_24 GG (by decide)
  replace A_24 : w29.2.1 (24) = a_24 := (GG.1 _ M_24).2.1.trans A_24
  replace M_24 : (24) ∈ w29.1 := (GG.1 _ M_24).1
  replace N_3 : (3) ∉ w29.1 := fun h => (GG.2 _ h).elim N_3 (fun e => absurd (show (3 : Int) = (25) from e) (by decide))
  replace N_4 : (4) ∉ w29.1 := fun h => (GG.2 _ h).elim N_4 (fun e => absurd (show (4 : Int) = (25) from e) (by decide))
  replace N_4p100 : (4 + 100) ∉ w29.1 := fun h => (GG.2 _ h).elim N_4p100 (fun e => absurd (show (4 + 100 : Int) = (25) from e) (by decide))
  replace N_4p100p100 : (4 + 100 + 100) ∉ w29.1 := fun h => (GG.2 _ h).elim N_4p100p100 (fun e => absurd (show (4 + 100 + 100 : Int) = (25) from e) (by decide))
  replace GT : jm_gr w w29 (0) (hk_hn) := jm_gr_tr GT GG (fun h => absurd h N0_25) (fun z e => e.elim id (fun e => by have e : z = (25) := e; subst e; exact (show hk_hn _ from by unfold hk_hn; decide)))
  have M_25 : (25) ∈ w29.1 := by rw [hw29]; exact jm_ad_m
  have A_25 : w29.2.1 (25) = a_25 := by rw [hw29]; exact jm_ad_a
  have S_25 : w29.2.2 (25) = jm_O 4 [none, none, none] := by rw [hw29]; exact jm_ad_s
  clear hw29
  refine jm_geni (fun J11 hJ11 => ?_)
  refine jm_dup C dX5_init_70 rfl ?_
  refine jm_cIN (n := 0) [.ref a_25, jm_v (((((0 + 1) + 1) + 1) + 1) + 1), .ref a_2] (host := RX5) jm_XTm (jm_trivX G) C (kX4_init E w29 (J11) (25) a_25 A_25 M_25 S_25  ) jm_n_X4 okX4_init rfl ⟨rfl, rfl⟩ ⟨Nat.le_of_ble_eq_true rfl, Nat.le_of_ble_eq_true rfl⟩ rfl rfl (Nat.le_of_ble_eq_true rfl) dX5_init_71 ⟨Nat.le_of_ble_eq_true rfl, Nat.le_of_ble_eq_true rfl⟩ (fun w30 I30 hh => ?_)
  obtain ⟨GG, XX, hh⟩ := hh
  have hI30 := hh
  clear hh
  replace A_0 : w30.2.1 (0) = r := (GG.1 _ M_0).2.1.trans A_0
  replace S_0 : w30.2.2 (0) = jm_O 5 [some (.ref a_1), some (.ref a_2), some .null, some .null, none, none, none, none, none] := ((GG.1 _ M_0).2.2 (by decide)).trans S_0
  replace M_0 : (0) ∈ w30.1 := (GG.1 _ M_0).1
  replace A_1 : w30.2.1 (1) = a_1 := (GG.1 _ M_1).2.1.trans A_1
  replace S_1 : w30.2.2 (1) = jm_Qa (E.2.2 3) 3 (va_up (va_up (va_up (fun _ => none) ((0 : Int)).toNat (some a_10)) ((0 + 1 : Int)).toNat (some a_11)) (((0 + 1) + 1 : Int)).toNat (some a_12)) := ((GG.1 _ M_1).2.2 (by decide)).trans S_1
  replace M_1 : (1) ∈ w30.1 := (GG.1 _ M_1).1
  replace X_10 : jm_X1 E w30 (10) := jm_X1_gr X_10 GG (by decide) (by decide)
  replace A_10 : w30.2.1 (10) = a_10 := (GG.1 _ M_10).2.1.trans A_10
  replace M_10 : (10) ∈ w30.1 := (GG.1 _ M_10).1
  replace X_11 : jm_X1 E w30 (11) := jm_X1_gr X_11 GG (by decide) (by decide)
  replace A_11 : w30.2.1 (11) = a_11 := (GG.1 _ M_11).2.1.trans A_11
  replace M_11 : (11) ∈ w30.1 := (GG.1 _ M_11).1
  replace X_12 : jm_X1 E w30 (12) := jm_X1_gr X_12 GG (by decide) (by decide)
  replace A_12 : w30.2.1 (12) = a_12 := (GG.1 _ M_12).2.1.trans A_12
  replace M_12 : (12) ∈ w30.1 := (GG.1 _ M_12).1
  replace A_2 : w30.2.1 (2) = a_2 := (GG.1 _ M_2).2.1.trans A_2
  replace S_2 : w30.2.2 (2) = jm_Qa (E.2.2 4) 6 (va_up (va_up (va_up (va_up (va_up (fun _ => none) ((0 : Int)).toNat (some a_20)) ((0 + 1 : Int)).toNat (some a_21)) (((0 + 1) + 1 : Int)).toNat (some a_22)) ((((0 + 1) + 1) + 1 : Int)).toNat (some a_23)) (((((0 + 1) + 1) + 1) + 1 : Int)).toNat (some a_24)) := ((GG.1 _ M_2).2.2 (by decide)).trans S_2
  replace M_2 : (2) ∈ w30.1 := (GG.1 _ M_2).1
  replace X_20 : jm_X4 E w30 (20) := jm_X4_gr X_20 GG (by decide)
  replace A_20 : w30.2.1 (20) = a_20 := (GG.1 _ M_20).2.1.trans A_20
  replace M_20 : (20) ∈ w30.1 := (GG.1 _ M_20).1
  replace X_21 : jm_X4 E w30 (21) := jm_X4_gr X_21 GG (by decide)
  replace A_21 : w30.2.1 (21) = a_21 := (GG.1 _ M_21).2.1.trans A_21
  replace M_21 : (21) ∈ w30.1 := (GG.1 _ M_21).1
  replace X_22 : jm_X4 E w30 (22) := jm_X4_gr X_22 GG (by decide)
  replace A_22 : w30.2.1 (22) = a_22 := (GG.1 _ M_22).2.1.trans A_22
  replace M_22 : (22) ∈ w30.1 := (GG.1 _ M_22).1
  replace X_23 : jm_X4 E w30 (23) := jm_X4_gr X_23 GG (by decide)
  replace A_23 : w30.2.1 (23) = a_23 := (GG.1 _ M_23).2.1.trans A_23
  replace M_23 : (23) ∈ w30.1 := (GG.1 _ M_23).1
  replace X_24 : jm_X4 E w30 (24) := jm_X4_gr X_24 GG (by decide)
  replace A_24 : w30.2.1 (24) = a_24 := (GG.1 _ M_24).2.1.trans A_24
  replace M_24 : (24) ∈ w30.1 := (GG.1 _ M_24).1
  replace A_25 : w30.2.1 (25) = a_25 := (GG.1 _ M_25).2.1.trans A_25
  replace M_25 : (25) ∈ w30.1 := (GG.1 _ M_25).1
  replace N_3 : (3) ∉ w30.1 := fun h => (GG.2 _ h).elim N_3 (fun e => e.elim)
  replace N_4 : (4) ∉ w30.1 := fun h => (GG.2 _ h).elim N_4 (fun e => e.elim)
  replace N_4p100 : (4 + 100) ∉ w30.1 := fun h => (GG.2 _ h).elim N_4p100 (fun e => e.elim)
  replace N_4p100p100 : (4 + 100 + 100) ∉ w30.1 := fun h => (GG.2 _ h).elim N_4p100p100 (fun e => e.elim)
  replace GT : jm_gr w w30 (0) (hk_hn) := jm_gr_tr GT GG (fun h => absurd h N0_25) (fun z e => e.elim id (fun e => e.elim))
  have X_25 := XX
  rw [← A_2, ← A_25]
  refine jm_aast (t := 4) C M_2 rfl S_2 X_25.1 X_25.2 rfl (by decide) (by decide) (by decide) dX5_init_74 ?_
  try rw [A_2]
  try rw [A_25]
  refine jm_gen (fun w31 hw31 => ?_)
  have GG : jm_gr w30 w31 (2) (fun _ => False) := by rw [hw31]; exact jm_gr_sh
  replace A_0 : w31.2.1 (0) = r := (GG.1 _ M_0).2.1.trans A_0
  replace S_0 : w31.2.2 (0) = jm_O 5 [some (.ref a_1), some (.ref a_2), some .null, some .null, none, none, none, none, none] := ((GG.1 _ M_0).2.2 (by decide)).trans S_0
  replace M_0 : (0) ∈ w31.1 := (GG.1 _ M_0).1
  replace A_1 : w31.2.1 (1) = a_1 := (GG.1 _ M_1).2.1.trans A_1
  replace S_1 : w31.2.2 (1) = jm_Qa (E.2.2 3) 3 (va_up (va_up (va_up (fun _ => none) ((0 : Int)).toNat (some a_10)) ((0 + 1 : Int)).toNat (some a_11)) (((0 + 1) + 1 : Int)).toNat (some a_12)) := ((GG.1 _ M_1).2.2 (by decide)).trans S_1
  replace M_1 : (1) ∈ w31.1 := (GG.1 _ M_1).1
  replace X_10 : jm_X1 E w31 (10) := jm_X1_gr X_10 GG (by decide) (by decide)
  replace A_10 : w31.2.1 (10) = a_10 := (GG.1 _ M_10).2.1.trans A_10
  replace M_10 : (10) ∈ w31.1 := (GG.1 _ M_10).1
  replace X_11 : jm_X1 E w31 (11) := jm_X1_gr X_11 GG (by decide) (by decide)
  replace A_11 : w31.2.1 (11) = a_11 := (GG.1 _ M_11).2.1.trans A_11
  replace M_11 : (11) ∈ w31.1 := (GG.1 _ M_11).1
  replace X_12 : jm_X1 E w31 (12) := jm_X1_gr X_12 GG (by decide) (by decide)
  replace A_12 : w31.2.1 (12) = a_12 := (GG.1 _ M_12).2.1.trans A_12
  replace M_12 : (12) ∈ w31.1 := (GG.1 _ M_12).1
  replace A_2 : w31.2.1 (2) = a_2 := (GG.1 _ M_2).2.1.trans A_2
  replace M_2 : (2) ∈ w31.1 := (GG.1 _ M_2).1
  replace X_20 : jm_X4 E w31 (20) := jm_X4_gr X_20 GG (by decide)
  replace A_20 : w31.2.1 (20) = a_20 := (GG.1 _ M_20).2.1.trans A_20
  replace M_20 : (20) ∈ w31.1 := (GG.1 _ M_20).1
  replace X_21 : jm_X4 E w31 (21) := jm_X4_gr X_21 GG (by decide)
  replace A_21 : w31.2.1 (21) = a_21 := (GG.1 _ M_21).2.1.trans A_21
  replace M_21 : (21) ∈ w31.1 := (GG.1 _ M_21).1
  replace X_22 : jm_X4 E w31 (22) := jm_X4_gr X_22 GG (by decide)
  replace A_22 : w31.2.1 (22) = a_22 := (GG.1 _ M_22).2.1.trans A_22
  replace M_22 : (22) ∈ w31.1 := (GG.1 _ M_22).1
  replace X_23 : jm_X4 E w31 (23) := jm_X4_gr X_23 GG (by decide)
  replace A_23 : w31.2.1 (23) = a_23 := (GG.1 _ M_23).2.1.trans A_23
  replace M_23 : (23) ∈ w31.1 := (GG.1 _ M_23).1
  replace X_24 : jm_X4 E w31 (24) := jm_X4_gr X_24 GG (by decide)
  replace A_24 : w31.2.1 (24) = a_24 := (GG.1 _ M_24).2.1.trans A_24
  replace M_24 : (24) ∈ w31.1 := (GG.1 _ M_24).1
  replace X_25 : jm_X4 E w31 (25) := jm_X4_gr X_25 GG (by decide)
  replace A_25 : w31.2.1 (25) = a_25 := (GG.1 _ M_25).2.1.trans A_25
  replace M_25 : (25) ∈ w31.1 := (GG.1 _ M_25).1
  replace N_3 : (3) ∉ w31.1 := fun h => (GG.2 _ h).elim N_3 (fun e => e.elim)
  replace N_4 : (4) ∉ w31.1 := fun h => (GG.2 _ h).elim N_4 (fun e => e.elim)
  replace N_4p100 : (4 + 100) ∉ w31.1 := fun h => (GG.2 _ h).elim N_4p100 (fun e => e.elim)
  replace N_4p100p100 : (4 + 100 + 100) ∉ w31.1 := fun h => (GG.2 _ h).elim N_4p100p100 (fun e => e.elim)
  replace GT : jm_gr w w31 (0) (hk_hn) := jm_gr_tr GT GG (fun h => absurd h N0_2) (fun z e => e.elim id (fun e => e.elim))
  have S_2 : w31.2.2 (2) = jm_Qa (E.2.2 4) 6 (va_up (va_up (va_up (va_up (va_up (va_up (fun _ => none) ((0 : Int)).toNat (some a_20)) ((0 + 1 : Int)).toNat (some a_21)) (((0 + 1) + 1 : Int)).toNat (some a_22)) ((((0 + 1) + 1) + 1 : Int)).toNat (some a_23)) (((((0 + 1) + 1) + 1) + 1 : Int)).toNat (some a_24)) ((((((0 + 1) + 1) + 1) + 1) + 1 : Int)).toNat (some a_25)) := by rw [hw31]; exact jm_sh_s
  clear hw31
  refine jm_iinc C dX5_init_75 (by decide) rfl ?_
  refine jm_goto 53 C dX5_init_78 rfl ?_
  refine jm_iload_n C dX5_init_53 rfl ?_
  refine jm_aload_n C dX5_init_54 rfl ?_
  rw [← A_0]
  refine jm_getr (ci := 5) (f := 1) C rfl jw_u_5 M_0 S_0 rfl (by decide) jw_f_RX5_18 dX5_init_55 ?_
  try rw [A_0]
  rw [← A_2]
  refine jm_alenq 4 6 rfl C M_2 rfl S_2 dX5_init_58 ?_
  try rw [A_2]
  refine jm_icmp_ge 81 C dX5_init_59 rfl (by decide) (by decide) (fun c => ?_) (fun c => ?_)
  rotate_left
  · exact absurd (show _ from by decide) c
  refine jm_aload_n C dX5_init_81 rfl ?_
  refine jm_bipush C dX5_init_82 (by decide +kernel) ?_
  refine jm_newq 5 12 (3) (by decide) (by decide) C rfl jw_L_RX5_23 hAO.2.2 N_3 ⟨Nat.le_of_ble_eq_true rfl, Nat.le_of_ble_eq_true rfl⟩ dX5_init_84 (fun a_3 => ?_)
  refine jm_gen (fun w32 hw32 => ?_)
  have GG : jm_gr w31 w32 (3) (fun z => z = (3)) := by rw [hw32]; exact jm_gr_ad N_3
  replace A_0 : w32.2.1 (0) = r := (GG.1 _ M_0).2.1.trans A_0
  replace S_0 : w32.2.2 (0) = jm_O 5 [some (.ref a_1), some (.ref a_2), some .null, some .null, none, none, none, none, none] := ((GG.1 _ M_0).2.2 (by decide)).trans S_0
  replace M_0 : (0) ∈ w32.1 := (GG.1 _ M_0).1
  replace A_1 : w32.2.1 (1) = a_1 := (GG.1 _ M_1).2.1.trans A_1
  replace S_1 : w32.2.2 (1) = jm_Qa (E.2.2 3) 3 (va_up (va_up (va_up (fun _ => none) ((0 : Int)).toNat (some a_10)) ((0 + 1 : Int)).toNat (some a_11)) (((0 + 1) + 1 : Int)).toNat (some a_12)) := ((GG.1 _ M_1).2.2 (by decide)).trans S_1
  replace M_1 : (1) ∈ w32.1 := (GG.1 _ M_1).1
  replace X_10 : jm_X1 E w32 (10) := jm_X1_gr X_10 GG (by decide) (by decide)
  replace A_10 : w32.2.1 (10) = a_10 := (GG.1 _ M_10).2.1.trans A_10
  replace M_10 : (10) ∈ w32.1 := (GG.1 _ M_10).1
  replace X_11 : jm_X1 E w32 (11) := jm_X1_gr X_11 GG (by decide) (by decide)
  replace A_11 : w32.2.1 (11) = a_11 := (GG.1 _ M_11).2.1.trans A_11
  replace M_11 : (11) ∈ w32.1 := (GG.1 _ M_11).1
  replace X_12 : jm_X1 E w32 (12) := jm_X1_gr X_12 GG (by decide) (by decide)
  replace A_12 : w32.2.1 (12) = a_12 := (GG.1 _ M_12).2.1.trans A_12
  replace M_12 : (12) ∈ w32.1 := (GG.1 _ M_12).1
  replace A_2 : w32.2.1 (2) = a_2 := (GG.1 _ M_2).2.1.trans A_2
  replace S_2 : w32.2.2 (2) = jm_Qa (E.2.2 4) 6 (va_up (va_up (va_up (va_up (va_up (va_up (fun _ => none) ((0 : Int)).toNat (some a_20)) ((0 + 1 : Int)).toNat (some a_21)) (((0 + 1) + 1 : Int)).toNat (some a_22)) ((((0 + 1) + 1) + 1 : Int)).toNat (some a_23)) (((((0 + 1) + 1) + 1) + 1 : Int)).toNat (some a_24)) ((((((0 + 1) + 1) + 1) + 1) + 1 : Int)).toNat (some a_25)) := ((GG.1 _ M_2).2.2 (by decide)).trans S_2
  replace M_2 : (2) ∈ w32.1 := (GG.1 _ M_2).1
  replace X_20 : jm_X4 E w32 (20) := jm_X4_gr X_20 GG (by decide)
  replace A_20 : w32.2.1 (20) = a_20 := (GG.1 _ M_20).2.1.trans A_20
  replace M_20 : (20) ∈ w32.1 := (GG.1 _ M_20).1
  replace X_21 : jm_X4 E w32 (21) := jm_X4_gr X_21 GG (by decide)
  replace A_21 : w32.2.1 (21) = a_21 := (GG.1 _ M_21).2.1.trans A_21
  replace M_21 : (21) ∈ w32.1 := (GG.1 _ M_21).1
  replace X_22 : jm_X4 E w32 (22) := jm_X4_gr X_22 GG (by decide)
  replace A_22 : w32.2.1 (22) = a_22 := (GG.1 _ M_22).2.1.trans A_22
  replace M_22 : (22) ∈ w32.1 := (GG.1 _ M_22).1
  replace X_23 : jm_X4 E w32 (23) := jm_X4_gr X_23 GG (by decide)
  replace A_23 : w32.2.1 (23) = a_23 := (GG.1 _ M_23).2.1.trans A_23
  replace M_23 : (23) ∈ w32.1 := (GG.1 _ M_23).1
  replace X_24 : jm_X4 E w32 (24) := jm_X4_gr X_24 GG (by decide)
  replace A_24 : w32.2.1 (24) = a_24 := (GG.1 _ M_24).2.1.trans A_24
  replace M_24 : (24) ∈ w32.1 := (GG.1 _ M_24).1
  replace X_25 : jm_X4 E w32 (25) := jm_X4_gr X_25 GG (by decide)
  replace A_25 : w32.2.1 (25) = a_25 := (GG.1 _ M_25).2.1.trans A_25
  replace M_25 : (25) ∈ w32.1 := (GG.1 _ M_25).1
  replace N_4 : (4) ∉ w32.1 := fun h => (GG.2 _ h).elim N_4 (fun e => absurd (show (4 : Int) = (3) from e) (by decide))
  replace N_4p100 : (4 + 100) ∉ w32.1 := fun h => (GG.2 _ h).elim N_4p100 (fun e => absurd (show (4 + 100 : Int) = (3) from e) (by decide))
  replace N_4p100p100 : (4 + 100 + 100) ∉ w32.1 := fun h => (GG.2 _ h).elim N_4p100p100 (fun e => absurd (show (4 + 100 + 100 : Int) = (3) from e) (by decide))
  replace GT : jm_gr w w32 (0) (hk_hn) := jm_gr_tr GT GG (fun h => absurd h N0_3) (fun z e => e.elim id (fun e => by have e : z = (3) := e; subst e; exact (show hk_hn _ from by unfold hk_hn; decide)))
  have M_3 : (3) ∈ w32.1 := by rw [hw32]; exact jm_ad_m
  have A_3 : w32.2.1 (3) = a_3 := by rw [hw32]; exact jm_ad_a
  have S_3 : w32.2.2 (3) = jm_Qa (E.2.2 5) 12 (fun _ => none) := by rw [hw32]; exact jm_ad_s
  clear hw32
  refine jm_geni (fun J12 hJ12 => ?_)
  rw [← A_0]
  refine jm_putr (ci := 5) (f := 2) (a := a_3) C hin0 rfl tyX5 tyX5_ok nmX5 jw_u_5 M_0 S_0 (Nat.le_of_ble_eq_true rfl) (by decide) jw_f_RX5_25 rfl rfl (tyX5_ok 2 (by decide)) rfl rfl dX5_init_87 ?_
  try rw [A_0]
  refine jm_gen (fun w33 hw33 => ?_)
  have GG : jm_gr w32 w33 (0) (fun _ => False) := by rw [hw33]; exact jm_gr_sh
  replace A_0 : w33.2.1 (0) = r := (GG.1 _ M_0).2.1.trans A_0
  replace M_0 : (0) ∈ w33.1 := (GG.1 _ M_0).1
  replace A_1 : w33.2.1 (1) = a_1 := (GG.1 _ M_1).2.1.trans A_1
  replace S_1 : w33.2.2 (1) = jm_Qa (E.2.2 3) 3 (va_up (va_up (va_up (fun _ => none) ((0 : Int)).toNat (some a_10)) ((0 + 1 : Int)).toNat (some a_11)) (((0 + 1) + 1 : Int)).toNat (some a_12)) := ((GG.1 _ M_1).2.2 (by decide)).trans S_1
  replace M_1 : (1) ∈ w33.1 := (GG.1 _ M_1).1
  replace X_10 : jm_X1 E w33 (10) := jm_X1_gr X_10 GG (by decide) (by decide)
  replace A_10 : w33.2.1 (10) = a_10 := (GG.1 _ M_10).2.1.trans A_10
  replace M_10 : (10) ∈ w33.1 := (GG.1 _ M_10).1
  replace X_11 : jm_X1 E w33 (11) := jm_X1_gr X_11 GG (by decide) (by decide)
  replace A_11 : w33.2.1 (11) = a_11 := (GG.1 _ M_11).2.1.trans A_11
  replace M_11 : (11) ∈ w33.1 := (GG.1 _ M_11).1
  replace X_12 : jm_X1 E w33 (12) := jm_X1_gr X_12 GG (by decide) (by decide)
  replace A_12 : w33.2.1 (12) = a_12 := (GG.1 _ M_12).2.1.trans A_12
  replace M_12 : (12) ∈ w33.1 := (GG.1 _ M_12).1
  replace A_2 : w33.2.1 (2) = a_2 := (GG.1 _ M_2).2.1.trans A_2
  replace S_2 : w33.2.2 (2) = jm_Qa (E.2.2 4) 6 (va_up (va_up (va_up (va_up (va_up (va_up (fun _ => none) ((0 : Int)).toNat (some a_20)) ((0 + 1 : Int)).toNat (some a_21)) (((0 + 1) + 1 : Int)).toNat (some a_22)) ((((0 + 1) + 1) + 1 : Int)).toNat (some a_23)) (((((0 + 1) + 1) + 1) + 1 : Int)).toNat (some a_24)) ((((((0 + 1) + 1) + 1) + 1) + 1 : Int)).toNat (some a_25)) := ((GG.1 _ M_2).2.2 (by decide)).trans S_2
  replace M_2 : (2) ∈ w33.1 := (GG.1 _ M_2).1
  replace X_20 : jm_X4 E w33 (20) := jm_X4_gr X_20 GG (by decide)
  replace A_20 : w33.2.1 (20) = a_20 := (GG.1 _ M_20).2.1.trans A_20
  replace M_20 : (20) ∈ w33.1 := (GG.1 _ M_20).1
  replace X_21 : jm_X4 E w33 (21) := jm_X4_gr X_21 GG (by decide)
  replace A_21 : w33.2.1 (21) = a_21 := (GG.1 _ M_21).2.1.trans A_21
  replace M_21 : (21) ∈ w33.1 := (GG.1 _ M_21).1
  replace X_22 : jm_X4 E w33 (22) := jm_X4_gr X_22 GG (by decide)
  replace A_22 : w33.2.1 (22) = a_22 := (GG.1 _ M_22).2.1.trans A_22
  replace M_22 : (22) ∈ w33.1 := (GG.1 _ M_22).1
  replace X_23 : jm_X4 E w33 (23) := jm_X4_gr X_23 GG (by decide)
  replace A_23 : w33.2.1 (23) = a_23 := (GG.1 _ M_23).2.1.trans A_23
  replace M_23 : (23) ∈ w33.1 := (GG.1 _ M_23).1
  replace X_24 : jm_X4 E w33 (24) := jm_X4_gr X_24 GG (by decide)
  replace A_24 : w33.2.1 (24) = a_24 := (GG.1 _ M_24).2.1.trans A_24
  replace M_24 : (24) ∈ w33.1 := (GG.1 _ M_24).1
  replace X_25 : jm_X4 E w33 (25) := jm_X4_gr X_25 GG (by decide)
  replace A_25 : w33.2.1 (25) = a_25 := (GG.1 _ M_25).2.1.trans A_25
  replace M_25 : (25) ∈ w33.1 := (GG.1 _ M_25).1
  replace A_3 : w33.2.1 (3) = a_3 := (GG.1 _ M_3).2.1.trans A_3
  replace S_3 : w33.2.2 (3) = jm_Qa (E.2.2 5) 12 (fun _ => none) := ((GG.1 _ M_3).2.2 (by decide)).trans S_3
  replace M_3 : (3) ∈ w33.1 := (GG.1 _ M_3).1
  replace N_4 : (4) ∉ w33.1 := fun h => (GG.2 _ h).elim N_4 (fun e => e.elim)
  replace N_4p100 : (4 + 100) ∉ w33.1 := fun h => (GG.2 _ h).elim N_4p100 (fun e => e.elim)
  replace N_4p100p100 : (4 + 100 + 100) ∉ w33.1 := fun h => (GG.2 _ h).elim N_4p100p100 (fun e => e.elim)
  replace GT : jm_gr w w33 (0) (hk_hn) := jm_gr_tr GT GG (fun _ => rfl) (fun z e => e.elim id (fun e => e.elim))
  have S_0 : w33.2.2 (0) = jm_O 5 [some (.ref a_1), some (.ref a_2), some (.ref a_3), some .null, none, none, none, none, none] := by rw [hw33]; exact jm_sh_s
  clear hw33
  refine jm_aload_n C dX5_init_90 rfl ?_
  refine jm_new (ci := 2) (tm := [some .null, none, none, none, none, none, none, none, none, none]) (4) C rfl tyX2 tyX2_ok jw_u_2 jw_L_RX5_29 jw_I_RX2 jw_n_RX2 N_4 (by decide +kernel) ⟨Nat.le_of_ble_eq_true rfl, Nat.le_of_ble_eq_true rfl⟩ dX5_init_91 (fun a_4 => ?_)
  refine jm_gen (fun w34 hw34 => ?_)
  have GG : jm_gr w33 w34 (4) (fun z => z = (4)) := by rw [hw34]; exact jm_gr_ad N_4
  replace A_0 : w34.2.1 (0) = r := (GG.1 _ M_0).2.1.trans A_0
  replace S_0 : w34.2.2 (0) = jm_O 5 [some (.ref a_1), some (.ref a_2), some (.ref a_3), some .null, none, none, none, none, none] := ((GG.1 _ M_0).2.2 (by decide)).trans S_0
  replace M_0 : (0) ∈ w34.1 := (GG.1 _ M_0).1
  replace A_1 : w34.2.1 (1) = a_1 := (GG.1 _ M_1).2.1.trans A_1
  replace S_1 : w34.2.2 (1) = jm_Qa (E.2.2 3) 3 (va_up (va_up (va_up (fun _ => none) ((0 : Int)).toNat (some a_10)) ((0 + 1 : Int)).toNat (some a_11)) (((0 + 1) + 1 : Int)).toNat (some a_12)) := ((GG.1 _ M_1).2.2 (by decide)).trans S_1
  replace M_1 : (1) ∈ w34.1 := (GG.1 _ M_1).1
  replace X_10 : jm_X1 E w34 (10) := jm_X1_gr X_10 GG (by decide) (by decide)
  replace A_10 : w34.2.1 (10) = a_10 := (GG.1 _ M_10).2.1.trans A_10
  replace M_10 : (10) ∈ w34.1 := (GG.1 _ M_10).1
  replace X_11 : jm_X1 E w34 (11) := jm_X1_gr X_11 GG (by decide) (by decide)
  replace A_11 : w34.2.1 (11) = a_11 := (GG.1 _ M_11).2.1.trans A_11
  replace M_11 : (11) ∈ w34.1 := (GG.1 _ M_11).1
  replace X_12 : jm_X1 E w34 (12) := jm_X1_gr X_12 GG (by decide) (by decide)
  replace A_12 : w34.2.1 (12) = a_12 := (GG.1 _ M_12).2.1.trans A_12
  replace M_12 : (12) ∈ w34.1 := (GG.1 _ M_12).1
  replace A_2 : w34.2.1 (2) = a_2 := (GG.1 _ M_2).2.1.trans A_2
  replace S_2 : w34.2.2 (2) = jm_Qa (E.2.2 4) 6 (va_up (va_up (va_up (va_up (va_up (va_up (fun _ => none) ((0 : Int)).toNat (some a_20)) ((0 + 1 : Int)).toNat (some a_21)) (((0 + 1) + 1 : Int)).toNat (some a_22)) ((((0 + 1) + 1) + 1 : Int)).toNat (some a_23)) (((((0 + 1) + 1) + 1) + 1 : Int)).toNat (some a_24)) ((((((0 + 1) + 1) + 1) + 1) + 1 : Int)).toNat (some a_25)) := ((GG.1 _ M_2).2.2 (by decide)).trans S_2
  replace M_2 : (2) ∈ w34.1 := (GG.1 _ M_2).1
  replace X_20 : jm_X4 E w34 (20) := jm_X4_gr X_20 GG (by decide)
  replace A_20 : w34.2.1 (20) = a_20 := (GG.1 _ M_20).2.1.trans A_20
  replace M_20 : (20) ∈ w34.1 := (GG.1 _ M_20).1
  replace X_21 : jm_X4 E w34 (21) := jm_X4_gr X_21 GG (by decide)
  replace A_21 : w34.2.1 (21) = a_21 := (GG.1 _ M_21).2.1.trans A_21
  replace M_21 : (21) ∈ w34.1 := (GG.1 _ M_21).1
  replace X_22 : jm_X4 E w34 (22) := jm_X4_gr X_22 GG (by decide)
  replace A_22 : w34.2.1 (22) = a_22 := (GG.1 _ M_22).2.1.trans A_22
  replace M_22 : (22) ∈ w34.1 := (GG.1 _ M_22).1
  replace X_23 : jm_X4 E w34 (23) := jm_X4_gr X_23 GG (by decide)
  replace A_23 : w34.2.1 (23) = a_23 := (GG.1 _ M_23).2.1.trans A_23
  replace M_23 : (23) ∈ w34.1 := (GG.1 _ M_23).1
  replace X_24 : jm_X4 E w34 (24) := jm_X4_gr X_24 GG (by decide)
  replace A_24 : w34.2.1 (24) = a_24 := (GG.1 _ M_24).2.1.trans A_24
  replace M_24 : (24) ∈ w34.1 := (GG.1 _ M_24).1
  replace X_25 : jm_X4 E w34 (25) := jm_X4_gr X_25 GG (by decide)
  replace A_25 : w34.2.1 (25) = a_25 := (GG.1 _ M_25).2.1.trans A_25
  replace M_25 : (25) ∈ w34.1 := (GG.1 _ M_25).1
  replace A_3 : w34.2.1 (3) = a_3 := (GG.1 _ M_3).2.1.trans A_3
  replace S_3 : w34.2.2 (3) = jm_Qa (E.2.2 5) 12 (fun _ => none) := ((GG.1 _ M_3).2.2 (by decide)).trans S_3
  replace M_3 : (3) ∈ w34.1 := (GG.1 _ M_3).1
  replace N_4p100 : (4 + 100) ∉ w34.1 := fun h => (GG.2 _ h).elim N_4p100 (fun e => absurd (show (4 + 100 : Int) = (4) from e) (by decide))
  replace N_4p100p100 : (4 + 100 + 100) ∉ w34.1 := fun h => (GG.2 _ h).elim N_4p100p100 (fun e => absurd (show (4 + 100 + 100 : Int) = (4) from e) (by decide))
  replace GT : jm_gr w w34 (0) (hk_hn) := jm_gr_tr GT GG (fun h => absurd h N0_4) (fun z e => e.elim id (fun e => by have e : z = (4) := e; subst e; exact (show hk_hn _ from by unfold hk_hn; decide)))
  have M_4 : (4) ∈ w34.1 := by rw [hw34]; exact jm_ad_m
  have A_4 : w34.2.1 (4) = a_4 := by rw [hw34]; exact jm_ad_a
  have S_4 : w34.2.2 (4) = jm_O 2 [some .null, none, none, none, none, none, none, none, none, none] := by rw [hw34]; exact jm_ad_s
  clear hw34
  refine jm_geni (fun J13 hJ13 => ?_)
  refine jm_dup C dX5_init_94 rfl ?_
  refine jm_cIN (n := 0) [.ref a_4, .ref r] (host := RX5) jm_XTm (jm_trivX G) C (kX2_init E w34 (J13) (4) a_4 A_4 M_4 S_4 N_4p100 N_4p100p100 ) jm_n_X2 okX2_init rfl ⟨rfl, rfl⟩ ⟨Nat.le_of_ble_eq_true rfl, Nat.le_of_ble_eq_true rfl⟩ rfl rfl (Nat.le_of_ble_eq_true rfl) dX5_init_95 ⟨Nat.le_of_ble_eq_true rfl, Nat.le_of_ble_eq_true rfl⟩ (fun w35 I35 hh => ?_)
  obtain ⟨GG, XX, hh⟩ := hh
  have hI35 := hh
  clear hh
  replace A_0 : w35.2.1 (0) = r := (GG.1 _ M_0).2.1.trans A_0
  replace S_0 : w35.2.2 (0) = jm_O 5 [some (.ref a_1), some (.ref a_2), some (.ref a_3), some .null, none, none, none, none, none] := ((GG.1 _ M_0).2.2 (by decide)).trans S_0
  replace M_0 : (0) ∈ w35.1 := (GG.1 _ M_0).1
  replace A_1 : w35.2.1 (1) = a_1 := (GG.1 _ M_1).2.1.trans A_1
  replace S_1 : w35.2.2 (1) = jm_Qa (E.2.2 3) 3 (va_up (va_up (va_up (fun _ => none) ((0 : Int)).toNat (some a_10)) ((0 + 1 : Int)).toNat (some a_11)) (((0 + 1) + 1 : Int)).toNat (some a_12)) := ((GG.1 _ M_1).2.2 (by decide)).trans S_1
  replace M_1 : (1) ∈ w35.1 := (GG.1 _ M_1).1
  replace X_10 : jm_X1 E w35 (10) := jm_X1_gr X_10 GG (by decide) (by decide)
  replace A_10 : w35.2.1 (10) = a_10 := (GG.1 _ M_10).2.1.trans A_10
  replace M_10 : (10) ∈ w35.1 := (GG.1 _ M_10).1
  replace X_11 : jm_X1 E w35 (11) := jm_X1_gr X_11 GG (by decide) (by decide)
  replace A_11 : w35.2.1 (11) = a_11 := (GG.1 _ M_11).2.1.trans A_11
  replace M_11 : (11) ∈ w35.1 := (GG.1 _ M_11).1
  replace X_12 : jm_X1 E w35 (12) := jm_X1_gr X_12 GG (by decide) (by decide)
  replace A_12 : w35.2.1 (12) = a_12 := (GG.1 _ M_12).2.1.trans A_12
  replace M_12 : (12) ∈ w35.1 := (GG.1 _ M_12).1
  replace A_2 : w35.2.1 (2) = a_2 := (GG.1 _ M_2).2.1.trans A_2
  replace S_2 : w35.2.2 (2) = jm_Qa (E.2.2 4) 6 (va_up (va_up (va_up (va_up (va_up (va_up (fun _ => none) ((0 : Int)).toNat (some a_20)) ((0 + 1 : Int)).toNat (some a_21)) (((0 + 1) + 1 : Int)).toNat (some a_22)) ((((0 + 1) + 1) + 1 : Int)).toNat (some a_23)) (((((0 + 1) + 1) + 1) + 1 : Int)).toNat (some a_24)) ((((((0 + 1) + 1) + 1) + 1) + 1 : Int)).toNat (some a_25)) := ((GG.1 _ M_2).2.2 (by decide)).trans S_2
  replace M_2 : (2) ∈ w35.1 := (GG.1 _ M_2).1
  replace X_20 : jm_X4 E w35 (20) := jm_X4_gr X_20 GG (by decide)
  replace A_20 : w35.2.1 (20) = a_20 := (GG.1 _ M_20).2.1.trans A_20
  replace M_20 : (20) ∈ w35.1 := (GG.1 _ M_20).1
  replace X_21 : jm_X4 E w35 (21) := jm_X4_gr X_21 GG (by decide)
  replace A_21 : w35.2.1 (21) = a_21 := (GG.1 _ M_21).2.1.trans A_21
  replace M_21 : (21) ∈ w35.1 := (GG.1 _ M_21).1
  replace X_22 : jm_X4 E w35 (22) := jm_X4_gr X_22 GG (by decide)
  replace A_22 : w35.2.1 (22) = a_22 := (GG.1 _ M_22).2.1.trans A_22
  replace M_22 : (22) ∈ w35.1 := (GG.1 _ M_22).1
  replace X_23 : jm_X4 E w35 (23) := jm_X4_gr X_23 GG (by decide)
  replace A_23 : w35.2.1 (23) = a_23 := (GG.1 _ M_23).2.1.trans A_23
  replace M_23 : (23) ∈ w35.1 := (GG.1 _ M_23).1
  replace X_24 : jm_X4 E w35 (24) := jm_X4_gr X_24 GG (by decide)
  replace A_24 : w35.2.1 (24) = a_24 := (GG.1 _ M_24).2.1.trans A_24
  replace M_24 : (24) ∈ w35.1 := (GG.1 _ M_24).1
  replace X_25 : jm_X4 E w35 (25) := jm_X4_gr X_25 GG (by decide)
  replace A_25 : w35.2.1 (25) = a_25 := (GG.1 _ M_25).2.1.trans A_25
  replace M_25 : (25) ∈ w35.1 := (GG.1 _ M_25).1
  replace A_3 : w35.2.1 (3) = a_3 := (GG.1 _ M_3).2.1.trans A_3
  replace S_3 : w35.2.2 (3) = jm_Qa (E.2.2 5) 12 (fun _ => none) := ((GG.1 _ M_3).2.2 (by decide)).trans S_3
  replace M_3 : (3) ∈ w35.1 := (GG.1 _ M_3).1
  replace A_4 : w35.2.1 (4) = a_4 := (GG.1 _ M_4).2.1.trans A_4
  replace M_4 : (4) ∈ w35.1 := (GG.1 _ M_4).1
  replace GT : jm_gr w w35 (0) (hk_hn) := jm_gr_tr GT GG (fun h => absurd h N0_4) (fun z e => e.elim id (fun e => by have e : z = (4 + 100) ∨ z = (4 + 100 + 100) := e; rcases e with e | e <;> (subst e; exact (show hk_hn _ from by unfold hk_hn; decide))))
  have X_4 := XX
  rw [← A_0]
  refine jm_putr (ci := 5) (f := 3) (a := a_4) C hin0 rfl tyX5 tyX5_ok nmX5 jw_u_5 M_0 S_0 (Nat.le_of_ble_eq_true rfl) (by decide) jw_f_RX5_32 rfl rfl (tyX5_ok 3 (by decide)) rfl rfl dX5_init_98 ?_
  try rw [A_0]
  refine jm_gen (fun w36 hw36 => ?_)
  have GG : jm_gr w35 w36 (0) (fun _ => False) := by rw [hw36]; exact jm_gr_sh
  replace A_0 : w36.2.1 (0) = r := (GG.1 _ M_0).2.1.trans A_0
  replace M_0 : (0) ∈ w36.1 := (GG.1 _ M_0).1
  replace A_1 : w36.2.1 (1) = a_1 := (GG.1 _ M_1).2.1.trans A_1
  replace S_1 : w36.2.2 (1) = jm_Qa (E.2.2 3) 3 (va_up (va_up (va_up (fun _ => none) ((0 : Int)).toNat (some a_10)) ((0 + 1 : Int)).toNat (some a_11)) (((0 + 1) + 1 : Int)).toNat (some a_12)) := ((GG.1 _ M_1).2.2 (by decide)).trans S_1
  replace M_1 : (1) ∈ w36.1 := (GG.1 _ M_1).1
  replace X_10 : jm_X1 E w36 (10) := jm_X1_gr X_10 GG (by decide) (by decide)
  replace A_10 : w36.2.1 (10) = a_10 := (GG.1 _ M_10).2.1.trans A_10
  replace M_10 : (10) ∈ w36.1 := (GG.1 _ M_10).1
  replace X_11 : jm_X1 E w36 (11) := jm_X1_gr X_11 GG (by decide) (by decide)
  replace A_11 : w36.2.1 (11) = a_11 := (GG.1 _ M_11).2.1.trans A_11
  replace M_11 : (11) ∈ w36.1 := (GG.1 _ M_11).1
  replace X_12 : jm_X1 E w36 (12) := jm_X1_gr X_12 GG (by decide) (by decide)
  replace A_12 : w36.2.1 (12) = a_12 := (GG.1 _ M_12).2.1.trans A_12
  replace M_12 : (12) ∈ w36.1 := (GG.1 _ M_12).1
  replace A_2 : w36.2.1 (2) = a_2 := (GG.1 _ M_2).2.1.trans A_2
  replace S_2 : w36.2.2 (2) = jm_Qa (E.2.2 4) 6 (va_up (va_up (va_up (va_up (va_up (va_up (fun _ => none) ((0 : Int)).toNat (some a_20)) ((0 + 1 : Int)).toNat (some a_21)) (((0 + 1) + 1 : Int)).toNat (some a_22)) ((((0 + 1) + 1) + 1 : Int)).toNat (some a_23)) (((((0 + 1) + 1) + 1) + 1 : Int)).toNat (some a_24)) ((((((0 + 1) + 1) + 1) + 1) + 1 : Int)).toNat (some a_25)) := ((GG.1 _ M_2).2.2 (by decide)).trans S_2
  replace M_2 : (2) ∈ w36.1 := (GG.1 _ M_2).1
  replace X_20 : jm_X4 E w36 (20) := jm_X4_gr X_20 GG (by decide)
  replace A_20 : w36.2.1 (20) = a_20 := (GG.1 _ M_20).2.1.trans A_20
  replace M_20 : (20) ∈ w36.1 := (GG.1 _ M_20).1
  replace X_21 : jm_X4 E w36 (21) := jm_X4_gr X_21 GG (by decide)
  replace A_21 : w36.2.1 (21) = a_21 := (GG.1 _ M_21).2.1.trans A_21
  replace M_21 : (21) ∈ w36.1 := (GG.1 _ M_21).1
  replace X_22 : jm_X4 E w36 (22) := jm_X4_gr X_22 GG (by decide)
  replace A_22 : w36.2.1 (22) = a_22 := (GG.1 _ M_22).2.1.trans A_22
  replace M_22 : (22) ∈ w36.1 := (GG.1 _ M_22).1
  replace X_23 : jm_X4 E w36 (23) := jm_X4_gr X_23 GG (by decide)
  replace A_23 : w36.2.1 (23) = a_23 := (GG.1 _ M_23).2.1.trans A_23
  replace M_23 : (23) ∈ w36.1 := (GG.1 _ M_23).1
  replace X_24 : jm_X4 E w36 (24) := jm_X4_gr X_24 GG (by decide)
  replace A_24 : w36.2.1 (24) = a_24 := (GG.1 _ M_24).2.1.trans A_24
  replace M_24 : (24) ∈ w36.1 := (GG.1 _ M_24).1
  replace X_25 : jm_X4 E w36 (25) := jm_X4_gr X_25 GG (by decide)
  replace A_25 : w36.2.1 (25) = a_25 := (GG.1 _ M_25).2.1.trans A_25
  replace M_25 : (25) ∈ w36.1 := (GG.1 _ M_25).1
  replace A_3 : w36.2.1 (3) = a_3 := (GG.1 _ M_3).2.1.trans A_3
  replace S_3 : w36.2.2 (3) = jm_Qa (E.2.2 5) 12 (fun _ => none) := ((GG.1 _ M_3).2.2 (by decide)).trans S_3
  replace M_3 : (3) ∈ w36.1 := (GG.1 _ M_3).1
  replace X_4 : jm_X2 E w36 (4) := jm_X2_gr X_4 GG (by decide) (by decide) (by decide)
  replace A_4 : w36.2.1 (4) = a_4 := (GG.1 _ M_4).2.1.trans A_4
  replace M_4 : (4) ∈ w36.1 := (GG.1 _ M_4).1
  replace GT : jm_gr w w36 (0) (hk_hn) := jm_gr_tr GT GG (fun _ => rfl) (fun z e => e.elim id (fun e => e.elim))
  have S_0 : w36.2.2 (0) = jm_O 5 [some (.ref a_1), some (.ref a_2), some (.ref a_3), some (.ref a_4), none, none, none, none, none] := by rw [hw36]; exact jm_sh_s
  clear hw36
  refine jm_aload_n C dX5_init_101 rfl ?_
  refine jm_iconst C dX5_init_102 ?_
  rw [← A_0]
  refine jm_put (ci := 5) (f := 6) (ty := .int) 6 rfl C rfl tyX5 tyX5_ok nmX5 jw_u_5 M_0 S_0 rfl (by decide) jw_f_RX5_36 rfl (by decide +kernel) rfl rfl dX5_init_103 (by decide) ?_
  try rw [A_0]
  refine jm_geni (fun J14 hJ14 => ?_)
  refine jm_aload_n C dX5_init_106 rfl ?_
  refine jm_iconst C dX5_init_107 ?_
  rw [← A_0]
  refine jm_put (ci := 5) (f := 7) (ty := .int) 7 rfl C rfl tyX5 tyX5_ok nmX5 jw_u_5 M_0 S_0 rfl (by decide) jw_f_RX5_40 rfl (by decide +kernel) rfl rfl dX5_init_108 (by decide) ?_
  try rw [A_0]
  refine jm_geni (fun J15 hJ15 => ?_)
  refine jm_nq (k := 1) (g' := hk_gs w36 10) S_1 (fun i hi => by
    rcases (show i = 0 ∨ i = 1 ∨ i = 2 by omega) with rfl | rfl | rfl
    · exact congrArg some A_10.symm
    · exact congrArg some A_11.symm
    · exact congrArg some A_12.symm) ?_
  refine jm_gen (fun w37 hw37 => ?_)
  have GG : jm_gr w36 w37 (1) (fun _ => False) := by rw [hw37]; exact jm_gr_sh
  replace A_0 : w37.2.1 (0) = r := (GG.1 _ M_0).2.1.trans A_0
  replace S_0 : w37.2.2 (0) = jm_O 5 [some (.ref a_1), some (.ref a_2), some (.ref a_3), some (.ref a_4), none, none, none, none, none] := ((GG.1 _ M_0).2.2 (by decide)).trans S_0
  replace M_0 : (0) ∈ w37.1 := (GG.1 _ M_0).1
  replace X_10 : jm_X1 E w37 (10) := jm_X1_gr X_10 GG (by decide) (by decide)
  replace A_10 : w37.2.1 (10) = a_10 := (GG.1 _ M_10).2.1.trans A_10
  replace M_10 : (10) ∈ w37.1 := (GG.1 _ M_10).1
  replace X_11 : jm_X1 E w37 (11) := jm_X1_gr X_11 GG (by decide) (by decide)
  replace A_11 : w37.2.1 (11) = a_11 := (GG.1 _ M_11).2.1.trans A_11
  replace M_11 : (11) ∈ w37.1 := (GG.1 _ M_11).1
  replace X_12 : jm_X1 E w37 (12) := jm_X1_gr X_12 GG (by decide) (by decide)
  replace A_12 : w37.2.1 (12) = a_12 := (GG.1 _ M_12).2.1.trans A_12
  replace M_12 : (12) ∈ w37.1 := (GG.1 _ M_12).1
  replace A_2 : w37.2.1 (2) = a_2 := (GG.1 _ M_2).2.1.trans A_2
  replace S_2 : w37.2.2 (2) = jm_Qa (E.2.2 4) 6 (va_up (va_up (va_up (va_up (va_up (va_up (fun _ => none) ((0 : Int)).toNat (some a_20)) ((0 + 1 : Int)).toNat (some a_21)) (((0 + 1) + 1 : Int)).toNat (some a_22)) ((((0 + 1) + 1) + 1 : Int)).toNat (some a_23)) (((((0 + 1) + 1) + 1) + 1 : Int)).toNat (some a_24)) ((((((0 + 1) + 1) + 1) + 1) + 1 : Int)).toNat (some a_25)) := ((GG.1 _ M_2).2.2 (by decide)).trans S_2
  replace M_2 : (2) ∈ w37.1 := (GG.1 _ M_2).1
  replace X_20 : jm_X4 E w37 (20) := jm_X4_gr X_20 GG (by decide)
  replace A_20 : w37.2.1 (20) = a_20 := (GG.1 _ M_20).2.1.trans A_20
  replace M_20 : (20) ∈ w37.1 := (GG.1 _ M_20).1
  replace X_21 : jm_X4 E w37 (21) := jm_X4_gr X_21 GG (by decide)
  replace A_21 : w37.2.1 (21) = a_21 := (GG.1 _ M_21).2.1.trans A_21
  replace M_21 : (21) ∈ w37.1 := (GG.1 _ M_21).1
  replace X_22 : jm_X4 E w37 (22) := jm_X4_gr X_22 GG (by decide)
  replace A_22 : w37.2.1 (22) = a_22 := (GG.1 _ M_22).2.1.trans A_22
  replace M_22 : (22) ∈ w37.1 := (GG.1 _ M_22).1
  replace X_23 : jm_X4 E w37 (23) := jm_X4_gr X_23 GG (by decide)
  replace A_23 : w37.2.1 (23) = a_23 := (GG.1 _ M_23).2.1.trans A_23
  replace M_23 : (23) ∈ w37.1 := (GG.1 _ M_23).1
  replace X_24 : jm_X4 E w37 (24) := jm_X4_gr X_24 GG (by decide)
  replace A_24 : w37.2.1 (24) = a_24 := (GG.1 _ M_24).2.1.trans A_24
  replace M_24 : (24) ∈ w37.1 := (GG.1 _ M_24).1
  replace X_25 : jm_X4 E w37 (25) := jm_X4_gr X_25 GG (by decide)
  replace A_25 : w37.2.1 (25) = a_25 := (GG.1 _ M_25).2.1.trans A_25
  replace M_25 : (25) ∈ w37.1 := (GG.1 _ M_25).1
  replace A_3 : w37.2.1 (3) = a_3 := (GG.1 _ M_3).2.1.trans A_3
  replace S_3 : w37.2.2 (3) = jm_Qa (E.2.2 5) 12 (fun _ => none) := ((GG.1 _ M_3).2.2 (by decide)).trans S_3
  replace M_3 : (3) ∈ w37.1 := (GG.1 _ M_3).1
  replace X_4 : jm_X2 E w37 (4) := jm_X2_gr X_4 GG (by decide) (by decide) (by decide)
  replace A_4 : w37.2.1 (4) = a_4 := (GG.1 _ M_4).2.1.trans A_4
  replace M_4 : (4) ∈ w37.1 := (GG.1 _ M_4).1
  replace GT : jm_gr w w37 (0) (hk_hn) := jm_gr_tr GT GG (fun h => absurd h N0_1) (fun z e => e.elim id (fun e => e.elim))
  replace A_1 : w37.2.1 1 = a_1 := (GG.1 _ M_1).2.1.trans A_1
  replace M_1 : 1 ∈ w37.1 := (GG.1 _ M_1).1
  replace S_1 : w37.2.2 1 = jm_Qa (E.2.2 3) 3 (hk_gs w37 10) := by rw [hw37]; exact jm_sh_s
  refine jm_nq (k := 2) (g' := hk_gs w37 20) S_2 (fun i hi => by
    rcases (show i = 0 ∨ i = 1 ∨ i = 2 ∨ i = 3 ∨ i = 4 ∨ i = 5 by omega) with rfl | rfl | rfl | rfl | rfl | rfl
    · exact congrArg some A_20.symm
    · exact congrArg some A_21.symm
    · exact congrArg some A_22.symm
    · exact congrArg some A_23.symm
    · exact congrArg some A_24.symm
    · exact congrArg some A_25.symm) ?_
  refine jm_gen (fun w38 hw38 => ?_)
  have GG : jm_gr w37 w38 (2) (fun _ => False) := by rw [hw38]; exact jm_gr_sh
  replace A_0 : w38.2.1 (0) = r := (GG.1 _ M_0).2.1.trans A_0
  replace S_0 : w38.2.2 (0) = jm_O 5 [some (.ref a_1), some (.ref a_2), some (.ref a_3), some (.ref a_4), none, none, none, none, none] := ((GG.1 _ M_0).2.2 (by decide)).trans S_0
  replace M_0 : (0) ∈ w38.1 := (GG.1 _ M_0).1
  replace X_10 : jm_X1 E w38 (10) := jm_X1_gr X_10 GG (by decide) (by decide)
  replace A_10 : w38.2.1 (10) = a_10 := (GG.1 _ M_10).2.1.trans A_10
  replace M_10 : (10) ∈ w38.1 := (GG.1 _ M_10).1
  replace X_11 : jm_X1 E w38 (11) := jm_X1_gr X_11 GG (by decide) (by decide)
  replace A_11 : w38.2.1 (11) = a_11 := (GG.1 _ M_11).2.1.trans A_11
  replace M_11 : (11) ∈ w38.1 := (GG.1 _ M_11).1
  replace X_12 : jm_X1 E w38 (12) := jm_X1_gr X_12 GG (by decide) (by decide)
  replace A_12 : w38.2.1 (12) = a_12 := (GG.1 _ M_12).2.1.trans A_12
  replace M_12 : (12) ∈ w38.1 := (GG.1 _ M_12).1
  replace X_20 : jm_X4 E w38 (20) := jm_X4_gr X_20 GG (by decide)
  replace A_20 : w38.2.1 (20) = a_20 := (GG.1 _ M_20).2.1.trans A_20
  replace M_20 : (20) ∈ w38.1 := (GG.1 _ M_20).1
  replace X_21 : jm_X4 E w38 (21) := jm_X4_gr X_21 GG (by decide)
  replace A_21 : w38.2.1 (21) = a_21 := (GG.1 _ M_21).2.1.trans A_21
  replace M_21 : (21) ∈ w38.1 := (GG.1 _ M_21).1
  replace X_22 : jm_X4 E w38 (22) := jm_X4_gr X_22 GG (by decide)
  replace A_22 : w38.2.1 (22) = a_22 := (GG.1 _ M_22).2.1.trans A_22
  replace M_22 : (22) ∈ w38.1 := (GG.1 _ M_22).1
  replace X_23 : jm_X4 E w38 (23) := jm_X4_gr X_23 GG (by decide)
  replace A_23 : w38.2.1 (23) = a_23 := (GG.1 _ M_23).2.1.trans A_23
  replace M_23 : (23) ∈ w38.1 := (GG.1 _ M_23).1
  replace X_24 : jm_X4 E w38 (24) := jm_X4_gr X_24 GG (by decide)
  replace A_24 : w38.2.1 (24) = a_24 := (GG.1 _ M_24).2.1.trans A_24
  replace M_24 : (24) ∈ w38.1 := (GG.1 _ M_24).1
  replace X_25 : jm_X4 E w38 (25) := jm_X4_gr X_25 GG (by decide)
  replace A_25 : w38.2.1 (25) = a_25 := (GG.1 _ M_25).2.1.trans A_25
  replace M_25 : (25) ∈ w38.1 := (GG.1 _ M_25).1
  replace A_3 : w38.2.1 (3) = a_3 := (GG.1 _ M_3).2.1.trans A_3
  replace S_3 : w38.2.2 (3) = jm_Qa (E.2.2 5) 12 (fun _ => none) := ((GG.1 _ M_3).2.2 (by decide)).trans S_3
  replace M_3 : (3) ∈ w38.1 := (GG.1 _ M_3).1
  replace X_4 : jm_X2 E w38 (4) := jm_X2_gr X_4 GG (by decide) (by decide) (by decide)
  replace A_4 : w38.2.1 (4) = a_4 := (GG.1 _ M_4).2.1.trans A_4
  replace M_4 : (4) ∈ w38.1 := (GG.1 _ M_4).1
  replace GT : jm_gr w w38 (0) (hk_hn) := jm_gr_tr GT GG (fun h => absurd h N0_2) (fun z e => e.elim id (fun e => e.elim))
  replace A_2 : w38.2.1 2 = a_2 := (GG.1 _ M_2).2.1.trans A_2
  replace M_2 : 2 ∈ w38.1 := (GG.1 _ M_2).1
  replace S_2 : w38.2.2 2 = jm_Qa (E.2.2 4) 6 (hk_gs w38 20) := by rw [hw38]; exact jm_sh_s
  replace A_1 : w38.2.1 1 = a_1 := (GG.1 _ M_1).2.1.trans A_1
  replace S_1 : w38.2.2 1 = jm_Qa (E.2.2 3) 3 (hk_gs w38 10) := by rw [(GG.1 _ M_1).2.2 (by decide), S_1, hw38]; rfl
  replace M_1 : 1 ∈ w38.1 := (GG.1 _ M_1).1
  refine jm_wid (q' := (18, 1712)) (Nat.le_of_ble_eq_true rfl) (Nat.le_of_ble_eq_true rfl) ?_
  have F3 : hk_gg w38 0 = fun _ => none := by funext i; unfold hk_gg; exact if_neg (by omega)
  refine hR _ _ _ _ dX5_init_111 ⟨GT, ⟨⟨M_0, by rw [S_0, A_1, A_2, A_3, A_4]⟩, ⟨M_1, S_1⟩, ⟨M_2, S_2⟩, ⟨M_3, by rw [S_3, F3]⟩, X_4, fun i h1 h2 => ?_, fun i h1 h2 => ?_, fun i h1 h2 => absurd h2 (by omega), by decide, by decide⟩, ?_⟩
  · rcases (show i = 0 ∨ i = 1 ∨ i = 2 by omega) with rfl | rfl | rfl
    · exact X_10
    · exact X_11
    · exact X_12
  · rcases (show i = 0 ∨ i = 1 ∨ i = 2 ∨ i = 3 ∨ i = 4 ∨ i = 5 by omega) with rfl | rfl | rfl | rfl | rfl | rfl
    · exact X_20
    · exact X_21
    · exact X_22
    · exact X_23
    · exact X_24
    · exact X_25
  · refine ⟨⟨?_, ?_, ?_, ?_, ?_⟩, fun i h1 h2 => ?_, fun t h1 h2 => ?_, fun a ha => ?_⟩
    · simp [hJ15, hJ14, hI35, hJ13, hJ12, hI30, hJ11, hI27, hJ10, hI24, hJ9, hI21, hJ8, hI18, hJ7, hI15, hJ6, hJ5, hI10, hJ4, hI7, hJ3, hI4, hJ2, hJ1, jm_up, jm_z, hk_fill]
    · simp [hJ15, hJ14, hI35, hJ13, hJ12, hI30, hJ11, hI27, hJ10, hI24, hJ9, hI21, hJ8, hI18, hJ7, hI15, hJ6, hJ5, hI10, hJ4, hI7, hJ3, hI4, hJ2, hJ1, jm_up, jm_z, hk_fill]
    · simp [hJ15, hJ14, hI35, hJ13, hJ12, hI30, hJ11, hI27, hJ10, hI24, hJ9, hI21, hJ8, hI18, hJ7, hI15, hJ6, hJ5, hI10, hJ4, hI7, hJ3, hI4, hJ2, hJ1, jm_up, jm_z, hk_fill]
    · simp [hJ15, hJ14, hI35, hJ13, hJ12, hI30, hJ11, hI27, hJ10, hI24, hJ9, hI21, hJ8, hI18, hJ7, hI15, hJ6, hJ5, hI10, hJ4, hI7, hJ3, hI4, hJ2, hJ1, jm_up, jm_z, hk_fill]
    · simp [hJ15, hJ14, hI35, hJ13, hJ12, hI30, hJ11, hI27, hJ10, hI24, hJ9, hI21, hJ8, hI18, hJ7, hI15, hJ6, hJ5, hI10, hJ4, hI7, hJ3, hI4, hJ2, hJ1, jm_up, jm_z, hk_fill]
    · rcases (show i = 0 ∨ i = 1 ∨ i = 2 by omega) with rfl | rfl | rfl <;> refine ⟨?_, ?_, ?_⟩ <;> first | (funext b; simp [hJ15, hJ14, hI35, hJ13, hJ12, hI30, hJ11, hI27, hJ10, hI24, hJ9, hI21, hJ8, hI18, hJ7, hI15, hJ6, hJ5, hI10, hJ4, hI7, hJ3, hI4, hJ2, hJ1, jm_up, jm_z, hk_fill]; done) | (simp [hJ15, hJ14, hI35, hJ13, hJ12, hI30, hJ11, hI27, hJ10, hI24, hJ9, hI21, hJ8, hI18, hJ7, hI15, hJ6, hJ5, hI10, hJ4, hI7, hJ3, hI4, hJ2, hJ1, jm_up, jm_z, hk_fill]; done)
    · rcases (show t = 0 ∨ t = 1 ∨ t = 2 ∨ t = 3 ∨ t = 4 ∨ t = 5 by omega) with rfl | rfl | rfl | rfl | rfl | rfl <;> (funext b; simp [hJ15, hJ14, hI35, hJ13, hJ12, hI30, hJ11, hI27, hJ10, hI24, hJ9, hI21, hJ8, hI18, hJ7, hI15, hJ6, hJ5, hI10, hJ4, hI7, hJ3, hI4, hJ2, hJ1, jm_up, jm_z, hk_fill])
    · funext b
      unfold hk_hn at ha
      have e : ∀ c : Int, ((0 ≤ c ∧ c < 30) ∨ (100 ≤ c ∧ c < 130) ∨ c = 204) → ¬ a = c := fun c hc h => ha (by rw [h]; exact hc)
      simp [hJ15, hJ14, hI35, hJ13, hJ12, hI30, hJ11, hI27, hJ10, hI24, hJ9, hI21, hJ8, hI18, hJ7, hI15, hJ6, hJ5, hI10, hJ4, hI7, hJ3, hI4, hJ2, hJ1, jm_up, jm_z, hk_fill, e 0 (by decide), e 1 (by decide), e 2 (by decide), e 3 (by decide), e 4 (by decide), e 10 (by decide), e 11 (by decide), e 12 (by decide), e 20 (by decide), e 21 (by decide), e 22 (by decide), e 23 (by decide), e 24 (by decide), e 25 (by decide), e 104 (by decide), e 110 (by decide), e 111 (by decide), e 112 (by decide), e 204 (by decide)]
