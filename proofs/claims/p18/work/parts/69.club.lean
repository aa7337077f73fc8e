/-! ONE CLUB'S MAP: what is always so (a model's rows beside it, as a witness alone) -/
def hq_K (C : jm_M) (n : Nat) (T : Int) : Prop := ∃ M : jm_M, hk_inv C M n T ∧ hk_nm M
theorem hq_K_of {C M : jm_M} {n : Nat} {T : Int} (h : hk_inv C M n T) : hq_K C n T := by
  refine ⟨fun a b => if a = 324 ∨ a = 325 then 0 else M a b, hk_inv_w h (fun _ _ _ _ _ _ _ => rfl) (fun a b h1 h2 _ _ _ => if_neg (by omega)), fun c _ => if_pos (Or.inl rfl), fun c _ => if_pos (Or.inr rfl)⟩
theorem hq_K_ag {C C' : jm_M} {n : Nat} {T : Int} (h : hq_K C n T) (e : ∀ a b, 0 ≤ a → a < 300 → a ≠ 4 → a ≠ 104 → a ≠ 204 → C' a b = C a b) : hq_K C' n T := by
  obtain ⟨M, h1, h2⟩ := h
  exact ⟨M, hk_inv_w h1 e (fun _ _ _ _ _ _ _ => rfl), h2⟩
theorem hq_K_ck {C : jm_M} {n : Nat} {T : Int} (h : hq_K C n T) : hk_ck C n := by
  obtain ⟨M, h1, h2⟩ := h
  exact hk_inv_ck h1
theorem hq_K_pre {C : jm_M} {n : Nat} {T : Int} (h : hq_K C n T) : ∀ i : Int, 0 ≤ i → i < n → C (30 + i) 5 = 1 ∨ C (30 + i) 5 = 2 → hk_wpre C (30 + i) := fun i h1 h2 st => by
  obtain ⟨M, h3, N⟩ := h
  exact hk_row_wpre h3.1 N ⟨h1, h2⟩ st
theorem hq_K_ex {C : jm_M} {n : Nat} {T : Int} (h : hq_K C n T) : ∀ i : Int, 0 ≤ i → i < n → C (30 + i) 5 = 1 ∨ C (30 + i) 5 = 2 → (0 ≤ C (30 + i) 0 ∧ C (30 + i) 0 < 6) ∧ (0 ≤ C (30 + i) 1 ∧ C (30 + i) 1 < 6) ∧ (0 ≤ C (30 + i) 11 ∧ C (30 + i) 11 ≤ 100000) ∧ (0 ≤ C (30 + i) 8 ∧ C (30 + i) 8 ≤ 100000) ∧ (0 ≤ C (30 + i) 9 ∧ C (30 + i) 9 ≤ 100000) ∧ (0 ≤ C (30 + i) 10 ∧ C (30 + i) 10 ≤ 100000) := fun i h1 h2 st => by
  obtain ⟨M, H, N⟩ := h
  obtain ⟨⟨r0, r1, r2, r4, r5, r6, r8, r9, r10, r11⟩, hf, h12, h7, ⟨e1, e2, e3, e4, e5, e6, e7, e8, e9, e10⟩, s0, s1, s2, -⟩ := H.1.2.2.2.2.2.2.2.2.2.1 i h1 h2
  rw [r5] at st
  rw [r0, r1, r8, r9, r10, r11]
  refine ⟨e1, e2, ?_, by omega, by omega, by omega⟩
  rcases st with q | q
  · have := s1 q; omega
  · have := s2 q; omega
theorem hq_K_sh {C : jm_M} {n : Nat} {T : Int} (h : hq_K C n T) {i : Int} (h1 : 0 ≤ i) (h2 : i < n) (st : C (30 + i) 5 = 1 ∨ C (30 + i) 5 = 2) : 0 ≤ C (30 + i) 6 ∧ C (30 + i) 6 < 3 := (hq_K_pre h i h1 h2 st).1
theorem hq_K_good {C : jm_M} {n : Nat} {T : Int} (h : hq_K C n T) {i : Int} (h1 : 0 ≤ i) (h2 : i < n) : hk_good (C (30 + i + 100 + 100)) := by
  obtain ⟨M, H, N⟩ := h
  obtain ⟨-, -, -, -, -, -, -, -, g, -⟩ := H.1.2.2.2.2.2.2.2.2.2.1 i h1 h2
  exact g
theorem hq_K_tm {C : jm_M} {n : Nat} {T : Int} (h : hq_K C n T) (hT : T ≤ 1000) : (∀ t, 0 ≤ t → t < 6 → 0 ≤ C (20 + t) 0 ∧ C (20 + t) 0 ≤ 1000000) ∧ (∀ t, 0 ≤ t → t < 6 → (0 ≤ C (20 + t) 1 ∧ C (20 + t) 1 ≤ 1000000) ∧ (0 ≤ C (20 + t) 2 ∧ C (20 + t) 2 ≤ 1000000)) := by
  obtain ⟨M, H, N⟩ := h
  have b := H.1.2.2.2.2.2.2.2.2.1
  have q := H.1.2.2.2.2.2.2.2.1
  refine ⟨fun t h1 h2 => ?_, fun t h1 h2 => ?_⟩
  · rw [(q t h1 h2).1]; have := b t; omega
  · rw [(q t h1 h2).2.1, (q t h1 h2).2.2]; have := b t; omega
theorem hq_K_0 {C : jm_M} {n : Nat} {T : Int} (h : hq_K C n T) : C 0 4 = n ∧ (0 ≤ C 0 5 ∧ C 0 5 ≤ 9999) ∧ n ≤ 12 := by
  obtain ⟨M, H, N⟩ := h
  have a := H.1.1
  have b := H.1.2.1
  exact ⟨a.1, by omega, a.2.2⟩
-- what the changes leave alone
def hq_fr (I I1 : jm_M) : Prop := ∀ a b, 299 ≤ a → I1 a b = I a b
theorem hk_cp1_o {I : jm_M} {ng : Int} (hng : 0 ≤ ng ∧ ng ≤ 12) (hc : hk_ck I ng) {a b : Int} (ha : 299 ≤ a) : hk_cp1 I ng a b = I a b := by
  obtain ⟨h7, h8, h6, hw, h4⟩ := hc
  have e : ∀ a b, (a ≠ 0 ∨ b ≠ 5) → jm_up I 0 5 (I 0 5 + 1) a b = I a b := fun a b h => jm_up_n h
  have g7 : -1 ≤ jm_up I 0 5 (I 0 5 + 1) 0 7 ∧ jm_up I 0 5 (I 0 5 + 1) 0 7 < 3 := by rw [e 0 7 (Or.inr (by decide))]; exact h7
  unfold hk_cp1
  rw [(hk_bg_o (a := a) (b := b) (by omega) hk_stp_x (fun i h0 h1 => by rw [hk_work_o g7 (by omega) (Or.inl (by omega)), e _ _ (Or.inl (by omega))]; exact hw i h0 h1) 12).1, hk_work_o g7 (by omega) (Or.inl (by omega)), e _ _ (Or.inl (by omega))]
theorem hk_cpn_o {C M : jm_M} {n : Nat} {T : Int} (H : hk_inv C M n T) {a b : Int} (ha : 299 ≤ a) : ∀ k : Nat, M 300 1 + k ≤ 9999 → hk_cpn C n k a b = C a b
  | 0, _ => rfl
  | k + 1, hk => by
    have h := (hk_hours H k (by omega)).1
    show hk_cp1 (hk_cpn C n k) n a b = _
    rw [hk_cp1_o (by have := H.1.1.2.2; omega) (hk_inv_ck h) ha]
    exact hk_cpn_o H ha k (by omega)
theorem hk_sdr_o {I : jm_M} {k d a b : Int} (hk : 30 ≤ k ∧ k < 42) (h0 : 0 ≤ I k 0 ∧ I k 0 < 6) (h1 : 0 ≤ I k 1 ∧ I k 1 < 6) (ha : 299 ≤ a) : hk_sdr I k d a b = I a b := by
  have t : 0 ≤ hk_dteam I k ∧ hk_dteam I k < 6 := by unfold hk_dteam; split <;> omega
  have e : hk_sdr1 I k d a b = I a b := by
    unfold hk_sdr1
    rw [jm_up_n (Or.inl (by omega)), jm_up_n (Or.inl (by omega))]
  unfold hk_sdr hk_draw
  split
  · rw [jm_up_n (Or.inl (by omega)), jm_up_n (Or.inl (by omega)), e]
  · rw [jm_up_n (Or.inl (by omega)), jm_up_n (Or.inl (by omega)), jm_up_n (Or.inl (by omega)), e]
theorem hk_sst_o {I : jm_M} {k a b : Int} (hk : 30 ≤ k ∧ k < 42) (h0 : 0 ≤ I k 0 ∧ I k 0 < 6) (h1 : 0 ≤ I k 1 ∧ I k 1 < 6) (h6 : 0 ≤ I k 6 ∧ I k 6 < 3) (ha : 299 ≤ a) : hk_sst I k a b = I a b := by
  have c : hk_close (jm_up I k 11 (I k 11 + 1)) k a b = I a b := by rw [hk_close_o ⟨by omega, by omega⟩, jm_up_n (Or.inl (by omega))]
  unfold hk_sst
  split
  · rw [jm_up_n (Or.inl (by omega))]
  · split
    · obtain ⟨K, hK⟩ : ∃ K, K = hk_close (jm_up I k 11 (I k 11 + 1)) k := ⟨_, rfl⟩
      rw [← hK] at c ⊢
      have k0 : K k 0 = I k 0 := by rw [hK, hk_close_k (by decide), jm_up_n (Or.inr (by decide))]
      have k1 : K k 1 = I k 1 := by rw [hK, hk_close_k (by decide), jm_up_n (Or.inr (by decide))]
      have k6 : K k 6 = I k 6 := by rw [hK, hk_close_k (by decide), jm_up_n (Or.inr (by decide))]
      have c1 : hk_cg1 K k a b = I a b := by
        unfold hk_cg1
        rw [jm_up_n (Or.inl (by omega)), jm_up_n (Or.inl (by omega)), jm_up_n (Or.inl (by omega)), c]
      unfold hk_cg
      split
      · rw [jm_up_n (Or.inl (by omega)), c1]
      · split
        · rw [jm_up_n (Or.inl (by omega)), c1]
        · exact c1
    · exact c
theorem hq_K_pass {C : jm_M} {n : Nat} {T : Int} (h : hq_K C n T) {k : Nat} (hk : C 0 5 + k ≤ 9999) : hq_K (hk_cpn C n k) n T ∧ hq_fr C (hk_cpn C n k) ∧ hk_cpn C n k 0 5 = C 0 5 + k := by
  obtain ⟨M, H, N⟩ := h
  have e := H.1.2.1.1
  have q := hk_hours H k (by omega)
  exact ⟨hq_K_of q.1, fun a b ha => hk_cpn_o H ha k (by omega), by rw [q.1.1.2.1.1, q.2, e]⟩
theorem hq_K_plan {C C' : jm_M} {n : Nat} {T a b h s : Int} (K : hq_K C n T) (hn : n < 12) (ha : (0 ≤ a ∧ a ≤ 5) ∧ (0 ≤ b ∧ b ≤ 5) ∧ (0 ≤ s ∧ s ≤ 2)) (hh : a ≠ b ∧ C 0 5 + 1 ≤ h ∧ h ≤ 9999) (c0 : ∀ b, b ≠ 4 → C' 0 b = C 0 b) (c4 : C' 0 4 = n + 1) (co : ∀ x, x ≠ 0 → x ≠ 30 + (n : Int) → x ≠ 30 + (n : Int) + 100 → x ≠ 30 + (n : Int) + 100 + 100 → C' x = C x) (cg : hk_gnew C' (30 + n) a b s h) : hq_K C' (n + 1) T := by
  obtain ⟨M, H, N⟩ := K
  have e := H.1.2.1.1
  exact hq_K_of (hk_plan_eq H hn ha.1 ha.2.1 ha.2.2 hh.1 (by omega) c0 c4 (fun x x0 x1 x2 x3 x4 x5 x6 => co x (by omega) x2 x3 x4) cg).1
theorem hq_K_shoot {C C' : jm_M} {n : Nat} {T g lane wt tn lo hi z : Int} (K : hq_K C n T) (hT : 0 ≤ T) (hg : 0 ≤ g ∧ g < n) (hs : hk_shot lane wt tn lo hi) (p : hk_pshoots C C' g lane wt tn lo hi z) : hq_K C' n (T + 1) ∧ hq_fr C C' ∧ C' 0 5 = C 0 5 := by
  rcases p with ⟨st, hz, MB, m1, m2, m3, m4, m5, e⟩ | ⟨st, rfl, -⟩
  · have ex := hq_K_ex K g hg.1 hg.2 st
    have sh := hq_K_sh K hg.1 hg.2 st
    have n12 := (hq_K_0 K).2.2
    have mo : ∀ a b, 299 ≤ a → MB a b = C a b := fun a b ha => congrFun (m1 a (by omega) (by omega) (by omega)) b
    have mk : MB (30 + g) = C (30 + g) := m1 _ (by omega) (by omega) (by omega)
    have fr : hq_fr C C' := fun a b ha => by
      rw [e]
      by_cases q : C (30 + g) 5 = 1
      · rw [if_pos q, hk_sdr_o (by omega) (by rw [mk]; exact ex.1) (by rw [mk]; exact ex.2.1) ha, mo a b ha]
      · have f : ∀ c, hk_fill MB (30 + g + 100 + 100) 6 (MB (4 + 100 + 100)) (30 + g) c = C (30 + g) c := fun c => by rw [hk_fill_o (Or.inl (by omega)), mk]
        rw [if_neg q, hk_sst_o (by omega) (by rw [f]; exact ex.1) (by rw [f]; exact ex.2.1) (by rw [f]; exact sh) ha, hk_fill_o (Or.inl (by omega)), mo a b ha]
    obtain ⟨M, H, N⟩ := K
    have r5 : C (30 + g) 5 = M 309 g := (H.1.2.2.2.2.2.2.2.2.2.1 g hg.1 hg.2).1.2.2.2.2.1
    obtain ⟨s1, s2, s3, s4, s5⟩ := hs
    have q := hk_shoot_eq (C' := C') (M' := hk_msh M (hk_mth (jm_up M 300 0 0) (hk_mch 7 (hk_tku M g 324) (hk_tku M g 325) (hk_mslot M g) lane 0 (10 * wt) tn lo hi)) g) H N hT hg (by rw [← r5]; exact st) ⟨s1, s2⟩ ⟨by omega, s4⟩ rfl hz m1 m2 m3 (by rw [hz]; exact e) rfl
    refine ⟨hq_K_of q.1, fr, ?_⟩
    rw [q.1.1.2.1.1, H.1.2.1.1]
    exact (hk_msh_p (R := hk_mch 7 (hk_tku M g 324) (hk_tku M g 325) (hk_mslot M g) lane 0 (10 * wt) tn lo hi) (by rw [← r5]; exact st) rfl).2.2.2.1
  · obtain ⟨M, H, N⟩ := K
    exact ⟨⟨M, hk_inv_T H (by omega), N⟩, fun _ _ _ => rfl, rfl⟩
/-- a club that is new -/
theorem hq_K_new {I C : jm_M} (z : ∀ b, I 0 b = 0) (h : hk_h0 I C) : hq_K C 0 0 := by
  obtain ⟨⟨a4, a5, a6, a7, a8⟩, as, at', ao⟩ := h
  rw [z] at a4 a5 a8
  refine hq_K_of (M := fun a b => if a = 300 then (if b = 2 then 2 else if b = 3 then -1 else 0) else if a = 307 then (if 0 ≤ b ∧ b < 3 then -1 else 0) else 0) ⟨⟨⟨a4, by decide, by decide⟩, ⟨a5, by decide, by decide⟩, ⟨a6, by decide, by decide⟩, ⟨a7, by decide, fun _ => a8, fun q => absurd rfl q, by decide⟩, fun s s1 s2 => ⟨Or.inl rfl, (as s s1 s2).1, ?_⟩, fun s s1 s2 => ?_, fun k => by show (0 : Int) ≤ 0 ∧ (0 : Int) ≤ 9; decide, fun t t1 t2 => ⟨by rw [at' t t1 t2]; rfl, by rw [at' t t1 t2]; rfl, by rw [at' t t1 t2]; rfl⟩, fun t => by show ((0 : Int) ≤ 0 ∧ (0 : Int) ≤ 0) ∧ ((0 : Int) ≤ 0 ∧ (0 : Int) ≤ 0) ∧ ((0 : Int) ≤ 0 ∧ (0 : Int) ≤ 30 * 0); decide, fun g g1 g2 => by omega, fun g g1 g2 => ⟨rfl, rfl, rfl, rfl, rfl⟩⟩, fun g => by show (0 : Int) ≤ 10000; decide, fun g g1 g2 => by omega⟩
  · rw [(as s s1 s2).2.1]
    show (-1 : Int) = if 0 ≤ s ∧ s < 3 then -1 else 0
    rw [if_pos ⟨s1, s2⟩]
  · unfold hk_rs2
    rw [(as s s1 s2).2.2]
    funext k
    split <;> rfl
