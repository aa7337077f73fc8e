/-! TWO CLUBS IN A MIRROR: the numbers that are read are the same, wear and stones lie in the mirror -/
def hq_rd (n a b : Int) : Prop := (a = 0 ∧ 4 ≤ b ∧ b ≤ 8) ∨ (10 ≤ a ∧ a < 13 ∧ 1 ≤ b ∧ b ≤ 2) ∨ (20 ≤ a ∧ a < 26 ∧ 0 ≤ b ∧ b ≤ 2) ∨ (30 ≤ a ∧ a < 30 + n ∧ 0 ≤ b ∧ b ≤ 12 ∧ b ≠ 3)
def hq_R (C D : jm_M) (n : Int) : Prop := (∀ a b, hq_rd n a b → D a b = C a b) ∧ (∀ s, 0 ≤ s → s < 3 → hk_mW (C (10 + s + 100)) (D (10 + s + 100))) ∧ (∀ g, 0 ≤ g → g < n → hk_mF (C (30 + g + 100 + 100)) (D (30 + g + 100 + 100)))
theorem hq_up_f {I : jm_M} {k j v a : Int} (h : a ≠ k) : jm_up I k j v a = I a := funext fun _ => jm_up_n (Or.inl h)
section HQR
variable {C D : jm_M} {n : Int}
theorem hq_0 (R : hq_R C D n) {b : Int} (h : 4 ≤ b ∧ b ≤ 8) : D 0 b = C 0 b := R.1 0 b (Or.inl ⟨rfl, h⟩)
theorem hq_s (R : hq_R C D n) {s b : Int} (h : 0 ≤ s ∧ s < 3) (h2 : 1 ≤ b ∧ b ≤ 2) : D (10 + s) b = C (10 + s) b := R.1 _ b (Or.inr (Or.inl (by omega)))
theorem hq_t (R : hq_R C D n) {t b : Int} (h : 0 ≤ t ∧ t < 6) (h2 : 0 ≤ b ∧ b ≤ 2) : D (20 + t) b = C (20 + t) b := R.1 _ b (Or.inr (Or.inr (Or.inl (by omega))))
theorem hq_g (R : hq_R C D n) {g b : Int} (h : 0 ≤ g ∧ g < n) (h2 : 0 ≤ b ∧ b ≤ 12 ∧ b ≠ 3) : D (30 + g) b = C (30 + g) b := R.1 _ b (Or.inr (Or.inr (Or.inr (by omega))))
theorem hq_up (R : hq_R C D n) {k : Int} (j v : Int) (hk : k < 100) : hq_R (jm_up C k j v) (jm_up D k j v) n := by
  refine ⟨fun a b h => ?_, fun s h0 h1 => ?_, fun g h0 h1 => ?_⟩
  · unfold jm_up
    rw [R.1 a b h]
  · rw [hq_up_f (by omega), hq_up_f (by omega)]; exact R.2.1 s h0 h1
  · rw [hq_up_f (by omega), hq_up_f (by omega)]; exact R.2.2 g h0 h1
theorem hq_f0 (R : hq_R C D n) {s : Int} (hs : 0 ≤ s) (hs3 : s < 3) (hn : n ≤ 12) : hq_R (hk_fill C (10 + s + 100) 549 (fun _ => 0)) (hk_fill D (10 + s + 100) 549 (fun _ => 0)) n := by
  refine ⟨fun a b h => ?_, fun t h0 h1 => ?_, fun g h0 h1 => ?_⟩
  · have ha : a ≠ 10 + s + 100 := by unfold hq_rd at h; omega
    rw [hk_fill_o (Or.inl ha), hk_fill_o (Or.inl ha)]; exact R.1 a b h
  · by_cases e : t = s
    · subst e
      intro x y h2 h3 h4 h5
      rw [hk_fill_i (by omega), hk_fill_i (by omega)]
    · rw [hk_fill_f (by omega), hk_fill_f (by omega)]; exact R.2.1 t h0 h1
  · rw [hk_fill_f (by omega), hk_fill_f (by omega)]; exact R.2.2 g h0 h1
theorem hq_fs (R : hq_R C D n) {g : Int} {u v : Int → Int} (hg : 0 ≤ g) (hg2 : g < n) (hn : n ≤ 12) (h : hk_mF u v) : hq_R (hk_fill C (30 + g + 100 + 100) 6 u) (hk_fill D (30 + g + 100 + 100) 6 v) n := by
  refine ⟨fun a b q => ?_, fun t h0 h1 => ?_, fun t h0 h1 => ?_⟩
  · have ha : a ≠ 30 + g + 100 + 100 := by unfold hq_rd at q; omega
    rw [hk_fill_o (Or.inl ha), hk_fill_o (Or.inl ha)]; exact R.1 a b q
  · rw [hk_fill_f (by omega), hk_fill_f (by omega)]; exact R.2.1 t h0 h1
  · by_cases e : t = g
    · subst e
      intro j j0 j1
      rw [hk_fill_i ⟨j0, j1⟩, hk_fill_i ⟨j0, j1⟩]; exact h j j0 j1
    · rw [hk_fill_f (by omega), hk_fill_f (by omega)]; exact R.2.2 t h0 h1
-- hours
theorem hq_lhw (R : hq_R C D n) (s : Int) : ∀ k : Nat, hk_lhw D n s k = hk_lhw C n s k
  | 0 => rfl
  | k + 1 => by
    rw [hk_lhw, hk_lhw, hq_lhw R s k]
    by_cases q : (k : Int) < n
    · rw [hq_g R (g := k) ⟨by omega, q⟩ (b := 5) (by decide), hq_g R (g := k) ⟨by omega, q⟩ (b := 2) (by decide), hq_g R (g := k) ⟨by omega, q⟩ (b := 4) (by decide)]
    · rw [if_neg (fun z => q z.1), if_neg (fun z => q z.1)]
theorem hq_stm (R : hq_R C D n) : ∀ k : Nat, k ≤ 3 → hk_stm D n k = hk_stm C n k
  | 0, _ => rfl
  | k + 1, hk => by rw [hk_stm, hk_stm, hq_stm R k (by omega), hq_s R (s := k) (by omega) (b := 1) (by decide), hq_s R (s := k) (by omega) (b := 2) (by decide), hq_lhw R]
theorem hq_frd (R : hq_R C D n) : ∀ (k : Nat) (i : Int), 0 ≤ i → i + k ≤ 3 → hk_frd D k i = hk_frd C k i
  | 0, _, _, _ => rfl
  | k + 1, i, h0, h1 => by rw [hk_frd, hk_frd, hq_frd R k (i + 1) (by omega) (by omega), hq_s R (s := i) (by omega) (b := 1) (by decide), hq_s R (s := i) (by omega) (b := 2) (by decide)]
theorem hq_stp (R : hq_R C D n) {x : Int} (h : 0 ≤ x ∧ x < 3) : hk_stp D x = hk_stp C x := by
  unfold hk_stp
  rw [hq_s R h (b := 1) (by decide), hq_s R h (b := 2) (by decide), hq_frd R 3 0 (by omega) (by omega)]
theorem hq_work1 (R : hq_R C D n) : hq_R (hk_work1 C) (hk_work1 D) n := by
  unfold hk_work1
  rw [hq_0 R (b := 8) (by decide)]
  split
  · exact hq_up R _ _ (by decide)
  · exact R
theorem hq_work2 (R : hq_R C D n) (h7 : -1 ≤ C 0 7 ∧ C 0 7 < 3) (hn : n ≤ 12) : hq_R (hk_work2 C) (hk_work2 D) n := by
  unfold hk_work2
  rw [hq_0 R (b := 7) (by decide)]
  split
  · exact R
  · exact hq_f0 (hq_up R _ _ (by omega)) (by omega) (by omega) hn
theorem hq_work3 (R : hq_R C D n) : hq_R (hk_work3 C n) (hk_work3 D n) n := by
  unfold hk_work3
  rw [hq_stm R 3 (by decide)]
  exact hq_up R _ _ (by decide)
theorem hq_work4 (R : hq_R C D n) : hq_R (hk_work4 C) (hk_work4 D) n := by
  unfold hk_work4
  rw [hq_0 R (b := 7) (by decide), hq_0 R (b := 6) (by decide)]
  split
  · exact R
  · exact hq_up R _ _ (by decide)
theorem hq_work (R : hq_R C D n) (h7 : -1 ≤ C 0 7 ∧ C 0 7 < 3) (hn : n ≤ 12) : hq_R (hk_work C n) (hk_work D n) n := by
  have R1 := hq_work1 R
  have e7 : hk_work1 C 0 7 = C 0 7 := hk_work1_o (Or.inr (by decide))
  unfold hk_work
  rw [hq_0 R1 (b := 8) (by decide)]
  split
  · exact R1
  · exact hq_work4 (hq_work3 (hq_work2 R1 (by rw [e7]; exact h7) hn))
theorem hq_bg1 (R : hq_R C D n) {i : Int} (h0 : 0 ≤ i) (hn : n ≤ 12) (hw : i < n → 0 ≤ C (30 + i) 2 ∧ C (30 + i) 2 < 3) : hq_R (hk_bg1 C n i) (hk_bg1 D n i) n := by
  unfold hk_bg1
  by_cases q : i < n
  · have w := hw q
    have st := hk_stp_r C w
    rw [hq_g R ⟨h0, q⟩ (b := 5) (by decide), hq_g R ⟨h0, q⟩ (b := 4) (by decide), hq_0 R (b := 5) (by decide), hq_g R ⟨h0, q⟩ (b := 2) (by decide), hq_stp R w]
    split
    · split
      · exact hq_up R _ _ (by omega)
      · exact hq_up (hq_up (hq_up (hq_up R _ _ (by omega)) _ _ (by omega)) _ _ (by omega)) _ _ (by omega)
    · exact R
  · rw [if_neg (fun z => q z.1), if_neg (fun z => q z.1)]; exact R
theorem hq_bg (R : hq_R C D n) (hn : n ≤ 12) (hw : ∀ i, 0 ≤ i → i < n → 0 ≤ C (30 + i) 2 ∧ C (30 + i) 2 < 3) : ∀ k : Nat, hq_R (hk_bg C n k) (hk_bg D n k) n
  | 0 => R
  | k + 1 => by
    have e := (hk_bg_o (I := C) (ng := n) (a := 0) (b := 5) (by omega) hk_stp_x hw k).2
    exact hq_bg1 (hq_bg R hn hw k) (by omega) hn (fun q => by rw [e k (by omega)]; exact hw k (by omega) q)
theorem hq_cp1 (R : hq_R C D n) (hn : n ≤ 12) (hc : hk_ck C n) : hq_R (hk_cp1 C n) (hk_cp1 D n) n := by
  obtain ⟨h7, h8, h6, hw, h4⟩ := hc
  have e : ∀ a b, (a ≠ 0 ∨ b ≠ 5) → jm_up C 0 5 (C 0 5 + 1) a b = C a b := fun a b h => jm_up_n h
  have g7 : -1 ≤ jm_up C 0 5 (C 0 5 + 1) 0 7 ∧ jm_up C 0 5 (C 0 5 + 1) 0 7 < 3 := by rw [e 0 7 (Or.inr (by decide))]; exact h7
  unfold hk_cp1
  rw [hq_0 R (b := 5) (by decide)]
  exact hq_bg (hq_work (hq_up R _ _ (by decide)) g7 hn) hn (fun i h0 h1 => by rw [hk_work_o g7 (by omega) (Or.inl (by omega)), e _ _ (Or.inl (by omega))]; exact hw i h0 h1) 12
end HQR
theorem hq_cpn {C D : jm_M} {n : Nat} {T : Int} (R : hq_R C D n) (K : hq_K C n T) : ∀ k : Nat, C 0 5 + k ≤ 9999 → hq_R (hk_cpn C n k) (hk_cpn D n k) n
  | 0, _ => R
  | k + 1, h => by
    have K1 := hq_K_pass K (k := k) (by omega)
    have n12 := (hq_K_0 K).2.2
    exact hq_cp1 (hq_cpn R K k (by omega)) (by omega) (hq_K_ck K1.1)
-- throws
section HQT
variable {C D : jm_M} {n : Int}
theorem hq_dteam (R : hq_R C D n) {g : Int} (hg : 0 ≤ g ∧ g < n) : hk_dteam D (30 + g) = hk_dteam C (30 + g) := by
  unfold hk_dteam
  rw [hq_g R hg (b := 5) (by decide), hq_g R hg (b := 11) (by decide), hq_g R hg (b := 12) (by decide), hq_g R hg (b := 0) (by decide), hq_g R hg (b := 1) (by decide)]
theorem hq_draw (R : hq_R C D n) {g : Int} (d : Int) (hg : 0 ≤ g ∧ g < n) (hn : n ≤ 12) : hq_R (hk_draw C (30 + g) d) (hk_draw D (30 + g) d) n := by
  unfold hk_draw
  rw [hq_g R hg (b := 11) (by decide), hq_g R hg (b := 7) (by decide)]
  split
  · exact hq_up (hq_up R _ _ (by omega)) _ _ (by omega)
  · exact hq_up (hq_up (hq_up R _ _ (by omega)) _ _ (by omega)) _ _ (by omega)
theorem hq_sdr (R : hq_R C D n) {g : Int} (d : Int) (hg : 0 ≤ g ∧ g < n) (hn : n ≤ 12) (h0 : 0 ≤ C (30 + g) 0 ∧ C (30 + g) 0 < 6) (h1 : 0 ≤ C (30 + g) 1 ∧ C (30 + g) 1 < 6) : hq_R (hk_sdr C (30 + g) d) (hk_sdr D (30 + g) d) n := by
  have t : 0 ≤ hk_dteam C (30 + g) ∧ hk_dteam C (30 + g) < 6 := by unfold hk_dteam; split <;> omega
  unfold hk_sdr
  refine hq_draw ?_ d hg hn
  unfold hk_sdr1
  rw [hq_dteam R hg, hq_t R t (b := 1) (by decide), hq_t R t (b := 2) (by decide)]
  exact hq_up (hq_up R _ _ (by omega)) _ _ (by omega)
theorem hq_close (R : hq_R C D n) {g : Int} (hg : 0 ≤ g ∧ g < n) (hn : n ≤ 12) (k : hk_good (C (30 + g + 100 + 100))) : hq_R (hk_close C (30 + g)) (hk_close D (30 + g)) n := by
  have es := hk_m_score (R.2.2 g hg.1 hg.2) k
  unfold hk_close
  dsimp only
  rw [es, hq_g R hg (b := 8) (by decide), hq_g R hg (b := 9) (by decide), hq_g R hg (b := 10) (by decide)]
  refine hq_up (hq_up (hq_fs ?_ hg.1 hg.2 hn (fun j _ _ => by decide)) _ _ (by omega)) _ _ (by omega)
  split
  · exact hq_up (hq_up R _ _ (by omega)) _ _ (by omega)
  · split
    · exact hq_up (hq_up R _ _ (by omega)) _ _ (by omega)
    · exact R
theorem hq_cg (R : hq_R C D n) {g : Int} (hg : 0 ≤ g ∧ g < n) (hn : n ≤ 12) (h0 : 0 ≤ C (30 + g) 0 ∧ C (30 + g) 0 < 6) (h1 : 0 ≤ C (30 + g) 1 ∧ C (30 + g) 1 < 6) (h6 : 0 ≤ C (30 + g) 6 ∧ C (30 + g) 6 < 3) : hq_R (hk_cg C (30 + g)) (hk_cg D (30 + g)) n := by
  have R1 : hq_R (hk_cg1 C (30 + g)) (hk_cg1 D (30 + g)) n := by
    unfold hk_cg1
    rw [hq_g R hg (b := 6) (by decide)]
    exact hq_up (hq_up (hq_up R _ _ (by omega)) _ _ (by omega)) _ _ (by omega)
  unfold hk_cg
  rw [hq_g R hg (b := 9) (by decide), hq_g R hg (b := 8) (by decide), hq_g R hg (b := 0) (by decide), hq_g R hg (b := 1) (by decide), hq_t R h0 (b := 0) (by decide), hq_t R h1 (b := 0) (by decide)]
  split
  · exact hq_up R1 _ _ (by omega)
  · split
    · exact hq_up R1 _ _ (by omega)
    · exact R1
theorem hq_sst (R : hq_R C D n) {g : Int} (hg : 0 ≤ g ∧ g < n) (hn : n ≤ 12) (h0 : 0 ≤ C (30 + g) 0 ∧ C (30 + g) 0 < 6) (h1 : 0 ≤ C (30 + g) 1 ∧ C (30 + g) 1 < 6) (h6 : 0 ≤ C (30 + g) 6 ∧ C (30 + g) 6 < 3) (k : hk_good (C (30 + g + 100 + 100))) : hq_R (hk_sst C (30 + g)) (hk_sst D (30 + g)) n := by
  have R1 : hq_R (jm_up C (30 + g) 11 (C (30 + g) 11 + 1)) (jm_up D (30 + g) 11 (C (30 + g) 11 + 1)) n := hq_up R _ _ (by omega)
  have R2 := hq_close R1 hg hn (by rw [hq_up_f (by omega)]; exact k)
  have c0 : ∀ b, b = 0 ∨ b = 1 ∨ b = 6 → hk_close (jm_up C (30 + g) 11 (C (30 + g) 11 + 1)) (30 + g) (30 + g) b = C (30 + g) b := fun b hb => by rw [hk_close_k (by omega), jm_up_n (Or.inr (by omega))]
  unfold hk_sst
  rw [hq_g R hg (b := 11) (by decide), hq_g R2 hg (b := 10) (by decide)]
  split
  · exact R1
  · split
    · exact hq_cg R2 hg hn (by rw [c0 0 (by decide)]; exact h0) (by rw [c0 1 (by decide)]; exact h1) (by rw [c0 6 (by decide)]; exact h6)
    · exact R2
end HQT
