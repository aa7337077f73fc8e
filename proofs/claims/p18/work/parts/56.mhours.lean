/-! the model's hours -/
def hk_mhr (I : jm_M) (s : Int) : Nat → Int
  | 0 => 10099
  | n + 1 => if I 309 n = 0 ∧ I 313 n = s ∧ I 312 n < hk_mhr I s n then I 312 n else hk_mhr I s n
def hk_mwa (I : jm_M) (ng : Nat) : Nat → Int × Int
  | 0 => (-1, 0)
  | n + 1 => if I 307 n = -1 ∧ I 306 n ≠ 0 ∧ ((hk_mwa I ng n).1 = -1 ∨ hk_mhr I n ng < (hk_mwa I ng n).2) then ((n : Int), hk_mhr I n ng) else hk_mwa I ng n
theorem hk_mwa_r (I : jm_M) (ng : Nat) : ∀ n : Nat, -1 ≤ (hk_mwa I ng n).1 ∧ (hk_mwa I ng n).1 < n
  | 0 => ⟨by unfold hk_mwa; decide, by unfold hk_mwa; decide⟩
  | n + 1 => by
    have h := hk_mwa_r I ng n
    unfold hk_mwa
    split
    · exact ⟨by show -1 ≤ (n : Int); omega, by show (n : Int) < _; omega⟩
    · omega
/-- the sheet that a game gets, of the model's rows: the one wished for, else the first that is free and made; -1 -/
def hk_mfd (I : jm_M) : Nat → Int → Int
  | 0, _ => -1
  | n + 1, i => if I 307 i = -1 ∧ I 306 i = 0 then i else hk_mfd I n (i + 1)
def hk_mfr (I : jm_M) (wi : Int) : Int := if I 307 wi = -1 ∧ I 306 wi = 0 then wi else hk_mfd I 3 0
def hk_due (I : jm_M) (g : Int) : Prop := I 309 g = 0 ∧ I 312 g ≤ I 300 1
def hk_mb1 (M : jm_M) (g : Int) : jm_M :=
  if M 309 g = 0 ∧ M 312 g ≤ M 300 1 then
    (if hk_mfr M (M 313 g) = -1 then jm_up M 312 g (M 312 g + 1)
     else jm_up (jm_up (jm_up (jm_up M 309 g 1) 314 g (hk_mfr M (M 313 g))) 307 (hk_mfr M (M 313 g)) g) 306 (hk_mfr M (M 313 g)) 1)
  else M
def hk_mbg (I : jm_M) : Nat → jm_M
  | 0 => I
  | n + 1 => hk_mb1 (hk_mbg I n) n
theorem hk_mfd_r (I : jm_M) : ∀ (n : Nat) (i : Int), 0 ≤ i → -1 ≤ hk_mfd I n i ∧ hk_mfd I n i < i + n
  | 0, i, h => ⟨by unfold hk_mfd; omega, by unfold hk_mfd; omega⟩
  | n + 1, i, h => by
    have q := hk_mfd_r I n (i + 1) (by omega)
    unfold hk_mfd
    split <;> omega
theorem hk_mfr_r (I : jm_M) {wi : Int} (h : 0 ≤ wi ∧ wi < 3) : -1 ≤ hk_mfr I wi ∧ hk_mfr I wi < 3 := by
  have q := hk_mfd_r I 3 0 (by omega)
  unfold hk_mfr
  split <;> omega
/-- what a game's beginning leaves alone -/
theorem hk_mb1_o {M : jm_M} {g a : Int} (h : a ≠ 312 ∧ a ≠ 309 ∧ a ≠ 314 ∧ a ≠ 307 ∧ a ≠ 306) : hk_mb1 M g a = M a := by
  unfold hk_mb1
  funext b
  split
  · split
    · exact jm_up_n (Or.inl h.1)
    · rw [jm_up_n (Or.inl h.2.2.2.2), jm_up_n (Or.inl h.2.2.2.1), jm_up_n (Or.inl h.2.2.1), jm_up_n (Or.inl h.2.1)]
  · rfl
theorem hk_mb1_i {M : jm_M} {g a b : Int} (h : a = 312 ∨ a = 309 ∨ a = 314 ∨ a = 313) (hb : b ≠ g) : hk_mb1 M g a b = M a b := by
  unfold hk_mb1
  split
  · split
    · exact jm_up_n (Or.inr hb)
    · rw [jm_up_n (Or.inl (by omega)), jm_up_n (Or.inl (by omega)), jm_up_n (Or.inr hb), jm_up_n (Or.inr hb)]
  · rfl
theorem hk_mbg_o (I : jm_M) {a : Int} (h : a ≠ 312 ∧ a ≠ 309 ∧ a ≠ 314 ∧ a ≠ 307 ∧ a ≠ 306) : ∀ n, hk_mbg I n a = I a
  | 0 => rfl
  | n + 1 => (hk_mb1_o h).trans (hk_mbg_o I h n)
theorem hk_mbg_i (I : jm_M) {a b : Int} (h : a = 312 ∨ a = 309 ∨ a = 314 ∨ a = 313) : ∀ n : Nat, (n : Int) ≤ b → hk_mbg I n a b = I a b
  | 0, _ => rfl
  | n + 1, hb => (hk_mb1_i h (by omega)).trans (hk_mbg_i I h n (by omega))
theorem hk_mbg_d (I : jm_M) (n : Nat) {b : Int} (h : (n : Int) ≤ b) : hk_due (hk_mbg I n) b ↔ hk_due I b := by
  unfold hk_due
  rw [hk_mbg_i I (Or.inr (Or.inl rfl)) n h, hk_mbg_i I (Or.inl rfl) n h, hk_mbg_o I (by decide) n]
theorem hk_mbg_skip (I : jm_M) (n : Nat) : ∀ k : Nat, (∀ i : Int, n ≤ i → i < (n + k : Nat) → ¬ hk_due I i) → hk_mbg I (n + k) = hk_mbg I n
  | 0, _ => rfl
  | k + 1, h => by
    have ih := hk_mbg_skip I n k (fun i a b => h i a (by omega))
    show hk_mb1 (hk_mbg I (n + k)) ((n + k : Nat) : Int) = _
    unfold hk_mb1
    refine (if_neg ?_).trans ih
    exact fun q => h ((n + k : Nat) : Int) (by omega) (by omega) ((hk_mbg_d I (n + k) (Int.le_refl _)).mp q)
theorem hk_mfd_in (I : jm_M) : ∀ (n : Nat) (i : Int), hk_mfd I n i ≠ -1 → I 307 (hk_mfd I n i) = -1 ∧ I 306 (hk_mfd I n i) = 0
  | 0, i, h => absurd rfl h
  | n + 1, i, h => by
    unfold hk_mfd at h ⊢
    by_cases q : I 307 i = -1 ∧ I 306 i = 0
    · rw [if_pos q]; exact q
    · rw [if_neg q] at h ⊢; exact hk_mfd_in I n (i + 1) h
theorem hk_mfd_s (I : jm_M) (r : Nat) (kv : Int) : hk_mfd I (r + 1) kv = if I 307 kv = -1 ∧ I 306 kv = 0 then kv else hk_mfd I r (kv + 1) := rfl
def hk_mp1 (I : jm_M) : jm_M := jm_up I 300 1 (I 300 1 + 1)
def hk_mp2 (I : jm_M) : jm_M :=
  if I 300 3 = -1 then I
  else if I 300 4 - 1 = 0 then jm_up (hk_filo (jm_up (jm_up I 300 4 (I 300 4 - 1)) 306 (I 300 3) 0) 305 (549 * I 300 3) 549 (fun _ => 0)) 300 3 (-1)
  else jm_up I 300 4 (I 300 4 - 1)
def hk_mp3 (I : jm_M) (n : Nat) : jm_M := if I 300 3 = -1 then jm_up (jm_up I 300 3 (hk_mwa I n 3).1) 300 4 (I 300 2) else I
def hk_mbe (I : jm_M) (n : Nat) : jm_M := hk_fill (hk_mbg I n) 327 n (fun _ => 1)
def hk_mps (I : jm_M) (n : Nat) : jm_M := hk_mbe (hk_mp3 (hk_mp2 (hk_mp1 I)) n) n
def hk_mpn (I : jm_M) (n : Nat) : Nat → jm_M
  | 0 => I
  | k + 1 => hk_mps (hk_mpn I n k) n
theorem hk_mp2_o {I : jm_M} {a : Int} (h : a ≠ 300 ∧ a ≠ 306 ∧ a ≠ 305) : hk_mp2 I a = I a := by
  unfold hk_mp2
  funext b
  split
  · rfl
  · split
    · rw [jm_up_n (Or.inl h.1), hk_filo_o (Or.inl h.2.2), jm_up_n (Or.inl h.2.1), jm_up_n (Or.inl h.1)]
    · rw [jm_up_n (Or.inl h.1)]
theorem hk_mp2_g {I : jm_M} {b : Int} (h : b ≠ 3 ∧ b ≠ 4) : hk_mp2 I 300 b = I 300 b := by
  unfold hk_mp2
  split
  · rfl
  · split
    · rw [jm_up_n (Or.inr h.1), hk_filo_o (Or.inl (by decide)), jm_up_n (Or.inl (by decide)), jm_up_n (Or.inr h.2)]
    · rw [jm_up_n (Or.inr h.2)]
theorem hk_mp3_o {I : jm_M} {n : Nat} {a : Int} (h : a ≠ 300) : hk_mp3 I n a = I a := by
  unfold hk_mp3
  funext b
  split
  · rw [jm_up_n (Or.inl h), jm_up_n (Or.inl h)]
  · rfl
theorem hk_mp3_g {I : jm_M} {n : Nat} {b : Int} (h : b ≠ 3 ∧ b ≠ 4) : hk_mp3 I n 300 b = I 300 b := by
  unfold hk_mp3
  split
  · rw [jm_up_n (Or.inr h.2), jm_up_n (Or.inr h.1)]
  · rfl
theorem hk_mp1_o {I : jm_M} {a : Int} (h : a ≠ 300) : hk_mp1 I a = I a := by
  funext b
  exact jm_up_n (Or.inl h)
theorem hk_mp1_g {I : jm_M} {b : Int} (h : b ≠ 1) : hk_mp1 I 300 b = I 300 b := jm_up_n (Or.inr h)
theorem hk_mbe_o {I : jm_M} {n : Nat} {a : Int} (h : a ≠ 312 ∧ a ≠ 309 ∧ a ≠ 314 ∧ a ≠ 307 ∧ a ≠ 306 ∧ a ≠ 327) : hk_mbe I n a = I a :=
  (hk_fill_f h.2.2.2.2.2).trans (hk_mbg_o I ⟨h.1, h.2.1, h.2.2.1, h.2.2.2.1, h.2.2.2.2.1⟩ n)
theorem hk_mbg_hr (I : jm_M) {T : Int} (hT : I 300 1 < T) (h : ∀ g, I 312 g ≤ T) : ∀ (n : Nat) (g : Int), hk_mbg I n 312 g ≤ T
  | 0, g => h g
  | n + 1, g => by
    have ih := hk_mbg_hr I hT h n
    have e : hk_mbg I n 300 = I 300 := hk_mbg_o I (by decide) n
    show hk_mb1 (hk_mbg I n) n 312 g ≤ T
    unfold hk_mb1
    split
    · rename_i q
      split
      · by_cases e2 : g = n
        · subst e2
          rw [jm_up_s]
          have q2 := q.2
          rw [e] at q2
          omega
        · rw [jm_up_n (Or.inr e2)]; exact ih g
      · rw [jm_up_n (Or.inl (by decide)), jm_up_n (Or.inl (by decide)), jm_up_n (Or.inl (by decide)), jm_up_n (Or.inl (by decide))]; exact ih g
    · exact ih g
theorem hk_mbg_pl (I : jm_M) (N : Int) (h : ∀ g, 0 ≤ g → I 309 g = 0 → g < N → I 300 1 ≤ I 312 g) : ∀ (n : Nat) (g : Int), 0 ≤ g → hk_mbg I n 309 g = 0 → g < N → (g < n → I 300 1 < hk_mbg I n 312 g) ∧ I 300 1 ≤ hk_mbg I n 312 g
  | 0, g, h0, h1, hN => ⟨fun q => absurd q (by omega), h g h0 h1 hN⟩
  | n + 1, g, h0, h1, hN => by
    have ih := hk_mbg_pl I N h n
    have e : hk_mbg I n 300 = I 300 := hk_mbg_o I (by decide) n
    revert h1
    show hk_mb1 (hk_mbg I n) n 309 g = 0 → (g < (n + 1 : Nat) → I 300 1 < hk_mb1 (hk_mbg I n) n 312 g) ∧ I 300 1 ≤ hk_mb1 (hk_mbg I n) n 312 g
    by_cases e2 : g = n
    · subst e2
      unfold hk_mb1
      split
      · rename_i q
        have q2 := ih _ h0 q.1 hN
        split
        · rw [jm_up_s]; intro h1; exact ⟨fun _ => by omega, by omega⟩
        · rw [jm_up_n (Or.inl (by decide)), jm_up_n (Or.inl (by decide)), jm_up_n (Or.inl (by decide)), jm_up_s]
          intro h1; exact absurd h1 (by decide)
      · rename_i q
        intro h1
        have q2 := ih _ h0 h1 hN
        rw [e] at q
        refine ⟨fun _ => ?_, q2.2⟩
        have q3 : ¬ hk_mbg I n 312 n ≤ I 300 1 := fun z => q ⟨h1, z⟩
        omega
    · rw [hk_mb1_i (Or.inr (Or.inl rfl)) e2, hk_mb1_i (Or.inl rfl) e2]
      intro h1
      have q2 := ih g h0 h1 hN
      exact ⟨fun q => q2.1 (by omega), q2.2⟩
/-- what an hour of the model asks for -/
def hk_pk (I : jm_M) (n : Nat) : Prop := (-1 ≤ I 300 3 ∧ I 300 3 < 3) ∧ (I 300 3 = -1 ∨ 1 ≤ I 300 4) ∧ (-1 ≤ I 300 4 ∧ I 300 4 ≤ 1000) ∧ (1 ≤ I 300 2 ∧ I 300 2 ≤ 6) ∧ I 300 8 = n ∧ (∀ g : Int, 0 ≤ g → g < n → 0 ≤ I 313 g ∧ I 313 g < 3) ∧ (∀ g : Int, 0 ≤ g → I 309 g = 0 → g < n → I 300 1 < I 312 g) ∧ (∀ g, I 312 g ≤ 10000) ∧ 0 ≤ I 300 1
theorem hk_mbq (J : jm_M) (n : Nat) {t : Int} (f1 : J 300 1 = t + 1) (h : ∀ g, 0 ≤ g → J 309 g = 0 → g < n → t < J 312 g) (g : Int) (a : 0 ≤ g) (b : hk_mbg J n 309 g = 0) (c : g < n) : t + 1 < hk_mbg J n 312 g := by
  have q := (hk_mbg_pl J n (fun g a b c => by have := h g a b c; omega) n g a b c).1 c
  omega
theorem hk_pk_0 {I : jm_M} {n : Nat} {v : Int} (h : hk_pk I n) : hk_pk (jm_up I 300 0 v) n := by
  unfold hk_pk at h ⊢
  have e : ∀ a b, (a ≠ 300 ∨ b ≠ 0) → jm_up I 300 0 v a b = I a b := fun a b q => jm_up_n q
  have e1 : jm_up I 300 0 v 313 = I 313 := by funext b; exact e _ _ (Or.inl (by decide))
  have e2 : jm_up I 300 0 v 309 = I 309 := by funext b; exact e _ _ (Or.inl (by decide))
  have e3 : jm_up I 300 0 v 312 = I 312 := by funext b; exact e _ _ (Or.inl (by decide))
  rw [e 300 3 (Or.inr (by decide)), e 300 4 (Or.inr (by decide)), e 300 2 (Or.inr (by decide)), e 300 8 (Or.inr (by decide)), e 300 1 (Or.inr (by decide)), e1, e2, e3]
  exact h
theorem hk_pk_s {I : jm_M} {n : Nat} (h : hk_pk I n) (hn : I 300 1 ≤ 9998) : hk_pk (hk_mps I n) n ∧ hk_mps I n 300 1 = I 300 1 + 1 := by
  obtain ⟨h1, h2, h3, h4, h5, h6, h7, h8, h9⟩ := h
  obtain ⟨J, hJ⟩ : ∃ X, X = hk_mp3 (hk_mp2 (hk_mp1 I)) n := ⟨_, rfl⟩
  have hp : hk_mps I n = hk_mbe J n := by rw [hJ]; rfl
  have row : ∀ a, a ≠ 300 → a ≠ 305 → a ≠ 306 → J a = I a := fun a q1 q2 q3 => by rw [hJ, hk_mp3_o q1, hk_mp2_o ⟨q1, q3, q2⟩, hk_mp1_o q1]
  have f8 : J 300 8 = I 300 8 := by rw [hJ, hk_mp3_g (by decide), hk_mp2_g (by decide), hk_mp1_g (by decide)]
  have f2 : J 300 2 = I 300 2 := by rw [hJ, hk_mp3_g (by decide), hk_mp2_g (by decide), hk_mp1_g (by decide)]
  have f1 : J 300 1 = I 300 1 + 1 := by rw [hJ, hk_mp3_g (by decide), hk_mp2_g (by decide)]; exact jm_up_s _ _ _ _
  have m3 : hk_mp1 I 300 3 = I 300 3 := hk_mp1_g (by decide)
  have m4 : hk_mp1 I 300 4 = I 300 4 := hk_mp1_g (by decide)
  obtain ⟨B, hB⟩ : ∃ X, X = hk_mp2 (hk_mp1 I) := ⟨_, rfl⟩
  have b2 : B 300 2 = I 300 2 := by rw [hB, hk_mp2_g (by decide), hk_mp1_g (by decide)]
  have b34 : (B 300 3 = -1 ∧ -1 ≤ B 300 4 ∧ B 300 4 ≤ 1000) ∨ ((0 ≤ B 300 3 ∧ B 300 3 < 3) ∧ 1 ≤ B 300 4 ∧ B 300 4 ≤ 1000) := by
    rw [hB]
    unfold hk_mp2
    rw [m3, m4]
    split
    · rw [m3, m4]; left; omega
    · split
      · left
        rw [jm_up_s, jm_up_n (Or.inr (by decide)), hk_filo_o (Or.inl (by decide)), jm_up_n (Or.inl (by decide)), jm_up_s]
        omega
      · right
        rw [jm_up_n (Or.inr (by decide)), jm_up_s, m3]
        omega
  have j34 : (-1 ≤ J 300 3 ∧ J 300 3 < 3) ∧ (J 300 3 = -1 ∨ 1 ≤ J 300 4) ∧ (-1 ≤ J 300 4 ∧ J 300 4 ≤ 1000) := by
    rw [hJ, ← hB]
    unfold hk_mp3
    have wr := hk_mwa_r B n 3
    split
    · rw [jm_up_s, jm_up_n (Or.inr (by decide)), jm_up_s, b2]
      omega
    · omega
  have g3 : hk_mbe J n 300 = J 300 := hk_mbe_o (by decide)
  have g13 : hk_mbe J n 313 = I 313 := (hk_mbe_o (by decide)).trans (row _ (by decide) (by decide) (by decide))
  have g9 : hk_mbe J n 309 = hk_mbg J n 309 := hk_fill_f (by decide)
  have g12 : hk_mbe J n 312 = hk_mbg J n 312 := hk_fill_f (by decide)
  refine ⟨?_, by rw [hp, g3, f1]⟩
  unfold hk_pk
  rw [hp, g3, f8, f2, f1, g13, g9, g12]
  refine ⟨j34.1, j34.2.1, j34.2.2, h4, h5, h6, fun g a b c => ?_, fun g => ?_, by omega⟩
  · have q := hk_mbq J n f1 (fun g a b c => by rw [row 309 (by decide) (by decide) (by decide)] at b; rw [row 312 (by decide) (by decide) (by decide)]; exact h7 g a b c) g a b c
    omega
  · exact hk_mbg_hr J (by omega) (fun g => by rw [row 312 (by decide) (by decide) (by decide)]; exact h8 g) n g
theorem hk_mpn_0 {J : jm_M} {n : Nat} : ∀ k, hk_mpn J n k 300 0 = J 300 0
  | 0 => rfl
  | k + 1 => by
    show hk_mps (hk_mpn J n k) n 300 0 = _
    unfold hk_mps
    rw [hk_mbe_o (by decide), hk_mp3_g (by decide), hk_mp2_g (by decide), hk_mp1_g (by decide)]
    exact hk_mpn_0 k
