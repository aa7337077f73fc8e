/-! the model's hours -/
def hk_mhr (I : jm_M) (s : Int) : Nat → Int
  | 0 => 10099
  | n + 1 => if I 309 n = 0 ∧ I 313 n = s ∧ I 312 n < hk_mhr I s n then I 312 n else hk_mhr I s n
def hk_mwa (I : jm_M) (ng : Nat) : Nat → Int × Int
  | 0 => (-1, 0)
  | n + 1 => if I 307 n = -1 ∧ I 306 n ≠ 0 ∧ ((hk_mwa I ng n).1 = -1 ∨ hk_mhr I n ng < (hk_mwa I ng n).2) then ((n : Int), hk_mhr I n ng) else hk_mwa I ng n
theorem hk_mwa_r (I : jm_M) (ng : Nat) : ∀ n : Nat, -1 ≤ (hk_mwa I ng n).1 ∧ (hk_mwa I ng n).1 < n
  | 0 => ⟨by unfold hk_mwa; decide, by unfold hk_mwa; decide⟩
  | n + 1 => by
    have h := hk_mwa_r I ng n
    unfold hk_mwa
    split
    · exact ⟨by show -1 ≤ (n : Int); omega, by show (n : Int) < _; omega⟩
    · omega
/-- the sheet that a game gets, of the model's rows: the one wished for, else the first that is free and made; -1 -/
def hk_mfd (I : jm_M) : Nat → Int → Int
  | 0, _ => -1
  | n + 1, i => if I 307 i = -1 ∧ I 306 i = 0 then i else hk_mfd I n (i + 1)
def hk_mfr (I : jm_M) (wi : Int) : Int := if I 307 wi = -1 ∧ I 306 wi = 0 then wi else hk_mfd I 3 0
def hk_due (I : jm_M) (g : Int) : Prop := I 309 g = 0 ∧ I 312 g ≤ I 300 1
def hk_mb1 (M : jm_M) (g : Int) : jm_M :=
  if M 309 g = 0 ∧ M 312 g ≤ M 300 1 then
    (if hk_mfr M (M 313 g) = -1 then jm_up M 312 g (M 312 g + 1)
     else jm_up (jm_up (jm_up (jm_up M 309 g 1) 314 g (hk_mfr M (M 313 g))) 307 (hk_mfr M (M 313 g)) g) 306 (hk_mfr M (M 313 g)) 1)
  else M
def hk_mbg (I : jm_M) : Nat → jm_M
  | 0 => I
  | n + 1 => hk_mb1 (hk_mbg I n) n
theorem hk_mfd_r (I : jm_M) : ∀ (n : Nat) (i : Int), 0 ≤ i → -1 ≤ hk_mfd I n i ∧ hk_mfd I n i < i + n
  | 0, i, h => ⟨by unfold hk_mfd; omega, by unfold hk_mfd; omega⟩
  | n + 1, i, h => by
    have q := hk_mfd_r I n (i + 1) (by omega)
    unfold hk_mfd
    split <;> omega
theorem hk_mfr_r (I : jm_M) {wi : Int} (h : 0 ≤ wi ∧ wi < 3) : -1 ≤ hk_mfr I wi ∧ hk_mfr I wi < 3 := by
  have q := hk_mfd_r I 3 0 (by omega)
  unfold hk_mfr
  split <;> omega
/-- what a game's beginning leaves alone -/
theorem hk_mb1_o {M : jm_M} {g a : Int} (h : a ≠ 312 ∧ a ≠ 309 ∧ a ≠ 314 ∧ a ≠ 307 ∧ a ≠ 306) : hk_mb1 M g a = M a := by
  unfold hk_mb1
  funext b
  split
  · split
    · exact jm_up_n (Or.inl h.1)
    · rw [jm_up_n (Or.inl h.2.2.2.2), jm_up_n (Or.inl h.2.2.2.1), jm_up_n (Or.inl h.2.2.1), jm_up_n (Or.inl h.2.1)]
  · rfl
theorem hk_mb1_i {M : jm_M} {g a b : Int} (h : a = 312 ∨ a = 309 ∨ a = 314 ∨ a = 313) (hb : b ≠ g) : hk_mb1 M g a b = M a b := by
  unfold hk_mb1
  split
  · split
    · exact jm_up_n (Or.inr hb)
    · rw [jm_up_n (Or.inl (by omega)), jm_up_n (Or.inl (by omega)), jm_up_n (Or.inr hb), jm_up_n (Or.inr hb)]
  · rfl
theorem hk_mbg_o (I : jm_M) {a : Int} (h : a ≠ 312 ∧ a ≠ 309 ∧ a ≠ 314 ∧ a ≠ 307 ∧ a ≠ 306) : ∀ n, hk_mbg I n a = I a
  | 0 => rfl
  | n + 1 => (hk_mb1_o h).trans (hk_mbg_o I h n)
theorem hk_mbg_i (I : jm_M) {a b : Int} (h : a = 312 ∨ a = 309 ∨ a = 314 ∨ a = 313) : ∀ n : Nat, (n : Int) ≤ b → hk_mbg I n a b = I a b
  | 0, _ => rfl
  | n + 1, hb => (hk_mb1_i h (by omega)).trans (hk_mbg_i I h n (by omega))
theorem hk_mbg_d (I : jm_M) (n : Nat) {b : Int} (h : (n : Int) ≤ b) : hk_due (hk_mbg I n) b ↔ hk_due I b := by
  unfold hk_due
  rw [hk_mbg_i I (Or.inr (Or.inl rfl)) n h, hk_mbg_i I (Or.inl rfl) n h, hk_mbg_o I (by decide) n]
theorem hk_mbg_skip (I : jm_M) (n : Nat) : ∀ k : Nat, (∀ i : Int, n ≤ i → i < (n + k : Nat) → ¬ hk_due I i) → hk_mbg I (n + k) = hk_mbg I n
  | 0, _ => rfl
  | k + 1, h => by
    have ih := hk_mbg_skip I n k (fun i a b => h i a (by omega))
    show hk_mb1 (hk_mbg I (n + k)) ((n + k : Nat) : Int) = _
    unfold hk_mb1
    rw [if_neg (fun q => h ((n + k : Nat) : Int) (by omega) (by omega) ((hk_mbg_d I (n + k) (Int.le_refl _)).mp q)), ih]
