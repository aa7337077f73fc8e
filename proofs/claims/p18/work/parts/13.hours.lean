/-! the crew, the hours, the games' settlements -/
theorem hk_lhw_r {I : jm_M} (hI : ∀ a b, jm_R (I a b)) (ng s : Int) : ∀ n, jm_R (hk_lhw I ng s n)
  | 0 => by unfold hk_lhw; decide
  | n + 1 => by
    have h1 := hk_lhw_r hI ng s n
    have h2 := hI (30 + n) 4
    unfold hk_lhw hk_mn
    split
    · split
      · exact h2
      · exact h1
    · exact h1
def hk_stm (I : jm_M) (ng : Int) : Nat → Int × Int
  | 0 => (-1, 0)
  | n + 1 => if ¬ I (10 + n) 1 = 0 ∨ ¬ I (10 + n) 2 = -1 then hk_stm I ng n else if (hk_stm I ng n).1 = -1 ∨ hk_lhw I ng n 12 < (hk_stm I ng n).2 then ((n : Int), hk_lhw I ng n 12) else hk_stm I ng n
theorem hk_stm_r {I : jm_M} (hI : ∀ a b, jm_R (I a b)) (ng : Int) : ∀ n, -1 ≤ (hk_stm I ng n).1 ∧ (hk_stm I ng n).1 < n ∧ jm_R (hk_stm I ng n).2
  | 0 => ⟨by unfold hk_stm; decide, by unfold hk_stm; decide, by unfold hk_stm; decide⟩
  | n + 1 => by
    have h1 := hk_stm_r hI ng n
    unfold hk_stm
    split
    · exact ⟨h1.1, by omega, h1.2.2⟩
    · split
      · exact ⟨by show -1 ≤ (n : Int); omega, by show (n : Int) < ((n + 1 : Nat) : Int); omega, hk_lhw_r hI ng n 12⟩
      · exact ⟨h1.1, by omega, h1.2.2⟩
def hk_frd (I : jm_M) : Nat → Int → Int
  | 0, _ => -1
  | n + 1, i => if ¬ I (10 + i) 1 = 0 ∧ I (10 + i) 2 = -1 then i else hk_frd I n (i + 1)
theorem hk_frd_r (I : jm_M) : ∀ (n : Nat) (i : Int), hk_frd I n i = -1 ∨ (i ≤ hk_frd I n i ∧ hk_frd I n i < i + n)
  | 0, _ => Or.inl rfl
  | n + 1, i => by
    have ih := hk_frd_r I n (i + 1)
    unfold hk_frd
    split
    · right; omega
    · rcases ih with h | h
      · exact Or.inl h
      · right; omega
def hk_stp (I : jm_M) (wi : Int) : Int := if ¬ I (10 + wi) 1 = 0 ∧ I (10 + wi) 2 = -1 then wi else hk_frd I 3 0
theorem hk_stp_r (I : jm_M) {wi : Int} (h : 0 ≤ wi ∧ wi < 3) : -1 ≤ hk_stp I wi ∧ hk_stp I wi < 3 := by
  have q := hk_frd_r I 3 0
  unfold hk_stp
  split <;> omega
def hk_bg1 (M : jm_M) (ng i : Int) : jm_M :=
  if i < ng ∧ M (30 + i) 5 = 0 ∧ M (30 + i) 4 ≤ M 0 5 then
    (if hk_stp M (M (30 + i) 2) = -1 then jm_up M (30 + i) 4 (M (30 + i) 4 + 1)
     else jm_up (jm_up (jm_up (jm_up M (10 + hk_stp M (M (30 + i) 2)) 1 0) (10 + hk_stp M (M (30 + i) 2)) 2 i) (30 + i) 6 (hk_stp M (M (30 + i) 2))) (30 + i) 5 1)
  else M
def hk_bg (I : jm_M) (ng : Int) : Nat → jm_M
  | 0 => I
  | n + 1 => hk_bg1 (hk_bg I ng n) ng n
def hk_work1 (I : jm_M) : jm_M := if 0 < I 0 8 then jm_up I 0 8 (I 0 8 - 1) else I
def hk_renew (I : jm_M) (s : Int) : jm_M := hk_fill (jm_up I (10 + s) 1 1) (10 + s + 100) 549 (fun _ => 0)
def hk_work2 (I : jm_M) : jm_M := if I 0 7 = -1 then I else hk_renew I (I 0 7)
def hk_work3 (I : jm_M) (ng : Int) : jm_M := jm_up I 0 7 (hk_stm I ng 3).1
def hk_work4 (I : jm_M) : jm_M := if I 0 7 = -1 then I else jm_up I 0 8 (I 0 6)
def hk_work (I : jm_M) (ng : Int) : jm_M := if 0 < (hk_work1 I) 0 8 then hk_work1 I else hk_work4 (hk_work3 (hk_work2 (hk_work1 I)) ng)
def hk_cg1 (I : jm_M) (k : Int) : jm_M := jm_up (jm_up (jm_up I k 5 3) k 12 (-1)) (10 + I k 6) 2 (-1)
def hk_cg (I : jm_M) (k : Int) : jm_M := if I k 9 < I k 8 then jm_up (hk_cg1 I k) (20 + I k 0) 0 (I (20 + I k 0) 0 + 1) else if I k 8 < I k 9 then jm_up (hk_cg1 I k) (20 + I k 1) 0 (I (20 + I k 1) 0 + 1) else hk_cg1 I k
def hk_sst (I : jm_M) (k : Int) : jm_M := if I k 11 + 1 < 6 then jm_up I k 11 (I k 11 + 1) else if (hk_close (jm_up I k 11 (I k 11 + 1)) k) k 10 = 4 then hk_cg (hk_close (jm_up I k 11 (I k 11 + 1)) k) k else hk_close (jm_up I k 11 (I k 11 + 1)) k
def hk_dteam (I : jm_M) (k : Int) : Int := if hk_nside (I k 5) (I k 11) (I k 12) = 0 then I k 0 else I k 1
def hk_sdr1 (I : jm_M) (k d : Int) : jm_M := jm_up (jm_up I (20 + hk_dteam I k) 1 (I (20 + hk_dteam I k) 1 + 1)) (20 + hk_dteam I k) 2 (I (20 + hk_dteam I k) 2 + d)
def hk_sdr (I : jm_M) (k d : Int) : jm_M := hk_draw (hk_sdr1 I k d) k d
theorem hk_close_o {I : jm_M} {k a b : Int} (h : a ≠ k ∧ a ≠ k + 100 + 100) : hk_close I k a b = I a b := by
  unfold hk_close
  try dsimp only
  rw [jm_up_n (Or.inl h.1), jm_up_n (Or.inl h.1), hk_fill_o (Or.inl h.2)]
  split
  · rw [jm_up_n (Or.inl h.1), jm_up_n (Or.inl h.1)]
  · split
    · rw [jm_up_n (Or.inl h.1), jm_up_n (Or.inl h.1)]
    · rfl
theorem hk_close_k {I : jm_M} {k b : Int} (h : b ≠ 8 ∧ b ≠ 9 ∧ b ≠ 10 ∧ b ≠ 11 ∧ b ≠ 12) : hk_close I k k b = I k b := by
  have hk : k ≠ k + 100 + 100 := by omega
  unfold hk_close
  try dsimp only
  rw [jm_up_n (Or.inr h.2.2.1), jm_up_n (Or.inr h.2.2.2.1), hk_fill_o (Or.inl hk)]
  split
  · rw [jm_up_n (Or.inr h.2.2.2.2), jm_up_n (Or.inr h.1)]
  · split
    · rw [jm_up_n (Or.inr h.2.2.2.2), jm_up_n (Or.inr h.2.1)]
    · rfl
