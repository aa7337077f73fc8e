/-! the model's throw that counts -/
def hk_mth (I : jm_M) (R : (Int → Int) × (Int → Int)) : jm_M := fun a => if a = 324 then R.1 else if a = 325 then R.2 else I a
def hk_far (p : Int) : Int := if hk_dis p < 30 then hk_dis p else 30
def hk_msA (I M : jm_M) (g : Int) : jm_M := jm_up (hk_filo M 305 (549 * I 314 g) 549 (M 324)) 317 g (I 317 g + 1)
def hk_msD (I M : jm_M) (g team far : Int) : jm_M :=
  jm_up (jm_up (jm_up (jm_up (jm_up (jm_up (hk_msA I M g) 322 team (I 322 team + 1)) 323 team (I 323 team + far)) 318 g (if I 317 g + 1 = 2 ∧ I 319 g < far then 0 else 1)) 319 g far) 309 g (if I 317 g + 1 = 2 then 2 else 1)) 317 g ((I 317 g + 1).tmod 2)
def hk_msP (I M : jm_M) (g : Int) : jm_M := hk_filo (hk_msA I M g) 320 (6 * g) 6 (M 325)
def hk_msE (X : jm_M) (g : Int) : jm_M := hk_ends X g (hk_scd (X 325))
def hk_team (I : jm_M) (g : Int) : Int := if hk_mturn I g = 0 then I 310 g else I 311 g
def hk_msh (I M : jm_M) (g : Int) : jm_M :=
  if I 309 g = 1 then hk_msD I M g (hk_team I g) (hk_far (M 325 (hk_mslot I g)))
  else if I 317 g + 1 = 6 then hk_msE (hk_msP I M g) g else hk_msP I M g
theorem hk_mth_e {M J : jm_M} {R : (Int → Int) × (Int → Int)} (h1 : ∀ a, a ≠ 324 → a ≠ 325 → M a = J a) (h2 : M 324 = R.1) (h3 : M 325 = R.2) : M = hk_mth J R := by
  funext a
  unfold hk_mth
  by_cases q : a = 324
  · rw [if_pos q, q, h2]
  · rw [if_neg q]
    by_cases q2 : a = 325
    · rw [if_pos q2, q2, h3]
    · rw [if_neg q2, h1 a q q2]
theorem hk_ends_0 (X : jm_M) (g s : Int) : hk_ends X g s 300 0 = X 300 0 := by
  have e : hk_en1 X g s 300 0 = X 300 0 := by
    unfold hk_en1
    rw [hk_filo_o (Or.inl (by decide)), jm_up_n (Or.inl (by decide)), jm_up_n (Or.inl (by decide)), jm_up_n (Or.inl (by decide)), jm_up_n (Or.inl (by decide)), jm_up_n (Or.inl (by decide))]
  unfold hk_ends
  split
  · unfold hk_en2
    rw [jm_up_n (Or.inl (by decide)), jm_up_n (Or.inl (by decide)), jm_up_n (Or.inl (by decide)), jm_up_n (Or.inl (by decide)), e]
  · exact e
theorem hk_msE_0 (X : jm_M) (g : Int) : hk_msE X g 300 0 = X 300 0 := hk_ends_0 X g _
