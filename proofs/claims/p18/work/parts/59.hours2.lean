/-! THE CLASS AND THE MODEL SIDE BY SIDE: C holds the class's nodes, M the model's -/
/-- one game: c its numbers, f its stones; the model's numbers of it -/
def hk_sl2 (l h : Int) : Int := 3 * (if l = 0 then 1 - h % 2 else h % 2) + h / 2
def hk_rgp (c f : Int → Int) (st fi se hr wi sh p q en th ls dr : Int) (lie : Int → Int) : Prop :=
  (c 0 = fi ∧ c 1 = se ∧ c 2 = wi ∧ c 4 = hr ∧ c 5 = st ∧ c 6 = sh ∧ c 8 = p ∧ c 9 = q ∧ c 10 = en ∧ c 11 = th) ∧
  (f = fun k => if 0 ≤ k ∧ k < 6 then lie k else 0) ∧
  (c 12 = (if st = 2 then ls else -1)) ∧ (st = 1 → th = 1 → c 7 = dr ∧ 0 ≤ dr ∧ dr ≤ 30) ∧
  ((0 ≤ fi ∧ fi < 6) ∧ (0 ≤ se ∧ se < 6) ∧ fi ≠ se ∧ (0 ≤ wi ∧ wi < 3) ∧ (0 ≤ st ∧ st ≤ 3) ∧ (st = 1 ∨ st = 2 → 0 ≤ sh ∧ sh < 3) ∧ (0 ≤ en ∧ en ≤ 4) ∧ (st ≠ 3 → en ≤ 3) ∧ (0 ≤ p ∧ p ≤ 3 * en) ∧ (0 ≤ q ∧ q ≤ 3 * en)) ∧
  (st = 0 → th = 0) ∧ (st = 1 → 0 ≤ th ∧ th ≤ 1) ∧ (st = 2 → (0 ≤ th ∧ th ≤ 5) ∧ (ls = 0 ∨ ls = 1)) ∧
  hk_good f ∧ hk_dif f ∧ (st ≠ 2 → ∀ i, 0 ≤ i → i < 6 → f i = -1) ∧ (st = 2 → ∀ h, th ≤ h → h < 6 → f (hk_sl2 ls h) = -1)
def hk_rg (C M : jm_M) (g : Int) : Prop := hk_rgp (C (30 + g)) (C (30 + g + 100 + 100)) (M 309 g) (M 310 g) (M 311 g) (M 312 g) (M 313 g) (M 314 g) (M 315 (2 * g)) (M 315 (2 * g + 1)) (M 316 g) (M 317 g) (M 318 g) (M 319 g) (fun k => M 320 (6 * g + k))
def hk_rs1 (C M : jm_M) (s : Int) : Prop := (M 306 s = 0 ∨ M 306 s = 1) ∧ C (10 + s) 1 = 1 - M 306 s ∧ C (10 + s) 2 = M 307 s
def hk_rs2 (C M : jm_M) (s : Int) : Prop := C (10 + s + 100) = (fun k => if 0 ≤ k ∧ k < 549 then M 305 (549 * s + k) else 0)
def hk_rt (C M : jm_M) (t : Int) : Prop := C (20 + t) 0 = M 321 t ∧ C (20 + t) 1 = M 322 t ∧ C (20 + t) 2 = M 323 t
/-- all but the planned games' hours -/
def hk_re (C M : jm_M) (n : Nat) (T : Int) : Prop :=
  (C 0 4 = n ∧ M 300 8 = n ∧ n ≤ 12) ∧ (C 0 5 = M 300 1 ∧ 0 ≤ M 300 1 ∧ M 300 1 ≤ 9999) ∧ (C 0 6 = M 300 2 ∧ 1 ≤ M 300 2 ∧ M 300 2 ≤ 6) ∧
  (C 0 7 = M 300 3 ∧ (-1 ≤ M 300 3 ∧ M 300 3 < 3) ∧ (M 300 3 = -1 → C 0 8 = 0) ∧ (M 300 3 ≠ -1 → C 0 8 = M 300 4 ∧ 1 ≤ M 300 4) ∧ (-1 ≤ M 300 4 ∧ M 300 4 ≤ 6)) ∧
  (∀ s, 0 ≤ s → s < 3 → hk_rs1 C M s) ∧ (∀ s, 0 ≤ s → s < 3 → hk_rs2 C M s) ∧ (∀ k, 0 ≤ M 305 k ∧ M 305 k ≤ 9) ∧
  (∀ t, 0 ≤ t → t < 6 → hk_rt C M t) ∧ (∀ t, (0 ≤ M 321 t ∧ M 321 t ≤ T) ∧ (0 ≤ M 322 t ∧ M 322 t ≤ T) ∧ (0 ≤ M 323 t ∧ M 323 t ≤ 30 * T)) ∧
  (∀ g : Int, 0 ≤ g → g < n → hk_rg C M g) ∧ (∀ g : Int, n ≤ g → g < 12 → M 309 g = 0 ∧ M 315 (2 * g) = 0 ∧ M 315 (2 * g + 1) = 0 ∧ M 316 g = 0 ∧ M 317 g = 0)
def hk_inv (C M : jm_M) (n : Nat) (T : Int) : Prop := hk_re C M n T ∧ (∀ g, M 312 g ≤ 10000) ∧ (∀ g : Int, 0 ≤ g → g < n → M 309 g = 0 → M 300 1 < M 312 g)
theorem hk_inv_pk {C M : jm_M} {n : Nat} {T : Int} (h : hk_inv C M n T) : hk_pk M n := by
  obtain ⟨⟨⟨a1, a2, a3⟩, ⟨b1, b2, b3⟩, ⟨c1, c2, c3⟩, ⟨d1, d2, d3, d4, d5⟩, e1, e2, e3, f1, f2, g1, g2⟩, h1, h2⟩ := h
  refine ⟨d2, ?_, ⟨d5.1, by omega⟩, ⟨c2, c3⟩, a2, fun g q1 q2 => (g1 g q1 q2).2.2.2.2.1.2.2.2.1, fun g q1 q2 q3 => h2 g q1 q3 q2, h1, b2⟩
  by_cases q : M 300 3 = -1
  · exact Or.inl q
  · exact Or.inr (d4 q).2
theorem hk_inv_ck {C M : jm_M} {n : Nat} {T : Int} (h : hk_inv C M n T) : hk_ck C n := by
  obtain ⟨⟨⟨a1, a2, a3⟩, ⟨b1, b2, b3⟩, ⟨c1, c2, c3⟩, ⟨d1, d2, d3, d4, d5⟩, e1, e2, e3, f1, f2, g1, g2⟩, h1, h2⟩ := h
  refine ⟨by rw [d1]; exact d2, ?_, by rw [c1]; exact ⟨c2, c3⟩, fun g q1 q2 => ?_, fun g q1 q2 => ?_⟩
  · by_cases q : M 300 3 = -1
    · rw [d3 q]; decide
    · have := d4 q; omega
  · have z := (g1 g q1 q2)
    rw [z.1.2.2.1]; exact z.2.2.2.2.1.2.2.2.1
  · have z := (g1 g q1 q2)
    rw [z.1.2.2.2.1]; exact h1 g
-- which sheet the crew takes
def hk_cap (a b : Int) : Prop := (a = b ∧ a ≤ 10000) ∨ (a = 19998 ∧ b = 10099)
theorem hk_lhw_mhr {C M : jm_M} {n : Nat} (s : Int) (hg : ∀ g : Int, 0 ≤ g → g < n → C (30 + g) 2 = M 313 g ∧ C (30 + g) 4 = M 312 g ∧ C (30 + g) 5 = M 309 g) (h4 : ∀ g, M 312 g ≤ 10000) : ∀ k : Nat, k ≤ n → hk_cap (hk_lhw C n s k) (hk_mhr M s k)
  | 0, _ => Or.inr ⟨rfl, rfl⟩
  | k + 1, h => by
    have ih := hk_lhw_mhr s hg h4 k (by omega)
    obtain ⟨e1, e2, e3⟩ := hg k (by omega) (by omega)
    have e4 := h4 k
    rw [hk_lhw, hk_mhr, e1, e2, e3]
    unfold hk_mn
    unfold hk_cap at ih ⊢
    by_cases q : M 309 k = 0 ∧ M 313 k = s
    · rw [if_pos (show (k : Int) < n ∧ M 309 k = 0 ∧ M 313 k = s from ⟨by omega, q.1, q.2⟩)]
      by_cases q2 : M 312 k < hk_mhr M s k
      · rw [if_pos (show M 309 k = 0 ∧ M 313 k = s ∧ _ from ⟨q.1, q.2, q2⟩), if_pos (by omega)]; omega
      · rw [if_neg (show ¬ (M 309 k = 0 ∧ M 313 k = s ∧ _) from fun z => q2 z.2.2), if_neg (by omega)]; exact ih
    · rw [if_neg (fun z => q z.2), if_neg (fun z => q ⟨z.1, z.2.1⟩)]; exact ih
theorem hk_lhw_t (C : jm_M) (n : Nat) (s : Int) : ∀ j : Nat, hk_lhw C n s (n + j) = hk_lhw C n s n
  | 0 => rfl
  | j + 1 => by
    show hk_lhw C n s ((n + j) + 1) = _
    rw [hk_lhw, if_neg (by omega), hk_lhw_t C n s j]
theorem hk_stm_mwa {C M : jm_M} {n : Nat} (hn : n ≤ 12) (hs : ∀ s, 0 ≤ s → s < 3 → hk_rs1 C M s) (hg : ∀ g : Int, 0 ≤ g → g < n → C (30 + g) 2 = M 313 g ∧ C (30 + g) 4 = M 312 g ∧ C (30 + g) 5 = M 309 g) (h4 : ∀ g, M 312 g ≤ 10000) : ∀ k : Nat, k ≤ 3 → (hk_stm C n k).1 = (hk_mwa M n k).1 ∧ ((hk_mwa M n k).1 = -1 ∨ hk_cap (hk_stm C n k).2 (hk_mwa M n k).2)
  | 0, _ => ⟨rfl, Or.inl rfl⟩
  | k + 1, h => by
    obtain ⟨i1, i2⟩ := hk_stm_mwa hn hs hg h4 k (by omega)
    obtain ⟨s1, s2, s3⟩ := hs k (by omega) (by omega)
    have c := hk_lhw_mhr (k : Int) hg h4 n (Nat.le_refl n)
    have t := hk_lhw_t C n (k : Int) (12 - n)
    rw [show n + (12 - n) = 12 by omega] at t
    rw [← t] at c
    rw [hk_stm, hk_mwa, s2, s3, i1]
    have i2' : ¬ (hk_mwa M n k).1 = -1 → hk_cap (hk_stm C n k).2 (hk_mwa M n k).2 := fun q => i2.resolve_left q
    by_cases q : M 307 k = -1 ∧ M 306 k ≠ 0
    · rw [if_neg (by omega)]
      by_cases q2 : (hk_mwa M n k).1 = -1 ∨ hk_mhr M k n < (hk_mwa M n k).2
      · rw [if_pos (show M 307 k = -1 ∧ M 306 k ≠ 0 ∧ _ from ⟨q.1, q.2, q2⟩), if_pos ?_]
        · exact ⟨rfl, Or.inr c⟩
        · by_cases q3 : (hk_mwa M n k).1 = -1
          · exact Or.inl q3
          · have z := i2' q3
            unfold hk_cap at z c
            omega
      · rw [if_neg (show ¬ (M 307 k = -1 ∧ M 306 k ≠ 0 ∧ _) from fun z => q2 z.2.2), if_neg ?_]
        · exact ⟨i1, i2⟩
        · by_cases q3 : (hk_mwa M n k).1 = -1
          · exact absurd (Or.inl q3) q2
          · have z := i2' q3
            unfold hk_cap at z c
            omega
    · rw [if_pos (by omega), if_neg (fun z => q ⟨z.1, z.2.1⟩)]
      exact ⟨i1, i2⟩
-- where a game begins
theorem hk_frd_mfd {C M : jm_M} (hs : ∀ s, 0 ≤ s → s < 3 → hk_rs1 C M s) : ∀ (k : Nat) (i : Int), 0 ≤ i → i + k ≤ 3 → hk_frd C k i = hk_mfd M k i
  | 0, i, _, _ => rfl
  | k + 1, i, h1, h2 => by
    obtain ⟨s1, s2, s3⟩ := hs i h1 (by omega)
    rw [hk_frd, hk_mfd, s2, s3, hk_frd_mfd hs k (i + 1) (by omega) (by omega)]
    by_cases q : M 307 i = -1 ∧ M 306 i = 0
    · rw [if_pos q, if_pos (by omega)]
    · rw [if_neg q, if_neg (by omega)]
theorem hk_stp_mfr {C M : jm_M} (hs : ∀ s, 0 ≤ s → s < 3 → hk_rs1 C M s) {wi : Int} (h : 0 ≤ wi ∧ wi < 3) : hk_stp C wi = hk_mfr M wi := by
  obtain ⟨s1, s2, s3⟩ := hs wi h.1 h.2
  unfold hk_stp hk_mfr
  rw [s2, s3, hk_frd_mfd hs 3 0 (by omega) (by omega)]
  by_cases q : M 307 wi = -1 ∧ M 306 wi = 0
  · rw [if_pos q, if_pos (by omega)]
  · rw [if_neg q, if_neg (by omega)]
theorem hk_rg_c {C M C' M' : jm_M} {g : Int} (h : hk_rg C M g) (e1 : C' (30 + g) = C (30 + g)) (e2 : C' (30 + g + 100 + 100) = C (30 + g + 100 + 100)) (em : ∀ a, 309 ≤ a → a ≤ 319 → a ≠ 315 → M' a g = M a g) (ep : M' 315 (2 * g) = M 315 (2 * g) ∧ M' 315 (2 * g + 1) = M 315 (2 * g + 1)) (el : ∀ k, 0 ≤ k → k < 6 → M' 320 (6 * g + k) = M 320 (6 * g + k)) : hk_rg C' M' g := by
  unfold hk_rg at h ⊢
  rw [e1, e2, em 309 (by decide) (by decide) (by decide), em 310 (by decide) (by decide) (by decide), em 311 (by decide) (by decide) (by decide), em 312 (by decide) (by decide) (by decide), em 313 (by decide) (by decide) (by decide), em 314 (by decide) (by decide) (by decide), ep.1, ep.2, em 316 (by decide) (by decide) (by decide), em 317 (by decide) (by decide) (by decide), em 318 (by decide) (by decide) (by decide), em 319 (by decide) (by decide) (by decide)]
  refine ⟨h.1, ?_, h.2.2⟩
  rw [h.2.1]
  funext k
  by_cases q : 0 ≤ k ∧ k < 6
  · rw [if_pos q, if_pos q]; exact (el k q.1 q.2).symm
  · rw [if_neg q, if_neg q]
/-- a game moved on by an hour, or begun -/
theorem hk_rg_m {C M C' M' : jm_M} {g : Int} (h : hk_rg C M g) (e1 : ∀ b, b ≠ 4 → b ≠ 5 → b ≠ 6 → C' (30 + g) b = C (30 + g) b) (e2 : C' (30 + g + 100 + 100) = C (30 + g + 100 + 100)) (em : ∀ a, 310 ≤ a → a ≤ 320 → a ≠ 312 → a ≠ 314 → M' a = M a)
    (e4 : C' (30 + g) 4 = M' 312 g) (e5 : C' (30 + g) 5 = M' 309 g) (e6 : C' (30 + g) 6 = M' 314 g) (hst : (M' 309 g = M 309 g ∧ M' 314 g = M 314 g) ∨ (M 309 g = 0 ∧ M' 309 g = 1 ∧ 0 ≤ M' 314 g ∧ M' 314 g < 3)) : hk_rg C' M' g := by
  unfold hk_rg at h ⊢
  rw [e2, em 310 (by decide) (by decide) (by decide) (by decide), em 311 (by decide) (by decide) (by decide) (by decide), em 313 (by decide) (by decide) (by decide) (by decide), em 315 (by decide) (by decide) (by decide) (by decide), em 316 (by decide) (by decide) (by decide) (by decide), em 317 (by decide) (by decide) (by decide) (by decide), em 318 (by decide) (by decide) (by decide) (by decide), em 319 (by decide) (by decide) (by decide) (by decide), em 320 (by decide) (by decide) (by decide) (by decide)]
  obtain ⟨⟨a0, a1, a2, a4, a5, a6, a8, a9, a10, a11⟩, hf, h12, h7, hb, s0, s1, s2, k1, k2, k3, k4⟩ := h
  obtain ⟨b1, b2, b3, b4, b5, b6, b7, b8, b9, b10⟩ := hb
  refine ⟨⟨by rw [e1 0 (by decide) (by decide) (by decide), a0], by rw [e1 1 (by decide) (by decide) (by decide), a1], by rw [e1 2 (by decide) (by decide) (by decide), a2], e4, e5, e6, by rw [e1 8 (by decide) (by decide) (by decide), a8], by rw [e1 9 (by decide) (by decide) (by decide), a9], by rw [e1 10 (by decide) (by decide) (by decide), a10], by rw [e1 11 (by decide) (by decide) (by decide), a11]⟩, hf, ?_, ?_, ?_⟩
  · rw [e1 12 (by decide) (by decide) (by decide), h12]
    rcases hst with ⟨q, -⟩ | ⟨q1, q2, q3, q4⟩
    · rw [q]
    · rw [if_neg (by omega), if_neg (by omega)]
  · rw [e1 7 (by decide) (by decide) (by decide)]
    rcases hst with ⟨q, -⟩ | ⟨q1, q2, q3, q4⟩
    · rw [q]; exact h7
    · intro z1 z2
      have := s0 q1
      omega
  · rcases hst with ⟨q, q'⟩ | ⟨q1, q2, q3, q4⟩
    · rw [q, q']
      exact ⟨⟨b1, b2, b3, b4, b5, b6, b7, b8, b9, b10⟩, s0, s1, s2, k1, k2, k3, k4⟩
    · have t := s0 q1
      exact ⟨⟨b1, b2, b3, b4, by omega, fun _ => ⟨q3, q4⟩, b7, fun _ => b8 (by omega), b9, b10⟩, fun z => by omega, fun z => by omega, fun z => by omega, k1, k2, fun _ => k3 (by omega), fun z => by omega⟩
/-- one game of the beginning -/
theorem hk_b1 {C M : jm_M} {n : Nat} {T : Int} (h : hk_re C M n T) (i : Nat) (hin : i < n) : hk_re (hk_bg1 C n i) (hk_mb1 M i) n T := by
  obtain ⟨⟨a1, a2, a3⟩, ⟨b1, b2, b3⟩, ⟨c1, c2, c3⟩, ⟨d1, d2, d3, d4, d5⟩, f1, f2, f3, t1, t2, g1, g2⟩ := h
  · have G := g1 i (by omega) (by omega)
    have G1 := G.1
    have Gw := G.2.2.2.2.1.2.2.2.1
    have st := hk_stp_mfr f1 Gw
    have sr := hk_mfr_r M Gw
    unfold hk_bg1 hk_mb1
    rw [G1.2.2.1, G1.2.2.2.1, G1.2.2.2.2.1, b1, st]
    by_cases q : M 309 i = 0 ∧ M 312 i ≤ M 300 1
    · rw [if_pos q, if_pos ⟨by omega, q.1, q.2⟩]
      by_cases q2 : hk_mfr M (M 313 i) = -1
      · rw [if_pos q2, if_pos q2]
        have o : ∀ a b, a ≠ 30 + (i : Int) → jm_up C (30 + i) 4 (M 312 i + 1) a b = C a b := fun a b z => jm_up_n (Or.inl z)
        have of : ∀ a, a ≠ 30 + (i : Int) → jm_up C (30 + i) 4 (M 312 i + 1) a = C a := fun a z => funext fun b => o a b z
        have p : ∀ a, a ≠ 312 → jm_up M 312 i (M 312 i + 1) a = M a := fun a z => funext fun b => jm_up_n (Or.inl z)
        refine ⟨⟨by rw [o _ _ (by omega)]; exact a1, by rw [p 300 (by decide)]; exact a2, a3⟩, by rw [o _ _ (by omega), p 300 (by decide)]; exact ⟨b1, b2, b3⟩, by rw [o _ _ (by omega), p 300 (by decide)]; exact ⟨c1, c2, c3⟩, by rw [o _ _ (by omega), o _ _ (by omega), p 300 (by decide)]; exact ⟨d1, d2, d3, d4, d5⟩, fun s z1 z2 => ?_, fun s z1 z2 => ?_, by rw [p 305 (by decide)]; exact f3, fun t z1 z2 => ?_, fun t => ?_, fun g z1 z2 => ?_, fun g z1 z2 => ?_⟩
        · have := f1 s z1 z2
          unfold hk_rs1 at this ⊢
          rw [o _ _ (by omega), o _ _ (by omega), p 306 (by decide), p 307 (by decide)]; exact this
        · have := f2 s z1 z2
          unfold hk_rs2 at this ⊢
          rw [of _ (by omega), p 305 (by decide)]; exact this
        · have := t1 t z1 z2
          unfold hk_rt at this ⊢
          rw [o _ _ (by omega), o _ _ (by omega), o _ _ (by omega), p 321 (by decide), p 322 (by decide), p 323 (by decide)]; exact this
        · rw [p 321 (by decide), p 322 (by decide), p 323 (by decide)]; exact t2 t
        · have gg := g1 g z1 z2
          by_cases e : g = i
          · subst e
            refine hk_rg_m gg (fun b z3 z4 z5 => jm_up_n (Or.inr z3)) (of _ (by omega)) (fun a y1 y2 y3 y4 => p a y3) ?_ ?_ ?_ (Or.inl ⟨by rw [p 309 (by decide)], by rw [p 314 (by decide)]⟩)
            · rw [jm_up_s, jm_up_s]
            · rw [jm_up_n (Or.inr (by decide)), p 309 (by decide)]; exact G1.2.2.2.2.1
            · rw [jm_up_n (Or.inr (by decide)), p 314 (by decide)]; exact G1.2.2.2.2.2.1
          · refine hk_rg_c gg (of _ (by omega)) (of _ (by omega)) (fun a y1 y2 y3 => ?_) (by rw [p 315 (by decide)]; exact ⟨rfl, rfl⟩) (fun k _ _ => by rw [p 320 (by decide)])
            exact jm_up_n (Or.inr e)
        · rw [p 309 (by decide), p 315 (by decide), p 316 (by decide), p 317 (by decide)]; exact g2 g z1 z2
      · rw [if_neg q2, if_neg q2]
        obtain ⟨s, hs⟩ : ∃ s, s = hk_mfr M (M 313 i) := ⟨_, rfl⟩
        rw [← hs] at sr q2 ⊢
        obtain ⟨C', hC'⟩ : ∃ C', C' = jm_up (jm_up (jm_up (jm_up C (10 + s) 1 0) (10 + s) 2 i) (30 + i) 6 s) (30 + i) 5 1 := ⟨_, rfl⟩
        obtain ⟨M', hM'⟩ : ∃ M', M' = jm_up (jm_up (jm_up (jm_up M 309 i 1) 314 i s) 307 s i) 306 s 1 := ⟨_, rfl⟩
        rw [← hC', ← hM']
        have o : ∀ a b, a ≠ 30 + (i : Int) → a ≠ 10 + s → C' a b = C a b := fun a b z z2 => by rw [hC', jm_up_n (Or.inl z), jm_up_n (Or.inl z), jm_up_n (Or.inl z2), jm_up_n (Or.inl z2)]
        have of : ∀ a, a ≠ 30 + (i : Int) → a ≠ 10 + s → C' a = C a := fun a z z2 => funext fun b => o a b z z2
        have p : ∀ a, a ≠ 309 → a ≠ 314 → a ≠ 307 → a ≠ 306 → M' a = M a := fun a z z2 z3 z4 => funext fun b => by rw [hM', jm_up_n (Or.inl z4), jm_up_n (Or.inl z3), jm_up_n (Or.inl z2), jm_up_n (Or.inl z)]
        have p9 : ∀ b, b ≠ (i : Int) → M' 309 b = M 309 b := fun b z => by rw [hM', jm_up_n (Or.inl (by decide)), jm_up_n (Or.inl (by decide)), jm_up_n (Or.inl (by decide)), jm_up_n (Or.inr z)]
        have p14 : ∀ b, b ≠ (i : Int) → M' 314 b = M 314 b := fun b z => by rw [hM', jm_up_n (Or.inl (by decide)), jm_up_n (Or.inl (by decide)), jm_up_n (Or.inr z), jm_up_n (Or.inl (by decide))]
        have p9i : M' 309 i = 1 := by rw [hM', jm_up_n (Or.inl (by decide)), jm_up_n (Or.inl (by decide)), jm_up_n (Or.inl (by decide)), jm_up_s]
        have p14i : M' 314 i = s := by rw [hM', jm_up_n (Or.inl (by decide)), jm_up_n (Or.inl (by decide)), jm_up_s]
        refine ⟨⟨by rw [o _ _ (by omega) (by omega)]; exact a1, by rw [p 300 (by decide) (by decide) (by decide) (by decide)]; exact a2, a3⟩, by rw [o _ _ (by omega) (by omega), p 300 (by decide) (by decide) (by decide) (by decide)]; exact ⟨b1, b2, b3⟩, by rw [o _ _ (by omega) (by omega), p 300 (by decide) (by decide) (by decide) (by decide)]; exact ⟨c1, c2, c3⟩, by rw [o _ _ (by omega) (by omega), o _ _ (by omega) (by omega), p 300 (by decide) (by decide) (by decide) (by decide)]; exact ⟨d1, d2, d3, d4, d5⟩, fun s' z1 z2 => ?_, fun s' z1 z2 => ?_, by rw [p 305 (by decide) (by decide) (by decide) (by decide)]; exact f3, fun t z1 z2 => ?_, fun t => ?_, fun g z1 z2 => ?_, fun g z1 z2 => ?_⟩
        · have := f1 s' z1 z2
          unfold hk_rs1 at this ⊢
          by_cases e : s' = s
          · subst e
            refine ⟨Or.inr (by rw [hM', jm_up_s]), ?_, ?_⟩
            · rw [hC', jm_up_n (Or.inl (by omega)), jm_up_n (Or.inl (by omega)), jm_up_n (Or.inr (by decide)), jm_up_s, hM', jm_up_s]; rfl
            · rw [hC', jm_up_n (Or.inl (by omega)), jm_up_n (Or.inl (by omega)), jm_up_s, hM', jm_up_n (Or.inl (by decide)), jm_up_s]
          · rw [o _ _ (by omega) (by omega), o _ _ (by omega) (by omega)]
            have e6 : M' 306 s' = M 306 s' := by rw [hM', jm_up_n (Or.inr e), jm_up_n (Or.inl (by decide)), jm_up_n (Or.inl (by decide)), jm_up_n (Or.inl (by decide))]
            have e7 : M' 307 s' = M 307 s' := by rw [hM', jm_up_n (Or.inl (by decide)), jm_up_n (Or.inr e), jm_up_n (Or.inl (by decide)), jm_up_n (Or.inl (by decide))]
            rw [e6, e7]; exact this
        · have := f2 s' z1 z2
          unfold hk_rs2 at this ⊢
          rw [of _ (by omega) (by omega), p 305 (by decide) (by decide) (by decide) (by decide)]; exact this
        · have := t1 t z1 z2
          unfold hk_rt at this ⊢
          rw [o _ _ (by omega) (by omega), o _ _ (by omega) (by omega), o _ _ (by omega) (by omega), p 321 (by decide) (by decide) (by decide) (by decide), p 322 (by decide) (by decide) (by decide) (by decide), p 323 (by decide) (by decide) (by decide) (by decide)]; exact this
        · rw [p 321 (by decide) (by decide) (by decide) (by decide), p 322 (by decide) (by decide) (by decide) (by decide), p 323 (by decide) (by decide) (by decide) (by decide)]; exact t2 t
        · have gg := g1 g z1 z2
          by_cases e : g = i
          · subst e
            refine hk_rg_m gg (fun b z3 z4 z5 => ?_) (of _ (by omega) (by omega)) (fun a y1 y2 y3 y4 => p a (by omega) y4 (by omega) (by omega)) ?_ ?_ ?_ (Or.inr ⟨q.1, p9i, by rw [p14i]; omega⟩)
            · rw [hC', jm_up_n (Or.inr z4), jm_up_n (Or.inr z5), jm_up_n (Or.inl (by omega)), jm_up_n (Or.inl (by omega))]
            · rw [p 312 (by decide) (by decide) (by decide) (by decide), hC', jm_up_n (Or.inr (by decide)), jm_up_n (Or.inr (by decide)), jm_up_n (Or.inl (by omega)), jm_up_n (Or.inl (by omega))]; exact G1.2.2.2.1
            · rw [p9i, hC', jm_up_s]
            · rw [p14i, hC', jm_up_n (Or.inr (by decide)), jm_up_s]
          · refine hk_rg_c gg (of _ (by omega) (by omega)) (of _ (by omega) (by omega)) (fun a y1 y2 y3 => ?_) (by rw [p 315 (by decide) (by decide) (by decide) (by decide)]; exact ⟨rfl, rfl⟩) (fun k _ _ => by rw [p 320 (by decide) (by decide) (by decide) (by decide)])
            by_cases ea : a = 309
            · rw [ea]; exact p9 g e
            · by_cases eb : a = 314
              · rw [eb]; exact p14 g e
              · rw [p a ea eb (by omega) (by omega)]
        · rw [p9 g (by omega), p 315 (by decide) (by decide) (by decide) (by decide), p 316 (by decide) (by decide) (by decide) (by decide), p 317 (by decide) (by decide) (by decide) (by decide)]; exact g2 g z1 z2
    · rw [if_neg q, if_neg (fun z => q z.2)]
      exact ⟨⟨a1, a2, a3⟩, ⟨b1, b2, b3⟩, ⟨c1, c2, c3⟩, ⟨d1, d2, d3, d4, d5⟩, f1, f2, f3, t1, t2, g1, g2⟩
theorem hk_re_w {C M C' M' : jm_M} {n : Nat} {T : Int} (h : hk_re C M n T) (hC : ∀ a b, 0 ≤ a → a < 300 → a ≠ 4 → a ≠ 104 → a ≠ 204 → C' a b = C a b) (hM : hk_wk M M') : hk_re C' M' n T := by
  obtain ⟨⟨a1, a2, a3⟩, ⟨b1, b2, b3⟩, ⟨c1, c2, c3⟩, ⟨d1, d2, d3, d4, d5⟩, f1, f2, f3, t1, t2, g1, g2⟩ := h
  have o : ∀ a, 0 ≤ a → a < 300 → a ≠ 4 → a ≠ 104 → a ≠ 204 → C' a = C a := fun a z1 z2 z3 z4 z5 => funext fun b => hC a b z1 z2 z3 z4 z5
  have p : ∀ a, a ≠ 300 → a ≠ 324 → a ≠ 325 → a ≠ 326 → a ≠ 327 → M' a = M a := fun a z1 z2 z3 z4 z5 => funext fun b => hM a b z2 z3 z4 z5 (Or.inl z1)
  have p0 : ∀ b, b ≠ 0 → M' 300 b = M 300 b := fun b z => hM 300 b (by decide) (by decide) (by decide) (by decide) (Or.inr z)
  have o0 : C' 0 = C 0 := o 0 (by decide) (by decide) (by decide) (by decide) (by decide)
  refine ⟨by rw [o0, p0 8 (by decide)]; exact ⟨a1, a2, a3⟩, by rw [o0, p0 1 (by decide)]; exact ⟨b1, b2, b3⟩, by rw [o0, p0 2 (by decide)]; exact ⟨c1, c2, c3⟩, by rw [o0, p0 3 (by decide), p0 4 (by decide)]; exact ⟨d1, d2, d3, d4, d5⟩, fun s z1 z2 => ?_, fun s z1 z2 => ?_, by rw [p 305 (by decide) (by decide) (by decide) (by decide) (by decide)]; exact f3, fun t z1 z2 => ?_, by rw [p 321 (by decide) (by decide) (by decide) (by decide) (by decide), p 322 (by decide) (by decide) (by decide) (by decide) (by decide), p 323 (by decide) (by decide) (by decide) (by decide) (by decide)]; exact t2, fun g z1 z2 => ?_, by rw [p 309 (by decide) (by decide) (by decide) (by decide) (by decide), p 315 (by decide) (by decide) (by decide) (by decide) (by decide), p 316 (by decide) (by decide) (by decide) (by decide) (by decide), p 317 (by decide) (by decide) (by decide) (by decide) (by decide)]; exact g2⟩
  · have := f1 s z1 z2
    unfold hk_rs1 at this ⊢
    rw [o (10 + s) (by omega) (by omega) (by omega) (by omega) (by omega), p 306 (by decide) (by decide) (by decide) (by decide) (by decide), p 307 (by decide) (by decide) (by decide) (by decide) (by decide)]; exact this
  · have := f2 s z1 z2
    unfold hk_rs2 at this ⊢
    rw [o (10 + s + 100) (by omega) (by omega) (by omega) (by omega) (by omega), p 305 (by decide) (by decide) (by decide) (by decide) (by decide)]; exact this
  · have := t1 t z1 z2
    unfold hk_rt at this ⊢
    rw [o (20 + t) (by omega) (by omega) (by omega) (by omega) (by omega), p 321 (by decide) (by decide) (by decide) (by decide) (by decide), p 322 (by decide) (by decide) (by decide) (by decide) (by decide), p 323 (by decide) (by decide) (by decide) (by decide) (by decide)]; exact this
  · refine hk_rg_c (g1 g z1 z2) (o _ (by omega) (by omega) (by omega) (by omega) (by omega)) (o _ (by omega) (by omega) (by omega) (by omega) (by omega)) (fun a y1 y2 y3 => by rw [p a (by omega) (by omega) (by omega) (by omega) (by omega)]) (by rw [p 315 (by decide) (by decide) (by decide) (by decide) (by decide)]; exact ⟨rfl, rfl⟩) (fun k _ _ => by rw [p 320 (by decide) (by decide) (by decide) (by decide) (by decide)])
theorem hk_bN {C M : jm_M} {n : Nat} {T : Int} (h : hk_re C M n T) : ∀ k : Nat, k ≤ n → hk_re (hk_bg C n k) (hk_mbg M k) n T
  | 0, _ => h
  | k + 1, hk => hk_b1 (hk_bN h k (by omega)) k (by omega)
theorem hk_bg_t (C : jm_M) (n : Nat) : ∀ j : Nat, hk_bg C n (n + j) = hk_bg C n n
  | 0 => rfl
  | j + 1 => by
    show hk_bg1 (hk_bg C n (n + j)) n ((n + j : Nat) : Int) = _
    rw [hk_bg_t C n j]
    unfold hk_bg1
    exact if_neg (fun z => by omega)
theorem hk_wk_r {M M' : jm_M} (h : ∀ a b, a ≠ 327 → M' a b = M a b) : hk_wk M M' := fun a b _ _ _ q _ => h a b q
theorem hk_beg_re {C M : jm_M} {n : Nat} {T : Int} (h : hk_re C M n T) : hk_re (hk_bg C n 12) (hk_mbe M n) n T := by
  have q := hk_bN h n (Nat.le_refl n)
  have t := hk_bg_t C n (12 - n)
  rw [show n + (12 - n) = 12 by have := h.1.2.2; omega] at t
  rw [← t] at q
  exact hk_re_w q (fun a b _ _ _ _ _ => rfl) (hk_wk_r (fun a b z => hk_fill_o (Or.inl z)))
-- the crew
theorem hk_lhw_c {C C' : jm_M} (h : ∀ a b, a ≠ 0 → C' a b = C a b) (ng s : Int) : ∀ k : Nat, hk_lhw C' ng s k = hk_lhw C ng s k
  | 0 => rfl
  | k + 1 => by rw [hk_lhw, hk_lhw, h _ _ (by omega), h _ _ (by omega), h _ _ (by omega), hk_lhw_c h ng s k]
theorem hk_stm_c {C C' : jm_M} (h : ∀ a b, a ≠ 0 → C' a b = C a b) (ng : Int) : ∀ k : Nat, hk_stm C' ng k = hk_stm C ng k
  | 0 => rfl
  | k + 1 => by rw [hk_stm, hk_stm, h _ _ (by omega), h _ _ (by omega), hk_lhw_c h, hk_stm_c h ng k]
theorem hk_re_hg {C M : jm_M} {n : Nat} {T : Int} (h : hk_re C M n T) : ∀ g : Int, 0 ≤ g → g < n → C (30 + g) 2 = M 313 g ∧ C (30 + g) 4 = M 312 g ∧ C (30 + g) 5 = M 309 g := fun g q1 q2 => by
  have z := (h.2.2.2.2.2.2.2.2.2.1 g q1 q2).1
  exact ⟨z.2.2.1, z.2.2.2.1, z.2.2.2.2.1⟩
/-- the house's and the model's own numbers change alone -/
theorem hk_re_0 {C M C' M' : jm_M} {n : Nat} {T : Int} (h : hk_re C M n T) (hC : ∀ a b, a ≠ 0 → C' a b = C a b) (hM : ∀ a b, a ≠ 300 → M' a b = M a b) (x1 : C' 0 4 = n ∧ M' 300 8 = n) (x2 : C' 0 5 = M' 300 1 ∧ 0 ≤ M' 300 1 ∧ M' 300 1 ≤ 9999) (x3 : C' 0 6 = M' 300 2 ∧ 1 ≤ M' 300 2 ∧ M' 300 2 ≤ 6)
    (x4 : C' 0 7 = M' 300 3 ∧ (-1 ≤ M' 300 3 ∧ M' 300 3 < 3) ∧ (M' 300 3 = -1 → C' 0 8 = 0) ∧ (M' 300 3 ≠ -1 → C' 0 8 = M' 300 4 ∧ 1 ≤ M' 300 4) ∧ (-1 ≤ M' 300 4 ∧ M' 300 4 ≤ 6)) : hk_re C' M' n T := by
  obtain ⟨⟨a1, a2, a3⟩, -, -, -, f1, f2, f3, t1, t2, g1, g2⟩ := h
  have o : ∀ a, a ≠ 0 → C' a = C a := fun a z1 => funext fun b => hC a b z1
  have p : ∀ a, a ≠ 300 → M' a = M a := fun a z1 => funext fun b => hM a b z1
  refine ⟨⟨x1.1, x1.2, a3⟩, x2, x3, x4, fun s z1 z2 => ?_, fun s z1 z2 => ?_, by rw [p 305 (by decide)]; exact f3, fun t z1 z2 => ?_, by rw [p 321 (by decide), p 322 (by decide), p 323 (by decide)]; exact t2, fun g z1 z2 => ?_, by rw [p 309 (by decide), p 315 (by decide), p 316 (by decide), p 317 (by decide)]; exact g2⟩
  · have := f1 s z1 z2
    unfold hk_rs1 at this ⊢
    rw [o (10 + s) (by omega), p 306 (by decide), p 307 (by decide)]; exact this
  · have := f2 s z1 z2
    unfold hk_rs2 at this ⊢
    rw [o (10 + s + 100) (by omega), p 305 (by decide)]; exact this
  · have := t1 t z1 z2
    unfold hk_rt at this ⊢
    rw [o (20 + t) (by omega), p 321 (by decide), p 322 (by decide), p 323 (by decide)]; exact this
  · refine hk_rg_c (g1 g z1 z2) (o _ (by omega)) (o _ (by omega)) (fun a y1 y2 y3 => by rw [p a (by omega)]) (by rw [p 315 (by decide)]; exact ⟨rfl, rfl⟩) (fun k _ _ => by rw [p 320 (by decide)])
theorem hk_up2 (I : jm_M) (k j u v : Int) : jm_up (jm_up I k j u) k j v = jm_up I k j v := by
  funext a b
  unfold jm_up
  split <;> rfl
/-- a crew with nothing to do takes a sheet -/
theorem hk_take {C M R : jm_M} {n : Nat} {T : Int} (h : hk_re C M n T) (h4 : ∀ g, M 312 g ≤ 10000) (h3 : M 300 3 = -1) (hR : C = jm_up R 0 7 (-1)) : hk_re (hk_work4 (hk_work3 R n)) (jm_up (jm_up M 300 3 (hk_mwa M n 3).1) 300 4 (M 300 2)) n T := by
  have z := (hk_stm_mwa h.1.2.2 h.2.2.2.2.1 (hk_re_hg h) h4 3 (Nat.le_refl 3)).1
  have r := hk_mwa_r M n 3
  have e : hk_stm R n 3 = hk_stm C n 3 := by
    refine hk_stm_c (fun a b q => ?_) n 3
    rw [hR, jm_up_n (Or.inl q)]
  have c8 := h.2.2.2.1.2.2.1 h3
  have c6 := h.2.2.1
  have r8 : R 0 8 = 0 := by
    have e8 : C 0 8 = R 0 8 := by rw [hR, jm_up_n (Or.inr (by decide))]
    rw [← e8]; exact c8
  have rb : ∀ b, b ≠ 7 → R 0 b = C 0 b := fun b q => by rw [hR, jm_up_n (Or.inr q)]
  have ro : ∀ a b, a ≠ 0 → R a b = C a b := fun a b q => by rw [hR, jm_up_n (Or.inl q)]
  unfold hk_work4 hk_work3
  rw [e, z, jm_up_s, jm_up_n (Or.inr (by decide)), rb 6 (by decide)]
  obtain ⟨x, hx⟩ : ∃ x, x = (hk_mwa M n 3).1 := ⟨_, rfl⟩
  rw [← hx] at r ⊢
  by_cases q : x = -1
  · rw [if_pos q]
    refine hk_re_0 h (fun a b q => by rw [jm_up_n (Or.inl q)]; exact ro a b q) (fun a b q => by rw [jm_up_n (Or.inl q), jm_up_n (Or.inl q)]) ⟨?_, ?_⟩ ?_ ?_ ?_
    · rw [jm_up_n (Or.inr (by decide)), rb 4 (by decide)]; exact h.1.1
    · rw [jm_up_n (Or.inr (by decide)), jm_up_n (Or.inr (by decide))]; exact h.1.2.1
    · rw [jm_up_n (Or.inr (by decide)), rb 5 (by decide), jm_up_n (Or.inr (by decide)), jm_up_n (Or.inr (by decide))]; exact h.2.1
    · rw [jm_up_n (Or.inr (by decide)), rb 6 (by decide), jm_up_n (Or.inr (by decide)), jm_up_n (Or.inr (by decide))]; exact c6
    · rw [jm_up_s, jm_up_n (Or.inr (by decide)), jm_up_s, jm_up_s, jm_up_n (Or.inr (by decide))]
      exact ⟨rfl, by omega, fun _ => r8, fun z => absurd q z, by omega⟩
  · rw [if_neg q]
    refine hk_re_0 h (fun a b q => by rw [jm_up_n (Or.inl q), jm_up_n (Or.inl q)]; exact ro a b q) (fun a b q => by rw [jm_up_n (Or.inl q), jm_up_n (Or.inl q)]) ⟨?_, ?_⟩ ?_ ?_ ?_
    · rw [jm_up_n (Or.inr (by decide)), jm_up_n (Or.inr (by decide)), rb 4 (by decide)]; exact h.1.1
    · rw [jm_up_n (Or.inr (by decide)), jm_up_n (Or.inr (by decide))]; exact h.1.2.1
    · rw [jm_up_n (Or.inr (by decide)), jm_up_n (Or.inr (by decide)), rb 5 (by decide), jm_up_n (Or.inr (by decide)), jm_up_n (Or.inr (by decide))]; exact h.2.1
    · rw [jm_up_n (Or.inr (by decide)), jm_up_n (Or.inr (by decide)), rb 6 (by decide), jm_up_n (Or.inr (by decide)), jm_up_n (Or.inr (by decide))]; exact c6
    · rw [jm_up_n (Or.inr (by decide)), jm_up_s, jm_up_n (Or.inr (by decide)), jm_up_s, jm_up_s, jm_up_s]
      exact ⟨rfl, by omega, fun z => absurd z q, fun _ => ⟨c6.1, by omega⟩, by omega⟩
theorem hk_crew {C M : jm_M} {n : Nat} {T : Int} (h : hk_re C M n T) (h4 : ∀ g, M 312 g ≤ 10000) : hk_re (hk_work C n) (hk_mp3 (hk_mp2 M) n) n T := by
  have H := h
  obtain ⟨⟨a1, a2, a3⟩, ⟨b1, b2, b3⟩, ⟨c1, c2, c3⟩, ⟨d1, d2, d3, d4, d5⟩, f1, f2, f3, t1, t2, g1, g2⟩ := h
  by_cases q : M 300 3 = -1
  · have c8 := d3 q
    have w1 : hk_work1 C = C := by unfold hk_work1; rw [if_neg (by omega)]
    have w2 : hk_work2 C = C := by unfold hk_work2; rw [if_pos (by omega)]
    have m2 : hk_mp2 M = M := by unfold hk_mp2; rw [if_pos q]
    unfold hk_work hk_mp3
    rw [w1, if_neg (by omega), w2, m2, if_pos q]
    refine hk_take H h4 q ?_
    funext a b
    unfold jm_up
    split
    · rename_i z; rw [z.1, z.2, d1, q]
    · rfl
  · obtain ⟨e8, l1⟩ := d4 q
    have w1 : hk_work1 C = jm_up C 0 8 (M 300 4 - 1) := by unfold hk_work1; rw [if_pos (by omega), e8]
    unfold hk_work
    rw [w1, jm_up_s]
    by_cases q2 : M 300 4 - 1 = 0
    · rw [if_neg (by omega)]
      obtain ⟨s, hs⟩ : ∃ s, s = M 300 3 := ⟨_, rfl⟩
      have w2 : hk_work2 (jm_up C 0 8 (M 300 4 - 1)) = hk_renew (jm_up C 0 8 0) s := by
        unfold hk_work2
        rw [jm_up_n (Or.inr (by decide)), d1, if_neg q, q2, hs]
      obtain ⟨M2, hM2⟩ : ∃ M2, M2 = jm_up (hk_filo (jm_up (jm_up M 300 4 0) 306 s 0) 305 (549 * s) 549 (fun _ => 0)) 300 3 (-1) := ⟨_, rfl⟩
      have m2 : hk_mp2 M = M2 := by
        unfold hk_mp2
        rw [if_neg q, if_pos q2, q2, ← hs, hM2]
      obtain ⟨R, hR⟩ : ∃ R, R = hk_renew (jm_up C 0 8 0) s := ⟨_, rfl⟩
      have m23 : M2 300 3 = -1 := by rw [hM2, jm_up_s]
      unfold hk_mp3
      rw [w2, m2, if_pos m23, ← hR]
      have p0 : ∀ b, b ≠ 3 → b ≠ 4 → M2 300 b = M 300 b := fun b z1 z2 => by rw [hM2, jm_up_n (Or.inr z1), hk_filo_o (Or.inl (by decide)), jm_up_n (Or.inl (by decide)), jm_up_n (Or.inr z2)]
      have p : ∀ a, a ≠ 300 → a ≠ 306 → a ≠ 305 → M2 a = M a := fun a z1 z2 z3 => funext fun b => by rw [hM2, jm_up_n (Or.inl z1), hk_filo_o (Or.inl z3), jm_up_n (Or.inl z2), jm_up_n (Or.inl z1)]
      have o : ∀ a b, a ≠ 0 → a ≠ 10 + s → a ≠ 10 + s + 100 → R a b = C a b := fun a b z1 z2 z3 => by rw [hR, hk_renew_o z2 z3, jm_up_n (Or.inl z1)]
      have o0 : ∀ b, b ≠ 8 → R 0 b = C 0 b := fun b z => by rw [hR, hk_renew_o (by omega) (by omega), jm_up_n (Or.inr z)]
      have o8 : R 0 8 = 0 := by rw [hR, hk_renew_o (by omega) (by omega), jm_up_s]
      refine hk_take (C := jm_up R 0 7 (-1)) ?_ (by rw [p 312 (by decide) (by decide) (by decide)]; exact h4) m23 rfl
      have u : ∀ a b, a ≠ 0 → jm_up R 0 7 (-1) a b = R a b := fun a b z => jm_up_n (Or.inl z)
      have uf : ∀ a, a ≠ 0 → a ≠ 10 + s → a ≠ 10 + s + 100 → jm_up R 0 7 (-1) a = C a := fun a z1 z2 z3 => funext fun b => by rw [u a b z1, o a b z1 z2 z3]
      have u0 : ∀ b, b ≠ 7 → jm_up R 0 7 (-1) 0 b = R 0 b := fun b z => jm_up_n (Or.inr z)
      refine ⟨by rw [u0 4 (by decide), o0 4 (by decide), p0 8 (by decide) (by decide)]; exact ⟨a1, a2, a3⟩, by rw [u0 5 (by decide), o0 5 (by decide), p0 1 (by decide) (by decide)]; exact ⟨b1, b2, b3⟩, by rw [u0 6 (by decide), o0 6 (by decide), p0 2 (by decide) (by decide)]; exact ⟨c1, c2, c3⟩, ?_, fun s' z1 z2 => ?_, fun s' z1 z2 => ?_, fun k => ?_, fun t z1 z2 => ?_, by rw [p 321 (by decide) (by decide) (by decide), p 322 (by decide) (by decide) (by decide), p 323 (by decide) (by decide) (by decide)]; exact t2, fun g z1 z2 => ?_, by rw [p 309 (by decide) (by decide) (by decide), p 315 (by decide) (by decide) (by decide), p 316 (by decide) (by decide) (by decide), p 317 (by decide) (by decide) (by decide)]; exact g2⟩
      · rw [m23, jm_up_s, u0 8 (by decide), o8]
        have e4 : M2 300 4 = 0 := by rw [hM2, jm_up_n (Or.inr (by decide)), hk_filo_o (Or.inl (by decide)), jm_up_n (Or.inl (by decide)), jm_up_s]
        rw [e4]
        exact ⟨rfl, by decide, fun _ => rfl, fun z => absurd rfl z, by decide⟩
      · have := f1 s' z1 z2
        unfold hk_rs1 at this ⊢
        have e7 : M2 307 = M 307 := p 307 (by decide) (by decide) (by decide)
        by_cases e : s' = s
        · rw [e] at this ⊢
          have e6 : M2 306 s = 0 := by rw [hM2, jm_up_n (Or.inl (by decide)), hk_filo_o (Or.inl (by decide)), jm_up_s]
          rw [e6, e7, u _ _ (by omega), u _ _ (by omega), hR]
          refine ⟨Or.inl rfl, ?_, ?_⟩
          · unfold hk_renew
            rw [hk_fill_o (Or.inl (by omega)), jm_up_s]; rfl
          · unfold hk_renew
            rw [hk_fill_o (Or.inl (by omega)), jm_up_n (Or.inr (by decide)), jm_up_n (Or.inl (by omega))]; exact this.2.2
        · have e6 : M2 306 s' = M 306 s' := by rw [hM2, jm_up_n (Or.inl (by decide)), hk_filo_o (Or.inl (by decide)), jm_up_n (Or.inr e), jm_up_n (Or.inl (by decide))]
          rw [e6, e7, uf _ (by omega) (by omega) (by omega)]; exact this
      · have := f2 s' z1 z2
        unfold hk_rs2 at this ⊢
        have e5 : ∀ k, M2 305 k = if 549 * s ≤ k ∧ k < 549 * s + 549 then 0 else M 305 k := fun k => by
          rw [hM2, jm_up_n (Or.inl (by decide))]
          by_cases z : 549 * s ≤ k ∧ k < 549 * s + 549
          · rw [if_pos z, hk_filo_i z]
          · rw [if_neg z, hk_filo_o (Or.inr z), jm_up_n (Or.inl (by decide)), jm_up_n (Or.inl (by decide))]
        by_cases e : s' = s
        · rw [e] at this ⊢
          funext k
          rw [u _ _ (by omega), hR, e5]
          unfold hk_renew
          by_cases z : 0 ≤ k ∧ k < 549
          · rw [hk_fill_i z, if_pos z, if_pos (by omega)]
          · rw [hk_fill_o (Or.inr z), if_neg z, jm_up_n (Or.inl (by omega)), jm_up_n (Or.inl (by omega)), this]; exact if_neg z
        · rw [uf _ (by omega) (by omega) (by omega), this]
          funext k
          by_cases z : 0 ≤ k ∧ k < 549
          · rw [if_pos z, if_pos z, e5, if_neg (by omega)]
          · rw [if_neg z, if_neg z]
      · rw [hM2, jm_up_n (Or.inl (by decide))]
        by_cases z : 549 * s ≤ k ∧ k < 549 * s + 549
        · rw [hk_filo_i z]; decide
        · rw [hk_filo_o (Or.inr z), jm_up_n (Or.inl (by decide)), jm_up_n (Or.inl (by decide))]; exact f3 k
      · have := t1 t z1 z2
        unfold hk_rt at this ⊢
        rw [uf (20 + t) (by omega) (by omega) (by omega), p 321 (by decide) (by decide) (by decide), p 322 (by decide) (by decide) (by decide), p 323 (by decide) (by decide) (by decide)]; exact this
      · refine hk_rg_c (g1 g z1 z2) (uf _ (by omega) (by omega) (by omega)) (uf _ (by omega) (by omega) (by omega)) (fun a y1 y2 y3 => by rw [p a (by omega) (by omega) (by omega)]) (by rw [p 315 (by decide) (by decide) (by decide)]; exact ⟨rfl, rfl⟩) (fun k _ _ => by rw [p 320 (by decide) (by decide) (by decide)])
    · rw [if_pos (by omega)]
      have m2 : hk_mp2 M = jm_up M 300 4 (M 300 4 - 1) := by unfold hk_mp2; rw [if_neg q, if_neg q2]
      unfold hk_mp3
      rw [m2, jm_up_n (Or.inr (by decide)), if_neg q]
      refine hk_re_0 H (fun a b z => jm_up_n (Or.inl z)) (fun a b z => jm_up_n (Or.inl z)) ⟨?_, ?_⟩ ?_ ?_ ?_
      · rw [jm_up_n (Or.inr (by decide))]; exact a1
      · rw [jm_up_n (Or.inr (by decide))]; exact a2
      · rw [jm_up_n (Or.inr (by decide)), jm_up_n (Or.inr (by decide))]; exact ⟨b1, b2, b3⟩
      · rw [jm_up_n (Or.inr (by decide)), jm_up_n (Or.inr (by decide))]; exact ⟨c1, c2, c3⟩
      · rw [jm_up_n (Or.inr (by decide)), jm_up_n (Or.inr (by decide)), jm_up_s, jm_up_s]
        exact ⟨d1, d2, fun z => absurd z q, fun _ => ⟨rfl, by omega⟩, by omega⟩
theorem hk_hour {C M : jm_M} {n : Nat} {T : Int} (h : hk_inv C M n T) (hn : M 300 1 ≤ 9998) : hk_inv (hk_cp1 C n) (hk_mps M n) n T ∧ hk_mps M n 300 1 = M 300 1 + 1 := by
  have pk := hk_pk_s (hk_inv_pk h) hn
  obtain ⟨h0, h1, h2⟩ := h
  have s1 : hk_re (jm_up C 0 5 (C 0 5 + 1)) (hk_mp1 M) n T := by
    unfold hk_mp1
    obtain ⟨⟨a1, a2, a3⟩, ⟨b1, b2, b3⟩, c, d, -⟩ := id h0
    refine hk_re_0 h0 (fun a b z => jm_up_n (Or.inl z)) (fun a b z => jm_up_n (Or.inl z)) ⟨?_, ?_⟩ ?_ ?_ ?_
    · rw [jm_up_n (Or.inr (by decide))]; exact a1
    · rw [jm_up_n (Or.inr (by decide))]; exact a2
    · rw [jm_up_s, jm_up_s]; omega
    · rw [jm_up_n (Or.inr (by decide)), jm_up_n (Or.inr (by decide))]; exact c
    · rw [jm_up_n (Or.inr (by decide)), jm_up_n (Or.inr (by decide)), jm_up_n (Or.inr (by decide)), jm_up_n (Or.inr (by decide))]; exact d
  have s2 := hk_crew s1 (by intro g; rw [hk_mp1_o (by decide)]; exact h1 g)
  have s3 := hk_beg_re s2
  refine ⟨⟨s3, pk.1.2.2.2.2.2.2.2.1, fun g q1 q2 q3 => pk.1.2.2.2.2.2.2.1 g q1 q3 q2⟩, pk.2⟩
theorem hk_hours {C M : jm_M} {n : Nat} {T : Int} (h : hk_inv C M n T) : ∀ k : Nat, M 300 1 + k ≤ 9999 → hk_inv (hk_cpn C n k) (hk_mpn M n k) n T ∧ hk_mpn M n k 300 1 = M 300 1 + k
  | 0, _ => ⟨h, by show M 300 1 = _; omega⟩
  | k + 1, hk => by
    obtain ⟨i1, i2⟩ := hk_hours h k (by omega)
    have q := hk_hour i1 (by omega)
    refine ⟨q.1, ?_⟩
    show hk_mps (hk_mpn M n k) n 300 1 = _
    rw [q.2, i2]; omega
