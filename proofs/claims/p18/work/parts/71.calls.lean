/-! THE CALLS IN A MIRROR -/
theorem hq_mi_r {p : Int} (h : hk_ok p) : -1000 ≤ p ∧ p ≤ 100000 := by unfold hk_ok at h; omega
theorem hq_row {C D : jm_M} {n : Nat} {T g lane wt tn lo hi : Int} (K : hq_K C n T) (R : hq_R C D n) (hg : 0 ≤ g ∧ g < n) (hs : hk_shot lane wt tn lo hi) (st : C (30 + g) 5 = 1 ∨ C (30 + g) 5 = 2) :
    D (30 + g) 6 = C (30 + g) 6 ∧ hk_slot D (30 + g) = hk_slot C (30 + g) ∧ (hk_thr (D (10 + D (30 + g) 6 + 100)) (D (30 + g + 100 + 100)) (hk_slot D (30 + g)) (8 - lane) (10 * wt) (-tn) lo hi).1 = hk_mi (hk_thr (C (10 + C (30 + g) 6 + 100)) (C (30 + g + 100 + 100)) (hk_slot C (30 + g)) lane (10 * wt) tn lo hi).1 ∧ hk_mW (hk_thr (C (10 + C (30 + g) 6 + 100)) (C (30 + g + 100 + 100)) (hk_slot C (30 + g)) lane (10 * wt) tn lo hi).2.1 (hk_thr (D (10 + D (30 + g) 6 + 100)) (D (30 + g + 100 + 100)) (hk_slot D (30 + g)) (8 - lane) (10 * wt) (-tn) lo hi).2.1 ∧ hk_mF (hk_thr (C (10 + C (30 + g) 6 + 100)) (C (30 + g + 100 + 100)) (hk_slot C (30 + g)) lane (10 * wt) tn lo hi).2.2 (hk_thr (D (10 + D (30 + g) 6 + 100)) (D (30 + g + 100 + 100)) (hk_slot D (30 + g)) (8 - lane) (10 * wt) (-tn) lo hi).2.2 ∧ hk_ok (hk_thr (C (10 + C (30 + g) 6 + 100)) (C (30 + g + 100 + 100)) (hk_slot C (30 + g)) lane (10 * wt) tn lo hi).1 := by
  obtain ⟨p1, p2, p3, p4, p5, p6⟩ := hq_K_pre K g hg.1 hg.2 st
  obtain ⟨s1, s2, s3, s4, s5, -⟩ := hs
  have e6 := hq_g R hg (b := 6) (by decide)
  have es : hk_slot D (30 + g) = hk_slot C (30 + g) := by
    unfold hk_slot
    rw [hq_g R hg (b := 5) (by decide), hq_g R hg (b := 11) (by decide), hq_g R hg (b := 12) (by decide)]
  refine ⟨e6, es, ?_⟩
  rw [es, e6]
  exact hk_m_thr lo hi (R.2.1 _ p1.1 p1.2) (R.2.2 g hg.1 hg.2) p4 p5 p3 ⟨s1, s2⟩ (by omega) (by omega)
theorem hq_tries {C D C' D' : jm_M} {n : Nat} {T g lane wt tn lo hi z z2 : Int} (K : hq_K C n T) (R : hq_R C D n) (hg : 0 ≤ g ∧ g < n) (hs : hk_shot lane wt tn lo hi) (p : hk_ptries C C' g lane wt tn lo hi z) (p2 : hk_ptries D D' g (8 - lane) wt (-tn) lo hi z2) : hk_mi z = z2 ∧ (-1000 ≤ z ∧ z ≤ 100000) := by
  have e5 := hq_g R hg (b := 5) (by decide)
  unfold hk_ptries at p p2
  rw [e5] at p2
  rcases p with ⟨st, -, hz⟩ | ⟨st, -, hz⟩
  · rcases p2 with ⟨-, -, hz2⟩ | ⟨st2, -, -⟩
    · have q := hq_row K R hg hs st
      rw [hz, hz2]
      exact ⟨q.2.2.1.symm, hq_mi_r q.2.2.2.2.2⟩
    · exact absurd st st2
  · rcases p2 with ⟨st2, -, -⟩ | ⟨-, -, hz2⟩
    · exact absurd st2 st
    · rw [hz, hz2]; decide
theorem hq_shoots {C D C' D' : jm_M} {n : Nat} {T g lane wt tn lo hi z z2 : Int} (K : hq_K C n T) (R : hq_R C D n) (hg : 0 ≤ g ∧ g < n) (hs : hk_shot lane wt tn lo hi) (p : hk_pshoots C C' g lane wt tn lo hi z) (p2 : hk_pshoots D D' g (8 - lane) wt (-tn) lo hi z2) : hk_mi z = z2 ∧ (-1000 ≤ z ∧ z ≤ 100000) ∧ hq_R C' D' n := by
  have e5 := hq_g R hg (b := 5) (by decide)
  have n12 := (hq_K_0 K).2.2
  unfold hk_pshoots at p p2
  rw [e5] at p2
  rcases p with ⟨st, hz, A, a1, a2, a3, a4, a5, e⟩ | ⟨st, hC, hz⟩
  · rcases p2 with ⟨-, hz2, B, b1, b2, b3, b4, b5, f⟩ | ⟨st2, -, -⟩
    · obtain ⟨q6, qs, q1, q2, q3, q4⟩ := hq_row K R hg hs st
      have ex := hq_K_ex K g hg.1 hg.2 st
      have sh := hq_K_sh K hg.1 hg.2 st
      refine ⟨by rw [hz, hz2]; exact q1.symm, by rw [hz]; exact hq_mi_r q4, ?_⟩
      have hd := (hk_mi_ok q4).2
      rw [← q1] at hd
      rw [hd] at f
      rw [q6] at b1 b3 q2
      obtain ⟨W, hW⟩ : ∃ W, W = (hk_thr (C (10 + C (30 + g) 6 + 100)) (C (30 + g + 100 + 100)) (hk_slot C (30 + g)) lane (10 * wt) tn lo hi) := ⟨_, rfl⟩
      rw [← hW] at a2 a3 e f q2 q3
      obtain ⟨V, hV⟩ : ∃ V, V = (hk_thr (D (10 + C (30 + g) 6 + 100)) (D (30 + g + 100 + 100)) (hk_slot D (30 + g)) (8 - lane) (10 * wt) (-tn) lo hi) := ⟨_, rfl⟩
      rw [q6, ← hV] at b2 q3
      rw [← hV] at b3 q2
      have RM : hq_R A B n := by
        refine ⟨fun a b h => ?_, fun s h0 h1 => ?_, fun i h0 h1 => ?_⟩
        · have ha : 0 ≤ a ∧ a < 100 ∧ a ≠ 4 := by unfold hq_rd at h; omega
          rw [a1 a (by omega) (by omega) (by omega), b1 a (by omega) (by omega) (by omega)]; exact R.1 a b h
        · by_cases z : s = C (30 + g) 6
          · rw [z, a3, b3]; exact q2
          · rw [a1 _ (by omega) (by omega) (by omega), b1 _ (by omega) (by omega) (by omega)]; exact R.2.1 s h0 h1
        · rw [a1 _ (by omega) (by omega) (by omega), b1 _ (by omega) (by omega) (by omega)]; exact R.2.2 i h0 h1
      have ak : A (30 + g) = C (30 + g) := a1 _ (by omega) (by omega) (by omega)
      rw [e, f]
      by_cases s1 : C (30 + g) 5 = 1
      · rw [if_pos s1, if_pos s1]
        exact hq_sdr RM _ hg (by omega) (by rw [ak]; exact ex.1) (by rw [ak]; exact ex.2.1)
      · rw [if_neg s1, if_neg s1]
        have mF : hk_mF (A (4 + 100 + 100)) (B (4 + 100 + 100)) := fun j j0 j1 => by rw [b2 j j0 j1, a2 j j0 j1]; exact q3 j j0 j1
        have fk : ∀ c, hk_fill A (30 + g + 100 + 100) 6 (A (4 + 100 + 100)) (30 + g) c = C (30 + g) c := fun c => by rw [hk_fill_o (Or.inl (by omega)), ak]
        refine hq_sst (hq_fs RM hg.1 hg.2 (by omega) mF) hg (by omega) (by rw [fk]; exact ex.1) (by rw [fk]; exact ex.2.1) (by rw [fk]; exact sh) (fun i i0 i1 => ?_)
        rw [hk_fill_i ⟨i0, i1⟩, a2 i i0 i1, hW]
        exact a5 i i0 i1
    · exact absurd st st2
  · rcases p2 with ⟨st2, -, -⟩ | ⟨-, hD, hz2⟩
    · exact absurd st2 st
    · rw [hz, hz2, hC, hD]
      exact ⟨by decide, by decide, R⟩
-- what is asked
section HQV
variable {C D : jm_M} {n : Int}
theorem hq_v2 (R : hq_R C D n) {s k : Int} (hs : 0 ≤ s ∧ s < 3) : hk_v2 C s k = hk_v2 D s k := by
  unfold hk_v2
  rw [hq_s R hs (b := 1) (by decide), hq_s R hs (b := 2) (by decide), hk_m_sum (R.2.1 s hs.1 hs.2), hq_0 R (b := 7) (by decide), hq_0 R (b := 8) (by decide)]
theorem hq_v3 (R : hq_R C D n) {g k : Int} (hg : 0 ≤ g ∧ g < n) : hk_v3 C g k = hk_v3 D g k := by
  unfold hk_v3
  rw [hq_g R hg (b := 5) (by decide), hq_g R hg (b := 4) (by decide), hq_g R hg (b := 6) (by decide), hq_g R hg (b := 8) (by decide), hq_g R hg (b := 9) (by decide), hq_g R hg (b := 10) (by decide), hq_g R hg (b := 11) (by decide), hq_g R hg (b := 12) (by decide)]
theorem hq_v4 (R : hq_R C D n) {g : Int} (hg : 0 ≤ g ∧ g < n) (k : hk_good (C (30 + g + 100 + 100))) : hk_v4 C g = hk_v4 D g := (hk_m_score (R.2.2 g hg.1 hg.2) k).symm
theorem hq_v5 (R : hq_R C D n) {g : Int} (hg : 0 ≤ g ∧ g < n) (k : hk_good (C (30 + g + 100 + 100))) : hk_v5 C g = hk_v5 D g := (hk_m_one (R.2.2 g hg.1 hg.2) k 6).symm
theorem hq_avg (R : hq_R C D n) {t : Int} (ht : 0 ≤ t ∧ t < 6) : hk_avg D t = hk_avg C t := by
  unfold hk_avg
  rw [hq_t R ht (b := 1) (by decide), hq_t R ht (b := 2) (by decide)]
theorem hq_ah (R : hq_R C D n) {a b : Int} (ha : 0 ≤ a ∧ a < 6) (hb : 0 ≤ b ∧ b < 6) : hk_ah D a b = hk_ah C a b := by
  unfold hk_ah
  rw [hq_t R ha (b := 0) (by decide), hq_t R hb (b := 0) (by decide), hq_avg R ha, hq_avg R hb]
theorem hq_tah (R : hq_R C D n) {t : Int} (ht : 0 ≤ t ∧ t < 6) : ∀ k : Nat, k ≤ 6 → hk_tah D t k = hk_tah C t k
  | 0, _ => rfl
  | k + 1, hk => by rw [hk_tah, hk_tah, hq_tah R ht k (by omega), hq_ah R (a := k) (by omega) ht]
theorem hq_std (R : hq_R C D n) (p : Int) : ∀ k : Nat, k ≤ 6 → hk_std D p k = hk_std C p k
  | 0, _ => rfl
  | k + 1, hk => by rw [hk_std, hk_std, hq_std R p k (by omega), hq_tah R (t := k) (by omega) 6 (by decide)]
theorem hq_v7 (R : hq_R C D n) (p : Int) : hk_v7 C p = hk_v7 D p := (hq_std R p 6 (by decide)).symm
theorem hq_v8 (R : hq_R C D n) {t k : Int} (ht : 0 ≤ t ∧ t < 6) : hk_v8 C t k = hk_v8 D t k := by
  unfold hk_v8
  rw [hq_t R ht (b := 0) (by decide), hq_t R ht (b := 1) (by decide), hq_t R ht (b := 2) (by decide)]
theorem hq_v9 (R : hq_R C D n) {g : Int} (t k : Int) (hg : 0 ≤ g ∧ g < n) (gd : hk_good (C (30 + g + 100 + 100))) : hk_mi (hk_v9 C g t k) = hk_v9 D g t k ∧ (-1000 ≤ hk_v9 C g t k ∧ hk_v9 C g t k ≤ 100000) := by
  unfold hk_v9
  refine ⟨(hk_m_at (R.2.2 g hg.1 hg.2) _).symm, hq_mi_r ?_⟩
  unfold hk_at
  split
  · rename_i q; exact gd _ q.1 q.2
  · exact Or.inl rfl
theorem hq_v10 (R : hq_R C D n) {s x y : Int} (hs : 0 ≤ s ∧ s < 3) (hx : 0 ≤ x ∧ x ≤ 8 ∧ 0 ≤ y ∧ y ≤ 60) : hk_v10 C s x y = hk_v10 D s (8 - x) y := (R.2.1 s hs.1 hs.2 x y hx.1 hx.2.1 hx.2.2.1 hx.2.2.2).symm
-- maps that are the same on a club's nodes
theorem hq_R_ag {C' D' : jm_M} (R : hq_R C D n) (hn : n ≤ 12) (e : ∀ a b, 0 ≤ a → a < 300 → a ≠ 4 → a ≠ 104 → a ≠ 204 → C' a b = C a b) (f : ∀ a b, 0 ≤ a → a < 300 → a ≠ 4 → a ≠ 104 → a ≠ 204 → D' a b = D a b) : hq_R C' D' n := by
  refine ⟨fun a b h => ?_, fun s h0 h1 => ?_, fun i h0 h1 => ?_⟩
  · have ha : 0 ≤ a ∧ a < 100 ∧ a ≠ 4 := by unfold hq_rd at h; omega
    rw [e a b (by omega) (by omega) (by omega) (by omega) (by omega), f a b (by omega) (by omega) (by omega) (by omega) (by omega)]; exact R.1 a b h
  · rw [show C' (10 + s + 100) = C (10 + s + 100) from funext fun b => e _ b (by omega) (by omega) (by omega) (by omega) (by omega), show D' (10 + s + 100) = D (10 + s + 100) from funext fun b => f _ b (by omega) (by omega) (by omega) (by omega) (by omega)]; exact R.2.1 s h0 h1
  · rw [show C' (30 + i + 100 + 100) = C (30 + i + 100 + 100) from funext fun b => e _ b (by omega) (by omega) (by omega) (by omega) (by omega), show D' (30 + i + 100 + 100) = D (30 + i + 100 + 100) from funext fun b => f _ b (by omega) (by omega) (by omega) (by omega) (by omega)]; exact R.2.2 i h0 h1
end HQV
theorem hq_R_plan {C D C' D' : jm_M} {n : Nat} {a b h s : Int} (R : hq_R C D n) (hn : n < 12) (c0 : ∀ b, b ≠ 4 → C' 0 b = C 0 b) (c4 : C' 0 4 = n + 1) (co : ∀ x, x ≠ 0 → x ≠ 30 + (n : Int) → x ≠ 30 + (n : Int) + 100 → x ≠ 30 + (n : Int) + 100 + 100 → C' x = C x) (cg : hk_gnew C' (30 + n) a b s h) (d0 : ∀ b, b ≠ 4 → D' 0 b = D 0 b) (d4 : D' 0 4 = n + 1) (do' : ∀ x, x ≠ 0 → x ≠ 30 + (n : Int) → x ≠ 30 + (n : Int) + 100 → x ≠ 30 + (n : Int) + 100 + 100 → D' x = D x) (dg : hk_gnew D' (30 + n) a b s h) : hq_R C' D' (n + 1 : Nat) := by
  obtain ⟨⟨x0, x1, x2, x4, x5, x6⟩, ⟨x7, x8, x9, x10, x11, x12⟩, xf⟩ := cg
  obtain ⟨⟨y0, y1, y2, y4, y5, y6⟩, ⟨y7, y8, y9, y10, y11, y12⟩, yf⟩ := dg
  refine ⟨fun p q hq => ?_, fun t h0 h1 => ?_, fun i h0 h1 => ?_⟩
  · by_cases p0 : p = 0
    · subst p0
      have hb : 4 ≤ q ∧ q ≤ 8 := by unfold hq_rd at hq; omega
      by_cases q4 : q = 4
      · rw [q4, c4, d4]
      · rw [c0 q q4, d0 q q4]; exact hq_0 R hb
    · by_cases pn : p = 30 + (n : Int)
      · subst pn
        have hb : 0 ≤ q ∧ q ≤ 12 ∧ q ≠ 3 := by unfold hq_rd at hq; omega
        have hc : q = 0 ∨ q = 1 ∨ q = 2 ∨ q = 4 ∨ q = 5 ∨ q = 6 ∨ q = 7 ∨ q = 8 ∨ q = 9 ∨ q = 10 ∨ q = 11 ∨ q = 12 := by omega
        rcases hc with rfl | rfl | rfl | rfl | rfl | rfl | rfl | rfl | rfl | rfl | rfl | rfl
        · rw [x0, y0]
        · rw [x1, y1]
        · rw [x2, y2]
        · rw [x4, y4]
        · rw [x5, y5]
        · rw [x6, y6]
        · rw [x7, y7]
        · rw [x8, y8]
        · rw [x9, y9]
        · rw [x10, y10]
        · rw [x11, y11]
        · rw [x12, y12]
      · have hr : hq_rd n p q ∧ p < 100 := by unfold hq_rd at hq ⊢; omega
        rw [co p p0 pn (by omega) (by omega), do' p p0 pn (by omega) (by omega)]; exact R.1 p q hr.1
  · rw [co _ (by omega) (by omega) (by omega) (by omega), do' _ (by omega) (by omega) (by omega) (by omega)]; exact R.2.1 t h0 h1
  · by_cases e : i = n
    · rw [e, xf, yf]
      intro j j0 j1
      dsimp only
      rw [if_pos ⟨j0, j1⟩]; decide
    · rw [co _ (by omega) (by omega) (by omega) (by omega), do' _ (by omega) (by omega) (by omega) (by omega)]; exact R.2.2 i h0 (by omega)
theorem hq_R_new {I J C D : jm_M} (z : ∀ b, I 0 b = 0) (z2 : ∀ b, J 0 b = 0) (h : hk_h0 I C) (h2 : hk_h0 J D) : hq_R C D (0 : Nat) := by
  obtain ⟨⟨a4, a5, a6, a7, a8⟩, as, at', ao⟩ := h
  obtain ⟨⟨b4, b5, b6, b7, b8⟩, bs, bt, bo⟩ := h2
  rw [z] at a4 a5 a8
  rw [z2] at b4 b5 b8
  refine ⟨fun p q hq => ?_, fun s h0 h1 => ?_, fun i h0 h1 => by omega⟩
  · unfold hq_rd at hq
    rcases hq with ⟨rfl, hq⟩ | ⟨p0, p1, hq⟩ | ⟨p0, p1, hq⟩ | ⟨p0, p1, hq⟩
    · have hc : q = 4 ∨ q = 5 ∨ q = 6 ∨ q = 7 ∨ q = 8 := by omega
      rcases hc with rfl | rfl | rfl | rfl | rfl
      · rw [a4, b4]
      · rw [a5, b5]
      · rw [a6, b6]
      · rw [a7, b7]
      · rw [a8, b8]
    · have x := as (p - 10) (by omega) (by omega)
      have y := bs (p - 10) (by omega) (by omega)
      rw [show 10 + (p - 10) = p by omega] at x y
      have hc : q = 1 ∨ q = 2 := by omega
      rcases hc with rfl | rfl
      · rw [x.1, y.1]
      · rw [x.2.1, y.2.1]
    · have x := at' (p - 20) (by omega) (by omega)
      have y := bt (p - 20) (by omega) (by omega)
      rw [show 20 + (p - 20) = p by omega] at x y
      rw [x, y]
    · omega
  · rw [(as s h0 h1).2.2, (bs s h0 h1).2.2]
    exact fun _ _ _ _ _ _ => rfl
