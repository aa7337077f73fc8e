/-! WORLDS WITH TWO HOUSES -/
theorem jq_J_s {E : jm_E} {G : jm_G} {q : Nat × Nat} {w : jm_W} {I : jm_M} {pc : Nat} {lv : List (Nat × Value)} {st : List Value} (k : jm_J E G q (hk_sw w) (hk_sI I) pc lv st) : jm_J E G q w I pc lv st := by
  obtain ⟨l, D, ca⟩ := E
  obtain ⟨p, e, R, s, m, args, below, meth, c, Q, A⟩ := G
  intro H locs ls hI hP hD hS hl
  rw [← hk_s_ws w I] at hP hD
  exact k H locs ls (by rw [hk_s_R]; exact hI) hP hD hS hl
/-- a house's picture speaks of its own nodes alone -/
theorem jq_X5_t {E : jm_E} {w w' : jm_W} {n : Int} (h : jm_X5 E w n) (e : w'.2.1 = w.2.1) (S : ∀ z, z ∈ w.1 → 0 ≤ z → z < 300 → z ∈ w'.1 ∧ w'.2.2 z = w.2.2 z) : jm_X5 E w' n := by
  obtain ⟨⟨a1, a2⟩, ⟨b1, b2⟩, ⟨c1, c2⟩, ⟨d1, d2⟩, l, s, t, gg, n1, n2⟩ := h
  have gs : ∀ b, hk_gs w' b = hk_gs w b := fun b => by unfold hk_gs; rw [e]
  have g3 : hk_gg w' n = hk_gg w n := by unfold hk_gg; rw [e]
  have X3 : ∀ k, 0 ≤ k → k < 200 → jm_X3 E w k → jm_X3 E w' k := fun k h0 h1 h => ⟨(S k h.1 h0 (by omega)).1, by rw [(S k h.1 h0 (by omega)).2, h.2.1, e], (S _ h.2.2.1 (by omega) (by omega)).1, (S _ h.2.2.1 (by omega) (by omega)).2.trans h.2.2.2⟩
  refine ⟨⟨(S 0 a1 (by decide) (by decide)).1, by rw [(S 0 a1 (by decide) (by decide)).2, a2, e]⟩, ⟨(S 1 b1 (by decide) (by decide)).1, by rw [(S 1 b1 (by decide) (by decide)).2, b2, gs]⟩, ⟨(S 2 c1 (by decide) (by decide)).1, by rw [(S 2 c1 (by decide) (by decide)).2, c2, gs]⟩, ⟨(S 3 d1 (by decide) (by decide)).1, by rw [(S 3 d1 (by decide) (by decide)).2, d2, g3]⟩, ⟨(S 4 l.1 (by decide) (by decide)).1, by rw [(S 4 l.1 (by decide) (by decide)).2, l.2.1, e], X3 _ (by decide) (by decide) l.2.2⟩, fun i h1 h2 => ?_, fun i h1 h2 => ?_, fun i h1 h2 => ?_, n1, n2⟩
  · have x := s i h1 h2
    exact ⟨(S _ x.1 (by omega) (by omega)).1, by rw [(S _ x.1 (by omega) (by omega)).2, x.2.1, e], (S _ x.2.2.1 (by omega) (by omega)).1, (S _ x.2.2.1 (by omega) (by omega)).2.trans x.2.2.2⟩
  · have x := t i h1 h2
    exact ⟨(S _ x.1 (by omega) (by omega)).1, (S _ x.1 (by omega) (by omega)).2.trans x.2⟩
  · have x := gg i h1 h2
    exact ⟨(S _ x.1 (by omega) (by omega)).1, by rw [(S _ x.1 (by omega) (by omega)).2, x.2.1, e], X3 _ (by omega) (by omega) x.2.2⟩
def jq_in (z : Int) : Bool := decide (0 ≤ z ∧ z < 300)
theorem jq_X5_f {E : jm_E} {w : jm_W} {n : Int} (h : jm_X5 E w n) : jm_X5 E (w.1.filter jq_in, w.2.1, w.2.2) n :=
  jq_X5_t h rfl (fun z hz h0 h1 => ⟨List.mem_filter.mpr ⟨hz, by unfold jq_in; rw [decide_eq_true_eq]; exact ⟨h0, h1⟩⟩, rfl⟩)
/-- a house's rows told anew where the world has grown elsewhere -/
theorem jq_renorm {E : jm_E} {G : jm_G} {q : Nat × Nat} {w w' : jm_W} {I : jm_M} {pc : Nat} {lv : List (Nat × Value)} {st : List Value} {n : Int} (h : jm_X5 E w n) (S : ∀ z, z ∈ w.1 → 0 ≤ z → z < 300 → z ∈ w'.1 ∧ w'.2.1 z = w.2.1 z ∧ w'.2.2 z = w.2.2 z)
    (kk : ∀ w'' : jm_W, w''.2.1 = w'.2.1 → w''.1 = w'.1 → (∀ z, z ∈ w'.1 → z ≠ 1 → z ≠ 2 → w''.2.2 z = w'.2.2 z) → jm_X5 E w'' n → jm_J E G q w'' I pc lv st) : jm_J E G q w' I pc lv st := by
  have mem : ∀ z, z ∈ w.1.filter jq_in → z ∈ w.1 ∧ 0 ≤ z ∧ z < 300 := fun z hz => by
    have h2 := List.mem_filter.mp hz
    have h3 := h2.2
    unfold jq_in at h3
    rw [decide_eq_true_eq] at h3
    exact ⟨h2.1, h3⟩
  refine jm_renorm (k' := 5000) (P := fun _ => True) (jq_X5_f h) ⟨fun z hz => ?_, fun z _ => Or.inr trivial⟩ (fun z hz e => by have m : 0 ≤ z ∧ z < 300 := (mem z hz).2; omega) (fun wa w'' g1 g2 e1 e2 hX => kk w'' e1 e2 (fun z hz z1 z2 => ?_) hX)
  · have m := mem z hz
    have s := S z m.1 m.2.1 m.2.2
    exact ⟨s.1, s.2.1, fun _ => s.2.2⟩
  · have y := g1.1 z hz
    exact ((g2.1 z y.1).2.2 z2).trans (y.2.2 z1)
-- maps
theorem hq_sI {I : jm_M} {a : Int} (h : 0 ≤ a ∧ a < 300) : hk_sI I a = I (a + 1000) := by unfold hk_sI; rw [hk_s_a h]
theorem hq_sI' {I : jm_M} {a : Int} (h : 0 ≤ a ∧ a < 300) : hk_sI I (a + 1000) = I a := by unfold hk_sI; rw [hk_s_b (by omega), show a + 1000 - 1000 = a by omega]
theorem hq_fr_a {I I1 : jm_M} (h : hq_fr I I1) : ∀ a b, 0 ≤ a → a < 300 → hk_sI I1 a b = hk_sI I a b := fun a b h0 h1 => by rw [hq_sI ⟨h0, h1⟩, hq_sI ⟨h0, h1⟩]; exact h _ b (by omega)
theorem hq_fr_b {I1 I2 : jm_M} (h : hq_fr (hk_sI I1) (hk_sI I2)) : ∀ a b, 0 ≤ a → a < 300 → I2 a b = I1 a b := fun a b h0 h1 => by
  have z := h (a + 1000) b (by omega)
  rw [hq_sI' ⟨h0, h1⟩, hq_sI' ⟨h0, h1⟩] at z
  exact z
theorem hq_off_fr {I I1 : jm_M} (h : hk_off I I1) : hq_fr I I1 := fun a b ha => congrFun (h a (by omega) (by omega)) b
/-- between the one club's change and the other's -/
theorem hq_mid {E : jm_E} {w : jm_W} {I I1 : jm_M} {n : Nat} {T : Int} (L : hq_L E w I n T) (f : hq_fr I I1) : hq_K (hk_sI I1) n T ∧ hq_R I (hk_sI I1) n ∧ hk_sI I1 0 5 = I 0 5 := by
  obtain ⟨X1, X2, nd, K, K2, R⟩ := L
  have a := hq_fr_a f
  have n12 := (hq_K_0 K).2.2
  exact ⟨hq_K_ag K2 (fun x y h0 h1 _ _ _ => a x y h0 h1), hq_R_ag R (by omega) (fun _ _ _ _ _ _ _ => rfl) (fun x y h0 h1 _ _ _ => a x y h0 h1), by rw [a 0 5 (by decide) (by decide)]; exact hq_0 R (by decide)⟩
theorem hq_end {E : jm_E} {w : jm_W} {I1 I2 : jm_M} {n : Nat} {T : Int} (X1 : jm_X5 E w n) (X2 : jm_X5 E (hk_sw w) n) (nd : ∀ z, z ∈ w.1 → hq_nd n n z) (K1 : hq_K I1 n T) (K2 : hq_K (hk_sI I2) n T) (R : hq_R I1 (hk_sI I2) n) (f : hq_fr (hk_sI I1) (hk_sI I2)) : hq_L E w I2 n T ∧ I2 0 5 = I1 0 5 := by
  have b := hq_fr_b f
  have n12 := (hq_K_0 K1).2.2
  exact ⟨⟨X1, X2, nd, hq_K_ag K1 (fun x y h0 h1 _ _ _ => b x y h0 h1), K2, hq_R_ag R (by omega) (fun x y h0 h1 _ _ _ => b x y h0 h1) (fun _ _ _ _ _ _ _ => rfl)⟩, b 0 5 (by decide) (by decide)⟩
theorem hq_L_pass {E : jm_E} {w : jm_W} {I I1 I2 : jm_M} {n : Nat} {T k z1 z2 : Int} (L : hq_L E w I n T) (h0 : 0 ≤ k) (hk : I 0 5 + k ≤ 9999) (h1 : I1 = hk_cpn I n k.toNat ∧ z1 = I 0 5 + k) (h2 : hk_sI I2 = hk_cpn (hk_sI I1) n k.toNat ∧ z2 = hk_sI I1 0 5 + k) : z1 = z2 ∧ hq_L E w I2 n T ∧ I2 0 5 = I 0 5 + k := by
  have k1 := hq_K_pass L.2.2.2.1 (k := k.toNat) (by omega)
  obtain ⟨h1, q1⟩ := h1
  obtain ⟨h2, q2⟩ := h2
  rw [← h1] at k1
  obtain ⟨m1, m2, m3⟩ := hq_mid L k1.2.1
  have k2 := hq_K_pass m1 (k := k.toNat) (by omega)
  rw [← h2] at k2
  have R2 := hq_cpn m2 L.2.2.2.1 k.toNat (by omega)
  rw [← h1, ← h2] at R2
  have e := hq_end L.1 L.2.1 L.2.2.1 k1.1 k2.1 R2 k2.2.1
  exact ⟨by rw [q1, q2, m3], e.1, by rw [e.2, k1.2.2]; omega⟩
theorem hq_tries_fr {I I1 : jm_M} {g lane wt tn lo hi z : Int} (p : hk_ptries I I1 g lane wt tn lo hi z) : hk_off I I1 := by
  rcases p with ⟨-, h, -⟩ | ⟨-, h, -⟩
  · exact h
  · rw [h]; exact hk_off_rf I
theorem hq_tries_r {E : jm_E} {w : jm_W} {I I1 : jm_M} {n : Nat} {T g lane wt tn lo hi z : Int} (L : hq_L E w I n T) (hg : 0 ≤ g ∧ g < n) (hs : hk_shot lane wt tn lo hi) (p : hk_ptries I I1 g lane wt tn lo hi z) : -1000 ≤ z ∧ z ≤ 100000 := by
  rcases p with ⟨st, -, hz⟩ | ⟨-, -, hz⟩
  · rw [hz]; exact hq_mi_r (hq_row L.2.2.2.1 L.2.2.2.2.2 hg hs st).2.2.2.2.2
  · rw [hz]; decide
theorem hq_shoots_r {E : jm_E} {w : jm_W} {I I1 : jm_M} {n : Nat} {T g lane wt tn lo hi z : Int} (L : hq_L E w I n T) (hg : 0 ≤ g ∧ g < n) (hs : hk_shot lane wt tn lo hi) (p : hk_pshoots I I1 g lane wt tn lo hi z) : -1000 ≤ z ∧ z ≤ 100000 := by
  rcases p with ⟨st, hz, -⟩ | ⟨-, -, hz⟩
  · rw [hz]; exact hq_mi_r (hq_row L.2.2.2.1 L.2.2.2.2.2 hg hs st).2.2.2.2.2
  · rw [hz]; decide
theorem hq_sh_m {lane wt tn lo hi : Int} (h : hk_shot lane wt tn lo hi) : hk_shot (8 - lane) wt (-tn) lo hi := by
  unfold hk_shot at h ⊢
  omega
theorem hq_L_tries {E : jm_E} {w : jm_W} {I I1 I2 : jm_M} {n : Nat} {T g lane wt tn lo hi z1 z2 : Int} (L : hq_L E w I n T) (hg : 0 ≤ g ∧ g < n) (hs : hk_shot lane wt tn lo hi) (p : hk_ptries I I1 g lane wt tn lo hi z1) (p2 : hk_ptries (hk_sI I1) (hk_sI I2) g (8 - lane) wt (-tn) lo hi z2) : hk_mi z1 = z2 ∧ hq_L E w I2 n T ∧ I2 0 5 = I 0 5 := by
  have o1 := hq_tries_fr p
  have o2 := hq_tries_fr p2
  have n12 := (hq_K_0 L.2.2.2.1).2.2
  obtain ⟨m1, m2, m3⟩ := hq_mid L (hq_off_fr o1)
  have c := hq_tries L.2.2.2.1 m2 hg hs p p2
  have a : ∀ x y, 0 ≤ x → x < 300 → x ≠ 4 → x ≠ 104 → x ≠ 204 → I1 x y = I x y := fun x y _ _ x4 _ x2 => congrFun (o1 x x4 x2) y
  have b : ∀ x y, 0 ≤ x → x < 300 → x ≠ 4 → x ≠ 104 → x ≠ 204 → hk_sI I2 x y = hk_sI I1 x y := fun x y _ _ x4 _ x2 => congrFun (o2 x x4 x2) y
  have e := hq_end L.1 L.2.1 L.2.2.1 (hq_K_ag L.2.2.2.1 a) (hq_K_ag m1 b) (hq_R_ag m2 (by omega) a b) (hq_off_fr o2)
  exact ⟨c.1, e.1, by rw [e.2]; exact a 0 5 (by decide) (by decide) (by decide) (by decide) (by decide)⟩
theorem hq_L_shoots {E : jm_E} {w : jm_W} {I I1 I2 : jm_M} {n : Nat} {T g lane wt tn lo hi z1 z2 : Int} (L : hq_L E w I n T) (hT : 0 ≤ T) (hg : 0 ≤ g ∧ g < n) (hs : hk_shot lane wt tn lo hi) (p : hk_pshoots I I1 g lane wt tn lo hi z1) (p2 : hk_pshoots (hk_sI I1) (hk_sI I2) g (8 - lane) wt (-tn) lo hi z2) : hk_mi z1 = z2 ∧ hq_L E w I2 n (T + 1) ∧ I2 0 5 = I 0 5 := by
  have k1 := hq_K_shoot L.2.2.2.1 hT hg hs p
  obtain ⟨m1, m2, m3⟩ := hq_mid L k1.2.1
  have k2 := hq_K_shoot m1 hT hg (hq_sh_m hs) p2
  have c := hq_shoots L.2.2.2.1 m2 hg hs p p2
  have e := hq_end L.1 L.2.1 L.2.2.1 k1.1 k2.1 c.2.2 k2.2.1
  exact ⟨c.1, e.1, by rw [e.2]; exact k1.2.2⟩
