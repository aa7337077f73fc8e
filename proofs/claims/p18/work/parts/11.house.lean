/-! THE HOUSE: its node is 0, its rows of references 1 to 3, the slide 4, sheets 10 on, teams 20 on, games 30 on; stones 100 further, their places 200 -/
section JR2
variable {E : jm_E} {G : jm_G} {q : Nat × Nat} {w : jm_W} {I : jm_M} {pc : Nat} {lv : List (Nat × Value)} {st : List Value} {cc : ByteArray} {nL : Nat} {own : String} {rm : Room}
theorem jm_aaldr {k j : Int} {n a : Nat} {cA : ClassId} {g : Nat → Option Nat} (t : Nat) {Cn : String} (hg : g j.toNat = some a) (C : jm_C E G cc nL own rm) (hk : k ∈ w.1) (ht : (jm_t E.2.2)[t]? = some (cA, .object Cn)) (hs : w.2.2 k = jm_Qa cA n g) (h0 : 0 ≤ j) (h1 : j < n) (hj : jm_R j) (hd : decode cc pc = .ok (.aaload, 1)) (kk : jm_J E G q w I (pc + 1) lv (.ref a :: st)) : jm_J E G q w I pc lv (jm_v j :: .ref (w.2.1 k) :: st) :=
  jm_aald t C hk ht hs h0 h1 hj hd (by rw [hg]; exact kk)
theorem jm_aaldN {k j : Int} {n : Nat} {cA : ClassId} {g : Nat → Option Nat} (t : Nat) {Cn : String} (hg : g j.toNat = none) (C : jm_C E G cc nL own rm) (hk : k ∈ w.1) (ht : (jm_t E.2.2)[t]? = some (cA, .object Cn)) (hs : w.2.2 k = jm_Qa cA n g) (h0 : 0 ≤ j) (h1 : j < n) (hj : jm_R j) (hd : decode cc pc = .ok (.aaload, 1)) (kk : jm_J E G q w I (pc + 1) lv (.null :: st)) : jm_J E G q w I pc lv (jm_v j :: .ref (w.2.1 k) :: st) :=
  jm_aald t C hk ht hs h0 h1 hj hd (by rw [hg]; exact kk)
theorem jm_meq {I' : jm_M} (h : I = I') (k : jm_J E G q w I' pc lv st) : jm_J E G q w I pc lv st := by rw [h]; exact k
theorem jm_aloadN {n : Nat} (C : jm_C E G cc nL own rm) (hd : decode cc pc = .ok (.aload n, 2)) (hl0 : jm_lk lv n = some .null) (k : jm_J E G q w I (pc + 2) lv (.null :: st)) : jm_J E G q w I pc lv st := by
  obtain ⟨l, D, ca⟩ := E
  obtain ⟨p, e, R, s, m, args, below, meth, c, Q, A⟩ := G
  intro H locs ls hI hP hD hS hl
  exact lv_aloadN C.1 C.2.1 hd (jm_h_at hl hl0) (k H locs ls hI hP hD hS hl)
theorem jm_astoreN {n : Nat} (C : jm_C E G cc nL own rm) (hd : decode cc pc = .ok (.astore n, 2)) (hn : n < nL) (k : jm_J E G q w I (pc + 2) ((n, .null) :: lv) st) : jm_J E G q w I pc lv (.null :: st) := by
  obtain ⟨l, D, ca⟩ := E
  obtain ⟨p, e, R, s, m, args, below, meth, c, Q, A⟩ := G
  intro H locs ls hI hP hD hS hl
  exact lv_astoreN C.1 C.2.1 hd (jm_h_to hl) (by rw [C.2.2.1]; exact hn) rfl (fun ls' hl' => k H locs ls' hI hP hD hS (jm_h_st hl rfl hl'))
end JR2
def hk_gs (w : jm_W) (b : Int) : Nat → Option Nat := fun i => some (w.2.1 (b + i))
def hk_gg (w : jm_W) (ng : Int) : Nat → Option Nat := fun i => if (i : Int) < ng then some (w.2.1 (30 + i)) else none
theorem hk_gs_at (w : jm_W) (b : Int) {j : Int} (h : 0 ≤ j) : hk_gs w b j.toNat = some (w.2.1 (b + j)) := by unfold hk_gs; rw [Int.toNat_of_nonneg h]
theorem hk_gg_at (w : jm_W) {ng j : Int} (h : 0 ≤ j) (h2 : j < ng) : hk_gg w ng j.toNat = some (w.2.1 (30 + j)) := by unfold hk_gg; rw [Int.toNat_of_nonneg h, if_pos h2]
theorem hk_gg_no (w : jm_W) {ng j : Int} (h : 0 ≤ j) (h2 : ng ≤ j) : hk_gg w ng j.toNat = none := by unfold hk_gg; rw [Int.toNat_of_nonneg h, if_neg (by omega)]
def jm_X5 (E : jm_E) (w : jm_W) (ng : Int) : Prop := (0 ∈ w.1 ∧ w.2.2 0 = jm_O 5 [some (.ref (w.2.1 1)), some (.ref (w.2.1 2)), some (.ref (w.2.1 3)), some (.ref (w.2.1 4)), none, none, none, none, none]) ∧ (1 ∈ w.1 ∧ w.2.2 1 = jm_Qa (E.2.2 3) 3 (hk_gs w 10)) ∧ (2 ∈ w.1 ∧ w.2.2 2 = jm_Qa (E.2.2 4) 6 (hk_gs w 20)) ∧ (3 ∈ w.1 ∧ w.2.2 3 = jm_Qa (E.2.2 5) 12 (hk_gg w ng)) ∧ jm_X2 E w 4 ∧ (∀ i, 0 ≤ i → i < 3 → jm_X1 E w (10 + i)) ∧ (∀ i, 0 ≤ i → i < 6 → jm_X4 E w (20 + i)) ∧ (∀ i, 0 ≤ i → i < ng → jm_X0 E w (30 + i)) ∧ 0 ≤ ng ∧ ng ≤ 12
theorem jm_X5_s {E : jm_E} {w : jm_W} {ng : Int} (h : jm_X5 E w ng) {i : Int} (h1 : 0 ≤ i) (h2 : i < 3) : jm_X1 E w (10 + i) := h.2.2.2.2.2.1 i h1 h2
theorem jm_X5_t {E : jm_E} {w : jm_W} {ng : Int} (h : jm_X5 E w ng) {i : Int} (h1 : 0 ≤ i) (h2 : i < 6) : jm_X4 E w (20 + i) := h.2.2.2.2.2.2.1 i h1 h2
theorem jm_X5_g {E : jm_E} {w : jm_W} {ng : Int} (h : jm_X5 E w ng) {i : Int} (h1 : 0 ≤ i) (h2 : i < ng) : jm_X0 E w (30 + i) := h.2.2.2.2.2.2.2.1 i h1 h2
theorem jm_X5_l {E : jm_E} {w : jm_W} {ng : Int} (h : jm_X5 E w ng) : jm_X2 E w 4 := h.2.2.2.2.1
theorem jm_X5_n {E : jm_E} {w : jm_W} {ng : Int} (h : jm_X5 E w ng) : 0 ≤ ng ∧ ng ≤ 12 := h.2.2.2.2.2.2.2.2
-- rows of six
def hk_eq6 (f g : Int → Int) : Prop := ∀ i, 0 ≤ i → i < 6 → f i = g i
theorem hk_first_c {f g : Int → Int} (p : Int) : ∀ (n : Nat) (i : Int), (∀ j, i ≤ j → j < i + n → f j = g j) → hk_first f p n i = hk_first g p n i
  | 0, _, _ => rfl
  | n + 1, i, h => by
    unfold hk_first
    rw [h i (by omega) (by omega), hk_first_c p n (i + 1) (fun j h1 h2 => h j (by omega) (by omega))]
theorem hk_lie_c {f g : Int → Int} (h : hk_eq6 f g) : hk_lie f = hk_lie g := by
  funext x y
  unfold hk_lie
  rw [hk_first_c _ 6 0 (fun j h1 h2 => h j h1 (by omega))]
theorem hk_at_c {f g : Int → Int} (h : hk_eq6 f g) (n : Int) : hk_at f n = hk_at g n := by
  unfold hk_at
  by_cases hn : 0 ≤ n ∧ n < 6
  · rw [if_pos hn, if_pos hn, h n hn.1 hn.2]
  · rw [if_neg hn, if_neg hn]
theorem hk_pt_c {f g : Int → Int} (h : hk_eq6 f g) (n v : Int) : hk_eq6 (hk_pt f n v) (hk_pt g n v) := fun i h1 h2 => by
  unfold hk_pt
  split
  · rfl
  · exact h i h1 h2
theorem hk_chain_c : ∀ (n : Nat) (W f g : Int → Int) (ht gv : Int), hk_eq6 f g → (hk_chain n W f ht gv).1 = (hk_chain n W g ht gv).1 ∧ hk_eq6 (hk_chain n W f ht gv).2 (hk_chain n W g ht gv).2
  | 0, W, f, g, ht, gv, h => ⟨rfl, h⟩
  | n + 1, W, f, g, ht, gv, h => by
    rw [hk_chain, hk_chain, hk_lie_c h, hk_at_c h]
    by_cases h0 : ht = -1
    · rw [if_pos h0, if_pos h0]; exact ⟨rfl, h⟩
    · rw [if_neg h0, if_neg h0]; exact hk_chain_c n _ _ _ _ _ (hk_pt_c h _ _)
theorem hk_near_c {f g : Int → Int} (h : hk_eq6 f g) (s : Int) : ∀ n, hk_near f s n = hk_near g s n
  | 0 => rfl
  | n + 1 => by rw [hk_near, hk_near, hk_near_c h s n, hk_at_c h]
theorem hk_cntn_c {f g : Int → Int} (h : hk_eq6 f g) (s l : Int) : ∀ n, hk_cntn f s l n = hk_cntn g s l n
  | 0 => rfl
  | n + 1 => by rw [hk_cntn, hk_cntn, hk_cntn_c h s l n, hk_at_c h]
theorem hk_score_c {f g : Int → Int} (h : hk_eq6 f g) : hk_score f = hk_score g := by
  unfold hk_score
  rw [hk_near_c h, hk_near_c h, hk_cntn_c h, hk_cntn_c h]
theorem hk_good_c {f g : Int → Int} (h : hk_eq6 f g) (hf : hk_good f) : hk_good g := fun i h1 h2 => by rw [← h i h1 h2]; exact hf i h1 h2
/-- a throw: where it stays, the wear, the stones -/
def hk_thr (W f : Int → Int) (n ln en tn lo hi : Int) : Int × (Int → Int) × (Int → Int) :=
  ((hk_T (hk_lie f) tn lo hi 60 W ln 0 en 0).2.1, hk_chain 6 (hk_T (hk_lie f) tn lo hi 60 W ln 0 en 0).1 (hk_pt f n (hk_T (hk_lie f) tn lo hi 60 W ln 0 en 0).2.1) (hk_T (hk_lie f) tn lo hi 60 W ln 0 en 0).2.2.1 (hk_T (hk_lie f) tn lo hi 60 W ln 0 en 0).2.2.2)
def hk_r2 (I : jm_M) (k ks wv : Int) (T : Int × (Int → Int) × (Int → Int)) (M : jm_M) : Prop := (∀ a, a ≠ k → a ≠ k + 100 + 100 → a ≠ ks + 100 → M a = I a) ∧ hk_eq6 (M (k + 100 + 100)) T.2.2 ∧ hk_w9 (M (ks + 100)) ∧ (wv ≠ 0 → M (ks + 100) = T.2.1) ∧ (wv = 0 → M (ks + 100) = I (ks + 100)) ∧ hk_good T.2.2
theorem jm_Mi_w {E : jm_E} {y : MethodName} {ws : List Cond} {rm : Room} {mc ms : Nat} {w : jm_W} {I : jm_M} {as : List Value} {p1 p2 : jm_M → Int → Prop} (h : jm_Mi E y ws rm mc ms w I as p1) (hp : ∀ I' z, p1 I' z → p2 I' z) : jm_Mi E y ws rm mc ms w I as p2 := fun sz => MetFree.mono (h sz) (fun _ _ q => q) (fun _ _ _ _ _ _ => trivial) (fun a st o t q0 q => ⟨by
  obtain ⟨⟨⟨r, u, q1, ⟨q2, q3⟩, q4⟩, q5⟩, q6⟩ := q
  exact ⟨⟨r, u, q1, ⟨q2, hp _ _ q3⟩, q4⟩, q5⟩, q.2⟩)
-- standings
def hk_avg (I : jm_M) (t : Int) : Int := if 0 < I (20 + t) 1 then (I (20 + t) 2).tdiv (I (20 + t) 1) else 30
theorem hk_avg_R {I : jm_M} (hI : ∀ a b, jm_R (I a b)) (t : Int) : jm_R (hk_avg I t) := by
  unfold hk_avg
  split
  · rename_i h
    have h2 := hI (20 + t) 2
    rcases Int.le_total 0 (I (20 + t) 2) with q | q
    · rw [Int.tdiv_eq_ediv_of_nonneg q]
      have q1 := Int.ediv_nonneg q (Int.le_of_lt h)
      have q2 := Int.ediv_le_self (I (20 + t) 1) q
      unfold jm_R; omega
    · have e : (I (20 + t) 2).tdiv (I (20 + t) 1) = -((-(I (20 + t) 2)).tdiv (I (20 + t) 1)) := by rw [Int.neg_tdiv, Int.neg_neg]
      rw [e, Int.tdiv_eq_ediv_of_nonneg (by omega)]
      have q1 := Int.ediv_nonneg (a := -(I (20 + t) 2)) (by omega) (Int.le_of_lt h)
      have q2 := Int.ediv_le_self (a := -(I (20 + t) 2)) (I (20 + t) 1) (by omega)
      unfold jm_R; omega
  · decide
def hk_ah (I : jm_M) (a b : Int) : Int := if ¬ I (20 + a) 0 = I (20 + b) 0 then (if I (20 + b) 0 < I (20 + a) 0 then 1 else 0) else if ¬ hk_avg I a = hk_avg I b then (if hk_avg I a < hk_avg I b then 1 else 0) else if a < b then 1 else 0
theorem hk_ah_r (I : jm_M) (a b : Int) : hk_ah I a b = 0 ∨ hk_ah I a b = 1 := by
  unfold hk_ah
  split
  · split <;> simp
  · split
    · split <;> simp
    · split <;> simp
def hk_tah (I : jm_M) (t : Int) : Nat → Int
  | 0 => 0
  | n + 1 => hk_tah I t n + (if (n : Int) = t then 0 else hk_ah I n t)
theorem hk_tah_r (I : jm_M) (t : Int) : ∀ n, 0 ≤ hk_tah I t n ∧ hk_tah I t n ≤ n
  | 0 => ⟨by unfold hk_tah; omega, by unfold hk_tah; omega⟩
  | n + 1 => by
    have h1 := hk_tah_r I t n
    have h2 := hk_ah_r I n t
    unfold hk_tah
    split <;> omega
-- the crew
def hk_lhw (I : jm_M) (ng s : Int) : Nat → Int
  | 0 => 19998
  | n + 1 => if (n : Int) < ng ∧ I (30 + n) 5 = 0 ∧ I (30 + n) 2 = s then hk_mn (hk_lhw I ng s n) (I (30 + n) 4) else hk_lhw I ng s n
