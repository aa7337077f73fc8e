/-! THE LAW'S LOOP -/
def hk_x (xs : Nat → Int32) (j : Int) : Int := (xs j.toNat).toInt
theorem hk_x_R (xs : Nat → Int32) (j : Int) : jm_R (hk_x xs j) := jm_R_of _
/-- the script, which no cell of the world is -/
def jm_SC (G : jm_G) (b L : Nat) (xs : Nat → Int32) : Prop := match G with | (_, _, _, s, _, _, _, _, _, _, A) => va_X b L xs s s.heap ∧ b < s.heap.size ∧ ¬ A b
section JLW
variable {E : jm_E} {G : jm_G} {q : Nat × Nat} {w : jm_W} {I : jm_M} {pc : Nat} {lv : List (Nat × Value)} {st : List Value} {cc : ByteArray} {nL : Nat} {own : String} {rm : Room}
theorem jm_sld {b L : Nat} {xs : Nat → Int32} {j : Int} (C : jm_C E G cc nL own rm) (S : jm_SC G b L xs) (h0 : 0 ≤ j) (h1 : j < L) (hj : jm_R j) (hd : decode cc pc = .ok (.iaload, 1)) (kk : jm_J E G q w I (pc + 1) lv (jm_v (hk_x xs j) :: st)) : jm_J E G q w I pc lv (jm_v j :: .ref b :: st) := by
  obtain ⟨l, D, ca⟩ := E
  obtain ⟨p, e, R, s, m, args, below, meth, c, Q, A⟩ := G
  intro H locs ls hI hP hD hS hl
  obtain ⟨hx, hb, hml, hown, hts, -, hK, -⟩ := C
  obtain ⟨s1, s2, s3⟩ := S
  refine va_sld hx hb s1 s2 s3 hS (jm_i_in h0 h1 hj) hd ?_
  rw [jm_i_nat h0 hj, show Value.int (xs j.toNat) = jm_v (hk_x xs j) from congrArg Value.int (jm_i_of _).symm]
  exact kk H locs ls hI hP hD hS hl
theorem jm_slen {b L : Nat} {xs : Nat → Int32} (C : jm_C E G cc nL own rm) (S : jm_SC G b L xs) (hd : decode cc pc = .ok (.arraylength, 1)) (kk : jm_J E G q w I (pc + 1) lv (jm_v L :: st)) : jm_J E G q w I pc lv (.ref b :: st) := by
  obtain ⟨l, D, ca⟩ := E
  obtain ⟨p, e, R, s, m, args, below, meth, c, Q, A⟩ := G
  intro H locs ls hI hP hD hS hl
  obtain ⟨hx, hb, hml, hown, hts, -, hK, -⟩ := C
  obtain ⟨s1, s2, s3⟩ := S
  refine va_slen hx hb s1 s2 s3 hS hd ?_
  rw [show Value.int (Int32.ofNat L) = jm_v L from congrArg Value.int (by first | exact (Int32.ofInt_eq_ofNat).symm | rfl)]
  exact kk H locs ls hI hP hD hS hl
theorem jm_iand {a z : Int} (C : jm_C E G cc nL own rm) (hd : decode cc pc = .ok (.iand, 1)) (kk : jm_J E G q w I (pc + 1) lv (jm_v (jm_i a &&& jm_i z).toInt :: st)) : jm_J E G q w I pc lv (jm_v z :: jm_v a :: st) := by
  obtain ⟨l, D, ca⟩ := E
  obtain ⟨p, e, R, s, m, args, below, meth, c, Q, A⟩ := G
  intro H locs ls hI hP hD hS hl
  refine lv_iand C.1 C.2.1 hd ?_
  rw [show Value.int (jm_i a &&& jm_i z) = jm_v (jm_i a &&& jm_i z).toInt from congrArg Value.int (jm_i_of _).symm]
  exact kk H locs ls hI hP hD hS hl
theorem jm_swI {x dflt hi off : Int} {offs : Array Int} {len : Nat} (tgt : Nat) (C : jm_C E G cc nL own rm) (hd : decode cc pc = .ok (.tableswitch dflt 0 hi offs, len)) (hx : jm_R x) (h0 : 0 ≤ x) (h1 : x ≤ hi) (ho : offs[x.toNat]? = some off) (ht : (pc : Int) + off = (tgt : Int)) (k : jm_J E G q w I tgt lv st) : jm_J E G q w I pc lv (jm_v x :: st) := by
  obtain ⟨l, D, ca⟩ := E
  obtain ⟨p, e, R, s, m, args, below, meth, c, Q, A⟩ := G
  intro H locs ls hI hP hD hS hl
  have ex : (jm_i x).toInt = x := jm_i_toInt hx
  exact lv_tableIn C.1 C.2.1 hd (by rw [ex]; omega) (by rw [ex]; omega) (by rw [ex, Int.sub_zero]; exact ho) ht (k H locs ls hI hP hD hS hl)
theorem jm_swO {x dflt hi : Int} {offs : Array Int} {len : Nat} (tgt : Nat) (C : jm_C E G cc nL own rm) (hd : decode cc pc = .ok (.tableswitch dflt 0 hi offs, len)) (hx : jm_R x) (h : x < 0 ∨ hi < x) (ht : (pc : Int) + dflt = (tgt : Int)) (k : jm_J E G q w I tgt lv st) : jm_J E G q w I pc lv (jm_v x :: st) := by
  obtain ⟨l, D, ca⟩ := E
  obtain ⟨p, e, R, s, m, args, below, meth, c, Q, A⟩ := G
  intro H locs ls hI hP hD hS hl
  have ex : (jm_i x).toInt = x := jm_i_toInt hx
  exact lv_tableOut C.1 C.2.1 hd (by rw [ex]; exact h) ht (k H locs ls hI hP hD hS hl)
/-- an int of the script, by its place behind the call's first -/
theorem jm_arg {b L : Nat} {xs : Nat → Int32} {i k : Int} (C : jm_C E G cc nL own rm) (S : jm_SC G b L xs) (hl0 : jm_lk lv 0 = some (.ref b)) (hl4 : jm_lk lv 4 = some (jm_v i)) (h0 : 0 ≤ i) (hk : 0 ≤ k ∧ k ≤ 6) (h6 : i + 6 < L) (hL : L ≤ 3584) (d0 : decode cc pc = .ok (.aload_n 0, 1)) (d1 : decode cc (pc + 1) = .ok (.iload 4, 2)) (d3 : decode cc (pc + 3) = .ok (.iconst k, 1)) (d4 : decode cc (pc + 4) = .ok (.iadd, 1)) (d5 : decode cc (pc + 5) = .ok (.iaload, 1))
    (kk : jm_J E G q w I (pc + 6) lv (jm_v (hk_x xs (i + k)) :: st)) : jm_J E G q w I pc lv st := by
  refine jm_aload_n C d0 hl0 ?_
  refine jm_iload C d1 hl4 ?_
  refine jm_iconst C d3 ?_
  refine jm_iadd C d4 ?_
  exact jm_sld C S (by omega) (by omega) (by constructor <;> omega) d5 kk
theorem jm_argb {b L : Nat} {xs : Nat → Int32} {i : Int} (C : jm_C E G cc nL own rm) (S : jm_SC G b L xs) (hl0 : jm_lk lv 0 = some (.ref b)) (hl4 : jm_lk lv 4 = some (jm_v i)) (h0 : 0 ≤ i) (h6 : i + 6 < L) (hL : L ≤ 3584) (d0 : decode cc pc = .ok (.aload_n 0, 1)) (d1 : decode cc (pc + 1) = .ok (.iload 4, 2)) (d3 : decode cc (pc + 3) = .ok (.bipush 6, 2)) (d4 : decode cc (pc + 5) = .ok (.iadd, 1)) (d5 : decode cc (pc + 6) = .ok (.iaload, 1))
    (kk : jm_J E G q w I (pc + 7) lv (jm_v (hk_x xs (i + 6)) :: st)) : jm_J E G q w I pc lv st := by
  refine jm_aload_n C d0 hl0 ?_
  refine jm_iload C d1 hl4 ?_
  refine jm_bipush C d3 (by decide +kernel) ?_
  refine jm_iadd C d4 ?_
  exact jm_sld C S (by omega) (by omega) (by constructor <;> omega) d5 kk
/-- past the rows' ends the map may hold what one likes -/
theorem jm_hnm (Q : jm_X6 E w) (kk : ∀ I' : jm_M, hk_nm I' → (∀ a b, a ≠ 324 → a ≠ 325 → I' a b = I a b) → jm_J E G q w I' pc lv st) : jm_J E G q w I pc lv st := by
  obtain ⟨h300, h305, h306, h307, h309, h310, h311, h312, h313, h314, h315, h316, h317, h318, h319, h320, h321, h322, h323, h324, h325, h326, h327⟩ := Q
  refine jm_nr (I' := fun a b => if (a = 324 ∧ ¬ (0 ≤ b ∧ b < 549)) ∨ (a = 325 ∧ ¬ (0 ≤ b ∧ b < 6)) then 0 else I a b) (fun k hk => ?_) (fun hR a b => ?_) (kk _ ⟨fun c hc => if_pos (Or.inl ⟨rfl, hc⟩), fun c hc => if_pos (Or.inr ⟨rfl, hc⟩)⟩ (fun a b h1 h2 => if_neg (by omega)))
  · by_cases e : k = 324
    · subst e
      exact Or.inr ⟨_, _, h324.2, fun i hi => if_neg (by omega)⟩
    · by_cases e2 : k = 325
      · subst e2
        exact Or.inr ⟨_, _, h325.2, fun i hi => if_neg (by omega)⟩
      · exact Or.inl (funext fun b => if_neg (by omega))
  · show jm_R (if _ then 0 else I a b)
    split
    · decide
    · exact hR a b
end JLW
abbrev hk_lv (b r0 r1 r2 : Nat) (i : Int) : List (Nat × Value) := [(0, .ref b), (1, .ref r0), (2, .ref r1), (3, .ref r2), (4, jm_v i)]
def hk_nd (n : Nat) (z : Int) : Prop := (0 ≤ z ∧ z < 30 + n) ∨ (100 ≤ z ∧ z < 130 + n) ∨ z = 204 ∨ (230 ≤ z ∧ z < 230 + n) ∨ (299 ≤ z ∧ z ≤ 327)
def hk_LI (E : jm_E) (w : jm_W) (I : jm_M) (n : Nat) (T : Int) : Prop := jm_X5 E w n ∧ jm_X6 E w ∧ (299 ∈ w.1 ∧ w.2.2 299 = jm_La (E.2.2 2) 1) ∧ (∀ z, z ∈ w.1 → hk_nd n z) ∧ hk_inv I I n T ∧ hk_nm I
theorem hk_lv_sub {b r0 r1 r2 : Nat} {i : Int} {x y : Value} : jm_subb (hk_lv b r0 r1 r2 i) ((6, x) :: (5, y) :: hk_lv b r0 r1 r2 i) := by
  intro k v h
  match k with
  | 0 => exact h
  | 1 => exact h
  | 2 => exact h
  | 3 => exact h
  | 4 => exact h
  | 5 => exact nomatch h
  | 6 => exact nomatch h
  | k + 7 => exact nomatch h

set_option maxRecDepth 100000 in
/-- what follows both calls: the codes are the same, and so are the answers -/
theorem jw_tail {E : jm_E} {G : jm_G} {q : Nat × Nat} {w : jm_W} {I2 : jm_M} {b r0 n : Nat} {i kz zb T off : Int} (p : Nat) (C : jm_C E G cL_law 7 RL room_1) (Q : jm_X6 E w) (hO : 299 ∈ w.1 ∧ w.2.2 299 = jm_La (E.2.2 2) 1) (sem : hk_sem I2 kz zb n T) (hf : q.1 ≤ room_1.cells ∧ q.2 ≤ room_1.slots)
    (d0 : decode cL_law p = .ok (.istore 6, 2)) (d2 : decode cL_law (p + 2) = .ok (.aload_n 2, 1)) (d3 : decode cL_law (p + 3) = .ok (.invokevirtual 72, 3)) (d6 : decode cL_law (p + 6) = .ok (.iload 5, 2)) (d8 : decode cL_law (p + 8) = .ok (.if_icmp .eq 5, 3)) (d13 : decode cL_law (p + 13) = .ok (.iload 5, 2)) (d15 : decode cL_law (p + 15) = .ok (.ifCond .ne 15, 3)) (d18 : decode cL_law (p + 18) = .ok (.aload_n 3, 1)) (d19 : decode cL_law (p + 19) = .ok (.iconst 0, 1)) (d20 : decode cL_law (p + 20) = .ok (.laload, 1)) (d21 : decode cL_law (p + 21) = .ok (.iload 6, 2)) (d23 : decode cL_law (p + 23) = .ok (.i2l, 1)) (d24 : decode cL_law (p + 24) = .ok (.lcmp, 1)) (d25 : decode cL_law (p + 25) = .ok (.ifCond .eq 5, 3)) (d30 : decode cL_law (p + 30) = .ok (.goto off, 3)) (ht : ((p + 30 : Nat) : Int) + off = ((1157 : Nat) : Int))
    (next : ∀ I3 : jm_M, hk_inv I3 I3 n (T + 1) → hk_nm I3 → jm_J E G q w I3 1157 (hk_lv b r0 (w.2.1 300) (w.2.1 299) i) []) : jm_J E G q w I2 p ((5, jm_v kz) :: hk_lv b r0 (w.2.1 300) (w.2.1 299) i) [jm_v zb] := by
  obtain ⟨s1, s2, s3, s4⟩ := sem
  have fin : ∀ (z6 : Int) st, st = [] → jm_J E G q w I2 (p + 30) ((6, jm_v z6) :: (5, jm_v kz) :: hk_lv b r0 (w.2.1 300) (w.2.1 299) i) st := fun z6 st hst => by
    rw [hst]
    refine jm_goto 1157 C d30 ht ?_
    refine jm_lvs hk_lv_sub ?_
    refine jm_hnm Q (fun I3 N3 e3 => ?_)
    exact next I3 (hk_inv_x s4 (fun a b _ h _ _ _ => e3 a b (by omega) (by omega)) (fun a b _ h1 h2 _ _ _ => e3 a b h1 h2)) N3
  refine jm_istore C d0 (Nat.le_of_ble_eq_true rfl) ?_
  refine jm_aload_n C d2 rfl ?_
  refine jm_cVi (n := 0) (ci := 6) [] C (kX6_thrown E w I2 Q) jw_m_RL_72 okX6_thrown rfl ⟨rfl, rfl⟩ ⟨Nat.le_of_ble_eq_true rfl, Nat.le_of_ble_eq_true rfl⟩ rfl Q.1.1 Q.1.2 rfl rfl (Nat.le_of_ble_eq_true rfl) d3 hf (fun I4 z4 h4 => ?_)
  obtain ⟨rfl, rfl⟩ := h4
  refine jm_wid (q' := q) (Nat.le_refl _) (Nat.le_refl _) ?_
  refine jm_iload C d6 rfl ?_
  refine jm_icmp_eq (p + 13) C d8 (by omega) (by rw [s1]; constructor <;> omega) (by constructor <;> omega) (fun _ => ?_) (fun c => absurd s1 c)
  refine jm_iload C d13 rfl ?_
  refine jm_if_ne (p + 30) C d15 (by omega) (by constructor <;> omega) (fun c => fin _ _ rfl) (fun c => ?_)
  obtain ⟨v1, v2⟩ := s3 c
  refine jm_aload_n C d18 rfl ?_
  refine jm_iconst C d19 ?_
  refine jm_lald C hO.1 rfl hO.2 (by decide) (by decide) (by decide) d20 ?_
  refine jm_iload C d21 rfl ?_
  rw [show Value.int (jm_i zb) = jm_v (I4 299 0) from congrArg Value.int v2.symm]
  refine jm_i2l C d23 v1 ?_
  refine jm_lcmp0 C d24 ?_
  exact jm_if_eq (p + 30) C d25 (by omega) (by decide) (fun _ => fin _ _ rfl) (fun c => absurd rfl c)

