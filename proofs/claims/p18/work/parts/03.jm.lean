/-! THE LAYER J: the heap as a map of nodes. A node has an address and a shape; what it holds is read off a map of whole numbers (node, place). A row an instruction. -/
abbrev jm_M : Type := Int → Int → Int
abbrev jm_S : Type := Int → (Int → Int) → va_E
abbrev jm_W : Type := List Int × (Int → Nat) × jm_S
abbrev jm_E : Type := Launch × va_G × (Nat → ClassId)
abbrev jm_G : Type := Program × Env × Room × State × MethodId × Array Value × List Frame × Method × Code × (State → Prop) × (Nat → Prop)
def jm_i (z : Int) : Int32 := Int32.ofInt z
abbrev jm_v (z : Int) : Value := .int (jm_i z)
abbrev jm_R (z : Int) : Prop := -2147483648 ≤ z ∧ z ≤ 2147483647
def jm_f (w : jm_W) (I : jm_M) (k : Int) : Nat × va_E := (w.2.1 k, w.2.2 k (I k))
def jm_ws (w : jm_W) (I : jm_M) : va_W := w.1.map (jm_f w I)
def jm_A (w : jm_W) (sz : Nat) : Nat → Prop := fun q => (∃ k, k ∈ w.1 ∧ w.2.1 k = q) ∨ sz ≤ q
def jm_up (I : jm_M) (k j v : Int) : jm_M := fun a b => if a = k ∧ b = j then v else I a b
-- shapes: an object (a place holds a number, or the value given), a row of numbers, of references, of longs
def jm_fs : List (Option Value) → Int → (Int → Int) → List Value
  | [], _, _ => []
  | none :: t, j, f => jm_v (f j) :: jm_fs t (j + 1) f
  | some v :: t, j, f => v :: jm_fs t (j + 1) f
def jm_O (ci : Nat) (tm : List (Option Value)) : (Int → Int) → va_E := fun f => .inr (ci, jm_fs tm 0 f)
def jm_Ia (cA : ClassId) (n : Nat) : (Int → Int) → va_E := fun f => .inl (cA, n, .inl (fun j => jm_i (f j)))
def jm_Qa (cA : ClassId) (n : Nat) (g : Nat → Option Nat) : (Int → Int) → va_E := fun _ => .inl (cA, n, .inr (.inr (.inr (.inr g))))
def jm_La (cA : ClassId) (n : Nat) : (Int → Int) → va_E := fun f => .inl (cA, n, .inr (.inl (fun j => Int64.ofInt (f j))))
def jm_t (ca : Nat → ClassId) : List (ClassId × FieldType) := [(ca 0, .int), (ca 1, .int), (ca 2, .int), (ca 3, .object RX1), (ca 4, .object RX4), (ca 5, .object RX0)]
-- numbers
theorem jm_i_add (a b : Int) : jm_i a + jm_i b = jm_i (a + b) := (Int32.ofInt_add a b).symm
theorem jm_i_sub (a b : Int) : jm_i a - jm_i b = jm_i (a - b) := (Int32.ofInt_sub a b).symm
theorem jm_i_mul (a b : Int) : jm_i a * jm_i b = jm_i (a * b) := (Int32.ofInt_mul a b).symm
theorem jm_i_neg (a : Int) : -jm_i a = jm_i (-a) := (Int32.ofInt_neg a).symm
theorem jm_i_toInt {a : Int} (h : jm_R a) : (jm_i a).toInt = a := Int32.toInt_ofInt_of_le (by have := h.1; omega) (by have := h.2; omega)
theorem jm_i_of (x : Int32) : jm_i x.toInt = x := Int32.ofInt_toInt x
theorem jm_R_of (x : Int32) : jm_R x.toInt := ⟨by have := Int32.le_toInt x; omega, by have := Int32.toInt_lt x; omega⟩
theorem jm_i_lt {a b : Int} (ha : jm_R a) (hb : jm_R b) : jm_i a < jm_i b ↔ a < b := by rw [Int32.lt_iff_toInt_lt, jm_i_toInt ha, jm_i_toInt hb]
theorem jm_i_le {a b : Int} (ha : jm_R a) (hb : jm_R b) : jm_i a ≤ jm_i b ↔ a ≤ b := by rw [Int32.le_iff_toInt_le, jm_i_toInt ha, jm_i_toInt hb]
theorem jm_i_eq {a b : Int} (ha : jm_R a) (hb : jm_R b) : jm_i a = jm_i b ↔ a = b := by rw [← Int32.toInt_inj, jm_i_toInt ha, jm_i_toInt hb]
theorem jm_i_0 : jm_i 0 = 0 := by decide +kernel
theorem jm_R0 : jm_R 0 := by decide
theorem jm_i_lt0 {a : Int} (ha : jm_R a) : jm_i a < 0 ↔ a < 0 := by rw [← jm_i_0, jm_i_lt ha jm_R0]
theorem jm_i_0le {a : Int} (ha : jm_R a) : 0 ≤ jm_i a ↔ 0 ≤ a := by rw [← jm_i_0, jm_i_le jm_R0 ha]
theorem jm_i_le0 {a : Int} (ha : jm_R a) : jm_i a ≤ 0 ↔ a ≤ 0 := by rw [← jm_i_0, jm_i_le ha jm_R0]
theorem jm_i_0lt {a : Int} (ha : jm_R a) : 0 < jm_i a ↔ 0 < a := by rw [← jm_i_0, jm_i_lt jm_R0 ha]
theorem jm_i_eq0 {a : Int} (ha : jm_R a) : jm_i a = 0 ↔ a = 0 := by rw [← jm_i_0, jm_i_eq ha jm_R0]
theorem jm_i_div {a b : Int} (ha : jm_R a) (hb : jm_R b) : jm_i a / jm_i b = jm_i (a.tdiv b) := by
  unfold jm_i
  exact (Int32.ofInt_tdiv (by have := ha.1; exact this) (by have := ha.2; exact this) (by have := hb.1; exact this) (by have := hb.2; exact this)).symm
theorem jm_i_mod {a b : Int} (ha : jm_R a) (hb : jm_R b) : jm_i a - jm_i a / jm_i b * jm_i b = jm_i (a.tmod b) := by
  rw [jm_i_div ha hb, jm_i_mul, jm_i_sub]
  congr 1
  have := Int.tmod_add_mul_tdiv a b
  rw [Int.mul_comm b] at this
  omega
theorem jm_i_nat {a : Int} (h0 : 0 ≤ a) (h : jm_R a) : (jm_i a).toNatClampNeg = a.toNat := by
  show (jm_i a).toInt.toNat = a.toNat
  rw [jm_i_toInt h]
theorem jm_i_in {a : Int} {n : Nat} (h0 : 0 ≤ a) (h1 : a < n) (h : jm_R a) : vp_in (jm_i a) n := by
  intro h2
  rw [jm_i_lt0 h, jm_i_nat h0 h] at h2
  omega
theorem jm_i_long {a : Int} (h : jm_R a) : (jm_i a).toInt64 = Int64.ofInt a := by
  unfold jm_i
  exact Int32.toInt64_ofInt (by have := h.1; exact this) (by have := h.2; exact this)
theorem jm_nz {z : Int} (h : z = 0 ∨ z = 1) : narrow .boolean (jm_v z) = jm_v z := by rcases h with rfl | rfl <;> decide +kernel
-- fields
theorem jm_fs_get : ∀ (tm : List (Option Value)) (j : Int) (f : Int → Int) (n : Nat), tm[n]? = some none → (jm_fs tm j f)[n]? = some (jm_v (f (j + n)))
  | [], _, _, n, h => by simp at h
  | o :: t, j, f, 0, h => by
    cases o with
    | none => simp [jm_fs]
    | some v => simp at h
  | o :: t, j, f, n + 1, h => by
    have ih := jm_fs_get t (j + 1) f n (by simpa using h)
    have e : j + 1 + (n : Int) = j + ((n + 1 : Nat) : Int) := by omega
    rw [e] at ih
    cases o <;> simpa [jm_fs] using ih
theorem jm_fs_ref : ∀ (tm : List (Option Value)) (j : Int) (f : Int → Int) (n : Nat) (v : Value), tm[n]? = some (some v) → (jm_fs tm j f)[n]? = some v
  | [], _, _, n, v, h => by simp at h
  | o :: t, j, f, 0, v, h => by
    cases o with
    | none => simp at h
    | some u => simp at h; subst h; simp [jm_fs]
  | o :: t, j, f, n + 1, v, h => by
    have ih := jm_fs_ref t (j + 1) f n v (by simpa using h)
    cases o <;> simpa [jm_fs] using ih
theorem jm_fs_congr : ∀ (tm : List (Option Value)) (j : Int) (f g : Int → Int), (∀ n : Nat, tm[n]? = some none → f (j + n) = g (j + n)) → jm_fs tm j f = jm_fs tm j g
  | [], _, _, _, _ => rfl
  | o :: t, j, f, g, h => by
    have ih := jm_fs_congr t (j + 1) f g (fun n hn => by
      have h2 := h (n + 1) (by simpa using hn)
      have e : j + 1 + (n : Int) = j + ((n + 1 : Nat) : Int) := by omega
      rw [e]; exact h2)
    cases o with
    | none =>
      have h0 := h 0 (by simp)
      simp only [Int.natCast_zero, Int.add_zero] at h0
      rw [jm_fs, jm_fs, h0, ih]
    | some v => rw [jm_fs, jm_fs, ih]
theorem jm_fs_len : ∀ (tm : List (Option Value)) (j : Int) (f : Int → Int), (jm_fs tm j f).length = tm.length
  | [], _, _ => rfl
  | o :: t, j, f => by cases o <;> simp [jm_fs, jm_fs_len t]
theorem jm_fs_set : ∀ (tm : List (Option Value)) (j : Int) (f : Int → Int) (n : Nat) (v : Int), tm[n]? = some none → (jm_fs tm j f).set n (jm_v v) = jm_fs tm j (fun b => if b = j + n then v else f b)
  | [], _, _, n, v, h => by simp at h
  | o :: t, j, f, 0, v, h => by
    cases o with
    | none =>
      rw [jm_fs, jm_fs, List.set_cons_zero]
      have e : jm_fs t (j + 1) f = jm_fs t (j + 1) (fun b => if b = j + (0 : Nat) then v else f b) := jm_fs_congr _ _ _ _ (fun n _ => by rw [if_neg (by omega)])
      rw [← e]
      simp
    | some u => simp at h
  | o :: t, j, f, n + 1, v, h => by
    have ih := jm_fs_set t (j + 1) f n v (by simpa using h)
    have e : j + 1 + (n : Int) = j + ((n + 1 : Nat) : Int) := by omega
    rw [e] at ih
    cases o with
    | none => rw [jm_fs, jm_fs, List.set_cons_succ, ih, if_neg (by omega)]
    | some u => rw [jm_fs, jm_fs, List.set_cons_succ, ih]
theorem jm_fs_setr : ∀ (tm : List (Option Value)) (j : Int) (f : Int → Int) (n : Nat) (v : Value), n < tm.length → (jm_fs tm j f).set n v = jm_fs (tm.set n (some v)) j f
  | [], _, _, n, v, h => by simp at h
  | o :: t, j, f, 0, v, h => by cases o <;> simp [jm_fs]
  | o :: t, j, f, n + 1, v, h => by
    have ih := jm_fs_setr t (j + 1) f n v (by simpa using h)
    cases o <;> simp [jm_fs, ih]
-- the list of cells
theorem jm_ws_at {w : jm_W} {I : jm_M} {k : Int} (hk : k ∈ w.1) : ∃ i : Nat, w.1[i]? = some k ∧ (jm_ws w I)[i]? = some (w.2.1 k, w.2.2 k (I k)) := by
  obtain ⟨i, hi⟩ := List.getElem?_of_mem hk
  exact ⟨i, hi, by rw [jm_ws, List.getElem?_map, hi]; rfl⟩
theorem jm_ws_set {A : Nat → Prop} {w w' : jm_W} {I I' : jm_M} {k : Int} {i : Nat} {e : va_E} (hD : va_D A (jm_ws w I)) (hi : w.1[i]? = some k) (h1 : w'.1 = w.1) (h2 : w'.2.1 = w.2.1) (he : e = w'.2.2 k (I' k)) (ho : ∀ a, a ≠ k → w'.2.2 a (I' a) = w.2.2 a (I a)) : (jm_ws w I).set i (w.2.1 k, e) = jm_ws w' I' := by
  have hl : i < w.1.length := (List.getElem?_eq_some_iff.mp hi).1
  refine List.ext_getElem? (fun j => ?_)
  rw [jm_ws, jm_ws, h1, List.getElem?_map]
  by_cases hj : j = i
  · subst hj
    rw [List.getElem?_set_self (by rw [List.length_map]; exact hl), hi, he]
    show _ = some (jm_f w' I' k)
    rw [jm_f, h2]
  · rw [List.getElem?_set_ne (Ne.symm hj), List.getElem?_map]
    cases hjk : w.1[j]? with
    | none => rfl
    | some a =>
      have ha : a ≠ k := by
        intro hak
        subst hak
        have e1 : (jm_ws w I)[j]? = some (jm_f w I a) := by rw [jm_ws, List.getElem?_map, hjk]; rfl
        have e2 : (jm_ws w I)[i]? = some (jm_f w I a) := by rw [jm_ws, List.getElem?_map, hi]; rfl
        exact hj (hD.1 j i _ _ e1 e2 rfl)
      show some (jm_f w I a) = some (jm_f w' I' a)
      rw [jm_f, jm_f, h2, ho a ha]
theorem jm_ws_D {A : Nat → Prop} {w w' : jm_W} {I I' : jm_M} (hD : va_D A (jm_ws w I)) (h1 : w'.1 = w.1) (h2 : w'.2.1 = w.2.1) : va_D A (jm_ws w' I') := by
  have key : ∀ (k : Nat) (q : Nat × va_E), (jm_ws w' I')[k]? = some q → ∃ q0, (jm_ws w I)[k]? = some q0 ∧ q0.1 = q.1 := by
    intro k q hk
    rw [jm_ws, h1, List.getElem?_map] at hk
    cases hj : w.1[k]? with
    | none => rw [hj] at hk; cases hk
    | some a =>
      rw [hj] at hk
      cases hk
      exact ⟨jm_f w I a, by rw [jm_ws, List.getElem?_map, hj]; rfl, by rw [jm_f, jm_f, h2]⟩
  refine ⟨fun i j x y hx hy hxy => ?_, fun k q hk => ?_⟩
  · obtain ⟨x0, h3, h4⟩ := key i x hx
    obtain ⟨y0, h5, h6⟩ := key j y hy
    exact hD.1 i j x0 y0 h3 h5 (h4.trans (hxy.trans h6.symm))
  · obtain ⟨q0, h3, h4⟩ := key k q hk
    rw [← h4]
    exact hD.2 k q0 h3
theorem jm_A_eq (w : jm_W) (I : jm_M) (sz : Nat) : va_A (jm_ws w I) sz = jm_A w sz := by
  funext q
  refine propext ⟨fun h => ?_, fun h => ?_⟩
  · rcases h with ⟨k, e, h⟩ | h
    · rw [jm_ws, List.getElem?_map] at h
      cases hj : w.1[k]? with
      | none => rw [hj] at h; cases h
      | some a =>
        rw [hj] at h
        cases h
        exact Or.inl ⟨a, List.mem_of_getElem? hj, rfl⟩
    · exact Or.inr h
  · rcases h with ⟨a, ha, h⟩ | h
    · obtain ⟨i, hi, e⟩ := jm_ws_at (I := I) ha
      exact Or.inl ⟨i, w.2.2 a (I a), by rw [e, h]⟩
    · exact Or.inr h
-- locals
def jm_lk : List (Nat × Value) → Nat → Option Value
  | [], _ => none
  | (a, v) :: t, i => cond (Nat.beq a i) (some v) (jm_lk t i)
def jm_h (ls : Array Slot) (nL : Nat) (lv : List (Nat × Value)) : Prop := ls.size = nL ∧ lv_wf ls ∧ ∀ (i : Nat) (v : Value), jm_lk lv i = some v → ls[i]? = some (.val v) ∧ v.category = 1
theorem jm_h_at {ls : Array Slot} {nL : Nat} {lv : List (Nat × Value)} {i : Nat} {v : Value} (h : jm_h ls nL lv) (hi : jm_lk lv i = some v) : ls[i]? = some (.val v) := (h.2.2 i v hi).1
def jm_all (lv : List (Nat × Value)) (n : Nat) : List (Nat × Value) := (List.range n).filterMap (fun j => (jm_lk lv j).map (fun v => (j, v)))
theorem jm_h_to {ls : Array Slot} {nL : Nat} {lv : List (Nat × Value)} (h : jm_h ls nL lv) : lv_has ls nL (jm_all lv nL) := by
  refine ⟨h.1, h.2.1, fun q hq => ?_⟩
  obtain ⟨j, -, hj⟩ := List.mem_filterMap.mp hq
  cases hz : jm_lk lv j with
  | none => rw [hz] at hj; cases hj
  | some v =>
    rw [hz] at hj
    cases hj
    exact (h.2.2 j v hz).1
theorem jm_h_st {ls ls' : Array Slot} {nL i : Nat} {v : Value} {lv : List (Nat × Value)} (h : jm_h ls nL lv) (hv : v.category = 1) (h2 : lv_has ls' nL ((i, v) :: (jm_all lv nL).filter (fun q => !(q.1 == i) && !(q.1 + 1 == i && q.2.category == 2)))) : jm_h ls' nL ((i, v) :: lv) := by
  refine ⟨h2.1, h2.2.1, fun j u hj => ?_⟩
  by_cases e : i = j
  · subst e
    have hj' : some v = some u := by simpa [jm_lk] using hj
    cases hj'
    exact ⟨h2.2.2 (i, v) List.mem_cons_self, hv⟩
  · have hj' : jm_lk lv j = some u := by
      have hb : Nat.beq i j = false := by
        cases hq : Nat.beq i j with
        | false => rfl
        | true => exact absurd (Nat.eq_of_beq_eq_true hq) e
      simpa [jm_lk, hb] using hj
    have h3 := h.2.2 j u hj'
    have hlt : j < nL := by rw [← h.1]; exact (Array.getElem?_eq_some_iff.mp h3.1).1
    refine ⟨h2.2.2 (j, u) (List.mem_cons_of_mem _ (List.mem_filter.mpr ⟨List.mem_filterMap.mpr ⟨j, List.mem_range.mpr hlt, by rw [hj']; rfl⟩, ?_⟩)), h3.2⟩
    have e2 : ¬ j = i := fun z => e z.symm
    simp [e2, h3.2]
def jm_subb (l' l : List (Nat × Value)) : Prop := ∀ (i : Nat) (v : Value), jm_lk l' i = some v → jm_lk l i = some v
theorem jm_sub_0 (l : List (Nat × Value)) : jm_subb [] l := fun i v h => by cases h
theorem jm_sub_c {l' l : List (Nat × Value)} {i : Nat} {v : Value} (h : jm_lk l i = some v) (h2 : jm_subb l' l) : jm_subb ((i, v) :: l') l := by
  intro j u hj
  by_cases e : i = j
  · subst e
    have hj' : some v = some u := by simpa [jm_lk] using hj
    cases hj'
    exact h
  · have hb : Nat.beq i j = false := by
      cases hq : Nat.beq i j with
      | false => rfl
      | true => exact absurd (Nat.eq_of_beq_eq_true hq) e
    exact h2 j u (by simpa [jm_lk, hb] using hj)
theorem jm_h_sub {ls : Array Slot} {nL : Nat} {l l' : List (Nat × Value)} (h : jm_h ls nL l) (h2 : jm_subb l' l) : jm_h ls nL l' := ⟨h.1, h.2.1, fun i v hi => h.2.2 i v (h2 i v hi)⟩
theorem jm_h_arg {ls : Array Slot} {nL : Nat} {as : List Value} (hc : ∀ v ∈ as, v.category = 1) (h : lv_has ls nL (lv_args 0 as)) : jm_h ls nL (lv_args 0 as) := by
  refine ⟨h.1, h.2.1, fun i v hi => ?_⟩
  have key : ∀ (l : List (Nat × Value)), jm_lk l i = some v → (i, v) ∈ l := by
    intro l
    induction l with
    | nil => intro h; cases h
    | cons x t ih =>
      obtain ⟨a, u⟩ := x
      intro h
      cases hq : Nat.beq a i with
      | true =>
        have h' : some u = some v := by simpa [jm_lk, hq] using h
        cases h'
        have := Nat.eq_of_beq_eq_true hq
        subst this
        exact List.mem_cons_self
      | false => exact List.mem_cons_of_mem _ (ih (by simpa [jm_lk, hq] using h))
  have hm := key _ hi
  refine ⟨h.2.2 (i, v) hm, hc v ?_⟩
  have key2 : ∀ (vs : List Value) (k : Nat), (i, v) ∈ lv_args k vs → v ∈ vs := by
    intro vs
    induction vs with
    | nil => intro k h; cases h
    | cons x t ih =>
      intro k h
      rw [lv_args] at h
      rcases List.mem_cons.mp h with h | h
      · cases h; exact List.mem_cons_self
      · exact List.mem_cons_of_mem _ (ih _ h)
  exact key2 _ _ hm
