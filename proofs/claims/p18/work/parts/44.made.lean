/-! THINGS THAT ARE MADE: the world grows; constructors -/
def jm_ad (w : jm_W) (k : Int) (a : Nat) (S : (Int → Int) → va_E) : jm_W := (w.1 ++ [k], fun z => if z = k then a else w.2.1 z, fun z => if z = k then S else w.2.2 z)
def jm_sh (w : jm_W) (k : Int) (S : (Int → Int) → va_E) : jm_W := (w.1, w.2.1, fun z => if z = k then S else w.2.2 z)
def jm_z (I : jm_M) (k : Int) : jm_M := fun a b => if a = k then 0 else I a b
theorem jm_z_k (I : jm_M) (k : Int) : jm_z I k k = fun _ => 0 := by funext b; simp [jm_z]
theorem jm_z_o {I : jm_M} {k a : Int} (h : a ≠ k) : jm_z I k a = I a := by funext b; simp [jm_z, h]
theorem jm_z_R {I : jm_M} {k : Int} (hI : ∀ a b, jm_R (I a b)) : ∀ a b, jm_R (jm_z I k a b) := fun a b => by
  unfold jm_z
  split
  · decide
  · exact hI a b
theorem jm_ws_ad {w : jm_W} {I : jm_M} {k : Int} {a : Nat} {S : (Int → Int) → va_E} (hk : k ∉ w.1) : jm_ws (jm_ad w k a S) (jm_z I k) = jm_ws w I ++ [(a, S (fun _ => 0))] := by
  unfold jm_ws
  show (w.1 ++ [k]).map _ = _
  rw [List.map_append]
  congr 1
  · refine List.map_congr_left (fun z hz => ?_)
    have hne : z ≠ k := fun e => hk (by rw [← e]; exact hz)
    unfold jm_f jm_ad
    dsimp only
    rw [if_neg hne, if_neg hne, jm_z_o hne]
  · show [jm_f (jm_ad w k a S) (jm_z I k) k] = _
    unfold jm_f jm_ad
    dsimp only
    rw [if_pos rfl, if_pos rfl, jm_z_k]
theorem jm_ws_sh {A : Nat → Prop} {w : jm_W} {I : jm_M} {k : Int} {i : Nat} {S : (Int → Int) → va_E} (hD : va_D A (jm_ws w I)) (hi : w.1[i]? = some k) : (jm_ws w I).set i (w.2.1 k, S (I k)) = jm_ws (jm_sh w k S) I := by
  refine jm_ws_set hD hi rfl rfl ?_ (fun a ha => ?_)
  · unfold jm_sh; dsimp only; rw [if_pos rfl]
  · unfold jm_sh; dsimp only; rw [if_neg ha]
def jm_in0 (G : jm_G) : Prop := match G with | (_, _, _, _, _, _, _, meth, _, _, _) => meth.name = "<init>"
def jm_AO (G : jm_G) : Prop := match G with | (_, _, _, s, _, _, _, _, _, _, _) => va_AO RX1 s ∧ va_AO RX4 s ∧ va_AO RX0 s
section JNEW
variable {E : jm_E} {G : jm_G} {q : Nat × Nat} {w : jm_W} {I : jm_M} {pc : Nat} {lv : List (Nat × Value)} {st : List Value} {cc : ByteArray} {nL : Nat} {own : String} {rm : Room}
theorem jm_obj {x : Nat} {idx : Nat} (C : jm_C E G cc nL own rm) (hlink : Cond.methodLink own idx objectInit ∈ jm_W0) (hfr : 1 ≤ rm.frames) (hlo : (st.map fun v => v.category).sum + 12 ≤ rm.locals) (hd : decode cc pc = .ok (.invokespecial idx, 3)) (k : jm_J E G q w I (pc + 3) lv st) : jm_J E G q w I pc lv (.ref x :: st) := by
  obtain ⟨l, D, ca⟩ := E
  obtain ⟨p, e, R, s, m, args, below, meth, c, Q, A⟩ := G
  intro H locs ls hI hP hD hS hl
  obtain ⟨hx, hb, hml, hown, hts, rfl, hK, hA, hlk, hN⟩ := C
  refine W.objInit hx hb hown (hts _ hlink) (hts _ jw_i_obj) (hts _ jw_c_obj) rfl hl.1 rfl hd hfr (by show 2 * 0 + _ + 12 ≤ _; omega) ?_
  exact W.eq (g2 := F0 m (pc + 3) ls st) rfl (k H locs ls hI hP hD hS hl)
theorem jm_new {C0 : String} {T : u_T} {N ci index : Nat} {tm : List (Option Value)} (k : Int) (C : jm_C E G cc nL own rm) (hc : vwCl[ci]? = some (C0, T, N)) (ty0 : Nat → FieldType) (hty : ∀ k, k < N → parseFieldDescriptor (T k).2.2.1 = some (ty0 k)) (hin : ∀ z ∈ u_ws C0 T N, z ∈ jm_W0) (hcl : Cond.classLink own index C0 ∈ jm_W0) (hinst : Cond.instantiable C0 N ∈ jm_W0) (hini : Cond.initialized C0 ∈ jm_W0) (hk : k ∉ w.1) (htm : ∀ j, j < N → defaultValue (ty0 j) = vp_V (jm_fs tm 0 (fun _ => 0)) j) (hf : q.1 + 1 ≤ rm.cells ∧ q.2 + N ≤ rm.slots) (hd : decode cc pc = .ok (.new index, 3))
    (kk : ∀ a : Nat, jm_J E G (q.1 + 1, q.2 + N) (jm_ad w k a (jm_O ci tm)) (jm_z I k) (pc + 3) lv (.ref a :: st)) : jm_J E G q w I pc lv st := by
  obtain ⟨l, D, ca⟩ := E
  obtain ⟨p, e, R, s, m, args, below, meth, c, Q, A⟩ := G
  intro H locs ls hI hP hD hS hl
  obtain ⟨hx, hb, hml, hown, hts, rfl, hK, hA, hlk, hN⟩ := C
  refine va_new (c0 := c) hx hb hts hin ty0 hty hown (hts _ hcl) (hts _ hinst) (hts _ hini) hK hP hD hS hA hc htm hf.1 hf.2 hd (fun a H1 hP1 hD1 hS1 => ?_)
  have e1 : jm_ws w I ++ [(a, Sum.inr (ci, jm_fs tm 0 (fun _ => 0)))] = jm_ws (jm_ad w k a (jm_O ci tm)) (jm_z I k) := (jm_ws_ad (I := I) (a := a) (S := jm_O ci tm) hk).symm
  rw [e1] at hP1 hD1
  exact kk a H1 locs ls (jm_z_R hI) hP1 hD1 hS1 hl
theorem jm_RA_u {s : State} {cA cB : ClassId} {ty : FieldType} (h1 : va_RA s cA ty) (h2 : va_RA s cB ty) : cA = cB := by
  cases ty with
  | object C =>
    obtain ⟨k1, comp1, a1, a2, a3, a4⟩ := h1
    obtain ⟨k2, comp2, b1, b2, b3, b4⟩ := h2
    exact Option.some.inj (a4.symm.trans b4)
  | _ => exact Option.some.inj (Eq.trans (Eq.symm h1) h2)
theorem jm_newa {n : Int} {atype : ArrayType} (ty : FieldType) (t N : Nat) (k : Int) (hn : n = N) (hN31 : N < 100000) (hty : newarray.typeOf atype = ty) (hz : defaultValue ty = jm_v 0) (C : jm_C E G cc nL own rm) (ht : (jm_t E.2.2)[t]? = some (E.2.2 t, ty)) (harr : Cond.arrayClass (newarray.typeOf atype) ∈ jm_W0) (hb4 : componentBytes ty ≤ 8) (hk : k ∉ w.1) (hf : q.1 + 1 ≤ rm.cells ∧ q.2 + N ≤ rm.slots) (hd : decode cc pc = .ok (.newarray atype, 2))
    (kk : ∀ a : Nat, jm_J E G (q.1 + 1, q.2 + N) (jm_ad w k a (jm_Ia (E.2.2 t) N)) (jm_z I k) (pc + 2) lv (.ref a :: st)) : jm_J E G q w I pc lv (jm_v n :: st) := by
  obtain ⟨l, D, ca⟩ := E
  obtain ⟨p, e, R, s, m, args, below, meth, c, Q, A⟩ := G
  intro H locs ls hI hP hD hS hl
  obtain ⟨hx, hb, hml, hown, hts, rfl, hK, hA, hlk, hN⟩ := C
  have hR : jm_R n := by rw [hn]; constructor <;> omega
  refine va_newa (ty := ty) (N' := N) (a0 := (N, .inl (fun _ => jm_i 0))) hx hb (hts _ harr) hty hK hP hD hS hA (fun cA => ?_) ?_ ?_ ?_ hf.1 hf.2 hd (fun a cA H1 hK1 hP1 hD1 hS1 => ?_)
  · show arrV cA N (fun _ => Value.int (jm_i 0)) = _
    rw [hz]
  · rw [jm_i_lt0 hR, hn]; omega
  · rw [jm_i_nat (by rw [hn]; omega) hR, hn]; omega
  · have := Nat.mul_le_mul (Nat.le_of_lt hN31) hb4; omega
  · have hlast : (jm_t ca ++ [(cA, ty)])[(jm_t ca).length]? = some (cA, ty) := by simp
    have u1 := (hK1.2 _ _ hlast).2
    have u2 := (hK.2 _ _ ht).2
    have e0 : cA = ca t := jm_RA_u u1 u2
    have e1 : jm_ws w I ++ [(a, Sum.inl (cA, N, Sum.inl (fun _ => jm_i 0)))] = jm_ws (jm_ad w k a (jm_Ia (ca t) N)) (jm_z I k) := by rw [e0]; exact (jm_ws_ad (I := I) (a := a) (S := jm_Ia (ca t) N) hk).symm
    rw [e1] at hP1 hD1
    exact kk a H1 locs ls (jm_z_R hI) hP1 hD1 hS1 hl
theorem jm_newq {n : Int} {C0 : String} {index : Nat} (t N : Nat) (k : Int) (hn : n = N) (hN31 : N < 100000) (C : jm_C E G cc nL own rm) (ht : (jm_t E.2.2)[t]? = some (E.2.2 t, .object C0)) (hclink : Cond.classLink own index C0 ∈ jm_W0) (hover : match G with | (_, _, _, s, _, _, _, _, _, _, _) => va_AO C0 s) (hk : k ∉ w.1) (hf : q.1 + 1 ≤ rm.cells ∧ q.2 + N ≤ rm.slots) (hd : decode cc pc = .ok (.anewarray index, 3))
    (kk : ∀ a : Nat, jm_J E G (q.1 + 1, q.2 + N) (jm_ad w k a (jm_Qa (E.2.2 t) N (fun _ => none))) (jm_z I k) (pc + 3) lv (.ref a :: st)) : jm_J E G q w I pc lv (jm_v n :: st) := by
  obtain ⟨l, D, ca⟩ := E
  obtain ⟨p, e, R, s, m, args, below, meth, c, Q, A⟩ := G
  intro H locs ls hI hP hD hS hl
  obtain ⟨hx, hb, hml, hown, hts, rfl, hK, hA, hlk, hN⟩ := C
  have hR : jm_R n := by rw [hn]; constructor <;> omega
  refine va_newq (N' := N) hx hb hown (hts _ hclink) hover hK hP hD hS hA ?_ ?_ ?_ hf.1 hf.2 hd (fun a cA H1 hK1 hP1 hD1 hS1 => ?_)
  · rw [jm_i_lt0 hR, hn]; omega
  · rw [jm_i_nat (by rw [hn]; omega) hR, hn]; omega
  · omega
  · have hlast : (jm_t ca ++ [(cA, FieldType.object C0)])[(jm_t ca).length]? = some (cA, .object C0) := by simp
    have u1 := (hK1.2 _ _ hlast).2
    have u2 := (hK.2 _ _ ht).2
    have e0 : cA = ca t := jm_RA_u u1 u2
    have e1 : jm_ws w I ++ [(a, Sum.inl (cA, N, Sum.inr (Sum.inr (Sum.inr (Sum.inr (fun _ => none))))))] = jm_ws (jm_ad w k a (jm_Qa (ca t) N (fun _ => none))) (jm_z I k) := by rw [e0]; exact (jm_ws_ad (I := I) (a := a) (S := jm_Qa (ca t) N (fun _ => none)) hk).symm
    rw [e1] at hP1 hD1
    exact kk a H1 locs ls (jm_z_R hI) hP1 hD1 hS1 hl
/-- a reference is put into a final place, in a constructor -/
theorem jm_putr {C0 : String} {T : u_T} {N ci index f : Nat} {tm : List (Option Value)} {k : Int} {a : Nat} {ty : FieldType} (C : jm_C E G cc nL own rm) (h0 : jm_in0 G) (hc : vwCl[ci]? = some (C0, T, N)) (ty0 : Nat → FieldType) (hty : ∀ k, k < N → parseFieldDescriptor (T k).2.2.1 = some (ty0 k)) (hnm : ∀ a, a < N → ∀ b, b < N → a ≠ b → (T a).2.1 ≠ (T b).2.1) (hin : ∀ z ∈ u_ws C0 T N, z ∈ jm_W0) (hk : k ∈ w.1) (hs : w.2.2 k = jm_O ci tm) (hlen : f < tm.length) (hN : f < N) (hlink : Cond.fieldLink own index (T f).1 (T f).2.1 (T f).2.2.1 ∈ jm_W0) (hfin : (T f).2.2.2 = true) (hdecl : (T f).1 = own) (hd0 : parseFieldDescriptor (T f).2.2.1 = some ty) (hn : narrow ty (.ref a) = .ref a) (hfit : fits ty (.ref a) = true) (hd : decode cc pc = .ok (.putfield index, 3))
    (kk : jm_J E G q (jm_sh w k (jm_O ci (tm.set f (some (.ref a))))) I (pc + 3) lv st) : jm_J E G q w I pc lv (.ref a :: .ref (w.2.1 k) :: st) := by
  obtain ⟨l, D, ca⟩ := E
  obtain ⟨p, e, R, s, m, args, below, meth, c, Q, A⟩ := G
  intro H locs ls hI hP hD hS hl
  obtain ⟨hx, hb, hml, hown, hts, -, hK, -⟩ := C
  obtain ⟨i, hi0, hi⟩ := jm_ws_at (I := I) hk
  rw [hs] at hi
  have hl2 : f < (jm_fs tm 0 (I k)).length := by rw [jm_fs_len]; exact hlen
  have hset : (jm_ws w I).set i (w.2.1 k, .inr (ci, (jm_fs tm 0 (I k)).set f (.ref a))) = jm_ws (jm_sh w k (jm_O ci (tm.set f (some (.ref a))))) I := by
    rw [jm_fs_setr tm 0 (I k) f (.ref a) hlen]
    exact jm_ws_sh (S := jm_O ci (tm.set f (some (.ref a)))) hD hi0
  refine va_putF hx hb hts hin ty0 hty hnm hown hK hP hD hS i hi hc f hN (hts _ hlink) (fun _ h => h) hfin h0 hdecl hd0 hn hfit hl2 hd (fun H1 locs1 hP1 hD1 hS1 => ?_)
  rw [hset] at hP1 hD1
  exact kk H1 locs1 ls hI hP1 hD1 hS1 hl
/-- a number is put into a final place, in a constructor -/
theorem jm_putF {C0 : String} {T : u_T} {N ci index f : Nat} {tm : List (Option Value)} {k v : Int} (jf : Int) (hjf : (f : Int) = jf) (C : jm_C E G cc nL own rm) (h0 : jm_in0 G) (hc : vwCl[ci]? = some (C0, T, N)) (ty0 : Nat → FieldType) (hty : ∀ k, k < N → parseFieldDescriptor (T k).2.2.1 = some (ty0 k)) (hnm : ∀ a, a < N → ∀ b, b < N → a ≠ b → (T a).2.1 ≠ (T b).2.1) (hin : ∀ z ∈ u_ws C0 T N, z ∈ jm_W0) (hk : k ∈ w.1) (hs : w.2.2 k = jm_O ci tm) (hf : tm[f]? = some none) (hN : f < N) (hlink : Cond.fieldLink own index (T f).1 (T f).2.1 (T f).2.2.1 ∈ jm_W0) (hfin : (T f).2.2.2 = true) (hdecl : (T f).1 = own) (hd0 : parseFieldDescriptor (T f).2.2.1 = some .int) (hd : decode cc pc = .ok (.putfield index, 3)) (hv : jm_R v)
    (kk : jm_J E G q w (jm_up I k jf v) (pc + 3) lv st) : jm_J E G q w I pc lv (jm_v v :: .ref (w.2.1 k) :: st) := by
  subst hjf
  obtain ⟨l, D, ca⟩ := E
  obtain ⟨p, e, R, s, m, args, below, meth, c, Q, A⟩ := G
  intro H locs ls hI hP hD hS hl
  obtain ⟨hx, hb, hml, hown, hts, -, hK, -⟩ := C
  obtain ⟨i, hi0, hi⟩ := jm_ws_at (I := I) hk
  rw [hs] at hi
  have hlen : f < (jm_fs tm 0 (I k)).length := by rw [jm_fs_len]; exact (List.getElem?_eq_some_iff.mp hf).1
  have hset : (jm_ws w I).set i (w.2.1 k, .inr (ci, (jm_fs tm 0 (I k)).set f (jm_v v))) = jm_ws w (jm_up I k f v) := by
    refine jm_ws_set hD hi0 rfl rfl ?_ (fun a ha => ?_)
    · rw [hs, jm_O, jm_fs_set tm 0 (I k) f v hf]
      congr 3
      funext b
      simp [jm_up]
    · have e0 : ∀ x, jm_up I k x v a = I a := fun x => by funext b; simp [jm_up, ha]
      rw [e0]
  refine va_putF hx hb hts hin ty0 hty hnm hown hK hP hD hS i hi hc f hN (hts _ hlink) (fun _ h => h) hfin h0 hdecl hd0 rfl rfl hlen hd (fun H1 locs1 hP1 hD1 hS1 => ?_)
  rw [hset] at hP1 hD1
  exact kk H1 locs1 ls (jm_upR hI hv) hP1 hD1 hS1 hl
/-- an object is put into a row -/
theorem jm_aast {k kv j : Int} {n t ci : Nat} {cA : ClassId} {g : Nat → Option Nat} {C0 : String} {T : u_T} {N : Nat} {tm : List (Option Value)} (C : jm_C E G cc nL own rm) (hk : k ∈ w.1) (ht : (jm_t E.2.2)[t]? = some (cA, .object C0)) (hs : w.2.2 k = jm_Qa cA n g) (hkv : kv ∈ w.1) (hsv : w.2.2 kv = jm_O ci tm) (hc : vwCl[ci]? = some (C0, T, N)) (h0 : 0 ≤ j) (h1 : j < n) (hj : jm_R j) (hd : decode cc pc = .ok (.aastore, 1))
    (kk : jm_J E G q (jm_sh w k (jm_Qa cA n (va_up g j.toNat (some (w.2.1 kv))))) I (pc + 1) lv st) : jm_J E G q w I pc lv (.ref (w.2.1 kv) :: jm_v j :: .ref (w.2.1 k) :: st) := by
  obtain ⟨l, D, ca⟩ := E
  obtain ⟨p, e, R, s, m, args, below, meth, c, Q, A⟩ := G
  intro H locs ls hI hP hD hS hl
  obtain ⟨hx, hb, hml, hown, hts, -, hK, -⟩ := C
  obtain ⟨i, hi0, hi⟩ := jm_ws_at (I := I) hk
  obtain ⟨iv, -, hiv⟩ := jm_ws_at (I := I) hkv
  rw [hs] at hi
  rw [hsv] at hiv
  refine va_astq hx hb hK hP hD hS i t iv ci hi ht hiv hc (jm_i_in h0 h1 hj) hd (fun H1 locs1 hP1 hD1 hS1 => ?_)
  rw [jm_i_nat h0 hj] at hP1 hD1
  have hset : (jm_ws w I).set i (w.2.1 k, .inl (cA, n, .inr (.inr (.inr (.inr (va_up g j.toNat (some (w.2.1 kv)))))))) = jm_ws (jm_sh w k (jm_Qa cA n (va_up g j.toNat (some (w.2.1 kv))))) I := jm_ws_sh (S := jm_Qa cA n (va_up g j.toNat (some (w.2.1 kv)))) hD hi0
  rw [hset] at hP1 hD1
  exact kk H1 locs1 ls hI hP1 hD1 hS1 hl
end JNEW
-- constructors' contracts
def jm_Bc (E : jm_E) (w : jm_W) (sz : Nat) (w' : jm_W) (I' : jm_M) (t : State) : Prop := (∀ k j, jm_R (I' k j)) ∧ va_P E.2.1 vwCl (jm_ws w' I') t.heap ∧ va_D (jm_A w sz) (jm_ws w' I')
def jm_Mcx (X : State → Prop) (E : jm_E) (y : MethodName) (ws : List Cond) (rm : Room) (mc ms : Nat) (w : jm_W) (I : jm_M) (as : List Value) (post : jm_W → jm_M → Prop) : Prop :=
  ∀ sz : Nat, Met E.1 y ws rm (va_Pc as (fun U => jm_pre E w I sz U ∧ X U)) (va_Qv (fun u : jm_W × jm_M => post u.1 u.2) (fun u t => jm_Bc E w sz u.1 u.2 t) (jm_A w sz)) mc ms (jm_A w sz)
abbrev jm_XT : State → Prop := fun _ => True
def jm_XA (U : State) : Prop := va_AO RX1 U ∧ va_AO RX4 U ∧ va_AO RX0 U
def jm_rc (E : jm_E) (G : jm_G) (cc : ByteArray) (mc ms : Nat) (post : jm_W → jm_M → Prop) : Prop :=
  ∀ (w' : jm_W) (I' : jm_M) (pc : Nat) (lv : List (Nat × Value)), decode cc pc = .ok (.return_, 1) → post w' I' → jm_J E G (mc, ms) w' I' pc lv []
theorem jm_in_c {X : State → Prop} {E : jm_E} {y : MethodName} {ws : List Cond} {rm : Room} {mc ms maxL : Nat} {w : jm_W} {I : jm_M} {as : List Value} {post : jm_W → jm_M → Prop} {cc : ByteArray} (own : String) (hy : plainName y.cls = true) (hown : y.cls = own) (hyn : y.name = "<init>") (hw : ws = Cond.code y cc maxL none :: jm_W0) (hlen : (lg_sl as).length ≤ maxL) (hcat : ∀ v ∈ as, v.category = 1)
    (body : ∀ G : jm_G, jm_C E G cc maxL own rm → jm_in0 G → (match G with | (_, _, _, s, _, _, _, _, _, _, _) => X s) → jm_rc E G cc mc ms post → (∀ k j, jm_R (I k j)) → jm_J E G (0, 0) w I 0 (lv_args 0 as) []) : jm_Mcx X E y ws rm mc ms w I as post := by
  subst hown
  obtain ⟨l, D, ca⟩ := E
  intro sz
  refine Met.ofW (cc := cc) (maxL := maxL) (ret := none) hy hw ?_
  intro p e s m args below meth c s₁ B hml hv
  obtain ⟨rfl, ⟨hsz, hI, hP, hK, hD0, hN⟩, hX⟩ := hv
  have hts0 := atoms_spec (ws := ws) B.pre
  have hts : ∀ z ∈ jm_W0, z.before as.toArray s = true := fun z hz => hts0 z (by rw [hw]; exact List.mem_cons_of_mem _ hz)
  have hown : s.vm.findClass y.cls = some m.cls := findClass_of_methodNamed B.named
  have hinit : meth.name = "<init>" := (name_of_methodNamed B.named B.method).1.trans hyn
  subst hsz
  have hD : va_D (jm_A w s.heap.size) (jm_ws w I) := by rw [← jm_A_eq w I]; exact hD0.self (sz := s.heap.size)
  have hA : ∀ q : Nat, s.heap.size ≤ q → jm_A w s.heap.size q := fun q h => Or.inr h
  have hS : va_S (jm_A w s.heap.size) s.heap s.heap [] := va_S.rf
  have hl := lv_entry as (n := maxL) hlen
  rw [lg_entry_eq]
  have C : jm_C (l, D, ca) (p, e, rm, s, m, as.toArray, below, meth, c, MQ below (va_Qv (fun u : jm_W × jm_M => post u.1 u.2) (fun u t => jm_Bc (l, D, ca) w s.heap.size u.1 u.2 t) (jm_A w s.heap.size)) as.toArray s mc ms (jm_A w s.heap.size), jm_A w s.heap.size) cc maxL y.cls rm := ⟨B.exec, B.bytes, hml, hown, hts, rfl, hK, hA, B.notSynchronized, hN⟩
  refine body (p, e, rm, s, m, as.toArray, below, meth, c, _, jm_A w s.heap.size) C hinit hX ?_ hI s.heap [] _ hI hP hD hS (by rw [hml]; exact jm_h_arg hcat hl)
  intro w' I' pc lv hd hp H locs ls hI' hP' hD' hS' hl'
  exact W.vret B.exec B.bytes B.returns (fun t ht hW => ⟨⟨(w', I'), rfl, hp, hI', by rw [ht]; exact hP', hD'⟩, hS'.F ht⟩) hS'.2.2 hd B.notSynchronized
section JCI
variable {E : jm_E} {G : jm_G} {q : Nat × Nat} {w : jm_W} {I : jm_M} {pc : Nat} {lv : List (Nat × Value)} {st : List Value} {cc : ByteArray} {nL : Nat} {own : String} {rm : Room} {X : State → Prop}
theorem jm_blindx {as : List Value} {sz : Nat} (hXm : ∀ u U : State, u.vm.Alike U.vm → X u → X U) : FrameBlind (va_Pc as (fun U => jm_pre E w I sz U ∧ X U)) := by
  intro a U g mk h
  obtain ⟨h0, h1, h2⟩ := h
  have z := jm_blind (E := E) (w := w) (I := I) (sz := sz) (as := as) a U g mk ⟨h0, h1⟩
  exact ⟨z.1, z.2, hXm _ _ (Vm.Alike.refl U.vm) h2⟩
theorem jm_runI {y : MethodName} {ws : List Cond} {rmc : Room} {mc ms maxL index n : Nat} {b : Nat} {bytes : ByteArray} {As rest : List Value} {C0 : String} {Qc : Nat → Array Value → State → Outcome → State → Prop} (hXm : ∀ u U : State, u.vm.Alike U.vm → X u → X U) (hX : match G with | (_, _, _, s, _, _, _, _, _, _, _) => X s) (C : jm_C E G cc nL own rm)
    (hM : ∀ sz, Met E.1 y ws rmc (va_Pc (.ref b :: As) (fun U => jm_pre E w I sz U ∧ X U)) (Qc sz) mc ms (jm_A w sz)) (hlnk : Cond.methodLink own index y ∈ jm_W0) (hok : jm_okI C0 y bytes maxL n) (hw : ws = Cond.code y bytes maxL none :: jm_W0) (hr : rmc.cells = mc ∧ rmc.slots = ms) (hR : rmc.frames + 1 ≤ rm.frames ∧ 8 + (maxL + 11) + rmc.locals ≤ rm.locals)
    (hn : As.length = n) (hst : st = As.reverse ++ .ref b :: rest) (hcat : (rest.map fun v => v.category).sum ≤ 8) (hd : decode cc pc = .ok (.invokespecial index, 3)) (hf : q.1 + mc ≤ rm.cells ∧ q.2 + ms ≤ rm.slots) : jm_run E G q w I pc st rest Qc (Value.ref b :: As).toArray mc ms := by
  obtain ⟨l, D, ca⟩ := E
  obtain ⟨p, e, R, s, m, args, below, meth, c, Q, A⟩ := G
  intro H locs ls hI hP hD hS hl
  obtain ⟨hx, hb, hml, hown, hts, rfl, hK, hA, hlk, hN⟩ := C
  exact va_runI (nL := nL) (Ts := jm_W0) (own := own) ⟨hx, hb, hml, hown, hts⟩ (hM H.size) (cwI n hts (by rw [hw]; exact jm_gc hok.2.2.1) hw hr.1 hr.2 (by rw [hok.2.2.2.1]; exact hts _ hok.2.1) (hts _ hlnk) (hts _ hok.1) hok.2.2.2.2.1 hok.2.2.2.2.2.1 hR) ⟨jm_blindx hXm, fun U hU hW => ⟨rfl, jm_pre_at hI hP hD hS hK hA hN hU hW, hXm _ _ hW.alike hX⟩⟩ rfl hn (hl.trans hml) hst (lv_room hcat) hd hf
theorem jm_runIN {y : MethodName} {ws : List Cond} {rmc : Room} {mc ms maxL index n : Nat} {b : Nat} {bytes : ByteArray} {As rest : List Value} {host C0 : String} {Qc : Nat → Array Value → State → Outcome → State → Prop} (hXm : ∀ u U : State, u.vm.Alike U.vm → X u → X U) (hX : match G with | (_, _, _, s, _, _, _, _, _, _, _) => X s) (C : jm_C E G cc nL own rm)
    (hM : ∀ sz, Met E.1 y ws rmc (va_Pc (.ref b :: As) (fun U => jm_pre E w I sz U ∧ X U)) (Qc sz) mc ms (jm_A w sz)) (hne : (own, index, y, host) ∈ jm_nest) (hok : jm_okI C0 y bytes maxL n) (hw : ws = Cond.code y bytes maxL none :: jm_W0) (hr : rmc.cells = mc ∧ rmc.slots = ms) (hR : rmc.frames + 1 ≤ rm.frames ∧ 8 + (maxL + 11) + rmc.locals ≤ rm.locals)
    (hn : As.length = n) (hst : st = As.reverse ++ .ref b :: rest) (hcat : (rest.map fun v => v.category).sum ≤ 8) (hd : decode cc pc = .ok (.invokespecial index, 3)) (hf : q.1 + mc ≤ rm.cells ∧ q.2 + ms ≤ rm.slots) : jm_run E G q w I pc st rest Qc (Value.ref b :: As).toArray mc ms := by
  obtain ⟨l, D, ca⟩ := E
  obtain ⟨p, e, R, s, m, args, below, meth, c, Q, A⟩ := G
  intro H locs ls hI hP hD hS hl
  obtain ⟨hx, hb, hml, hown, hts, rfl, hK, hA, hlk, hN⟩ := C
  have hNe := hN.2.1 _ hne
  exact va_runIN (nL := nL) (Ts := jm_W0) (own := own) ⟨hx, hb, hml, hown, hts⟩ (hM H.size) ⟨va_cnB n hts (by rw [hw]; exact jm_gc hok.2.2.1) hw hr.1 hr.2 hNe (by rw [hok.2.2.2.1]; exact hts _ hok.2.1) hok.2.2.2.2.2.1 hR, hok.2.2.2.2.1, hts _ hok.1⟩ ⟨jm_blindx hXm, fun U hU hW => ⟨rfl, jm_pre_at hI hP hD hS hK hA hN hU hW, hXm _ _ hW.alike hX⟩⟩ rfl hn (hl.trans hml) hst (lv_room hcat) hd hf
theorem jm_callc {rest : List Value} {a : Array Value} {mc ms : Nat} {post : jm_W → jm_M → Prop} (C : jm_C E G cc nL own rm) (hr : jm_run E G q w I pc st rest (fun sz => va_Qv (fun u : jm_W × jm_M => post u.1 u.2) (fun u t => jm_Bc E w sz u.1 u.2 t) (jm_A w sz)) a mc ms) (kk : ∀ (w' : jm_W) (I' : jm_M), post w' I' → jm_J E G (q.1 + mc, q.2 + ms) w' I' (pc + 3) lv rest) : jm_J E G q w I pc lv st := by
  obtain ⟨l, D, ca⟩ := E
  obtain ⟨p, e, R, s, m, args, below, meth, c, Q, A⟩ := G
  intro H locs ls hI hP hD hS hl
  obtain ⟨hx, hb, hml, hown, hts, rfl, hK, hA, hlk, hN⟩ := C
  have hF := jm_callAux hD hA hS
  refine va_callv (hr H locs ls hI hP hD hS hl.1) hS (fun x _ h => hF x h) hF (fun u t H1 locs1 ht hvm hpost hB hz hkeep hS1 => ?_)
  obtain ⟨b1, b2, b3⟩ := hB
  rw [ht] at b2
  exact kk u.1 u.2 hpost H1 locs1 ls b1 b2 (b3.weaken (fun _ x _ h => hF x.1 h)) hS1 hl
end JCI
