/-! THE LAW'S ENTRY: what the tables say -/
def jm_hw (a : Array Value) (s : State) (z : Cond) : Prop := z.before a s = true
theorem jw_Kc {a : Array Value} {s : State} (hW : ∀ z ∈ jm_W0, z.before a s = true) : ∃ (dC : Nat → ClassId) (dI : Nat → Nat → Nat), ∀ (c : Nat) (q : vw_C), vwCl[c]? = some q → u_Kn s q.1 q.2.1 q.2.2 (dC c) (dI c) := by
  have h : ∀ c : Nat, ∃ (x : ClassId) (y : Nat → Nat), ∀ q : vw_C, vwCl[c]? = some q → u_Kn s q.1 q.2.1 q.2.2 x y := by
    intro c
    match c with
    | 0 =>
      obtain ⟨x, y, k⟩ := u_known hW jw_u_0 (hW _ jw_I_RX0)
      exact ⟨x, y, fun q hq => by obtain rfl := Option.some.inj (show some (RX0, TX0, 13) = some q from hq); exact k⟩
    | 1 =>
      obtain ⟨x, y, k⟩ := u_known hW jw_u_1 (hW _ jw_I_RX1)
      exact ⟨x, y, fun q hq => by obtain rfl := Option.some.inj (show some (RX1, TX1, 3) = some q from hq); exact k⟩
    | 2 =>
      obtain ⟨x, y, k⟩ := u_known hW jw_u_2 (hW _ jw_I_RX2)
      exact ⟨x, y, fun q hq => by obtain rfl := Option.some.inj (show some (RX2, TX2, 10) = some q from hq); exact k⟩
    | 3 =>
      obtain ⟨x, y, k⟩ := u_known hW jw_u_3 (hW _ jw_I_RX3)
      exact ⟨x, y, fun q hq => by obtain rfl := Option.some.inj (show some (RX3, TX3, 1) = some q from hq); exact k⟩
    | 4 =>
      obtain ⟨x, y, k⟩ := u_known hW jw_u_4 (hW _ jw_I_RX4)
      exact ⟨x, y, fun q hq => by obtain rfl := Option.some.inj (show some (RX4, TX4, 3) = some q from hq); exact k⟩
    | 5 =>
      obtain ⟨x, y, k⟩ := u_known hW jw_u_5 (hW _ jw_I_RX5)
      exact ⟨x, y, fun q hq => by obtain rfl := Option.some.inj (show some (RX5, TX5, 9) = some q from hq); exact k⟩
    | k + 6 => exact ⟨0, fun _ => 0, fun q hq => nomatch (show none = some q from hq)⟩
  exact ⟨fun c => Classical.choose (h c), fun c => Classical.choose (Classical.choose_spec (h c)), fun c q hq => Classical.choose_spec (Classical.choose_spec (h c)) q hq⟩
theorem jw_Kp {a : Array Value} {s : State} {ty : FieldType} (h : (Cond.arrayClass ty).before a s = true) : ∃ c : ClassId, ArrOfT s c ty ∧ s.vm.findClass ("[" ++ ty.toString) = some c := by
  obtain ⟨c, k, comp, h1, h2, h3⟩ := Cond.arrayClass_spec h
  exact ⟨c, fun n z => ⟨fun k h => (by cases h), k, h2, comp, h3⟩, h1⟩
theorem jw_Ko {s : State} {C0 : String} (h : va_AO C0 s) : ∃ c : ClassId, ArrOfT s c (.object C0) ∧ va_RA s c (.object C0) := by
  obtain ⟨comp, c, k, h1, h2, h3, h4, h5⟩ := Cond.arrayOver_spec h
  exact ⟨c, fun n z => ⟨fun k h => (by cases h), k, h3, comp, h4⟩, k, comp, h3, h4, h1, h5⟩
theorem jw_Ka {a : Array Value} {s : State} (hW : ∀ z ∈ jm_W0, z.before a s = true) (hX : jm_XA s) : ∃ ca : Nat → ClassId, ∀ (k : Nat) (q : ClassId × FieldType), (jm_t ca)[k]? = some q → ArrOfT s q.1 q.2 ∧ va_RA s q.1 q.2 := by
  obtain ⟨c0, a0, f0⟩ := jw_Kp (hW _ jw_A_int)
  obtain ⟨c3, a3, f3⟩ := jw_Ko hX.1
  obtain ⟨c4, a4, f4⟩ := jw_Ko hX.2.1
  obtain ⟨c5, a5, f5⟩ := jw_Ko hX.2.2
  refine ⟨fun k => if k = 0 then c0 else if k = 1 then c0 else if k = 2 then c0 else if k = 3 then c3 else if k = 4 then c4 else c5, fun k q hq => ?_⟩
  match k with
  | 0 => obtain rfl := Option.some.inj (show some (c0, FieldType.int) = some q from hq); exact ⟨a0, f0⟩
  | 1 => obtain rfl := Option.some.inj (show some (c0, FieldType.int) = some q from hq); exact ⟨a0, f0⟩
  | 2 => obtain rfl := Option.some.inj (show some (c0, FieldType.int) = some q from hq); exact ⟨a0, f0⟩
  | 3 => obtain rfl := Option.some.inj (show some (c3, FieldType.object RX1) = some q from hq); exact ⟨a3, f3⟩
  | 4 => obtain rfl := Option.some.inj (show some (c4, FieldType.object RX4) = some q from hq); exact ⟨a4, f4⟩
  | 5 => obtain rfl := Option.some.inj (show some (c5, FieldType.object RX0) = some q from hq); exact ⟨a5, f5⟩
  | k + 6 => exact nomatch (show none = some q from hq)
set_option maxRecDepth 100000 in
theorem jw_XA {a : Array Value} {s : State} (hts : ∀ w ∈ lw_tbl, w.before a s = true) : jm_XA s := ⟨va_AO.of (hts _ (List.mem_of_getElem? (i := 39) rfl)), va_AO.of (hts _ (List.mem_of_getElem? (i := 59) rfl)), va_AO.of (hts _ (List.mem_of_getElem? (i := 78) rfl))⟩
set_option maxRecDepth 100000 in
theorem jw_N1 {a : Array Value} {s : State} (hts : ∀ w ∈ lw_tbl, w.before a s = true) : ∀ w ∈ jm_bad, va_Nw w s := List.forall_mem_cons.mpr ⟨va_Nw.of rfl (hts _ (List.mem_of_getElem? (i := 278) rfl)), List.forall_mem_cons.mpr ⟨va_Nw.of rfl (hts _ (List.mem_of_getElem? (i := 182) rfl)), List.forall_mem_cons.mpr ⟨va_Nw.of rfl (hts _ (List.mem_of_getElem? (i := 254) rfl)), List.forall_mem_cons.mpr ⟨va_Nw.of rfl (hts _ (List.mem_of_getElem? (i := 184) rfl)), List.forall_mem_cons.mpr ⟨va_Nw.of rfl (hts _ (List.mem_of_getElem? (i := 186) rfl)), List.forall_mem_cons.mpr ⟨va_Nw.of rfl (hts _ (List.mem_of_getElem? (i := 188) rfl)), fun _ h => absurd h List.not_mem_nil⟩⟩⟩⟩⟩⟩
set_option maxRecDepth 100000 in
theorem jw_N2 {a : Array Value} {s : State} (hts : ∀ w ∈ lw_tbl, w.before a s = true) : ∀ t ∈ jm_nest, va_Nw (.methodLinkNest t.1 t.2.1 t.2.2.1 t.2.2.2) s := List.forall_mem_cons.mpr ⟨va_Nw.of rfl (hts _ (List.mem_of_getElem? (i := 41) rfl)), List.forall_mem_cons.mpr ⟨va_Nw.of rfl (hts _ (List.mem_of_getElem? (i := 61) rfl)), List.forall_mem_cons.mpr ⟨va_Nw.of rfl (hts _ (List.mem_of_getElem? (i := 81) rfl)), List.forall_mem_cons.mpr ⟨va_Nw.of rfl (hts _ (List.mem_of_getElem? (i := 438) rfl)), List.forall_mem_cons.mpr ⟨va_Nw.of rfl (hts _ (List.mem_of_getElem? (i := 357) rfl)), fun _ h => absurd h List.not_mem_nil⟩⟩⟩⟩⟩
theorem jw_St {a : Array Value} {s : State} {cur : ClassId} {own tx : String} {k : Nat} (hcur : s.vm.findClass own = some cur) (h : (Cond.stringRef own k tx).before a s = true) : ∃ sa, vk_R own k tx sa s := by
  obtain ⟨_, _, _, sa, _, _, _, _, _, h6⟩ := Cond.stringRef_spec hcur h
  exact ⟨sa, vk_R.of h h6⟩
set_option maxRecDepth 100000 in
theorem jw_N4 {a : Array Value} {s : State} {cur : ClassId} (hcur : s.vm.findClass RX5 = some cur) (hts : ∀ w ∈ lw_tbl, w.before a s = true) : ∀ t ∈ jm_str, ∃ sa, vk_R RX5 t.1 t.2 sa s := List.forall_mem_cons.mpr ⟨jw_St hcur (hts _ (List.mem_of_getElem? (i := 261) rfl)), List.forall_mem_cons.mpr ⟨jw_St hcur (hts _ (List.mem_of_getElem? (i := 327) rfl)), List.forall_mem_cons.mpr ⟨jw_St hcur (hts _ (List.mem_of_getElem? (i := 619) rfl)), List.forall_mem_cons.mpr ⟨jw_St hcur (hts _ (List.mem_of_getElem? (i := 607) rfl)), List.forall_mem_cons.mpr ⟨jw_St hcur (hts _ (List.mem_of_getElem? (i := 380) rfl)), List.forall_mem_cons.mpr ⟨jw_St hcur (hts _ (List.mem_of_getElem? (i := 456) rfl)), List.forall_mem_cons.mpr ⟨jw_St hcur (hts _ (List.mem_of_getElem? (i := 336) rfl)), List.forall_mem_cons.mpr ⟨jw_St hcur (hts _ (List.mem_of_getElem? (i := 285) rfl)), List.forall_mem_cons.mpr ⟨jw_St hcur (hts _ (List.mem_of_getElem? (i := 469) rfl)), List.forall_mem_cons.mpr ⟨jw_St hcur (hts _ (List.mem_of_getElem? (i := 485) rfl)), List.forall_mem_cons.mpr ⟨jw_St hcur (hts _ (List.mem_of_getElem? (i := 486) rfl)), List.forall_mem_cons.mpr ⟨jw_St hcur (hts _ (List.mem_of_getElem? (i := 487) rfl)), List.forall_mem_cons.mpr ⟨jw_St hcur (hts _ (List.mem_of_getElem? (i := 221) rfl)), List.forall_mem_cons.mpr ⟨jw_St hcur (hts _ (List.mem_of_getElem? (i := 557) rfl)), List.forall_mem_cons.mpr ⟨jw_St hcur (hts _ (List.mem_of_getElem? (i := 562) rfl)), fun _ h => absurd h List.not_mem_nil⟩⟩⟩⟩⟩⟩⟩⟩⟩⟩⟩⟩⟩⟩⟩
set_option maxRecDepth 100000 in
theorem jw_N5 {a : Array Value} {s : State} {A : Nat → Prop} (hA : ∀ q : Nat, q < s.heap.size → ¬ A q) (hts : ∀ w ∈ lw_tbl, w.before a s = true) (hU : (Cond.isRef (.static Bundle.tN "UNASSIGNED_STACK" Bundle.steD)).before a s = true) (hN : (Cond.isRef (.static Bundle.tN "SUPPRESSED_SENTINEL" Bundle.listD)).before a s = true) : vx_Zq Bundle.tN "UNASSIGNED_STACK" Bundle.steD A s s.heap ∧ vx_Zq Bundle.tN "SUPPRESSED_SENTINEL" Bundle.listD A s s.heap := ⟨vx_Zqof (hts _ (List.mem_of_getElem? (i := 207) rfl)) (hts _ (List.mem_of_getElem? (i := 22) rfl)) hU hA, vx_Zqof (hts _ (List.mem_of_getElem? (i := 209) rfl)) (hts _ (List.mem_of_getElem? (i := 22) rfl)) hN hA⟩
