/-! ONE CALL ON BOTH SIDES: what the law sees -/
def hk_wk0 (M M' : jm_M) : Prop := ∀ a b, 300 ≤ a → a ≠ 324 → a ≠ 325 → a ≠ 326 → a ≠ 327 → (a ≠ 300 ∨ b ≠ 0) → M' a b = M a b
theorem hk_re_x {C M C' M' : jm_M} {n : Nat} {T : Int} (h : hk_re C M n T) (hC : ∀ a b, 0 ≤ a → a < 299 → a ≠ 4 → a ≠ 104 → a ≠ 204 → C' a b = C a b) (hM : hk_wk0 M M') : hk_re C' M' n T := by
  obtain ⟨⟨a1, a2, a3⟩, ⟨b1, b2, b3⟩, ⟨c1, c2, c3⟩, ⟨d1, d2, d3, d4, d5⟩, f1, f2, f3, t1, t2, g1, g2⟩ := h
  have o : ∀ a, 0 ≤ a → a < 299 → a ≠ 4 → a ≠ 104 → a ≠ 204 → C' a = C a := fun a z1 z2 z3 z4 z5 => funext fun b => hC a b z1 z2 z3 z4 z5
  have p : ∀ a, 300 < a → a ≠ 324 → a ≠ 325 → a ≠ 326 → a ≠ 327 → M' a = M a := fun a z1 z2 z3 z4 z5 => funext fun b => hM a b (by omega) z2 z3 z4 z5 (Or.inl (by omega))
  have p0 : ∀ b, b ≠ 0 → M' 300 b = M 300 b := fun b z => hM 300 b (by decide) (by decide) (by decide) (by decide) (by decide) (Or.inr z)
  have o0 : C' 0 = C 0 := o 0 (by decide) (by decide) (by decide) (by decide) (by decide)
  refine ⟨by rw [o0, p0 8 (by decide)]; exact ⟨a1, a2, a3⟩, by rw [o0, p0 1 (by decide)]; exact ⟨b1, b2, b3⟩, by rw [o0, p0 2 (by decide)]; exact ⟨c1, c2, c3⟩, by rw [o0, p0 3 (by decide), p0 4 (by decide)]; exact ⟨d1, d2, d3, d4, d5⟩, fun s z1 z2 => ?_, fun s z1 z2 => ?_, by rw [p 305 (by decide) (by decide) (by decide) (by decide) (by decide)]; exact f3, fun t z1 z2 => ?_, by rw [p 321 (by decide) (by decide) (by decide) (by decide) (by decide), p 322 (by decide) (by decide) (by decide) (by decide) (by decide), p 323 (by decide) (by decide) (by decide) (by decide) (by decide)]; exact t2, fun g z1 z2 => ?_, by rw [p 309 (by decide) (by decide) (by decide) (by decide) (by decide), p 315 (by decide) (by decide) (by decide) (by decide) (by decide), p 316 (by decide) (by decide) (by decide) (by decide) (by decide), p 317 (by decide) (by decide) (by decide) (by decide) (by decide)]; exact g2⟩
  · have := f1 s z1 z2
    unfold hk_rs1 at this ⊢
    rw [o (10 + s) (by omega) (by omega) (by omega) (by omega) (by omega), p 306 (by decide) (by decide) (by decide) (by decide) (by decide), p 307 (by decide) (by decide) (by decide) (by decide) (by decide)]; exact this
  · have := f2 s z1 z2
    unfold hk_rs2 at this ⊢
    rw [o (10 + s + 100) (by omega) (by omega) (by omega) (by omega) (by omega), p 305 (by decide) (by decide) (by decide) (by decide) (by decide)]; exact this
  · have := t1 t z1 z2
    unfold hk_rt at this ⊢
    rw [o (20 + t) (by omega) (by omega) (by omega) (by omega) (by omega), p 321 (by decide) (by decide) (by decide) (by decide) (by decide), p 322 (by decide) (by decide) (by decide) (by decide) (by decide), p 323 (by decide) (by decide) (by decide) (by decide) (by decide)]; exact this
  · refine hk_rg_c (g1 g z1 z2) (o _ (by omega) (by omega) (by omega) (by omega) (by omega)) (o _ (by omega) (by omega) (by omega) (by omega) (by omega)) (fun a y1 y2 y3 => by rw [p a (by omega) (by omega) (by omega) (by omega) (by omega)]) (by rw [p 315 (by decide) (by decide) (by decide) (by decide) (by decide)]; exact ⟨rfl, rfl⟩) (fun k _ _ => by rw [p 320 (by decide) (by decide) (by decide) (by decide) (by decide)])
theorem hk_inv_x {C M C' M' : jm_M} {n : Nat} {T : Int} (h : hk_inv C M n T) (hC : ∀ a b, 0 ≤ a → a < 299 → a ≠ 4 → a ≠ 104 → a ≠ 204 → C' a b = C a b) (hM : hk_wk0 M M') : hk_inv C' M' n T := by
  refine ⟨hk_re_x h.1 hC hM, fun g => ?_, fun g h0 h1 h2 => ?_⟩
  · rw [hM 312 g (by decide) (by decide) (by decide) (by decide) (by decide) (Or.inl (by decide))]; exact h.2.1 g
  · rw [hM 312 g (by decide) (by decide) (by decide) (by decide) (by decide) (Or.inl (by decide)), hM 300 1 (by decide) (by decide) (by decide) (by decide) (by decide) (Or.inr (by decide))]
    rw [hM 309 g (by decide) (by decide) (by decide) (by decide) (by decide) (Or.inl (by decide))] at h2
    exact h.2.2 g h0 h1 h2
def hk_sem (I2 : jm_M) (kz zb : Int) (n : Nat) (T : Int) : Prop := I2 300 0 = kz ∧ (0 ≤ kz ∧ kz ≤ 3) ∧ (kz = 0 → jm_R (I2 299 0) ∧ jm_i (I2 299 0) = jm_i zb) ∧ hk_inv I2 I2 n (T + 1)
theorem hk_cd_0 {I : jm_M} {A B D : Prop} (h : hk_cd I A B D) (a : A) (b : B) (d : D) : I 300 0 = 0 := by
  rcases h with ⟨-, -, -, q⟩ | ⟨q, -⟩ | ⟨-, q, -⟩ | ⟨-, -, q, -⟩
  · exact q
  · exact absurd a q
  · exact absurd b q
  · exact absurd d q
theorem hk_cd_1 {I : jm_M} {A B D : Prop} (h : hk_cd I A B D) (a : ¬ A) : I 300 0 = 1 := by
  rcases h with ⟨q, -⟩ | ⟨-, q⟩ | ⟨q, -⟩ | ⟨q, -⟩
  · exact absurd q a
  · exact q
  · exact absurd q a
  · exact absurd q a
theorem hk_cd_2 {I : jm_M} {A B D : Prop} (h : hk_cd I A B D) (a : A) (b : ¬ B) : I 300 0 = 2 := by
  rcases h with ⟨-, q, -⟩ | ⟨q, -⟩ | ⟨-, -, q⟩ | ⟨-, q, -⟩
  · exact absurd q b
  · exact absurd a q
  · exact q
  · exact absurd q b
theorem hk_cd_3 {I : jm_M} {A B D : Prop} (h : hk_cd I A B D) (a : A) (b : B) (d : ¬ D) : I 300 0 = 3 := by
  rcases h with ⟨-, -, q, -⟩ | ⟨q, -⟩ | ⟨-, q, -⟩ | ⟨-, -, -, q⟩
  · exact absurd q d
  · exact absurd a q
  · exact absurd b q
  · exact q
/-- the maps are the same but for the slide, its stones and the law's row -/
def hk_of (I I1 : jm_M) : Prop := ∀ a b, a ≠ 4 → a ≠ 4 + 100 + 100 → a ≠ 299 → I1 a b = I a b
theorem hk_of_rf (I : jm_M) : hk_of I I := fun _ _ _ _ _ => rfl
theorem hk_of_off {I I1 : jm_M} (h : hk_off I I1) : hk_of I I1 := fun a b h1 h2 _ => congrFun (h a h1 h2) b
theorem hk_query {I I1 I2 : jm_M} {n : Nat} {T : Int} (h : hk_inv I I n T) (h1 : hk_of I I1) (h2 : hk_wk I1 I2) : hk_inv I2 I2 n T :=
  hk_inv_x h (fun a b q1 q2 q3 _ q5 => (h2 a b (by omega) (by omega) (by omega) (by omega) (Or.inl (by omega))).trans (h1 a b q3 q5 (by omega))) (fun a b q1 q2 q3 q4 q5 q6 => (h2 a b q2 q3 q4 q5 q6).trans (h1 a b (by omega) (by omega) (by omega)))
/-- a call that changes nothing, with its code and its answer -/
theorem hk_semq {I I1 I2 : jm_M} {n : Nat} {T kz zb : Int} {post : jm_M → Int → Prop} {px : String → jm_M → Prop} {cs : List (String × Int)} (h : hk_inv I I n T) (hh : hk_wp post px cs I1 kz) (off : ∀ I' z, post I' z → hk_of I I') (offx : ∀ c I', px c I' → I' = I) (h2 : hk_wk I1 I2)
    (val : (∀ a, 300 ≤ a → I1 a = I a) → ∀ I' v, post I' v → I2 300 0 = 0 ∧ v = zb) (cod : (∀ a, 300 ≤ a → I1 a = I a) → ∀ c, c ∈ cs → px c.1 I → I2 300 0 = c.2 ∧ (0 < c.2 ∧ c.2 ≤ 3)) : hk_sem I2 kz zb n T := by
  have e299 : I2 299 0 = I1 299 0 := h2 299 0 (by decide) (by decide) (by decide) (by decide) (Or.inl (by decide))
  rcases hh with ⟨rfl, Ia, v, v', hp, hv, ev, e1⟩ | ⟨c, hc, hx, rfl⟩
  · have o1 : hk_of I I1 := fun a b q1 q2 q3 => by rw [e1, jm_up_n (Or.inl q3)]; exact off Ia v hp a b q1 q2 q3
    have vv := val (fun a q => funext fun b => o1 a b (by omega) (by omega) (by omega)) Ia v hp
    refine ⟨vv.1, by decide, fun _ => ?_, hk_inv_T (hk_query h o1 h2) (by omega)⟩
    rw [e299, e1, jm_up_s]
    exact ⟨hv, by rw [ev, vv.2]⟩
  · have o1 : hk_of I I1 := by rw [offx _ _ hx]; exact hk_of_rf I
    have hx' := hx
    rw [offx _ _ hx] at hx'
    have cc := cod (fun a q => funext fun b => o1 a b (by omega) (by omega) (by omega)) c hc hx'
    exact ⟨cc.1, by omega, fun z => by omega, hk_inv_T (hk_query h o1 h2) (by omega)⟩
theorem hk_cod1 {I I2 : jm_M} {A A' : Prop} {S1 : String} (cd : hk_cd I2 A' True True) (hA : A' → A) : ∀ c, c ∈ [(S1, (1 : Int))] → (I = I ∧ c.1 = S1 ∧ ¬ A) → I2 300 0 = c.2 ∧ (0 < c.2 ∧ c.2 ≤ 3) := by
  intro c hc hx
  rw [List.mem_singleton.mp hc] at hx ⊢
  exact ⟨hk_cd_1 cd (fun z => hx.2.2 (hA z)), show (0 : Int) < 1 by decide, show (1 : Int) ≤ 3 by decide⟩
theorem hk_cod2 {I I2 : jm_M} {A A' B B' : Prop} {S1 S2 : String} (hne : S1 ≠ S2) (cd : hk_cd I2 A' B' True) (hA : A ↔ A') (hB : A → B' → B) : ∀ c, c ∈ [(S1, (1 : Int)), (S2, 2)] → (I = I ∧ ((¬ A ∧ c.1 = S1) ∨ (A ∧ ¬ B ∧ c.1 = S2))) → I2 300 0 = c.2 ∧ (0 < c.2 ∧ c.2 ≤ 3) := by
  intro c hc hx
  rcases List.mem_cons.mp hc with e | hc
  · rw [e] at hx ⊢
    rcases hx.2 with q | q
    · exact ⟨hk_cd_1 cd (fun z => q.1 (hA.mpr z)), show (0 : Int) < 1 by decide, show (1 : Int) ≤ 3 by decide⟩
    · exact absurd q.2.2 hne
  · rw [List.mem_singleton.mp hc] at hx ⊢
    rcases hx.2 with q | q
    · exact absurd q.2.symm hne
    · exact ⟨hk_cd_2 cd (hA.mp q.1) (fun z => q.2.1 (hB q.1 z)), show (0 : Int) < 2 by decide, show (2 : Int) ≤ 3 by decide⟩
theorem hk_cod3 {I I2 : jm_M} {A A' B B' D D' : Prop} {S1 S2 S3 : String} (h12 : S1 ≠ S2) (h13 : S1 ≠ S3) (h23 : S2 ≠ S3) (cd : hk_cd I2 A' B' D') (hA : A ↔ A') (hB : A → (B ↔ B')) (hD : A → B → D' → D) : ∀ c, c ∈ [(S1, (1 : Int)), (S2, 2), (S3, 3)] → (I = I ∧ ((¬ A ∧ c.1 = S1) ∨ (A ∧ ¬ B ∧ c.1 = S2) ∨ (A ∧ B ∧ ¬ D ∧ c.1 = S3))) → I2 300 0 = c.2 ∧ (0 < c.2 ∧ c.2 ≤ 3) := by
  intro c hc hx
  rcases List.mem_cons.mp hc with e | hc
  · rw [e] at hx ⊢
    rcases hx.2 with q | q | q
    · exact ⟨hk_cd_1 cd (fun z => q.1 (hA.mpr z)), show (0 : Int) < 1 by decide, show (1 : Int) ≤ 3 by decide⟩
    · exact absurd q.2.2 h12
    · exact absurd q.2.2.2 h13
  · rcases List.mem_cons.mp hc with e | hc
    · rw [e] at hx ⊢
      rcases hx.2 with q | q | q
      · exact absurd q.2.symm h12
      · exact ⟨hk_cd_2 cd (hA.mp q.1) (fun z => q.2.1 ((hB q.1).mpr z)), show (0 : Int) < 2 by decide, show (2 : Int) ≤ 3 by decide⟩
      · exact absurd q.2.2.2 h23
    · rw [List.mem_singleton.mp hc] at hx ⊢
      rcases hx.2 with q | q | q
      · exact absurd q.2.symm h13
      · exact absurd q.2.2.symm h23
      · exact ⟨hk_cd_3 cd (hA.mp q.1) ((hB q.1).mp q.2.1) (fun z => q.2.2.1 (hD q.1 q.2.1 z)), show (0 : Int) < 3 by decide, show (3 : Int) ≤ 3 by decide⟩
theorem hk_e_of {I I1 : jm_M} {kz : Int} {post : jm_M → Int → Prop} {px : String → jm_M → Prop} {cs : List (String × Int)} (hh : hk_wp post px cs I1 kz) (off : ∀ I' z, post I' z → ∀ a, 299 < a → I' a = I a) (offx : ∀ c I', px c I' → I' = I) : ∀ a, 300 ≤ a → I1 a = I a := by
  intro a ha
  rcases hh with ⟨-, Ia, v, v', hp, hv, ev, e1⟩ | ⟨c, hc, hx, -⟩
  · funext b
    rw [e1, jm_up_n (Or.inl (by omega)), off Ia v hp a (by omega)]
  · rw [offx _ _ hx]
theorem hk_inv_M {I J : jm_M} {n : Nat} {T : Int} (H : hk_inv I I n T) (e : ∀ a, 300 ≤ a → J a = I a) : hk_inv I J n T := hk_inv_x H (fun a b _ _ _ _ _ => rfl) (fun a b q1 _ _ _ _ _ => congrFun (e a q1) b)
theorem hk_nm_M {I J : jm_M} (N : hk_nm I) (e : ∀ a, 300 ≤ a → J a = I a) : hk_nm J := ⟨fun c h => by rw [e 324 (by decide)]; exact N.1 c h, fun c h => by rw [e 325 (by decide)]; exact N.2 c h⟩
-- what the model's calls ask for
theorem hk_m8 {C M : jm_M} {n : Nat} {T : Int} (H : hk_inv C M n T) : 0 ≤ M 300 8 ∧ M 300 8 ≤ 12 := by have := H.1.1; omega
theorem hk_mrow {C M : jm_M} {n : Nat} {T : Int} (H : hk_inv C M n T) (N : hk_nm M) : ∀ i, 0 ≤ i → i < M 300 8 → M 309 i = 1 ∨ M 309 i = 2 → (0 ≤ M 314 i ∧ M 314 i < 3) ∧ (0 ≤ hk_mslot M i ∧ hk_mslot M i < 6) ∧ hk_w9 (hk_tku M i 324) ∧ hk_good (hk_tku M i 325) ∧ (0 ≤ M 317 i ∧ M 317 i ≤ 5) ∧ (0 ≤ M 310 i ∧ M 310 i < 6) ∧ (0 ≤ M 311 i ∧ M 311 i < 6) ∧ M 310 i ≠ M 311 i ∧ (-1000 ≤ M 315 (2 * i) ∧ M 315 (2 * i) ≤ 1000) ∧ (-1000 ≤ M 315 (2 * i + 1) ∧ M 315 (2 * i + 1) ≤ 1000) ∧ (0 ≤ M 316 i ∧ M 316 i ≤ 1000) := by
  intro i h1 h2 st
  have e8 := H.1.1
  have hi : 0 ≤ i ∧ i < n := by omega
  obtain ⟨x1, x2, x3, x4, x5, x6, x7, x8, x9, x10, x11, x12⟩ := hk_row H.1 N hi st
  obtain ⟨-, -, -, -, ⟨e1, e2, e3, e4, e5, e6, e7, e8, e9, e10⟩, -⟩ := H.1.2.2.2.2.2.2.2.2.2.1 i hi.1 hi.2
  exact ⟨x1.2, x6, by rw [x2]; exact x8, by rw [x3]; exact x9, x12, e1, e2, e3, by omega, by omega, by omega⟩
theorem hk_mpl {C M : jm_M} {n : Nat} {T : Int} (H : hk_inv C M n T) (N : hk_nm M) : ∀ i, 0 ≤ i → i < M 300 8 → M 309 i = 2 → (0 ≤ M 314 i ∧ M 314 i < 3) ∧ (0 ≤ hk_mslot M i ∧ hk_mslot M i < 6) ∧ hk_w9 (hk_tku M i 324) ∧ hk_good (hk_tku M i 325) ∧ (0 ≤ M 317 i ∧ M 317 i ≤ 6) := fun i h1 h2 st => by
  have q := hk_mrow H N i h1 h2 (Or.inr st)
  exact ⟨q.1, q.2.1, q.2.2.1, q.2.2.2.1, by omega⟩
theorem hk_mb {C M : jm_M} {n : Nat} {T : Int} (H : hk_inv C M n T) (hT : T ≤ 1000) : (∀ t, 0 ≤ M 321 t ∧ M 321 t ≤ 1000000) ∧ (∀ t, 0 ≤ M 322 t ∧ M 322 t ≤ 1000000) ∧ (∀ t, 0 ≤ M 323 t ∧ M 323 t ≤ 1000000) := by
  have q := H.1.2.2.2.2.2.2.2.2.1
  exact ⟨fun t => by have := q t; omega, fun t => by have := q t; omega, fun t => by have := q t; omega⟩
theorem hk_cpre {I : jm_M} {n : Nat} {T : Int} (H : hk_inv I I n T) (N : hk_nm I) : ∀ i : Int, 0 ≤ i → i < n → I (30 + i) 5 = 1 ∨ I (30 + i) 5 = 2 → hk_wpre I (30 + i) := fun i h1 h2 st => hk_row_wpre H.1 N ⟨h1, h2⟩ st
theorem hk_cex {I : jm_M} {n : Nat} {T : Int} (H : hk_inv I I n T) : ∀ i : Int, 0 ≤ i → i < n → I (30 + i) 5 = 1 ∨ I (30 + i) 5 = 2 → (0 ≤ I (30 + i) 0 ∧ I (30 + i) 0 < 6) ∧ (0 ≤ I (30 + i) 1 ∧ I (30 + i) 1 < 6) ∧ (0 ≤ I (30 + i) 11 ∧ I (30 + i) 11 ≤ 100000) ∧ (0 ≤ I (30 + i) 8 ∧ I (30 + i) 8 ≤ 100000) ∧ (0 ≤ I (30 + i) 9 ∧ I (30 + i) 9 ≤ 100000) ∧ (0 ≤ I (30 + i) 10 ∧ I (30 + i) 10 ≤ 100000) := fun i h1 h2 st => by
  obtain ⟨⟨r0, r1, r2, r4, r5, r6, r8, r9, r10, r11⟩, hf, h12, h7, ⟨e1, e2, e3, e4, e5, e6, e7, e8, e9, e10⟩, s0, s1, s2, -⟩ := H.1.2.2.2.2.2.2.2.2.2.1 i h1 h2
  rw [r5] at st
  rw [r0, r1, r8, r9, r10, r11]
  refine ⟨e1, e2, ?_, by omega, by omega, by omega⟩
  rcases st with q | q
  · have := s1 q; omega
  · have := s2 q; omega
theorem hk_ctm {I : jm_M} {n : Nat} {T : Int} (H : hk_inv I I n T) (hT : T ≤ 1000) : (∀ t, 0 ≤ t → t < 6 → 0 ≤ I (20 + t) 0 ∧ I (20 + t) 0 ≤ 1000000) ∧ (∀ t, 0 ≤ t → t < 6 → (0 ≤ I (20 + t) 1 ∧ I (20 + t) 1 ≤ 1000000) ∧ (0 ≤ I (20 + t) 2 ∧ I (20 + t) 2 ≤ 1000000)) := by
  have b := hk_mb H hT
  have q := H.1.2.2.2.2.2.2.2.1
  refine ⟨fun t h1 h2 => ?_, fun t h1 h2 => ?_⟩
  · rw [(q t h1 h2).1]; exact b.1 t
  · rw [(q t h1 h2).2.1, (q t h1 h2).2.2]; exact ⟨b.2.1 t, b.2.2 t⟩
-- what the class's changes leave alone
theorem hk_cp1_o {I : jm_M} {ng : Int} (hng : 0 ≤ ng ∧ ng ≤ 12) (hc : hk_ck I ng) {a b : Int} (ha : 299 ≤ a) : hk_cp1 I ng a b = I a b := by
  obtain ⟨h7, h8, h6, hw, h4⟩ := hc
  have e : ∀ a b, (a ≠ 0 ∨ b ≠ 5) → jm_up I 0 5 (I 0 5 + 1) a b = I a b := fun a b h => jm_up_n h
  have g7 : -1 ≤ jm_up I 0 5 (I 0 5 + 1) 0 7 ∧ jm_up I 0 5 (I 0 5 + 1) 0 7 < 3 := by rw [e 0 7 (Or.inr (by decide))]; exact h7
  unfold hk_cp1
  rw [(hk_bg_o (a := a) (b := b) (by omega) hk_stp_x (fun i h0 h1 => by rw [hk_work_o g7 (by omega) (Or.inl (by omega)), e _ _ (Or.inl (by omega))]; exact hw i h0 h1) 12).1, hk_work_o g7 (by omega) (Or.inl (by omega)), e _ _ (Or.inl (by omega))]
theorem hk_cpn_o {C M : jm_M} {n : Nat} {T : Int} (H : hk_inv C M n T) {a b : Int} (ha : 299 ≤ a) : ∀ k : Nat, M 300 1 + k ≤ 9999 → hk_cpn C n k a b = C a b
  | 0, _ => rfl
  | k + 1, hk => by
    have h := (hk_hours H k (by omega)).1
    show hk_cp1 (hk_cpn C n k) n a b = _
    rw [hk_cp1_o (by have := H.1.1.2.2; omega) (hk_inv_ck h) ha]
    exact hk_cpn_o H ha k (by omega)
theorem hk_mpn_o {J : jm_M} {n : Nat} {a b : Int} (ha : a < 300) : ∀ k : Nat, hk_mpn J n k a b = J a b
  | 0 => rfl
  | k + 1 => by
    show hk_mps (hk_mpn J n k) n a b = _
    unfold hk_mps
    rw [hk_mbe_o (by omega), hk_mp3_o (by omega), hk_mp2_o (by omega), hk_mp1_o (by omega)]
    exact hk_mpn_o ha k
theorem hk_sdr_o {I : jm_M} {k d a b : Int} (hk : 30 ≤ k ∧ k < 42) (h0 : 0 ≤ I k 0 ∧ I k 0 < 6) (h1 : 0 ≤ I k 1 ∧ I k 1 < 6) (ha : 299 ≤ a) : hk_sdr I k d a b = I a b := by
  have t : 0 ≤ hk_dteam I k ∧ hk_dteam I k < 6 := by unfold hk_dteam; split <;> omega
  have e : hk_sdr1 I k d a b = I a b := by
    unfold hk_sdr1
    rw [jm_up_n (Or.inl (by omega)), jm_up_n (Or.inl (by omega))]
  unfold hk_sdr hk_draw
  split
  · rw [jm_up_n (Or.inl (by omega)), jm_up_n (Or.inl (by omega)), e]
  · rw [jm_up_n (Or.inl (by omega)), jm_up_n (Or.inl (by omega)), jm_up_n (Or.inl (by omega)), e]
theorem hk_sst_o {I : jm_M} {k a b : Int} (hk : 30 ≤ k ∧ k < 42) (h0 : 0 ≤ I k 0 ∧ I k 0 < 6) (h1 : 0 ≤ I k 1 ∧ I k 1 < 6) (h6 : 0 ≤ I k 6 ∧ I k 6 < 3) (ha : 299 ≤ a) : hk_sst I k a b = I a b := by
  have c : hk_close (jm_up I k 11 (I k 11 + 1)) k a b = I a b := by rw [hk_close_o ⟨by omega, by omega⟩, jm_up_n (Or.inl (by omega))]
  unfold hk_sst
  split
  · rw [jm_up_n (Or.inl (by omega))]
  · split
    · obtain ⟨K, hK⟩ : ∃ K, K = hk_close (jm_up I k 11 (I k 11 + 1)) k := ⟨_, rfl⟩
      rw [← hK] at c ⊢
      have k0 : K k 0 = I k 0 := by rw [hK, hk_close_k (by decide), jm_up_n (Or.inr (by decide))]
      have k1 : K k 1 = I k 1 := by rw [hK, hk_close_k (by decide), jm_up_n (Or.inr (by decide))]
      have k6 : K k 6 = I k 6 := by rw [hK, hk_close_k (by decide), jm_up_n (Or.inr (by decide))]
      have c1 : hk_cg1 K k a b = I a b := by
        unfold hk_cg1
        rw [jm_up_n (Or.inl (by omega)), jm_up_n (Or.inl (by omega)), jm_up_n (Or.inl (by omega)), c]
      unfold hk_cg
      split
      · rw [jm_up_n (Or.inl (by omega)), c1]
      · split
        · rw [jm_up_n (Or.inl (by omega)), c1]
        · exact c1
    · exact c
