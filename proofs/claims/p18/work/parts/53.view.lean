/-! rows with a value told, rows filled from a place on, what a query leaves -/
section JV
variable {E : jm_E} {G : jm_G} {q : Nat × Nat} {w : jm_W} {I : jm_M} {pc : Nat} {lv : List (Nat × Value)} {st : List Value} {cc : ByteArray} {nL : Nat} {own : String} {rm : Room}
theorem jm_ialdv {k j : Int} {n : Nat} {cA : ClassId} (v : Int) (hv : I k j = v) (C : jm_C E G cc nL own rm) (hk : k ∈ w.1) (hcA : cA = E.2.2 0) (hs : w.2.2 k = jm_Ia cA n) (h0 : 0 ≤ j) (h1 : j < n) (hj : jm_R j) (hd : decode cc pc = .ok (.iaload, 1)) (kk : jm_R v → jm_J E G q w I (pc + 1) lv (jm_v v :: st)) : jm_J E G q w I pc lv (jm_v j :: .ref (w.2.1 k) :: st) :=
  jm_iald C hk hcA hs h0 h1 hj hd (by rw [hv]; exact kk)
theorem jm_mq {I2 : jm_M} (h : I2 = I) (k : jm_J E G q w I2 pc lv st) : jm_J E G q w I pc lv st := h ▸ k
end JV
def hk_filo (I : jm_M) (k o n : Int) (f : Int → Int) : jm_M := fun a b => if a = k ∧ o ≤ b ∧ b < o + n then f (b - o) else I a b
theorem hk_filo_0 (I : jm_M) (k o : Int) (f : Int → Int) : hk_filo I k o 0 f = I := by
  funext a b
  unfold hk_filo
  rw [if_neg (by omega)]
theorem hk_filo_o {I : jm_M} {k o n a b : Int} {f : Int → Int} (h : a ≠ k ∨ ¬ (o ≤ b ∧ b < o + n)) : hk_filo I k o n f a b = I a b := by
  unfold hk_filo
  rw [if_neg]
  rintro ⟨h1, h2⟩
  rcases h with h | h
  · exact h h1
  · exact h h2
theorem hk_filo_i {I : jm_M} {k o n b : Int} {f : Int → Int} (h : o ≤ b ∧ b < o + n) : hk_filo I k o n f k b = f (b - o) := by unfold hk_filo; rw [if_pos ⟨rfl, h⟩]
theorem hk_filo_s (I : jm_M) (k o : Int) (n : Nat) (f : Int → Int) (v : Int) (hv : v = f n) : jm_up (hk_filo I k o n f) k (o + n) v = hk_filo I k o ((n + 1 : Nat) : Int) f := by
  subst hv
  funext a b
  by_cases h1 : a = k
  · subst h1
    by_cases h2 : b = o + n
    · subst h2
      rw [jm_up_s, hk_filo_i (by omega), show o + (n : Int) - o = n by omega]
    · rw [jm_up_n (Or.inr h2)]
      by_cases h3 : o ≤ b ∧ b < o + n
      · rw [hk_filo_i h3, hk_filo_i (by omega)]
      · rw [hk_filo_o (Or.inr h3), hk_filo_o (Or.inr (by omega))]
  · rw [jm_up_n (Or.inl h1), hk_filo_o (Or.inl h1), hk_filo_o (Or.inl h1)]
/-- what a question leaves of the model: all but its rows of work and the code -/
def hk_wk (I I' : jm_M) : Prop := ∀ a b, a ≠ 324 → a ≠ 325 → a ≠ 326 → a ≠ 327 → (a ≠ 300 ∨ b ≠ 0) → I' a b = I a b
theorem hk_wk_0 (I : jm_M) (v : Int) : hk_wk I (jm_up I 300 0 v) := fun a b _ _ _ _ h => jm_up_n h
theorem hk_wk_tr {I J K : jm_M} (h : hk_wk I J) (h2 : hk_wk J K) : hk_wk I K := fun a b q1 q2 q3 q4 q5 => (h2 a b q1 q2 q3 q4 q5).trans (h a b q1 q2 q3 q4 q5)
/-- a question's code -/
def hk_cd (I' : jm_M) (a b c : Prop) : Prop := (a ∧ b ∧ c ∧ I' 300 0 = 0) ∨ (¬ a ∧ I' 300 0 = 1) ∨ (a ∧ ¬ b ∧ I' 300 0 = 2) ∨ (a ∧ b ∧ ¬ c ∧ I' 300 0 = 3)
/-- sums of a row's part -/
def hk_sumo (f : Int → Int) (o : Int) : Nat → Int
  | 0 => 0
  | n + 1 => hk_sumo f o n + f (o + n)
/-- the end of an end, of the model's rows -/
def hk_en1 (I : jm_M) (g s : Int) : jm_M := hk_filo (jm_up (jm_up (jm_up (jm_up (jm_up I 315 (2 * g) (I 315 (2 * g) + (if s ≤ 0 then 0 else s))) 315 (2 * g + 1) (I 315 (2 * g + 1) - (if 0 ≤ s then 0 else s))) 318 g (if s ≤ 0 then (if 0 ≤ s then I 318 g else 0) else 1)) 316 g (I 316 g + 1)) 317 g 0) 320 (6 * g) 6 (fun _ => -1)
def hk_en2 (I : jm_M) (g p q : Int) : jm_M := jm_up (jm_up (jm_up (jm_up I 309 g 3) 307 (I 314 g) (-1)) 321 (I 310 g) (I 321 (I 310 g) + (if p ≤ q then 0 else 1))) 321 (I 311 g) (I 321 (I 311 g) + (if q ≤ p then 0 else 1))
def hk_ends (I : jm_M) (g s : Int) : jm_M :=
  if I 316 g + 1 = 4 then hk_en2 (hk_en1 I g s) g (I 315 (2 * g) + (if s ≤ 0 then 0 else s)) (I 315 (2 * g + 1) - (if 0 ≤ s then 0 else s)) else hk_en1 I g s
theorem hk_cd1 {I' : jm_M} {a : Int} {A : Prop} (h0 : I' 300 0 = if a = 0 then 1 else 0) (ha : (A ∧ a = 1) ∨ (¬ A ∧ a = 0)) : hk_cd I' A True True := by
  rcases ha with ⟨h, e⟩ | ⟨h, e⟩
  · exact Or.inl ⟨h, trivial, trivial, by rw [h0, if_neg (by omega)]⟩
  · exact Or.inr (Or.inl ⟨h, by rw [h0, if_pos e]⟩)
theorem hk_cd2 {I' : jm_M} {a b : Int} {A B : Prop} (h0 : I' 300 0 = if a = 0 then 1 else if b = 0 then 2 else 0) (ha : (A ∧ a = 1) ∨ (¬ A ∧ a = 0)) (hb : A → (B ∧ b = 1) ∨ (¬ B ∧ b = 0)) : hk_cd I' A B True := by
  rcases ha with ⟨h, e⟩ | ⟨h, e⟩
  · rcases hb h with ⟨h2, e2⟩ | ⟨h2, e2⟩
    · exact Or.inl ⟨h, h2, trivial, by rw [h0, if_neg (by omega), if_neg (by omega)]⟩
    · exact Or.inr (Or.inr (Or.inl ⟨h, h2, by rw [h0, if_neg (by omega), if_pos e2]⟩))
  · exact Or.inr (Or.inl ⟨h, by rw [h0, if_pos e]⟩)
theorem hk_cd3 {I' : jm_M} {a b c : Int} {A B D : Prop} (h0 : I' 300 0 = if a = 0 then 1 else if b = 0 then 2 else if c = 0 then 3 else 0) (ha : (A ∧ a = 1) ∨ (¬ A ∧ a = 0)) (hb : A → (B ∧ b = 1) ∨ (¬ B ∧ b = 0)) (hc : A → B → (D ∧ c = 1) ∨ (¬ D ∧ c = 0)) : hk_cd I' A B D := by
  rcases ha with ⟨h, e⟩ | ⟨h, e⟩
  · rcases hb h with ⟨h2, e2⟩ | ⟨h2, e2⟩
    · rcases hc h h2 with ⟨h3, e3⟩ | ⟨h3, e3⟩
      · exact Or.inl ⟨h, h2, h3, by rw [h0, if_neg (by omega), if_neg (by omega), if_neg (by omega)]⟩
      · exact Or.inr (Or.inr (Or.inr ⟨h, h2, h3, by rw [h0, if_neg (by omega), if_neg (by omega), if_pos e3]⟩))
    · exact Or.inr (Or.inr (Or.inl ⟨h, h2, by rw [h0, if_neg (by omega), if_pos e2]⟩))
  · exact Or.inr (Or.inl ⟨h, by rw [h0, if_pos e]⟩)
theorem hk_tku_f {I : jm_M} {g a : Int} (h1 : a ≠ 324) (h2 : a ≠ 325) : hk_tku I g a = I a := by
  unfold hk_tku
  rw [hk_fill_f h2, hk_fill_f h1]
theorem hk_tku_o {I : jm_M} {g a b : Int} (h1 : a ≠ 324) (h2 : a ≠ 325) : hk_tku I g a b = I a b := congrFun (hk_tku_f h1 h2) b
theorem hk_cd_c {I J : jm_M} {a b c : Prop} (h : J 300 = I 300) (h2 : hk_cd I a b c) : hk_cd J a b c := by
  unfold hk_cd
  rw [h]
  exact h2
