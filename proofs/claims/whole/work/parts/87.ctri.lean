/-! The class: what holds while a text is read. -/
def thk (I : hI) (T : Nat) : Prop := ∀ m, m < 6 → okn (I (T + 3) m) 10
def tqs (I : hI) (T : Nat) (c : Nat → Nat) : Prop := (∀ r, r < c 1 → okn (I (T + 7) r) (c 0) ∧ (okn (I (T + 8) r) 100 ∧ 1 ≤ nn (I (T + 8) r)) ∧ okn (I (T + 9) r) 100 ∧ (I (T + 10) r = Int32.ofInt (-1) ∨ okn (I (T + 10) r) (c 2))) ∧ thk I T ∧ (∀ m, m < c 0 → okn (I (T + 4) m) 10) ∧ (∀ s, s < c 2 → okn (I (T + 13) s) 1000) ∧ (∀ v, v < c 3 → okn (I (T + 14) v) (c 2) ∧ okn (I (T + 15) v) 100 ∧ (okn (I (T + 16) v) 31 ∧ 1 ≤ nn (I (T + 16) v))) ∧ okn (I T 16) 101
def tri (I : hI) (T st : Nat) (c : Nat → Nat) : Prop := tks I st ∧ tsz I T c ∧ tqs I T c
theorem okn_mono {x : Int32} {m n : Nat} (h : okn x m) (g : m ≤ n) : okn x n := ⟨h.1, Nat.lt_of_lt_of_le h.2 g⟩
theorem k_num_ok {I : hI} {lo hi : Nat} (h1 : lo < 1000000) (h2 : hi < 1000000) (h : ¬ (k_num I (Int32.ofNat lo) (Int32.ofNat hi)).1 = 0) : okn ((k_num I (Int32.ofNat lo) (Int32.ofNat hi)).2 3 6) (hi + 1) ∧ lo ≤ nn ((k_num I (Int32.ofNat lo) (Int32.ofNat hi)).2 3 6) := by
  revert h
  unfold k_num
  by_cases a : u_tok I 3 4 = Int32.ofNat 2
  · rw [if_pos a]
    by_cases b : ¬ u_tok I 3 6 < Int32.ofNat lo ∧ ¬ Int32.ofNat hi < u_tok I 3 6
    · rw [if_pos b]
      intro _
      obtain ⟨e, f, g⟩ := am_btN h1 h2 b.1 b.2
      exact ⟨⟨e, by show nn (u_tok I 3 6) < hi + 1; omega⟩, f⟩
    · rw [if_neg b]; exact fun h => absurd rfl h
  · rw [if_neg a]; exact fun h => absurd rfl h
/-- tri rests on these cells alone -/
theorem tri_F {I I' : hI} {T st : Nat} {c : Nat → Nat} (h : tks I' st) (f : ∀ b i, T ≤ b → b ≤ T + 26 → I' b i = I b i) (t : tri I T st c) : tri I' T st c := by
  obtain ⟨_, ⟨z, z0, z1, z2, z3, z4, z5, z6⟩, q1, q2, q3, q4, q5, q6⟩ := t
  refine ⟨h, ⟨z, (f _ _ (by omega) (by omega)).trans z0, (f _ _ (by omega) (by omega)).trans z1, (f _ _ (by omega) (by omega)).trans z2, (f _ _ (by omega) (by omega)).trans z3, (f _ _ (by omega) (by omega)).trans z4, (f _ _ (by omega) (by omega)).trans z5, (f _ _ (by omega) (by omega)).trans z6⟩, fun r hr => ?_, fun m hm => ?_, fun m hm => ?_, fun s hs => ?_, fun v hv => ?_, ?_⟩
  · rw [f _ _ (by omega) (by omega), f _ _ (by omega) (by omega), f _ _ (by omega) (by omega), f _ _ (by omega) (by omega)]; exact q1 r hr
  · rw [f _ _ (by omega) (by omega)]; exact q2 m hm
  · rw [f _ _ (by omega) (by omega)]; exact q3 m hm
  · rw [f _ _ (by omega) (by omega)]; exact q4 s hs
  · rw [f _ _ (by omega) (by omega), f _ _ (by omega) (by omega), f _ _ (by omega) (by omega)]; exact q5 v hv
  · rw [f _ _ (by omega) (by omega)]; exact q6
theorem tri_tok {I : hI} {T st : Nat} {c : Nat → Nat} (hT : T = 9 ∨ T = 36) (t : tri I T st c) : tri (u_tok I) T st c := tri_F (tks_tok t.1) (fun b i h _ => congrFun (u_tok_ne (by omega)) i) t
theorem tri_semi {I : hI} {T st : Nat} {c : Nat → Nat} (hT : T = 9 ∨ T = 36) (t : tri I T st c) : tri (k_semi I).2 T st c := tri_F (tks_semi t.1) (fun b i h _ => congrFun (fr_semi (by omega)) i) t
theorem k_bd_or {p : Int32 × hI} {f : hI → Int32 × hI} {P : hI → Prop} (h : ¬ p.1 = 0 → (f p.2).1 = 0 ∨ P (f p.2).2) : (k_bd p f).1 = 0 ∨ P (k_bd p f).2 := by
  by_cases g : p.1 = 0
  · rw [k_bd0 g]; exact Or.inl g
  · rw [k_bd1 g]; exact h g
theorem tri_mk {I : hI} {T st : Nat} {c : Nat → Nat} (hT : T = 9 ∨ T = 36) (t : tri I T st c) : (k_mkr I T (c 0)).1 = 0 ∨ ∃ c', tri (k_mkr I T (c 0)).2 T st c' := by
  refine k_bd_or (P := fun I => ∃ c', tri I T st c') fun h1 => k_bd_or (P := fun I => ∃ c', tri I T st c') fun h2 => k_bd_or (P := fun I => ∃ c', tri I T st c') fun h3 => Or.inr ⟨fun i => if i = 0 then c 0 + 1 else c i, ?_⟩
  dsimp only
  have ln := k_new_lt h1
  have n1 := k_new_1 h1
  have o2 := (k_num_ok (by omega) (by omega) h2).1
  have o3 := (k_num_ok (by omega) (by omega) h3).1
  have k1 := tks_new (A := T + 1) (m := 6) (n := c 0) (by omega) t.1
  obtain ⟨_, ⟨z, z0, z1, z2, z3, z4, z5, z6⟩, q1, q2, q3, q4, q5, q6⟩ := t
  revert n1 o2 o3 k1
  generalize eA : (k_new I (T + 1) 6 (c 0)).2 = A
  have fA : ∀ b i, b ≠ 3 → b ≠ T + 1 → b ≠ T + 2 → A b i = I b i := fun b i a1 a2 a3 => by rw [← eA]; exact congrFun (fr_new a1 a2 a3) i
  generalize eB : (k_num A (Int32.ofNat 0) (Int32.ofNat 9)).2 = B
  have fB : ∀ b i, b ≠ 3 → B b i = A b i := fun b i a1 => by rw [← eB]; exact congrFun (fr_num a1) i
  generalize eC : (k_num (am_u B (T + 3) (c 0) (B 3 6)) (Int32.ofNat 0) (Int32.ofNat 9)).2 = C
  have fC : ∀ b i, b ≠ 3 → C b i = am_u B (T + 3) (c 0) (B 3 6) b i := fun b i a1 => by rw [← eC]; exact congrFun (fr_num a1) i
  intro n1 o2 o3 k1
  have k2 : tks B st := by rw [← eB]; exact tks_num k1
  have k3 : tks C st := by rw [← eC]; exact tks_num (tks_u (by omega) k2)
  have F : ∀ b i, b ≠ 3 → b ≠ T + 1 → b ≠ T + 2 → b ≠ T + 3 → b ≠ T + 4 → am_u C (T + 4) (c 0) (C 3 6) b i = I b i := fun b i a1 a2 a3 a4 a5 => (am_u_na a5).trans ((fC b i a1).trans ((am_u_na a4).trans ((fB b i a1).trans (fA b i a1 a2 a3))))
  refine ⟨tks_u (by omega) k3, ⟨⟨by show c 0 + 1 ≤ 6; omega, z.2⟩, ?_, (F _ _ (by omega) (by omega) (by omega) (by omega) (by omega)).trans z1, (F _ _ (by omega) (by omega) (by omega) (by omega) (by omega)).trans z2, (F _ _ (by omega) (by omega) (by omega) (by omega) (by omega)).trans z3, (F _ _ (by omega) (by omega) (by omega) (by omega) (by omega)).trans z4, (F _ _ (by omega) (by omega) (by omega) (by omega) (by omega)).trans z5, (F _ _ (by omega) (by omega) (by omega) (by omega) (by omega)).trans z6⟩, fun r hr => ?_, fun m hm => ?_, fun m hm => ?_, fun s hs => ?_, fun v hv => ?_, ?_⟩
  · exact (am_u_na (by omega)).trans ((fC _ _ (by omega)).trans ((am_u_na (by omega)).trans ((fB _ _ (by omega)).trans n1)))
  · rw [F _ _ (by omega) (by omega) (by omega) (by omega) (by omega), F _ _ (by omega) (by omega) (by omega) (by omega) (by omega), F _ _ (by omega) (by omega) (by omega) (by omega) (by omega), F _ _ (by omega) (by omega) (by omega) (by omega) (by omega)]
    obtain ⟨y1, y2, y3, y4⟩ := q1 r hr
    exact ⟨okn_mono y1 (by show c 0 ≤ c 0 + 1; omega), y2, y3, y4⟩
  · rw [am_u_na (by omega), fC _ _ (by omega)]
    by_cases e : m = c 0
    · rw [e, am_u_at]; exact o2
    · rw [am_u_nk e, fB _ _ (by omega), fA _ _ (by omega) (by omega) (by omega)]; exact q2 m hm
  · by_cases e : m = c 0
    · rw [e, am_u_at]; exact o3
    · have hm2 : m < c 0 + 1 := hm
      rw [am_u_nk e, fC _ _ (by omega), am_u_na (by omega), fB _ _ (by omega), fA _ _ (by omega) (by omega) (by omega)]; exact q3 m (by omega)
  · rw [F _ _ (by omega) (by omega) (by omega) (by omega) (by omega)]; exact q4 s hs
  · rw [F _ _ (by omega) (by omega) (by omega) (by omega) (by omega), F _ _ (by omega) (by omega) (by omega) (by omega) (by omega), F _ _ (by omega) (by omega) (by omega) (by omega) (by omega)]; exact q5 v hv
  · rw [F _ _ (by omega) (by omega) (by omega) (by omega) (by omega)]; exact q6
theorem tri_sp {I : hI} {T st : Nat} {c : Nat → Nat} (hT : T = 9 ∨ T = 36) (t : tri I T st c) : (k_sp I T (c 2)).1 = 0 ∨ ∃ c', tri (k_sp I T (c 2)).2 T st c' := by
  refine k_bd_or (P := fun I => ∃ c', tri I T st c') fun h1 => k_bd_or (P := fun I => ∃ c', tri I T st c') fun h2 => Or.inr ⟨fun i => if i = 2 then c 2 + 1 else c i, ?_⟩
  dsimp only
  have ln := k_new_lt h1
  have n1 := k_new_1 h1
  have o2 := (k_num_ok (by omega) (by omega) h2).1
  have k1 := tks_new (A := T + 11) (m := 5) (n := c 2) (by omega) t.1
  obtain ⟨_, ⟨z, z0, z1, z2, z3, z4, z5, z6⟩, q1, q2, q3, q4, q5, q6⟩ := t
  revert n1 o2 k1
  generalize eA : (k_new I (T + 11) 5 (c 2)).2 = A
  have fA : ∀ b i, b ≠ 3 → b ≠ T + 11 → b ≠ T + 12 → A b i = I b i := fun b i a1 a2 a3 => by rw [← eA]; exact congrFun (fr_new a1 a2 a3) i
  generalize eB : (k_num A (Int32.ofNat 0) (Int32.ofNat 999)).2 = B
  have fB : ∀ b i, b ≠ 3 → B b i = A b i := fun b i a1 => by rw [← eB]; exact congrFun (fr_num a1) i
  intro n1 o2 k1
  have k2 : tks B st := by rw [← eB]; exact tks_num k1
  have F : ∀ b i, b ≠ 3 → b ≠ T + 11 → b ≠ T + 12 → b ≠ T + 13 → am_u B (T + 13) (c 2) (B 3 6) b i = I b i := fun b i a1 a2 a3 a4 => (am_u_na a4).trans ((fB b i a1).trans (fA b i a1 a2 a3))
  have z' := z
  obtain ⟨w0, w1, w2, w3, w4⟩ := z'
  refine ⟨tks_u (by omega) k2, ⟨⟨w0, w1, by show c 2 + 1 ≤ 5; omega, w3, w4⟩, (F _ _ (by omega) (by omega) (by omega) (by omega)).trans z0, (F _ _ (by omega) (by omega) (by omega) (by omega)).trans z1, ?_, (F _ _ (by omega) (by omega) (by omega) (by omega)).trans z3, (F _ _ (by omega) (by omega) (by omega) (by omega)).trans z4, (F _ _ (by omega) (by omega) (by omega) (by omega)).trans z5, (F _ _ (by omega) (by omega) (by omega) (by omega)).trans z6⟩, fun r hr => ?_, fun m hm => ?_, fun m hm => ?_, fun s hs => ?_, fun v hv => ?_, ?_⟩
  · exact (am_u_na (by omega)).trans ((fB _ _ (by omega)).trans n1)
  · rw [F _ _ (by omega) (by omega) (by omega) (by omega), F _ _ (by omega) (by omega) (by omega) (by omega), F _ _ (by omega) (by omega) (by omega) (by omega), F _ _ (by omega) (by omega) (by omega) (by omega)]
    obtain ⟨y1, y2, y3, y4⟩ := q1 r hr
    exact ⟨y1, y2, y3, y4.imp id fun y => okn_mono y (by show c 2 ≤ c 2 + 1; omega)⟩
  · rw [F _ _ (by omega) (by omega) (by omega) (by omega)]; exact q2 m hm
  · rw [F _ _ (by omega) (by omega) (by omega) (by omega)]; exact q3 m hm
  · by_cases e : s = c 2
    · rw [e, am_u_at]; exact o2
    · have hs2 : s < c 2 + 1 := hs
      rw [am_u_nk e, fB _ _ (by omega), fA _ _ (by omega) (by omega) (by omega)]; exact q4 s (by omega)
  · rw [F _ _ (by omega) (by omega) (by omega) (by omega), F _ _ (by omega) (by omega) (by omega) (by omega), F _ _ (by omega) (by omega) (by omega) (by omega)]
    obtain ⟨y1, y2, y3⟩ := q5 v hv
    exact ⟨okn_mono y1 (by show c 2 ≤ c 2 + 1; omega), y2, y3⟩
  · rw [F _ _ (by omega) (by omega) (by omega) (by omega)]; exact q6
theorem tri_rp {I : hI} {T st : Nat} {c : Nat → Nat} (hT : T = 9 ∨ T = 36) (t : tri I T st c) : (k_rp I T (c 1) (c 0)).1 = 0 ∨ ∃ c', tri (k_rp I T (c 1) (c 0)).2 T st c' := by
  refine k_bd_or (P := fun I => ∃ c', tri I T st c') fun h1 => k_bd_or (P := fun I => ∃ c', tri I T st c') fun h2 => k_bd_or (P := fun I => ∃ c', tri I T st c') fun h3 => k_bd_or (P := fun I => ∃ c', tri I T st c') fun h4 => Or.inr ⟨fun i => if i = 1 then c 1 + 1 else c i, ?_⟩
  dsimp only
  have ln := k_new_lt h1
  have n1 := k_new_1 h1
  have o2 := k_told_1 (by have := t.2.1.1.1; omega) h2
  have o3 := k_num_ok (by omega) (by omega) h3
  have o4 := (k_num_ok (by omega) (by omega) h4).1
  have k1 := tks_new (A := T + 5) (m := 8) (n := c 1) (by omega) t.1
  obtain ⟨_, ⟨z, z0, z1, z2, z3, z4, z5, z6⟩, q1, q2, q3, q4, q5, q6⟩ := t
  revert n1 o2 o3 o4 k1
  generalize eA : (k_new I (T + 5) 8 (c 1)).2 = A
  have fA : ∀ b i, b ≠ 3 → b ≠ T + 5 → b ≠ T + 6 → A b i = I b i := fun b i a1 a2 a3 => by rw [← eA]; exact congrFun (fr_new a1 a2 a3) i
  generalize eB : (k_told A (T + 1) (c 0)).2 = B
  have fB : ∀ b i, b ≠ 3 → B b i = A b i := fun b i a1 => by rw [← eB]; exact congrFun (fr_told a1) i
  generalize eX : k_fn B (T + 1) (c 0) = X
  generalize eC : (k_num (am_u (am_u B (T + 10) (c 1) (Int32.ofInt (-1))) (T + 7) (c 1) X) (Int32.ofNat 1) (Int32.ofNat 99)).2 = C
  have fC : ∀ b i, b ≠ 3 → C b i = am_u (am_u B (T + 10) (c 1) (Int32.ofInt (-1))) (T + 7) (c 1) X b i := fun b i a1 => by rw [← eC]; exact congrFun (fr_num a1) i
  generalize eD : (k_num (am_u C (T + 8) (c 1) (C 3 6)) (Int32.ofNat 0) (Int32.ofNat 99)).2 = D
  have fD : ∀ b i, b ≠ 3 → D b i = am_u C (T + 8) (c 1) (C 3 6) b i := fun b i a1 => by rw [← eD]; exact congrFun (fr_num a1) i
  intro n1 o2 o3 o4 k1
  have k2 : tks B st := by rw [← eB]; exact tks_told k1
  have k3 : tks C st := by rw [← eC]; exact tks_num (tks_u (by omega) (tks_u (by omega) k2))
  have k4 : tks D st := by rw [← eD]; exact tks_num (tks_u (by omega) k3)
  have F1 : ∀ b i, b ≠ 3 → b ≠ T + 7 → b ≠ T + 8 → b ≠ T + 9 → b ≠ T + 10 → am_u D (T + 9) (c 1) (D 3 6) b i = A b i := fun b i a1 a2 a3 a4 a5 => (am_u_na a4).trans ((fD b i a1).trans ((am_u_na a3).trans ((fC b i a1).trans ((am_u_na a2).trans ((am_u_na a5).trans (fB b i a1))))))
  have F : ∀ b i, b ≠ 3 → b ≠ T + 5 → b ≠ T + 6 → b ≠ T + 7 → b ≠ T + 8 → b ≠ T + 9 → b ≠ T + 10 → am_u D (T + 9) (c 1) (D 3 6) b i = I b i := fun b i a1 b1 b2 a2 a3 a4 a5 => (F1 b i a1 a2 a3 a4 a5).trans (fA b i a1 b1 b2)
  have F2 : ∀ b i, b ≠ 3 → b ≠ T + 5 → b ≠ T + 6 → i ≠ c 1 → am_u D (T + 9) (c 1) (D 3 6) b i = I b i := fun b i a1 b1 b2 a2 => (am_u_nk a2).trans ((fD b i a1).trans ((am_u_nk a2).trans ((fC b i a1).trans ((am_u_nk a2).trans ((am_u_nk a2).trans ((fB b i a1).trans (fA b i a1 b1 b2)))))))
  obtain ⟨w0, w1, w2, w3, w4⟩ := z
  refine ⟨tks_u (by omega) k4, ⟨⟨w0, by show c 1 + 1 ≤ 8; omega, w2, w3, w4⟩, (F _ _ (by omega) (by omega) (by omega) (by omega) (by omega) (by omega) (by omega)).trans z0, (F1 _ _ (by omega) (by omega) (by omega) (by omega) (by omega)).trans n1, (F _ _ (by omega) (by omega) (by omega) (by omega) (by omega) (by omega) (by omega)).trans z2, (F _ _ (by omega) (by omega) (by omega) (by omega) (by omega) (by omega) (by omega)).trans z3, (F _ _ (by omega) (by omega) (by omega) (by omega) (by omega) (by omega) (by omega)).trans z4, (F _ _ (by omega) (by omega) (by omega) (by omega) (by omega) (by omega) (by omega)).trans z5, (F _ _ (by omega) (by omega) (by omega) (by omega) (by omega) (by omega) (by omega)).trans z6⟩, fun r hr => ?_, fun m hm => ?_, fun m hm => ?_, fun s hs => ?_, fun v hv => ?_, ?_⟩
  · have hr2 : r < c 1 + 1 := hr
    by_cases e : r = c 1
    · subst e
      have y7 : am_u D (T + 9) (c 1) (D 3 6) (T + 7) (c 1) = X := (am_u_na (by omega)).trans ((fD _ _ (by omega)).trans ((am_u_na (by omega)).trans ((fC _ _ (by omega)).trans am_u_at)))
      have y8 : am_u D (T + 9) (c 1) (D 3 6) (T + 8) (c 1) = C 3 6 := (am_u_na (by omega)).trans ((fD _ _ (by omega)).trans am_u_at)
      have y10 : am_u D (T + 9) (c 1) (D 3 6) (T + 10) (c 1) = Int32.ofInt (-1) := (am_u_na (by omega)).trans ((fD _ _ (by omega)).trans ((am_u_na (by omega)).trans ((fC _ _ (by omega)).trans ((am_u_na (by omega)).trans am_u_at))))
      rw [y7, y8, y10, am_u_at]
      exact ⟨o2, o3, o4, Or.inl rfl⟩
    · rw [F2 _ _ (by omega) (by omega) (by omega) e, F2 _ _ (by omega) (by omega) (by omega) e, F2 _ _ (by omega) (by omega) (by omega) e, F2 _ _ (by omega) (by omega) (by omega) e]
      exact q1 r (by omega)
  · rw [F _ _ (by omega) (by omega) (by omega) (by omega) (by omega) (by omega) (by omega)]; exact q2 m hm
  · rw [F _ _ (by omega) (by omega) (by omega) (by omega) (by omega) (by omega) (by omega)]; exact q3 m hm
  · rw [F _ _ (by omega) (by omega) (by omega) (by omega) (by omega) (by omega) (by omega)]; exact q4 s hs
  · rw [F _ _ (by omega) (by omega) (by omega) (by omega) (by omega) (by omega) (by omega), F _ _ (by omega) (by omega) (by omega) (by omega) (by omega) (by omega) (by omega), F _ _ (by omega) (by omega) (by omega) (by omega) (by omega) (by omega) (by omega)]; exact q5 v hv
  · rw [F _ _ (by omega) (by omega) (by omega) (by omega) (by omega) (by omega) (by omega)]; exact q6
theorem tri_rg {I : hI} {T st : Nat} {c : Nat → Nat} (hT : T = 9 ∨ T = 36) (t : tri I T st c) : (k_rg I T (c 1) (c 2)).1 = 0 ∨ ∃ c', tri (k_rg I T (c 1) (c 2)).2 T st c' := by
  refine k_bd_or (P := fun I => ∃ c', tri I T st c') fun h1 => ?_
  have o1 := k_told_1 (by have := t.2.1.1.2.1; omega) h1
  have t1 : tri (k_told I (T + 5) (c 1)).2 T st c := tri_F (tks_told t.1) (fun b i h _ => congrFun (fr_told (by omega)) i) t
  revert o1 t1
  generalize (k_told I (T + 5) (c 1)).2 = A
  intro o1 t1
  generalize k_fn A (T + 5) (c 1) = Y at o1 ⊢
  unfold k_rg1
  split
  · refine k_bd_or (P := fun I => ∃ c', tri I T st c') fun h2 => Or.inr ⟨c, ?_⟩
    dsimp only
    have o2 := k_told_1 (by have := t1.2.1.1.2.2.1; omega) h2
    have t2 : tri (k_told A (T + 11) (c 2)).2 T st c := tri_F (tks_told t1.1) (fun b i h _ => congrFun (fr_told (by omega)) i) t1
    revert o2 t2
    generalize (k_told A (T + 11) (c 2)).2 = B
    intro o2 t2
    generalize k_fn B (T + 11) (c 2) = Z at o2 ⊢
    obtain ⟨k, ⟨z, z0, z1, z2, z3, z4, z5, z6⟩, q1, q2, q3, q4, q5, q6⟩ := t2
    have F : ∀ b i, b ≠ T + 10 → am_u B (T + 10) (nn Y) Z b i = B b i := fun b i a => am_u_na a
    refine ⟨tks_u (by omega) k, ⟨z, (F _ _ (by omega)).trans z0, (F _ _ (by omega)).trans z1, (F _ _ (by omega)).trans z2, (F _ _ (by omega)).trans z3, (F _ _ (by omega)).trans z4, (F _ _ (by omega)).trans z5, (F _ _ (by omega)).trans z6⟩, fun r hr => ?_, fun m hm => ?_, fun m hm => ?_, fun s hs => ?_, fun v hv => ?_, ?_⟩
    · rw [F _ _ (by omega), F _ _ (by omega), F _ _ (by omega)]
      obtain ⟨y1, y2, y3, y4⟩ := q1 r hr
      refine ⟨y1, y2, y3, ?_⟩
      by_cases e : r = nn Y
      · rw [e, am_u_at]; exact Or.inr o2
      · rw [am_u_nk e]; exact y4
    · rw [F _ _ (by omega)]; exact q2 m hm
    · rw [F _ _ (by omega)]; exact q3 m hm
    · rw [F _ _ (by omega)]; exact q4 s hs
    · rw [F _ _ (by omega), F _ _ (by omega), F _ _ (by omega)]; exact q5 v hv
    · rw [F _ _ (by omega)]; exact q6
  · exact Or.inl rfl
theorem tri_sl {I : hI} {T st : Nat} {c : Nat → Nat} (hT : T = 9 ∨ T = 36) (t : tri I T st c) : (k_slc I T (c 3) (c 2)).1 = 0 ∨ ∃ c', tri (k_slc I T (c 3) (c 2)).2 T st c' := by
  unfold k_slc; split
  · rename_i l3
    refine k_bd_or (P := fun I => ∃ c', tri I T st c') fun h1 => k_bd_or (P := fun I => ∃ c', tri I T st c') fun h2 => k_bd_or (P := fun I => ∃ c', tri I T st c') fun h3 => Or.inr ⟨fun i => if i = 3 then c 3 + 1 else c i, ?_⟩
    dsimp only
    have o1 := k_told_1 (by have := t.2.1.1.2.2.1; omega) h1
    have o2 := (k_num_ok (by omega) (by omega) h2).1
    have o3 := k_num_ok (by omega) (by omega) h3
    have t1 : tri (k_told I (T + 11) (c 2)).2 T st c := tri_F (tks_told t.1) (fun b i h _ => congrFun (fr_told (by omega)) i) t
    revert o1 o2 o3 t1
    generalize (k_told I (T + 11) (c 2)).2 = A
    generalize k_fn A (T + 11) (c 2) = X
    generalize eB : (k_num (am_u A (T + 14) (c 3) X) (Int32.ofNat 0) (Int32.ofNat 99)).2 = B
    have fB : ∀ b i, b ≠ 3 → B b i = am_u A (T + 14) (c 3) X b i := fun b i a1 => by rw [← eB]; exact congrFun (fr_num a1) i
    generalize eC : (k_num (am_u B (T + 15) (c 3) (B 3 6)) (Int32.ofNat 1) (Int32.ofNat 30)).2 = C
    have fC : ∀ b i, b ≠ 3 → C b i = am_u B (T + 15) (c 3) (B 3 6) b i := fun b i a1 => by rw [← eC]; exact congrFun (fr_num a1) i
    intro o1 o2 o3 t1
    have k2 : tks B st := by rw [← eB]; exact tks_num (tks_u (by omega) t1.1)
    have k3 : tks C st := by rw [← eC]; exact tks_num (tks_u (by omega) k2)
    obtain ⟨_, ⟨z, z0, z1, z2, z3, z4, z5, z6⟩, q1, q2, q3, q4, q5, q6⟩ := t1
    unfold k_sl3
    generalize (if C T 15 < C (T + 15) (c 3) then C (T + 15) (c 3) else C T 15) = W
    generalize eE : am_u (am_u (am_u C (T + 16) (c 3) (C 3 6)) T 15 W) T 11 (Int32.ofNat (c 3 + 1)) = E
    have fE : ∀ b i, b ≠ T → E b i = am_u C (T + 16) (c 3) (C 3 6) b i := fun b i a => by rw [← eE]; exact (am_u_na a).trans (am_u_na a)
    have F : ∀ b i, b ≠ 3 → b ≠ T + 14 → b ≠ T + 15 → b ≠ T + 16 → b ≠ T → E b i = A b i := fun b i a1 a2 a3 a4 a5 => (fE b i a5).trans ((am_u_na a4).trans ((fC b i a1).trans ((am_u_na a3).trans ((fB b i a1).trans (am_u_na a2)))))
    have F2 : ∀ b i, b ≠ 3 → b ≠ T → i ≠ c 3 → E b i = A b i := fun b i a1 a5 a2 => (fE b i a5).trans ((am_u_nk a2).trans ((fC b i a1).trans ((am_u_nk a2).trans ((fB b i a1).trans (am_u_nk a2)))))
    have F3 : E T 16 = A T 16 := by
      rw [← eE]; exact (am_u_nk (by decide)).trans ((am_u_nk (by decide)).trans ((am_u_na (by omega)).trans ((fC _ _ (by omega)).trans ((am_u_na (by omega)).trans ((fB _ _ (by omega)).trans (am_u_na (by omega)))))))
    have kE : tks E st := by rw [← eE]; exact tks_u (by omega) (tks_u (by omega) (tks_u (by omega) k3))
    obtain ⟨w0, w1, w2, w3, w4⟩ := z
    refine ⟨kE, ⟨⟨w0, w1, w2, by show c 3 + 1 ≤ 10; omega, w4⟩, (F _ _ (by omega) (by omega) (by omega) (by omega) (by omega)).trans z0, (F _ _ (by omega) (by omega) (by omega) (by omega) (by omega)).trans z1, (F _ _ (by omega) (by omega) (by omega) (by omega) (by omega)).trans z2, by rw [← eE]; exact am_u_at, (F _ _ (by omega) (by omega) (by omega) (by omega) (by omega)).trans z4, (F _ _ (by omega) (by omega) (by omega) (by omega) (by omega)).trans z5, (F _ _ (by omega) (by omega) (by omega) (by omega) (by omega)).trans z6⟩, fun r hr => ?_, fun m hm => ?_, fun m hm => ?_, fun s hs => ?_, fun v hv => ?_, ?_⟩
    · rw [F _ _ (by omega) (by omega) (by omega) (by omega) (by omega), F _ _ (by omega) (by omega) (by omega) (by omega) (by omega), F _ _ (by omega) (by omega) (by omega) (by omega) (by omega), F _ _ (by omega) (by omega) (by omega) (by omega) (by omega)]; exact q1 r hr
    · rw [F _ _ (by omega) (by omega) (by omega) (by omega) (by omega)]; exact q2 m hm
    · rw [F _ _ (by omega) (by omega) (by omega) (by omega) (by omega)]; exact q3 m hm
    · rw [F _ _ (by omega) (by omega) (by omega) (by omega) (by omega)]; exact q4 s hs
    · have hv2 : v < c 3 + 1 := hv
      by_cases e : v = c 3
      · subst e
        have y14 : E (T + 14) (c 3) = X := (fE _ _ (by omega)).trans ((am_u_na (by omega)).trans ((fC _ _ (by omega)).trans ((am_u_na (by omega)).trans ((fB _ _ (by omega)).trans am_u_at))))
        have y15 : E (T + 15) (c 3) = B 3 6 := (fE _ _ (by omega)).trans ((am_u_na (by omega)).trans ((fC _ _ (by omega)).trans am_u_at))
        have y16 : E (T + 16) (c 3) = C 3 6 := (fE _ _ (by omega)).trans am_u_at
        rw [y14, y15, y16]
        exact ⟨o1, o2, o3⟩
      · rw [F2 _ _ (by omega) (by omega) e, F2 _ _ (by omega) (by omega) e, F2 _ _ (by omega) (by omega) e]; exact q5 v (by omega)
    · rw [F3]; exact q6
  · exact Or.inl rfl
theorem tri_sto {I : hI} {T st : Nat} {c : Nat → Nat} (hT : T = 9 ∨ T = 36) (t : tri I T st c) : (k_sto I T).1 = 0 ∨ ∃ c', tri (k_sto I T).2 T st c' := by
  unfold k_sto; split
  · refine k_bd_or (P := fun I => ∃ c', tri I T st c') fun h1 => Or.inr ⟨c, ?_⟩
    dsimp only
    have o1 := (k_num_ok (by omega) (by omega) h1).1
    have t1 : tri (k_num I (Int32.ofNat 0) (Int32.ofNat 100)).2 T st c := tri_F (tks_num t.1) (fun b i h _ => congrFun (fr_num (by omega)) i) t
    revert o1 t1
    generalize (k_num I (Int32.ofNat 0) (Int32.ofNat 100)).2 = A
    intro o1 t1
    refine tri_F (I := am_u A T 16 (A 3 6)) (tks_u (by omega) (tks_u (by omega) t1.1)) (fun b i h _ => am_u_na (by omega)) ?_
    obtain ⟨k, ⟨z, z0, z1, z2, z3, z4, z5, z6⟩, q1, q2, q3, q4, q5, q6⟩ := t1
    have F : ∀ b i, b ≠ T → am_u A T 16 (A 3 6) b i = A b i := fun b i a => am_u_na a
    refine ⟨tks_u (by omega) k, ⟨z, (F _ _ (by omega)).trans z0, (F _ _ (by omega)).trans z1, (F _ _ (by omega)).trans z2, (am_u_nk (by decide)).trans z3, (F _ _ (by omega)).trans z4, (F _ _ (by omega)).trans z5, (F _ _ (by omega)).trans z6⟩, fun r hr => ?_, fun m hm => ?_, fun m hm => ?_, fun s hs => ?_, fun v hv => ?_, ?_⟩
    · rw [F _ _ (by omega), F _ _ (by omega), F _ _ (by omega), F _ _ (by omega)]; exact q1 r hr
    · rw [F _ _ (by omega)]; exact q2 m hm
    · rw [F _ _ (by omega)]; exact q3 m hm
    · rw [F _ _ (by omega)]; exact q4 s hs
    · rw [F _ _ (by omega), F _ _ (by omega), F _ _ (by omega)]; exact q5 v hv
    · rw [am_u_at]; exact o1
  · exact Or.inl rfl
theorem tri_see {I : hI} {T st : Nat} {c : Nat → Nat} (hT : T = 9 ∨ T = 36) (t : tri I T st c) : (k_see I T).1 = 0 ∨ ∃ c', tri (k_see I T).2 T st c' := by
  unfold k_see; split
  · refine k_bd_or (P := fun I => ∃ c', tri I T st c') fun h1 => Or.inr ⟨c, ?_⟩
    dsimp only
    have t1 : tri (k_num I (Int32.ofNat 0) (Int32.ofNat 99999)).2 T st c := tri_F (tks_num t.1) (fun b i h _ => congrFun (fr_num (by omega)) i) t
    revert t1
    generalize (k_num I (Int32.ofNat 0) (Int32.ofNat 99999)).2 = A
    intro t1
    refine tri_F (I := am_u A T 17 (A 3 6)) (tks_u (by omega) (tks_u (by omega) t1.1)) (fun b i h _ => am_u_na (by omega)) ?_
    obtain ⟨k, ⟨z, z0, z1, z2, z3, z4, z5, z6⟩, q1, q2, q3, q4, q5, q6⟩ := t1
    have F : ∀ b i, b ≠ T → am_u A T 17 (A 3 6) b i = A b i := fun b i a => am_u_na a
    refine ⟨tks_u (by omega) k, ⟨z, (F _ _ (by omega)).trans z0, (F _ _ (by omega)).trans z1, (F _ _ (by omega)).trans z2, (am_u_nk (by decide)).trans z3, (F _ _ (by omega)).trans z4, (F _ _ (by omega)).trans z5, (F _ _ (by omega)).trans z6⟩, fun r hr => ?_, fun m hm => ?_, fun m hm => ?_, fun s hs => ?_, fun v hv => ?_, ?_⟩
    · rw [F _ _ (by omega), F _ _ (by omega), F _ _ (by omega), F _ _ (by omega)]; exact q1 r hr
    · rw [F _ _ (by omega)]; exact q2 m hm
    · rw [F _ _ (by omega)]; exact q3 m hm
    · rw [F _ _ (by omega)]; exact q4 s hs
    · rw [F _ _ (by omega), F _ _ (by omega), F _ _ (by omega)]; exact q5 v hv
    · rw [am_u_nk (by decide)]; exact q6
  · exact Or.inl rfl
theorem tri_line {I : hI} {T st : Nat} {c : Nat → Nat} (hT : T = 9 ∨ T = 36) (t : tri I T st c) : (k_line I T c).1 = 0 ∨ ∃ c', tri (k_line I T c).2 T st c' := by
  unfold k_line; repeat' split
  · exact tri_mk hT t
  · exact tri_rp hT t
  · exact tri_sp hT t
  · exact tri_rg hT t
  · exact tri_sl hT t
  · exact tri_sto hT t
  · exact tri_see hT t
  · exact Or.inl rfl
