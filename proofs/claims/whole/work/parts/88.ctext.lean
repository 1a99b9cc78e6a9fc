/-! The class: a text read. -/
/-- what reading leaves as it is -/
def kL (T : Nat) (I I' : hI) : Prop := (∀ b, b ≠ 2 → b ≠ 3 → b ≠ 6 → b ≠ 7 → b ≠ 8 → (b < T ∨ T + 26 < b) → I' b = I b) ∧ (thk I T → thk I' T)
theorem kL_rf (T : Nat) (I : hI) : kL T I I := ⟨fun _ _ _ _ _ _ _ => rfl, id⟩
theorem kL_tr {T : Nat} {I I1 I2 : hI} (a : kL T I I1) (b : kL T I1 I2) : kL T I I2 := ⟨fun c h1 h2 h3 h4 h5 h6 => (b.1 c h1 h2 h3 h4 h5 h6).trans (a.1 c h1 h2 h3 h4 h5 h6), fun h => b.2 (a.2 h)⟩
theorem kL_of {T : Nat} {I I' : hI} (hT : 9 ≤ T) (f : ∀ b, b ≠ 3 → I' b = I b) : kL T I I' := ⟨fun b _ h _ _ _ _ => f b h, fun h m hm => by rw [f _ (by omega)]; exact h m hm⟩
theorem kL_u {T a k : Nat} {I : hI} {x : Int32} (hT : 9 ≤ T) (h : a = 2 ∨ (T ≤ a ∧ a ≤ T + 26 ∧ a ≠ T + 3)) : kL T I (am_u I a k x) := ⟨fun b h1 h2 h3 h4 h5 h6 => am_u_ne (by omega), fun g m hm => by rw [am_u_na (by omega)]; exact g m hm⟩
theorem kL_th {T k : Nat} {I : hI} {x : Int32} (hx : okn x 10) : kL T I (am_u I (T + 3) k x) := ⟨fun b h1 h2 h3 h4 h5 h6 => am_u_ne (by omega), fun g m hm => by
  by_cases e : m = k
  · rw [e, am_u_at]; exact hx
  · rw [am_u_nk e]; exact g m hm⟩
theorem kL_bd {T : Nat} {I : hI} {p : Int32 × hI} {f : hI → Int32 × hI} (a : kL T I p.2) (b : ¬ p.1 = 0 → kL T p.2 (f p.2).2) : kL T I (k_bd p f).2 := by
  by_cases g : p.1 = 0
  · rw [k_bd0 g]; exact a
  · rw [k_bd1 g]; exact kL_tr a (b g)
theorem kL_num {T : Nat} {I : hI} {lo hi : Int32} (hT : 9 ≤ T) : kL T I (k_num I lo hi).2 := kL_of hT fun _ h => fr_num h
theorem kL_told {T : Nat} {I : hI} {A n : Nat} (hT : 9 ≤ T) : kL T I (k_told I A n).2 := kL_of hT fun _ h => fr_told h
theorem kL_semi {T : Nat} {I : hI} (hT : 9 ≤ T) : kL T I (k_semi I).2 := kL_of hT fun _ h => fr_semi h
theorem kL_tok {T : Nat} {I : hI} (hT : 9 ≤ T) : kL T I (u_tok I) := kL_of hT fun _ h => u_tok_ne h
theorem kL_bl {T : Nat} {I : hI} {x : Int32} (hT : 9 ≤ T) : kL T I (u_bl I x) := kL_of hT fun _ h => u_bl_ne h
theorem kL_new {T : Nat} {I : hI} {A m n : Nat} (hT : 9 ≤ T) (hA : A = T + 1 ∨ A = T + 5 ∨ A = T + 11) : kL T I (k_new I A m n).2 := ⟨fun b h1 h2 h3 h4 h5 h6 => fr_new h2 (by omega) (by omega), fun g i hi => by rw [fr_new (by omega) (by omega) (by omega)]; exact g i hi⟩
theorem kL_mk {T : Nat} {I : hI} {n : Nat} (hT : 9 ≤ T) : kL T I (k_mkr I T n).2 := kL_bd (kL_new hT (by omega)) fun _ => kL_bd (kL_num hT) fun h => kL_bd (kL_tr (kL_th (k_num_ok (by omega) (by omega) h).1) (kL_num hT)) fun _ => kL_u hT (by omega)
theorem kL_sp {T : Nat} {I : hI} {n : Nat} (hT : 9 ≤ T) : kL T I (k_sp I T n).2 := kL_bd (kL_new hT (by omega)) fun _ => kL_bd (kL_num hT) fun h => kL_u hT (by omega)
theorem kL_rp {T : Nat} {I : hI} {n m : Nat} (hT : 9 ≤ T) : kL T I (k_rp I T n m).2 := kL_bd (kL_new hT (by omega)) fun _ => kL_bd (kL_told hT) fun _ => kL_bd (kL_tr (kL_tr (kL_u hT (by omega)) (kL_u hT (by omega))) (kL_num hT)) fun _ => kL_bd (kL_tr (kL_u hT (by omega)) (kL_num hT)) fun _ => kL_u hT (by omega)
theorem kL_rg {T : Nat} {I : hI} {n m : Nat} (hT : 9 ≤ T) : kL T I (k_rg I T n m).2 := kL_bd (kL_told hT) fun _ => by
  unfold k_rg1; split
  · exact kL_bd (kL_told hT) fun _ => kL_u hT (by omega)
  · exact kL_bl hT
theorem kL_slc {T : Nat} {I : hI} {v m : Nat} (hT : 9 ≤ T) : kL T I (k_slc I T v m).2 := by
  unfold k_slc; split
  · exact kL_bd (kL_told hT) fun _ => kL_bd (kL_tr (kL_u hT (by omega)) (kL_num hT)) fun _ => kL_bd (kL_tr (kL_u hT (by omega)) (kL_num hT)) fun _ => kL_tr (kL_tr (kL_u hT (by omega)) (kL_u hT (by omega))) (kL_u hT (by omega))
  · exact kL_bl hT
theorem kL_sto {T : Nat} {I : hI} (hT : 9 ≤ T) : kL T I (k_sto I T).2 := by
  unfold k_sto; split
  · exact kL_bd (kL_num hT) fun _ => kL_tr (kL_u hT (by omega)) (kL_u hT (by omega))
  · exact kL_bl hT
theorem kL_see {T : Nat} {I : hI} (hT : 9 ≤ T) : kL T I (k_see I T).2 := by
  unfold k_see; split
  · exact kL_bd (kL_num hT) fun _ => kL_tr (kL_u hT (by omega)) (kL_u hT (by omega))
  · exact kL_bl hT
theorem kL_line {T : Nat} {I : hI} {c : Nat → Nat} (hT : 9 ≤ T) : kL T I (k_line I T c).2 := by
  unfold k_line; repeat' split
  · exact kL_mk hT
  · exact kL_rp hT
  · exact kL_sp hT
  · exact kL_rg hT
  · exact kL_slc hT
  · exact kL_sto hT
  · exact kL_see hT
  · exact kL_bl hT
theorem tri_lw4 {I : hI} {T st : Nat} {c : Nat → Nat} (hT : T = 9 ∨ T = 36) (t : tri I T st c) : kL T I (k_lwr1 I (T + 18) (c 4 + c 5 + c 6)).2 ∧ ((k_lwr1 I (T + 18) (c 4 + c 5 + c 6)).1 = 0 ∨ ∃ c', tri (k_lwr1 I (T + 18) (c 4 + c 5 + c 6)).2 T st c') := by
  unfold k_lwr1; split
  · exact ⟨kL_bl (by omega), Or.inl rfl⟩
  · rename_i h
    obtain ⟨k, ⟨z, z0, z1, z2, z3, z4, z5, z6⟩, q1, q2, q3, q4, q5, q6⟩ := t
    obtain ⟨w0, w1, w2, w3, w4⟩ := z
    obtain ⟨p, hp, hp2⟩ := okn_E k.2.2
    obtain ⟨g, e⟩ := k_rdI_e (I := I) (c := c 4 + c 5 + c 6) (lwA_T18 hT) k.1 k.2.1 hp hp2 (am_zer z4 (by omega) h) w4
    revert g e
    generalize k_rdI I (T + 18) (c 4 + c 5 + c 6) = P
    intro g e
    have F : ∀ b i, T ≤ b → (b < T + 18 ∨ T + 20 < b) → P.2 b i = I b i := fun b i a1 a2 => congrFun (g.1 b (by omega) (by omega) (by omega) (by omega) (by omega)) i
    refine ⟨⟨fun b h1 h2 h3 h4 h5 h6 => g.1 b h2 h3 h4 h5 (by omega), fun y m hm => by rw [F _ _ (by omega) (by omega)]; exact y m hm⟩, ?_⟩
    rcases e with e | ⟨e1, e2, m, e3, e4⟩
    · exact Or.inl e
    · refine Or.inr ⟨fun i => if i = 4 then m else c i, ⟨k.1, g.2.trans k.2.1, e1⟩, ⟨⟨w0, w1, w2, w3, ?_⟩, (F _ _ (by omega) (by omega)).trans z0, (F _ _ (by omega) (by omega)).trans z1, (F _ _ (by omega) (by omega)).trans z2, (F _ _ (by omega) (by omega)).trans z3, ?_, (F (T + 21) 0 (by omega) (by omega)).trans z5, (F (T + 24) 0 (by omega) (by omega)).trans z6⟩, fun r hr => ?_, fun m hm => ?_, fun m hm => ?_, fun s hs => ?_, fun v hv => ?_, ?_⟩
      · show m + c 5 + c 6 ≤ 64
        omega
      · exact e3
      · rw [F _ _ (by omega) (by omega), F _ _ (by omega) (by omega), F _ _ (by omega) (by omega), F _ _ (by omega) (by omega)]; exact q1 r hr
      · rw [F _ _ (by omega) (by omega)]; exact q2 m hm
      · rw [F _ _ (by omega) (by omega)]; exact q3 m hm
      · rw [F _ _ (by omega) (by omega)]; exact q4 s hs
      · rw [F _ _ (by omega) (by omega), F _ _ (by omega) (by omega), F _ _ (by omega) (by omega)]; exact q5 v hv
      · rw [F _ _ (by omega) (by omega)]; exact q6
theorem tri_lw5 {I : hI} {T st : Nat} {c : Nat → Nat} (hT : T = 9 ∨ T = 36) (t : tri I T st c) : kL T I (k_lwr1 I (T + 21) (c 4 + c 5 + c 6)).2 ∧ ((k_lwr1 I (T + 21) (c 4 + c 5 + c 6)).1 = 0 ∨ ∃ c', tri (k_lwr1 I (T + 21) (c 4 + c 5 + c 6)).2 T st c') := by
  unfold k_lwr1; split
  · exact ⟨kL_bl (by omega), Or.inl rfl⟩
  · rename_i h
    obtain ⟨k, ⟨z, z0, z1, z2, z3, z4, z5, z6⟩, q1, q2, q3, q4, q5, q6⟩ := t
    obtain ⟨w0, w1, w2, w3, w4⟩ := z
    obtain ⟨p, hp, hp2⟩ := okn_E k.2.2
    obtain ⟨g, e⟩ := k_rdI_e (I := I) (c := c 4 + c 5 + c 6) (lwA_T21 hT) k.1 k.2.1 hp hp2 (am_zer z5 (by omega) h) w4
    revert g e
    generalize k_rdI I (T + 21) (c 4 + c 5 + c 6) = P
    intro g e
    have F : ∀ b i, T ≤ b → (b < T + 21 ∨ T + 23 < b) → P.2 b i = I b i := fun b i a1 a2 => congrFun (g.1 b (by omega) (by omega) (by omega) (by omega) (by omega)) i
    refine ⟨⟨fun b h1 h2 h3 h4 h5 h6 => g.1 b h2 h3 h4 h5 (by omega), fun y m hm => by rw [F _ _ (by omega) (by omega)]; exact y m hm⟩, ?_⟩
    rcases e with e | ⟨e1, e2, m, e3, e4⟩
    · exact Or.inl e
    · refine Or.inr ⟨fun i => if i = 5 then m else c i, ⟨k.1, g.2.trans k.2.1, e1⟩, ⟨⟨w0, w1, w2, w3, ?_⟩, (F _ _ (by omega) (by omega)).trans z0, (F _ _ (by omega) (by omega)).trans z1, (F _ _ (by omega) (by omega)).trans z2, (F _ _ (by omega) (by omega)).trans z3, (F (T + 18) 0 (by omega) (by omega)).trans z4, ?_, (F (T + 24) 0 (by omega) (by omega)).trans z6⟩, fun r hr => ?_, fun m hm => ?_, fun m hm => ?_, fun s hs => ?_, fun v hv => ?_, ?_⟩
      · show c 4 + m + c 6 ≤ 64
        omega
      · exact e3
      · rw [F _ _ (by omega) (by omega), F _ _ (by omega) (by omega), F _ _ (by omega) (by omega), F _ _ (by omega) (by omega)]; exact q1 r hr
      · rw [F _ _ (by omega) (by omega)]; exact q2 m hm
      · rw [F _ _ (by omega) (by omega)]; exact q3 m hm
      · rw [F _ _ (by omega) (by omega)]; exact q4 s hs
      · rw [F _ _ (by omega) (by omega), F _ _ (by omega) (by omega), F _ _ (by omega) (by omega)]; exact q5 v hv
      · rw [F _ _ (by omega) (by omega)]; exact q6
theorem tri_lw6 {I : hI} {T st : Nat} {c : Nat → Nat} (hT : T = 9 ∨ T = 36) (t : tri I T st c) : kL T I (k_lwr1 I (T + 24) (c 4 + c 5 + c 6)).2 ∧ ((k_lwr1 I (T + 24) (c 4 + c 5 + c 6)).1 = 0 ∨ ∃ c', tri (k_lwr1 I (T + 24) (c 4 + c 5 + c 6)).2 T st c') := by
  unfold k_lwr1; split
  · exact ⟨kL_bl (by omega), Or.inl rfl⟩
  · rename_i h
    obtain ⟨k, ⟨z, z0, z1, z2, z3, z4, z5, z6⟩, q1, q2, q3, q4, q5, q6⟩ := t
    obtain ⟨w0, w1, w2, w3, w4⟩ := z
    obtain ⟨p, hp, hp2⟩ := okn_E k.2.2
    obtain ⟨g, e⟩ := k_rdI_e (I := I) (c := c 4 + c 5 + c 6) (lwA_T24 hT) k.1 k.2.1 hp hp2 (am_zer z6 (by omega) h) w4
    revert g e
    generalize k_rdI I (T + 24) (c 4 + c 5 + c 6) = P
    intro g e
    have F : ∀ b i, T ≤ b → (b < T + 24 ∨ T + 26 < b) → P.2 b i = I b i := fun b i a1 a2 => congrFun (g.1 b (by omega) (by omega) (by omega) (by omega) (by omega)) i
    refine ⟨⟨fun b h1 h2 h3 h4 h5 h6 => g.1 b h2 h3 h4 h5 (by omega), fun y m hm => by rw [F _ _ (by omega) (by omega)]; exact y m hm⟩, ?_⟩
    rcases e with e | ⟨e1, e2, m, e3, e4⟩
    · exact Or.inl e
    · refine Or.inr ⟨fun i => if i = 6 then m else c i, ⟨k.1, g.2.trans k.2.1, e1⟩, ⟨⟨w0, w1, w2, w3, ?_⟩, (F _ _ (by omega) (by omega)).trans z0, (F _ _ (by omega) (by omega)).trans z1, (F _ _ (by omega) (by omega)).trans z2, (F _ _ (by omega) (by omega)).trans z3, (F (T + 18) 0 (by omega) (by omega)).trans z4, (F (T + 21) 0 (by omega) (by omega)).trans z5, ?_⟩, fun r hr => ?_, fun m hm => ?_, fun m hm => ?_, fun s hs => ?_, fun v hv => ?_, ?_⟩
      · show c 4 + c 5 + m ≤ 64
        omega
      · exact e3
      · rw [F _ _ (by omega) (by omega), F _ _ (by omega) (by omega), F _ _ (by omega) (by omega), F _ _ (by omega) (by omega)]; exact q1 r hr
      · rw [F _ _ (by omega) (by omega)]; exact q2 m hm
      · rw [F _ _ (by omega) (by omega)]; exact q3 m hm
      · rw [F _ _ (by omega) (by omega)]; exact q4 s hs
      · rw [F _ _ (by omega) (by omega), F _ _ (by omega) (by omega), F _ _ (by omega) (by omega)]; exact q5 v hv
      · rw [F _ _ (by omega) (by omega)]; exact q6
theorem tri_lw {I : hI} {T st : Nat} {c : Nat → Nat} (hT : T = 9 ∨ T = 36) (t : tri I T st c) : kL T I (k_lwr I T (c 4 + c 5 + c 6)).2 ∧ ((k_lwr I T (c 4 + c 5 + c 6)).1 = 0 ∨ ∃ c', tri (k_lwr I T (c 4 + c 5 + c 6)).2 T st c') := by
  have t1 := tri_tok hT t
  have l1 : kL T I (u_tok I) := kL_tok (by omega)
  unfold k_lwr; repeat' split
  · have := tri_lw4 hT t1; exact ⟨kL_tr l1 this.1, this.2⟩
  · have := tri_lw5 hT t1; exact ⟨kL_tr l1 this.1, this.2⟩
  · have := tri_lw6 hT t1; exact ⟨kL_tr l1 this.1, this.2⟩
  · exact ⟨kL_tr l1 (kL_bl (by omega)), Or.inl rfl⟩
def cI (I : hI) (T : Nat) (i : Nat) : Nat := if i = 0 then nn (I (T + 1) 1) else if i = 1 then nn (I (T + 5) 1) else if i = 2 then nn (I (T + 11) 1) else if i = 3 then nn (I T 11) else if i = 4 then nn (I (T + 18) 0) else if i = 5 then nn (I (T + 21) 0) else nn (I (T + 24) 0)
def k_one (I : hI) (T : Nat) (c : Nat → Nat) : Int32 × hI := if I 3 4 = Int32.ofNat 17 then k_lwr I T (c 4 + c 5 + c 6) else k_bd (k_line I T c) k_semi
theorem k_one_l {I : hI} {T : Nat} {c : Nat → Nat} (h : I 3 4 = Int32.ofNat 17) : k_one I T c = k_lwr I T (c 4 + c 5 + c 6) := if_pos h
theorem k_one_0 {I : hI} {T : Nat} {c : Nat → Nat} (h : ¬ I 3 4 = Int32.ofNat 17) (g : (k_line I T c).1 = 0) : k_one I T c = k_line I T c := (if_neg h).trans (k_bd0 g)
theorem k_one_s {I : hI} {T : Nat} {c : Nat → Nat} (h : ¬ I 3 4 = Int32.ofNat 17) (g : ¬ (k_line I T c).1 = 0) : k_one I T c = k_semi (k_line I T c).2 := (if_neg h).trans (k_bd1 g)
theorem cI_e {I : hI} {T : Nat} {c : Nat → Nat} (z : tsz I T c) : cI I T 0 = c 0 ∧ cI I T 1 = c 1 ∧ cI I T 2 = c 2 ∧ cI I T 3 = c 3 ∧ cI I T 4 = c 4 ∧ cI I T 5 = c 5 ∧ cI I T 6 = c 6 := by
  obtain ⟨⟨w0, w1, w2, w3, w4⟩, z0, z1, z2, z3, z4, z5, z6⟩ := z
  exact ⟨nn_E z0 (by omega), nn_E z1 (by omega), nn_E z2 (by omega), nn_E z3 (by omega), nn_E z4 (by omega), nn_E z5 (by omega), nn_E z6 (by omega)⟩
theorem k_one_c {I : hI} {T : Nat} {c : Nat → Nat} (z : tsz I T c) : k_one I T (cI I T) = k_one I T c := by
  obtain ⟨e0, e1, e2, e3, e4, e5, e6⟩ := cI_e z
  unfold k_one k_line
  rw [e0, e1, e2, e3, e4, e5, e6]
def k_all (T : Nat) : Nat → hI → Int32 × hI
  | 0, I => (1, I)
  | j + 1, I => if u_tok I 3 4 = 0 then (1, u_tok I) else k_bd (k_one (u_tok I) T (cI (u_tok I) T)) fun I => k_all T j (am_u I T 0 (I T 0 + Int32.ofNat 1))
theorem k_all_e {T j : Nat} {I : hI} (h : u_tok I 3 4 = 0) : k_all T (j + 1) I = (1, u_tok I) := if_pos h
theorem k_all_0 {T j : Nat} {I : hI} {p : Int32 × hI} (h : ¬ u_tok I 3 4 = 0) (hp : k_one (u_tok I) T (cI (u_tok I) T) = p) (g : p.1 = 0) : k_all T (j + 1) I = p := by
  subst hp; exact (if_neg h).trans (k_bd0 g)
theorem k_all_1 {T j : Nat} {I : hI} {p : Int32 × hI} (h : ¬ u_tok I 3 4 = 0) (hp : k_one (u_tok I) T (cI (u_tok I) T) = p) (g : ¬ p.1 = 0) : k_all T (j + 1) I = k_all T j (am_u p.2 T 0 (p.2 T 0 + Int32.ofNat 1)) := by
  subst hp; exact (if_neg h).trans (k_bd1 g)
theorem tri_ln {I : hI} {T st : Nat} {c : Nat → Nat} {x : Int32} (hT : T = 9 ∨ T = 36) (t : tri I T st c) : tri (am_u I T 0 x) T st c := by
  obtain ⟨k, ⟨z, z0, z1, z2, z3, z4, z5, z6⟩, q1, q2, q3, q4, q5, q6⟩ := t
  have F : ∀ b i, b ≠ T → am_u I T 0 x b i = I b i := fun b i a => am_u_na a
  refine ⟨tks_u (by omega) k, ⟨z, (F _ _ (by omega)).trans z0, (F _ _ (by omega)).trans z1, (F _ _ (by omega)).trans z2, (am_u_nk (by decide)).trans z3, (F _ _ (by omega)).trans z4, (F _ _ (by omega)).trans z5, (F _ _ (by omega)).trans z6⟩, fun r hr => ?_, fun m hm => ?_, fun m hm => ?_, fun s hs => ?_, fun v hv => ?_, ?_⟩
  · rw [F _ _ (by omega), F _ _ (by omega), F _ _ (by omega), F _ _ (by omega)]; exact q1 r hr
  · rw [F _ _ (by omega)]; exact q2 m hm
  · rw [F _ _ (by omega)]; exact q3 m hm
  · rw [F _ _ (by omega)]; exact q4 s hs
  · rw [F _ _ (by omega), F _ _ (by omega), F _ _ (by omega)]; exact q5 v hv
  · rw [am_u_nk (by decide)]; exact q6
theorem k_all_t {T st : Nat} (hT : T = 9 ∨ T = 36) : ∀ (j : Nat) (I : hI) (c : Nat → Nat), tri I T st c → kL T I (k_all T j I).2 ∧ ((k_all T j I).1 = 0 ∨ ∃ c', tri (k_all T j I).2 T st c') := by
  intro j
  induction j with
  | zero => intro I c t; exact ⟨kL_rf T I, Or.inr ⟨c, t⟩⟩
  | succ j ih =>
    intro I c t
    have t1 := tri_tok hT t
    have l1 : kL T I (u_tok I) := kL_tok (by omega)
    by_cases h : u_tok I 3 4 = 0
    · rw [k_all_e h]; exact ⟨l1, Or.inr ⟨c, t1⟩⟩
    · have g : kL T (u_tok I) (k_one (u_tok I) T c).2 ∧ ((k_one (u_tok I) T c).1 = 0 ∨ ∃ c', tri (k_one (u_tok I) T c).2 T st c') := by
        by_cases a : u_tok I 3 4 = Int32.ofNat 17
        · rw [k_one_l a]; exact tri_lw hT t1
        · by_cases b : (k_line (u_tok I) T c).1 = 0
          · rw [k_one_0 a b]; exact ⟨kL_line (by omega), Or.inl b⟩
          · rw [k_one_s a b]
            obtain ⟨c', t'⟩ := (tri_line hT t1).resolve_left b
            exact ⟨kL_tr (kL_line (by omega)) (kL_semi (by omega)), Or.inr ⟨c', tri_semi hT t'⟩⟩
      have e := k_one_c t1.2.1
      by_cases b : (k_one (u_tok I) T c).1 = 0
      · rw [k_all_0 h e b]; exact ⟨kL_tr l1 g.1, Or.inl b⟩
      · rw [k_all_1 h e b]
        obtain ⟨c', t'⟩ := g.2.resolve_left b
        have := ih (am_u (k_one (u_tok I) T c).2 T 0 ((k_one (u_tok I) T c).2 T 0 + Int32.ofNat 1)) c' (tri_ln hT t')
        exact ⟨kL_tr l1 (kL_tr g.1 (kL_tr (kL_u (by omega) (by omega)) this.1)), this.2⟩
theorem l_readAll {k : Nat} {J : hJ} {R : hR} {T st : Nat} (hT : T = 9 ∨ T = 36) (hB : R 3 1 = 1) (h2 : R 2 2 = T) (hk : 6 ≤ k) : ∀ (j r : Nat) (u : Value) (I : hI) (c : Nat → Nat), r + j = st + 1 → tri I T st c → wz k 8 (some .boolean) am_c76 28 [.ref 2, .ref 1, .int (Int32.ofNat st), .int (Int32.ofNat r), u] [] I J R (some (.int (k_all T j I).1), am_hp (k_all T j I).2 J R) := by
  intro j
  induction j with
  | zero =>
    intro r u I c e t
    have hs := t.1.1
    refine w_iload_n rfl rfl rfl ?_
    refine w_iload_n rfl rfl rfl ?_
    refine w_ic_gtN (t := 118) (f := 33) rfl rfl rfl (by omega) (by omega) (fun c30 => ?_) (fun c30 => absurd c30 (by omega))
    refine w_iconst (x := Int32.ofNat 1) rfl rfl (by decide) ?_
    exact w_bret rfl (by decide) rfl rfl rfl rfl
  | succ j ih =>
    intro r u I c e t
    have hs := t.1.1
    have t1 := tri_tok hT t
    have ec := k_one_c t1.2.1
    refine w_iload_n rfl rfl rfl ?_
    refine w_iload_n rfl rfl rfl ?_
    refine w_ic_gtN (t := 118) (f := 33) rfl rfl rfl (by omega) (by omega) (fun c30 => absurd c30 (by omega)) (fun c30 => ?_)
    refine w_aload_n rfl rfl rfl ?_
    refine w_gf (t := .ref (3)) (v := .ref (3)) rfl rfl rfl sp2 rfl rfl rfl ?_
    refine w_cv (q := am_m93) (as := []) (rest := []) (st' := []) rfl rfl rfl rfl rfl rfl sp3 rfl rfl rfl rfl (d_tokS t.1 hB (by omega)) rfl rfl ?_
    refine w_aload_n rfl rfl rfl ?_
    refine w_gf (t := .ref (3)) (v := .ref (3)) rfl rfl rfl sp2 rfl rfl rfl ?_
    refine w_gf (t := .int 0) (v := .int _) rfl rfl rfl sp3 rfl (congrArg Value.int rfl) rfl ?_
    refine w_if_ne (t := 52) (f := 50) rfl rfl rfl (fun c47 => ?_) (fun c47 => ?_)
    · refine w_aload_n rfl rfl rfl ?_
      refine w_gf (t := .ref (3)) (v := .ref (3)) rfl rfl rfl sp2 rfl rfl rfl ?_
      refine w_gf (t := .int 0) (v := .int _) rfl rfl rfl sp3 rfl (congrArg Value.int rfl) rfl ?_
      refine w_bipush (x := Int32.ofNat 17) rfl rfl (by decide) ?_
      refine w_ic_ne (t := 71) (f := 64) rfl rfl rfl (fun c61 => ?_) (fun c61 => ?_)
      · refine w_aload_n rfl rfl rfl ?_
        refine w_cv (q := am_m77) (as := []) (rest := []) (st' := [_]) rfl rfl rfl rfl rfl rfl sp2 rfl rfl rfl rfl (d_readLine hT t1.1 hB h2 t1.2.1 (by omega)) rfl rfl ?_
        refine w_if_eq (t := 89) (f := 78) rfl rfl rfl (fun c75 => ?_) (fun c75 => ?_)
        · refine w_iconst (x := Int32.ofNat 0) rfl rfl (by decide) ?_
          refine w_istore (L' := [_, _, _, _, _]) rfl rfl rfl ?_
          refine w_iload rfl rfl rfl ?_
          refine w_if_ne (t := 99) (f := 97) rfl rfl rfl (fun c94 => absurd c94 (by decide)) (fun c94 => ?_)
          clear c94
          refine w_iconst (x := Int32.ofNat 0) rfl rfl (by decide) ?_
          exact w_bret rfl (by decide) (by first | (rw [k_all_e c47] <;> rfl) | (rw [k_all_0 c47 (ec.trans (k_one_l c61)) c94] <;> exact c94.symm) | (rw [k_all_0 c47 (ec.trans (k_one_0 c61 c75)) c75] <;> exact c75.symm) | (rw [k_all_0 c47 (ec.trans (k_one_s c61 c75)) c82] <;> exact c82.symm)) (by first | rw [k_all_e c47] | rw [k_all_0 c47 (ec.trans (k_one_l c61)) c94] | rw [k_all_0 c47 (ec.trans (k_one_0 c61 c75)) c75] | rw [k_all_0 c47 (ec.trans (k_one_s c61 c75)) c82]) rfl rfl
        · obtain ⟨c2, t2⟩ := (tri_line hT t1).resolve_left c75
          refine w_aload_n rfl rfl rfl ?_
          refine w_cv (q := am_m89) (as := []) (rest := []) (st' := [_]) rfl rfl rfl rfl rfl rfl sp2 rfl rfl rfl rfl (d_readSemicolon t2.1 hB (by omega)) rfl rfl ?_
          refine w_if_eq (t := 89) (f := 85) rfl rfl rfl (fun c82 => ?_) (fun c82 => ?_)
          · refine w_iconst (x := Int32.ofNat 0) rfl rfl (by decide) ?_
            refine w_istore (L' := [_, _, _, _, _]) rfl rfl rfl ?_
            refine w_iload rfl rfl rfl ?_
            refine w_if_ne (t := 99) (f := 97) rfl rfl rfl (fun c94 => absurd c94 (by decide)) (fun c94 => ?_)
            clear c94
            refine w_iconst (x := Int32.ofNat 0) rfl rfl (by decide) ?_
            exact w_bret rfl (by decide) (by first | (rw [k_all_e c47] <;> rfl) | (rw [k_all_0 c47 (ec.trans (k_one_l c61)) c94] <;> exact c94.symm) | (rw [k_all_0 c47 (ec.trans (k_one_0 c61 c75)) c75] <;> exact c75.symm) | (rw [k_all_0 c47 (ec.trans (k_one_s c61 c75)) c82] <;> exact c82.symm)) (by first | rw [k_all_e c47] | rw [k_all_0 c47 (ec.trans (k_one_l c61)) c94] | rw [k_all_0 c47 (ec.trans (k_one_0 c61 c75)) c75] | rw [k_all_0 c47 (ec.trans (k_one_s c61 c75)) c82]) rfl rfl
          · refine w_iconst (x := Int32.ofNat 1) rfl rfl (by decide) ?_
            refine w_goto (pc' := 90) rfl rfl ?_
            refine w_istore (L' := [_, _, _, _, _]) rfl rfl rfl ?_
            refine w_iload rfl rfl rfl ?_
            refine w_if_ne (t := 99) (f := 97) rfl rfl rfl (fun c94 => ?_) (fun c94 => absurd c94 (by decide))
            clear c94
            refine w_aload_n rfl rfl rfl ?_
            refine w_gf (t := .retAddr 0) (v := .ref (T)) rfl rfl rfl sp2 rfl (congrArg Value.ref h2) rfl ?_
            refine w_dup rfl rfl rfl ?_
            refine w_gf (t := .int 0) (v := .int _) rfl rfl rfl (shT_0 hT) rfl (congrArg Value.int rfl) rfl ?_
            refine w_iconst (x := Int32.ofNat 1) rfl rfl (by decide) ?_
            refine w_iadd rfl rfl ?_
            refine w_pf rfl rfl rfl (shT_0 hT) rfl rfl rfl ?_
            refine w_iinc (L' := [_, _, _, _, _]) rfl rfl rfl (am_incN 1) rfl ?_
            refine w_goto (pc' := 28) rfl rfl ?_
            first
              | (rw [k_all_1 c47 (ec.trans (k_one_l c61)) c94]; obtain ⟨c', t'⟩ := (tri_lw hT t1).2.resolve_left c94; exact ih (r + 1) _ _ c' (by omega) (tri_ln hT t'))
              | (rw [k_all_1 c47 (ec.trans (k_one_s c61 c75)) c82]; exact ih (r + 1) _ _ c2 (by omega) (tri_ln hT (tri_semi hT t2)))
      · refine w_aload_n rfl rfl rfl ?_
        refine w_cv (q := am_m85) (as := []) (rest := []) (st' := [_]) rfl rfl rfl rfl rfl rfl sp2 rfl rfl rfl rfl (d_readLaw hT t1.1 hB h2 t1.2.1.2.2.2.2.2.1 t1.2.1.2.2.2.2.2.2.1 t1.2.1.2.2.2.2.2.2.2 t1.2.1.1.2.2.2.2 (by omega)) rfl rfl ?_
        refine w_goto (pc' := 90) rfl rfl ?_
        refine w_istore (L' := [_, _, _, _, _]) rfl rfl rfl ?_
        refine w_iload rfl rfl rfl ?_
        refine w_if_ne (t := 99) (f := 97) rfl rfl rfl (fun c94 => ?_) (fun c94 => ?_)
        · refine w_aload_n rfl rfl rfl ?_
          refine w_gf (t := .retAddr 0) (v := .ref (T)) rfl rfl rfl sp2 rfl (congrArg Value.ref h2) rfl ?_
          refine w_dup rfl rfl rfl ?_
          refine w_gf (t := .int 0) (v := .int _) rfl rfl rfl (shT_0 hT) rfl (congrArg Value.int rfl) rfl ?_
          refine w_iconst (x := Int32.ofNat 1) rfl rfl (by decide) ?_
          refine w_iadd rfl rfl ?_
          refine w_pf rfl rfl rfl (shT_0 hT) rfl rfl rfl ?_
          refine w_iinc (L' := [_, _, _, _, _]) rfl rfl rfl (am_incN 1) rfl ?_
          refine w_goto (pc' := 28) rfl rfl ?_
          first
            | (rw [k_all_1 c47 (ec.trans (k_one_l c61)) c94]; obtain ⟨c', t'⟩ := (tri_lw hT t1).2.resolve_left c94; exact ih (r + 1) _ _ c' (by omega) (tri_ln hT t'))
            | (rw [k_all_1 c47 (ec.trans (k_one_s c61 c75)) c82]; exact ih (r + 1) _ _ c2 (by omega) (tri_ln hT (tri_semi hT t2)))
        · refine w_iconst (x := Int32.ofNat 0) rfl rfl (by decide) ?_
          exact w_bret rfl (by decide) (by first | (rw [k_all_e c47] <;> rfl) | (rw [k_all_0 c47 (ec.trans (k_one_l c61)) c94] <;> exact c94.symm) | (rw [k_all_0 c47 (ec.trans (k_one_0 c61 c75)) c75] <;> exact c75.symm) | (rw [k_all_0 c47 (ec.trans (k_one_s c61 c75)) c82] <;> exact c82.symm)) (by first | rw [k_all_e c47] | rw [k_all_0 c47 (ec.trans (k_one_l c61)) c94] | rw [k_all_0 c47 (ec.trans (k_one_0 c61 c75)) c75] | rw [k_all_0 c47 (ec.trans (k_one_s c61 c75)) c82]) rfl rfl
    · refine w_iconst (x := Int32.ofNat 1) rfl rfl (by decide) ?_
      exact w_bret rfl (by decide) (by first | (rw [k_all_e c47] <;> rfl) | (rw [k_all_0 c47 (ec.trans (k_one_l c61)) c94] <;> exact c94.symm) | (rw [k_all_0 c47 (ec.trans (k_one_0 c61 c75)) c75] <;> exact c75.symm) | (rw [k_all_0 c47 (ec.trans (k_one_s c61 c75)) c82] <;> exact c82.symm)) (by first | rw [k_all_e c47] | rw [k_all_0 c47 (ec.trans (k_one_l c61)) c94] | rw [k_all_0 c47 (ec.trans (k_one_0 c61 c75)) c75] | rw [k_all_0 c47 (ec.trans (k_one_s c61 c75)) c82]) rfl rfl
def k_tx0 (I : hI) (T n : Nat) : hI := u_bg (am_u (am_u (k_clr I T) 2 3 (Int32.ofNat 0)) 2 4 (Int32.ofNat 0)) n
def k_txt (I : hI) (T n : Nat) : Int32 × hI := k_all T (n + 1) (k_tx0 I T n)
theorem k_tx0_f {I : hI} {T n : Nat} (hT : T = 9 ∨ T = 36) : kL T I (k_tx0 I T n) := by
  have h9 : 9 ≤ T := by omega
  have b3 : ∀ {I : hI} {j : Nat} {x : Int32}, kL T I (am_u I 3 j x) := fun {I j x} => kL_of h9 fun b h => am_u_ne h
  unfold k_tx0 u_bg k_clr
  refine kL_tr (kL_tr (kL_tr (kL_tr (kL_tr (kL_tr ?_ (kL_u h9 (by omega))) (kL_u h9 (by omega))) b3) b3) b3) b3
  exact kL_tr (kL_tr (kL_tr (kL_tr (kL_tr (kL_tr (kL_tr (kL_tr (kL_tr (kL_tr (kL_u h9 (by omega)) (kL_u h9 (by omega))) (kL_u h9 (by omega))) (kL_u h9 (by omega))) (kL_u h9 (by omega))) (kL_u h9 (by omega))) (kL_u h9 (by omega))) (kL_u h9 (by omega))) (kL_u h9 (by omega))) (kL_u h9 (by omega))) (kL_u h9 (by omega))
theorem k_tx0_t {I : hI} {T n : Nat} (hT : T = 9 ∨ T = 36) (hn : n ≤ 700) (h : thk I T) : tri (k_tx0 I T n) T n (fun _ => 0) := by
  have e : ∀ b i, b ≠ 2 → b ≠ 3 → k_tx0 I T n b i = k_clr I T b i := fun b i h2 h3 => (am_u_na h3).trans ((am_u_na h3).trans ((am_u_na h3).trans ((am_u_na h3).trans ((am_u_na h2).trans (am_u_na h2)))))
  have cl : ∀ b i, (b = T + 1 ∧ i = 1) ∨ (b = T + 5 ∧ i = 1) ∨ (b = T + 11 ∧ i = 1) ∨ (b = T ∧ i = 11) ∨ (b = T ∧ i = 16) ∨ (b = T + 18 ∧ i = 0) ∨ (b = T + 21 ∧ i = 0) ∨ (b = T + 24 ∧ i = 0) → k_clr I T b i = Int32.ofNat 0 := by
    intro b i hb
    rcases hb with ⟨rfl, rfl⟩ | ⟨rfl, rfl⟩ | ⟨rfl, rfl⟩ | ⟨rfl, rfl⟩ | ⟨rfl, rfl⟩ | ⟨rfl, rfl⟩ | ⟨rfl, rfl⟩ | ⟨rfl, rfl⟩ <;> simp +decide [k_clr, am_u]
  have zz : ∀ b i, (b = T + 1 ∧ i = 1) ∨ (b = T + 5 ∧ i = 1) ∨ (b = T + 11 ∧ i = 1) ∨ (b = T ∧ i = 11) ∨ (b = T ∧ i = 16) ∨ (b = T + 18 ∧ i = 0) ∨ (b = T + 21 ∧ i = 0) ∨ (b = T + 24 ∧ i = 0) → k_tx0 I T n b i = Int32.ofNat 0 := fun b i hb => (e b i (by omega) (by omega)).trans (cl b i hb)
  refine ⟨⟨hn, ?_, okn_N (n := 0) ?_ (by omega) (by omega)⟩, ⟨⟨Nat.zero_le _, Nat.zero_le _, Nat.zero_le _, Nat.zero_le _, by decide⟩, zz _ _ (by omega), zz _ _ (by omega), zz _ _ (by omega), zz _ _ (by omega), zz _ _ (by omega), zz _ _ (by omega), zz _ _ (by omega)⟩, fun r hr => absurd hr (Nat.not_lt_zero r), (k_tx0_f hT).2 h, fun r hr => absurd hr (Nat.not_lt_zero r), fun r hr => absurd hr (Nat.not_lt_zero r), fun r hr => absurd hr (Nat.not_lt_zero r), okn_N (zz _ _ (by omega)) (by omega) (by omega)⟩
  · simp +decide [k_tx0, u_bg, am_u]
  · simp +decide [k_tx0, u_bg, am_u]
theorem k_txt_e {I : hI} {T n : Nat} (hT : T = 9 ∨ T = 36) (hn : n ≤ 700) (h : thk I T) : kL T I (k_txt I T n).2 ∧ ((k_txt I T n).1 = 0 ∨ ∃ c, tri (k_txt I T n).2 T n c) := by
  have g := k_all_t hT (n + 1) (k_tx0 I T n) _ (k_tx0_t hT hn h)
  exact ⟨kL_tr (k_tx0_f hT) g.1, g.2⟩
theorem d_readAll {k : Nat} {I : hI} {J : hJ} {R : hR} {T : Nat} (hT : T = 9 ∨ T = 36) (h2 : R 2 2 = T) {n : Nat} (hn : n ≤ 700) (h : thk I T) (hk : 7 ≤ k) : ct k 76 [.ref 2, .ref 1, .int (Int32.ofNat n)] I J R (some (.int (k_txt I T n).1)) ((k_txt I T n).2) J (am_u R 3 1 1) := by
  obtain ⟨k, rfl⟩ : ∃ k', k = k' + 1 := ⟨k - 1, by omega⟩
  refine ct_of (q := am_m76) (o := 8) (rt := (some .boolean)) (co := am_c76) (L := [_, _, _, _, _]) rfl rfl rfl rfl rfl rfl ?_
  refine w_aload_n rfl rfl rfl ?_
  refine w_gf (t := .retAddr 0) (v := .ref (T)) rfl rfl rfl sp2 rfl (congrArg Value.ref h2) rfl ?_
  refine w_cv (q := am_m103) (as := []) (rest := []) (st' := []) rfl rfl rfl rfl rfl rfl (shT_0 hT) rfl rfl rfl rfl (d_clear hT (by omega)) rfl rfl ?_
  refine w_aload_n rfl rfl rfl ?_
  refine w_iconst (x := Int32.ofNat 0) rfl rfl (by decide) ?_
  refine w_pf rfl rfl rfl sp2 rfl rfl rfl ?_
  refine w_aload_n rfl rfl rfl ?_
  refine w_iconst (x := Int32.ofNat 0) rfl rfl (by decide) ?_
  refine w_pf rfl rfl rfl sp2 rfl rfl rfl ?_
  refine w_aload_n rfl rfl rfl ?_
  refine w_gf (t := .ref (3)) (v := .ref (3)) rfl rfl rfl sp2 rfl rfl rfl ?_
  refine w_aload_n rfl rfl rfl ?_
  refine w_iload_n rfl rfl rfl ?_
  refine w_cv (q := am_m91) (as := [_, _]) (rest := []) (st' := []) rfl rfl rfl rfl rfl rfl sp3 rfl rfl rfl rfl (d_tbegin hn (by omega)) rfl rfl ?_
  refine w_iconst (x := Int32.ofNat 0) rfl rfl (by decide) ?_
  refine w_istore_n (L' := [_, _, _, _, _]) rfl rfl rfl ?_
  exact l_readAll hT am_u_at ((am_u_na (by decide)).trans h2) (by omega) (n + 1) 0 _ _ _ (by omega) (k_tx0_t hT hn h)
