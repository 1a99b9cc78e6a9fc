/-! The reference: reading by tokens. -/
def m_wr (I : hI) (x : Int32) : hI := am_u (am_u I 110 4 x) 110 5 (I 110 10)
theorem c_wrong {k : Nat} {I : hI} {J : hJ} {R : hR} {x : Int32} (hk : 1 ≤ k) : ct k 170 [.ref 110, .int x] I J R (some (.int 0)) (m_wr I x) J R := by
  obtain ⟨k, rfl⟩ : ∃ k', k = k' + 1 := ⟨k - 1, by omega⟩
  refine ct_of (q := am_m170) (L := [_, _]) rfl rfl rfl rfl rfl rfl ?_
  refine w_aload_n rfl rfl rfl ?_
  refine w_iload_n rfl rfl rfl ?_
  refine w_pf rfl rfl rfl sp110 rfl rfl rfl ?_
  refine w_aload_n rfl rfl rfl ?_
  refine w_aload_n rfl rfl rfl ?_
  refine w_gf (t := .int 0) (v := .int _) rfl rfl rfl sp110 rfl (congrArg Value.int (am_u_nk (by decide))) rfl ?_
  refine w_pf rfl rfl rfl sp110 rfl rfl rfl ?_
  refine w_iconst (x := Int32.ofNat 0) rfl rfl (by decide) ?_
  exact w_bret rfl (by decide) rfl rfl rfl rfl
theorem c_isKey {k : Nat} {I : hI} {J : hJ} {R : hR} {x : Int32} (hk : 1 ≤ k) : ct k 177 [.ref 110, .int x] I J R (some (.int (if I 110 8 = Int32.ofNat 1 ∧ I 110 9 = x then 1 else 0))) I J R := by
  obtain ⟨k, rfl⟩ : ∃ k', k = k' + 1 := ⟨k - 1, by omega⟩
  refine ct_of (q := am_m177) (L := [_, _]) rfl rfl rfl rfl rfl rfl ?_
  refine w_aload_n rfl rfl rfl ?_
  refine w_gf (t := .int 0) (v := .int _) rfl rfl rfl sp110 rfl (congrArg Value.int rfl) rfl ?_
  refine w_iconst (x := Int32.ofNat 1) rfl rfl (by decide) ?_
  refine w_ic_ne (t := 20) (f := 8) rfl rfl rfl (fun c5 => ?_) (fun c5 => ?_)
  · refine w_iconst (x := Int32.ofNat 0) rfl rfl (by decide) ?_
    exact w_bret rfl (by decide) (by simp only [*, ite_true, ite_false, and_self, and_true, true_and, and_false, false_and, or_true, true_or, or_false, false_or, not_true, not_false_iff] <;> rfl) rfl rfl rfl
  · refine w_aload_n rfl rfl rfl ?_
    refine w_gf (t := .int 0) (v := .int _) rfl rfl rfl sp110 rfl (congrArg Value.int rfl) rfl ?_
    refine w_iload_n rfl rfl rfl ?_
    refine w_ic_ne (t := 20) (f := 16) rfl rfl rfl (fun c13 => ?_) (fun c13 => ?_)
    · refine w_iconst (x := Int32.ofNat 0) rfl rfl (by decide) ?_
      exact w_bret rfl (by decide) (by simp only [*, ite_true, ite_false, and_self, and_true, true_and, and_false, false_and, or_true, true_or, or_false, false_or, not_true, not_false_iff] <;> rfl) rfl rfl rfl
    · refine w_iconst (x := Int32.ofNat 1) rfl rfl (by decide) ?_
      refine w_goto (pc' := 21) rfl rfl ?_
      exact w_bret rfl (by decide) (by simp only [*, ite_true, ite_false, and_self, and_true, true_and, and_false, false_and, or_true, true_or, or_false, false_or, not_true, not_false_iff] <;> rfl) rfl rfl rfl
theorem c_isSign {k : Nat} {I : hI} {J : hJ} {R : hR} {x : Int32} (hk : 1 ≤ k) : ct k 178 [.ref 110, .int x] I J R (some (.int (if I 110 8 = Int32.ofNat 4 ∧ I 110 9 = x then 1 else 0))) I J R := by
  obtain ⟨k, rfl⟩ : ∃ k', k = k' + 1 := ⟨k - 1, by omega⟩
  refine ct_of (q := am_m178) (L := [_, _]) rfl rfl rfl rfl rfl rfl ?_
  refine w_aload_n rfl rfl rfl ?_
  refine w_gf (t := .int 0) (v := .int _) rfl rfl rfl sp110 rfl (congrArg Value.int rfl) rfl ?_
  refine w_iconst (x := Int32.ofNat 4) rfl rfl (by decide) ?_
  refine w_ic_ne (t := 20) (f := 8) rfl rfl rfl (fun c5 => ?_) (fun c5 => ?_)
  · refine w_iconst (x := Int32.ofNat 0) rfl rfl (by decide) ?_
    exact w_bret rfl (by decide) (by simp only [*, ite_true, ite_false, and_self, and_true, true_and, and_false, false_and, or_true, true_or, or_false, false_or, not_true, not_false_iff] <;> rfl) rfl rfl rfl
  · refine w_aload_n rfl rfl rfl ?_
    refine w_gf (t := .int 0) (v := .int _) rfl rfl rfl sp110 rfl (congrArg Value.int rfl) rfl ?_
    refine w_iload_n rfl rfl rfl ?_
    refine w_ic_ne (t := 20) (f := 16) rfl rfl rfl (fun c13 => ?_) (fun c13 => ?_)
    · refine w_iconst (x := Int32.ofNat 0) rfl rfl (by decide) ?_
      exact w_bret rfl (by decide) (by simp only [*, ite_true, ite_false, and_self, and_true, true_and, and_false, false_and, or_true, true_or, or_false, false_or, not_true, not_false_iff] <;> rfl) rfl rfl rfl
    · refine w_iconst (x := Int32.ofNat 1) rfl rfl (by decide) ?_
      refine w_goto (pc' := 21) rfl rfl ?_
      exact w_bret rfl (by decide) (by simp only [*, ite_true, ite_false, and_self, and_true, true_and, and_false, false_and, or_true, true_or, or_false, false_or, not_true, not_false_iff] <;> rfl) rfl rfl rfl
/-- reading is under way: the text, the words, where it stops, where the next token is looked for -/
def pv (I : hI) (f : Nat → Int32) (st : Nat) : Prop := I 111 = f ∧ (∀ i, i < 106 → I 112 i = Int32.ofNat (wd i)) ∧ I 110 6 = Int32.ofNat st ∧ st ≤ 700 ∧ okn (I 110 7) (st + 1)
theorem pv_c {I I' : hI} {f : Nat → Int32} {st : Nat} (h : ∀ a i, a = 111 ∨ a = 112 ∨ (a = 110 ∧ (i = 6 ∨ i = 7)) → I' a i = I a i) (g : pv I f st) : pv I' f st := by
  obtain ⟨g1, g2, g3, g4, g5⟩ := g
  refine ⟨?_, fun i hi => ?_, ?_, g4, ?_⟩
  · funext i; rw [h 111 i (by omega), g1]
  · rw [h 112 i (by omega)]; exact g2 i hi
  · rw [h 110 6 (by omega)]; exact g3
  · rw [h 110 7 (by omega)]; exact g5
theorem pv_u {I : hI} {f : Nat → Int32} {st a k : Nat} {x : Int32} (h1 : a ≠ 111 ∧ a ≠ 112) (h2 : a = 110 → k ≠ 6 ∧ k ≠ 7) (g : pv I f st) : pv (am_u I a k x) f st := pv_c (fun b i z => by unfold am_u; rw [if_neg (by omega)]) g
def m_tok (I : hI) : hI := m_tk I (I 111) (nn (I 110 6)) (nn (I 110 7))
theorem sgn_le {f : Nat → Int32} {st p : Nat} (h : p < st) : (sgn f st p).1 ≤ st := by
  unfold sgn sgT
  repeat' split
  all_goals first | omega | skip
  all_goals (rename_i h1; exact absurd h1 (by decide))
theorem t_at_le {f : Nat → Int32} {st p : Nat} (h : p ≤ st) : p ≤ t_at f st p ∧ t_at f st p ≤ st := by
  have := t_sk_le f (st - p) p
  unfold t_at
  omega
theorem t_one_le {f : Nat → Int32} {st a : Nat} {w : Int32} (h : a ≤ st) : (t_one f st a w).1 ≤ st := by
  have h1 := t_w_le f st (st - a) a
  have h2 := t_d_le f st (st - a) a (Int32.ofNat 0)
  unfold t_one
  split
  · exact h
  · split
    · repeat' split
      all_goals (dsimp only; omega)
    · split
      · dsimp only; omega
      · exact sgn_le (by omega)
theorem m_tk_f {I : hI} {f : Nat → Int32} {st p a i : Nat} (h : ¬ (a = 110 ∧ 7 ≤ i ∧ i ≤ 10)) : m_tk I f st p a i = I a i := by
  unfold m_tk m_t3 am_u
  rw [if_neg (by omega), if_neg (by omega), if_neg (by omega), if_neg (by omega)]
theorem m_tok_f {I : hI} {a i : Nat} (h : ¬ (a = 110 ∧ 7 ≤ i ∧ i ≤ 10)) : m_tok I a i = I a i := m_tk_f h
theorem pv_nn {I : hI} {f : Nat → Int32} {st : Nat} (g : pv I f st) : nn (I 110 6) = st := by
  rw [g.2.2.1, nn_ofNat (by have := g.2.2.2.1; omega)]
theorem pv_tok {I : hI} {f : Nat → Int32} {st : Nat} (g : pv I f st) : pv (m_tok I) f st := by
  have e6 := pv_nn g
  have g5 := g.2.2.2.2
  refine ⟨?_, fun i hi => ?_, ?_, g.2.2.2.1, ?_⟩
  · funext i; rw [m_tok_f (by omega)]; exact congrFun g.1 i
  · rw [m_tok_f (by omega)]; exact g.2.1 i hi
  · rw [m_tok_f (by omega)]; exact g.2.2.1
  · have hle : (t_one (I 111) st (t_at (I 111) st (nn (I 110 7))) (I 110 9)).1 ≤ st := t_one_le (t_at_le (by have := g5.2; omega)).2
    have e7 : m_tok I 110 7 = Int32.ofNat (t_one (I 111) st (t_at (I 111) st (nn (I 110 7))) (I 110 9)).1 := by
      unfold m_tok m_tk m_t3
      rw [e6, if_pos ⟨rfl, rfl⟩]
    rw [e7]
    exact okn_of (by omega) (by have := g.2.2.2.1; omega)
theorem c_tok {k : Nat} {I : hI} {J : hJ} {R : hR} {f : Nat → Int32} {st : Nat} (g : pv I f st) (hk : 2 ≤ k) : ct k 174 [.ref 110] I J R none (m_tok I) J R := by
  have e6 := pv_nn g
  unfold m_tok
  rw [e6]
  exact c_token rfl g.2.1 g.2.2.1 g.2.2.2.2.1 (by have := g.2.2.2.2.2; omega) g.2.2.2.1 hk
def m_num (I : hI) (lo hi : Int32) : Int32 × hI := if I 110 8 = Int32.ofNat 3 then (if ¬ I 110 9 < lo ∧ ¬ hi < I 110 9 then (1, m_tok (am_u I 110 11 (I 110 9))) else (0, m_wr I (Int32.ofNat 2))) else (0, m_wr I (Int32.ofNat 1))
theorem c_number {k : Nat} {I : hI} {J : hJ} {R : hR} {f : Nat → Int32} {st : Nat} (g : pv I f st) {lo hi : Int32} (hk : 3 ≤ k) : ct k 179 [.ref 110, .int lo, .int hi] I J R (some (.int (m_num I lo hi).1)) ((m_num I lo hi).2) J R := by
  obtain ⟨k, rfl⟩ : ∃ k', k = k' + 1 := ⟨k - 1, by omega⟩
  refine ct_of (q := am_m179) (L := [_, _, _]) rfl rfl rfl rfl rfl rfl ?_
  refine w_aload_n rfl rfl rfl ?_
  refine w_gf (t := .int 0) (v := .int _) rfl rfl rfl sp110 rfl (congrArg Value.int rfl) rfl ?_
  refine w_iconst (x := Int32.ofNat 3) rfl rfl (by decide) ?_
  refine w_ic_eq (t := 14) (f := 8) rfl rfl rfl (fun c5 => ?_) (fun c5 => ?_)
  · refine w_aload_n rfl rfl rfl ?_
    refine w_gf (t := .int 0) (v := .int _) rfl rfl rfl sp110 rfl (congrArg Value.int rfl) rfl ?_
    refine w_iload_n rfl rfl rfl ?_
    refine w_iload_n rfl rfl rfl ?_
    refine w_cs (q := am_m168) (na := 3) (as := [_, _, _]) (st' := [_]) rfl rfl rfl rfl (by decide) rfl rfl (Nat.le_of_ble_eq_true rfl) rfl rfl rfl (c_isIn (by omega)) rfl rfl ?_
    refine w_if_neB (t := 32) (f := 26) rfl rfl rfl (fun c23 => ?_) (fun c23 => ?_)
    · refine w_aload_n rfl rfl rfl ?_
      refine w_aload_n rfl rfl rfl ?_
      refine w_gf (t := .int 0) (v := .int _) rfl rfl rfl sp110 rfl (congrArg Value.int rfl) rfl ?_
      refine w_pf rfl rfl rfl sp110 rfl rfl rfl ?_
      refine w_aload_n rfl rfl rfl ?_
      refine w_cv (q := am_m174) (as := []) (rest := []) (st' := []) rfl rfl rfl rfl rfl rfl sp110 rfl rfl rfl rfl (c_tok (pv_u (by omega) (by omega) g) (by omega)) rfl rfl ?_
      refine w_iconst (x := Int32.ofNat 1) rfl rfl (by decide) ?_
      exact w_bret rfl (by decide) (by unfold m_num; first | (rw [if_neg c5] <;> rfl) | (rw [if_pos c5]; first | (rw [if_pos c23] <;> rfl) | (rw [if_neg c23] <;> rfl))) (by unfold m_num; first | rw [if_neg c5] | (rw [if_pos c5]; first | rw [if_pos c23] | rw [if_neg c23])) rfl rfl
    · refine w_aload_n rfl rfl rfl ?_
      refine w_iconst (x := Int32.ofNat 2) rfl rfl (by decide) ?_
      refine w_cv (q := am_m170) (as := [_]) (rest := []) (st' := [_]) rfl rfl rfl rfl rfl rfl sp110 rfl rfl rfl rfl (c_wrong (by omega)) rfl rfl ?_
      exact w_bret rfl (by decide) (by unfold m_num; first | (rw [if_neg c5] <;> rfl) | (rw [if_pos c5]; first | (rw [if_pos c23] <;> rfl) | (rw [if_neg c23] <;> rfl))) (by unfold m_num; first | rw [if_neg c5] | (rw [if_pos c5]; first | rw [if_pos c23] | rw [if_neg c23])) rfl rfl
  · refine w_aload_n rfl rfl rfl ?_
    refine w_iconst (x := Int32.ofNat 1) rfl rfl (by decide) ?_
    refine w_cv (q := am_m170) (as := [_]) (rest := []) (st' := [_]) rfl rfl rfl rfl rfl rfl sp110 rfl rfl rfl rfl (c_wrong (by omega)) rfl rfl ?_
    exact w_bret rfl (by decide) (by unfold m_num; first | (rw [if_neg c5] <;> rfl) | (rw [if_pos c5]; first | (rw [if_pos c23] <;> rfl) | (rw [if_neg c23] <;> rfl))) (by unfold m_num; first | rw [if_neg c5] | (rw [if_pos c5]; first | rw [if_pos c23] | rw [if_neg c23])) rfl rfl
def m_new (I : hI) (A a n : Nat) : Int32 × hI := if I 110 8 = Int32.ofNat 2 then (if m_fnd (fun i => I A (a + i)) (I 110 9) n 0 < 0 then (1, m_tok (am_u I A (a + n) (I 110 9))) else (0, m_wr I (Int32.ofNat 3))) else (0, m_wr I (Int32.ofNat 1))
def m_the (I : hI) (A a n : Nat) : Int32 × hI := if I 110 8 = Int32.ofNat 2 then (if m_fnd (fun i => I A (a + i)) (I 110 9) n 0 < 0 then (0, m_wr I (Int32.ofNat 4)) else (1, am_u (m_tok I) 110 11 (m_fnd (fun i => I A (a + i)) (I 110 9) n 0))) else (0, m_wr I (Int32.ofNat 1))
theorem c_newName {k : Nat} {I : hI} {J : hJ} {R : hR} {f : Nat → Int32} {st : Nat} (g : pv I f st) {A m a n : Nat} (hA : am_shL[A]? = some (.inl (.int, false, m))) (hA1 : A ≠ 111 ∧ A ≠ 112 ∧ A ≠ 110) (hm : m ≤ 1024) (hn : a + n < m) (hk : 3 ≤ k) : ct k 184 [.ref 110, .ref A, .int (Int32.ofNat a), .int (Int32.ofNat n)] I J R (some (.int (m_new I A a n).1)) ((m_new I A a n).2) J R := by
  obtain ⟨k, rfl⟩ : ∃ k', k = k' + 1 := ⟨k - 1, by omega⟩
  refine ct_of (q := am_m184) (L := [_, _, _, _]) rfl rfl rfl rfl rfl rfl ?_
  refine w_aload_n rfl rfl rfl ?_
  refine w_gf (t := .int 0) (v := .int _) rfl rfl rfl sp110 rfl (congrArg Value.int rfl) rfl ?_
  refine w_iconst (x := Int32.ofNat 2) rfl rfl (by decide) ?_
  refine w_ic_eq (t := 14) (f := 8) rfl rfl rfl (fun c5 => ?_) (fun c5 => ?_)
  · refine w_aload_n rfl rfl rfl ?_
    refine w_iload_n rfl rfl rfl ?_
    refine w_iload_n rfl rfl rfl ?_
    refine w_aload_n rfl rfl rfl ?_
    refine w_gf (t := .int 0) (v := .int _) rfl rfl rfl sp110 rfl (congrArg Value.int rfl) rfl ?_
    refine w_cs (q := am_m183) (na := 4) (as := [_, _, _, _]) (st' := [_]) rfl rfl rfl rfl (by decide) rfl rfl (Nat.le_of_ble_eq_true rfl) rfl rfl rfl (c_find hA hm (by omega) (by omega)) rfl rfl ?_
    refine w_if_lt (t := 33) (f := 27) rfl rfl rfl (fun c24 => ?_) (fun c24 => ?_)
    · refine w_aload_n rfl rfl rfl ?_
      refine w_iload_n rfl rfl rfl ?_
      refine w_iload_n rfl rfl rfl ?_
      refine w_iaddN rfl rfl ?_
      refine w_aload_n rfl rfl rfl ?_
      refine w_gf (t := .int 0) (v := .int _) rfl rfl rfl sp110 rfl (congrArg Value.int rfl) rfl ?_
      refine w_iastore rfl rfl hA rfl ⟨by omega, by omega⟩ ?_
      refine w_aload_n rfl rfl rfl ?_
      refine w_cv (q := am_m174) (as := []) (rest := []) (st' := []) rfl rfl rfl rfl rfl rfl sp110 rfl rfl rfl rfl (c_tok (pv_u (by omega) (by omega) g) (by omega)) rfl rfl ?_
      refine w_iconst (x := Int32.ofNat 1) rfl rfl (by decide) ?_
      exact w_bret rfl (by decide) (by unfold m_new; first | (rw [if_neg c5] <;> rfl) | (rw [if_pos c5]; first | (rw [if_pos c24] <;> rfl) | (rw [if_neg c24] <;> rfl))) (by unfold m_new; first | (rw [if_neg c5]) | (rw [if_pos c5]; first | (rw [if_pos c24]) | (rw [if_neg c24]))) rfl rfl
    · refine w_aload_n rfl rfl rfl ?_
      refine w_iconst (x := Int32.ofNat 3) rfl rfl (by decide) ?_
      refine w_cv (q := am_m170) (as := [_]) (rest := []) (st' := [_]) rfl rfl rfl rfl rfl rfl sp110 rfl rfl rfl rfl (c_wrong (by omega)) rfl rfl ?_
      exact w_bret rfl (by decide) (by unfold m_new; first | (rw [if_neg c5] <;> rfl) | (rw [if_pos c5]; first | (rw [if_pos c24] <;> rfl) | (rw [if_neg c24] <;> rfl))) (by unfold m_new; first | (rw [if_neg c5]) | (rw [if_pos c5]; first | (rw [if_pos c24]) | (rw [if_neg c24]))) rfl rfl
  · refine w_aload_n rfl rfl rfl ?_
    refine w_iconst (x := Int32.ofNat 1) rfl rfl (by decide) ?_
    refine w_cv (q := am_m170) (as := [_]) (rest := []) (st' := [_]) rfl rfl rfl rfl rfl rfl sp110 rfl rfl rfl rfl (c_wrong (by omega)) rfl rfl ?_
    exact w_bret rfl (by decide) (by unfold m_new; first | (rw [if_neg c5] <;> rfl) | (rw [if_pos c5]; first | (rw [if_pos c24] <;> rfl) | (rw [if_neg c24] <;> rfl))) (by unfold m_new; first | (rw [if_neg c5]) | (rw [if_pos c5]; first | (rw [if_pos c24]) | (rw [if_neg c24]))) rfl rfl
theorem c_thereIn {k : Nat} {I : hI} {J : hJ} {R : hR} {f : Nat → Int32} {st : Nat} (g : pv I f st) {A m a n : Nat} (hA : am_shL[A]? = some (.inl (.int, false, m))) (hA1 : A ≠ 111 ∧ A ≠ 112 ∧ A ≠ 110) (hm : m ≤ 1024) (hn : a + n ≤ m) (hk : 3 ≤ k) : ct k 185 [.ref 110, .ref A, .int (Int32.ofNat a), .int (Int32.ofNat n)] I J R (some (.int (m_the I A a n).1)) ((m_the I A a n).2) J R := by
  obtain ⟨k, rfl⟩ : ∃ k', k = k' + 1 := ⟨k - 1, by omega⟩
  refine ct_of (q := am_m185) (L := [_, _, _, _, _]) rfl rfl rfl rfl rfl rfl ?_
  refine w_aload_n rfl rfl rfl ?_
  refine w_gf (t := .int 0) (v := .int _) rfl rfl rfl sp110 rfl (congrArg Value.int rfl) rfl ?_
  refine w_iconst (x := Int32.ofNat 2) rfl rfl (by decide) ?_
  refine w_ic_eq (t := 14) (f := 8) rfl rfl rfl (fun c5 => ?_) (fun c5 => ?_)
  · refine w_aload_n rfl rfl rfl ?_
    refine w_iload_n rfl rfl rfl ?_
    refine w_iload_n rfl rfl rfl ?_
    refine w_aload_n rfl rfl rfl ?_
    refine w_gf (t := .int 0) (v := .int _) rfl rfl rfl sp110 rfl (congrArg Value.int rfl) rfl ?_
    refine w_cs (q := am_m183) (na := 4) (as := [_, _, _, _]) (st' := [_]) rfl rfl rfl rfl (by decide) rfl rfl (Nat.le_of_ble_eq_true rfl) rfl rfl rfl (c_find hA hm (by omega) (by omega)) rfl rfl ?_
    refine w_istore (L' := [_, _, _, _, _]) rfl rfl rfl ?_
    refine w_iload rfl rfl rfl ?_
    refine w_if_ge (t := 37) (f := 31) rfl rfl rfl (fun c28 => ?_) (fun c28 => ?_)
    · refine w_aload_n rfl rfl rfl ?_
      refine w_cv (q := am_m174) (as := []) (rest := []) (st' := []) rfl rfl rfl rfl rfl rfl sp110 rfl rfl rfl rfl (c_tok g (by omega)) rfl rfl ?_
      refine w_aload_n rfl rfl rfl ?_
      refine w_iload rfl rfl rfl ?_
      refine w_pf rfl rfl rfl sp110 rfl rfl rfl ?_
      refine w_iconst (x := Int32.ofNat 1) rfl rfl (by decide) ?_
      exact w_bret rfl (by decide) (by unfold m_the; first | (rw [if_neg c5] <;> rfl) | (rw [if_pos c5]; first | (rw [if_pos c28] <;> rfl) | (rw [if_neg c28] <;> rfl))) (by unfold m_the; first | (rw [if_neg c5]) | (rw [if_pos c5]; first | (rw [if_pos c28]) | (rw [if_neg c28]))) rfl rfl
    · refine w_aload_n rfl rfl rfl ?_
      refine w_iconst (x := Int32.ofNat 4) rfl rfl (by decide) ?_
      refine w_cv (q := am_m170) (as := [_]) (rest := []) (st' := [_]) rfl rfl rfl rfl rfl rfl sp110 rfl rfl rfl rfl (c_wrong (by omega)) rfl rfl ?_
      exact w_bret rfl (by decide) (by unfold m_the; first | (rw [if_neg c5] <;> rfl) | (rw [if_pos c5]; first | (rw [if_pos c28] <;> rfl) | (rw [if_neg c28] <;> rfl))) (by unfold m_the; first | (rw [if_neg c5]) | (rw [if_pos c5]; first | (rw [if_pos c28]) | (rw [if_neg c28]))) rfl rfl
  · refine w_aload_n rfl rfl rfl ?_
    refine w_iconst (x := Int32.ofNat 1) rfl rfl (by decide) ?_
    refine w_cv (q := am_m170) (as := [_]) (rest := []) (st' := [_]) rfl rfl rfl rfl rfl rfl sp110 rfl rfl rfl rfl (c_wrong (by omega)) rfl rfl ?_
    exact w_bret rfl (by decide) (by unfold m_the; first | (rw [if_neg c5] <;> rfl) | (rw [if_pos c5]; first | (rw [if_pos c28] <;> rfl) | (rw [if_neg c28] <;> rfl))) (by unfold m_the; first | (rw [if_neg c5]) | (rw [if_pos c5]; first | (rw [if_pos c28]) | (rw [if_neg c28]))) rfl rfl
